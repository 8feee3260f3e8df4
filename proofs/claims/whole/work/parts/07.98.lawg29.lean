set_option maxRecDepth 20000 in
theorem gw_X8_read_h : GoodIn wsL_law [Cond.code yX8_read cX8_read 3 (some .int)] :=
  goodIn_sub (List.forall_mem_cons.mpr ⟨wl_in_43 _ (List.Mem.tail _ (List.Mem.tail _ (List.Mem.tail _ (List.Mem.tail _ (List.Mem.tail _ (List.Mem.tail _ (List.Mem.tail _ (List.Mem.tail _ (List.Mem.tail _ (List.Mem.tail _ (List.Mem.tail _ (List.Mem.tail _ (List.Mem.tail _ (List.Mem.tail _ (List.Mem.tail _ (List.Mem.tail _ (List.Mem.tail _ (List.Mem.tail _ (List.Mem.tail _ (List.Mem.tail _ (List.Mem.head _))))))))))))))))))))), fun _ h => absurd h List.not_mem_nil⟩) (by decide +kernel)
set_option maxRecDepth 20000 in
theorem gw_X80 : GoodIn wsL_law wsX80 := goodIn_sub inlX8 (by decide +kernel)
theorem gw_X8_read_a : GoodIn wsL_law ((wsX8_read_r1 ++ (wsX8_read_r2 ++ (wsX8_read_r3 ++ (wsX8_read_r4 ++ wsX8_read_r5)))) ++ wsX80) :=
  goodIn_app (goodIn_app gw_X8_read_r1 (goodIn_app gw_X8_read_r2 (goodIn_app gw_X8_read_r3 (goodIn_app gw_X8_read_r4 gw_X8_read_r5)))) gw_X80
theorem ggL_law_X8_read : GoodIn wsL_law wsX8_read := by
  intro w hw
  unfold wsX8_read at hw
  exact (List.mem_cons.mp hw).elim (fun e => gw_X8_read_h w (List.mem_cons.mpr (Or.inl e))) (fun h => gw_X8_read_a w h)
