set_option maxRecDepth 20000 in
theorem gw_X8_read_r4 : GoodIn wsL_law wsX8_read_r4 := by
  refine goodIn_sub ?_ (by decide +kernel)
  unfold wsX8_read_r4
  refine List.forall_mem_cons.mpr ⟨wl_in_17 _ (List.Mem.tail _ (List.Mem.tail _ (List.Mem.tail _ (List.Mem.tail _ (List.Mem.tail _ (List.Mem.tail _ (List.Mem.tail _ (List.Mem.tail _ (List.Mem.tail _ (List.Mem.tail _ (List.Mem.tail _ (List.Mem.head _)))))))))))), ?_⟩
  refine List.forall_mem_cons.mpr ⟨wl_in_17 _ (List.Mem.tail _ (List.Mem.tail _ (List.Mem.tail _ (List.Mem.tail _ (List.Mem.tail _ (List.Mem.tail _ (List.Mem.tail _ (List.Mem.tail _ (List.Mem.tail _ (List.Mem.tail _ (List.Mem.tail _ (List.Mem.tail _ (List.Mem.head _))))))))))))), ?_⟩
  refine List.forall_mem_cons.mpr ⟨wl_in_17 _ (List.Mem.tail _ (List.Mem.tail _ (List.Mem.tail _ (List.Mem.tail _ (List.Mem.tail _ (List.Mem.tail _ (List.Mem.tail _ (List.Mem.tail _ (List.Mem.tail _ (List.Mem.tail _ (List.Mem.tail _ (List.Mem.tail _ (List.Mem.tail _ (List.Mem.head _)))))))))))))), ?_⟩
  refine List.forall_mem_cons.mpr ⟨wl_in_9 _ (List.Mem.head _), ?_⟩
  refine List.forall_mem_cons.mpr ⟨wl_in_11 _ (List.Mem.tail _ (List.Mem.tail _ (List.Mem.tail _ (List.Mem.tail _ (List.Mem.tail _ (List.Mem.tail _ (List.Mem.tail _ (List.Mem.tail _ (List.Mem.tail _ (List.Mem.head _)))))))))), ?_⟩
  refine List.forall_mem_cons.mpr ⟨wl_in_11 _ (List.Mem.tail _ (List.Mem.head _)), ?_⟩
  refine List.forall_mem_cons.mpr ⟨wl_in_11 _ (List.Mem.tail _ (List.Mem.tail _ (List.Mem.head _))), ?_⟩
  refine List.forall_mem_cons.mpr ⟨wl_in_11 _ (List.Mem.tail _ (List.Mem.tail _ (List.Mem.tail _ (List.Mem.head _)))), ?_⟩
  refine List.forall_mem_cons.mpr ⟨wl_in_11 _ (List.Mem.tail _ (List.Mem.tail _ (List.Mem.tail _ (List.Mem.tail _ (List.Mem.head _))))), ?_⟩
  refine List.forall_mem_cons.mpr ⟨wl_in_8 _ (List.Mem.tail _ (List.Mem.tail _ (List.Mem.tail _ (List.Mem.tail _ (List.Mem.tail _ (List.Mem.tail _ (List.Mem.tail _ (List.Mem.tail _ (List.Mem.tail _ (List.Mem.tail _ (List.Mem.tail _ (List.Mem.tail _ (List.Mem.tail _ (List.Mem.tail _ (List.Mem.tail _ (List.Mem.tail _ (List.Mem.tail _ (List.Mem.tail _ (List.Mem.tail _ (List.Mem.tail _ (List.Mem.tail _ (List.Mem.tail _ (List.Mem.head _))))))))))))))))))))))), ?_⟩
  refine List.forall_mem_cons.mpr ⟨wl_in_10 _ (List.Mem.tail _ (List.Mem.tail _ (List.Mem.tail _ (List.Mem.tail _ (List.Mem.tail _ (List.Mem.tail _ (List.Mem.tail _ (List.Mem.tail _ (List.Mem.head _))))))))), ?_⟩
  refine List.forall_mem_cons.mpr ⟨wl_in_10 _ (List.Mem.tail _ (List.Mem.tail _ (List.Mem.tail _ (List.Mem.tail _ (List.Mem.tail _ (List.Mem.tail _ (List.Mem.tail _ (List.Mem.tail _ (List.Mem.tail _ (List.Mem.head _)))))))))), ?_⟩
  refine List.forall_mem_cons.mpr ⟨wl_in_10 _ (List.Mem.tail _ (List.Mem.tail _ (List.Mem.tail _ (List.Mem.tail _ (List.Mem.tail _ (List.Mem.tail _ (List.Mem.tail _ (List.Mem.tail _ (List.Mem.tail _ (List.Mem.tail _ (List.Mem.head _))))))))))), ?_⟩
  refine List.forall_mem_cons.mpr ⟨wl_in_10 _ (List.Mem.tail _ (List.Mem.tail _ (List.Mem.tail _ (List.Mem.tail _ (List.Mem.tail _ (List.Mem.tail _ (List.Mem.tail _ (List.Mem.tail _ (List.Mem.tail _ (List.Mem.tail _ (List.Mem.tail _ (List.Mem.head _)))))))))))), ?_⟩
  refine List.forall_mem_cons.mpr ⟨wl_in_15 _ (List.Mem.tail _ (List.Mem.tail _ (List.Mem.tail _ (List.Mem.tail _ (List.Mem.tail _ (List.Mem.tail _ (List.Mem.tail _ (List.Mem.tail _ (List.Mem.tail _ (List.Mem.tail _ (List.Mem.tail _ (List.Mem.tail _ (List.Mem.tail _ (List.Mem.tail _ (List.Mem.tail _ (List.Mem.tail _ (List.Mem.tail _ (List.Mem.tail _ (List.Mem.tail _ (List.Mem.tail _ (List.Mem.tail _ (List.Mem.tail _ (List.Mem.tail _ (List.Mem.head _)))))))))))))))))))))))), ?_⟩
  refine List.forall_mem_cons.mpr ⟨wl_in_16 _ (List.Mem.head _), ?_⟩
  refine List.forall_mem_cons.mpr ⟨wl_in_16 _ (List.Mem.tail _ (List.Mem.head _)), ?_⟩
  refine List.forall_mem_cons.mpr ⟨wl_in_16 _ (List.Mem.tail _ (List.Mem.tail _ (List.Mem.head _))), ?_⟩
  refine List.forall_mem_cons.mpr ⟨wl_in_13 _ (List.Mem.tail _ (List.Mem.tail _ (List.Mem.tail _ (List.Mem.tail _ (List.Mem.tail _ (List.Mem.tail _ (List.Mem.tail _ (List.Mem.tail _ (List.Mem.tail _ (List.Mem.tail _ (List.Mem.tail _ (List.Mem.tail _ (List.Mem.tail _ (List.Mem.tail _ (List.Mem.tail _ (List.Mem.tail _ (List.Mem.tail _ (List.Mem.tail _ (List.Mem.tail _ (List.Mem.tail _ (List.Mem.tail _ (List.Mem.tail _ (List.Mem.tail _ (List.Mem.head _)))))))))))))))))))))))), ?_⟩
  refine List.forall_mem_cons.mpr ⟨wl_in_14 _ (List.Mem.head _), ?_⟩
  refine List.forall_mem_cons.mpr ⟨wl_in_14 _ (List.Mem.tail _ (List.Mem.head _)), ?_⟩
  refine List.forall_mem_cons.mpr ⟨wl_in_14 _ (List.Mem.tail _ (List.Mem.tail _ (List.Mem.head _))), ?_⟩
  refine List.forall_mem_cons.mpr ⟨wl_in_45 _ (List.Mem.tail _ (List.Mem.tail _ (List.Mem.tail _ (List.Mem.tail _ (List.Mem.tail _ (List.Mem.tail _ (List.Mem.tail _ (List.Mem.tail _ (List.Mem.tail _ (List.Mem.tail _ (List.Mem.tail _ (List.Mem.tail _ (List.Mem.tail _ (List.Mem.tail _ (List.Mem.tail _ (List.Mem.tail _ (List.Mem.tail _ (List.Mem.tail _ (List.Mem.head _))))))))))))))))))), ?_⟩
  refine List.forall_mem_cons.mpr ⟨wl_in_45 _ (List.Mem.tail _ (List.Mem.tail _ (List.Mem.tail _ (List.Mem.tail _ (List.Mem.tail _ (List.Mem.tail _ (List.Mem.tail _ (List.Mem.tail _ (List.Mem.tail _ (List.Mem.tail _ (List.Mem.tail _ (List.Mem.tail _ (List.Mem.tail _ (List.Mem.tail _ (List.Mem.tail _ (List.Mem.tail _ (List.Mem.tail _ (List.Mem.tail _ (List.Mem.tail _ (List.Mem.head _)))))))))))))))))))), ?_⟩
  exact fun _ h => absurd h List.not_mem_nil
