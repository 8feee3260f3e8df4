theorem inlX0 : ∀ w ∈ wsX00, w ∈ wsL_law := fun _ h => List.mem_append_left _ (List.mem_append_left _ (List.mem_append_left _ (List.mem_append_left _ (List.mem_append_left _ (List.mem_append_right _ h)))))
theorem inX0 : ∀ w ∈ wsX00, w ∈ lw_tbl := fun w h => wsL_law_in w (inlX0 w h)
theorem inlX1 : ∀ w ∈ wsX10, w ∈ wsL_law := fun _ h => List.mem_append_left _ (List.mem_append_left _ (List.mem_append_left _ (List.mem_append_left _ (List.mem_append_right _ h))))
theorem inX1 : ∀ w ∈ wsX10, w ∈ lw_tbl := fun w h => wsL_law_in w (inlX1 w h)
theorem inlX2 : ∀ w ∈ wsX20, w ∈ wsL_law := fun _ h => List.mem_append_left _ (List.mem_append_left _ (List.mem_append_right _ h))
theorem inX2 : ∀ w ∈ wsX20, w ∈ lw_tbl := fun w h => wsL_law_in w (inlX2 w h)
theorem inlX4 : ∀ w ∈ wsX40, w ∈ wsL_law := fun _ h => List.mem_append_left _ (List.mem_append_right _ h)
theorem inX4 : ∀ w ∈ wsX40, w ∈ lw_tbl := fun w h => wsL_law_in w (inlX4 w h)
theorem inlX5 : ∀ w ∈ wsX50, w ∈ wsL_law := fun _ h => List.mem_append_left _ (List.mem_append_left _ (List.mem_append_left _ (List.mem_append_right _ h)))
theorem inX5 : ∀ w ∈ wsX50, w ∈ lw_tbl := fun w h => wsL_law_in w (inlX5 w h)
theorem inlX6 : ∀ w ∈ wsX60, w ∈ wsL_law := fun _ h => List.mem_append_left _ (List.mem_append_left _ (List.mem_append_left _ (List.mem_append_left _ (List.mem_append_left _ (List.mem_append_left _ (List.mem_append_right _ h))))))
theorem inX6 : ∀ w ∈ wsX60, w ∈ lw_tbl := fun w h => wsL_law_in w (inlX6 w h)
theorem inlX7 : ∀ w ∈ wsX70, w ∈ wsL_law := fun _ h => List.mem_append_left _ (List.mem_append_left _ (List.mem_append_left _ (List.mem_append_left _ (List.mem_append_left _ (List.mem_append_left _ (List.mem_append_left _ (List.mem_append_left _ (List.mem_append_right _ h))))))))
theorem inX7 : ∀ w ∈ wsX70, w ∈ lw_tbl := fun w h => wsL_law_in w (inlX7 w h)
theorem inlX8 : ∀ w ∈ wsX80, w ∈ wsL_law := fun _ h => List.mem_append_left _ (List.mem_append_left _ (List.mem_append_left _ (List.mem_append_left _ (List.mem_append_left _ (List.mem_append_left _ (List.mem_append_left _ (List.mem_append_right _ h)))))))
theorem inX8 : ∀ w ∈ wsX80, w ∈ lw_tbl := fun w h => wsL_law_in w (inlX8 w h)
set_option maxRecDepth 20000 in
theorem ggL_law_L_cell : GoodIn wsL_law wsL_cell := by
  refine goodIn_sub ?_ gd_L_cell
  unfold wsL_cell
  refine wm_c ⟨(wk_L_law_L_law_r1 _ (wm_8 (wm_2 wm_h))), ?_⟩
  exact wm_n
set_option maxRecDepth 20000 in
theorem gL_law_L_cell : GoodIn wsL_law (va_wsS RL 9 yL_cell wsL_cell) := goodIn_app (goodIn_of _ (by decide +kernel)) ggL_law_L_cell
set_option maxRecDepth 20000 in
theorem ggL_law_X7_init : GoodIn wsL_law wsX7_init := by
  refine goodIn_sub ?_ gd_X7_init
  unfold wsX7_init
  refine wm_c ⟨(wk_L_law_L_law_r1 _ (wm_8 (wm_4 (wm_1 wm_h)))), ?_⟩
  refine wm_a ⟨?_, ?_⟩
  · refine wm_a ⟨?_, ?_⟩
    · refine wm_a ⟨?_, ?_⟩
      · refine wm_a ⟨?_, ?_⟩
        · refine wm_a ⟨?_, ?_⟩
          · refine wm_a ⟨?_, ?_⟩
            · refine wm_a ⟨?_, ?_⟩
              · refine wm_a ⟨?_, ?_⟩
                · unfold wsX7_init_r1
                  refine wm_c ⟨(wk_L_law_L_law_r1 _ (wm_8 (wm_4 (wm_2 wm_h)))), ?_⟩
                  refine wm_c ⟨(wk_L_law_L_law_r1 _ (wm_8 (wm_4 (wm_2 (wm_1 wm_h))))), ?_⟩
                  refine wm_c ⟨(wk_L_law_L_law_r1 _ (wm_16 wm_h)), ?_⟩
                  refine wm_c ⟨(wk_L_law_L_law_r1 _ (wm_16 (wm_1 wm_h))), ?_⟩
                  refine wm_c ⟨(wk_L_law_L_law_r1 _ (wm_16 (wm_2 wm_h))), ?_⟩
                  refine wm_c ⟨(wk_L_law_L_law_r1 _ (wm_16 (wm_2 (wm_1 wm_h)))), ?_⟩
                  refine wm_c ⟨(wk_L_law_L_law_r1 _ (wm_16 (wm_4 wm_h))), ?_⟩
                  refine wm_c ⟨(wk_L_law_L_law_r1 _ (wm_16 (wm_4 (wm_1 wm_h)))), ?_⟩
                  refine wm_c ⟨(wk_L_law_L_law_r1 _ (wm_16 (wm_4 (wm_2 wm_h)))), ?_⟩
                  refine wm_c ⟨(wk_L_law_L_law_r1 _ (wm_16 (wm_4 (wm_2 (wm_1 wm_h))))), ?_⟩
                  refine wm_c ⟨(wk_L_law_L_law_r2 _ wm_h), ?_⟩
                  refine wm_c ⟨(wk_L_law_L_law_r2 _ (wm_1 wm_h)), ?_⟩
                  refine wm_c ⟨(wk_L_law_L_law_r2 _ (wm_2 wm_h)), ?_⟩
                  refine wm_c ⟨(wk_L_law_L_law_r2 _ (wm_2 (wm_1 wm_h))), ?_⟩
                  refine wm_c ⟨(wk_L_law_L_law_r2 _ (wm_4 wm_h)), ?_⟩
                  refine wm_c ⟨(wk_L_law_L_law_r2 _ (wm_4 (wm_1 wm_h))), ?_⟩
                  refine wm_c ⟨(wk_L_law_L_law_r2 _ (wm_4 (wm_2 wm_h))), ?_⟩
                  refine wm_c ⟨(wk_L_law_L_law_r2 _ (wm_4 (wm_2 (wm_1 wm_h)))), ?_⟩
                  refine wm_c ⟨(wk_L_law_L_law_r2 _ (wm_8 wm_h)), ?_⟩
                  refine wm_c ⟨(wk_L_law_L_law_r2 _ (wm_8 (wm_1 wm_h))), ?_⟩
                  refine wm_c ⟨(wk_L_law_L_law_r2 _ (wm_8 (wm_2 wm_h))), ?_⟩
                  refine wm_c ⟨(wk_L_law_L_law_r2 _ (wm_8 (wm_2 (wm_1 wm_h)))), ?_⟩
                  refine wm_c ⟨(wk_L_law_L_law_r2 _ (wm_8 (wm_4 wm_h))), ?_⟩
                  refine wm_c ⟨(wk_L_law_L_law_r2 _ (wm_8 (wm_4 (wm_1 wm_h)))), ?_⟩
                  exact wm_n
                · refine wm_a ⟨?_, ?_⟩
                  · unfold wsX7_init_r2
                    refine wm_c ⟨(wk_L_law_L_law_r2 _ (wm_8 (wm_4 (wm_2 wm_h)))), ?_⟩
                    refine wm_c ⟨(wk_L_law_L_law_r2 _ (wm_8 (wm_4 (wm_2 (wm_1 wm_h))))), ?_⟩
                    refine wm_c ⟨(wk_L_law_L_law_r2 _ (wm_16 wm_h)), ?_⟩
                    refine wm_c ⟨(wk_L_law_L_law_r2 _ (wm_16 (wm_1 wm_h))), ?_⟩
                    refine wm_c ⟨(wk_L_law_L_law_r2 _ (wm_16 (wm_2 wm_h))), ?_⟩
                    refine wm_c ⟨(wk_L_law_L_law_r2 _ (wm_16 (wm_2 (wm_1 wm_h)))), ?_⟩
                    refine wm_c ⟨(wk_L_law_L_law_r2 _ (wm_16 (wm_4 wm_h))), ?_⟩
                    refine wm_c ⟨(wk_L_law_L_law_r2 _ (wm_16 (wm_4 (wm_1 wm_h)))), ?_⟩
                    refine wm_c ⟨(wk_L_law_L_law_r2 _ (wm_16 (wm_4 (wm_2 wm_h)))), ?_⟩
                    refine wm_c ⟨(wk_L_law_L_law_r2 _ (wm_16 (wm_4 (wm_2 (wm_1 wm_h))))), ?_⟩
                    refine wm_c ⟨(wk_L_law_L_law_r3 _ wm_h), ?_⟩
                    refine wm_c ⟨(wk_L_law_L_law_r3 _ (wm_1 wm_h)), ?_⟩
                    refine wm_c ⟨(wk_L_law_L_law_r3 _ (wm_2 wm_h)), ?_⟩
                    refine wm_c ⟨(wk_L_law_L_law_r3 _ (wm_2 (wm_1 wm_h))), ?_⟩
                    refine wm_c ⟨(wk_L_law_L_law_r3 _ (wm_4 wm_h)), ?_⟩
                    refine wm_c ⟨(wk_L_law_L_law_r3 _ (wm_4 (wm_1 wm_h))), ?_⟩
                    refine wm_c ⟨(wk_L_law_L_law_r3 _ (wm_4 (wm_2 wm_h))), ?_⟩
                    refine wm_c ⟨(wk_L_law_L_law_r3 _ (wm_4 (wm_2 (wm_1 wm_h)))), ?_⟩
                    refine wm_c ⟨(wk_L_law_L_law_r3 _ (wm_8 wm_h)), ?_⟩
                    refine wm_c ⟨(wk_L_law_L_law_r3 _ (wm_8 (wm_1 wm_h))), ?_⟩
                    refine wm_c ⟨(wk_L_law_L_law_r3 _ (wm_8 (wm_2 wm_h))), ?_⟩
                    refine wm_c ⟨(wk_L_law_L_law_r3 _ (wm_8 (wm_2 (wm_1 wm_h)))), ?_⟩
                    refine wm_c ⟨(wk_L_law_L_law_r3 _ (wm_8 (wm_4 wm_h))), ?_⟩
                    refine wm_c ⟨(wk_L_law_L_law_r3 _ (wm_8 (wm_4 (wm_1 wm_h)))), ?_⟩
                    exact wm_n
                  · refine wm_a ⟨?_, ?_⟩
                    · unfold wsX7_init_r3
                      refine wm_c ⟨(wk_L_law_L_law_r3 _ (wm_8 (wm_4 (wm_2 wm_h)))), ?_⟩
                      refine wm_c ⟨(wk_L_law_L_law_r3 _ (wm_8 (wm_4 (wm_2 (wm_1 wm_h))))), ?_⟩
                      refine wm_c ⟨(wk_L_law_L_law_r3 _ (wm_16 wm_h)), ?_⟩
                      refine wm_c ⟨(wk_L_law_L_law_r3 _ (wm_16 (wm_1 wm_h))), ?_⟩
                      refine wm_c ⟨(wk_L_law_L_law_r3 _ (wm_16 (wm_2 wm_h))), ?_⟩
                      refine wm_c ⟨(wk_L_law_L_law_r3 _ (wm_16 (wm_2 (wm_1 wm_h)))), ?_⟩
                      refine wm_c ⟨(wk_L_law_L_law_r3 _ (wm_16 (wm_4 wm_h))), ?_⟩
                      refine wm_c ⟨(wk_L_law_L_law_r3 _ (wm_16 (wm_4 (wm_1 wm_h)))), ?_⟩
                      refine wm_c ⟨(wk_L_law_L_law_r3 _ (wm_16 (wm_4 (wm_2 wm_h)))), ?_⟩
                      refine wm_c ⟨(wk_L_law_L_law_r3 _ (wm_16 (wm_4 (wm_2 (wm_1 wm_h))))), ?_⟩
                      refine wm_c ⟨(wk_L_law_L_law_r4 _ wm_h), ?_⟩
                      refine wm_c ⟨(wk_L_law_L_law_r4 _ (wm_1 wm_h)), ?_⟩
                      refine wm_c ⟨(wk_L_law_L_law_r4 _ (wm_2 wm_h)), ?_⟩
                      refine wm_c ⟨(wk_L_law_L_law_r4 _ (wm_2 (wm_1 wm_h))), ?_⟩
                      refine wm_c ⟨(wk_L_law_L_law_r4 _ (wm_4 wm_h)), ?_⟩
                      refine wm_c ⟨(wk_L_law_L_law_r4 _ (wm_4 (wm_1 wm_h))), ?_⟩
                      refine wm_c ⟨(wk_L_law_L_law_r4 _ (wm_4 (wm_2 wm_h))), ?_⟩
                      refine wm_c ⟨(wk_L_law_L_law_r4 _ (wm_4 (wm_2 (wm_1 wm_h)))), ?_⟩
                      refine wm_c ⟨(wk_L_law_L_law_r4 _ (wm_8 wm_h)), ?_⟩
                      refine wm_c ⟨(wk_L_law_L_law_r4 _ (wm_8 (wm_1 wm_h))), ?_⟩
                      refine wm_c ⟨(wk_L_law_L_law_r4 _ (wm_8 (wm_2 wm_h))), ?_⟩
                      refine wm_c ⟨(wk_L_law_L_law_r4 _ (wm_8 (wm_2 (wm_1 wm_h)))), ?_⟩
                      refine wm_c ⟨(wk_L_law_L_law_r4 _ (wm_8 (wm_4 wm_h))), ?_⟩
                      refine wm_c ⟨(wk_L_law_L_law_r4 _ (wm_8 (wm_4 (wm_1 wm_h)))), ?_⟩
                      exact wm_n
                    · refine wm_a ⟨?_, ?_⟩
                      · unfold wsX7_init_r4
                        refine wm_c ⟨(wk_L_law_L_law_r4 _ (wm_8 (wm_4 (wm_2 wm_h)))), ?_⟩
                        refine wm_c ⟨(wk_L_law_L_law_r4 _ (wm_8 (wm_4 (wm_2 (wm_1 wm_h))))), ?_⟩
                        refine wm_c ⟨(wk_L_law_L_law_r4 _ (wm_16 wm_h)), ?_⟩
                        refine wm_c ⟨(wk_L_law_L_law_r4 _ (wm_16 (wm_1 wm_h))), ?_⟩
                        refine wm_c ⟨(wk_L_law_L_law_r4 _ (wm_16 (wm_2 wm_h))), ?_⟩
                        refine wm_c ⟨(wk_L_law_L_law_r4 _ (wm_16 (wm_2 (wm_1 wm_h)))), ?_⟩
                        refine wm_c ⟨(wk_L_law_L_law_r4 _ (wm_16 (wm_4 wm_h))), ?_⟩
                        refine wm_c ⟨(wk_L_law_L_law_r4 _ (wm_16 (wm_4 (wm_1 wm_h)))), ?_⟩
                        refine wm_c ⟨(wk_L_law_L_law_r4 _ (wm_16 (wm_4 (wm_2 wm_h)))), ?_⟩
                        refine wm_c ⟨(wk_L_law_L_law_r4 _ (wm_16 (wm_4 (wm_2 (wm_1 wm_h))))), ?_⟩
                        refine wm_c ⟨(wk_L_law_L_law_r5 _ wm_h), ?_⟩
                        refine wm_c ⟨(wk_L_law_L_law_r5 _ (wm_1 wm_h)), ?_⟩
                        refine wm_c ⟨(wk_L_law_L_law_r5 _ (wm_2 wm_h)), ?_⟩
                        refine wm_c ⟨(wk_L_law_L_law_r5 _ (wm_2 (wm_1 wm_h))), ?_⟩
                        refine wm_c ⟨(wk_L_law_L_law_r5 _ (wm_4 wm_h)), ?_⟩
                        refine wm_c ⟨(wk_L_law_L_law_r5 _ (wm_4 (wm_1 wm_h))), ?_⟩
                        refine wm_c ⟨(wk_L_law_L_law_r5 _ (wm_4 (wm_2 wm_h))), ?_⟩
                        refine wm_c ⟨(wk_L_law_L_law_r5 _ (wm_4 (wm_2 (wm_1 wm_h)))), ?_⟩
                        refine wm_c ⟨(wk_L_law_L_law_r5 _ (wm_8 wm_h)), ?_⟩
                        refine wm_c ⟨(wk_L_law_L_law_r5 _ (wm_8 (wm_1 wm_h))), ?_⟩
                        refine wm_c ⟨(wk_L_law_L_law_r5 _ (wm_8 (wm_2 wm_h))), ?_⟩
                        refine wm_c ⟨(wk_L_law_L_law_r5 _ (wm_8 (wm_2 (wm_1 wm_h)))), ?_⟩
                        refine wm_c ⟨(wk_L_law_L_law_r5 _ (wm_8 (wm_4 wm_h))), ?_⟩
                        refine wm_c ⟨(wk_L_law_L_law_r5 _ (wm_8 (wm_4 (wm_1 wm_h)))), ?_⟩
                        exact wm_n
                      · refine wm_a ⟨?_, ?_⟩
                        · unfold wsX7_init_r5
                          refine wm_c ⟨(wk_L_law_L_law_r5 _ (wm_8 (wm_4 (wm_2 wm_h)))), ?_⟩
                          refine wm_c ⟨(wk_L_law_L_law_r5 _ (wm_8 (wm_4 (wm_2 (wm_1 wm_h))))), ?_⟩
                          refine wm_c ⟨(wk_L_law_L_law_r5 _ (wm_16 wm_h)), ?_⟩
                          refine wm_c ⟨(wk_L_law_L_law_r5 _ (wm_16 (wm_1 wm_h))), ?_⟩
                          refine wm_c ⟨(wk_L_law_L_law_r5 _ (wm_16 (wm_2 wm_h))), ?_⟩
                          refine wm_c ⟨(wk_L_law_L_law_r5 _ (wm_16 (wm_2 (wm_1 wm_h)))), ?_⟩
                          refine wm_c ⟨(wk_L_law_L_law_r5 _ (wm_16 (wm_4 wm_h))), ?_⟩
                          refine wm_c ⟨(wk_L_law_L_law_r5 _ (wm_16 (wm_4 (wm_1 wm_h)))), ?_⟩
                          refine wm_c ⟨(wk_L_law_L_law_r5 _ (wm_16 (wm_4 (wm_2 wm_h)))), ?_⟩
                          refine wm_c ⟨(wk_L_law_L_law_r5 _ (wm_16 (wm_4 (wm_2 (wm_1 wm_h))))), ?_⟩
                          refine wm_c ⟨(wk_L_law_L_law_r6 _ wm_h), ?_⟩
                          refine wm_c ⟨(wk_L_law_L_law_r6 _ (wm_1 wm_h)), ?_⟩
                          refine wm_c ⟨(wk_L_law_L_law_r6 _ (wm_2 wm_h)), ?_⟩
                          refine wm_c ⟨(wk_L_law_L_law_r6 _ (wm_2 (wm_1 wm_h))), ?_⟩
                          refine wm_c ⟨(wk_L_law_L_law_r6 _ (wm_4 wm_h)), ?_⟩
                          refine wm_c ⟨(wk_L_law_L_law_r6 _ (wm_4 (wm_1 wm_h))), ?_⟩
                          refine wm_c ⟨(wk_L_law_L_law_r6 _ (wm_4 (wm_2 wm_h))), ?_⟩
                          refine wm_c ⟨(wk_L_law_L_law_r6 _ (wm_4 (wm_2 (wm_1 wm_h)))), ?_⟩
                          refine wm_c ⟨(wk_L_law_L_law_r6 _ (wm_8 wm_h)), ?_⟩
                          refine wm_c ⟨(wk_L_law_L_law_r6 _ (wm_8 (wm_1 wm_h))), ?_⟩
                          refine wm_c ⟨(wk_L_law_L_law_r6 _ (wm_8 (wm_2 wm_h))), ?_⟩
                          refine wm_c ⟨(wk_L_law_L_law_r6 _ (wm_8 (wm_2 (wm_1 wm_h)))), ?_⟩
                          refine wm_c ⟨(wk_L_law_L_law_r6 _ (wm_8 (wm_4 wm_h))), ?_⟩
                          refine wm_c ⟨(wk_L_law_L_law_r6 _ (wm_8 (wm_4 (wm_1 wm_h)))), ?_⟩
                          exact wm_n
                        · refine wm_a ⟨?_, ?_⟩
                          · unfold wsX7_init_r6
                            refine wm_c ⟨(wk_L_law_L_law_r6 _ (wm_8 (wm_4 (wm_2 wm_h)))), ?_⟩
                            refine wm_c ⟨(wk_L_law_L_law_r6 _ (wm_8 (wm_4 (wm_2 (wm_1 wm_h))))), ?_⟩
                            refine wm_c ⟨(wk_L_law_L_law_r6 _ (wm_16 wm_h)), ?_⟩
                            refine wm_c ⟨(wk_L_law_L_law_r6 _ (wm_16 (wm_1 wm_h))), ?_⟩
                            refine wm_c ⟨(wk_L_law_L_law_r6 _ (wm_16 (wm_2 wm_h))), ?_⟩
                            refine wm_c ⟨(wk_L_law_L_law_r6 _ (wm_16 (wm_2 (wm_1 wm_h)))), ?_⟩
                            refine wm_c ⟨(wk_L_law_L_law_r6 _ (wm_16 (wm_4 wm_h))), ?_⟩
                            refine wm_c ⟨(wk_L_law_L_law_r6 _ (wm_16 (wm_4 (wm_1 wm_h)))), ?_⟩
                            refine wm_c ⟨(wk_L_law_L_law_r6 _ (wm_16 (wm_4 (wm_2 wm_h)))), ?_⟩
                            refine wm_c ⟨(wk_L_law_L_law_r6 _ (wm_16 (wm_4 (wm_2 (wm_1 wm_h))))), ?_⟩
                            refine wm_c ⟨(wk_L_law_L_law_r7 _ wm_h), ?_⟩
                            refine wm_c ⟨(wk_L_law_L_law_r7 _ (wm_1 wm_h)), ?_⟩
                            refine wm_c ⟨(wk_L_law_L_law_r7 _ (wm_2 wm_h)), ?_⟩
                            refine wm_c ⟨(wk_L_law_L_law_r7 _ (wm_2 (wm_1 wm_h))), ?_⟩
                            refine wm_c ⟨(wk_L_law_L_law_r7 _ (wm_4 wm_h)), ?_⟩
                            refine wm_c ⟨(wk_L_law_L_law_r7 _ (wm_4 (wm_1 wm_h))), ?_⟩
                            refine wm_c ⟨(wk_L_law_L_law_r7 _ (wm_4 (wm_2 wm_h))), ?_⟩
                            refine wm_c ⟨(wk_L_law_L_law_r7 _ (wm_4 (wm_2 (wm_1 wm_h)))), ?_⟩
                            refine wm_c ⟨(wk_L_law_L_law_r7 _ (wm_8 wm_h)), ?_⟩
                            refine wm_c ⟨(wk_L_law_L_law_r7 _ (wm_8 (wm_1 wm_h))), ?_⟩
                            refine wm_c ⟨(wk_L_law_L_law_r7 _ (wm_8 (wm_2 wm_h))), ?_⟩
                            refine wm_c ⟨(wk_L_law_L_law_r7 _ (wm_8 (wm_2 (wm_1 wm_h)))), ?_⟩
                            refine wm_c ⟨(wk_L_law_L_law_r7 _ (wm_8 (wm_4 wm_h))), ?_⟩
                            refine wm_c ⟨(wk_L_law_L_law_r7 _ (wm_8 (wm_4 (wm_1 wm_h)))), ?_⟩
                            exact wm_n
                          · refine wm_a ⟨?_, ?_⟩
                            · unfold wsX7_init_r7
                              refine wm_c ⟨(wk_L_law_L_law_r7 _ (wm_8 (wm_4 (wm_2 wm_h)))), ?_⟩
                              refine wm_c ⟨(wk_L_law_L_law_r7 _ (wm_8 (wm_4 (wm_2 (wm_1 wm_h))))), ?_⟩
                              refine wm_c ⟨(wk_L_law_L_law_r7 _ (wm_16 wm_h)), ?_⟩
                              refine wm_c ⟨(wk_L_law_L_law_r7 _ (wm_16 (wm_1 wm_h))), ?_⟩
                              refine wm_c ⟨(wk_L_law_L_law_r7 _ (wm_16 (wm_2 wm_h))), ?_⟩
                              refine wm_c ⟨(wk_L_law_L_law_r7 _ (wm_16 (wm_2 (wm_1 wm_h)))), ?_⟩
                              refine wm_c ⟨(wk_L_law_L_law_r7 _ (wm_16 (wm_4 wm_h))), ?_⟩
                              refine wm_c ⟨(wk_L_law_L_law_r7 _ (wm_16 (wm_4 (wm_1 wm_h)))), ?_⟩
                              refine wm_c ⟨(wk_L_law_L_law_r7 _ (wm_16 (wm_4 (wm_2 wm_h)))), ?_⟩
                              refine wm_c ⟨(wk_L_law_L_law_r7 _ (wm_16 (wm_4 (wm_2 (wm_1 wm_h))))), ?_⟩
                              refine wm_c ⟨(wk_L_law_L_law_r8 _ wm_h), ?_⟩
                              refine wm_c ⟨(wk_L_law_L_law_r8 _ (wm_1 wm_h)), ?_⟩
                              refine wm_c ⟨(wk_L_law_L_law_r8 _ (wm_2 wm_h)), ?_⟩
                              refine wm_c ⟨(wk_L_law_L_law_r8 _ (wm_2 (wm_1 wm_h))), ?_⟩
                              refine wm_c ⟨(wk_L_law_L_law_r8 _ (wm_4 wm_h)), ?_⟩
                              refine wm_c ⟨(wk_L_law_L_law_r8 _ (wm_4 (wm_1 wm_h))), ?_⟩
                              refine wm_c ⟨(wk_L_law_L_law_r8 _ (wm_4 (wm_2 wm_h))), ?_⟩
                              refine wm_c ⟨(wk_L_law_L_law_r8 _ (wm_4 (wm_2 (wm_1 wm_h)))), ?_⟩
                              refine wm_c ⟨(wk_L_law_L_law_r8 _ (wm_8 wm_h)), ?_⟩
                              refine wm_c ⟨(wk_L_law_L_law_r8 _ (wm_8 (wm_1 wm_h))), ?_⟩
                              refine wm_c ⟨(wk_L_law_L_law_r8 _ (wm_8 (wm_2 wm_h))), ?_⟩
                              refine wm_c ⟨(wk_L_law_L_law_r8 _ (wm_8 (wm_2 (wm_1 wm_h)))), ?_⟩
                              refine wm_c ⟨(wk_L_law_L_law_r8 _ (wm_8 (wm_4 wm_h))), ?_⟩
                              refine wm_c ⟨(wk_L_law_L_law_r8 _ (wm_8 (wm_4 (wm_1 wm_h)))), ?_⟩
                              exact wm_n
                            · unfold wsX7_init_r8
                              refine wm_c ⟨(wk_L_law_L_law_r8 _ (wm_8 (wm_4 (wm_2 wm_h)))), ?_⟩
                              refine wm_c ⟨(wk_L_law_L_law_r8 _ (wm_8 (wm_4 (wm_2 (wm_1 wm_h))))), ?_⟩
                              refine wm_c ⟨(wk_L_law_L_law_r8 _ (wm_16 wm_h)), ?_⟩
                              refine wm_c ⟨(wk_L_law_L_law_r8 _ (wm_16 (wm_1 wm_h))), ?_⟩
                              exact wm_n
              · exact wk_L_law_X60
            · exact wk_L_law_X70
          · exact wk_L_law_X00
        · exact wk_L_law_X10
      · exact wk_L_law_X50
    · exact wk_L_law_X20
  · exact wk_L_law_X40
set_option maxRecDepth 20000 in
theorem gL_law_X7_init : GoodIn wsL_law (wsX7_init) := ggL_law_X7_init
set_option maxRecDepth 20000 in
theorem ggL_law_X8_init : GoodIn wsL_law wsX8_init := by
  refine goodIn_sub ?_ gd_X8_init
  unfold wsX8_init
  refine wm_c ⟨(wk_L_law_L_law_r8 _ (wm_16 (wm_4 wm_h))), ?_⟩
  refine wm_a ⟨?_, ?_⟩
  · refine wm_a ⟨?_, ?_⟩
    · unfold wsX8_init_r1
      refine wm_c ⟨(wk_L_law_L_law_r8 _ (wm_16 (wm_4 (wm_1 wm_h)))), ?_⟩
      refine wm_c ⟨(wk_L_law_L_law_r1 _ (wm_8 (wm_4 (wm_2 (wm_1 wm_h))))), ?_⟩
      refine wm_c ⟨(wk_L_law_L_law_r1 _ (wm_16 wm_h)), ?_⟩
      refine wm_c ⟨(wk_L_law_L_law_r1 _ (wm_16 (wm_4 (wm_2 wm_h)))), ?_⟩
      refine wm_c ⟨(wk_L_law_L_law_r8 _ (wm_16 (wm_4 (wm_2 wm_h)))), ?_⟩
      refine wm_c ⟨(wk_L_law_L_law_r8 _ (wm_16 (wm_4 (wm_2 (wm_1 wm_h))))), ?_⟩
      refine wm_c ⟨(wk_L_law_L_law_r9 _ wm_h), ?_⟩
      refine wm_c ⟨(wk_L_law_L_law_r9 _ (wm_1 wm_h)), ?_⟩
      refine wm_c ⟨(wk_L_law_L_law_r9 _ (wm_2 wm_h)), ?_⟩
      refine wm_c ⟨(wk_L_law_L_law_r9 _ (wm_2 (wm_1 wm_h))), ?_⟩
      refine wm_c ⟨(wk_L_law_L_law_r9 _ (wm_4 wm_h)), ?_⟩
      refine wm_c ⟨(wk_L_law_L_law_r9 _ (wm_4 (wm_1 wm_h))), ?_⟩
      refine wm_c ⟨(wk_L_law_L_law_r9 _ (wm_4 (wm_2 wm_h))), ?_⟩
      refine wm_c ⟨(wk_L_law_L_law_r9 _ (wm_4 (wm_2 (wm_1 wm_h)))), ?_⟩
      refine wm_c ⟨(wk_L_law_L_law_r9 _ (wm_8 wm_h)), ?_⟩
      refine wm_c ⟨(wk_L_law_L_law_r9 _ (wm_8 (wm_1 wm_h))), ?_⟩
      refine wm_c ⟨(wk_L_law_L_law_r9 _ (wm_8 (wm_2 wm_h))), ?_⟩
      refine wm_c ⟨(wk_L_law_L_law_r9 _ (wm_8 (wm_2 (wm_1 wm_h)))), ?_⟩
      refine wm_c ⟨(wk_L_law_L_law_r9 _ (wm_8 (wm_4 wm_h))), ?_⟩
      refine wm_c ⟨(wk_L_law_L_law_r9 _ (wm_8 (wm_4 (wm_1 wm_h)))), ?_⟩
      refine wm_c ⟨(wk_L_law_L_law_r9 _ (wm_8 (wm_4 (wm_2 wm_h)))), ?_⟩
      refine wm_c ⟨(wk_L_law_L_law_r9 _ (wm_8 (wm_4 (wm_2 (wm_1 wm_h))))), ?_⟩
      refine wm_c ⟨(wk_L_law_L_law_r9 _ (wm_16 wm_h)), ?_⟩
      refine wm_c ⟨(wk_L_law_L_law_r9 _ (wm_16 (wm_1 wm_h))), ?_⟩
      exact wm_n
    · refine wm_a ⟨?_, ?_⟩
      · unfold wsX8_init_r2
        refine wm_c ⟨(wk_L_law_L_law_r9 _ (wm_16 (wm_2 wm_h))), ?_⟩
        refine wm_c ⟨(wk_L_law_L_law_r9 _ (wm_16 (wm_2 (wm_1 wm_h)))), ?_⟩
        refine wm_c ⟨(wk_L_law_L_law_r9 _ (wm_16 (wm_4 wm_h))), ?_⟩
        refine wm_c ⟨(wk_L_law_L_law_r9 _ (wm_16 (wm_4 (wm_1 wm_h)))), ?_⟩
        refine wm_c ⟨(wk_L_law_L_law_r9 _ (wm_16 (wm_4 (wm_2 wm_h)))), ?_⟩
        refine wm_c ⟨(wk_L_law_L_law_r9 _ (wm_16 (wm_4 (wm_2 (wm_1 wm_h))))), ?_⟩
        refine wm_c ⟨(wk_L_law_L_law_r10 _ wm_h), ?_⟩
        refine wm_c ⟨(wk_L_law_L_law_r10 _ (wm_1 wm_h)), ?_⟩
        refine wm_c ⟨(wk_L_law_L_law_r10 _ (wm_2 wm_h)), ?_⟩
        refine wm_c ⟨(wk_L_law_L_law_r1 _ (wm_4 (wm_1 wm_h))), ?_⟩
        refine wm_c ⟨(wk_L_law_L_law_r10 _ (wm_2 (wm_1 wm_h))), ?_⟩
        refine wm_c ⟨(wk_L_law_L_law_r10 _ (wm_4 wm_h)), ?_⟩
        refine wm_c ⟨(wk_L_law_L_law_r10 _ (wm_4 (wm_1 wm_h))), ?_⟩
        refine wm_c ⟨(wk_L_law_L_law_r10 _ (wm_4 (wm_2 wm_h))), ?_⟩
        refine wm_c ⟨(wk_L_law_L_law_r10 _ (wm_4 (wm_2 (wm_1 wm_h)))), ?_⟩
        refine wm_c ⟨(wk_L_law_L_law_r10 _ (wm_8 wm_h)), ?_⟩
        refine wm_c ⟨(wk_L_law_L_law_r10 _ (wm_8 (wm_1 wm_h))), ?_⟩
        refine wm_c ⟨(wk_L_law_L_law_r10 _ (wm_8 (wm_2 wm_h))), ?_⟩
        refine wm_c ⟨(wk_L_law_L_law_r10 _ (wm_8 (wm_2 (wm_1 wm_h)))), ?_⟩
        refine wm_c ⟨(wk_L_law_L_law_r10 _ (wm_8 (wm_4 wm_h))), ?_⟩
        refine wm_c ⟨(wk_L_law_L_law_r10 _ (wm_8 (wm_4 (wm_1 wm_h)))), ?_⟩
        refine wm_c ⟨(wk_L_law_L_law_r10 _ (wm_8 (wm_4 (wm_2 wm_h)))), ?_⟩
        refine wm_c ⟨(wk_L_law_L_law_r10 _ (wm_8 (wm_4 (wm_2 (wm_1 wm_h))))), ?_⟩
        refine wm_c ⟨(wk_L_law_L_law_r10 _ (wm_16 wm_h)), ?_⟩
        exact wm_n
      · unfold wsX8_init_r3
        refine wm_c ⟨(wk_L_law_L_law_r10 _ (wm_16 (wm_1 wm_h))), ?_⟩
        refine wm_c ⟨(wk_L_law_L_law_r10 _ (wm_16 (wm_2 wm_h))), ?_⟩
        refine wm_c ⟨(wk_L_law_L_law_r10 _ (wm_16 (wm_2 (wm_1 wm_h)))), ?_⟩
        refine wm_c ⟨(wk_L_law_L_law_r10 _ (wm_16 (wm_4 wm_h))), ?_⟩
        refine wm_c ⟨(wk_L_law_L_law_r10 _ (wm_16 (wm_4 (wm_1 wm_h)))), ?_⟩
        refine wm_c ⟨(wk_L_law_L_law_r10 _ (wm_16 (wm_4 (wm_2 wm_h)))), ?_⟩
        refine wm_c ⟨(wk_L_law_L_law_r10 _ (wm_16 (wm_4 (wm_2 (wm_1 wm_h))))), ?_⟩
        refine wm_c ⟨(wk_L_law_L_law_r11 _ wm_h), ?_⟩
        refine wm_c ⟨(wk_L_law_L_law_r11 _ (wm_1 wm_h)), ?_⟩
        refine wm_c ⟨(wk_L_law_L_law_r11 _ (wm_2 wm_h)), ?_⟩
        refine wm_c ⟨(wk_L_law_L_law_r11 _ (wm_2 (wm_1 wm_h))), ?_⟩
        refine wm_c ⟨(wk_L_law_L_law_r11 _ (wm_4 wm_h)), ?_⟩
        refine wm_c ⟨(wk_L_law_L_law_r11 _ (wm_4 (wm_1 wm_h))), ?_⟩
        refine wm_c ⟨(wk_L_law_L_law_r11 _ (wm_4 (wm_2 wm_h))), ?_⟩
        refine wm_c ⟨(wk_L_law_L_law_r11 _ (wm_4 (wm_2 (wm_1 wm_h)))), ?_⟩
        refine wm_c ⟨(wk_L_law_L_law_r11 _ (wm_8 wm_h)), ?_⟩
        refine wm_c ⟨(wk_L_law_L_law_r11 _ (wm_8 (wm_1 wm_h))), ?_⟩
        refine wm_c ⟨(wk_L_law_L_law_r11 _ (wm_8 (wm_2 wm_h))), ?_⟩
        refine wm_c ⟨(wk_L_law_L_law_r11 _ (wm_8 (wm_2 (wm_1 wm_h)))), ?_⟩
        refine wm_c ⟨(wk_L_law_L_law_r11 _ (wm_8 (wm_4 wm_h))), ?_⟩
        exact wm_n
  · exact wk_L_law_X80
set_option maxRecDepth 20000 in
theorem gL_law_X8_init : GoodIn wsL_law (wsX8_init) := ggL_law_X8_init
set_option maxRecDepth 20000 in
theorem ggL_law_X7_clear : GoodIn wsL_law wsX7_clear := by
  refine goodIn_sub ?_ gd_X7_clear
  unfold wsX7_clear
  refine wm_c ⟨(wk_L_law_L_law_r11 _ (wm_16 wm_h)), ?_⟩
  refine wm_a ⟨?_, ?_⟩
  · refine wm_c ⟨(wk_L_law_L_law_r1 _ (wm_16 (wm_4 (wm_2 (wm_1 wm_h))))), ?_⟩
    refine wm_c ⟨(wk_L_law_L_law_r11 _ (wm_16 (wm_1 wm_h))), ?_⟩
    refine wm_c ⟨(wk_L_law_L_law_r11 _ (wm_16 (wm_2 wm_h))), ?_⟩
    refine wm_c ⟨(wk_L_law_L_law_r1 _ (wm_2 wm_h)), ?_⟩
    refine wm_c ⟨(wk_L_law_L_law_r11 _ (wm_16 (wm_2 (wm_1 wm_h)))), ?_⟩
    refine wm_c ⟨(wk_L_law_L_law_r11 _ (wm_16 (wm_4 wm_h))), ?_⟩
    refine wm_c ⟨(wk_L_law_L_law_r11 _ (wm_16 (wm_4 (wm_1 wm_h)))), ?_⟩
    refine wm_c ⟨(wk_L_law_L_law_r6 _ (wm_1 wm_h)), ?_⟩
    refine wm_c ⟨(wk_L_law_L_law_r11 _ (wm_16 (wm_4 (wm_2 wm_h)))), ?_⟩
    exact wm_n
  · exact wk_L_law_X70
set_option maxRecDepth 20000 in
theorem gL_law_X7_clear : GoodIn wsL_law (wsV RL 21 RX7 yX7_clear wsX7_clear) := by
  refine goodIn_app (goodIn_sub ?_ ?_) ggL_law_X7_clear
  · exact wm_c ⟨(wk_L_law_L_law_r11 _ (wm_8 (wm_4 (wm_1 wm_h)))), wm_c ⟨(wk_L_law_L_law_r11 _ (wm_8 (wm_4 (wm_2 wm_h)))), wm_c ⟨(wk_L_law_L_law_r11 _ (wm_8 (wm_4 (wm_2 (wm_1 wm_h))))), wm_c ⟨(wk_L_law_L_law_r1 _ (wm_2 wm_h)), wm_n⟩⟩⟩⟩
  · decide +kernel
set_option maxRecDepth 20000 in
theorem ggL_law_X8_clear : GoodIn wsL_law wsX8_clear := by
  refine goodIn_sub ?_ gd_X8_clear
  unfold wsX8_clear
  refine wm_c ⟨(wk_L_law_L_law_r12 _ (wm_2 wm_h)), ?_⟩
  refine wm_a ⟨?_, ?_⟩
  · refine wm_c ⟨(wk_L_law_L_law_r12 _ (wm_2 (wm_1 wm_h))), ?_⟩
    refine wm_c ⟨(wk_L_law_L_law_r12 _ (wm_4 wm_h)), ?_⟩
    refine wm_c ⟨(wk_L_law_L_law_r1 _ (wm_4 (wm_1 wm_h))), ?_⟩
    refine wm_c ⟨(wk_L_law_L_law_r12 _ (wm_4 (wm_1 wm_h))), ?_⟩
    refine wm_c ⟨(wk_L_law_L_law_r12 _ (wm_4 (wm_2 wm_h))), ?_⟩
    refine wm_c ⟨(wk_L_law_L_law_r12 _ (wm_4 (wm_2 (wm_1 wm_h)))), ?_⟩
    refine wm_c ⟨(wk_L_law_L_law_r12 _ (wm_8 wm_h)), ?_⟩
    refine wm_c ⟨(wk_L_law_L_law_r12 _ (wm_8 (wm_1 wm_h))), ?_⟩
    refine wm_c ⟨(wk_L_law_L_law_r12 _ (wm_8 (wm_2 wm_h))), ?_⟩
    refine wm_c ⟨(wk_L_law_L_law_r12 _ (wm_8 (wm_2 (wm_1 wm_h)))), ?_⟩
    refine wm_c ⟨(wk_L_law_L_law_r12 _ (wm_8 (wm_4 wm_h))), ?_⟩
    refine wm_c ⟨(wk_L_law_L_law_r12 _ (wm_8 (wm_4 (wm_1 wm_h)))), ?_⟩
    refine wm_c ⟨(wk_L_law_L_law_r10 _ wm_h), ?_⟩
    refine wm_c ⟨(wk_L_law_L_law_r9 _ (wm_2 wm_h)), ?_⟩
    exact wm_n
  · exact wk_L_law_X80
