set_option maxRecDepth 20000 in
theorem ggL_law_X8_count : GoodIn wsL_law wsX8_count := by
  refine goodIn_sub ?_ gd_X8_count
  unfold wsX8_count
  refine wm_c ⟨(wk_L_law_L_law_r46 _ (wm_8 (wm_1 wm_h))), ?_⟩
  refine wm_a ⟨?_, ?_⟩
  · refine wm_c ⟨(wk_L_law_L_law_r9 _ (wm_16 (wm_4 (wm_2 wm_h)))), ?_⟩
    refine wm_c ⟨(wk_L_law_L_law_r9 _ (wm_16 (wm_4 (wm_2 (wm_1 wm_h))))), ?_⟩
    refine wm_c ⟨(wk_L_law_L_law_r10 _ wm_h), ?_⟩
    refine wm_c ⟨(wk_L_law_L_law_r11 _ wm_h), ?_⟩
    refine wm_c ⟨(wk_L_law_L_law_r34 _ (wm_4 (wm_1 wm_h))), ?_⟩
    refine wm_c ⟨(wk_L_law_L_law_r38 _ (wm_8 (wm_1 wm_h))), ?_⟩
    refine wm_c ⟨(wk_L_law_L_law_r39 _ (wm_16 wm_h)), ?_⟩
    exact wm_n
  · exact wk_L_law_X80
