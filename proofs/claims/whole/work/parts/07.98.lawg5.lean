set_option maxRecDepth 20000 in
theorem gL_law_X7_count : GoodIn wsL_law (wsV RL 161 RX7 yX7_count wsX7_count) := by
  refine goodIn_app (goodIn_sub ?_ ?_) ggL_law_X7_count
  · exact wm_c ⟨(wk_L_law_L_law_r46 _ (wm_2 wm_h)), wm_c ⟨(wk_L_law_L_law_r46 _ (wm_2 (wm_1 wm_h))), wm_c ⟨(wk_L_law_L_law_r46 _ (wm_4 wm_h)), wm_c ⟨(wk_L_law_L_law_r1 _ (wm_2 wm_h)), wm_n⟩⟩⟩⟩
  · decide +kernel
