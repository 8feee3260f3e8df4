set_option maxRecDepth 20000 in
theorem gL_law_X8_count : GoodIn wsL_law (wsV RL 164 RX8 yX8_count wsX8_count) := by
  refine goodIn_app (goodIn_sub ?_ ?_) ggL_law_X8_count
  · exact wm_c ⟨(wk_L_law_L_law_r46 _ (wm_4 (wm_2 wm_h))), wm_c ⟨(wk_L_law_L_law_r46 _ (wm_4 (wm_2 (wm_1 wm_h)))), wm_c ⟨(wk_L_law_L_law_r46 _ (wm_8 wm_h)), wm_c ⟨(wk_L_law_L_law_r1 _ (wm_4 (wm_1 wm_h))), wm_n⟩⟩⟩⟩
  · decide +kernel
