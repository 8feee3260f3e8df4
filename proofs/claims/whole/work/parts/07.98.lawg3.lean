set_option maxRecDepth 20000 in
theorem gL_law_X8_read : GoodIn wsL_law (wsV RL 160 RX8 yX8_read wsX8_read) := by
  refine goodIn_app (goodIn_sub ?_ ?_) ggL_law_X8_read
  · exact wm_c ⟨(wk_L_law_L_law_r43 _ (wm_16 (wm_1 wm_h))), wm_c ⟨(wk_L_law_L_law_r43 _ (wm_16 (wm_2 wm_h))), wm_c ⟨(wk_L_law_L_law_r43 _ (wm_16 (wm_2 (wm_1 wm_h)))), wm_c ⟨(wk_L_law_L_law_r1 _ (wm_4 (wm_1 wm_h))), wm_n⟩⟩⟩⟩
  · decide +kernel
