set_option maxRecDepth 20000 in
theorem gL_law_X7_read : GoodIn wsL_law (wsV RL 157 RX7 yX7_read wsX7_read) := by
  refine goodIn_app (goodIn_sub ?_ ?_) ggL_law_X7_read
  · exact wm_c ⟨(wk_L_law_L_law_r39 _ (wm_16 (wm_2 wm_h))), wm_c ⟨(wk_L_law_L_law_r39 _ (wm_16 (wm_2 (wm_1 wm_h)))), wm_c ⟨(wk_L_law_L_law_r39 _ (wm_16 (wm_4 wm_h))), wm_c ⟨(wk_L_law_L_law_r1 _ (wm_2 wm_h)), wm_n⟩⟩⟩⟩
  · decide +kernel
