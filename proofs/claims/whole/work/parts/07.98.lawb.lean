set_option maxRecDepth 20000 in
theorem gL_law_X8_clear : GoodIn wsL_law (wsV RL 25 RX8 yX8_clear wsX8_clear) := by
  refine goodIn_app (goodIn_sub ?_ ?_) ggL_law_X8_clear
  · exact wm_c ⟨(wk_L_law_L_law_r11 _ (wm_16 (wm_4 (wm_2 (wm_1 wm_h))))), wm_c ⟨(wk_L_law_L_law_r12 _ wm_h), wm_c ⟨(wk_L_law_L_law_r12 _ (wm_1 wm_h)), wm_c ⟨(wk_L_law_L_law_r1 _ (wm_4 (wm_1 wm_h))), wm_n⟩⟩⟩⟩
  · decide +kernel
set_option maxRecDepth 20000 in
theorem ggL_law_X7_put : GoodIn wsL_law wsX7_put := by
  refine goodIn_sub ?_ gd_X7_put
  unfold wsX7_put
  refine wm_c ⟨(wk_L_law_L_law_r12 _ (wm_16 (wm_1 wm_h))), ?_⟩
  refine wm_a ⟨?_, ?_⟩
  · refine wm_a ⟨?_, ?_⟩
    · refine wm_a ⟨?_, ?_⟩
      · unfold wsX7_put_r1
        refine wm_c ⟨(wk_L_law_L_law_r1 _ (wm_16 (wm_4 wm_h))), ?_⟩
        refine wm_c ⟨(wk_L_law_L_law_r1 _ (wm_16 (wm_4 (wm_2 (wm_1 wm_h))))), ?_⟩
        refine wm_c ⟨(wk_L_law_L_law_r12 _ (wm_16 (wm_2 wm_h))), ?_⟩
        refine wm_c ⟨(wk_L_law_L_law_r12 _ (wm_16 (wm_2 (wm_1 wm_h)))), ?_⟩
        refine wm_c ⟨(wk_L_law_L_law_r12 _ (wm_16 (wm_4 wm_h))), ?_⟩
        refine wm_c ⟨(wk_L_law_L_law_r1 _ (wm_16 (wm_2 (wm_1 wm_h)))), ?_⟩
        refine wm_c ⟨(wk_L_law_L_law_r12 _ (wm_16 (wm_4 (wm_1 wm_h)))), ?_⟩
        refine wm_c ⟨(wk_L_law_L_law_r3 _ (wm_4 (wm_1 wm_h))), ?_⟩
        refine wm_c ⟨(wk_L_law_L_law_r3 _ (wm_4 wm_h)), ?_⟩
        refine wm_c ⟨(wk_L_law_L_law_r3 _ (wm_4 (wm_2 wm_h))), ?_⟩
        refine wm_c ⟨(wk_L_law_L_law_r3 _ (wm_4 (wm_2 (wm_1 wm_h)))), ?_⟩
        refine wm_c ⟨(wk_L_law_L_law_r11 _ (wm_16 (wm_1 wm_h))), ?_⟩
        refine wm_c ⟨(wk_L_law_L_law_r11 _ (wm_16 (wm_2 wm_h))), ?_⟩
        refine wm_c ⟨(wk_L_law_L_law_r1 _ (wm_2 wm_h)), ?_⟩
        refine wm_c ⟨(wk_L_law_L_law_r11 _ (wm_16 (wm_2 (wm_1 wm_h)))), ?_⟩
        refine wm_c ⟨(wk_L_law_L_law_r12 _ (wm_16 (wm_4 (wm_2 wm_h)))), ?_⟩
        refine wm_c ⟨(wk_L_law_L_law_r12 _ (wm_16 (wm_4 (wm_2 (wm_1 wm_h))))), ?_⟩
        refine wm_c ⟨(wk_L_law_L_law_r13 _ wm_h), ?_⟩
        refine wm_c ⟨(wk_L_law_L_law_r13 _ (wm_1 wm_h)), ?_⟩
        refine wm_c ⟨(wk_L_law_L_law_r13 _ (wm_2 wm_h)), ?_⟩
        refine wm_c ⟨(wk_L_law_L_law_r4 _ (wm_8 (wm_2 wm_h))), ?_⟩
        refine wm_c ⟨(wk_L_law_L_law_r13 _ (wm_2 (wm_1 wm_h))), ?_⟩
        refine wm_c ⟨(wk_L_law_L_law_r13 _ (wm_4 wm_h)), ?_⟩
        refine wm_c ⟨(wk_L_law_L_law_r13 _ (wm_4 (wm_1 wm_h))), ?_⟩
        exact wm_n
      · unfold wsX7_put_r2
        refine wm_c ⟨(wk_L_law_L_law_r2 _ (wm_16 (wm_4 (wm_1 wm_h)))), ?_⟩
        refine wm_c ⟨(wk_L_law_L_law_r2 _ (wm_16 (wm_4 (wm_2 wm_h)))), ?_⟩
        refine wm_c ⟨(wk_L_law_L_law_r2 _ (wm_16 (wm_4 (wm_2 (wm_1 wm_h))))), ?_⟩
        refine wm_c ⟨(wk_L_law_L_law_r13 _ (wm_4 (wm_2 wm_h))), ?_⟩
        refine wm_c ⟨(wk_L_law_L_law_r4 _ (wm_8 (wm_1 wm_h))), ?_⟩
        refine wm_c ⟨(wk_L_law_L_law_r4 _ (wm_8 (wm_2 (wm_1 wm_h)))), ?_⟩
        refine wm_c ⟨(wk_L_law_L_law_r4 _ (wm_8 (wm_4 wm_h))), ?_⟩
        refine wm_c ⟨(wk_L_law_L_law_r4 _ (wm_8 (wm_4 (wm_1 wm_h)))), ?_⟩
        refine wm_c ⟨(wk_L_law_L_law_r4 _ (wm_8 (wm_4 (wm_2 wm_h)))), ?_⟩
        refine wm_c ⟨(wk_L_law_L_law_r4 _ (wm_8 (wm_4 (wm_2 (wm_1 wm_h))))), ?_⟩
        refine wm_c ⟨(wk_L_law_L_law_r4 _ (wm_16 wm_h)), ?_⟩
        exact wm_n
    · exact wk_L_law_X70
  · exact wk_L_law_X60
set_option maxRecDepth 20000 in
theorem gL_law_X7_put : GoodIn wsL_law (wsV RL 26 RX7 yX7_put wsX7_put) := by
  refine goodIn_app (goodIn_sub ?_ ?_) ggL_law_X7_put
  · exact wm_c ⟨(wk_L_law_L_law_r12 _ (wm_8 (wm_4 (wm_2 wm_h)))), wm_c ⟨(wk_L_law_L_law_r12 _ (wm_8 (wm_4 (wm_2 (wm_1 wm_h))))), wm_c ⟨(wk_L_law_L_law_r12 _ (wm_16 wm_h)), wm_c ⟨(wk_L_law_L_law_r1 _ (wm_2 wm_h)), wm_n⟩⟩⟩⟩
  · decide +kernel
set_option maxRecDepth 20000 in
theorem ggL_law_X8_put : GoodIn wsL_law wsX8_put := by
  refine goodIn_sub ?_ gd_X8_put
  unfold wsX8_put
  refine wm_c ⟨(wk_L_law_L_law_r13 _ (wm_8 (wm_2 wm_h))), ?_⟩
  refine wm_a ⟨?_, ?_⟩
  · refine wm_a ⟨?_, ?_⟩
    · unfold wsX8_put_r1
      refine wm_c ⟨(wk_L_law_L_law_r9 _ (wm_2 wm_h)), ?_⟩
      refine wm_c ⟨(wk_L_law_L_law_r13 _ (wm_8 (wm_2 (wm_1 wm_h)))), ?_⟩
      refine wm_c ⟨(wk_L_law_L_law_r13 _ (wm_8 (wm_4 wm_h))), ?_⟩
      refine wm_c ⟨(wk_L_law_L_law_r13 _ (wm_8 (wm_4 (wm_1 wm_h)))), ?_⟩
      refine wm_c ⟨(wk_L_law_L_law_r1 _ (wm_4 (wm_1 wm_h))), ?_⟩
      refine wm_c ⟨(wk_L_law_L_law_r13 _ (wm_8 (wm_4 (wm_2 wm_h)))), ?_⟩
      refine wm_c ⟨(wk_L_law_L_law_r9 _ (wm_16 (wm_4 (wm_2 (wm_1 wm_h))))), ?_⟩
      refine wm_c ⟨(wk_L_law_L_law_r9 _ (wm_16 (wm_4 (wm_2 wm_h)))), ?_⟩
      refine wm_c ⟨(wk_L_law_L_law_r8 _ (wm_16 (wm_4 (wm_2 (wm_1 wm_h))))), ?_⟩
      refine wm_c ⟨(wk_L_law_L_law_r12 _ (wm_4 (wm_2 (wm_1 wm_h)))), ?_⟩
      refine wm_c ⟨(wk_L_law_L_law_r12 _ (wm_8 wm_h)), ?_⟩
      refine wm_c ⟨(wk_L_law_L_law_r12 _ (wm_8 (wm_1 wm_h))), ?_⟩
      refine wm_c ⟨(wk_L_law_L_law_r12 _ (wm_2 (wm_1 wm_h))), ?_⟩
      refine wm_c ⟨(wk_L_law_L_law_r12 _ (wm_4 wm_h)), ?_⟩
      refine wm_c ⟨(wk_L_law_L_law_r12 _ (wm_4 (wm_1 wm_h))), ?_⟩
      refine wm_c ⟨(wk_L_law_L_law_r12 _ (wm_4 (wm_2 wm_h))), ?_⟩
      refine wm_c ⟨(wk_L_law_L_law_r13 _ (wm_8 (wm_4 (wm_2 (wm_1 wm_h))))), ?_⟩
      refine wm_c ⟨(wk_L_law_L_law_r13 _ (wm_16 wm_h)), ?_⟩
      refine wm_c ⟨(wk_L_law_L_law_r13 _ (wm_16 (wm_1 wm_h))), ?_⟩
      refine wm_c ⟨(wk_L_law_L_law_r13 _ (wm_16 (wm_2 wm_h))), ?_⟩
      refine wm_c ⟨(wk_L_law_L_law_r13 _ (wm_16 (wm_2 (wm_1 wm_h)))), ?_⟩
      refine wm_c ⟨(wk_L_law_L_law_r13 _ (wm_16 (wm_4 wm_h))), ?_⟩
      refine wm_c ⟨(wk_L_law_L_law_r13 _ (wm_16 (wm_4 (wm_1 wm_h)))), ?_⟩
      refine wm_c ⟨(wk_L_law_L_law_r13 _ (wm_16 (wm_4 (wm_2 wm_h)))), ?_⟩
      exact wm_n
    · unfold wsX8_put_r2
      refine wm_c ⟨(wk_L_law_L_law_r11 _ (wm_8 (wm_1 wm_h))), ?_⟩
      refine wm_c ⟨(wk_L_law_L_law_r11 _ (wm_8 (wm_2 wm_h))), ?_⟩
      refine wm_c ⟨(wk_L_law_L_law_r11 _ (wm_8 (wm_2 (wm_1 wm_h)))), ?_⟩
      refine wm_c ⟨(wk_L_law_L_law_r11 _ (wm_8 (wm_4 wm_h))), ?_⟩
      refine wm_c ⟨(wk_L_law_L_law_r13 _ (wm_16 (wm_4 (wm_2 (wm_1 wm_h))))), ?_⟩
      refine wm_c ⟨(wk_L_law_L_law_r14 _ wm_h), ?_⟩
      refine wm_c ⟨(wk_L_law_L_law_r14 _ (wm_1 wm_h)), ?_⟩
      refine wm_c ⟨(wk_L_law_L_law_r14 _ (wm_2 wm_h)), ?_⟩
      exact wm_n
  · exact wk_L_law_X80
set_option maxRecDepth 20000 in
theorem gL_law_X8_put : GoodIn wsL_law (wsV RL 30 RX8 yX8_put wsX8_put) := by
  refine goodIn_app (goodIn_sub ?_ ?_) ggL_law_X8_put
  · exact wm_c ⟨(wk_L_law_L_law_r13 _ (wm_4 (wm_2 (wm_1 wm_h)))), wm_c ⟨(wk_L_law_L_law_r13 _ (wm_8 wm_h)), wm_c ⟨(wk_L_law_L_law_r13 _ (wm_8 (wm_1 wm_h))), wm_c ⟨(wk_L_law_L_law_r1 _ (wm_4 (wm_1 wm_h))), wm_n⟩⟩⟩⟩
  · decide +kernel
set_option maxRecDepth 20000 in
theorem ggL_law_X7_at : GoodIn wsL_law wsX7_at := by
  refine goodIn_sub ?_ gd_X7_at
  unfold wsX7_at
  refine wm_c ⟨(wk_L_law_L_law_r14 _ (wm_4 (wm_2 wm_h))), ?_⟩
  refine wm_a ⟨?_, ?_⟩
  · refine wm_a ⟨?_, ?_⟩
    · refine wm_c ⟨(wk_L_law_L_law_r1 _ (wm_16 (wm_4 wm_h))), ?_⟩
      refine wm_c ⟨(wk_L_law_L_law_r1 _ (wm_16 (wm_4 (wm_2 (wm_1 wm_h))))), ?_⟩
      refine wm_c ⟨(wk_L_law_L_law_r12 _ (wm_16 (wm_2 wm_h))), ?_⟩
      refine wm_c ⟨(wk_L_law_L_law_r12 _ (wm_16 (wm_2 (wm_1 wm_h)))), ?_⟩
      refine wm_c ⟨(wk_L_law_L_law_r12 _ (wm_16 (wm_4 wm_h))), ?_⟩
      refine wm_c ⟨(wk_L_law_L_law_r1 _ (wm_16 (wm_2 (wm_1 wm_h)))), ?_⟩
      refine wm_c ⟨(wk_L_law_L_law_r12 _ (wm_16 (wm_4 (wm_1 wm_h)))), ?_⟩
      refine wm_c ⟨(wk_L_law_L_law_r3 _ (wm_4 (wm_1 wm_h))), ?_⟩
      refine wm_c ⟨(wk_L_law_L_law_r3 _ (wm_4 wm_h)), ?_⟩
      refine wm_c ⟨(wk_L_law_L_law_r3 _ (wm_4 (wm_2 wm_h))), ?_⟩
      refine wm_c ⟨(wk_L_law_L_law_r3 _ (wm_4 (wm_2 (wm_1 wm_h)))), ?_⟩
      refine wm_c ⟨(wk_L_law_L_law_r11 _ (wm_16 (wm_1 wm_h))), ?_⟩
      refine wm_c ⟨(wk_L_law_L_law_r11 _ (wm_16 (wm_2 wm_h))), ?_⟩
      refine wm_c ⟨(wk_L_law_L_law_r1 _ (wm_2 wm_h)), ?_⟩
      refine wm_c ⟨(wk_L_law_L_law_r11 _ (wm_16 (wm_2 (wm_1 wm_h)))), ?_⟩
      exact wm_n
    · exact wk_L_law_X70
  · exact wk_L_law_X60
set_option maxRecDepth 20000 in
theorem gL_law_X7_at : GoodIn wsL_law (wsV RL 31 RX7 yX7_at wsX7_at) := by
  refine goodIn_app (goodIn_sub ?_ ?_) ggL_law_X7_at
  · exact wm_c ⟨(wk_L_law_L_law_r14 _ (wm_2 (wm_1 wm_h))), wm_c ⟨(wk_L_law_L_law_r14 _ (wm_4 wm_h)), wm_c ⟨(wk_L_law_L_law_r14 _ (wm_4 (wm_1 wm_h))), wm_c ⟨(wk_L_law_L_law_r1 _ (wm_2 wm_h)), wm_n⟩⟩⟩⟩
  · decide +kernel
set_option maxRecDepth 20000 in
theorem ggL_law_X8_at : GoodIn wsL_law wsX8_at := by
  refine goodIn_sub ?_ gd_X8_at
  unfold wsX8_at
  refine wm_c ⟨(wk_L_law_L_law_r14 _ (wm_8 (wm_2 wm_h))), ?_⟩
  refine wm_a ⟨?_, ?_⟩
  · refine wm_c ⟨(wk_L_law_L_law_r9 _ (wm_2 wm_h)), ?_⟩
    refine wm_c ⟨(wk_L_law_L_law_r13 _ (wm_8 (wm_2 (wm_1 wm_h)))), ?_⟩
    refine wm_c ⟨(wk_L_law_L_law_r13 _ (wm_8 (wm_4 wm_h))), ?_⟩
    refine wm_c ⟨(wk_L_law_L_law_r13 _ (wm_8 (wm_4 (wm_1 wm_h)))), ?_⟩
    refine wm_c ⟨(wk_L_law_L_law_r1 _ (wm_4 (wm_1 wm_h))), ?_⟩
    refine wm_c ⟨(wk_L_law_L_law_r13 _ (wm_8 (wm_4 (wm_2 wm_h)))), ?_⟩
    refine wm_c ⟨(wk_L_law_L_law_r9 _ (wm_16 (wm_4 (wm_2 (wm_1 wm_h))))), ?_⟩
    refine wm_c ⟨(wk_L_law_L_law_r9 _ (wm_16 (wm_4 (wm_2 wm_h)))), ?_⟩
    refine wm_c ⟨(wk_L_law_L_law_r8 _ (wm_16 (wm_4 (wm_2 (wm_1 wm_h))))), ?_⟩
    refine wm_c ⟨(wk_L_law_L_law_r12 _ (wm_4 (wm_2 (wm_1 wm_h)))), ?_⟩
    refine wm_c ⟨(wk_L_law_L_law_r12 _ (wm_8 wm_h)), ?_⟩
    refine wm_c ⟨(wk_L_law_L_law_r12 _ (wm_8 (wm_1 wm_h))), ?_⟩
    refine wm_c ⟨(wk_L_law_L_law_r12 _ (wm_2 (wm_1 wm_h))), ?_⟩
    refine wm_c ⟨(wk_L_law_L_law_r12 _ (wm_4 wm_h)), ?_⟩
    refine wm_c ⟨(wk_L_law_L_law_r12 _ (wm_4 (wm_1 wm_h))), ?_⟩
    refine wm_c ⟨(wk_L_law_L_law_r12 _ (wm_4 (wm_2 wm_h))), ?_⟩
    exact wm_n
  · exact wk_L_law_X80
set_option maxRecDepth 20000 in
theorem gL_law_X8_at : GoodIn wsL_law (wsV RL 35 RX8 yX8_at wsX8_at) := by
  refine goodIn_app (goodIn_sub ?_ ?_) ggL_law_X8_at
  · exact wm_c ⟨(wk_L_law_L_law_r14 _ (wm_4 (wm_2 (wm_1 wm_h)))), wm_c ⟨(wk_L_law_L_law_r14 _ (wm_8 wm_h)), wm_c ⟨(wk_L_law_L_law_r14 _ (wm_8 (wm_1 wm_h))), wm_c ⟨(wk_L_law_L_law_r1 _ (wm_4 (wm_1 wm_h))), wm_n⟩⟩⟩⟩
  · decide +kernel
set_option maxRecDepth 20000 in
theorem ggL_law_X7_fraction : GoodIn wsL_law wsX7_fraction := by
  refine goodIn_sub ?_ gd_X7_fraction
  unfold wsX7_fraction
  refine wm_c ⟨(wk_L_law_L_law_r14 _ (wm_8 (wm_4 (wm_2 wm_h)))), ?_⟩
  refine wm_c ⟨(wk_L_law_L_law_r14 _ (wm_8 (wm_4 (wm_2 (wm_1 wm_h))))), ?_⟩
  refine wm_c ⟨(wk_L_law_L_law_r14 _ (wm_16 wm_h)), ?_⟩
  refine wm_c ⟨(wk_L_law_L_law_r14 _ (wm_16 (wm_1 wm_h))), ?_⟩
  refine wm_c ⟨(wk_L_law_L_law_r14 _ (wm_16 (wm_2 wm_h))), ?_⟩
  refine wm_c ⟨(wk_L_law_L_law_r14 _ (wm_16 (wm_2 (wm_1 wm_h)))), ?_⟩
  refine wm_c ⟨(wk_L_law_L_law_r4 _ (wm_8 (wm_4 (wm_2 wm_h)))), ?_⟩
  refine wm_c ⟨(wk_L_law_L_law_r4 _ (wm_8 (wm_2 wm_h))), ?_⟩
  refine wm_c ⟨(wk_L_law_L_law_r4 _ (wm_8 (wm_4 (wm_2 (wm_1 wm_h))))), ?_⟩
  refine wm_c ⟨(wk_L_law_L_law_r4 _ (wm_16 wm_h)), ?_⟩
  refine wm_c ⟨(wk_L_law_L_law_r14 _ (wm_16 (wm_4 wm_h))), ?_⟩
  refine wm_c ⟨(wk_L_law_L_law_r14 _ (wm_16 (wm_4 (wm_1 wm_h)))), ?_⟩
  refine wm_c ⟨(wk_L_law_L_law_r14 _ (wm_16 (wm_4 (wm_2 wm_h)))), ?_⟩
  refine wm_c ⟨(wk_L_law_L_law_r14 _ (wm_16 (wm_4 (wm_2 (wm_1 wm_h))))), ?_⟩
  refine wm_c ⟨(wk_L_law_L_law_r13 _ (wm_4 wm_h)), ?_⟩
  exact wm_n
set_option maxRecDepth 20000 in
theorem gL_law_X7_fraction : GoodIn wsL_law (wsV RL 36 RX7 yX7_fraction wsX7_fraction) := by
  refine goodIn_app (goodIn_sub ?_ ?_) ggL_law_X7_fraction
  · exact wm_c ⟨(wk_L_law_L_law_r14 _ (wm_8 (wm_2 (wm_1 wm_h)))), wm_c ⟨(wk_L_law_L_law_r14 _ (wm_8 (wm_4 wm_h))), wm_c ⟨(wk_L_law_L_law_r14 _ (wm_8 (wm_4 (wm_1 wm_h)))), wm_c ⟨(wk_L_law_L_law_r1 _ (wm_2 wm_h)), wm_n⟩⟩⟩⟩
  · decide +kernel
set_option maxRecDepth 20000 in
theorem ggL_law_X8_fraction : GoodIn wsL_law wsX8_fraction := by
  refine goodIn_sub ?_ gd_X8_fraction
  unfold wsX8_fraction
  refine wm_c ⟨(wk_L_law_L_law_r15 _ (wm_2 (wm_1 wm_h))), ?_⟩
  refine wm_c ⟨(wk_L_law_L_law_r15 _ (wm_4 wm_h)), ?_⟩
  refine wm_c ⟨(wk_L_law_L_law_r15 _ (wm_4 (wm_1 wm_h))), ?_⟩
  refine wm_c ⟨(wk_L_law_L_law_r11 _ (wm_8 (wm_1 wm_h))), ?_⟩
  refine wm_c ⟨(wk_L_law_L_law_r15 _ (wm_4 (wm_2 wm_h))), ?_⟩
  refine wm_c ⟨(wk_L_law_L_law_r15 _ (wm_4 (wm_2 (wm_1 wm_h)))), ?_⟩
  refine wm_c ⟨(wk_L_law_L_law_r12 _ (wm_4 (wm_2 (wm_1 wm_h)))), ?_⟩
  refine wm_c ⟨(wk_L_law_L_law_r12 _ (wm_8 wm_h)), ?_⟩
  refine wm_c ⟨(wk_L_law_L_law_r1 _ (wm_4 (wm_1 wm_h))), ?_⟩
  refine wm_c ⟨(wk_L_law_L_law_r12 _ (wm_8 (wm_1 wm_h))), ?_⟩
  exact wm_n
set_option maxRecDepth 20000 in
theorem gL_law_X8_fraction : GoodIn wsL_law (wsV RL 39 RX8 yX8_fraction wsX8_fraction) := by
  refine goodIn_app (goodIn_sub ?_ ?_) ggL_law_X8_fraction
  · exact wm_c ⟨(wk_L_law_L_law_r15 _ wm_h), wm_c ⟨(wk_L_law_L_law_r15 _ (wm_1 wm_h)), wm_c ⟨(wk_L_law_L_law_r15 _ (wm_2 wm_h)), wm_c ⟨(wk_L_law_L_law_r1 _ (wm_4 (wm_1 wm_h))), wm_n⟩⟩⟩⟩
  · decide +kernel
set_option maxRecDepth 20000 in
theorem ggL_law_X7_add : GoodIn wsL_law wsX7_add := by
  refine goodIn_sub ?_ gd_X7_add
  unfold wsX7_add
  refine wm_c ⟨(wk_L_law_L_law_r15 _ (wm_8 (wm_2 (wm_1 wm_h)))), ?_⟩
  refine wm_a ⟨?_, ?_⟩
  · refine wm_a ⟨?_, ?_⟩
    · unfold wsX7_add_r1
      refine wm_c ⟨(wk_L_law_L_law_r2 _ (wm_2 (wm_1 wm_h))), ?_⟩
      refine wm_c ⟨(wk_L_law_L_law_r1 _ (wm_16 (wm_4 (wm_2 (wm_1 wm_h))))), ?_⟩
      refine wm_c ⟨(wk_L_law_L_law_r11 _ (wm_16 (wm_1 wm_h))), ?_⟩
      refine wm_c ⟨(wk_L_law_L_law_r11 _ (wm_16 (wm_2 wm_h))), ?_⟩
      refine wm_c ⟨(wk_L_law_L_law_r1 _ (wm_2 wm_h)), ?_⟩
      refine wm_c ⟨(wk_L_law_L_law_r11 _ (wm_16 (wm_2 (wm_1 wm_h)))), ?_⟩
      refine wm_c ⟨(wk_L_law_L_law_r12 _ (wm_16 (wm_4 (wm_2 wm_h)))), ?_⟩
      refine wm_c ⟨(wk_L_law_L_law_r12 _ (wm_16 (wm_4 (wm_2 (wm_1 wm_h))))), ?_⟩
      refine wm_c ⟨(wk_L_law_L_law_r13 _ wm_h), ?_⟩
      refine wm_c ⟨(wk_L_law_L_law_r13 _ (wm_1 wm_h)), ?_⟩
      refine wm_c ⟨(wk_L_law_L_law_r13 _ (wm_2 wm_h)), ?_⟩
      refine wm_c ⟨(wk_L_law_L_law_r4 _ (wm_8 (wm_2 wm_h))), ?_⟩
      refine wm_c ⟨(wk_L_law_L_law_r13 _ (wm_2 (wm_1 wm_h))), ?_⟩
      refine wm_c ⟨(wk_L_law_L_law_r13 _ (wm_4 wm_h)), ?_⟩
      refine wm_c ⟨(wk_L_law_L_law_r13 _ (wm_4 (wm_1 wm_h))), ?_⟩
      refine wm_c ⟨(wk_L_law_L_law_r2 _ (wm_16 (wm_4 (wm_1 wm_h)))), ?_⟩
      refine wm_c ⟨(wk_L_law_L_law_r2 _ (wm_16 (wm_4 (wm_2 wm_h)))), ?_⟩
      refine wm_c ⟨(wk_L_law_L_law_r2 _ (wm_16 (wm_4 (wm_2 (wm_1 wm_h))))), ?_⟩
      refine wm_c ⟨(wk_L_law_L_law_r13 _ (wm_4 (wm_2 wm_h))), ?_⟩
      refine wm_c ⟨(wk_L_law_L_law_r4 _ (wm_8 (wm_1 wm_h))), ?_⟩
      refine wm_c ⟨(wk_L_law_L_law_r4 _ (wm_8 (wm_2 (wm_1 wm_h)))), ?_⟩
      refine wm_c ⟨(wk_L_law_L_law_r4 _ (wm_8 (wm_4 wm_h))), ?_⟩
      refine wm_c ⟨(wk_L_law_L_law_r4 _ (wm_8 (wm_4 (wm_1 wm_h)))), ?_⟩
      refine wm_c ⟨(wk_L_law_L_law_r4 _ (wm_8 (wm_4 (wm_2 wm_h)))), ?_⟩
      exact wm_n
    · unfold wsX7_add_r2
      refine wm_c ⟨(wk_L_law_L_law_r4 _ (wm_8 (wm_4 (wm_2 (wm_1 wm_h))))), ?_⟩
      refine wm_c ⟨(wk_L_law_L_law_r4 _ (wm_16 wm_h)), ?_⟩
      refine wm_c ⟨(wk_L_law_L_law_r15 _ (wm_8 (wm_4 wm_h))), ?_⟩
      refine wm_c ⟨(wk_L_law_L_law_r15 _ (wm_8 (wm_4 (wm_1 wm_h)))), ?_⟩
      refine wm_c ⟨(wk_L_law_L_law_r15 _ (wm_8 (wm_4 (wm_2 wm_h)))), ?_⟩
      refine wm_c ⟨(wk_L_law_L_law_r2 _ (wm_2 wm_h)), ?_⟩
      refine wm_c ⟨(wk_L_law_L_law_r15 _ (wm_8 (wm_4 (wm_2 (wm_1 wm_h))))), ?_⟩
      refine wm_c ⟨(wk_L_law_L_law_r15 _ (wm_16 wm_h)), ?_⟩
      refine wm_c ⟨(wk_L_law_L_law_r15 _ (wm_16 (wm_1 wm_h))), ?_⟩
      refine wm_c ⟨(wk_L_law_L_law_r15 _ (wm_16 (wm_2 wm_h))), ?_⟩
      exact wm_n
  · exact wk_L_law_X70
set_option maxRecDepth 20000 in
theorem gL_law_X7_add : GoodIn wsL_law (wsV RL 40 RX7 yX7_add wsX7_add) := by
  refine goodIn_app (goodIn_sub ?_ ?_) ggL_law_X7_add
  · exact wm_c ⟨(wk_L_law_L_law_r15 _ (wm_8 wm_h)), wm_c ⟨(wk_L_law_L_law_r15 _ (wm_8 (wm_1 wm_h))), wm_c ⟨(wk_L_law_L_law_r15 _ (wm_8 (wm_2 wm_h))), wm_c ⟨(wk_L_law_L_law_r1 _ (wm_2 wm_h)), wm_n⟩⟩⟩⟩
  · decide +kernel
set_option maxRecDepth 20000 in
theorem ggL_law_X8_add : GoodIn wsL_law wsX8_add := by
  refine goodIn_sub ?_ gd_X8_add
  unfold wsX8_add
  refine wm_c ⟨(wk_L_law_L_law_r15 _ (wm_16 (wm_4 (wm_2 wm_h)))), ?_⟩
  refine wm_a ⟨?_, ?_⟩
  · refine wm_a ⟨?_, ?_⟩
    · unfold wsX8_add_r1
      refine wm_c ⟨(wk_L_law_L_law_r12 _ (wm_2 (wm_1 wm_h))), ?_⟩
      refine wm_c ⟨(wk_L_law_L_law_r12 _ (wm_4 wm_h)), ?_⟩
      refine wm_c ⟨(wk_L_law_L_law_r1 _ (wm_4 (wm_1 wm_h))), ?_⟩
      refine wm_c ⟨(wk_L_law_L_law_r12 _ (wm_4 (wm_1 wm_h))), ?_⟩
      refine wm_c ⟨(wk_L_law_L_law_r12 _ (wm_4 (wm_2 wm_h))), ?_⟩
      refine wm_c ⟨(wk_L_law_L_law_r12 _ (wm_4 (wm_2 (wm_1 wm_h)))), ?_⟩
      refine wm_c ⟨(wk_L_law_L_law_r12 _ (wm_8 wm_h)), ?_⟩
      refine wm_c ⟨(wk_L_law_L_law_r12 _ (wm_8 (wm_1 wm_h))), ?_⟩
      refine wm_c ⟨(wk_L_law_L_law_r13 _ (wm_8 (wm_4 (wm_2 (wm_1 wm_h))))), ?_⟩
      refine wm_c ⟨(wk_L_law_L_law_r13 _ (wm_16 wm_h)), ?_⟩
      refine wm_c ⟨(wk_L_law_L_law_r13 _ (wm_16 (wm_1 wm_h))), ?_⟩
      refine wm_c ⟨(wk_L_law_L_law_r13 _ (wm_16 (wm_2 wm_h))), ?_⟩
      refine wm_c ⟨(wk_L_law_L_law_r13 _ (wm_16 (wm_2 (wm_1 wm_h)))), ?_⟩
      refine wm_c ⟨(wk_L_law_L_law_r15 _ (wm_16 (wm_4 (wm_2 (wm_1 wm_h))))), ?_⟩
      refine wm_c ⟨(wk_L_law_L_law_r16 _ wm_h), ?_⟩
      refine wm_c ⟨(wk_L_law_L_law_r16 _ (wm_1 wm_h)), ?_⟩
      refine wm_c ⟨(wk_L_law_L_law_r16 _ (wm_2 wm_h)), ?_⟩
      refine wm_c ⟨(wk_L_law_L_law_r10 _ wm_h), ?_⟩
      refine wm_c ⟨(wk_L_law_L_law_r9 _ (wm_2 wm_h)), ?_⟩
      refine wm_c ⟨(wk_L_law_L_law_r13 _ (wm_16 (wm_4 wm_h))), ?_⟩
      refine wm_c ⟨(wk_L_law_L_law_r13 _ (wm_16 (wm_4 (wm_1 wm_h)))), ?_⟩
      refine wm_c ⟨(wk_L_law_L_law_r13 _ (wm_16 (wm_4 (wm_2 wm_h)))), ?_⟩
      refine wm_c ⟨(wk_L_law_L_law_r11 _ (wm_8 (wm_1 wm_h))), ?_⟩
      refine wm_c ⟨(wk_L_law_L_law_r11 _ (wm_8 (wm_2 wm_h))), ?_⟩
      exact wm_n
    · unfold wsX8_add_r2
      refine wm_c ⟨(wk_L_law_L_law_r11 _ (wm_8 (wm_2 (wm_1 wm_h)))), ?_⟩
      refine wm_c ⟨(wk_L_law_L_law_r11 _ (wm_8 (wm_4 wm_h))), ?_⟩
      refine wm_c ⟨(wk_L_law_L_law_r13 _ (wm_16 (wm_4 (wm_2 (wm_1 wm_h))))), ?_⟩
      refine wm_c ⟨(wk_L_law_L_law_r14 _ wm_h), ?_⟩
      refine wm_c ⟨(wk_L_law_L_law_r14 _ (wm_1 wm_h)), ?_⟩
      refine wm_c ⟨(wk_L_law_L_law_r14 _ (wm_2 wm_h)), ?_⟩
      refine wm_c ⟨(wk_L_law_L_law_r16 _ (wm_2 (wm_1 wm_h))), ?_⟩
      refine wm_c ⟨(wk_L_law_L_law_r16 _ (wm_4 wm_h)), ?_⟩
      refine wm_c ⟨(wk_L_law_L_law_r16 _ (wm_4 (wm_1 wm_h))), ?_⟩
      refine wm_c ⟨(wk_L_law_L_law_r16 _ (wm_4 (wm_2 wm_h))), ?_⟩
      exact wm_n
  · exact wk_L_law_X80
set_option maxRecDepth 20000 in
theorem gL_law_X8_add : GoodIn wsL_law (wsV RL 43 RX8 yX8_add wsX8_add) := by
  refine goodIn_app (goodIn_sub ?_ ?_) ggL_law_X8_add
  · exact wm_c ⟨(wk_L_law_L_law_r15 _ (wm_16 (wm_2 (wm_1 wm_h)))), wm_c ⟨(wk_L_law_L_law_r15 _ (wm_16 (wm_4 wm_h))), wm_c ⟨(wk_L_law_L_law_r15 _ (wm_16 (wm_4 (wm_1 wm_h)))), wm_c ⟨(wk_L_law_L_law_r1 _ (wm_4 (wm_1 wm_h))), wm_n⟩⟩⟩⟩
  · decide +kernel
set_option maxRecDepth 20000 in
theorem ggL_law_X7_times : GoodIn wsL_law wsX7_times := by
  refine goodIn_sub ?_ gd_X7_times
  unfold wsX7_times
  refine wm_c ⟨(wk_L_law_L_law_r16 _ (wm_8 (wm_2 wm_h))), ?_⟩
  refine wm_a ⟨?_, ?_⟩
  · refine wm_a ⟨?_, ?_⟩
    · refine wm_a ⟨?_, ?_⟩
      · unfold wsX7_times_r1
        refine wm_c ⟨(wk_L_law_L_law_r2 _ (wm_2 (wm_1 wm_h))), ?_⟩
        refine wm_c ⟨(wk_L_law_L_law_r1 _ (wm_16 (wm_4 (wm_2 (wm_1 wm_h))))), ?_⟩
        refine wm_c ⟨(wk_L_law_L_law_r11 _ (wm_16 (wm_1 wm_h))), ?_⟩
        refine wm_c ⟨(wk_L_law_L_law_r11 _ (wm_16 (wm_2 wm_h))), ?_⟩
        refine wm_c ⟨(wk_L_law_L_law_r1 _ (wm_2 wm_h)), ?_⟩
        refine wm_c ⟨(wk_L_law_L_law_r11 _ (wm_16 (wm_2 (wm_1 wm_h)))), ?_⟩
        refine wm_c ⟨(wk_L_law_L_law_r16 _ (wm_8 (wm_2 (wm_1 wm_h)))), ?_⟩
        refine wm_c ⟨(wk_L_law_L_law_r16 _ (wm_8 (wm_4 wm_h))), ?_⟩
        refine wm_c ⟨(wk_L_law_L_law_r16 _ (wm_8 (wm_4 (wm_1 wm_h)))), ?_⟩
        refine wm_c ⟨(wk_L_law_L_law_r2 _ (wm_2 wm_h)), ?_⟩
        refine wm_c ⟨(wk_L_law_L_law_r16 _ (wm_8 (wm_4 (wm_2 wm_h)))), ?_⟩
        refine wm_c ⟨(wk_L_law_L_law_r4 _ (wm_4 wm_h)), ?_⟩
        refine wm_c ⟨(wk_L_law_L_law_r3 _ (wm_16 (wm_2 wm_h))), ?_⟩
        refine wm_c ⟨(wk_L_law_L_law_r16 _ (wm_8 (wm_4 (wm_2 (wm_1 wm_h))))), ?_⟩
        refine wm_c ⟨(wk_L_law_L_law_r11 _ (wm_16 (wm_4 (wm_1 wm_h)))), ?_⟩
        refine wm_c ⟨(wk_L_law_L_law_r6 _ (wm_1 wm_h)), ?_⟩
        refine wm_c ⟨(wk_L_law_L_law_r11 _ (wm_16 (wm_4 (wm_2 wm_h)))), ?_⟩
        refine wm_c ⟨(wk_L_law_L_law_r16 _ (wm_16 wm_h)), ?_⟩
        refine wm_c ⟨(wk_L_law_L_law_r16 _ (wm_16 (wm_1 wm_h))), ?_⟩
        refine wm_c ⟨(wk_L_law_L_law_r16 _ (wm_16 (wm_2 wm_h))), ?_⟩
        refine wm_c ⟨(wk_L_law_L_law_r16 _ (wm_16 (wm_2 (wm_1 wm_h)))), ?_⟩
        refine wm_c ⟨(wk_L_law_L_law_r3 _ (wm_16 (wm_4 (wm_2 wm_h)))), ?_⟩
        refine wm_c ⟨(wk_L_law_L_law_r4 _ wm_h), ?_⟩
        refine wm_c ⟨(wk_L_law_L_law_r16 _ (wm_16 (wm_4 wm_h))), ?_⟩
        exact wm_n
      · unfold wsX7_times_r2
        refine wm_c ⟨(wk_L_law_L_law_r16 _ (wm_16 (wm_4 (wm_1 wm_h)))), ?_⟩
        refine wm_c ⟨(wk_L_law_L_law_r16 _ (wm_16 (wm_4 (wm_2 wm_h)))), ?_⟩
        refine wm_c ⟨(wk_L_law_L_law_r16 _ (wm_16 (wm_4 (wm_2 (wm_1 wm_h))))), ?_⟩
        refine wm_c ⟨(wk_L_law_L_law_r17 _ wm_h), ?_⟩
        refine wm_c ⟨(wk_L_law_L_law_r17 _ (wm_1 wm_h)), ?_⟩
        refine wm_c ⟨(wk_L_law_L_law_r6 _ (wm_8 (wm_4 (wm_2 wm_h)))), ?_⟩
        refine wm_c ⟨(wk_L_law_L_law_r6 _ (wm_8 (wm_4 (wm_2 (wm_1 wm_h))))), ?_⟩
        refine wm_c ⟨(wk_L_law_L_law_r6 _ (wm_16 wm_h)), ?_⟩
        exact wm_n
    · exact wk_L_law_X70
  · exact wk_L_law_X00
set_option maxRecDepth 20000 in
theorem gL_law_X7_times : GoodIn wsL_law (wsV RL 44 RX7 yX7_times wsX7_times) := by
  refine goodIn_app (goodIn_sub ?_ ?_) ggL_law_X7_times
  · exact wm_c ⟨(wk_L_law_L_law_r16 _ (wm_4 (wm_2 (wm_1 wm_h)))), wm_c ⟨(wk_L_law_L_law_r16 _ (wm_8 wm_h)), wm_c ⟨(wk_L_law_L_law_r16 _ (wm_8 (wm_1 wm_h))), wm_c ⟨(wk_L_law_L_law_r1 _ (wm_2 wm_h)), wm_n⟩⟩⟩⟩
  · decide +kernel
set_option maxRecDepth 20000 in
theorem ggL_law_X8_times : GoodIn wsL_law wsX8_times := by
  refine goodIn_sub ?_ gd_X8_times
  unfold wsX8_times
  refine wm_c ⟨(wk_L_law_L_law_r17 _ (wm_4 (wm_1 wm_h))), ?_⟩
  refine wm_a ⟨?_, ?_⟩
  · refine wm_a ⟨?_, ?_⟩
    · unfold wsX8_times_r1
      refine wm_c ⟨(wk_L_law_L_law_r17 _ (wm_4 (wm_2 wm_h))), ?_⟩
      refine wm_c ⟨(wk_L_law_L_law_r17 _ (wm_4 (wm_2 (wm_1 wm_h)))), ?_⟩
      refine wm_c ⟨(wk_L_law_L_law_r17 _ (wm_8 wm_h)), ?_⟩
      refine wm_c ⟨(wk_L_law_L_law_r1 _ (wm_4 (wm_1 wm_h))), ?_⟩
      refine wm_c ⟨(wk_L_law_L_law_r17 _ (wm_8 (wm_1 wm_h))), ?_⟩
      refine wm_c ⟨(wk_L_law_L_law_r12 _ (wm_2 (wm_1 wm_h))), ?_⟩
      refine wm_c ⟨(wk_L_law_L_law_r12 _ (wm_4 wm_h)), ?_⟩
      refine wm_c ⟨(wk_L_law_L_law_r12 _ (wm_4 (wm_1 wm_h))), ?_⟩
      refine wm_c ⟨(wk_L_law_L_law_r12 _ (wm_4 (wm_2 wm_h))), ?_⟩
      refine wm_c ⟨(wk_L_law_L_law_r12 _ (wm_4 (wm_2 (wm_1 wm_h)))), ?_⟩
      refine wm_c ⟨(wk_L_law_L_law_r12 _ (wm_8 wm_h)), ?_⟩
      refine wm_c ⟨(wk_L_law_L_law_r12 _ (wm_8 (wm_1 wm_h))), ?_⟩
      refine wm_c ⟨(wk_L_law_L_law_r17 _ (wm_8 (wm_2 wm_h))), ?_⟩
      refine wm_c ⟨(wk_L_law_L_law_r17 _ (wm_8 (wm_2 (wm_1 wm_h)))), ?_⟩
      refine wm_c ⟨(wk_L_law_L_law_r17 _ (wm_8 (wm_4 wm_h))), ?_⟩
      refine wm_c ⟨(wk_L_law_L_law_r17 _ (wm_8 (wm_4 (wm_1 wm_h)))), ?_⟩
      refine wm_c ⟨(wk_L_law_L_law_r10 _ wm_h), ?_⟩
      refine wm_c ⟨(wk_L_law_L_law_r9 _ wm_h), ?_⟩
      refine wm_c ⟨(wk_L_law_L_law_r9 _ (wm_2 wm_h)), ?_⟩
      refine wm_c ⟨(wk_L_law_L_law_r11 _ (wm_8 (wm_1 wm_h))), ?_⟩
      refine wm_c ⟨(wk_L_law_L_law_r12 _ (wm_8 (wm_2 wm_h))), ?_⟩
      refine wm_c ⟨(wk_L_law_L_law_r12 _ (wm_8 (wm_2 (wm_1 wm_h)))), ?_⟩
      refine wm_c ⟨(wk_L_law_L_law_r12 _ (wm_8 (wm_4 wm_h))), ?_⟩
      refine wm_c ⟨(wk_L_law_L_law_r12 _ (wm_8 (wm_4 (wm_1 wm_h)))), ?_⟩
      exact wm_n
    · unfold wsX8_times_r2
      refine wm_c ⟨(wk_L_law_L_law_r11 _ (wm_1 wm_h)), ?_⟩
      refine wm_c ⟨(wk_L_law_L_law_r11 _ (wm_2 wm_h)), ?_⟩
      refine wm_c ⟨(wk_L_law_L_law_r11 _ (wm_2 (wm_1 wm_h))), ?_⟩
      refine wm_c ⟨(wk_L_law_L_law_r11 _ (wm_4 wm_h)), ?_⟩
      refine wm_c ⟨(wk_L_law_L_law_r8 _ (wm_16 (wm_4 (wm_2 (wm_1 wm_h))))), ?_⟩
      refine wm_c ⟨(wk_L_law_L_law_r8 _ (wm_16 (wm_4 (wm_2 wm_h)))), ?_⟩
      refine wm_c ⟨(wk_L_law_L_law_r10 _ (wm_8 wm_h)), ?_⟩
      refine wm_c ⟨(wk_L_law_L_law_r10 _ (wm_8 (wm_1 wm_h))), ?_⟩
      refine wm_c ⟨(wk_L_law_L_law_r10 _ (wm_8 (wm_2 wm_h))), ?_⟩
      refine wm_c ⟨(wk_L_law_L_law_r10 _ (wm_8 (wm_2 (wm_1 wm_h)))), ?_⟩
      refine wm_c ⟨(wk_L_law_L_law_r15 _ (wm_16 (wm_4 (wm_2 (wm_1 wm_h))))), ?_⟩
      refine wm_c ⟨(wk_L_law_L_law_r16 _ wm_h), ?_⟩
      refine wm_c ⟨(wk_L_law_L_law_r16 _ (wm_1 wm_h)), ?_⟩
      refine wm_c ⟨(wk_L_law_L_law_r16 _ (wm_2 wm_h)), ?_⟩
      exact wm_n
  · exact wk_L_law_X80
set_option maxRecDepth 20000 in
theorem gL_law_X8_times : GoodIn wsL_law (wsV RL 48 RX8 yX8_times wsX8_times) := by
  refine goodIn_app (goodIn_sub ?_ ?_) ggL_law_X8_times
  · exact wm_c ⟨(wk_L_law_L_law_r17 _ (wm_2 wm_h)), wm_c ⟨(wk_L_law_L_law_r17 _ (wm_2 (wm_1 wm_h))), wm_c ⟨(wk_L_law_L_law_r17 _ (wm_4 wm_h)), wm_c ⟨(wk_L_law_L_law_r1 _ (wm_4 (wm_1 wm_h))), wm_n⟩⟩⟩⟩
  · decide +kernel
set_option maxRecDepth 20000 in
theorem ggL_law_X7_bracket : GoodIn wsL_law wsX7_bracket := by
  refine goodIn_sub ?_ gd_X7_bracket
  unfold wsX7_bracket
  refine wm_c ⟨(wk_L_law_L_law_r17 _ (wm_16 (wm_1 wm_h))), ?_⟩
  refine wm_a ⟨?_, ?_⟩
  · refine wm_a ⟨?_, ?_⟩
    · refine wm_a ⟨?_, ?_⟩
      · unfold wsX7_bracket_r1
        refine wm_c ⟨(wk_L_law_L_law_r2 _ (wm_2 (wm_1 wm_h))), ?_⟩
        refine wm_c ⟨(wk_L_law_L_law_r1 _ (wm_16 (wm_4 (wm_2 (wm_1 wm_h))))), ?_⟩
        refine wm_c ⟨(wk_L_law_L_law_r11 _ (wm_16 (wm_1 wm_h))), ?_⟩
        refine wm_c ⟨(wk_L_law_L_law_r11 _ (wm_16 (wm_2 wm_h))), ?_⟩
        refine wm_c ⟨(wk_L_law_L_law_r1 _ (wm_2 wm_h)), ?_⟩
        refine wm_c ⟨(wk_L_law_L_law_r11 _ (wm_16 (wm_2 (wm_1 wm_h)))), ?_⟩
        refine wm_c ⟨(wk_L_law_L_law_r17 _ (wm_16 (wm_2 wm_h))), ?_⟩
        refine wm_c ⟨(wk_L_law_L_law_r17 _ (wm_16 (wm_2 (wm_1 wm_h)))), ?_⟩
        refine wm_c ⟨(wk_L_law_L_law_r17 _ (wm_16 (wm_4 wm_h))), ?_⟩
        refine wm_c ⟨(wk_L_law_L_law_r2 _ (wm_2 wm_h)), ?_⟩
        refine wm_c ⟨(wk_L_law_L_law_r17 _ (wm_16 (wm_4 (wm_1 wm_h)))), ?_⟩
        refine wm_c ⟨(wk_L_law_L_law_r4 _ (wm_4 wm_h)), ?_⟩
        refine wm_c ⟨(wk_L_law_L_law_r3 _ (wm_16 (wm_2 wm_h))), ?_⟩
        refine wm_c ⟨(wk_L_law_L_law_r17 _ (wm_16 (wm_4 (wm_2 wm_h)))), ?_⟩
        refine wm_c ⟨(wk_L_law_L_law_r16 _ (wm_8 (wm_4 (wm_2 (wm_1 wm_h))))), ?_⟩
        refine wm_c ⟨(wk_L_law_L_law_r11 _ (wm_16 (wm_4 (wm_1 wm_h)))), ?_⟩
        refine wm_c ⟨(wk_L_law_L_law_r6 _ (wm_1 wm_h)), ?_⟩
        refine wm_c ⟨(wk_L_law_L_law_r11 _ (wm_16 (wm_4 (wm_2 wm_h)))), ?_⟩
        refine wm_c ⟨(wk_L_law_L_law_r16 _ (wm_16 wm_h)), ?_⟩
        refine wm_c ⟨(wk_L_law_L_law_r16 _ (wm_16 (wm_1 wm_h))), ?_⟩
        refine wm_c ⟨(wk_L_law_L_law_r16 _ (wm_16 (wm_2 wm_h))), ?_⟩
        refine wm_c ⟨(wk_L_law_L_law_r16 _ (wm_16 (wm_2 (wm_1 wm_h)))), ?_⟩
        refine wm_c ⟨(wk_L_law_L_law_r3 _ (wm_16 (wm_4 (wm_2 wm_h)))), ?_⟩
        refine wm_c ⟨(wk_L_law_L_law_r4 _ wm_h), ?_⟩
        exact wm_n
      · unfold wsX7_bracket_r2
        refine wm_c ⟨(wk_L_law_L_law_r16 _ (wm_16 (wm_4 wm_h))), ?_⟩
        refine wm_c ⟨(wk_L_law_L_law_r16 _ (wm_16 (wm_4 (wm_1 wm_h)))), ?_⟩
        refine wm_c ⟨(wk_L_law_L_law_r16 _ (wm_16 (wm_4 (wm_2 wm_h)))), ?_⟩
        refine wm_c ⟨(wk_L_law_L_law_r16 _ (wm_16 (wm_4 (wm_2 (wm_1 wm_h))))), ?_⟩
        refine wm_c ⟨(wk_L_law_L_law_r17 _ wm_h), ?_⟩
        refine wm_c ⟨(wk_L_law_L_law_r17 _ (wm_1 wm_h)), ?_⟩
        refine wm_c ⟨(wk_L_law_L_law_r6 _ (wm_8 (wm_4 (wm_2 wm_h)))), ?_⟩
        refine wm_c ⟨(wk_L_law_L_law_r6 _ (wm_8 (wm_4 (wm_2 (wm_1 wm_h))))), ?_⟩
        refine wm_c ⟨(wk_L_law_L_law_r6 _ (wm_16 wm_h)), ?_⟩
        exact wm_n
    · exact wk_L_law_X70
  · exact wk_L_law_X00
set_option maxRecDepth 20000 in
theorem gL_law_X7_bracket : GoodIn wsL_law (wsV RL 49 RX7 yX7_bracket wsX7_bracket) := by
  refine goodIn_app (goodIn_sub ?_ ?_) ggL_law_X7_bracket
  · exact wm_c ⟨(wk_L_law_L_law_r17 _ (wm_8 (wm_4 (wm_2 wm_h)))), wm_c ⟨(wk_L_law_L_law_r17 _ (wm_8 (wm_4 (wm_2 (wm_1 wm_h))))), wm_c ⟨(wk_L_law_L_law_r17 _ (wm_16 wm_h)), wm_c ⟨(wk_L_law_L_law_r1 _ (wm_2 wm_h)), wm_n⟩⟩⟩⟩
  · decide +kernel
set_option maxRecDepth 20000 in
theorem ggL_law_X8_bracket : GoodIn wsL_law wsX8_bracket := by
  refine goodIn_sub ?_ gd_X8_bracket
  unfold wsX8_bracket
  refine wm_c ⟨(wk_L_law_L_law_r18 _ (wm_2 wm_h)), ?_⟩
  refine wm_a ⟨?_, ?_⟩
  · refine wm_a ⟨?_, ?_⟩
    · unfold wsX8_bracket_r1
      refine wm_c ⟨(wk_L_law_L_law_r17 _ (wm_4 (wm_2 wm_h))), ?_⟩
      refine wm_c ⟨(wk_L_law_L_law_r17 _ (wm_4 (wm_2 (wm_1 wm_h)))), ?_⟩
      refine wm_c ⟨(wk_L_law_L_law_r17 _ (wm_8 wm_h)), ?_⟩
      refine wm_c ⟨(wk_L_law_L_law_r1 _ (wm_4 (wm_1 wm_h))), ?_⟩
      refine wm_c ⟨(wk_L_law_L_law_r17 _ (wm_8 (wm_1 wm_h))), ?_⟩
      refine wm_c ⟨(wk_L_law_L_law_r12 _ (wm_2 (wm_1 wm_h))), ?_⟩
      refine wm_c ⟨(wk_L_law_L_law_r12 _ (wm_4 wm_h)), ?_⟩
      refine wm_c ⟨(wk_L_law_L_law_r12 _ (wm_4 (wm_1 wm_h))), ?_⟩
      refine wm_c ⟨(wk_L_law_L_law_r12 _ (wm_4 (wm_2 wm_h))), ?_⟩
      refine wm_c ⟨(wk_L_law_L_law_r12 _ (wm_4 (wm_2 (wm_1 wm_h)))), ?_⟩
      refine wm_c ⟨(wk_L_law_L_law_r12 _ (wm_8 wm_h)), ?_⟩
      refine wm_c ⟨(wk_L_law_L_law_r12 _ (wm_8 (wm_1 wm_h))), ?_⟩
      refine wm_c ⟨(wk_L_law_L_law_r18 _ (wm_2 (wm_1 wm_h))), ?_⟩
      refine wm_c ⟨(wk_L_law_L_law_r18 _ (wm_4 wm_h)), ?_⟩
      refine wm_c ⟨(wk_L_law_L_law_r18 _ (wm_4 (wm_1 wm_h))), ?_⟩
      refine wm_c ⟨(wk_L_law_L_law_r18 _ (wm_4 (wm_2 wm_h))), ?_⟩
      refine wm_c ⟨(wk_L_law_L_law_r15 _ (wm_4 wm_h)), ?_⟩
      refine wm_c ⟨(wk_L_law_L_law_r17 _ (wm_8 (wm_2 wm_h))), ?_⟩
      refine wm_c ⟨(wk_L_law_L_law_r17 _ (wm_8 (wm_2 (wm_1 wm_h)))), ?_⟩
      refine wm_c ⟨(wk_L_law_L_law_r17 _ (wm_8 (wm_4 wm_h))), ?_⟩
      refine wm_c ⟨(wk_L_law_L_law_r17 _ (wm_8 (wm_4 (wm_1 wm_h)))), ?_⟩
      refine wm_c ⟨(wk_L_law_L_law_r10 _ wm_h), ?_⟩
      refine wm_c ⟨(wk_L_law_L_law_r9 _ wm_h), ?_⟩
      refine wm_c ⟨(wk_L_law_L_law_r9 _ (wm_2 wm_h)), ?_⟩
      exact wm_n
    · unfold wsX8_bracket_r2
      refine wm_c ⟨(wk_L_law_L_law_r11 _ (wm_8 (wm_1 wm_h))), ?_⟩
      refine wm_c ⟨(wk_L_law_L_law_r12 _ (wm_8 (wm_2 wm_h))), ?_⟩
      refine wm_c ⟨(wk_L_law_L_law_r12 _ (wm_8 (wm_2 (wm_1 wm_h)))), ?_⟩
      refine wm_c ⟨(wk_L_law_L_law_r12 _ (wm_8 (wm_4 wm_h))), ?_⟩
      refine wm_c ⟨(wk_L_law_L_law_r12 _ (wm_8 (wm_4 (wm_1 wm_h)))), ?_⟩
      refine wm_c ⟨(wk_L_law_L_law_r11 _ (wm_1 wm_h)), ?_⟩
      refine wm_c ⟨(wk_L_law_L_law_r11 _ (wm_2 wm_h)), ?_⟩
      refine wm_c ⟨(wk_L_law_L_law_r11 _ (wm_2 (wm_1 wm_h))), ?_⟩
      refine wm_c ⟨(wk_L_law_L_law_r11 _ (wm_4 wm_h)), ?_⟩
      refine wm_c ⟨(wk_L_law_L_law_r8 _ (wm_16 (wm_4 (wm_2 (wm_1 wm_h))))), ?_⟩
      refine wm_c ⟨(wk_L_law_L_law_r8 _ (wm_16 (wm_4 (wm_2 wm_h)))), ?_⟩
      refine wm_c ⟨(wk_L_law_L_law_r10 _ (wm_8 wm_h)), ?_⟩
      refine wm_c ⟨(wk_L_law_L_law_r10 _ (wm_8 (wm_1 wm_h))), ?_⟩
      refine wm_c ⟨(wk_L_law_L_law_r10 _ (wm_8 (wm_2 wm_h))), ?_⟩
      refine wm_c ⟨(wk_L_law_L_law_r10 _ (wm_8 (wm_2 (wm_1 wm_h)))), ?_⟩
      refine wm_c ⟨(wk_L_law_L_law_r16 _ (wm_2 (wm_1 wm_h))), ?_⟩
      refine wm_c ⟨(wk_L_law_L_law_r16 _ (wm_4 wm_h)), ?_⟩
      refine wm_c ⟨(wk_L_law_L_law_r16 _ (wm_4 (wm_1 wm_h))), ?_⟩
      refine wm_c ⟨(wk_L_law_L_law_r16 _ (wm_4 (wm_2 wm_h))), ?_⟩
      refine wm_c ⟨(wk_L_law_L_law_r15 _ (wm_16 (wm_4 (wm_2 (wm_1 wm_h))))), ?_⟩
      refine wm_c ⟨(wk_L_law_L_law_r16 _ wm_h), ?_⟩
      refine wm_c ⟨(wk_L_law_L_law_r16 _ (wm_1 wm_h)), ?_⟩
      refine wm_c ⟨(wk_L_law_L_law_r16 _ (wm_2 wm_h)), ?_⟩
      exact wm_n
  · exact wk_L_law_X80
set_option maxRecDepth 20000 in
theorem gL_law_X8_bracket : GoodIn wsL_law (wsV RL 52 RX8 yX8_bracket wsX8_bracket) := by
  refine goodIn_app (goodIn_sub ?_ ?_) ggL_law_X8_bracket
  · exact wm_c ⟨(wk_L_law_L_law_r17 _ (wm_16 (wm_4 (wm_2 (wm_1 wm_h))))), wm_c ⟨(wk_L_law_L_law_r18 _ wm_h), wm_c ⟨(wk_L_law_L_law_r18 _ (wm_1 wm_h)), wm_c ⟨(wk_L_law_L_law_r1 _ (wm_4 (wm_1 wm_h))), wm_n⟩⟩⟩⟩
  · decide +kernel
