set_option maxRecDepth 20000 in
theorem gL_law_X8_step : GoodIn wsL_law (wsV RL 128 RX8 yX8_step wsX8_step) := by
  refine goodIn_app (goodIn_sub ?_ ?_) ggL_law_X8_step
  · exact wm_c ⟨(wk_L_law_L_law_r33 _ (wm_16 (wm_4 (wm_2 (wm_1 wm_h))))), wm_c ⟨(wk_L_law_L_law_r34 _ wm_h), wm_c ⟨(wk_L_law_L_law_r34 _ (wm_1 wm_h)), wm_c ⟨(wk_L_law_L_law_r1 _ (wm_4 (wm_1 wm_h))), wm_n⟩⟩⟩⟩
  · decide +kernel
set_option maxRecDepth 20000 in
theorem ggL_law_X7_unstep : GoodIn wsL_law wsX7_unstep := by
  refine goodIn_sub ?_ gd_X7_unstep
  unfold wsX7_unstep
  refine wm_c ⟨(wk_L_law_L_law_r34 _ (wm_8 (wm_1 wm_h))), ?_⟩
  refine wm_a ⟨?_, ?_⟩
  · refine wm_a ⟨?_, ?_⟩
    · refine wm_c ⟨(wk_L_law_L_law_r2 _ (wm_8 (wm_2 (wm_1 wm_h)))), ?_⟩
      refine wm_c ⟨(wk_L_law_L_law_r34 _ (wm_8 (wm_2 wm_h))), ?_⟩
      refine wm_c ⟨(wk_L_law_L_law_r34 _ (wm_8 (wm_2 (wm_1 wm_h)))), ?_⟩
      refine wm_c ⟨(wk_L_law_L_law_r34 _ (wm_8 (wm_4 wm_h))), ?_⟩
      refine wm_c ⟨(wk_L_law_L_law_r2 _ (wm_8 (wm_2 wm_h))), ?_⟩
      refine wm_c ⟨(wk_L_law_L_law_r34 _ (wm_8 (wm_4 (wm_1 wm_h)))), ?_⟩
      refine wm_c ⟨(wk_L_law_L_law_r33 _ (wm_16 (wm_4 (wm_2 wm_h)))), ?_⟩
      exact wm_n
    · exact wk_L_law_X70
  · exact wk_L_law_X50
set_option maxRecDepth 20000 in
theorem gL_law_X7_unstep : GoodIn wsL_law (wsV RL 129 RX7 yX7_unstep wsX7_unstep) := by
  refine goodIn_app (goodIn_sub ?_ ?_) ggL_law_X7_unstep
  · exact wm_c ⟨(wk_L_law_L_law_r34 _ (wm_4 (wm_2 wm_h))), wm_c ⟨(wk_L_law_L_law_r34 _ (wm_4 (wm_2 (wm_1 wm_h)))), wm_c ⟨(wk_L_law_L_law_r34 _ (wm_8 wm_h)), wm_c ⟨(wk_L_law_L_law_r1 _ (wm_2 wm_h)), wm_n⟩⟩⟩⟩
  · decide +kernel
set_option maxRecDepth 20000 in
theorem ggL_law_X8_unstep : GoodIn wsL_law wsX8_unstep := by
  refine goodIn_sub ?_ gd_X8_unstep
  unfold wsX8_unstep
  refine wm_c ⟨(wk_L_law_L_law_r34 _ (wm_16 (wm_1 wm_h))), ?_⟩
  refine wm_a ⟨?_, ?_⟩
  · refine wm_c ⟨(wk_L_law_L_law_r34 _ (wm_4 (wm_1 wm_h))), ?_⟩
    exact wm_n
  · exact wk_L_law_X80
set_option maxRecDepth 20000 in
theorem gL_law_X8_unstep : GoodIn wsL_law (wsV RL 133 RX8 yX8_unstep wsX8_unstep) := by
  refine goodIn_app (goodIn_sub ?_ ?_) ggL_law_X8_unstep
  · exact wm_c ⟨(wk_L_law_L_law_r34 _ (wm_8 (wm_4 (wm_2 wm_h)))), wm_c ⟨(wk_L_law_L_law_r34 _ (wm_8 (wm_4 (wm_2 (wm_1 wm_h))))), wm_c ⟨(wk_L_law_L_law_r34 _ (wm_16 wm_h)), wm_c ⟨(wk_L_law_L_law_r1 _ (wm_4 (wm_1 wm_h))), wm_n⟩⟩⟩⟩
  · decide +kernel
set_option maxRecDepth 20000 in
theorem ggL_law_X7_scheme : GoodIn wsL_law wsX7_scheme := by
  refine goodIn_sub ?_ gd_X7_scheme
  unfold wsX7_scheme
  refine wm_c ⟨(wk_L_law_L_law_r34 _ (wm_16 (wm_4 (wm_1 wm_h)))), ?_⟩
  refine wm_a ⟨?_, ?_⟩
  · refine wm_a ⟨?_, ?_⟩
    · refine wm_a ⟨?_, ?_⟩
      · refine wm_a ⟨?_, ?_⟩
        · refine wm_a ⟨?_, ?_⟩
          · unfold wsX7_scheme_r1
            refine wm_c ⟨(wk_L_law_L_law_r2 _ (wm_8 (wm_2 (wm_1 wm_h)))), ?_⟩
            refine wm_c ⟨(wk_L_law_L_law_r1 _ (wm_16 (wm_4 (wm_2 (wm_1 wm_h))))), ?_⟩
            refine wm_c ⟨(wk_L_law_L_law_r11 _ (wm_16 (wm_1 wm_h))), ?_⟩
            refine wm_c ⟨(wk_L_law_L_law_r11 _ (wm_16 (wm_2 wm_h))), ?_⟩
            refine wm_c ⟨(wk_L_law_L_law_r1 _ (wm_2 wm_h)), ?_⟩
            refine wm_c ⟨(wk_L_law_L_law_r11 _ (wm_16 (wm_2 (wm_1 wm_h)))), ?_⟩
            refine wm_c ⟨(wk_L_law_L_law_r34 _ (wm_16 (wm_4 (wm_2 wm_h)))), ?_⟩
            refine wm_c ⟨(wk_L_law_L_law_r34 _ (wm_16 (wm_4 (wm_2 (wm_1 wm_h))))), ?_⟩
            refine wm_c ⟨(wk_L_law_L_law_r35 _ wm_h), ?_⟩
            refine wm_c ⟨(wk_L_law_L_law_r2 _ (wm_8 (wm_2 wm_h))), ?_⟩
            refine wm_c ⟨(wk_L_law_L_law_r35 _ (wm_1 wm_h)), ?_⟩
            refine wm_c ⟨(wk_L_law_L_law_r7 _ (wm_4 (wm_2 (wm_1 wm_h)))), ?_⟩
            refine wm_c ⟨(wk_L_law_L_law_r35 _ (wm_2 wm_h)), ?_⟩
            refine wm_c ⟨(wk_L_law_L_law_r33 _ (wm_16 (wm_4 (wm_2 wm_h)))), ?_⟩
            refine wm_c ⟨(wk_L_law_L_law_r7 _ (wm_8 wm_h)), ?_⟩
            refine wm_c ⟨(wk_L_law_L_law_r7 _ (wm_8 (wm_1 wm_h))), ?_⟩
            refine wm_c ⟨(wk_L_law_L_law_r35 _ (wm_2 (wm_1 wm_h))), ?_⟩
            refine wm_c ⟨(wk_L_law_L_law_r20 _ (wm_8 (wm_2 (wm_1 wm_h)))), ?_⟩
            refine wm_c ⟨(wk_L_law_L_law_r20 _ (wm_8 (wm_4 wm_h))), ?_⟩
            refine wm_c ⟨(wk_L_law_L_law_r2 _ (wm_2 wm_h)), ?_⟩
            refine wm_c ⟨(wk_L_law_L_law_r20 _ (wm_8 (wm_4 (wm_1 wm_h)))), ?_⟩
            refine wm_c ⟨(wk_L_law_L_law_r16 _ (wm_8 (wm_4 (wm_2 (wm_1 wm_h))))), ?_⟩
            refine wm_c ⟨(wk_L_law_L_law_r11 _ (wm_16 (wm_4 (wm_1 wm_h)))), ?_⟩
            refine wm_c ⟨(wk_L_law_L_law_r6 _ (wm_1 wm_h)), ?_⟩
            exact wm_n
          · refine wm_a ⟨?_, ?_⟩
            · unfold wsX7_scheme_r2
              refine wm_c ⟨(wk_L_law_L_law_r11 _ (wm_16 (wm_4 (wm_2 wm_h)))), ?_⟩
              refine wm_c ⟨(wk_L_law_L_law_r35 _ (wm_4 wm_h)), ?_⟩
              refine wm_c ⟨(wk_L_law_L_law_r35 _ (wm_4 (wm_1 wm_h))), ?_⟩
              refine wm_c ⟨(wk_L_law_L_law_r35 _ (wm_4 (wm_2 wm_h))), ?_⟩
              refine wm_c ⟨(wk_L_law_L_law_r35 _ (wm_4 (wm_2 (wm_1 wm_h)))), ?_⟩
              refine wm_c ⟨(wk_L_law_L_law_r7 _ (wm_4 (wm_2 wm_h))), ?_⟩
              refine wm_c ⟨(wk_L_law_L_law_r35 _ (wm_8 wm_h)), ?_⟩
              refine wm_c ⟨(wk_L_law_L_law_r35 _ (wm_8 (wm_1 wm_h))), ?_⟩
              refine wm_c ⟨(wk_L_law_L_law_r35 _ (wm_8 (wm_2 wm_h))), ?_⟩
              refine wm_c ⟨(wk_L_law_L_law_r35 _ (wm_8 (wm_2 (wm_1 wm_h)))), ?_⟩
              refine wm_c ⟨(wk_L_law_L_law_r4 _ (wm_8 (wm_4 (wm_2 wm_h)))), ?_⟩
              refine wm_c ⟨(wk_L_law_L_law_r4 _ (wm_8 (wm_2 wm_h))), ?_⟩
              refine wm_c ⟨(wk_L_law_L_law_r4 _ (wm_8 (wm_4 (wm_2 (wm_1 wm_h))))), ?_⟩
              refine wm_c ⟨(wk_L_law_L_law_r4 _ (wm_16 wm_h)), ?_⟩
              refine wm_c ⟨(wk_L_law_L_law_r35 _ (wm_8 (wm_4 wm_h))), ?_⟩
              refine wm_c ⟨(wk_L_law_L_law_r4 _ (wm_8 (wm_1 wm_h))), ?_⟩
              refine wm_c ⟨(wk_L_law_L_law_r4 _ (wm_8 (wm_2 (wm_1 wm_h)))), ?_⟩
              refine wm_c ⟨(wk_L_law_L_law_r4 _ (wm_8 (wm_4 wm_h))), ?_⟩
              refine wm_c ⟨(wk_L_law_L_law_r4 _ (wm_8 (wm_4 (wm_1 wm_h)))), ?_⟩
              refine wm_c ⟨(wk_L_law_L_law_r35 _ (wm_8 (wm_4 (wm_1 wm_h)))), ?_⟩
              refine wm_c ⟨(wk_L_law_L_law_r16 _ (wm_8 (wm_4 wm_h))), ?_⟩
              refine wm_c ⟨(wk_L_law_L_law_r16 _ (wm_8 (wm_4 (wm_1 wm_h)))), ?_⟩
              refine wm_c ⟨(wk_L_law_L_law_r16 _ (wm_8 (wm_4 (wm_2 wm_h)))), ?_⟩
              refine wm_c ⟨(wk_L_law_L_law_r4 _ (wm_4 wm_h)), ?_⟩
              exact wm_n
            · refine wm_a ⟨?_, ?_⟩
              · unfold wsX7_scheme_r3
                refine wm_c ⟨(wk_L_law_L_law_r3 _ (wm_16 (wm_2 wm_h))), ?_⟩
                refine wm_c ⟨(wk_L_law_L_law_r16 _ (wm_16 wm_h)), ?_⟩
                refine wm_c ⟨(wk_L_law_L_law_r16 _ (wm_16 (wm_1 wm_h))), ?_⟩
                refine wm_c ⟨(wk_L_law_L_law_r16 _ (wm_16 (wm_2 wm_h))), ?_⟩
                refine wm_c ⟨(wk_L_law_L_law_r16 _ (wm_16 (wm_2 (wm_1 wm_h)))), ?_⟩
                refine wm_c ⟨(wk_L_law_L_law_r3 _ (wm_16 (wm_4 (wm_2 wm_h)))), ?_⟩
                refine wm_c ⟨(wk_L_law_L_law_r4 _ wm_h), ?_⟩
                refine wm_c ⟨(wk_L_law_L_law_r16 _ (wm_16 (wm_4 wm_h))), ?_⟩
                refine wm_c ⟨(wk_L_law_L_law_r16 _ (wm_16 (wm_4 (wm_1 wm_h)))), ?_⟩
                refine wm_c ⟨(wk_L_law_L_law_r16 _ (wm_16 (wm_4 (wm_2 wm_h)))), ?_⟩
                refine wm_c ⟨(wk_L_law_L_law_r16 _ (wm_16 (wm_4 (wm_2 (wm_1 wm_h))))), ?_⟩
                refine wm_c ⟨(wk_L_law_L_law_r17 _ wm_h), ?_⟩
                refine wm_c ⟨(wk_L_law_L_law_r17 _ (wm_1 wm_h)), ?_⟩
                refine wm_c ⟨(wk_L_law_L_law_r6 _ (wm_8 (wm_4 (wm_2 wm_h)))), ?_⟩
                refine wm_c ⟨(wk_L_law_L_law_r6 _ (wm_8 (wm_4 (wm_2 (wm_1 wm_h))))), ?_⟩
                refine wm_c ⟨(wk_L_law_L_law_r6 _ (wm_16 wm_h)), ?_⟩
                refine wm_c ⟨(wk_L_law_L_law_r35 _ (wm_8 (wm_4 (wm_2 wm_h)))), ?_⟩
                refine wm_c ⟨(wk_L_law_L_law_r21 _ (wm_8 (wm_2 (wm_1 wm_h)))), ?_⟩
                refine wm_c ⟨(wk_L_law_L_law_r21 _ (wm_8 (wm_4 wm_h))), ?_⟩
                refine wm_c ⟨(wk_L_law_L_law_r21 _ (wm_8 (wm_4 (wm_1 wm_h)))), ?_⟩
                refine wm_c ⟨(wk_L_law_L_law_r4 _ (wm_4 (wm_1 wm_h))), ?_⟩
                refine wm_c ⟨(wk_L_law_L_law_r4 _ (wm_4 (wm_2 wm_h))), ?_⟩
                refine wm_c ⟨(wk_L_law_L_law_r4 _ (wm_4 (wm_2 (wm_1 wm_h)))), ?_⟩
                refine wm_c ⟨(wk_L_law_L_law_r4 _ (wm_1 wm_h)), ?_⟩
                exact wm_n
              · unfold wsX7_scheme_r4
                refine wm_c ⟨(wk_L_law_L_law_r17 _ (wm_16 (wm_4 (wm_2 wm_h)))), ?_⟩
                refine wm_c ⟨(wk_L_law_L_law_r20 _ (wm_8 (wm_2 wm_h))), ?_⟩
                exact wm_n
        · exact wk_L_law_X70
      · exact wk_L_law_X50
    · exact wk_L_law_X00
  · exact wk_L_law_X60
set_option maxRecDepth 20000 in
theorem gL_law_X7_scheme : GoodIn wsL_law (wsV RL 134 RX7 yX7_scheme wsX7_scheme) := by
  refine goodIn_app (goodIn_sub ?_ ?_) ggL_law_X7_scheme
  · exact wm_c ⟨(wk_L_law_L_law_r34 _ (wm_16 (wm_2 wm_h))), wm_c ⟨(wk_L_law_L_law_r34 _ (wm_16 (wm_2 (wm_1 wm_h)))), wm_c ⟨(wk_L_law_L_law_r34 _ (wm_16 (wm_4 wm_h))), wm_c ⟨(wk_L_law_L_law_r1 _ (wm_2 wm_h)), wm_n⟩⟩⟩⟩
  · decide +kernel
set_option maxRecDepth 20000 in
theorem ggL_law_X8_scheme : GoodIn wsL_law wsX8_scheme := by
  refine goodIn_sub ?_ gd_X8_scheme
  unfold wsX8_scheme
  refine wm_c ⟨(wk_L_law_L_law_r35 _ (wm_16 (wm_2 wm_h))), ?_⟩
  refine wm_a ⟨?_, ?_⟩
  · refine wm_a ⟨?_, ?_⟩
    · unfold wsX8_scheme_r1
      refine wm_c ⟨(wk_L_law_L_law_r12 _ (wm_2 (wm_1 wm_h))), ?_⟩
      refine wm_c ⟨(wk_L_law_L_law_r12 _ (wm_4 wm_h)), ?_⟩
      refine wm_c ⟨(wk_L_law_L_law_r1 _ (wm_4 (wm_1 wm_h))), ?_⟩
      refine wm_c ⟨(wk_L_law_L_law_r12 _ (wm_4 (wm_1 wm_h))), ?_⟩
      refine wm_c ⟨(wk_L_law_L_law_r12 _ (wm_4 (wm_2 wm_h))), ?_⟩
      refine wm_c ⟨(wk_L_law_L_law_r12 _ (wm_4 (wm_2 (wm_1 wm_h)))), ?_⟩
      refine wm_c ⟨(wk_L_law_L_law_r12 _ (wm_8 wm_h)), ?_⟩
      refine wm_c ⟨(wk_L_law_L_law_r12 _ (wm_8 (wm_1 wm_h))), ?_⟩
      refine wm_c ⟨(wk_L_law_L_law_r35 _ (wm_16 (wm_2 (wm_1 wm_h)))), ?_⟩
      refine wm_c ⟨(wk_L_law_L_law_r35 _ (wm_16 (wm_4 wm_h))), ?_⟩
      refine wm_c ⟨(wk_L_law_L_law_r35 _ (wm_16 (wm_4 (wm_1 wm_h)))), ?_⟩
      refine wm_c ⟨(wk_L_law_L_law_r35 _ (wm_16 (wm_4 (wm_2 wm_h)))), ?_⟩
      refine wm_c ⟨(wk_L_law_L_law_r34 _ (wm_4 (wm_1 wm_h))), ?_⟩
      refine wm_c ⟨(wk_L_law_L_law_r9 _ (wm_2 wm_h)), ?_⟩
      refine wm_c ⟨(wk_L_law_L_law_r8 _ (wm_16 (wm_4 (wm_2 (wm_1 wm_h))))), ?_⟩
      refine wm_c ⟨(wk_L_law_L_law_r9 _ (wm_8 (wm_2 (wm_1 wm_h)))), ?_⟩
      refine wm_c ⟨(wk_L_law_L_law_r9 _ (wm_8 (wm_4 wm_h))), ?_⟩
      refine wm_c ⟨(wk_L_law_L_law_r21 _ (wm_2 wm_h)), ?_⟩
      refine wm_c ⟨(wk_L_law_L_law_r21 _ (wm_2 (wm_1 wm_h))), ?_⟩
      refine wm_c ⟨(wk_L_law_L_law_r21 _ (wm_4 wm_h)), ?_⟩
      refine wm_c ⟨(wk_L_law_L_law_r21 _ (wm_4 (wm_1 wm_h))), ?_⟩
      refine wm_c ⟨(wk_L_law_L_law_r12 _ (wm_8 (wm_2 wm_h))), ?_⟩
      refine wm_c ⟨(wk_L_law_L_law_r12 _ (wm_8 (wm_2 (wm_1 wm_h)))), ?_⟩
      refine wm_c ⟨(wk_L_law_L_law_r12 _ (wm_8 (wm_4 wm_h))), ?_⟩
      exact wm_n
    · refine wm_a ⟨?_, ?_⟩
      · unfold wsX8_scheme_r2
        refine wm_c ⟨(wk_L_law_L_law_r12 _ (wm_8 (wm_4 (wm_1 wm_h)))), ?_⟩
        refine wm_c ⟨(wk_L_law_L_law_r10 _ wm_h), ?_⟩
        refine wm_c ⟨(wk_L_law_L_law_r20 _ (wm_16 (wm_4 (wm_2 wm_h)))), ?_⟩
        refine wm_c ⟨(wk_L_law_L_law_r20 _ (wm_16 (wm_4 (wm_2 (wm_1 wm_h))))), ?_⟩
        refine wm_c ⟨(wk_L_law_L_law_r21 _ wm_h), ?_⟩
        refine wm_c ⟨(wk_L_law_L_law_r21 _ (wm_1 wm_h)), ?_⟩
        refine wm_c ⟨(wk_L_law_L_law_r9 _ (wm_16 (wm_4 (wm_2 (wm_1 wm_h))))), ?_⟩
        refine wm_c ⟨(wk_L_law_L_law_r11 _ (wm_8 (wm_1 wm_h))), ?_⟩
        refine wm_c ⟨(wk_L_law_L_law_r15 _ (wm_16 (wm_4 (wm_2 (wm_1 wm_h))))), ?_⟩
        refine wm_c ⟨(wk_L_law_L_law_r16 _ wm_h), ?_⟩
        refine wm_c ⟨(wk_L_law_L_law_r16 _ (wm_1 wm_h)), ?_⟩
        refine wm_c ⟨(wk_L_law_L_law_r16 _ (wm_2 wm_h)), ?_⟩
        refine wm_c ⟨(wk_L_law_L_law_r17 _ (wm_8 (wm_2 wm_h))), ?_⟩
        refine wm_c ⟨(wk_L_law_L_law_r17 _ (wm_8 (wm_2 (wm_1 wm_h)))), ?_⟩
        refine wm_c ⟨(wk_L_law_L_law_r17 _ (wm_8 (wm_4 wm_h))), ?_⟩
        refine wm_c ⟨(wk_L_law_L_law_r17 _ (wm_8 (wm_4 (wm_1 wm_h)))), ?_⟩
        refine wm_c ⟨(wk_L_law_L_law_r9 _ wm_h), ?_⟩
        refine wm_c ⟨(wk_L_law_L_law_r11 _ (wm_1 wm_h)), ?_⟩
        refine wm_c ⟨(wk_L_law_L_law_r11 _ (wm_2 wm_h)), ?_⟩
        refine wm_c ⟨(wk_L_law_L_law_r11 _ (wm_2 (wm_1 wm_h))), ?_⟩
        refine wm_c ⟨(wk_L_law_L_law_r11 _ (wm_4 wm_h)), ?_⟩
        refine wm_c ⟨(wk_L_law_L_law_r8 _ (wm_16 (wm_4 (wm_2 wm_h)))), ?_⟩
        refine wm_c ⟨(wk_L_law_L_law_r10 _ (wm_8 wm_h)), ?_⟩
        refine wm_c ⟨(wk_L_law_L_law_r10 _ (wm_8 (wm_1 wm_h))), ?_⟩
        exact wm_n
      · unfold wsX8_scheme_r3
        refine wm_c ⟨(wk_L_law_L_law_r10 _ (wm_8 (wm_2 wm_h))), ?_⟩
        refine wm_c ⟨(wk_L_law_L_law_r10 _ (wm_8 (wm_2 (wm_1 wm_h)))), ?_⟩
        refine wm_c ⟨(wk_L_law_L_law_r13 _ (wm_16 (wm_4 (wm_2 (wm_1 wm_h))))), ?_⟩
        refine wm_c ⟨(wk_L_law_L_law_r14 _ wm_h), ?_⟩
        refine wm_c ⟨(wk_L_law_L_law_r14 _ (wm_1 wm_h)), ?_⟩
        refine wm_c ⟨(wk_L_law_L_law_r14 _ (wm_2 wm_h)), ?_⟩
        refine wm_c ⟨(wk_L_law_L_law_r16 _ (wm_2 (wm_1 wm_h))), ?_⟩
        refine wm_c ⟨(wk_L_law_L_law_r16 _ (wm_4 wm_h)), ?_⟩
        refine wm_c ⟨(wk_L_law_L_law_r16 _ (wm_4 (wm_1 wm_h))), ?_⟩
        refine wm_c ⟨(wk_L_law_L_law_r16 _ (wm_4 (wm_2 wm_h))), ?_⟩
        exact wm_n
  · exact wk_L_law_X80
set_option maxRecDepth 20000 in
theorem gL_law_X8_scheme : GoodIn wsL_law (wsV RL 137 RX8 yX8_scheme wsX8_scheme) := by
  refine goodIn_app (goodIn_sub ?_ ?_) ggL_law_X8_scheme
  · exact wm_c ⟨(wk_L_law_L_law_r35 _ (wm_8 (wm_4 (wm_2 (wm_1 wm_h))))), wm_c ⟨(wk_L_law_L_law_r35 _ (wm_16 wm_h)), wm_c ⟨(wk_L_law_L_law_r35 _ (wm_16 (wm_1 wm_h))), wm_c ⟨(wk_L_law_L_law_r1 _ (wm_4 (wm_1 wm_h))), wm_n⟩⟩⟩⟩
  · decide +kernel
set_option maxRecDepth 20000 in
theorem ggL_law_X7_order : GoodIn wsL_law wsX7_order := by
  refine goodIn_sub ?_ gd_X7_order
  unfold wsX7_order
  refine wm_c ⟨(wk_L_law_L_law_r36 _ (wm_2 wm_h)), ?_⟩
  refine wm_a ⟨?_, ?_⟩
  · refine wm_a ⟨?_, ?_⟩
    · refine wm_a ⟨?_, ?_⟩
      · refine wm_a ⟨?_, ?_⟩
        · refine wm_a ⟨?_, ?_⟩
          · unfold wsX7_order_r1
            refine wm_c ⟨(wk_L_law_L_law_r2 _ (wm_8 (wm_2 (wm_1 wm_h)))), ?_⟩
            refine wm_c ⟨(wk_L_law_L_law_r36 _ (wm_2 (wm_1 wm_h))), ?_⟩
            refine wm_c ⟨(wk_L_law_L_law_r36 _ (wm_4 wm_h)), ?_⟩
            refine wm_c ⟨(wk_L_law_L_law_r36 _ (wm_4 (wm_1 wm_h))), ?_⟩
            refine wm_c ⟨(wk_L_law_L_law_r2 _ (wm_8 (wm_2 wm_h))), ?_⟩
            refine wm_c ⟨(wk_L_law_L_law_r36 _ (wm_4 (wm_2 wm_h))), ?_⟩
            refine wm_c ⟨(wk_L_law_L_law_r7 _ (wm_4 (wm_2 (wm_1 wm_h)))), ?_⟩
            refine wm_c ⟨(wk_L_law_L_law_r35 _ (wm_2 wm_h)), ?_⟩
            refine wm_c ⟨(wk_L_law_L_law_r7 _ (wm_4 (wm_2 wm_h))), ?_⟩
            refine wm_c ⟨(wk_L_law_L_law_r35 _ (wm_8 (wm_2 wm_h))), ?_⟩
            refine wm_c ⟨(wk_L_law_L_law_r35 _ (wm_8 wm_h)), ?_⟩
            refine wm_c ⟨(wk_L_law_L_law_r36 _ (wm_4 (wm_2 (wm_1 wm_h)))), ?_⟩
            refine wm_c ⟨(wk_L_law_L_law_r34 _ (wm_16 (wm_4 (wm_2 (wm_1 wm_h))))), ?_⟩
            refine wm_c ⟨(wk_L_law_L_law_r35 _ wm_h), ?_⟩
            refine wm_c ⟨(wk_L_law_L_law_r35 _ (wm_1 wm_h)), ?_⟩
            refine wm_c ⟨(wk_L_law_L_law_r33 _ (wm_16 (wm_4 (wm_2 wm_h)))), ?_⟩
            refine wm_c ⟨(wk_L_law_L_law_r7 _ (wm_8 wm_h)), ?_⟩
            refine wm_c ⟨(wk_L_law_L_law_r7 _ (wm_8 (wm_1 wm_h))), ?_⟩
            refine wm_c ⟨(wk_L_law_L_law_r35 _ (wm_2 (wm_1 wm_h))), ?_⟩
            refine wm_c ⟨(wk_L_law_L_law_r20 _ (wm_8 (wm_2 (wm_1 wm_h)))), ?_⟩
            refine wm_c ⟨(wk_L_law_L_law_r20 _ (wm_8 (wm_4 wm_h))), ?_⟩
            refine wm_c ⟨(wk_L_law_L_law_r2 _ (wm_2 wm_h)), ?_⟩
            refine wm_c ⟨(wk_L_law_L_law_r20 _ (wm_8 (wm_4 (wm_1 wm_h)))), ?_⟩
            refine wm_c ⟨(wk_L_law_L_law_r16 _ (wm_8 (wm_4 (wm_2 (wm_1 wm_h))))), ?_⟩
            exact wm_n
          · refine wm_a ⟨?_, ?_⟩
            · unfold wsX7_order_r2
              refine wm_c ⟨(wk_L_law_L_law_r11 _ (wm_16 (wm_4 (wm_1 wm_h)))), ?_⟩
              refine wm_c ⟨(wk_L_law_L_law_r6 _ (wm_1 wm_h)), ?_⟩
              refine wm_c ⟨(wk_L_law_L_law_r11 _ (wm_16 (wm_4 (wm_2 wm_h)))), ?_⟩
              refine wm_c ⟨(wk_L_law_L_law_r35 _ (wm_4 wm_h)), ?_⟩
              refine wm_c ⟨(wk_L_law_L_law_r35 _ (wm_4 (wm_1 wm_h))), ?_⟩
              refine wm_c ⟨(wk_L_law_L_law_r35 _ (wm_4 (wm_2 wm_h))), ?_⟩
              refine wm_c ⟨(wk_L_law_L_law_r35 _ (wm_4 (wm_2 (wm_1 wm_h)))), ?_⟩
              refine wm_c ⟨(wk_L_law_L_law_r35 _ (wm_8 (wm_1 wm_h))), ?_⟩
              refine wm_c ⟨(wk_L_law_L_law_r35 _ (wm_8 (wm_2 (wm_1 wm_h)))), ?_⟩
              refine wm_c ⟨(wk_L_law_L_law_r4 _ (wm_8 (wm_4 (wm_2 wm_h)))), ?_⟩
              refine wm_c ⟨(wk_L_law_L_law_r4 _ (wm_8 (wm_2 wm_h))), ?_⟩
              refine wm_c ⟨(wk_L_law_L_law_r4 _ (wm_8 (wm_4 (wm_2 (wm_1 wm_h))))), ?_⟩
              refine wm_c ⟨(wk_L_law_L_law_r4 _ (wm_16 wm_h)), ?_⟩
              refine wm_c ⟨(wk_L_law_L_law_r35 _ (wm_8 (wm_4 wm_h))), ?_⟩
              refine wm_c ⟨(wk_L_law_L_law_r4 _ (wm_8 (wm_1 wm_h))), ?_⟩
              refine wm_c ⟨(wk_L_law_L_law_r4 _ (wm_8 (wm_2 (wm_1 wm_h)))), ?_⟩
              refine wm_c ⟨(wk_L_law_L_law_r4 _ (wm_8 (wm_4 wm_h))), ?_⟩
              refine wm_c ⟨(wk_L_law_L_law_r4 _ (wm_8 (wm_4 (wm_1 wm_h)))), ?_⟩
              refine wm_c ⟨(wk_L_law_L_law_r35 _ (wm_8 (wm_4 (wm_1 wm_h)))), ?_⟩
              refine wm_c ⟨(wk_L_law_L_law_r16 _ (wm_8 (wm_4 wm_h))), ?_⟩
              refine wm_c ⟨(wk_L_law_L_law_r16 _ (wm_8 (wm_4 (wm_1 wm_h)))), ?_⟩
              refine wm_c ⟨(wk_L_law_L_law_r16 _ (wm_8 (wm_4 (wm_2 wm_h)))), ?_⟩
              refine wm_c ⟨(wk_L_law_L_law_r4 _ (wm_4 wm_h)), ?_⟩
              refine wm_c ⟨(wk_L_law_L_law_r3 _ (wm_16 (wm_2 wm_h))), ?_⟩
              exact wm_n
            · refine wm_a ⟨?_, ?_⟩
              · unfold wsX7_order_r3
                refine wm_c ⟨(wk_L_law_L_law_r16 _ (wm_16 wm_h)), ?_⟩
                refine wm_c ⟨(wk_L_law_L_law_r16 _ (wm_16 (wm_1 wm_h))), ?_⟩
                refine wm_c ⟨(wk_L_law_L_law_r16 _ (wm_16 (wm_2 wm_h))), ?_⟩
                refine wm_c ⟨(wk_L_law_L_law_r16 _ (wm_16 (wm_2 (wm_1 wm_h)))), ?_⟩
                refine wm_c ⟨(wk_L_law_L_law_r3 _ (wm_16 (wm_4 (wm_2 wm_h)))), ?_⟩
                refine wm_c ⟨(wk_L_law_L_law_r4 _ wm_h), ?_⟩
                refine wm_c ⟨(wk_L_law_L_law_r16 _ (wm_16 (wm_4 wm_h))), ?_⟩
                refine wm_c ⟨(wk_L_law_L_law_r16 _ (wm_16 (wm_4 (wm_1 wm_h)))), ?_⟩
                refine wm_c ⟨(wk_L_law_L_law_r16 _ (wm_16 (wm_4 (wm_2 wm_h)))), ?_⟩
                refine wm_c ⟨(wk_L_law_L_law_r16 _ (wm_16 (wm_4 (wm_2 (wm_1 wm_h))))), ?_⟩
                refine wm_c ⟨(wk_L_law_L_law_r17 _ wm_h), ?_⟩
                refine wm_c ⟨(wk_L_law_L_law_r17 _ (wm_1 wm_h)), ?_⟩
                refine wm_c ⟨(wk_L_law_L_law_r6 _ (wm_8 (wm_4 (wm_2 wm_h)))), ?_⟩
                refine wm_c ⟨(wk_L_law_L_law_r6 _ (wm_8 (wm_4 (wm_2 (wm_1 wm_h))))), ?_⟩
                refine wm_c ⟨(wk_L_law_L_law_r6 _ (wm_16 wm_h)), ?_⟩
                refine wm_c ⟨(wk_L_law_L_law_r35 _ (wm_8 (wm_4 (wm_2 wm_h)))), ?_⟩
                refine wm_c ⟨(wk_L_law_L_law_r21 _ (wm_8 (wm_2 (wm_1 wm_h)))), ?_⟩
                refine wm_c ⟨(wk_L_law_L_law_r21 _ (wm_8 (wm_4 wm_h))), ?_⟩
                refine wm_c ⟨(wk_L_law_L_law_r21 _ (wm_8 (wm_4 (wm_1 wm_h)))), ?_⟩
                refine wm_c ⟨(wk_L_law_L_law_r4 _ (wm_4 (wm_1 wm_h))), ?_⟩
                refine wm_c ⟨(wk_L_law_L_law_r4 _ (wm_4 (wm_2 wm_h))), ?_⟩
                refine wm_c ⟨(wk_L_law_L_law_r4 _ (wm_4 (wm_2 (wm_1 wm_h)))), ?_⟩
                refine wm_c ⟨(wk_L_law_L_law_r4 _ (wm_1 wm_h)), ?_⟩
                refine wm_c ⟨(wk_L_law_L_law_r17 _ (wm_16 (wm_4 (wm_2 wm_h)))), ?_⟩
                exact wm_n
              · unfold wsX7_order_r4
                refine wm_c ⟨(wk_L_law_L_law_r20 _ (wm_8 (wm_2 wm_h))), ?_⟩
                refine wm_c ⟨(wk_L_law_L_law_r36 _ (wm_8 wm_h)), ?_⟩
                refine wm_c ⟨(wk_L_law_L_law_r32 _ (wm_2 (wm_1 wm_h))), ?_⟩
                refine wm_c ⟨(wk_L_law_L_law_r32 _ (wm_4 wm_h)), ?_⟩
                refine wm_c ⟨(wk_L_law_L_law_r32 _ (wm_4 (wm_1 wm_h))), ?_⟩
                exact wm_n
        · exact wk_L_law_X70
      · exact wk_L_law_X50
    · exact wk_L_law_X00
  · exact wk_L_law_X60
set_option maxRecDepth 20000 in
theorem gL_law_X7_order : GoodIn wsL_law (wsV RL 138 RX7 yX7_order wsX7_order) := by
  refine goodIn_app (goodIn_sub ?_ ?_) ggL_law_X7_order
  · exact wm_c ⟨(wk_L_law_L_law_r35 _ (wm_16 (wm_4 (wm_2 (wm_1 wm_h))))), wm_c ⟨(wk_L_law_L_law_r36 _ wm_h), wm_c ⟨(wk_L_law_L_law_r36 _ (wm_1 wm_h)), wm_c ⟨(wk_L_law_L_law_r1 _ (wm_2 wm_h)), wm_n⟩⟩⟩⟩
  · decide +kernel
set_option maxRecDepth 20000 in
theorem ggL_law_X8_order : GoodIn wsL_law wsX8_order := by
  refine goodIn_sub ?_ gd_X8_order
  unfold wsX8_order
  refine wm_c ⟨(wk_L_law_L_law_r36 _ (wm_8 (wm_4 wm_h))), ?_⟩
  refine wm_a ⟨?_, ?_⟩
  · refine wm_a ⟨?_, ?_⟩
    · unfold wsX8_order_r1
      refine wm_c ⟨(wk_L_law_L_law_r10 _ wm_h), ?_⟩
      refine wm_c ⟨(wk_L_law_L_law_r9 _ (wm_2 wm_h)), ?_⟩
      refine wm_c ⟨(wk_L_law_L_law_r9 _ wm_h), ?_⟩
      refine wm_c ⟨(wk_L_law_L_law_r9 _ (wm_16 (wm_4 (wm_2 (wm_1 wm_h))))), ?_⟩
      refine wm_c ⟨(wk_L_law_L_law_r35 _ (wm_16 (wm_2 (wm_1 wm_h)))), ?_⟩
      refine wm_c ⟨(wk_L_law_L_law_r35 _ (wm_16 (wm_4 wm_h))), ?_⟩
      refine wm_c ⟨(wk_L_law_L_law_r35 _ (wm_16 (wm_4 (wm_1 wm_h)))), ?_⟩
      refine wm_c ⟨(wk_L_law_L_law_r1 _ (wm_4 (wm_1 wm_h))), ?_⟩
      refine wm_c ⟨(wk_L_law_L_law_r35 _ (wm_16 (wm_4 (wm_2 wm_h)))), ?_⟩
      refine wm_c ⟨(wk_L_law_L_law_r34 _ (wm_4 (wm_1 wm_h))), ?_⟩
      refine wm_c ⟨(wk_L_law_L_law_r8 _ (wm_16 (wm_4 (wm_2 (wm_1 wm_h))))), ?_⟩
      refine wm_c ⟨(wk_L_law_L_law_r9 _ (wm_8 (wm_2 (wm_1 wm_h)))), ?_⟩
      refine wm_c ⟨(wk_L_law_L_law_r9 _ (wm_8 (wm_4 wm_h))), ?_⟩
      refine wm_c ⟨(wk_L_law_L_law_r21 _ (wm_2 wm_h)), ?_⟩
      refine wm_c ⟨(wk_L_law_L_law_r21 _ (wm_2 (wm_1 wm_h))), ?_⟩
      refine wm_c ⟨(wk_L_law_L_law_r21 _ (wm_4 wm_h)), ?_⟩
      refine wm_c ⟨(wk_L_law_L_law_r21 _ (wm_4 (wm_1 wm_h))), ?_⟩
      refine wm_c ⟨(wk_L_law_L_law_r12 _ (wm_8 (wm_2 wm_h))), ?_⟩
      refine wm_c ⟨(wk_L_law_L_law_r12 _ (wm_8 (wm_2 (wm_1 wm_h)))), ?_⟩
      refine wm_c ⟨(wk_L_law_L_law_r12 _ (wm_8 (wm_4 wm_h))), ?_⟩
      refine wm_c ⟨(wk_L_law_L_law_r12 _ (wm_8 (wm_4 (wm_1 wm_h)))), ?_⟩
      refine wm_c ⟨(wk_L_law_L_law_r20 _ (wm_16 (wm_4 (wm_2 wm_h)))), ?_⟩
      refine wm_c ⟨(wk_L_law_L_law_r20 _ (wm_16 (wm_4 (wm_2 (wm_1 wm_h))))), ?_⟩
      refine wm_c ⟨(wk_L_law_L_law_r21 _ wm_h), ?_⟩
      exact wm_n
    · refine wm_a ⟨?_, ?_⟩
      · unfold wsX8_order_r2
        refine wm_c ⟨(wk_L_law_L_law_r21 _ (wm_1 wm_h)), ?_⟩
        refine wm_c ⟨(wk_L_law_L_law_r11 _ (wm_8 (wm_1 wm_h))), ?_⟩
        refine wm_c ⟨(wk_L_law_L_law_r15 _ (wm_16 (wm_4 (wm_2 (wm_1 wm_h))))), ?_⟩
        refine wm_c ⟨(wk_L_law_L_law_r16 _ wm_h), ?_⟩
        refine wm_c ⟨(wk_L_law_L_law_r16 _ (wm_1 wm_h)), ?_⟩
        refine wm_c ⟨(wk_L_law_L_law_r16 _ (wm_2 wm_h)), ?_⟩
        refine wm_c ⟨(wk_L_law_L_law_r17 _ (wm_8 (wm_2 wm_h))), ?_⟩
        refine wm_c ⟨(wk_L_law_L_law_r17 _ (wm_8 (wm_2 (wm_1 wm_h)))), ?_⟩
        refine wm_c ⟨(wk_L_law_L_law_r17 _ (wm_8 (wm_4 wm_h))), ?_⟩
        refine wm_c ⟨(wk_L_law_L_law_r17 _ (wm_8 (wm_4 (wm_1 wm_h)))), ?_⟩
        refine wm_c ⟨(wk_L_law_L_law_r11 _ (wm_1 wm_h)), ?_⟩
        refine wm_c ⟨(wk_L_law_L_law_r11 _ (wm_2 wm_h)), ?_⟩
        refine wm_c ⟨(wk_L_law_L_law_r11 _ (wm_2 (wm_1 wm_h))), ?_⟩
        refine wm_c ⟨(wk_L_law_L_law_r11 _ (wm_4 wm_h)), ?_⟩
        refine wm_c ⟨(wk_L_law_L_law_r8 _ (wm_16 (wm_4 (wm_2 wm_h)))), ?_⟩
        refine wm_c ⟨(wk_L_law_L_law_r10 _ (wm_8 wm_h)), ?_⟩
        refine wm_c ⟨(wk_L_law_L_law_r10 _ (wm_8 (wm_1 wm_h))), ?_⟩
        refine wm_c ⟨(wk_L_law_L_law_r10 _ (wm_8 (wm_2 wm_h))), ?_⟩
        refine wm_c ⟨(wk_L_law_L_law_r10 _ (wm_8 (wm_2 (wm_1 wm_h)))), ?_⟩
        refine wm_c ⟨(wk_L_law_L_law_r13 _ (wm_16 (wm_4 (wm_2 (wm_1 wm_h))))), ?_⟩
        refine wm_c ⟨(wk_L_law_L_law_r14 _ wm_h), ?_⟩
        refine wm_c ⟨(wk_L_law_L_law_r14 _ (wm_1 wm_h)), ?_⟩
        refine wm_c ⟨(wk_L_law_L_law_r14 _ (wm_2 wm_h)), ?_⟩
        refine wm_c ⟨(wk_L_law_L_law_r16 _ (wm_2 (wm_1 wm_h))), ?_⟩
        exact wm_n
      · unfold wsX8_order_r3
        refine wm_c ⟨(wk_L_law_L_law_r16 _ (wm_4 wm_h)), ?_⟩
        refine wm_c ⟨(wk_L_law_L_law_r16 _ (wm_4 (wm_1 wm_h))), ?_⟩
        refine wm_c ⟨(wk_L_law_L_law_r16 _ (wm_4 (wm_2 wm_h))), ?_⟩
        exact wm_n
  · exact wk_L_law_X80
set_option maxRecDepth 20000 in
theorem gL_law_X8_order : GoodIn wsL_law (wsV RL 141 RX8 yX8_order wsX8_order) := by
  refine goodIn_app (goodIn_sub ?_ ?_) ggL_law_X8_order
  · exact wm_c ⟨(wk_L_law_L_law_r36 _ (wm_8 (wm_1 wm_h))), wm_c ⟨(wk_L_law_L_law_r36 _ (wm_8 (wm_2 wm_h))), wm_c ⟨(wk_L_law_L_law_r36 _ (wm_8 (wm_2 (wm_1 wm_h)))), wm_c ⟨(wk_L_law_L_law_r1 _ (wm_4 (wm_1 wm_h))), wm_n⟩⟩⟩⟩
  · decide +kernel
set_option maxRecDepth 20000 in
theorem ggL_law_X7_relate : GoodIn wsL_law wsX7_relate := by
  refine goodIn_sub ?_ gd_X7_relate
  unfold wsX7_relate
  refine wm_c ⟨(wk_L_law_L_law_r36 _ (wm_16 wm_h)), ?_⟩
  refine wm_a ⟨?_, ?_⟩
  · refine wm_a ⟨?_, ?_⟩
    · refine wm_a ⟨?_, ?_⟩
      · refine wm_a ⟨?_, ?_⟩
        · refine wm_a ⟨?_, ?_⟩
          · refine wm_a ⟨?_, ?_⟩
            · unfold wsX7_relate_r1
              refine wm_c ⟨(wk_L_law_L_law_r2 _ (wm_2 (wm_1 wm_h))), ?_⟩
              refine wm_c ⟨(wk_L_law_L_law_r1 _ (wm_16 (wm_4 (wm_2 (wm_1 wm_h))))), ?_⟩
              refine wm_c ⟨(wk_L_law_L_law_r2 _ (wm_8 (wm_4 (wm_2 (wm_1 wm_h))))), ?_⟩
              refine wm_c ⟨(wk_L_law_L_law_r36 _ (wm_16 (wm_1 wm_h))), ?_⟩
              refine wm_c ⟨(wk_L_law_L_law_r11 _ (wm_16 (wm_1 wm_h))), ?_⟩
              refine wm_c ⟨(wk_L_law_L_law_r11 _ (wm_16 (wm_2 wm_h))), ?_⟩
              refine wm_c ⟨(wk_L_law_L_law_r1 _ (wm_2 wm_h)), ?_⟩
              refine wm_c ⟨(wk_L_law_L_law_r11 _ (wm_16 (wm_2 (wm_1 wm_h)))), ?_⟩
              refine wm_c ⟨(wk_L_law_L_law_r36 _ (wm_16 (wm_2 wm_h))), ?_⟩
              refine wm_c ⟨(wk_L_law_L_law_r36 _ (wm_16 (wm_2 (wm_1 wm_h)))), ?_⟩
              refine wm_c ⟨(wk_L_law_L_law_r36 _ (wm_16 (wm_4 wm_h))), ?_⟩
              refine wm_c ⟨(wk_L_law_L_law_r2 _ (wm_2 wm_h)), ?_⟩
              refine wm_c ⟨(wk_L_law_L_law_r36 _ (wm_16 (wm_4 (wm_1 wm_h)))), ?_⟩
              refine wm_c ⟨(wk_L_law_L_law_r3 _ (wm_16 (wm_2 wm_h))), ?_⟩
              refine wm_c ⟨(wk_L_law_L_law_r32 _ (wm_2 wm_h)), ?_⟩
              refine wm_c ⟨(wk_L_law_L_law_r32 _ (wm_2 (wm_1 wm_h))), ?_⟩
              refine wm_c ⟨(wk_L_law_L_law_r32 _ (wm_4 wm_h)), ?_⟩
              refine wm_c ⟨(wk_L_law_L_law_r32 _ (wm_4 (wm_1 wm_h))), ?_⟩
              refine wm_c ⟨(wk_L_law_L_law_r4 _ wm_h), ?_⟩
              refine wm_c ⟨(wk_L_law_L_law_r31 _ (wm_16 (wm_4 (wm_2 wm_h)))), ?_⟩
              refine wm_c ⟨(wk_L_law_L_law_r31 _ (wm_16 (wm_4 (wm_2 (wm_1 wm_h))))), ?_⟩
              refine wm_c ⟨(wk_L_law_L_law_r32 _ wm_h), ?_⟩
              refine wm_c ⟨(wk_L_law_L_law_r32 _ (wm_1 wm_h)), ?_⟩
              refine wm_c ⟨(wk_L_law_L_law_r32 _ (wm_4 (wm_2 wm_h))), ?_⟩
              exact wm_n
            · refine wm_a ⟨?_, ?_⟩
              · unfold wsX7_relate_r2
                refine wm_c ⟨(wk_L_law_L_law_r32 _ (wm_4 (wm_2 (wm_1 wm_h)))), ?_⟩
                refine wm_c ⟨(wk_L_law_L_law_r32 _ (wm_8 wm_h)), ?_⟩
                refine wm_c ⟨(wk_L_law_L_law_r32 _ (wm_8 (wm_1 wm_h))), ?_⟩
                refine wm_c ⟨(wk_L_law_L_law_r4 _ (wm_4 (wm_2 wm_h))), ?_⟩
                refine wm_c ⟨(wk_L_law_L_law_r4 _ (wm_4 (wm_2 (wm_1 wm_h)))), ?_⟩
                refine wm_c ⟨(wk_L_law_L_law_r3 _ (wm_16 (wm_4 (wm_2 wm_h)))), ?_⟩
                refine wm_c ⟨(wk_L_law_L_law_r17 _ (wm_1 wm_h)), ?_⟩
                refine wm_c ⟨(wk_L_law_L_law_r6 _ (wm_8 (wm_4 (wm_2 wm_h)))), ?_⟩
                refine wm_c ⟨(wk_L_law_L_law_r6 _ (wm_8 (wm_4 (wm_2 (wm_1 wm_h))))), ?_⟩
                refine wm_c ⟨(wk_L_law_L_law_r6 _ (wm_16 wm_h)), ?_⟩
                refine wm_c ⟨(wk_L_law_L_law_r32 _ (wm_8 (wm_2 wm_h))), ?_⟩
                refine wm_c ⟨(wk_L_law_L_law_r32 _ (wm_8 (wm_2 (wm_1 wm_h)))), ?_⟩
                refine wm_c ⟨(wk_L_law_L_law_r32 _ (wm_8 (wm_4 wm_h))), ?_⟩
                refine wm_c ⟨(wk_L_law_L_law_r32 _ (wm_8 (wm_4 (wm_1 wm_h)))), ?_⟩
                refine wm_c ⟨(wk_L_law_L_law_r3 _ (wm_16 (wm_4 wm_h))), ?_⟩
                refine wm_c ⟨(wk_L_law_L_law_r19 _ (wm_16 (wm_2 (wm_1 wm_h)))), ?_⟩
                refine wm_c ⟨(wk_L_law_L_law_r19 _ (wm_16 (wm_4 wm_h))), ?_⟩
                refine wm_c ⟨(wk_L_law_L_law_r4 _ (wm_8 (wm_2 wm_h))), ?_⟩
                refine wm_c ⟨(wk_L_law_L_law_r19 _ (wm_16 (wm_4 (wm_1 wm_h)))), ?_⟩
                refine wm_c ⟨(wk_L_law_L_law_r13 _ (wm_4 wm_h)), ?_⟩
                refine wm_c ⟨(wk_L_law_L_law_r18 _ (wm_16 (wm_2 (wm_1 wm_h)))), ?_⟩
                refine wm_c ⟨(wk_L_law_L_law_r4 _ (wm_8 (wm_4 (wm_2 wm_h)))), ?_⟩
                refine wm_c ⟨(wk_L_law_L_law_r4 _ (wm_8 (wm_4 (wm_2 (wm_1 wm_h))))), ?_⟩
                refine wm_c ⟨(wk_L_law_L_law_r4 _ (wm_16 wm_h)), ?_⟩
                exact wm_n
              · refine wm_a ⟨?_, ?_⟩
                · unfold wsX7_relate_r3
                  refine wm_c ⟨(wk_L_law_L_law_r36 _ (wm_16 (wm_4 (wm_2 wm_h)))), ?_⟩
                  refine wm_c ⟨(wk_L_law_L_law_r36 _ (wm_16 (wm_4 (wm_2 (wm_1 wm_h))))), ?_⟩
                  refine wm_c ⟨(wk_L_law_L_law_r37 _ wm_h), ?_⟩
                  refine wm_c ⟨(wk_L_law_L_law_r2 _ (wm_8 (wm_4 (wm_2 wm_h)))), ?_⟩
                  refine wm_c ⟨(wk_L_law_L_law_r37 _ (wm_1 wm_h)), ?_⟩
                  refine wm_c ⟨(wk_L_law_L_law_r37 _ (wm_2 wm_h)), ?_⟩
                  refine wm_c ⟨(wk_L_law_L_law_r7 _ (wm_16 (wm_2 (wm_1 wm_h)))), ?_⟩
                  refine wm_c ⟨(wk_L_law_L_law_r7 _ (wm_8 (wm_4 (wm_2 wm_h)))), ?_⟩
                  refine wm_c ⟨(wk_L_law_L_law_r7 _ (wm_16 wm_h)), ?_⟩
                  refine wm_c ⟨(wk_L_law_L_law_r1 _ (wm_16 (wm_4 (wm_2 wm_h)))), ?_⟩
                  refine wm_c ⟨(wk_L_law_L_law_r7 _ (wm_16 (wm_1 wm_h))), ?_⟩
                  refine wm_c ⟨(wk_L_law_L_law_r7 _ (wm_16 (wm_2 wm_h))), ?_⟩
                  refine wm_c ⟨(wk_L_law_L_law_r37 _ (wm_2 (wm_1 wm_h))), ?_⟩
                  refine wm_c ⟨(wk_L_law_L_law_r37 _ (wm_4 wm_h)), ?_⟩
                  refine wm_c ⟨(wk_L_law_L_law_r7 _ (wm_16 (wm_4 (wm_2 (wm_1 wm_h))))), ?_⟩
                  refine wm_c ⟨(wk_L_law_L_law_r7 _ (wm_16 (wm_4 (wm_1 wm_h)))), ?_⟩
                  refine wm_c ⟨(wk_L_law_L_law_r37 _ (wm_4 (wm_1 wm_h))), ?_⟩
                  refine wm_c ⟨(wk_L_law_L_law_r37 _ (wm_4 (wm_2 wm_h))), ?_⟩
                  refine wm_c ⟨(wk_L_law_L_law_r37 _ (wm_4 (wm_2 (wm_1 wm_h)))), ?_⟩
                  refine wm_c ⟨(wk_L_law_L_law_r37 _ (wm_8 wm_h)), ?_⟩
                  refine wm_c ⟨(wk_L_law_L_law_r37 _ (wm_8 (wm_1 wm_h))), ?_⟩
                  refine wm_c ⟨(wk_L_law_L_law_r37 _ (wm_8 (wm_2 wm_h))), ?_⟩
                  refine wm_c ⟨(wk_L_law_L_law_r7 _ (wm_8 (wm_4 (wm_2 (wm_1 wm_h))))), ?_⟩
                  refine wm_c ⟨(wk_L_law_L_law_r8 _ wm_h), ?_⟩
                  exact wm_n
                · refine wm_a ⟨?_, ?_⟩
                  · unfold wsX7_relate_r4
                    refine wm_c ⟨(wk_L_law_L_law_r8 _ (wm_1 wm_h)), ?_⟩
                    refine wm_c ⟨(wk_L_law_L_law_r8 _ (wm_2 wm_h)), ?_⟩
                    refine wm_c ⟨(wk_L_law_L_law_r2 _ (wm_4 (wm_2 wm_h))), ?_⟩
                    refine wm_c ⟨(wk_L_law_L_law_r8 _ (wm_2 (wm_1 wm_h))), ?_⟩
                    refine wm_c ⟨(wk_L_law_L_law_r5 _ (wm_4 wm_h)), ?_⟩
                    refine wm_c ⟨(wk_L_law_L_law_r37 _ (wm_8 (wm_2 (wm_1 wm_h)))), ?_⟩
                    refine wm_c ⟨(wk_L_law_L_law_r37 _ (wm_8 (wm_4 wm_h))), ?_⟩
                    refine wm_c ⟨(wk_L_law_L_law_r37 _ (wm_8 (wm_4 (wm_1 wm_h)))), ?_⟩
                    refine wm_c ⟨(wk_L_law_L_law_r37 _ (wm_8 (wm_4 (wm_2 wm_h)))), ?_⟩
                    refine wm_c ⟨(wk_L_law_L_law_r7 _ (wm_16 (wm_4 (wm_2 wm_h)))), ?_⟩
                    refine wm_c ⟨(wk_L_law_L_law_r7 _ (wm_16 (wm_4 wm_h))), ?_⟩
                    refine wm_c ⟨(wk_L_law_L_law_r37 _ (wm_8 (wm_4 (wm_2 (wm_1 wm_h))))), ?_⟩
                    refine wm_c ⟨(wk_L_law_L_law_r37 _ (wm_16 wm_h)), ?_⟩
                    refine wm_c ⟨(wk_L_law_L_law_r15 _ (wm_16 (wm_1 wm_h))), ?_⟩
                    refine wm_c ⟨(wk_L_law_L_law_r15 _ (wm_16 (wm_2 wm_h))), ?_⟩
                    refine wm_c ⟨(wk_L_law_L_law_r37 _ (wm_16 (wm_1 wm_h))), ?_⟩
                    refine wm_c ⟨(wk_L_law_L_law_r37 _ (wm_16 (wm_2 wm_h))), ?_⟩
                    refine wm_c ⟨(wk_L_law_L_law_r37 _ (wm_16 (wm_2 (wm_1 wm_h)))), ?_⟩
                    refine wm_c ⟨(wk_L_law_L_law_r37 _ (wm_16 (wm_4 wm_h))), ?_⟩
                    refine wm_c ⟨(wk_L_law_L_law_r37 _ (wm_16 (wm_4 (wm_1 wm_h)))), ?_⟩
                    refine wm_c ⟨(wk_L_law_L_law_r4 _ (wm_8 (wm_1 wm_h))), ?_⟩
                    refine wm_c ⟨(wk_L_law_L_law_r4 _ (wm_8 (wm_2 (wm_1 wm_h)))), ?_⟩
                    refine wm_c ⟨(wk_L_law_L_law_r4 _ (wm_8 (wm_4 wm_h))), ?_⟩
                    refine wm_c ⟨(wk_L_law_L_law_r4 _ (wm_8 (wm_4 (wm_1 wm_h)))), ?_⟩
                    exact wm_n
                  · unfold wsX7_relate_r5
                    refine wm_c ⟨(wk_L_law_L_law_r37 _ (wm_16 (wm_4 (wm_2 wm_h)))), ?_⟩
                    refine wm_c ⟨(wk_L_law_L_law_r37 _ (wm_16 (wm_4 (wm_2 (wm_1 wm_h))))), ?_⟩
                    refine wm_c ⟨(wk_L_law_L_law_r38 _ wm_h), ?_⟩
                    refine wm_c ⟨(wk_L_law_L_law_r38 _ (wm_1 wm_h)), ?_⟩
                    refine wm_c ⟨(wk_L_law_L_law_r38 _ (wm_2 wm_h)), ?_⟩
                    refine wm_c ⟨(wk_L_law_L_law_r38 _ (wm_2 (wm_1 wm_h))), ?_⟩
                    refine wm_c ⟨(wk_L_law_L_law_r24 _ (wm_16 wm_h)), ?_⟩
                    refine wm_c ⟨(wk_L_law_L_law_r6 _ (wm_1 wm_h)), ?_⟩
                    refine wm_c ⟨(wk_L_law_L_law_r24 _ (wm_16 (wm_1 wm_h))), ?_⟩
                    refine wm_c ⟨(wk_L_law_L_law_r24 _ (wm_16 (wm_2 wm_h))), ?_⟩
                    refine wm_c ⟨(wk_L_law_L_law_r24 _ (wm_16 (wm_2 (wm_1 wm_h)))), ?_⟩
                    refine wm_c ⟨(wk_L_law_L_law_r24 _ (wm_16 (wm_4 wm_h))), ?_⟩
                    refine wm_c ⟨(wk_L_law_L_law_r38 _ (wm_4 wm_h)), ?_⟩
                    refine wm_c ⟨(wk_L_law_L_law_r19 _ (wm_1 wm_h)), ?_⟩
                    refine wm_c ⟨(wk_L_law_L_law_r19 _ (wm_2 wm_h)), ?_⟩
                    exact wm_n
          · exact wk_L_law_X70
        · exact wk_L_law_X20
      · exact wk_L_law_X00
    · exact wk_L_law_X60
  · exact wk_L_law_X10
set_option maxRecDepth 20000 in
theorem gL_law_X7_relate : GoodIn wsL_law (wsV RL 142 RX7 yX7_relate wsX7_relate) := by
  refine goodIn_app (goodIn_sub ?_ ?_) ggL_law_X7_relate
  · exact wm_c ⟨(wk_L_law_L_law_r36 _ (wm_8 (wm_4 (wm_1 wm_h)))), wm_c ⟨(wk_L_law_L_law_r36 _ (wm_8 (wm_4 (wm_2 wm_h)))), wm_c ⟨(wk_L_law_L_law_r36 _ (wm_8 (wm_4 (wm_2 (wm_1 wm_h))))), wm_c ⟨(wk_L_law_L_law_r1 _ (wm_2 wm_h)), wm_n⟩⟩⟩⟩
  · decide +kernel
set_option maxRecDepth 20000 in
theorem ggL_law_X8_relate : GoodIn wsL_law wsX8_relate := by
  refine goodIn_sub ?_ gd_X8_relate
  unfold wsX8_relate
  refine wm_c ⟨(wk_L_law_L_law_r38 _ (wm_8 wm_h)), ?_⟩
  refine wm_a ⟨?_, ?_⟩
  · refine wm_a ⟨?_, ?_⟩
    · unfold wsX8_relate_r1
      refine wm_c ⟨(wk_L_law_L_law_r10 _ wm_h), ?_⟩
      refine wm_c ⟨(wk_L_law_L_law_r9 _ (wm_2 wm_h)), ?_⟩
      refine wm_c ⟨(wk_L_law_L_law_r9 _ wm_h), ?_⟩
      refine wm_c ⟨(wk_L_law_L_law_r38 _ (wm_8 (wm_1 wm_h))), ?_⟩
      refine wm_c ⟨(wk_L_law_L_law_r9 _ (wm_8 (wm_4 (wm_1 wm_h)))), ?_⟩
      refine wm_c ⟨(wk_L_law_L_law_r8 _ (wm_16 (wm_4 (wm_2 wm_h)))), ?_⟩
      refine wm_c ⟨(wk_L_law_L_law_r9 _ (wm_8 (wm_4 (wm_2 wm_h)))), ?_⟩
      refine wm_c ⟨(wk_L_law_L_law_r8 _ (wm_16 (wm_4 (wm_2 (wm_1 wm_h))))), ?_⟩
      refine wm_c ⟨(wk_L_law_L_law_r12 _ (wm_2 (wm_1 wm_h))), ?_⟩
      refine wm_c ⟨(wk_L_law_L_law_r12 _ (wm_4 wm_h)), ?_⟩
      refine wm_c ⟨(wk_L_law_L_law_r1 _ (wm_4 (wm_1 wm_h))), ?_⟩
      refine wm_c ⟨(wk_L_law_L_law_r12 _ (wm_4 (wm_1 wm_h))), ?_⟩
      refine wm_c ⟨(wk_L_law_L_law_r12 _ (wm_4 (wm_2 wm_h))), ?_⟩
      refine wm_c ⟨(wk_L_law_L_law_r12 _ (wm_4 (wm_2 (wm_1 wm_h)))), ?_⟩
      refine wm_c ⟨(wk_L_law_L_law_r12 _ (wm_8 wm_h)), ?_⟩
      refine wm_c ⟨(wk_L_law_L_law_r12 _ (wm_8 (wm_1 wm_h))), ?_⟩
      refine wm_c ⟨(wk_L_law_L_law_r32 _ (wm_16 (wm_2 wm_h))), ?_⟩
      refine wm_c ⟨(wk_L_law_L_law_r32 _ (wm_16 (wm_2 (wm_1 wm_h)))), ?_⟩
      refine wm_c ⟨(wk_L_law_L_law_r32 _ (wm_16 (wm_4 wm_h))), ?_⟩
      refine wm_c ⟨(wk_L_law_L_law_r32 _ (wm_16 (wm_4 (wm_1 wm_h)))), ?_⟩
      refine wm_c ⟨(wk_L_law_L_law_r9 _ (wm_4 (wm_2 (wm_1 wm_h)))), ?_⟩
      refine wm_c ⟨(wk_L_law_L_law_r15 _ (wm_16 (wm_4 (wm_2 (wm_1 wm_h))))), ?_⟩
      refine wm_c ⟨(wk_L_law_L_law_r16 _ wm_h), ?_⟩
      refine wm_c ⟨(wk_L_law_L_law_r16 _ (wm_1 wm_h)), ?_⟩
      exact wm_n
    · refine wm_a ⟨?_, ?_⟩
      · unfold wsX8_relate_r2
        refine wm_c ⟨(wk_L_law_L_law_r16 _ (wm_2 wm_h)), ?_⟩
        refine wm_c ⟨(wk_L_law_L_law_r31 _ (wm_2 wm_h)), ?_⟩
        refine wm_c ⟨(wk_L_law_L_law_r31 _ (wm_2 (wm_1 wm_h))), ?_⟩
        refine wm_c ⟨(wk_L_law_L_law_r31 _ (wm_4 wm_h)), ?_⟩
        refine wm_c ⟨(wk_L_law_L_law_r31 _ (wm_4 (wm_1 wm_h))), ?_⟩
        refine wm_c ⟨(wk_L_law_L_law_r9 _ (wm_8 (wm_1 wm_h))), ?_⟩
        refine wm_c ⟨(wk_L_law_L_law_r11 _ (wm_8 (wm_1 wm_h))), ?_⟩
        refine wm_c ⟨(wk_L_law_L_law_r31 _ (wm_4 (wm_2 wm_h))), ?_⟩
        refine wm_c ⟨(wk_L_law_L_law_r31 _ (wm_4 (wm_2 (wm_1 wm_h)))), ?_⟩
        refine wm_c ⟨(wk_L_law_L_law_r31 _ (wm_8 wm_h)), ?_⟩
        refine wm_c ⟨(wk_L_law_L_law_r31 _ (wm_8 (wm_1 wm_h))), ?_⟩
        refine wm_c ⟨(wk_L_law_L_law_r9 _ (wm_8 (wm_2 wm_h))), ?_⟩
        refine wm_c ⟨(wk_L_law_L_law_r9 _ (wm_8 wm_h)), ?_⟩
        refine wm_c ⟨(wk_L_law_L_law_r31 _ (wm_8 (wm_2 wm_h))), ?_⟩
        refine wm_c ⟨(wk_L_law_L_law_r31 _ (wm_8 (wm_2 (wm_1 wm_h)))), ?_⟩
        refine wm_c ⟨(wk_L_law_L_law_r31 _ (wm_8 (wm_4 wm_h))), ?_⟩
        refine wm_c ⟨(wk_L_law_L_law_r31 _ (wm_8 (wm_4 (wm_1 wm_h)))), ?_⟩
        refine wm_c ⟨(wk_L_law_L_law_r10 _ (wm_8 wm_h)), ?_⟩
        refine wm_c ⟨(wk_L_law_L_law_r10 _ (wm_8 (wm_1 wm_h))), ?_⟩
        refine wm_c ⟨(wk_L_law_L_law_r10 _ (wm_8 (wm_2 wm_h))), ?_⟩
        refine wm_c ⟨(wk_L_law_L_law_r10 _ (wm_8 (wm_2 (wm_1 wm_h)))), ?_⟩
        refine wm_c ⟨(wk_L_law_L_law_r11 _ (wm_1 wm_h)), ?_⟩
        refine wm_c ⟨(wk_L_law_L_law_r11 _ (wm_2 wm_h)), ?_⟩
        refine wm_c ⟨(wk_L_law_L_law_r11 _ (wm_2 (wm_1 wm_h))), ?_⟩
        exact wm_n
      · unfold wsX8_relate_r3
        refine wm_c ⟨(wk_L_law_L_law_r11 _ (wm_4 wm_h)), ?_⟩
        refine wm_c ⟨(wk_L_law_L_law_r31 _ (wm_8 (wm_4 (wm_2 wm_h)))), ?_⟩
        refine wm_c ⟨(wk_L_law_L_law_r31 _ (wm_8 (wm_4 (wm_2 (wm_1 wm_h))))), ?_⟩
        refine wm_c ⟨(wk_L_law_L_law_r31 _ (wm_16 wm_h)), ?_⟩
        refine wm_c ⟨(wk_L_law_L_law_r31 _ (wm_16 (wm_1 wm_h))), ?_⟩
        refine wm_c ⟨(wk_L_law_L_law_r11 _ (wm_8 (wm_2 wm_h))), ?_⟩
        refine wm_c ⟨(wk_L_law_L_law_r11 _ (wm_8 (wm_2 (wm_1 wm_h)))), ?_⟩
        refine wm_c ⟨(wk_L_law_L_law_r11 _ (wm_8 (wm_4 wm_h))), ?_⟩
        exact wm_n
  · exact wk_L_law_X80
set_option maxRecDepth 20000 in
theorem gL_law_X8_relate : GoodIn wsL_law (wsV RL 145 RX8 yX8_relate wsX8_relate) := by
  refine goodIn_app (goodIn_sub ?_ ?_) ggL_law_X8_relate
  · exact wm_c ⟨(wk_L_law_L_law_r38 _ (wm_4 (wm_1 wm_h))), wm_c ⟨(wk_L_law_L_law_r38 _ (wm_4 (wm_2 wm_h))), wm_c ⟨(wk_L_law_L_law_r38 _ (wm_4 (wm_2 (wm_1 wm_h)))), wm_c ⟨(wk_L_law_L_law_r1 _ (wm_4 (wm_1 wm_h))), wm_n⟩⟩⟩⟩
  · decide +kernel
set_option maxRecDepth 20000 in
theorem ggL_law_X7_size : GoodIn wsL_law wsX7_size := by
  refine goodIn_sub ?_ gd_X7_size
  unfold wsX7_size
  refine wm_c ⟨(wk_L_law_L_law_r38 _ (wm_8 (wm_4 (wm_1 wm_h)))), ?_⟩
  refine wm_a ⟨?_, ?_⟩
  · refine wm_a ⟨?_, ?_⟩
    · refine wm_a ⟨?_, ?_⟩
      · refine wm_a ⟨?_, ?_⟩
        · refine wm_c ⟨(wk_L_law_L_law_r1 _ (wm_16 (wm_4 wm_h))), ?_⟩
          refine wm_c ⟨(wk_L_law_L_law_r25 _ (wm_8 (wm_1 wm_h))), ?_⟩
          refine wm_c ⟨(wk_L_law_L_law_r2 _ (wm_4 (wm_2 (wm_1 wm_h)))), ?_⟩
          refine wm_c ⟨(wk_L_law_L_law_r2 _ (wm_8 (wm_4 (wm_2 (wm_1 wm_h))))), ?_⟩
          refine wm_c ⟨(wk_L_law_L_law_r38 _ (wm_8 (wm_4 (wm_2 wm_h)))), ?_⟩
          refine wm_c ⟨(wk_L_law_L_law_r27 _ (wm_8 (wm_4 (wm_1 wm_h)))), ?_⟩
          refine wm_c ⟨(wk_L_law_L_law_r8 _ (wm_1 wm_h)), ?_⟩
          refine wm_c ⟨(wk_L_law_L_law_r8 _ (wm_2 wm_h)), ?_⟩
          refine wm_c ⟨(wk_L_law_L_law_r2 _ (wm_4 (wm_2 wm_h))), ?_⟩
          refine wm_c ⟨(wk_L_law_L_law_r8 _ (wm_2 (wm_1 wm_h))), ?_⟩
          refine wm_c ⟨(wk_L_law_L_law_r5 _ (wm_4 wm_h)), ?_⟩
          exact wm_n
        · exact wk_L_law_X70
      · exact wk_L_law_X60
    · exact wk_L_law_X20
  · exact wk_L_law_X10
set_option maxRecDepth 20000 in
theorem gL_law_X7_size : GoodIn wsL_law (wsV RL 146 RX7 yX7_size wsX7_size) := by
  refine goodIn_app (goodIn_sub ?_ ?_) ggL_law_X7_size
  · exact wm_c ⟨(wk_L_law_L_law_r38 _ (wm_8 (wm_2 wm_h))), wm_c ⟨(wk_L_law_L_law_r38 _ (wm_8 (wm_2 (wm_1 wm_h)))), wm_c ⟨(wk_L_law_L_law_r38 _ (wm_8 (wm_4 wm_h))), wm_c ⟨(wk_L_law_L_law_r1 _ (wm_2 wm_h)), wm_n⟩⟩⟩⟩
  · decide +kernel
set_option maxRecDepth 20000 in
theorem ggL_law_X8_size : GoodIn wsL_law wsX8_size := by
  refine goodIn_sub ?_ gd_X8_size
  unfold wsX8_size
  refine wm_c ⟨(wk_L_law_L_law_r38 _ (wm_16 (wm_2 wm_h))), ?_⟩
  refine wm_a ⟨?_, ?_⟩
  · refine wm_a ⟨?_, ?_⟩
    · unfold wsX8_size_r1
      refine wm_c ⟨(wk_L_law_L_law_r9 _ (wm_16 (wm_4 (wm_2 (wm_1 wm_h))))), ?_⟩
      refine wm_c ⟨(wk_L_law_L_law_r38 _ (wm_16 (wm_2 (wm_1 wm_h)))), ?_⟩
      refine wm_c ⟨(wk_L_law_L_law_r9 _ (wm_16 (wm_1 wm_h))), ?_⟩
      refine wm_c ⟨(wk_L_law_L_law_r9 _ (wm_8 (wm_4 (wm_2 (wm_1 wm_h))))), ?_⟩
      refine wm_c ⟨(wk_L_law_L_law_r9 _ (wm_16 (wm_4 (wm_2 wm_h)))), ?_⟩
      refine wm_c ⟨(wk_L_law_L_law_r8 _ (wm_16 (wm_4 (wm_2 wm_h)))), ?_⟩
      refine wm_c ⟨(wk_L_law_L_law_r9 _ (wm_8 (wm_1 wm_h))), ?_⟩
      refine wm_c ⟨(wk_L_law_L_law_r38 _ (wm_8 (wm_1 wm_h))), ?_⟩
      refine wm_c ⟨(wk_L_law_L_law_r9 _ (wm_8 (wm_4 (wm_1 wm_h)))), ?_⟩
      refine wm_c ⟨(wk_L_law_L_law_r9 _ (wm_8 (wm_4 (wm_2 wm_h)))), ?_⟩
      refine wm_c ⟨(wk_L_law_L_law_r12 _ (wm_4 (wm_2 (wm_1 wm_h)))), ?_⟩
      refine wm_c ⟨(wk_L_law_L_law_r12 _ (wm_8 wm_h)), ?_⟩
      refine wm_c ⟨(wk_L_law_L_law_r1 _ (wm_4 (wm_1 wm_h))), ?_⟩
      refine wm_c ⟨(wk_L_law_L_law_r12 _ (wm_8 (wm_1 wm_h))), ?_⟩
      refine wm_c ⟨(wk_L_law_L_law_r11 _ (wm_8 (wm_2 wm_h))), ?_⟩
      refine wm_c ⟨(wk_L_law_L_law_r11 _ (wm_8 (wm_2 (wm_1 wm_h)))), ?_⟩
      refine wm_c ⟨(wk_L_law_L_law_r11 _ (wm_8 (wm_4 wm_h))), ?_⟩
      refine wm_c ⟨(wk_L_law_L_law_r11 _ (wm_8 (wm_1 wm_h))), ?_⟩
      refine wm_c ⟨(wk_L_law_L_law_r38 _ (wm_16 (wm_4 wm_h))), ?_⟩
      refine wm_c ⟨(wk_L_law_L_law_r38 _ (wm_16 (wm_4 (wm_1 wm_h)))), ?_⟩
      refine wm_c ⟨(wk_L_law_L_law_r38 _ (wm_16 (wm_4 (wm_2 wm_h)))), ?_⟩
      refine wm_c ⟨(wk_L_law_L_law_r38 _ (wm_16 (wm_4 (wm_2 (wm_1 wm_h))))), ?_⟩
      refine wm_c ⟨(wk_L_law_L_law_r9 _ (wm_16 wm_h)), ?_⟩
      refine wm_c ⟨(wk_L_law_L_law_r13 _ (wm_16 (wm_4 (wm_2 (wm_1 wm_h))))), ?_⟩
      exact wm_n
    · unfold wsX8_size_r2
      refine wm_c ⟨(wk_L_law_L_law_r14 _ wm_h), ?_⟩
      refine wm_c ⟨(wk_L_law_L_law_r14 _ (wm_1 wm_h)), ?_⟩
      refine wm_c ⟨(wk_L_law_L_law_r14 _ (wm_2 wm_h)), ?_⟩
      refine wm_c ⟨(wk_L_law_L_law_r27 _ (wm_16 (wm_2 wm_h))), ?_⟩
      refine wm_c ⟨(wk_L_law_L_law_r27 _ (wm_16 (wm_2 (wm_1 wm_h)))), ?_⟩
      refine wm_c ⟨(wk_L_law_L_law_r27 _ (wm_16 (wm_4 wm_h))), ?_⟩
      refine wm_c ⟨(wk_L_law_L_law_r27 _ (wm_16 (wm_4 (wm_1 wm_h)))), ?_⟩
      refine wm_c ⟨(wk_L_law_L_law_r11 _ wm_h), ?_⟩
      refine wm_c ⟨(wk_L_law_L_law_r9 _ wm_h), ?_⟩
      refine wm_c ⟨(wk_L_law_L_law_r9 _ (wm_2 (wm_1 wm_h))), ?_⟩
      exact wm_n
  · exact wk_L_law_X80
set_option maxRecDepth 20000 in
theorem gL_law_X8_size : GoodIn wsL_law (wsV RL 149 RX8 yX8_size wsX8_size) := by
  refine goodIn_app (goodIn_sub ?_ ?_) ggL_law_X8_size
  · exact wm_c ⟨(wk_L_law_L_law_r38 _ (wm_8 (wm_4 (wm_2 (wm_1 wm_h))))), wm_c ⟨(wk_L_law_L_law_r38 _ (wm_16 wm_h)), wm_c ⟨(wk_L_law_L_law_r38 _ (wm_16 (wm_1 wm_h))), wm_c ⟨(wk_L_law_L_law_r1 _ (wm_4 (wm_1 wm_h))), wm_n⟩⟩⟩⟩
  · decide +kernel
set_option maxRecDepth 20000 in
theorem ggL_law_X7_feed : GoodIn wsL_law wsX7_feed := by
  refine goodIn_sub ?_ gd_X7_feed
  unfold wsX7_feed
  refine wm_c ⟨(wk_L_law_L_law_r39 _ (wm_2 (wm_1 wm_h))), ?_⟩
  refine wm_a ⟨?_, ?_⟩
  · refine wm_a ⟨?_, ?_⟩
    · refine wm_c ⟨(wk_L_law_L_law_r2 _ (wm_16 (wm_2 (wm_1 wm_h)))), ?_⟩
      refine wm_c ⟨(wk_L_law_L_law_r39 _ (wm_4 wm_h)), ?_⟩
      refine wm_c ⟨(wk_L_law_L_law_r39 _ (wm_4 (wm_1 wm_h))), ?_⟩
      refine wm_c ⟨(wk_L_law_L_law_r39 _ (wm_4 (wm_2 wm_h))), ?_⟩
      refine wm_c ⟨(wk_L_law_L_law_r39 _ (wm_4 (wm_2 (wm_1 wm_h)))), ?_⟩
      refine wm_c ⟨(wk_L_law_L_law_r2 _ (wm_16 (wm_2 wm_h))), ?_⟩
      refine wm_c ⟨(wk_L_law_L_law_r39 _ (wm_8 wm_h)), ?_⟩
      refine wm_c ⟨(wk_L_law_L_law_r39 _ (wm_8 (wm_1 wm_h))), ?_⟩
      refine wm_c ⟨(wk_L_law_L_law_r8 _ (wm_16 (wm_1 wm_h))), ?_⟩
      refine wm_c ⟨(wk_L_law_L_law_r39 _ (wm_8 (wm_2 wm_h))), ?_⟩
      exact wm_n
    · exact wk_L_law_X70
  · exact wk_L_law_X40
set_option maxRecDepth 20000 in
theorem gL_law_X7_feed : GoodIn wsL_law (wsV RL 152 RX7 yX7_feed wsX7_feed) := by
  refine goodIn_app (goodIn_sub ?_ ?_) ggL_law_X7_feed
  · exact wm_c ⟨(wk_L_law_L_law_r39 _ wm_h), wm_c ⟨(wk_L_law_L_law_r39 _ (wm_1 wm_h)), wm_c ⟨(wk_L_law_L_law_r39 _ (wm_2 wm_h)), wm_c ⟨(wk_L_law_L_law_r1 _ (wm_2 wm_h)), wm_n⟩⟩⟩⟩
  · decide +kernel
set_option maxRecDepth 20000 in
theorem ggL_law_X8_feed : GoodIn wsL_law wsX8_feed := by
  refine goodIn_sub ?_ gd_X8_feed
  unfold wsX8_feed
  refine wm_c ⟨(wk_L_law_L_law_r39 _ (wm_8 (wm_4 (wm_2 wm_h)))), ?_⟩
  refine wm_a ⟨?_, ?_⟩
  · refine wm_c ⟨(wk_L_law_L_law_r39 _ (wm_8 (wm_4 (wm_2 (wm_1 wm_h))))), ?_⟩
    refine wm_c ⟨(wk_L_law_L_law_r39 _ (wm_16 wm_h)), ?_⟩
    refine wm_c ⟨(wk_L_law_L_law_r9 _ (wm_16 (wm_2 wm_h))), ?_⟩
    refine wm_c ⟨(wk_L_law_L_law_r39 _ (wm_16 (wm_1 wm_h))), ?_⟩
    refine wm_c ⟨(wk_L_law_L_law_r12 _ (wm_4 (wm_2 (wm_1 wm_h)))), ?_⟩
    refine wm_c ⟨(wk_L_law_L_law_r12 _ (wm_8 wm_h)), ?_⟩
    refine wm_c ⟨(wk_L_law_L_law_r1 _ (wm_4 (wm_1 wm_h))), ?_⟩
    refine wm_c ⟨(wk_L_law_L_law_r12 _ (wm_8 (wm_1 wm_h))), ?_⟩
    exact wm_n
  · exact wk_L_law_X80
set_option maxRecDepth 20000 in
theorem gL_law_X8_feed : GoodIn wsL_law (wsV RL 156 RX8 yX8_feed wsX8_feed) := by
  refine goodIn_app (goodIn_sub ?_ ?_) ggL_law_X8_feed
  · exact wm_c ⟨(wk_L_law_L_law_r39 _ (wm_8 (wm_2 (wm_1 wm_h)))), wm_c ⟨(wk_L_law_L_law_r39 _ (wm_8 (wm_4 wm_h))), wm_c ⟨(wk_L_law_L_law_r39 _ (wm_8 (wm_4 (wm_1 wm_h)))), wm_c ⟨(wk_L_law_L_law_r1 _ (wm_4 (wm_1 wm_h))), wm_n⟩⟩⟩⟩
  · decide +kernel
