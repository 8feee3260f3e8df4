set_option maxRecDepth 20000 in
theorem gL_law_X7_derive : GoodIn wsL_law (wsV RL 77 RX7 yX7_derive wsX7_derive) := by
  refine goodIn_app (goodIn_sub ?_ ?_) ggL_law_X7_derive
  · exact wm_c ⟨(wk_L_law_L_law_r22 _ (wm_16 (wm_4 (wm_1 wm_h)))), wm_c ⟨(wk_L_law_L_law_r22 _ (wm_16 (wm_4 (wm_2 wm_h)))), wm_c ⟨(wk_L_law_L_law_r22 _ (wm_16 (wm_4 (wm_2 (wm_1 wm_h))))), wm_c ⟨(wk_L_law_L_law_r1 _ (wm_2 wm_h)), wm_n⟩⟩⟩⟩
  · decide +kernel
set_option maxRecDepth 20000 in
theorem ggL_law_X8_derive : GoodIn wsL_law wsX8_derive := by
  refine goodIn_sub ?_ gd_X8_derive
  unfold wsX8_derive
  refine wm_c ⟨(wk_L_law_L_law_r23 _ (wm_16 (wm_1 wm_h))), ?_⟩
  refine wm_a ⟨?_, ?_⟩
  · refine wm_a ⟨?_, ?_⟩
    · unfold wsX8_derive_r1
      refine wm_c ⟨(wk_L_law_L_law_r10 _ wm_h), ?_⟩
      refine wm_c ⟨(wk_L_law_L_law_r9 _ (wm_2 wm_h)), ?_⟩
      refine wm_c ⟨(wk_L_law_L_law_r9 _ wm_h), ?_⟩
      refine wm_c ⟨(wk_L_law_L_law_r17 _ (wm_4 (wm_2 wm_h))), ?_⟩
      refine wm_c ⟨(wk_L_law_L_law_r17 _ (wm_4 (wm_2 (wm_1 wm_h)))), ?_⟩
      refine wm_c ⟨(wk_L_law_L_law_r17 _ (wm_8 wm_h)), ?_⟩
      refine wm_c ⟨(wk_L_law_L_law_r1 _ (wm_4 (wm_1 wm_h))), ?_⟩
      refine wm_c ⟨(wk_L_law_L_law_r17 _ (wm_8 (wm_1 wm_h))), ?_⟩
      refine wm_c ⟨(wk_L_law_L_law_r12 _ (wm_2 (wm_1 wm_h))), ?_⟩
      refine wm_c ⟨(wk_L_law_L_law_r12 _ (wm_4 wm_h)), ?_⟩
      refine wm_c ⟨(wk_L_law_L_law_r12 _ (wm_4 (wm_1 wm_h))), ?_⟩
      refine wm_c ⟨(wk_L_law_L_law_r12 _ (wm_4 (wm_2 wm_h))), ?_⟩
      refine wm_c ⟨(wk_L_law_L_law_r12 _ (wm_4 (wm_2 (wm_1 wm_h)))), ?_⟩
      refine wm_c ⟨(wk_L_law_L_law_r12 _ (wm_8 wm_h)), ?_⟩
      refine wm_c ⟨(wk_L_law_L_law_r12 _ (wm_8 (wm_1 wm_h))), ?_⟩
      refine wm_c ⟨(wk_L_law_L_law_r23 _ (wm_16 (wm_2 wm_h))), ?_⟩
      refine wm_c ⟨(wk_L_law_L_law_r23 _ (wm_16 (wm_2 (wm_1 wm_h)))), ?_⟩
      refine wm_c ⟨(wk_L_law_L_law_r23 _ (wm_16 (wm_4 wm_h))), ?_⟩
      refine wm_c ⟨(wk_L_law_L_law_r23 _ (wm_16 (wm_4 (wm_1 wm_h)))), ?_⟩
      refine wm_c ⟨(wk_L_law_L_law_r9 _ (wm_16 (wm_4 (wm_2 wm_h)))), ?_⟩
      refine wm_c ⟨(wk_L_law_L_law_r12 _ (wm_8 (wm_2 wm_h))), ?_⟩
      refine wm_c ⟨(wk_L_law_L_law_r12 _ (wm_8 (wm_2 (wm_1 wm_h)))), ?_⟩
      refine wm_c ⟨(wk_L_law_L_law_r12 _ (wm_8 (wm_4 wm_h))), ?_⟩
      refine wm_c ⟨(wk_L_law_L_law_r12 _ (wm_8 (wm_4 (wm_1 wm_h)))), ?_⟩
      exact wm_n
    · unfold wsX8_derive_r2
      refine wm_c ⟨(wk_L_law_L_law_r10 _ (wm_16 wm_h)), ?_⟩
      refine wm_c ⟨(wk_L_law_L_law_r10 _ (wm_16 (wm_1 wm_h))), ?_⟩
      refine wm_c ⟨(wk_L_law_L_law_r10 _ (wm_16 (wm_2 wm_h))), ?_⟩
      refine wm_c ⟨(wk_L_law_L_law_r10 _ (wm_16 (wm_2 (wm_1 wm_h)))), ?_⟩
      refine wm_c ⟨(wk_L_law_L_law_r8 _ (wm_16 (wm_4 (wm_2 (wm_1 wm_h))))), ?_⟩
      refine wm_c ⟨(wk_L_law_L_law_r8 _ (wm_16 (wm_4 (wm_2 wm_h)))), ?_⟩
      refine wm_c ⟨(wk_L_law_L_law_r23 _ (wm_16 (wm_4 (wm_2 wm_h)))), ?_⟩
      refine wm_c ⟨(wk_L_law_L_law_r23 _ (wm_16 (wm_4 (wm_2 (wm_1 wm_h))))), ?_⟩
      refine wm_c ⟨(wk_L_law_L_law_r24 _ wm_h), ?_⟩
      refine wm_c ⟨(wk_L_law_L_law_r24 _ (wm_1 wm_h)), ?_⟩
      refine wm_c ⟨(wk_L_law_L_law_r9 _ (wm_16 (wm_4 (wm_2 (wm_1 wm_h))))), ?_⟩
      refine wm_c ⟨(wk_L_law_L_law_r11 _ (wm_8 (wm_1 wm_h))), ?_⟩
      refine wm_c ⟨(wk_L_law_L_law_r11 _ (wm_1 wm_h)), ?_⟩
      refine wm_c ⟨(wk_L_law_L_law_r11 _ (wm_2 wm_h)), ?_⟩
      refine wm_c ⟨(wk_L_law_L_law_r11 _ (wm_2 (wm_1 wm_h))), ?_⟩
      refine wm_c ⟨(wk_L_law_L_law_r11 _ (wm_4 wm_h)), ?_⟩
      refine wm_c ⟨(wk_L_law_L_law_r10 _ (wm_8 wm_h)), ?_⟩
      refine wm_c ⟨(wk_L_law_L_law_r10 _ (wm_8 (wm_1 wm_h))), ?_⟩
      refine wm_c ⟨(wk_L_law_L_law_r10 _ (wm_8 (wm_2 wm_h))), ?_⟩
      refine wm_c ⟨(wk_L_law_L_law_r10 _ (wm_8 (wm_2 (wm_1 wm_h)))), ?_⟩
      refine wm_c ⟨(wk_L_law_L_law_r15 _ (wm_16 (wm_4 (wm_2 (wm_1 wm_h))))), ?_⟩
      refine wm_c ⟨(wk_L_law_L_law_r16 _ wm_h), ?_⟩
      refine wm_c ⟨(wk_L_law_L_law_r16 _ (wm_1 wm_h)), ?_⟩
      refine wm_c ⟨(wk_L_law_L_law_r16 _ (wm_2 wm_h)), ?_⟩
      exact wm_n
  · exact wk_L_law_X80
set_option maxRecDepth 20000 in
theorem gL_law_X8_derive : GoodIn wsL_law (wsV RL 80 RX8 yX8_derive wsX8_derive) := by
  refine goodIn_app (goodIn_sub ?_ ?_) ggL_law_X8_derive
  · exact wm_c ⟨(wk_L_law_L_law_r23 _ (wm_8 (wm_4 (wm_2 wm_h)))), wm_c ⟨(wk_L_law_L_law_r23 _ (wm_8 (wm_4 (wm_2 (wm_1 wm_h))))), wm_c ⟨(wk_L_law_L_law_r23 _ (wm_16 wm_h)), wm_c ⟨(wk_L_law_L_law_r1 _ (wm_4 (wm_1 wm_h))), wm_n⟩⟩⟩⟩
  · decide +kernel
set_option maxRecDepth 20000 in
theorem ggL_law_X7_replace : GoodIn wsL_law wsX7_replace := by
  refine goodIn_sub ?_ gd_X7_replace
  unfold wsX7_replace
  refine wm_c ⟨(wk_L_law_L_law_r24 _ (wm_4 (wm_1 wm_h))), ?_⟩
  refine wm_a ⟨?_, ?_⟩
  · refine wm_a ⟨?_, ?_⟩
    · refine wm_a ⟨?_, ?_⟩
      · refine wm_a ⟨?_, ?_⟩
        · unfold wsX7_replace_r1
          refine wm_c ⟨(wk_L_law_L_law_r1 _ (wm_16 (wm_4 (wm_2 (wm_1 wm_h))))), ?_⟩
          refine wm_c ⟨(wk_L_law_L_law_r2 _ (wm_2 (wm_1 wm_h))), ?_⟩
          refine wm_c ⟨(wk_L_law_L_law_r11 _ (wm_16 (wm_1 wm_h))), ?_⟩
          refine wm_c ⟨(wk_L_law_L_law_r11 _ (wm_16 (wm_2 wm_h))), ?_⟩
          refine wm_c ⟨(wk_L_law_L_law_r1 _ (wm_2 wm_h)), ?_⟩
          refine wm_c ⟨(wk_L_law_L_law_r11 _ (wm_16 (wm_2 (wm_1 wm_h)))), ?_⟩
          refine wm_c ⟨(wk_L_law_L_law_r23 _ (wm_1 wm_h)), ?_⟩
          refine wm_c ⟨(wk_L_law_L_law_r23 _ (wm_2 wm_h)), ?_⟩
          refine wm_c ⟨(wk_L_law_L_law_r23 _ (wm_2 (wm_1 wm_h))), ?_⟩
          refine wm_c ⟨(wk_L_law_L_law_r23 _ (wm_4 wm_h)), ?_⟩
          refine wm_c ⟨(wk_L_law_L_law_r1 _ (wm_16 (wm_4 wm_h))), ?_⟩
          refine wm_c ⟨(wk_L_law_L_law_r23 _ (wm_4 (wm_1 wm_h))), ?_⟩
          refine wm_c ⟨(wk_L_law_L_law_r24 _ (wm_4 (wm_2 wm_h))), ?_⟩
          refine wm_c ⟨(wk_L_law_L_law_r24 _ (wm_4 (wm_2 (wm_1 wm_h)))), ?_⟩
          refine wm_c ⟨(wk_L_law_L_law_r24 _ (wm_8 wm_h)), ?_⟩
          refine wm_c ⟨(wk_L_law_L_law_r2 _ (wm_2 wm_h)), ?_⟩
          refine wm_c ⟨(wk_L_law_L_law_r24 _ (wm_8 (wm_1 wm_h))), ?_⟩
          refine wm_c ⟨(wk_L_law_L_law_r4 _ (wm_2 (wm_1 wm_h))), ?_⟩
          refine wm_c ⟨(wk_L_law_L_law_r24 _ (wm_8 (wm_2 wm_h))), ?_⟩
          refine wm_c ⟨(wk_L_law_L_law_r24 _ (wm_8 (wm_2 (wm_1 wm_h)))), ?_⟩
          refine wm_c ⟨(wk_L_law_L_law_r24 _ (wm_8 (wm_4 wm_h))), ?_⟩
          refine wm_c ⟨(wk_L_law_L_law_r24 _ (wm_8 (wm_4 (wm_1 wm_h)))), ?_⟩
          refine wm_c ⟨(wk_L_law_L_law_r3 _ (wm_16 (wm_2 wm_h))), ?_⟩
          refine wm_c ⟨(wk_L_law_L_law_r4 _ wm_h), ?_⟩
          exact wm_n
        · refine wm_a ⟨?_, ?_⟩
          · unfold wsX7_replace_r2
            refine wm_c ⟨(wk_L_law_L_law_r24 _ (wm_8 (wm_4 (wm_2 wm_h)))), ?_⟩
            refine wm_c ⟨(wk_L_law_L_law_r6 _ (wm_8 (wm_2 wm_h))), ?_⟩
            refine wm_c ⟨(wk_L_law_L_law_r6 _ (wm_8 (wm_2 (wm_1 wm_h)))), ?_⟩
            refine wm_c ⟨(wk_L_law_L_law_r6 _ (wm_8 (wm_4 wm_h))), ?_⟩
            refine wm_c ⟨(wk_L_law_L_law_r3 _ (wm_16 (wm_4 wm_h))), ?_⟩
            refine wm_c ⟨(wk_L_law_L_law_r24 _ (wm_8 (wm_4 (wm_2 (wm_1 wm_h))))), ?_⟩
            refine wm_c ⟨(wk_L_law_L_law_r24 _ (wm_16 wm_h)), ?_⟩
            refine wm_c ⟨(wk_L_law_L_law_r6 _ (wm_1 wm_h)), ?_⟩
            refine wm_c ⟨(wk_L_law_L_law_r24 _ (wm_16 (wm_1 wm_h))), ?_⟩
            refine wm_c ⟨(wk_L_law_L_law_r24 _ (wm_16 (wm_2 wm_h))), ?_⟩
            refine wm_c ⟨(wk_L_law_L_law_r24 _ (wm_16 (wm_2 (wm_1 wm_h)))), ?_⟩
            refine wm_c ⟨(wk_L_law_L_law_r24 _ (wm_16 (wm_4 wm_h))), ?_⟩
            refine wm_c ⟨(wk_L_law_L_law_r16 _ (wm_16 wm_h)), ?_⟩
            refine wm_c ⟨(wk_L_law_L_law_r16 _ (wm_16 (wm_1 wm_h))), ?_⟩
            refine wm_c ⟨(wk_L_law_L_law_r16 _ (wm_16 (wm_2 wm_h))), ?_⟩
            refine wm_c ⟨(wk_L_law_L_law_r16 _ (wm_16 (wm_2 (wm_1 wm_h)))), ?_⟩
            refine wm_c ⟨(wk_L_law_L_law_r3 _ (wm_16 (wm_4 (wm_2 wm_h)))), ?_⟩
            refine wm_c ⟨(wk_L_law_L_law_r16 _ (wm_16 (wm_4 wm_h))), ?_⟩
            refine wm_c ⟨(wk_L_law_L_law_r24 _ (wm_16 (wm_4 (wm_1 wm_h)))), ?_⟩
            refine wm_c ⟨(wk_L_law_L_law_r24 _ (wm_16 (wm_4 (wm_2 wm_h)))), ?_⟩
            refine wm_c ⟨(wk_L_law_L_law_r24 _ (wm_16 (wm_4 (wm_2 (wm_1 wm_h))))), ?_⟩
            refine wm_c ⟨(wk_L_law_L_law_r25 _ wm_h), ?_⟩
            refine wm_c ⟨(wk_L_law_L_law_r19 _ wm_h), ?_⟩
            refine wm_c ⟨(wk_L_law_L_law_r19 _ (wm_1 wm_h)), ?_⟩
            exact wm_n
          · unfold wsX7_replace_r3
            refine wm_c ⟨(wk_L_law_L_law_r4 _ (wm_8 (wm_2 wm_h))), ?_⟩
            refine wm_c ⟨(wk_L_law_L_law_r19 _ (wm_2 wm_h)), ?_⟩
            refine wm_c ⟨(wk_L_law_L_law_r13 _ (wm_4 wm_h)), ?_⟩
            refine wm_c ⟨(wk_L_law_L_law_r16 _ (wm_16 (wm_4 (wm_1 wm_h)))), ?_⟩
            refine wm_c ⟨(wk_L_law_L_law_r16 _ (wm_16 (wm_4 (wm_2 wm_h)))), ?_⟩
            refine wm_c ⟨(wk_L_law_L_law_r16 _ (wm_16 (wm_4 (wm_2 (wm_1 wm_h))))), ?_⟩
            refine wm_c ⟨(wk_L_law_L_law_r17 _ wm_h), ?_⟩
            refine wm_c ⟨(wk_L_law_L_law_r17 _ (wm_1 wm_h)), ?_⟩
            refine wm_c ⟨(wk_L_law_L_law_r6 _ (wm_8 (wm_4 (wm_2 wm_h)))), ?_⟩
            refine wm_c ⟨(wk_L_law_L_law_r6 _ (wm_8 (wm_4 (wm_2 (wm_1 wm_h))))), ?_⟩
            refine wm_c ⟨(wk_L_law_L_law_r6 _ (wm_16 wm_h)), ?_⟩
            exact wm_n
      · exact wk_L_law_X70
    · exact wk_L_law_X60
  · exact wk_L_law_X00
set_option maxRecDepth 20000 in
theorem gL_law_X7_replace : GoodIn wsL_law (wsV RL 81 RX7 yX7_replace wsX7_replace) := by
  refine goodIn_app (goodIn_sub ?_ ?_) ggL_law_X7_replace
  · exact wm_c ⟨(wk_L_law_L_law_r24 _ (wm_2 wm_h)), wm_c ⟨(wk_L_law_L_law_r24 _ (wm_2 (wm_1 wm_h))), wm_c ⟨(wk_L_law_L_law_r24 _ (wm_4 wm_h)), wm_c ⟨(wk_L_law_L_law_r1 _ (wm_2 wm_h)), wm_n⟩⟩⟩⟩
  · decide +kernel
set_option maxRecDepth 20000 in
theorem ggL_law_X8_replace : GoodIn wsL_law wsX8_replace := by
  refine goodIn_sub ?_ gd_X8_replace
  unfold wsX8_replace
  refine wm_c ⟨(wk_L_law_L_law_r25 _ (wm_4 wm_h)), ?_⟩
  refine wm_a ⟨?_, ?_⟩
  · refine wm_a ⟨?_, ?_⟩
    · unfold wsX8_replace_r1
      refine wm_c ⟨(wk_L_law_L_law_r9 _ (wm_2 wm_h)), ?_⟩
      refine wm_c ⟨(wk_L_law_L_law_r10 _ wm_h), ?_⟩
      refine wm_c ⟨(wk_L_law_L_law_r9 _ wm_h), ?_⟩
      refine wm_c ⟨(wk_L_law_L_law_r8 _ (wm_16 (wm_4 (wm_2 (wm_1 wm_h))))), ?_⟩
      refine wm_c ⟨(wk_L_law_L_law_r17 _ (wm_4 (wm_2 wm_h))), ?_⟩
      refine wm_c ⟨(wk_L_law_L_law_r17 _ (wm_4 (wm_2 (wm_1 wm_h)))), ?_⟩
      refine wm_c ⟨(wk_L_law_L_law_r17 _ (wm_8 wm_h)), ?_⟩
      refine wm_c ⟨(wk_L_law_L_law_r1 _ (wm_4 (wm_1 wm_h))), ?_⟩
      refine wm_c ⟨(wk_L_law_L_law_r17 _ (wm_8 (wm_1 wm_h))), ?_⟩
      refine wm_c ⟨(wk_L_law_L_law_r12 _ (wm_2 (wm_1 wm_h))), ?_⟩
      refine wm_c ⟨(wk_L_law_L_law_r12 _ (wm_4 wm_h)), ?_⟩
      refine wm_c ⟨(wk_L_law_L_law_r12 _ (wm_4 (wm_1 wm_h))), ?_⟩
      refine wm_c ⟨(wk_L_law_L_law_r12 _ (wm_4 (wm_2 wm_h))), ?_⟩
      refine wm_c ⟨(wk_L_law_L_law_r12 _ (wm_4 (wm_2 (wm_1 wm_h)))), ?_⟩
      refine wm_c ⟨(wk_L_law_L_law_r12 _ (wm_8 wm_h)), ?_⟩
      refine wm_c ⟨(wk_L_law_L_law_r12 _ (wm_8 (wm_1 wm_h))), ?_⟩
      refine wm_c ⟨(wk_L_law_L_law_r23 _ (wm_16 (wm_2 wm_h))), ?_⟩
      refine wm_c ⟨(wk_L_law_L_law_r23 _ (wm_16 (wm_2 (wm_1 wm_h)))), ?_⟩
      refine wm_c ⟨(wk_L_law_L_law_r23 _ (wm_16 (wm_4 wm_h))), ?_⟩
      refine wm_c ⟨(wk_L_law_L_law_r23 _ (wm_16 (wm_4 (wm_1 wm_h)))), ?_⟩
      refine wm_c ⟨(wk_L_law_L_law_r9 _ (wm_16 (wm_4 (wm_2 wm_h)))), ?_⟩
      refine wm_c ⟨(wk_L_law_L_law_r12 _ (wm_8 (wm_2 wm_h))), ?_⟩
      refine wm_c ⟨(wk_L_law_L_law_r12 _ (wm_8 (wm_2 (wm_1 wm_h)))), ?_⟩
      refine wm_c ⟨(wk_L_law_L_law_r12 _ (wm_8 (wm_4 wm_h))), ?_⟩
      exact wm_n
    · refine wm_a ⟨?_, ?_⟩
      · unfold wsX8_replace_r2
        refine wm_c ⟨(wk_L_law_L_law_r12 _ (wm_8 (wm_4 (wm_1 wm_h)))), ?_⟩
        refine wm_c ⟨(wk_L_law_L_law_r21 _ (wm_2 wm_h)), ?_⟩
        refine wm_c ⟨(wk_L_law_L_law_r21 _ (wm_2 (wm_1 wm_h))), ?_⟩
        refine wm_c ⟨(wk_L_law_L_law_r21 _ (wm_4 wm_h)), ?_⟩
        refine wm_c ⟨(wk_L_law_L_law_r21 _ (wm_4 (wm_1 wm_h))), ?_⟩
        refine wm_c ⟨(wk_L_law_L_law_r10 _ (wm_16 wm_h)), ?_⟩
        refine wm_c ⟨(wk_L_law_L_law_r10 _ (wm_16 (wm_1 wm_h))), ?_⟩
        refine wm_c ⟨(wk_L_law_L_law_r10 _ (wm_16 (wm_2 wm_h))), ?_⟩
        refine wm_c ⟨(wk_L_law_L_law_r10 _ (wm_16 (wm_2 (wm_1 wm_h)))), ?_⟩
        refine wm_c ⟨(wk_L_law_L_law_r8 _ (wm_16 (wm_4 (wm_2 wm_h)))), ?_⟩
        refine wm_c ⟨(wk_L_law_L_law_r17 _ (wm_8 (wm_2 wm_h))), ?_⟩
        refine wm_c ⟨(wk_L_law_L_law_r17 _ (wm_8 (wm_2 (wm_1 wm_h)))), ?_⟩
        refine wm_c ⟨(wk_L_law_L_law_r17 _ (wm_8 (wm_4 wm_h))), ?_⟩
        refine wm_c ⟨(wk_L_law_L_law_r17 _ (wm_8 (wm_4 (wm_1 wm_h)))), ?_⟩
        refine wm_c ⟨(wk_L_law_L_law_r11 _ (wm_8 (wm_1 wm_h))), ?_⟩
        refine wm_c ⟨(wk_L_law_L_law_r11 _ (wm_1 wm_h)), ?_⟩
        refine wm_c ⟨(wk_L_law_L_law_r11 _ (wm_2 wm_h)), ?_⟩
        refine wm_c ⟨(wk_L_law_L_law_r11 _ (wm_2 (wm_1 wm_h))), ?_⟩
        refine wm_c ⟨(wk_L_law_L_law_r11 _ (wm_4 wm_h)), ?_⟩
        refine wm_c ⟨(wk_L_law_L_law_r10 _ (wm_8 wm_h)), ?_⟩
        refine wm_c ⟨(wk_L_law_L_law_r10 _ (wm_8 (wm_1 wm_h))), ?_⟩
        refine wm_c ⟨(wk_L_law_L_law_r10 _ (wm_8 (wm_2 wm_h))), ?_⟩
        refine wm_c ⟨(wk_L_law_L_law_r10 _ (wm_8 (wm_2 (wm_1 wm_h)))), ?_⟩
        refine wm_c ⟨(wk_L_law_L_law_r15 _ (wm_16 (wm_4 (wm_2 (wm_1 wm_h))))), ?_⟩
        exact wm_n
      · unfold wsX8_replace_r3
        refine wm_c ⟨(wk_L_law_L_law_r16 _ wm_h), ?_⟩
        refine wm_c ⟨(wk_L_law_L_law_r16 _ (wm_1 wm_h)), ?_⟩
        refine wm_c ⟨(wk_L_law_L_law_r16 _ (wm_2 wm_h)), ?_⟩
        refine wm_c ⟨(wk_L_law_L_law_r16 _ (wm_2 (wm_1 wm_h))), ?_⟩
        refine wm_c ⟨(wk_L_law_L_law_r16 _ (wm_4 wm_h)), ?_⟩
        refine wm_c ⟨(wk_L_law_L_law_r16 _ (wm_4 (wm_1 wm_h))), ?_⟩
        refine wm_c ⟨(wk_L_law_L_law_r16 _ (wm_4 (wm_2 wm_h))), ?_⟩
        exact wm_n
  · exact wk_L_law_X80
set_option maxRecDepth 20000 in
theorem gL_law_X8_replace : GoodIn wsL_law (wsV RL 84 RX8 yX8_replace wsX8_replace) := by
  refine goodIn_app (goodIn_sub ?_ ?_) ggL_law_X8_replace
  · exact wm_c ⟨(wk_L_law_L_law_r25 _ (wm_1 wm_h)), wm_c ⟨(wk_L_law_L_law_r25 _ (wm_2 wm_h)), wm_c ⟨(wk_L_law_L_law_r25 _ (wm_2 (wm_1 wm_h))), wm_c ⟨(wk_L_law_L_law_r1 _ (wm_4 (wm_1 wm_h))), wm_n⟩⟩⟩⟩
  · decide +kernel
set_option maxRecDepth 20000 in
theorem ggL_law_X7_part : GoodIn wsL_law wsX7_part := by
  refine goodIn_sub ?_ gd_X7_part
  unfold wsX7_part
  refine wm_c ⟨(wk_L_law_L_law_r25 _ (wm_8 wm_h)), ?_⟩
  refine wm_a ⟨?_, ?_⟩
  · refine wm_a ⟨?_, ?_⟩
    · refine wm_a ⟨?_, ?_⟩
      · refine wm_c ⟨(wk_L_law_L_law_r1 _ (wm_16 (wm_4 wm_h))), ?_⟩
        refine wm_c ⟨(wk_L_law_L_law_r25 _ (wm_8 (wm_1 wm_h))), ?_⟩
        refine wm_c ⟨(wk_L_law_L_law_r2 _ (wm_2 (wm_1 wm_h))), ?_⟩
        refine wm_c ⟨(wk_L_law_L_law_r1 _ (wm_16 (wm_4 (wm_2 (wm_1 wm_h))))), ?_⟩
        refine wm_c ⟨(wk_L_law_L_law_r11 _ (wm_16 (wm_1 wm_h))), ?_⟩
        refine wm_c ⟨(wk_L_law_L_law_r11 _ (wm_16 (wm_2 wm_h))), ?_⟩
        refine wm_c ⟨(wk_L_law_L_law_r1 _ (wm_2 wm_h)), ?_⟩
        refine wm_c ⟨(wk_L_law_L_law_r11 _ (wm_16 (wm_2 (wm_1 wm_h)))), ?_⟩
        refine wm_c ⟨(wk_L_law_L_law_r25 _ (wm_8 (wm_2 wm_h))), ?_⟩
        refine wm_c ⟨(wk_L_law_L_law_r25 _ (wm_8 (wm_2 (wm_1 wm_h)))), ?_⟩
        refine wm_c ⟨(wk_L_law_L_law_r25 _ (wm_8 (wm_4 wm_h))), ?_⟩
        refine wm_c ⟨(wk_L_law_L_law_r2 _ (wm_2 wm_h)), ?_⟩
        refine wm_c ⟨(wk_L_law_L_law_r25 _ (wm_8 (wm_4 (wm_1 wm_h)))), ?_⟩
        refine wm_c ⟨(wk_L_law_L_law_r4 _ wm_h), ?_⟩
        exact wm_n
      · exact wk_L_law_X70
    · exact wk_L_law_X60
  · exact wk_L_law_X00
set_option maxRecDepth 20000 in
theorem gL_law_X7_part : GoodIn wsL_law (wsV RL 85 RX7 yX7_part wsX7_part) := by
  refine goodIn_app (goodIn_sub ?_ ?_) ggL_law_X7_part
  · exact wm_c ⟨(wk_L_law_L_law_r25 _ (wm_4 (wm_1 wm_h))), wm_c ⟨(wk_L_law_L_law_r25 _ (wm_4 (wm_2 wm_h))), wm_c ⟨(wk_L_law_L_law_r25 _ (wm_4 (wm_2 (wm_1 wm_h)))), wm_c ⟨(wk_L_law_L_law_r1 _ (wm_2 wm_h)), wm_n⟩⟩⟩⟩
  · decide +kernel
set_option maxRecDepth 20000 in
theorem ggL_law_X8_part : GoodIn wsL_law wsX8_part := by
  refine goodIn_sub ?_ gd_X8_part
  unfold wsX8_part
  refine wm_c ⟨(wk_L_law_L_law_r25 _ (wm_16 (wm_1 wm_h))), ?_⟩
  refine wm_a ⟨?_, ?_⟩
  · refine wm_c ⟨(wk_L_law_L_law_r9 _ (wm_16 (wm_4 (wm_2 (wm_1 wm_h))))), ?_⟩
    refine wm_c ⟨(wk_L_law_L_law_r10 _ wm_h), ?_⟩
    refine wm_c ⟨(wk_L_law_L_law_r9 _ (wm_2 wm_h)), ?_⟩
    refine wm_c ⟨(wk_L_law_L_law_r9 _ wm_h), ?_⟩
    refine wm_c ⟨(wk_L_law_L_law_r12 _ (wm_2 (wm_1 wm_h))), ?_⟩
    refine wm_c ⟨(wk_L_law_L_law_r12 _ (wm_4 wm_h)), ?_⟩
    refine wm_c ⟨(wk_L_law_L_law_r1 _ (wm_4 (wm_1 wm_h))), ?_⟩
    refine wm_c ⟨(wk_L_law_L_law_r12 _ (wm_4 (wm_1 wm_h))), ?_⟩
    refine wm_c ⟨(wk_L_law_L_law_r12 _ (wm_4 (wm_2 wm_h))), ?_⟩
    refine wm_c ⟨(wk_L_law_L_law_r12 _ (wm_4 (wm_2 (wm_1 wm_h)))), ?_⟩
    refine wm_c ⟨(wk_L_law_L_law_r12 _ (wm_8 wm_h)), ?_⟩
    refine wm_c ⟨(wk_L_law_L_law_r12 _ (wm_8 (wm_1 wm_h))), ?_⟩
    exact wm_n
  · exact wk_L_law_X80
set_option maxRecDepth 20000 in
theorem gL_law_X8_part : GoodIn wsL_law (wsV RL 88 RX8 yX8_part wsX8_part) := by
  refine goodIn_app (goodIn_sub ?_ ?_) ggL_law_X8_part
  · exact wm_c ⟨(wk_L_law_L_law_r25 _ (wm_8 (wm_4 (wm_2 wm_h)))), wm_c ⟨(wk_L_law_L_law_r25 _ (wm_8 (wm_4 (wm_2 (wm_1 wm_h))))), wm_c ⟨(wk_L_law_L_law_r25 _ (wm_16 wm_h)), wm_c ⟨(wk_L_law_L_law_r1 _ (wm_4 (wm_1 wm_h))), wm_n⟩⟩⟩⟩
  · decide +kernel
set_option maxRecDepth 20000 in
theorem ggL_law_X7_pair : GoodIn wsL_law wsX7_pair := by
  refine goodIn_sub ?_ gd_X7_pair
  unfold wsX7_pair
  refine wm_c ⟨(wk_L_law_L_law_r25 _ (wm_16 (wm_4 (wm_1 wm_h)))), ?_⟩
  refine wm_a ⟨?_, ?_⟩
  · refine wm_c ⟨(wk_L_law_L_law_r2 _ (wm_2 (wm_1 wm_h))), ?_⟩
    refine wm_c ⟨(wk_L_law_L_law_r1 _ (wm_16 (wm_4 (wm_2 (wm_1 wm_h))))), ?_⟩
    refine wm_c ⟨(wk_L_law_L_law_r11 _ (wm_16 (wm_1 wm_h))), ?_⟩
    refine wm_c ⟨(wk_L_law_L_law_r11 _ (wm_16 (wm_2 wm_h))), ?_⟩
    refine wm_c ⟨(wk_L_law_L_law_r1 _ (wm_2 wm_h)), ?_⟩
    refine wm_c ⟨(wk_L_law_L_law_r11 _ (wm_16 (wm_2 (wm_1 wm_h)))), ?_⟩
    refine wm_c ⟨(wk_L_law_L_law_r25 _ (wm_16 (wm_4 (wm_2 wm_h)))), ?_⟩
    refine wm_c ⟨(wk_L_law_L_law_r25 _ (wm_16 (wm_4 (wm_2 (wm_1 wm_h))))), ?_⟩
    refine wm_c ⟨(wk_L_law_L_law_r26 _ wm_h), ?_⟩
    refine wm_c ⟨(wk_L_law_L_law_r2 _ (wm_2 wm_h)), ?_⟩
    refine wm_c ⟨(wk_L_law_L_law_r26 _ (wm_1 wm_h)), ?_⟩
    refine wm_c ⟨(wk_L_law_L_law_r15 _ (wm_16 wm_h)), ?_⟩
    refine wm_c ⟨(wk_L_law_L_law_r15 _ (wm_16 (wm_1 wm_h))), ?_⟩
    refine wm_c ⟨(wk_L_law_L_law_r4 _ (wm_8 (wm_2 wm_h))), ?_⟩
    refine wm_c ⟨(wk_L_law_L_law_r15 _ (wm_16 (wm_2 wm_h))), ?_⟩
    refine wm_c ⟨(wk_L_law_L_law_r4 _ (wm_16 wm_h)), ?_⟩
    exact wm_n
  · exact wk_L_law_X70
set_option maxRecDepth 20000 in
theorem gL_law_X7_pair : GoodIn wsL_law (wsV RL 89 RX7 yX7_pair wsX7_pair) := by
  refine goodIn_app (goodIn_sub ?_ ?_) ggL_law_X7_pair
  · exact wm_c ⟨(wk_L_law_L_law_r25 _ (wm_16 (wm_2 wm_h))), wm_c ⟨(wk_L_law_L_law_r25 _ (wm_16 (wm_2 (wm_1 wm_h)))), wm_c ⟨(wk_L_law_L_law_r25 _ (wm_16 (wm_4 wm_h))), wm_c ⟨(wk_L_law_L_law_r1 _ (wm_2 wm_h)), wm_n⟩⟩⟩⟩
  · decide +kernel
set_option maxRecDepth 20000 in
theorem ggL_law_X8_pair : GoodIn wsL_law wsX8_pair := by
  refine goodIn_sub ?_ gd_X8_pair
  unfold wsX8_pair
  refine wm_c ⟨(wk_L_law_L_law_r26 _ (wm_4 (wm_1 wm_h))), ?_⟩
  refine wm_a ⟨?_, ?_⟩
  · refine wm_c ⟨(wk_L_law_L_law_r10 _ wm_h), ?_⟩
    refine wm_c ⟨(wk_L_law_L_law_r9 _ (wm_2 wm_h)), ?_⟩
    refine wm_c ⟨(wk_L_law_L_law_r11 _ (wm_8 (wm_1 wm_h))), ?_⟩
    refine wm_c ⟨(wk_L_law_L_law_r12 _ (wm_2 (wm_1 wm_h))), ?_⟩
    refine wm_c ⟨(wk_L_law_L_law_r12 _ (wm_4 wm_h)), ?_⟩
    refine wm_c ⟨(wk_L_law_L_law_r1 _ (wm_4 (wm_1 wm_h))), ?_⟩
    refine wm_c ⟨(wk_L_law_L_law_r12 _ (wm_4 (wm_1 wm_h))), ?_⟩
    refine wm_c ⟨(wk_L_law_L_law_r12 _ (wm_4 (wm_2 wm_h))), ?_⟩
    refine wm_c ⟨(wk_L_law_L_law_r12 _ (wm_4 (wm_2 (wm_1 wm_h)))), ?_⟩
    refine wm_c ⟨(wk_L_law_L_law_r12 _ (wm_8 wm_h)), ?_⟩
    refine wm_c ⟨(wk_L_law_L_law_r12 _ (wm_8 (wm_1 wm_h))), ?_⟩
    exact wm_n
  · exact wk_L_law_X80
set_option maxRecDepth 20000 in
theorem gL_law_X8_pair : GoodIn wsL_law (wsV RL 92 RX8 yX8_pair wsX8_pair) := by
  refine goodIn_app (goodIn_sub ?_ ?_) ggL_law_X8_pair
  · exact wm_c ⟨(wk_L_law_L_law_r26 _ (wm_2 wm_h)), wm_c ⟨(wk_L_law_L_law_r26 _ (wm_2 (wm_1 wm_h))), wm_c ⟨(wk_L_law_L_law_r26 _ (wm_4 wm_h)), wm_c ⟨(wk_L_law_L_law_r1 _ (wm_4 (wm_1 wm_h))), wm_n⟩⟩⟩⟩
  · decide +kernel
set_option maxRecDepth 20000 in
theorem ggL_law_X7_lyndon : GoodIn wsL_law wsX7_lyndon := by
  refine goodIn_sub ?_ gd_X7_lyndon
  unfold wsX7_lyndon
  refine wm_c ⟨(wk_L_law_L_law_r26 _ (wm_8 (wm_1 wm_h))), ?_⟩
  refine wm_a ⟨?_, ?_⟩
  · refine wm_a ⟨?_, ?_⟩
    · refine wm_a ⟨?_, ?_⟩
      · refine wm_a ⟨?_, ?_⟩
        · unfold wsX7_lyndon_r1
          refine wm_c ⟨(wk_L_law_L_law_r1 _ (wm_16 (wm_4 wm_h))), ?_⟩
          refine wm_c ⟨(wk_L_law_L_law_r2 _ (wm_4 (wm_2 (wm_1 wm_h)))), ?_⟩
          refine wm_c ⟨(wk_L_law_L_law_r26 _ (wm_8 (wm_2 wm_h))), ?_⟩
          refine wm_c ⟨(wk_L_law_L_law_r26 _ (wm_8 (wm_2 (wm_1 wm_h)))), ?_⟩
          refine wm_c ⟨(wk_L_law_L_law_r26 _ (wm_8 (wm_4 wm_h))), ?_⟩
          refine wm_c ⟨(wk_L_law_L_law_r26 _ (wm_8 (wm_4 (wm_1 wm_h)))), ?_⟩
          refine wm_c ⟨(wk_L_law_L_law_r1 _ (wm_2 wm_h)), ?_⟩
          refine wm_c ⟨(wk_L_law_L_law_r26 _ (wm_8 (wm_4 (wm_2 wm_h)))), ?_⟩
          refine wm_c ⟨(wk_L_law_L_law_r26 _ (wm_8 (wm_4 (wm_2 (wm_1 wm_h))))), ?_⟩
          refine wm_c ⟨(wk_L_law_L_law_r8 _ (wm_4 (wm_1 wm_h))), ?_⟩
          refine wm_c ⟨(wk_L_law_L_law_r8 _ (wm_4 (wm_2 wm_h))), ?_⟩
          refine wm_c ⟨(wk_L_law_L_law_r2 _ (wm_4 (wm_2 wm_h))), ?_⟩
          refine wm_c ⟨(wk_L_law_L_law_r8 _ (wm_4 (wm_2 (wm_1 wm_h)))), ?_⟩
          refine wm_c ⟨(wk_L_law_L_law_r5 _ (wm_4 wm_h)), ?_⟩
          refine wm_c ⟨(wk_L_law_L_law_r4 _ (wm_16 (wm_4 (wm_2 wm_h)))), ?_⟩
          refine wm_c ⟨(wk_L_law_L_law_r5 _ (wm_2 wm_h)), ?_⟩
          refine wm_c ⟨(wk_L_law_L_law_r26 _ (wm_16 wm_h)), ?_⟩
          refine wm_c ⟨(wk_L_law_L_law_r26 _ (wm_16 (wm_1 wm_h))), ?_⟩
          refine wm_c ⟨(wk_L_law_L_law_r26 _ (wm_16 (wm_2 wm_h))), ?_⟩
          refine wm_c ⟨(wk_L_law_L_law_r1 _ (wm_16 (wm_2 (wm_1 wm_h)))), ?_⟩
          refine wm_c ⟨(wk_L_law_L_law_r26 _ (wm_16 (wm_2 (wm_1 wm_h)))), ?_⟩
          refine wm_c ⟨(wk_L_law_L_law_r3 _ (wm_4 (wm_2 (wm_1 wm_h)))), ?_⟩
          refine wm_c ⟨(wk_L_law_L_law_r3 _ (wm_4 wm_h)), ?_⟩
          refine wm_c ⟨(wk_L_law_L_law_r26 _ (wm_16 (wm_4 wm_h))), ?_⟩
          exact wm_n
        · unfold wsX7_lyndon_r2
          refine wm_c ⟨(wk_L_law_L_law_r6 _ (wm_16 (wm_4 (wm_2 (wm_1 wm_h))))), ?_⟩
          refine wm_c ⟨(wk_L_law_L_law_r7 _ wm_h), ?_⟩
          refine wm_c ⟨(wk_L_law_L_law_r7 _ (wm_1 wm_h)), ?_⟩
          refine wm_c ⟨(wk_L_law_L_law_r3 _ (wm_4 (wm_1 wm_h))), ?_⟩
          exact wm_n
      · exact wk_L_law_X70
    · exact wk_L_law_X10
  · exact wk_L_law_X60
set_option maxRecDepth 20000 in
theorem gL_law_X7_lyndon : GoodIn wsL_law (wsV RL 93 RX7 yX7_lyndon wsX7_lyndon) := by
  refine goodIn_app (goodIn_sub ?_ ?_) ggL_law_X7_lyndon
  · exact wm_c ⟨(wk_L_law_L_law_r26 _ (wm_4 (wm_2 wm_h))), wm_c ⟨(wk_L_law_L_law_r26 _ (wm_4 (wm_2 (wm_1 wm_h)))), wm_c ⟨(wk_L_law_L_law_r26 _ (wm_8 wm_h)), wm_c ⟨(wk_L_law_L_law_r1 _ (wm_2 wm_h)), wm_n⟩⟩⟩⟩
  · decide +kernel
set_option maxRecDepth 20000 in
theorem ggL_law_X8_lyndon : GoodIn wsL_law wsX8_lyndon := by
  refine goodIn_sub ?_ gd_X8_lyndon
  unfold wsX8_lyndon
  refine wm_c ⟨(wk_L_law_L_law_r27 _ wm_h), ?_⟩
  refine wm_a ⟨?_, ?_⟩
  · refine wm_c ⟨(wk_L_law_L_law_r9 _ (wm_2 (wm_1 wm_h))), ?_⟩
    refine wm_c ⟨(wk_L_law_L_law_r27 _ (wm_1 wm_h)), ?_⟩
    refine wm_c ⟨(wk_L_law_L_law_r27 _ (wm_2 wm_h)), ?_⟩
    refine wm_c ⟨(wk_L_law_L_law_r27 _ (wm_2 (wm_1 wm_h))), ?_⟩
    refine wm_c ⟨(wk_L_law_L_law_r1 _ (wm_4 (wm_1 wm_h))), ?_⟩
    refine wm_c ⟨(wk_L_law_L_law_r27 _ (wm_4 wm_h)), ?_⟩
    refine wm_c ⟨(wk_L_law_L_law_r11 _ wm_h), ?_⟩
    refine wm_c ⟨(wk_L_law_L_law_r12 _ (wm_4 (wm_2 (wm_1 wm_h)))), ?_⟩
    refine wm_c ⟨(wk_L_law_L_law_r12 _ (wm_8 wm_h)), ?_⟩
    refine wm_c ⟨(wk_L_law_L_law_r12 _ (wm_8 (wm_1 wm_h))), ?_⟩
    refine wm_c ⟨(wk_L_law_L_law_r27 _ (wm_4 (wm_1 wm_h))), ?_⟩
    refine wm_c ⟨(wk_L_law_L_law_r27 _ (wm_4 (wm_2 wm_h))), ?_⟩
    refine wm_c ⟨(wk_L_law_L_law_r27 _ (wm_4 (wm_2 (wm_1 wm_h)))), ?_⟩
    refine wm_c ⟨(wk_L_law_L_law_r27 _ (wm_8 wm_h)), ?_⟩
    refine wm_c ⟨(wk_L_law_L_law_r9 _ wm_h), ?_⟩
    refine wm_c ⟨(wk_L_law_L_law_r10 _ (wm_16 wm_h)), ?_⟩
    refine wm_c ⟨(wk_L_law_L_law_r10 _ (wm_16 (wm_1 wm_h))), ?_⟩
    refine wm_c ⟨(wk_L_law_L_law_r10 _ (wm_16 (wm_2 wm_h))), ?_⟩
    refine wm_c ⟨(wk_L_law_L_law_r10 _ (wm_16 (wm_2 (wm_1 wm_h)))), ?_⟩
    refine wm_c ⟨(wk_L_law_L_law_r8 _ (wm_16 (wm_4 (wm_2 (wm_1 wm_h))))), ?_⟩
    refine wm_c ⟨(wk_L_law_L_law_r8 _ (wm_16 (wm_4 (wm_2 wm_h)))), ?_⟩
    refine wm_c ⟨(wk_L_law_L_law_r9 _ (wm_16 (wm_4 (wm_2 wm_h)))), ?_⟩
    exact wm_n
  · exact wk_L_law_X80
set_option maxRecDepth 20000 in
theorem gL_law_X8_lyndon : GoodIn wsL_law (wsV RL 96 RX8 yX8_lyndon wsX8_lyndon) := by
  refine goodIn_app (goodIn_sub ?_ ?_) ggL_law_X8_lyndon
  · exact wm_c ⟨(wk_L_law_L_law_r26 _ (wm_16 (wm_4 (wm_1 wm_h)))), wm_c ⟨(wk_L_law_L_law_r26 _ (wm_16 (wm_4 (wm_2 wm_h)))), wm_c ⟨(wk_L_law_L_law_r26 _ (wm_16 (wm_4 (wm_2 (wm_1 wm_h))))), wm_c ⟨(wk_L_law_L_law_r1 _ (wm_4 (wm_1 wm_h))), wm_n⟩⟩⟩⟩
  · decide +kernel
set_option maxRecDepth 20000 in
theorem ggL_law_X7_lyndons : GoodIn wsL_law wsX7_lyndons := by
  refine goodIn_sub ?_ gd_X7_lyndons
  unfold wsX7_lyndons
  refine wm_c ⟨(wk_L_law_L_law_r27 _ (wm_8 (wm_4 wm_h))), ?_⟩
  refine wm_a ⟨?_, ?_⟩
  · refine wm_a ⟨?_, ?_⟩
    · refine wm_a ⟨?_, ?_⟩
      · refine wm_c ⟨(wk_L_law_L_law_r1 _ (wm_16 (wm_4 wm_h))), ?_⟩
        refine wm_c ⟨(wk_L_law_L_law_r25 _ (wm_8 (wm_1 wm_h))), ?_⟩
        refine wm_c ⟨(wk_L_law_L_law_r2 _ (wm_4 (wm_2 (wm_1 wm_h)))), ?_⟩
        refine wm_c ⟨(wk_L_law_L_law_r27 _ (wm_8 (wm_4 (wm_1 wm_h)))), ?_⟩
        refine wm_c ⟨(wk_L_law_L_law_r8 _ (wm_1 wm_h)), ?_⟩
        refine wm_c ⟨(wk_L_law_L_law_r8 _ (wm_2 wm_h)), ?_⟩
        refine wm_c ⟨(wk_L_law_L_law_r2 _ (wm_4 (wm_2 wm_h))), ?_⟩
        refine wm_c ⟨(wk_L_law_L_law_r8 _ (wm_2 (wm_1 wm_h))), ?_⟩
        refine wm_c ⟨(wk_L_law_L_law_r5 _ (wm_4 wm_h)), ?_⟩
        exact wm_n
      · exact wk_L_law_X70
    · exact wk_L_law_X60
  · exact wk_L_law_X10
set_option maxRecDepth 20000 in
theorem gL_law_X7_lyndons : GoodIn wsL_law (wsV RL 97 RX7 yX7_lyndons wsX7_lyndons) := by
  refine goodIn_app (goodIn_sub ?_ ?_) ggL_law_X7_lyndons
  · exact wm_c ⟨(wk_L_law_L_law_r27 _ (wm_8 (wm_1 wm_h))), wm_c ⟨(wk_L_law_L_law_r27 _ (wm_8 (wm_2 wm_h))), wm_c ⟨(wk_L_law_L_law_r27 _ (wm_8 (wm_2 (wm_1 wm_h)))), wm_c ⟨(wk_L_law_L_law_r1 _ (wm_2 wm_h)), wm_n⟩⟩⟩⟩
  · decide +kernel
set_option maxRecDepth 20000 in
theorem ggL_law_X8_lyndons : GoodIn wsL_law wsX8_lyndons := by
  refine goodIn_sub ?_ gd_X8_lyndons
  unfold wsX8_lyndons
  refine wm_c ⟨(wk_L_law_L_law_r27 _ (wm_16 (wm_1 wm_h))), ?_⟩
  refine wm_a ⟨?_, ?_⟩
  · refine wm_c ⟨(wk_L_law_L_law_r9 _ (wm_16 (wm_4 (wm_2 (wm_1 wm_h))))), ?_⟩
    refine wm_c ⟨(wk_L_law_L_law_r12 _ (wm_4 (wm_2 (wm_1 wm_h)))), ?_⟩
    refine wm_c ⟨(wk_L_law_L_law_r12 _ (wm_8 wm_h)), ?_⟩
    refine wm_c ⟨(wk_L_law_L_law_r1 _ (wm_4 (wm_1 wm_h))), ?_⟩
    refine wm_c ⟨(wk_L_law_L_law_r12 _ (wm_8 (wm_1 wm_h))), ?_⟩
    refine wm_c ⟨(wk_L_law_L_law_r27 _ (wm_16 (wm_2 wm_h))), ?_⟩
    refine wm_c ⟨(wk_L_law_L_law_r27 _ (wm_16 (wm_2 (wm_1 wm_h)))), ?_⟩
    refine wm_c ⟨(wk_L_law_L_law_r27 _ (wm_16 (wm_4 wm_h))), ?_⟩
    refine wm_c ⟨(wk_L_law_L_law_r27 _ (wm_16 (wm_4 (wm_1 wm_h)))), ?_⟩
    refine wm_c ⟨(wk_L_law_L_law_r11 _ wm_h), ?_⟩
    refine wm_c ⟨(wk_L_law_L_law_r9 _ wm_h), ?_⟩
    refine wm_c ⟨(wk_L_law_L_law_r9 _ (wm_2 (wm_1 wm_h))), ?_⟩
    exact wm_n
  · exact wk_L_law_X80
set_option maxRecDepth 20000 in
theorem gL_law_X8_lyndons : GoodIn wsL_law (wsV RL 100 RX8 yX8_lyndons wsX8_lyndons) := by
  refine goodIn_app (goodIn_sub ?_ ?_) ggL_law_X8_lyndons
  · exact wm_c ⟨(wk_L_law_L_law_r27 _ (wm_8 (wm_4 (wm_2 wm_h)))), wm_c ⟨(wk_L_law_L_law_r27 _ (wm_8 (wm_4 (wm_2 (wm_1 wm_h))))), wm_c ⟨(wk_L_law_L_law_r27 _ (wm_16 wm_h)), wm_c ⟨(wk_L_law_L_law_r1 _ (wm_4 (wm_1 wm_h))), wm_n⟩⟩⟩⟩
  · decide +kernel
set_option maxRecDepth 20000 in
theorem ggL_law_X7_side : GoodIn wsL_law wsX7_side := by
  refine goodIn_sub ?_ gd_X7_side
  unfold wsX7_side
  refine wm_c ⟨(wk_L_law_L_law_r28 _ (wm_1 wm_h)), ?_⟩
  refine wm_a ⟨?_, ?_⟩
  · refine wm_a ⟨?_, ?_⟩
    · refine wm_a ⟨?_, ?_⟩
      · refine wm_c ⟨(wk_L_law_L_law_r2 _ (wm_4 (wm_2 (wm_1 wm_h)))), ?_⟩
        refine wm_c ⟨(wk_L_law_L_law_r28 _ (wm_2 wm_h)), ?_⟩
        refine wm_c ⟨(wk_L_law_L_law_r28 _ (wm_2 (wm_1 wm_h))), ?_⟩
        refine wm_c ⟨(wk_L_law_L_law_r26 _ (wm_8 (wm_2 (wm_1 wm_h)))), ?_⟩
        refine wm_c ⟨(wk_L_law_L_law_r26 _ (wm_8 (wm_4 wm_h))), ?_⟩
        refine wm_c ⟨(wk_L_law_L_law_r26 _ (wm_8 (wm_4 (wm_1 wm_h)))), ?_⟩
        refine wm_c ⟨(wk_L_law_L_law_r1 _ (wm_2 wm_h)), ?_⟩
        refine wm_c ⟨(wk_L_law_L_law_r26 _ (wm_8 (wm_4 (wm_2 wm_h)))), ?_⟩
        refine wm_c ⟨(wk_L_law_L_law_r26 _ (wm_8 (wm_4 (wm_2 (wm_1 wm_h))))), ?_⟩
        refine wm_c ⟨(wk_L_law_L_law_r8 _ (wm_4 (wm_1 wm_h))), ?_⟩
        refine wm_c ⟨(wk_L_law_L_law_r8 _ (wm_4 (wm_2 wm_h))), ?_⟩
        refine wm_c ⟨(wk_L_law_L_law_r2 _ (wm_4 (wm_2 wm_h))), ?_⟩
        refine wm_c ⟨(wk_L_law_L_law_r8 _ (wm_4 (wm_2 (wm_1 wm_h)))), ?_⟩
        refine wm_c ⟨(wk_L_law_L_law_r5 _ (wm_4 wm_h)), ?_⟩
        refine wm_c ⟨(wk_L_law_L_law_r4 _ (wm_16 (wm_4 (wm_2 wm_h)))), ?_⟩
        refine wm_c ⟨(wk_L_law_L_law_r5 _ (wm_2 wm_h)), ?_⟩
        exact wm_n
      · exact wk_L_law_X70
    · exact wk_L_law_X10
  · exact wk_L_law_X60
set_option maxRecDepth 20000 in
theorem gL_law_X7_side : GoodIn wsL_law (wsV RL 101 RX7 yX7_side wsX7_side) := by
  refine goodIn_app (goodIn_sub ?_ ?_) ggL_law_X7_side
  · exact wm_c ⟨(wk_L_law_L_law_r27 _ (wm_16 (wm_4 (wm_2 wm_h)))), wm_c ⟨(wk_L_law_L_law_r27 _ (wm_16 (wm_4 (wm_2 (wm_1 wm_h))))), wm_c ⟨(wk_L_law_L_law_r28 _ wm_h), wm_c ⟨(wk_L_law_L_law_r1 _ (wm_2 wm_h)), wm_n⟩⟩⟩⟩
  · decide +kernel
