set_option maxRecDepth 20000 in
theorem ggL_law_X8_side : GoodIn wsL_law wsX8_side := by
  refine goodIn_sub ?_ gd_X8_side
  unfold wsX8_side
  refine wm_c ⟨(wk_L_law_L_law_r28 _ (wm_4 (wm_2 (wm_1 wm_h)))), ?_⟩
  refine wm_a ⟨?_, ?_⟩
  · refine wm_c ⟨(wk_L_law_L_law_r9 _ (wm_4 wm_h)), ?_⟩
    refine wm_c ⟨(wk_L_law_L_law_r9 _ (wm_4 (wm_1 wm_h))), ?_⟩
    refine wm_c ⟨(wk_L_law_L_law_r27 _ (wm_1 wm_h)), ?_⟩
    refine wm_c ⟨(wk_L_law_L_law_r27 _ (wm_2 wm_h)), ?_⟩
    refine wm_c ⟨(wk_L_law_L_law_r27 _ (wm_2 (wm_1 wm_h))), ?_⟩
    refine wm_c ⟨(wk_L_law_L_law_r1 _ (wm_4 (wm_1 wm_h))), ?_⟩
    refine wm_c ⟨(wk_L_law_L_law_r27 _ (wm_4 wm_h)), ?_⟩
    refine wm_c ⟨(wk_L_law_L_law_r11 _ wm_h), ?_⟩
    refine wm_c ⟨(wk_L_law_L_law_r12 _ (wm_4 (wm_2 (wm_1 wm_h)))), ?_⟩
    refine wm_c ⟨(wk_L_law_L_law_r12 _ (wm_8 wm_h)), ?_⟩
    refine wm_c ⟨(wk_L_law_L_law_r12 _ (wm_8 (wm_1 wm_h))), ?_⟩
    exact wm_n
  · exact wk_L_law_X80
set_option maxRecDepth 20000 in
theorem gL_law_X8_side : GoodIn wsL_law (wsV RL 104 RX8 yX8_side wsX8_side) := by
  refine goodIn_app (goodIn_sub ?_ ?_) ggL_law_X8_side
  · exact wm_c ⟨(wk_L_law_L_law_r28 _ (wm_4 wm_h)), wm_c ⟨(wk_L_law_L_law_r28 _ (wm_4 (wm_1 wm_h))), wm_c ⟨(wk_L_law_L_law_r28 _ (wm_4 (wm_2 wm_h))), wm_c ⟨(wk_L_law_L_law_r1 _ (wm_4 (wm_1 wm_h))), wm_n⟩⟩⟩⟩
  · decide +kernel
set_option maxRecDepth 20000 in
theorem ggL_law_X7_basis : GoodIn wsL_law wsX7_basis := by
  refine goodIn_sub ?_ gd_X7_basis
  unfold wsX7_basis
  refine wm_c ⟨(wk_L_law_L_law_r28 _ (wm_8 (wm_2 (wm_1 wm_h)))), ?_⟩
  refine wm_a ⟨?_, ?_⟩
  · refine wm_a ⟨?_, ?_⟩
    · refine wm_a ⟨?_, ?_⟩
      · refine wm_a ⟨?_, ?_⟩
        · refine wm_a ⟨?_, ?_⟩
          · unfold wsX7_basis_r1
            refine wm_c ⟨(wk_L_law_L_law_r2 _ (wm_4 (wm_2 (wm_1 wm_h)))), ?_⟩
            refine wm_c ⟨(wk_L_law_L_law_r2 _ (wm_2 (wm_1 wm_h))), ?_⟩
            refine wm_c ⟨(wk_L_law_L_law_r1 _ (wm_16 (wm_4 (wm_2 (wm_1 wm_h))))), ?_⟩
            refine wm_c ⟨(wk_L_law_L_law_r28 _ (wm_8 (wm_4 wm_h))), ?_⟩
            refine wm_c ⟨(wk_L_law_L_law_r11 _ (wm_16 (wm_1 wm_h))), ?_⟩
            refine wm_c ⟨(wk_L_law_L_law_r11 _ (wm_16 (wm_2 wm_h))), ?_⟩
            refine wm_c ⟨(wk_L_law_L_law_r1 _ (wm_2 wm_h)), ?_⟩
            refine wm_c ⟨(wk_L_law_L_law_r11 _ (wm_16 (wm_2 (wm_1 wm_h)))), ?_⟩
            refine wm_c ⟨(wk_L_law_L_law_r26 _ (wm_8 (wm_2 (wm_1 wm_h)))), ?_⟩
            refine wm_c ⟨(wk_L_law_L_law_r26 _ (wm_8 (wm_4 wm_h))), ?_⟩
            refine wm_c ⟨(wk_L_law_L_law_r26 _ (wm_8 (wm_4 (wm_1 wm_h)))), ?_⟩
            refine wm_c ⟨(wk_L_law_L_law_r26 _ (wm_8 (wm_4 (wm_2 wm_h)))), ?_⟩
            refine wm_c ⟨(wk_L_law_L_law_r26 _ (wm_8 (wm_4 (wm_2 (wm_1 wm_h))))), ?_⟩
            refine wm_c ⟨(wk_L_law_L_law_r8 _ (wm_4 (wm_1 wm_h))), ?_⟩
            refine wm_c ⟨(wk_L_law_L_law_r8 _ (wm_4 (wm_2 wm_h))), ?_⟩
            refine wm_c ⟨(wk_L_law_L_law_r2 _ (wm_4 (wm_2 wm_h))), ?_⟩
            refine wm_c ⟨(wk_L_law_L_law_r8 _ (wm_4 (wm_2 (wm_1 wm_h)))), ?_⟩
            refine wm_c ⟨(wk_L_law_L_law_r5 _ (wm_4 wm_h)), ?_⟩
            refine wm_c ⟨(wk_L_law_L_law_r4 _ (wm_16 (wm_4 (wm_2 wm_h)))), ?_⟩
            refine wm_c ⟨(wk_L_law_L_law_r5 _ (wm_2 wm_h)), ?_⟩
            refine wm_c ⟨(wk_L_law_L_law_r28 _ (wm_8 (wm_4 (wm_1 wm_h)))), ?_⟩
            refine wm_c ⟨(wk_L_law_L_law_r28 _ (wm_8 (wm_4 (wm_2 wm_h)))), ?_⟩
            refine wm_c ⟨(wk_L_law_L_law_r28 _ (wm_8 (wm_4 (wm_2 (wm_1 wm_h))))), ?_⟩
            refine wm_c ⟨(wk_L_law_L_law_r28 _ (wm_16 wm_h)), ?_⟩
            exact wm_n
          · refine wm_a ⟨?_, ?_⟩
            · unfold wsX7_basis_r2
              refine wm_c ⟨(wk_L_law_L_law_r5 _ (wm_1 wm_h)), ?_⟩
              refine wm_c ⟨(wk_L_law_L_law_r5 _ (wm_4 (wm_2 wm_h))), ?_⟩
              refine wm_c ⟨(wk_L_law_L_law_r5 _ (wm_4 (wm_2 (wm_1 wm_h)))), ?_⟩
              refine wm_c ⟨(wk_L_law_L_law_r5 _ (wm_4 (wm_1 wm_h))), ?_⟩
              refine wm_c ⟨(wk_L_law_L_law_r4 _ (wm_16 (wm_4 (wm_2 (wm_1 wm_h))))), ?_⟩
              refine wm_c ⟨(wk_L_law_L_law_r28 _ (wm_16 (wm_1 wm_h))), ?_⟩
              refine wm_c ⟨(wk_L_law_L_law_r11 _ (wm_16 (wm_4 (wm_1 wm_h)))), ?_⟩
              refine wm_c ⟨(wk_L_law_L_law_r6 _ (wm_1 wm_h)), ?_⟩
              refine wm_c ⟨(wk_L_law_L_law_r11 _ (wm_16 (wm_4 (wm_2 wm_h)))), ?_⟩
              refine wm_c ⟨(wk_L_law_L_law_r28 _ (wm_16 (wm_2 wm_h))), ?_⟩
              refine wm_c ⟨(wk_L_law_L_law_r28 _ (wm_16 (wm_2 (wm_1 wm_h)))), ?_⟩
              refine wm_c ⟨(wk_L_law_L_law_r17 _ (wm_16 (wm_2 (wm_1 wm_h)))), ?_⟩
              refine wm_c ⟨(wk_L_law_L_law_r17 _ (wm_16 (wm_4 wm_h))), ?_⟩
              refine wm_c ⟨(wk_L_law_L_law_r2 _ (wm_2 wm_h)), ?_⟩
              refine wm_c ⟨(wk_L_law_L_law_r17 _ (wm_16 (wm_4 (wm_1 wm_h)))), ?_⟩
              refine wm_c ⟨(wk_L_law_L_law_r4 _ (wm_4 wm_h)), ?_⟩
              refine wm_c ⟨(wk_L_law_L_law_r3 _ (wm_16 (wm_2 wm_h))), ?_⟩
              refine wm_c ⟨(wk_L_law_L_law_r17 _ (wm_16 (wm_4 (wm_2 wm_h)))), ?_⟩
              refine wm_c ⟨(wk_L_law_L_law_r16 _ (wm_8 (wm_4 (wm_2 (wm_1 wm_h))))), ?_⟩
              refine wm_c ⟨(wk_L_law_L_law_r16 _ (wm_16 wm_h)), ?_⟩
              refine wm_c ⟨(wk_L_law_L_law_r16 _ (wm_16 (wm_1 wm_h))), ?_⟩
              refine wm_c ⟨(wk_L_law_L_law_r16 _ (wm_16 (wm_2 wm_h))), ?_⟩
              refine wm_c ⟨(wk_L_law_L_law_r16 _ (wm_16 (wm_2 (wm_1 wm_h)))), ?_⟩
              refine wm_c ⟨(wk_L_law_L_law_r3 _ (wm_16 (wm_4 (wm_2 wm_h)))), ?_⟩
              exact wm_n
            · unfold wsX7_basis_r3
              refine wm_c ⟨(wk_L_law_L_law_r4 _ wm_h), ?_⟩
              refine wm_c ⟨(wk_L_law_L_law_r16 _ (wm_16 (wm_4 wm_h))), ?_⟩
              refine wm_c ⟨(wk_L_law_L_law_r16 _ (wm_16 (wm_4 (wm_1 wm_h)))), ?_⟩
              refine wm_c ⟨(wk_L_law_L_law_r16 _ (wm_16 (wm_4 (wm_2 wm_h)))), ?_⟩
              refine wm_c ⟨(wk_L_law_L_law_r16 _ (wm_16 (wm_4 (wm_2 (wm_1 wm_h))))), ?_⟩
              refine wm_c ⟨(wk_L_law_L_law_r17 _ wm_h), ?_⟩
              refine wm_c ⟨(wk_L_law_L_law_r17 _ (wm_1 wm_h)), ?_⟩
              refine wm_c ⟨(wk_L_law_L_law_r6 _ (wm_8 (wm_4 (wm_2 wm_h)))), ?_⟩
              refine wm_c ⟨(wk_L_law_L_law_r6 _ (wm_8 (wm_4 (wm_2 (wm_1 wm_h))))), ?_⟩
              refine wm_c ⟨(wk_L_law_L_law_r6 _ (wm_16 wm_h)), ?_⟩
              refine wm_c ⟨(wk_L_law_L_law_r28 _ (wm_16 (wm_4 wm_h))), ?_⟩
              exact wm_n
        · exact wk_L_law_X70
      · exact wk_L_law_X00
    · exact wk_L_law_X10
  · exact wk_L_law_X60
set_option maxRecDepth 20000 in
theorem gL_law_X7_basis : GoodIn wsL_law (wsV RL 105 RX7 yX7_basis wsX7_basis) := by
  refine goodIn_app (goodIn_sub ?_ ?_) ggL_law_X7_basis
  · exact wm_c ⟨(wk_L_law_L_law_r28 _ (wm_8 wm_h)), wm_c ⟨(wk_L_law_L_law_r28 _ (wm_8 (wm_1 wm_h))), wm_c ⟨(wk_L_law_L_law_r28 _ (wm_8 (wm_2 wm_h))), wm_c ⟨(wk_L_law_L_law_r1 _ (wm_2 wm_h)), wm_n⟩⟩⟩⟩
  · decide +kernel
set_option maxRecDepth 20000 in
theorem ggL_law_X8_basis : GoodIn wsL_law wsX8_basis := by
  refine goodIn_sub ?_ gd_X8_basis
  unfold wsX8_basis
  refine wm_c ⟨(wk_L_law_L_law_r29 _ wm_h), ?_⟩
  refine wm_a ⟨?_, ?_⟩
  · refine wm_c ⟨(wk_L_law_L_law_r9 _ wm_h), ?_⟩
    refine wm_c ⟨(wk_L_law_L_law_r9 _ (wm_2 (wm_1 wm_h))), ?_⟩
    refine wm_c ⟨(wk_L_law_L_law_r8 _ (wm_16 (wm_4 (wm_2 wm_h)))), ?_⟩
    refine wm_c ⟨(wk_L_law_L_law_r9 _ (wm_2 wm_h)), ?_⟩
    refine wm_c ⟨(wk_L_law_L_law_r8 _ (wm_16 (wm_4 (wm_2 (wm_1 wm_h))))), ?_⟩
    refine wm_c ⟨(wk_L_law_L_law_r9 _ (wm_8 wm_h)), ?_⟩
    refine wm_c ⟨(wk_L_law_L_law_r12 _ (wm_2 (wm_1 wm_h))), ?_⟩
    refine wm_c ⟨(wk_L_law_L_law_r12 _ (wm_4 wm_h)), ?_⟩
    refine wm_c ⟨(wk_L_law_L_law_r1 _ (wm_4 (wm_1 wm_h))), ?_⟩
    refine wm_c ⟨(wk_L_law_L_law_r12 _ (wm_4 (wm_1 wm_h))), ?_⟩
    refine wm_c ⟨(wk_L_law_L_law_r12 _ (wm_4 (wm_2 wm_h))), ?_⟩
    refine wm_c ⟨(wk_L_law_L_law_r12 _ (wm_4 (wm_2 (wm_1 wm_h)))), ?_⟩
    refine wm_c ⟨(wk_L_law_L_law_r12 _ (wm_8 wm_h)), ?_⟩
    refine wm_c ⟨(wk_L_law_L_law_r12 _ (wm_8 (wm_1 wm_h))), ?_⟩
    refine wm_c ⟨(wk_L_law_L_law_r27 _ (wm_1 wm_h)), ?_⟩
    refine wm_c ⟨(wk_L_law_L_law_r27 _ (wm_2 wm_h)), ?_⟩
    refine wm_c ⟨(wk_L_law_L_law_r27 _ (wm_2 (wm_1 wm_h))), ?_⟩
    refine wm_c ⟨(wk_L_law_L_law_r27 _ (wm_4 wm_h)), ?_⟩
    refine wm_c ⟨(wk_L_law_L_law_r11 _ wm_h), ?_⟩
    refine wm_c ⟨(wk_L_law_L_law_r12 _ (wm_8 (wm_2 wm_h))), ?_⟩
    refine wm_c ⟨(wk_L_law_L_law_r12 _ (wm_8 (wm_2 (wm_1 wm_h)))), ?_⟩
    refine wm_c ⟨(wk_L_law_L_law_r12 _ (wm_8 (wm_4 wm_h))), ?_⟩
    refine wm_c ⟨(wk_L_law_L_law_r12 _ (wm_8 (wm_4 (wm_1 wm_h)))), ?_⟩
    refine wm_c ⟨(wk_L_law_L_law_r10 _ wm_h), ?_⟩
    exact wm_n
  · exact wk_L_law_X80
set_option maxRecDepth 20000 in
theorem gL_law_X8_basis : GoodIn wsL_law (wsV RL 108 RX8 yX8_basis wsX8_basis) := by
  refine goodIn_app (goodIn_sub ?_ ?_) ggL_law_X8_basis
  · exact wm_c ⟨(wk_L_law_L_law_r28 _ (wm_16 (wm_4 (wm_1 wm_h)))), wm_c ⟨(wk_L_law_L_law_r28 _ (wm_16 (wm_4 (wm_2 wm_h)))), wm_c ⟨(wk_L_law_L_law_r28 _ (wm_16 (wm_4 (wm_2 (wm_1 wm_h))))), wm_c ⟨(wk_L_law_L_law_r1 _ (wm_4 (wm_1 wm_h))), wm_n⟩⟩⟩⟩
  · decide +kernel
set_option maxRecDepth 20000 in
theorem ggL_law_X7_text : GoodIn wsL_law wsX7_text := by
  refine goodIn_sub ?_ gd_X7_text
  unfold wsX7_text
  refine wm_c ⟨(wk_L_law_L_law_r29 _ (wm_4 wm_h)), ?_⟩
  refine wm_a ⟨?_, ?_⟩
  · refine wm_a ⟨?_, ?_⟩
    · refine wm_a ⟨?_, ?_⟩
      · refine wm_a ⟨?_, ?_⟩
        · unfold wsX7_text_r1
          refine wm_c ⟨(wk_L_law_L_law_r2 _ (wm_4 (wm_2 (wm_1 wm_h)))), ?_⟩
          refine wm_c ⟨(wk_L_law_L_law_r26 _ (wm_8 (wm_2 (wm_1 wm_h)))), ?_⟩
          refine wm_c ⟨(wk_L_law_L_law_r26 _ (wm_8 (wm_4 wm_h))), ?_⟩
          refine wm_c ⟨(wk_L_law_L_law_r26 _ (wm_8 (wm_4 (wm_1 wm_h)))), ?_⟩
          refine wm_c ⟨(wk_L_law_L_law_r1 _ (wm_2 wm_h)), ?_⟩
          refine wm_c ⟨(wk_L_law_L_law_r26 _ (wm_8 (wm_4 (wm_2 wm_h)))), ?_⟩
          refine wm_c ⟨(wk_L_law_L_law_r26 _ (wm_8 (wm_4 (wm_2 (wm_1 wm_h))))), ?_⟩
          refine wm_c ⟨(wk_L_law_L_law_r8 _ (wm_4 (wm_1 wm_h))), ?_⟩
          refine wm_c ⟨(wk_L_law_L_law_r8 _ (wm_4 (wm_2 wm_h))), ?_⟩
          refine wm_c ⟨(wk_L_law_L_law_r2 _ (wm_4 (wm_2 wm_h))), ?_⟩
          refine wm_c ⟨(wk_L_law_L_law_r8 _ (wm_4 (wm_2 (wm_1 wm_h)))), ?_⟩
          refine wm_c ⟨(wk_L_law_L_law_r5 _ (wm_4 wm_h)), ?_⟩
          refine wm_c ⟨(wk_L_law_L_law_r4 _ (wm_16 (wm_4 (wm_2 wm_h)))), ?_⟩
          refine wm_c ⟨(wk_L_law_L_law_r5 _ (wm_2 wm_h)), ?_⟩
          refine wm_c ⟨(wk_L_law_L_law_r29 _ (wm_4 (wm_1 wm_h))), ?_⟩
          refine wm_c ⟨(wk_L_law_L_law_r29 _ (wm_4 (wm_2 wm_h))), ?_⟩
          refine wm_c ⟨(wk_L_law_L_law_r29 _ (wm_4 (wm_2 (wm_1 wm_h)))), ?_⟩
          refine wm_c ⟨(wk_L_law_L_law_r29 _ (wm_8 wm_h)), ?_⟩
          refine wm_c ⟨(wk_L_law_L_law_r5 _ (wm_4 (wm_2 wm_h))), ?_⟩
          refine wm_c ⟨(wk_L_law_L_law_r5 _ (wm_4 (wm_2 (wm_1 wm_h)))), ?_⟩
          refine wm_c ⟨(wk_L_law_L_law_r29 _ (wm_8 (wm_1 wm_h))), ?_⟩
          refine wm_c ⟨(wk_L_law_L_law_r29 _ (wm_8 (wm_2 wm_h))), ?_⟩
          refine wm_c ⟨(wk_L_law_L_law_r29 _ (wm_8 (wm_2 (wm_1 wm_h)))), ?_⟩
          refine wm_c ⟨(wk_L_law_L_law_r29 _ (wm_8 (wm_4 wm_h))), ?_⟩
          exact wm_n
        · unfold wsX7_text_r2
          refine wm_c ⟨(wk_L_law_L_law_r5 _ (wm_4 (wm_1 wm_h))), ?_⟩
          refine wm_c ⟨(wk_L_law_L_law_r6 _ (wm_16 (wm_4 (wm_2 wm_h)))), ?_⟩
          refine wm_c ⟨(wk_L_law_L_law_r6 _ (wm_16 (wm_4 (wm_2 (wm_1 wm_h))))), ?_⟩
          refine wm_c ⟨(wk_L_law_L_law_r7 _ wm_h), ?_⟩
          refine wm_c ⟨(wk_L_law_L_law_r1 _ (wm_16 (wm_2 (wm_1 wm_h)))), ?_⟩
          refine wm_c ⟨(wk_L_law_L_law_r7 _ (wm_1 wm_h)), ?_⟩
          refine wm_c ⟨(wk_L_law_L_law_r3 _ (wm_4 (wm_1 wm_h))), ?_⟩
          refine wm_c ⟨(wk_L_law_L_law_r3 _ (wm_4 (wm_2 (wm_1 wm_h)))), ?_⟩
          exact wm_n
      · exact wk_L_law_X70
    · exact wk_L_law_X10
  · exact wk_L_law_X60
set_option maxRecDepth 20000 in
theorem gL_law_X7_text : GoodIn wsL_law (wsV RL 109 RX7 yX7_text wsX7_text) := by
  refine goodIn_app (goodIn_sub ?_ ?_) ggL_law_X7_text
  · exact wm_c ⟨(wk_L_law_L_law_r29 _ (wm_1 wm_h)), wm_c ⟨(wk_L_law_L_law_r29 _ (wm_2 wm_h)), wm_c ⟨(wk_L_law_L_law_r29 _ (wm_2 (wm_1 wm_h))), wm_c ⟨(wk_L_law_L_law_r1 _ (wm_2 wm_h)), wm_n⟩⟩⟩⟩
  · decide +kernel
set_option maxRecDepth 20000 in
theorem ggL_law_X8_text : GoodIn wsL_law wsX8_text := by
  refine goodIn_sub ?_ gd_X8_text
  unfold wsX8_text
  refine wm_c ⟨(wk_L_law_L_law_r29 _ (wm_16 wm_h)), ?_⟩
  refine wm_a ⟨?_, ?_⟩
  · refine wm_c ⟨(wk_L_law_L_law_r9 _ (wm_4 (wm_2 wm_h))), ?_⟩
    refine wm_c ⟨(wk_L_law_L_law_r9 _ (wm_4 wm_h)), ?_⟩
    refine wm_c ⟨(wk_L_law_L_law_r9 _ (wm_4 (wm_1 wm_h))), ?_⟩
    refine wm_c ⟨(wk_L_law_L_law_r9 _ (wm_2 (wm_1 wm_h))), ?_⟩
    refine wm_c ⟨(wk_L_law_L_law_r8 _ (wm_16 (wm_4 (wm_2 (wm_1 wm_h))))), ?_⟩
    refine wm_c ⟨(wk_L_law_L_law_r27 _ (wm_1 wm_h)), ?_⟩
    refine wm_c ⟨(wk_L_law_L_law_r27 _ (wm_2 wm_h)), ?_⟩
    refine wm_c ⟨(wk_L_law_L_law_r27 _ (wm_2 (wm_1 wm_h))), ?_⟩
    refine wm_c ⟨(wk_L_law_L_law_r1 _ (wm_4 (wm_1 wm_h))), ?_⟩
    refine wm_c ⟨(wk_L_law_L_law_r27 _ (wm_4 wm_h)), ?_⟩
    refine wm_c ⟨(wk_L_law_L_law_r11 _ wm_h), ?_⟩
    refine wm_c ⟨(wk_L_law_L_law_r12 _ (wm_4 (wm_2 (wm_1 wm_h)))), ?_⟩
    refine wm_c ⟨(wk_L_law_L_law_r12 _ (wm_8 wm_h)), ?_⟩
    refine wm_c ⟨(wk_L_law_L_law_r12 _ (wm_8 (wm_1 wm_h))), ?_⟩
    exact wm_n
  · exact wk_L_law_X80
set_option maxRecDepth 20000 in
theorem gL_law_X8_text : GoodIn wsL_law (wsV RL 112 RX8 yX8_text wsX8_text) := by
  refine goodIn_app (goodIn_sub ?_ ?_) ggL_law_X8_text
  · exact wm_c ⟨(wk_L_law_L_law_r29 _ (wm_8 (wm_4 (wm_1 wm_h)))), wm_c ⟨(wk_L_law_L_law_r29 _ (wm_8 (wm_4 (wm_2 wm_h)))), wm_c ⟨(wk_L_law_L_law_r29 _ (wm_8 (wm_4 (wm_2 (wm_1 wm_h))))), wm_c ⟨(wk_L_law_L_law_r1 _ (wm_4 (wm_1 wm_h))), wm_n⟩⟩⟩⟩
  · decide +kernel
set_option maxRecDepth 20000 in
theorem ggL_law_X7_share : GoodIn wsL_law wsX7_share := by
  refine goodIn_sub ?_ gd_X7_share
  unfold wsX7_share
  refine wm_c ⟨(wk_L_law_L_law_r29 _ (wm_16 (wm_4 wm_h))), ?_⟩
  refine wm_a ⟨?_, ?_⟩
  · refine wm_a ⟨?_, ?_⟩
    · refine wm_a ⟨?_, ?_⟩
      · refine wm_a ⟨?_, ?_⟩
        · refine wm_a ⟨?_, ?_⟩
          · unfold wsX7_share_r1
            refine wm_c ⟨(wk_L_law_L_law_r1 _ (wm_16 (wm_4 wm_h))), ?_⟩
            refine wm_c ⟨(wk_L_law_L_law_r2 _ (wm_4 (wm_2 (wm_1 wm_h)))), ?_⟩
            refine wm_c ⟨(wk_L_law_L_law_r2 _ (wm_2 (wm_1 wm_h))), ?_⟩
            refine wm_c ⟨(wk_L_law_L_law_r1 _ (wm_16 (wm_4 (wm_2 (wm_1 wm_h))))), ?_⟩
            refine wm_c ⟨(wk_L_law_L_law_r28 _ (wm_8 (wm_4 wm_h))), ?_⟩
            refine wm_c ⟨(wk_L_law_L_law_r12 _ (wm_16 (wm_2 wm_h))), ?_⟩
            refine wm_c ⟨(wk_L_law_L_law_r12 _ (wm_16 (wm_2 (wm_1 wm_h)))), ?_⟩
            refine wm_c ⟨(wk_L_law_L_law_r12 _ (wm_16 (wm_4 wm_h))), ?_⟩
            refine wm_c ⟨(wk_L_law_L_law_r1 _ (wm_16 (wm_2 (wm_1 wm_h)))), ?_⟩
            refine wm_c ⟨(wk_L_law_L_law_r12 _ (wm_16 (wm_4 (wm_1 wm_h)))), ?_⟩
            refine wm_c ⟨(wk_L_law_L_law_r3 _ (wm_4 (wm_1 wm_h))), ?_⟩
            refine wm_c ⟨(wk_L_law_L_law_r3 _ (wm_4 wm_h)), ?_⟩
            refine wm_c ⟨(wk_L_law_L_law_r3 _ (wm_4 (wm_2 wm_h))), ?_⟩
            refine wm_c ⟨(wk_L_law_L_law_r3 _ (wm_4 (wm_2 (wm_1 wm_h)))), ?_⟩
            refine wm_c ⟨(wk_L_law_L_law_r11 _ (wm_16 (wm_1 wm_h))), ?_⟩
            refine wm_c ⟨(wk_L_law_L_law_r11 _ (wm_16 (wm_2 wm_h))), ?_⟩
            refine wm_c ⟨(wk_L_law_L_law_r1 _ (wm_2 wm_h)), ?_⟩
            refine wm_c ⟨(wk_L_law_L_law_r11 _ (wm_16 (wm_2 (wm_1 wm_h)))), ?_⟩
            refine wm_c ⟨(wk_L_law_L_law_r29 _ (wm_16 (wm_4 (wm_1 wm_h)))), ?_⟩
            refine wm_c ⟨(wk_L_law_L_law_r29 _ (wm_16 (wm_4 (wm_2 wm_h)))), ?_⟩
            refine wm_c ⟨(wk_L_law_L_law_r29 _ (wm_16 (wm_4 (wm_2 (wm_1 wm_h))))), ?_⟩
            refine wm_c ⟨(wk_L_law_L_law_r2 _ (wm_4 (wm_2 wm_h))), ?_⟩
            refine wm_c ⟨(wk_L_law_L_law_r30 _ wm_h), ?_⟩
            refine wm_c ⟨(wk_L_law_L_law_r4 _ (wm_16 (wm_4 (wm_2 wm_h)))), ?_⟩
            exact wm_n
          · refine wm_a ⟨?_, ?_⟩
            · unfold wsX7_share_r2
              refine wm_c ⟨(wk_L_law_L_law_r6 _ (wm_16 (wm_4 (wm_2 wm_h)))), ?_⟩
              refine wm_c ⟨(wk_L_law_L_law_r6 _ (wm_16 (wm_4 (wm_2 (wm_1 wm_h))))), ?_⟩
              refine wm_c ⟨(wk_L_law_L_law_r7 _ wm_h), ?_⟩
              refine wm_c ⟨(wk_L_law_L_law_r7 _ (wm_1 wm_h)), ?_⟩
              refine wm_c ⟨(wk_L_law_L_law_r5 _ (wm_8 (wm_4 (wm_2 wm_h)))), ?_⟩
              refine wm_c ⟨(wk_L_law_L_law_r5 _ (wm_8 (wm_4 (wm_2 (wm_1 wm_h))))), ?_⟩
              refine wm_c ⟨(wk_L_law_L_law_r5 _ (wm_16 wm_h)), ?_⟩
              refine wm_c ⟨(wk_L_law_L_law_r5 _ (wm_16 (wm_1 wm_h))), ?_⟩
              refine wm_c ⟨(wk_L_law_L_law_r5 _ (wm_8 (wm_4 (wm_1 wm_h)))), ?_⟩
              refine wm_c ⟨(wk_L_law_L_law_r5 _ (wm_2 (wm_1 wm_h))), ?_⟩
              refine wm_c ⟨(wk_L_law_L_law_r5 _ (wm_16 (wm_2 wm_h))), ?_⟩
              refine wm_c ⟨(wk_L_law_L_law_r30 _ (wm_1 wm_h)), ?_⟩
              refine wm_c ⟨(wk_L_law_L_law_r30 _ (wm_2 wm_h)), ?_⟩
              refine wm_c ⟨(wk_L_law_L_law_r30 _ (wm_2 (wm_1 wm_h))), ?_⟩
              refine wm_c ⟨(wk_L_law_L_law_r30 _ (wm_4 wm_h)), ?_⟩
              refine wm_c ⟨(wk_L_law_L_law_r5 _ (wm_1 wm_h)), ?_⟩
              refine wm_c ⟨(wk_L_law_L_law_r4 _ (wm_16 (wm_4 (wm_2 (wm_1 wm_h))))), ?_⟩
              refine wm_c ⟨(wk_L_law_L_law_r30 _ (wm_4 (wm_1 wm_h))), ?_⟩
              refine wm_c ⟨(wk_L_law_L_law_r20 _ (wm_8 (wm_2 (wm_1 wm_h)))), ?_⟩
              refine wm_c ⟨(wk_L_law_L_law_r20 _ (wm_8 (wm_4 wm_h))), ?_⟩
              refine wm_c ⟨(wk_L_law_L_law_r2 _ (wm_2 wm_h)), ?_⟩
              refine wm_c ⟨(wk_L_law_L_law_r20 _ (wm_8 (wm_4 (wm_1 wm_h)))), ?_⟩
              refine wm_c ⟨(wk_L_law_L_law_r16 _ (wm_8 (wm_4 (wm_2 (wm_1 wm_h))))), ?_⟩
              refine wm_c ⟨(wk_L_law_L_law_r11 _ (wm_16 (wm_4 (wm_1 wm_h)))), ?_⟩
              exact wm_n
            · refine wm_a ⟨?_, ?_⟩
              · unfold wsX7_share_r3
                refine wm_c ⟨(wk_L_law_L_law_r6 _ (wm_1 wm_h)), ?_⟩
                refine wm_c ⟨(wk_L_law_L_law_r11 _ (wm_16 (wm_4 (wm_2 wm_h)))), ?_⟩
                refine wm_c ⟨(wk_L_law_L_law_r5 _ (wm_16 (wm_2 (wm_1 wm_h)))), ?_⟩
                refine wm_c ⟨(wk_L_law_L_law_r5 _ (wm_16 (wm_4 wm_h))), ?_⟩
                refine wm_c ⟨(wk_L_law_L_law_r5 _ (wm_16 (wm_4 (wm_1 wm_h)))), ?_⟩
                refine wm_c ⟨(wk_L_law_L_law_r5 _ (wm_16 (wm_4 (wm_2 wm_h)))), ?_⟩
                refine wm_c ⟨(wk_L_law_L_law_r30 _ (wm_4 (wm_2 wm_h))), ?_⟩
                refine wm_c ⟨(wk_L_law_L_law_r30 _ (wm_4 (wm_2 (wm_1 wm_h)))), ?_⟩
                refine wm_c ⟨(wk_L_law_L_law_r30 _ (wm_8 wm_h)), ?_⟩
                refine wm_c ⟨(wk_L_law_L_law_r30 _ (wm_8 (wm_1 wm_h))), ?_⟩
                refine wm_c ⟨(wk_L_law_L_law_r6 _ (wm_16 (wm_4 (wm_1 wm_h)))), ?_⟩
                refine wm_c ⟨(wk_L_law_L_law_r30 _ (wm_8 (wm_2 wm_h))), ?_⟩
                refine wm_c ⟨(wk_L_law_L_law_r6 _ (wm_8 (wm_4 (wm_2 wm_h)))), ?_⟩
                refine wm_c ⟨(wk_L_law_L_law_r6 _ (wm_8 (wm_4 (wm_2 (wm_1 wm_h))))), ?_⟩
                refine wm_c ⟨(wk_L_law_L_law_r6 _ (wm_16 wm_h)), ?_⟩
                refine wm_c ⟨(wk_L_law_L_law_r30 _ (wm_8 (wm_2 (wm_1 wm_h)))), ?_⟩
                refine wm_c ⟨(wk_L_law_L_law_r24 _ (wm_16 wm_h)), ?_⟩
                refine wm_c ⟨(wk_L_law_L_law_r24 _ (wm_16 (wm_1 wm_h))), ?_⟩
                refine wm_c ⟨(wk_L_law_L_law_r24 _ (wm_16 (wm_2 wm_h))), ?_⟩
                refine wm_c ⟨(wk_L_law_L_law_r24 _ (wm_16 (wm_2 (wm_1 wm_h)))), ?_⟩
                refine wm_c ⟨(wk_L_law_L_law_r24 _ (wm_16 (wm_4 wm_h))), ?_⟩
                refine wm_c ⟨(wk_L_law_L_law_r30 _ (wm_8 (wm_4 wm_h))), ?_⟩
                refine wm_c ⟨(wk_L_law_L_law_r18 _ (wm_8 (wm_4 wm_h))), ?_⟩
                refine wm_c ⟨(wk_L_law_L_law_r18 _ (wm_8 (wm_4 (wm_1 wm_h)))), ?_⟩
                exact wm_n
              · refine wm_a ⟨?_, ?_⟩
                · unfold wsX7_share_r4
                  refine wm_c ⟨(wk_L_law_L_law_r18 _ (wm_8 (wm_4 (wm_2 wm_h)))), ?_⟩
                  refine wm_c ⟨(wk_L_law_L_law_r4 _ (wm_4 wm_h)), ?_⟩
                  refine wm_c ⟨(wk_L_law_L_law_r3 _ (wm_16 (wm_2 wm_h))), ?_⟩
                  refine wm_c ⟨(wk_L_law_L_law_r3 _ (wm_16 (wm_4 (wm_2 wm_h)))), ?_⟩
                  refine wm_c ⟨(wk_L_law_L_law_r4 _ wm_h), ?_⟩
                  refine wm_c ⟨(wk_L_law_L_law_r18 _ (wm_8 (wm_4 (wm_2 (wm_1 wm_h))))), ?_⟩
                  refine wm_c ⟨(wk_L_law_L_law_r18 _ (wm_16 wm_h)), ?_⟩
                  refine wm_c ⟨(wk_L_law_L_law_r18 _ (wm_16 (wm_1 wm_h))), ?_⟩
                  refine wm_c ⟨(wk_L_law_L_law_r18 _ (wm_16 (wm_2 wm_h))), ?_⟩
                  refine wm_c ⟨(wk_L_law_L_law_r18 _ (wm_16 (wm_2 (wm_1 wm_h)))), ?_⟩
                  refine wm_c ⟨(wk_L_law_L_law_r4 _ (wm_8 (wm_4 (wm_2 wm_h)))), ?_⟩
                  refine wm_c ⟨(wk_L_law_L_law_r4 _ (wm_8 (wm_2 wm_h))), ?_⟩
                  refine wm_c ⟨(wk_L_law_L_law_r4 _ (wm_8 (wm_4 (wm_2 (wm_1 wm_h))))), ?_⟩
                  refine wm_c ⟨(wk_L_law_L_law_r4 _ (wm_16 wm_h)), ?_⟩
                  refine wm_c ⟨(wk_L_law_L_law_r18 _ (wm_16 (wm_4 wm_h))), ?_⟩
                  refine wm_c ⟨(wk_L_law_L_law_r18 _ (wm_16 (wm_4 (wm_1 wm_h)))), ?_⟩
                  refine wm_c ⟨(wk_L_law_L_law_r18 _ (wm_16 (wm_4 (wm_2 wm_h)))), ?_⟩
                  refine wm_c ⟨(wk_L_law_L_law_r18 _ (wm_16 (wm_4 (wm_2 (wm_1 wm_h))))), ?_⟩
                  refine wm_c ⟨(wk_L_law_L_law_r3 _ (wm_16 (wm_4 wm_h))), ?_⟩
                  refine wm_c ⟨(wk_L_law_L_law_r19 _ wm_h), ?_⟩
                  refine wm_c ⟨(wk_L_law_L_law_r19 _ (wm_1 wm_h)), ?_⟩
                  refine wm_c ⟨(wk_L_law_L_law_r19 _ (wm_2 wm_h)), ?_⟩
                  refine wm_c ⟨(wk_L_law_L_law_r13 _ (wm_4 wm_h)), ?_⟩
                  refine wm_c ⟨(wk_L_law_L_law_r16 _ (wm_16 (wm_4 (wm_1 wm_h)))), ?_⟩
                  exact wm_n
                · unfold wsX7_share_r5
                  refine wm_c ⟨(wk_L_law_L_law_r16 _ (wm_16 (wm_4 (wm_2 wm_h)))), ?_⟩
                  refine wm_c ⟨(wk_L_law_L_law_r16 _ (wm_16 (wm_4 (wm_2 (wm_1 wm_h))))), ?_⟩
                  refine wm_c ⟨(wk_L_law_L_law_r17 _ wm_h), ?_⟩
                  refine wm_c ⟨(wk_L_law_L_law_r17 _ (wm_1 wm_h)), ?_⟩
                  refine wm_c ⟨(wk_L_law_L_law_r30 _ (wm_8 (wm_4 (wm_1 wm_h)))), ?_⟩
                  refine wm_c ⟨(wk_L_law_L_law_r30 _ (wm_8 (wm_4 (wm_2 wm_h)))), ?_⟩
                  refine wm_c ⟨(wk_L_law_L_law_r30 _ (wm_8 (wm_4 (wm_2 (wm_1 wm_h))))), ?_⟩
                  refine wm_c ⟨(wk_L_law_L_law_r30 _ (wm_16 wm_h)), ?_⟩
                  refine wm_c ⟨(wk_L_law_L_law_r30 _ (wm_16 (wm_1 wm_h))), ?_⟩
                  refine wm_c ⟨(wk_L_law_L_law_r4 _ (wm_8 (wm_1 wm_h))), ?_⟩
                  refine wm_c ⟨(wk_L_law_L_law_r4 _ (wm_8 (wm_2 (wm_1 wm_h)))), ?_⟩
                  refine wm_c ⟨(wk_L_law_L_law_r4 _ (wm_8 (wm_4 wm_h))), ?_⟩
                  refine wm_c ⟨(wk_L_law_L_law_r4 _ (wm_8 (wm_4 (wm_1 wm_h)))), ?_⟩
                  refine wm_c ⟨(wk_L_law_L_law_r30 _ (wm_16 (wm_2 wm_h))), ?_⟩
                  refine wm_c ⟨(wk_L_law_L_law_r30 _ (wm_16 (wm_2 (wm_1 wm_h)))), ?_⟩
                  refine wm_c ⟨(wk_L_law_L_law_r30 _ (wm_16 (wm_4 wm_h))), ?_⟩
                  refine wm_c ⟨(wk_L_law_L_law_r30 _ (wm_16 (wm_4 (wm_1 wm_h)))), ?_⟩
                  refine wm_c ⟨(wk_L_law_L_law_r25 _ (wm_16 (wm_4 (wm_2 wm_h)))), ?_⟩
                  refine wm_c ⟨(wk_L_law_L_law_r25 _ (wm_16 (wm_4 (wm_2 (wm_1 wm_h))))), ?_⟩
                  refine wm_c ⟨(wk_L_law_L_law_r26 _ wm_h), ?_⟩
                  refine wm_c ⟨(wk_L_law_L_law_r26 _ (wm_1 wm_h)), ?_⟩
                  refine wm_c ⟨(wk_L_law_L_law_r15 _ (wm_16 wm_h)), ?_⟩
                  refine wm_c ⟨(wk_L_law_L_law_r15 _ (wm_16 (wm_1 wm_h))), ?_⟩
                  refine wm_c ⟨(wk_L_law_L_law_r15 _ (wm_16 (wm_2 wm_h))), ?_⟩
                  exact wm_n
        · exact wk_L_law_X70
      · exact wk_L_law_X00
    · exact wk_L_law_X60
  · exact wk_L_law_X10
set_option maxRecDepth 20000 in
theorem gL_law_X7_share : GoodIn wsL_law (wsV RL 113 RX7 yX7_share wsX7_share) := by
  refine goodIn_app (goodIn_sub ?_ ?_) ggL_law_X7_share
  · exact wm_c ⟨(wk_L_law_L_law_r29 _ (wm_16 (wm_1 wm_h))), wm_c ⟨(wk_L_law_L_law_r29 _ (wm_16 (wm_2 wm_h))), wm_c ⟨(wk_L_law_L_law_r29 _ (wm_16 (wm_2 (wm_1 wm_h)))), wm_c ⟨(wk_L_law_L_law_r1 _ (wm_2 wm_h)), wm_n⟩⟩⟩⟩
  · decide +kernel
set_option maxRecDepth 20000 in
theorem ggL_law_X8_share : GoodIn wsL_law wsX8_share := by
  refine goodIn_sub ?_ gd_X8_share
  unfold wsX8_share
  refine wm_c ⟨(wk_L_law_L_law_r31 _ (wm_1 wm_h)), ?_⟩
  refine wm_a ⟨?_, ?_⟩
  · refine wm_a ⟨?_, ?_⟩
    · unfold wsX8_share_r1
      refine wm_c ⟨(wk_L_law_L_law_r9 _ (wm_2 wm_h)), ?_⟩
      refine wm_c ⟨(wk_L_law_L_law_r13 _ (wm_8 (wm_2 (wm_1 wm_h)))), ?_⟩
      refine wm_c ⟨(wk_L_law_L_law_r13 _ (wm_8 (wm_4 wm_h))), ?_⟩
      refine wm_c ⟨(wk_L_law_L_law_r13 _ (wm_8 (wm_4 (wm_1 wm_h)))), ?_⟩
      refine wm_c ⟨(wk_L_law_L_law_r1 _ (wm_4 (wm_1 wm_h))), ?_⟩
      refine wm_c ⟨(wk_L_law_L_law_r13 _ (wm_8 (wm_4 (wm_2 wm_h)))), ?_⟩
      refine wm_c ⟨(wk_L_law_L_law_r9 _ (wm_16 (wm_4 (wm_2 (wm_1 wm_h))))), ?_⟩
      refine wm_c ⟨(wk_L_law_L_law_r9 _ (wm_16 (wm_4 (wm_2 wm_h)))), ?_⟩
      refine wm_c ⟨(wk_L_law_L_law_r8 _ (wm_16 (wm_4 (wm_2 (wm_1 wm_h))))), ?_⟩
      refine wm_c ⟨(wk_L_law_L_law_r12 _ (wm_4 (wm_2 (wm_1 wm_h)))), ?_⟩
      refine wm_c ⟨(wk_L_law_L_law_r12 _ (wm_8 wm_h)), ?_⟩
      refine wm_c ⟨(wk_L_law_L_law_r12 _ (wm_8 (wm_1 wm_h))), ?_⟩
      refine wm_c ⟨(wk_L_law_L_law_r12 _ (wm_2 (wm_1 wm_h))), ?_⟩
      refine wm_c ⟨(wk_L_law_L_law_r12 _ (wm_4 wm_h)), ?_⟩
      refine wm_c ⟨(wk_L_law_L_law_r12 _ (wm_4 (wm_1 wm_h))), ?_⟩
      refine wm_c ⟨(wk_L_law_L_law_r12 _ (wm_4 (wm_2 wm_h))), ?_⟩
      refine wm_c ⟨(wk_L_law_L_law_r15 _ (wm_16 (wm_4 (wm_2 (wm_1 wm_h))))), ?_⟩
      refine wm_c ⟨(wk_L_law_L_law_r16 _ wm_h), ?_⟩
      refine wm_c ⟨(wk_L_law_L_law_r16 _ (wm_1 wm_h)), ?_⟩
      refine wm_c ⟨(wk_L_law_L_law_r16 _ (wm_2 wm_h)), ?_⟩
      refine wm_c ⟨(wk_L_law_L_law_r10 _ wm_h), ?_⟩
      refine wm_c ⟨(wk_L_law_L_law_r31 _ (wm_2 wm_h)), ?_⟩
      refine wm_c ⟨(wk_L_law_L_law_r31 _ (wm_2 (wm_1 wm_h))), ?_⟩
      refine wm_c ⟨(wk_L_law_L_law_r31 _ (wm_4 wm_h)), ?_⟩
      exact wm_n
    · refine wm_a ⟨?_, ?_⟩
      · unfold wsX8_share_r2
        refine wm_c ⟨(wk_L_law_L_law_r31 _ (wm_4 (wm_1 wm_h))), ?_⟩
        refine wm_c ⟨(wk_L_law_L_law_r9 _ wm_h), ?_⟩
        refine wm_c ⟨(wk_L_law_L_law_r8 _ (wm_16 (wm_4 (wm_2 wm_h)))), ?_⟩
        refine wm_c ⟨(wk_L_law_L_law_r9 _ (wm_8 (wm_1 wm_h))), ?_⟩
        refine wm_c ⟨(wk_L_law_L_law_r11 _ (wm_8 (wm_1 wm_h))), ?_⟩
        refine wm_c ⟨(wk_L_law_L_law_r31 _ (wm_4 (wm_2 wm_h))), ?_⟩
        refine wm_c ⟨(wk_L_law_L_law_r31 _ (wm_4 (wm_2 (wm_1 wm_h)))), ?_⟩
        refine wm_c ⟨(wk_L_law_L_law_r31 _ (wm_8 wm_h)), ?_⟩
        refine wm_c ⟨(wk_L_law_L_law_r31 _ (wm_8 (wm_1 wm_h))), ?_⟩
        refine wm_c ⟨(wk_L_law_L_law_r9 _ (wm_4 (wm_2 (wm_1 wm_h)))), ?_⟩
        refine wm_c ⟨(wk_L_law_L_law_r9 _ (wm_8 (wm_2 wm_h))), ?_⟩
        refine wm_c ⟨(wk_L_law_L_law_r9 _ (wm_8 wm_h)), ?_⟩
        refine wm_c ⟨(wk_L_law_L_law_r31 _ (wm_8 (wm_2 wm_h))), ?_⟩
        refine wm_c ⟨(wk_L_law_L_law_r31 _ (wm_8 (wm_2 (wm_1 wm_h)))), ?_⟩
        refine wm_c ⟨(wk_L_law_L_law_r31 _ (wm_8 (wm_4 wm_h))), ?_⟩
        refine wm_c ⟨(wk_L_law_L_law_r31 _ (wm_8 (wm_4 (wm_1 wm_h)))), ?_⟩
        refine wm_c ⟨(wk_L_law_L_law_r10 _ (wm_8 wm_h)), ?_⟩
        refine wm_c ⟨(wk_L_law_L_law_r10 _ (wm_8 (wm_1 wm_h))), ?_⟩
        refine wm_c ⟨(wk_L_law_L_law_r10 _ (wm_8 (wm_2 wm_h))), ?_⟩
        refine wm_c ⟨(wk_L_law_L_law_r10 _ (wm_8 (wm_2 (wm_1 wm_h)))), ?_⟩
        refine wm_c ⟨(wk_L_law_L_law_r11 _ (wm_1 wm_h)), ?_⟩
        refine wm_c ⟨(wk_L_law_L_law_r11 _ (wm_2 wm_h)), ?_⟩
        refine wm_c ⟨(wk_L_law_L_law_r11 _ (wm_2 (wm_1 wm_h))), ?_⟩
        refine wm_c ⟨(wk_L_law_L_law_r11 _ (wm_4 wm_h)), ?_⟩
        exact wm_n
      · unfold wsX8_share_r3
        refine wm_c ⟨(wk_L_law_L_law_r31 _ (wm_8 (wm_4 (wm_2 wm_h)))), ?_⟩
        refine wm_c ⟨(wk_L_law_L_law_r31 _ (wm_8 (wm_4 (wm_2 (wm_1 wm_h))))), ?_⟩
        refine wm_c ⟨(wk_L_law_L_law_r31 _ (wm_16 wm_h)), ?_⟩
        refine wm_c ⟨(wk_L_law_L_law_r31 _ (wm_16 (wm_1 wm_h))), ?_⟩
        refine wm_c ⟨(wk_L_law_L_law_r11 _ (wm_8 (wm_2 wm_h))), ?_⟩
        refine wm_c ⟨(wk_L_law_L_law_r11 _ (wm_8 (wm_2 (wm_1 wm_h)))), ?_⟩
        refine wm_c ⟨(wk_L_law_L_law_r11 _ (wm_8 (wm_4 wm_h))), ?_⟩
        exact wm_n
  · exact wk_L_law_X80
set_option maxRecDepth 20000 in
theorem gL_law_X8_share : GoodIn wsL_law (wsV RL 116 RX8 yX8_share wsX8_share) := by
  refine goodIn_app (goodIn_sub ?_ ?_) ggL_law_X8_share
  · exact wm_c ⟨(wk_L_law_L_law_r30 _ (wm_16 (wm_4 (wm_2 wm_h)))), wm_c ⟨(wk_L_law_L_law_r30 _ (wm_16 (wm_4 (wm_2 (wm_1 wm_h))))), wm_c ⟨(wk_L_law_L_law_r31 _ wm_h), wm_c ⟨(wk_L_law_L_law_r1 _ (wm_4 (wm_1 wm_h))), wm_n⟩⟩⟩⟩
  · decide +kernel
set_option maxRecDepth 20000 in
theorem ggL_law_X7_lie : GoodIn wsL_law wsX7_lie := by
  refine goodIn_sub ?_ gd_X7_lie
  unfold wsX7_lie
  refine wm_c ⟨(wk_L_law_L_law_r31 _ (wm_16 (wm_4 (wm_1 wm_h)))), ?_⟩
  refine wm_a ⟨?_, ?_⟩
  · refine wm_a ⟨?_, ?_⟩
    · refine wm_a ⟨?_, ?_⟩
      · unfold wsX7_lie_r1
        refine wm_c ⟨(wk_L_law_L_law_r2 _ (wm_2 (wm_1 wm_h))), ?_⟩
        refine wm_c ⟨(wk_L_law_L_law_r1 _ (wm_16 (wm_4 (wm_2 (wm_1 wm_h))))), ?_⟩
        refine wm_c ⟨(wk_L_law_L_law_r11 _ (wm_16 (wm_1 wm_h))), ?_⟩
        refine wm_c ⟨(wk_L_law_L_law_r11 _ (wm_16 (wm_2 wm_h))), ?_⟩
        refine wm_c ⟨(wk_L_law_L_law_r1 _ (wm_2 wm_h)), ?_⟩
        refine wm_c ⟨(wk_L_law_L_law_r11 _ (wm_16 (wm_2 (wm_1 wm_h)))), ?_⟩
        refine wm_c ⟨(wk_L_law_L_law_r31 _ (wm_16 (wm_4 (wm_2 wm_h)))), ?_⟩
        refine wm_c ⟨(wk_L_law_L_law_r31 _ (wm_16 (wm_4 (wm_2 (wm_1 wm_h))))), ?_⟩
        refine wm_c ⟨(wk_L_law_L_law_r32 _ wm_h), ?_⟩
        refine wm_c ⟨(wk_L_law_L_law_r2 _ (wm_2 wm_h)), ?_⟩
        refine wm_c ⟨(wk_L_law_L_law_r32 _ (wm_1 wm_h)), ?_⟩
        refine wm_c ⟨(wk_L_law_L_law_r3 _ (wm_16 (wm_2 wm_h))), ?_⟩
        refine wm_c ⟨(wk_L_law_L_law_r32 _ (wm_2 wm_h)), ?_⟩
        refine wm_c ⟨(wk_L_law_L_law_r32 _ (wm_2 (wm_1 wm_h))), ?_⟩
        refine wm_c ⟨(wk_L_law_L_law_r32 _ (wm_4 wm_h)), ?_⟩
        refine wm_c ⟨(wk_L_law_L_law_r32 _ (wm_4 (wm_1 wm_h))), ?_⟩
        refine wm_c ⟨(wk_L_law_L_law_r4 _ wm_h), ?_⟩
        refine wm_c ⟨(wk_L_law_L_law_r32 _ (wm_4 (wm_2 wm_h))), ?_⟩
        refine wm_c ⟨(wk_L_law_L_law_r32 _ (wm_4 (wm_2 (wm_1 wm_h)))), ?_⟩
        refine wm_c ⟨(wk_L_law_L_law_r32 _ (wm_8 wm_h)), ?_⟩
        refine wm_c ⟨(wk_L_law_L_law_r32 _ (wm_8 (wm_1 wm_h))), ?_⟩
        refine wm_c ⟨(wk_L_law_L_law_r4 _ (wm_4 (wm_2 wm_h))), ?_⟩
        refine wm_c ⟨(wk_L_law_L_law_r4 _ (wm_4 (wm_2 (wm_1 wm_h)))), ?_⟩
        refine wm_c ⟨(wk_L_law_L_law_r3 _ (wm_16 (wm_4 (wm_2 wm_h)))), ?_⟩
        exact wm_n
      · unfold wsX7_lie_r2
        refine wm_c ⟨(wk_L_law_L_law_r17 _ (wm_1 wm_h)), ?_⟩
        refine wm_c ⟨(wk_L_law_L_law_r6 _ (wm_8 (wm_4 (wm_2 wm_h)))), ?_⟩
        refine wm_c ⟨(wk_L_law_L_law_r6 _ (wm_8 (wm_4 (wm_2 (wm_1 wm_h))))), ?_⟩
        refine wm_c ⟨(wk_L_law_L_law_r6 _ (wm_16 wm_h)), ?_⟩
        refine wm_c ⟨(wk_L_law_L_law_r32 _ (wm_8 (wm_2 wm_h))), ?_⟩
        refine wm_c ⟨(wk_L_law_L_law_r32 _ (wm_8 (wm_2 (wm_1 wm_h)))), ?_⟩
        refine wm_c ⟨(wk_L_law_L_law_r32 _ (wm_8 (wm_4 wm_h))), ?_⟩
        refine wm_c ⟨(wk_L_law_L_law_r32 _ (wm_8 (wm_4 (wm_1 wm_h)))), ?_⟩
        refine wm_c ⟨(wk_L_law_L_law_r3 _ (wm_16 (wm_4 wm_h))), ?_⟩
        refine wm_c ⟨(wk_L_law_L_law_r19 _ (wm_16 (wm_2 (wm_1 wm_h)))), ?_⟩
        refine wm_c ⟨(wk_L_law_L_law_r19 _ (wm_16 (wm_4 wm_h))), ?_⟩
        refine wm_c ⟨(wk_L_law_L_law_r4 _ (wm_8 (wm_2 wm_h))), ?_⟩
        refine wm_c ⟨(wk_L_law_L_law_r19 _ (wm_16 (wm_4 (wm_1 wm_h)))), ?_⟩
        refine wm_c ⟨(wk_L_law_L_law_r13 _ (wm_4 wm_h)), ?_⟩
        refine wm_c ⟨(wk_L_law_L_law_r18 _ (wm_16 (wm_2 (wm_1 wm_h)))), ?_⟩
        refine wm_c ⟨(wk_L_law_L_law_r4 _ (wm_8 (wm_4 (wm_2 wm_h)))), ?_⟩
        refine wm_c ⟨(wk_L_law_L_law_r4 _ (wm_8 (wm_4 (wm_2 (wm_1 wm_h))))), ?_⟩
        refine wm_c ⟨(wk_L_law_L_law_r4 _ (wm_16 wm_h)), ?_⟩
        exact wm_n
    · exact wk_L_law_X70
  · exact wk_L_law_X00
set_option maxRecDepth 20000 in
theorem gL_law_X7_lie : GoodIn wsL_law (wsV RL 117 RX7 yX7_lie wsX7_lie) := by
  refine goodIn_app (goodIn_sub ?_ ?_) ggL_law_X7_lie
  · exact wm_c ⟨(wk_L_law_L_law_r31 _ (wm_16 (wm_2 wm_h))), wm_c ⟨(wk_L_law_L_law_r31 _ (wm_16 (wm_2 (wm_1 wm_h)))), wm_c ⟨(wk_L_law_L_law_r31 _ (wm_16 (wm_4 wm_h))), wm_c ⟨(wk_L_law_L_law_r1 _ (wm_2 wm_h)), wm_n⟩⟩⟩⟩
  · decide +kernel
set_option maxRecDepth 20000 in
theorem ggL_law_X8_lie : GoodIn wsL_law wsX8_lie := by
  refine goodIn_sub ?_ gd_X8_lie
  unfold wsX8_lie
  refine wm_c ⟨(wk_L_law_L_law_r32 _ (wm_16 (wm_1 wm_h))), ?_⟩
  refine wm_a ⟨?_, ?_⟩
  · refine wm_a ⟨?_, ?_⟩
    · unfold wsX8_lie_r1
      refine wm_c ⟨(wk_L_law_L_law_r12 _ (wm_2 (wm_1 wm_h))), ?_⟩
      refine wm_c ⟨(wk_L_law_L_law_r12 _ (wm_4 wm_h)), ?_⟩
      refine wm_c ⟨(wk_L_law_L_law_r1 _ (wm_4 (wm_1 wm_h))), ?_⟩
      refine wm_c ⟨(wk_L_law_L_law_r12 _ (wm_4 (wm_1 wm_h))), ?_⟩
      refine wm_c ⟨(wk_L_law_L_law_r12 _ (wm_4 (wm_2 wm_h))), ?_⟩
      refine wm_c ⟨(wk_L_law_L_law_r12 _ (wm_4 (wm_2 (wm_1 wm_h)))), ?_⟩
      refine wm_c ⟨(wk_L_law_L_law_r12 _ (wm_8 wm_h)), ?_⟩
      refine wm_c ⟨(wk_L_law_L_law_r12 _ (wm_8 (wm_1 wm_h))), ?_⟩
      refine wm_c ⟨(wk_L_law_L_law_r32 _ (wm_16 (wm_2 wm_h))), ?_⟩
      refine wm_c ⟨(wk_L_law_L_law_r32 _ (wm_16 (wm_2 (wm_1 wm_h)))), ?_⟩
      refine wm_c ⟨(wk_L_law_L_law_r32 _ (wm_16 (wm_4 wm_h))), ?_⟩
      refine wm_c ⟨(wk_L_law_L_law_r32 _ (wm_16 (wm_4 (wm_1 wm_h)))), ?_⟩
      refine wm_c ⟨(wk_L_law_L_law_r10 _ wm_h), ?_⟩
      refine wm_c ⟨(wk_L_law_L_law_r9 _ (wm_2 wm_h)), ?_⟩
      refine wm_c ⟨(wk_L_law_L_law_r9 _ (wm_4 (wm_2 (wm_1 wm_h)))), ?_⟩
      refine wm_c ⟨(wk_L_law_L_law_r15 _ (wm_16 (wm_4 (wm_2 (wm_1 wm_h))))), ?_⟩
      refine wm_c ⟨(wk_L_law_L_law_r16 _ wm_h), ?_⟩
      refine wm_c ⟨(wk_L_law_L_law_r16 _ (wm_1 wm_h)), ?_⟩
      refine wm_c ⟨(wk_L_law_L_law_r16 _ (wm_2 wm_h)), ?_⟩
      refine wm_c ⟨(wk_L_law_L_law_r31 _ (wm_2 wm_h)), ?_⟩
      refine wm_c ⟨(wk_L_law_L_law_r31 _ (wm_2 (wm_1 wm_h))), ?_⟩
      refine wm_c ⟨(wk_L_law_L_law_r31 _ (wm_4 wm_h)), ?_⟩
      refine wm_c ⟨(wk_L_law_L_law_r31 _ (wm_4 (wm_1 wm_h))), ?_⟩
      refine wm_c ⟨(wk_L_law_L_law_r9 _ wm_h), ?_⟩
      exact wm_n
    · refine wm_a ⟨?_, ?_⟩
      · unfold wsX8_lie_r2
        refine wm_c ⟨(wk_L_law_L_law_r8 _ (wm_16 (wm_4 (wm_2 (wm_1 wm_h))))), ?_⟩
        refine wm_c ⟨(wk_L_law_L_law_r8 _ (wm_16 (wm_4 (wm_2 wm_h)))), ?_⟩
        refine wm_c ⟨(wk_L_law_L_law_r9 _ (wm_8 (wm_1 wm_h))), ?_⟩
        refine wm_c ⟨(wk_L_law_L_law_r11 _ (wm_8 (wm_1 wm_h))), ?_⟩
        refine wm_c ⟨(wk_L_law_L_law_r31 _ (wm_4 (wm_2 wm_h))), ?_⟩
        refine wm_c ⟨(wk_L_law_L_law_r31 _ (wm_4 (wm_2 (wm_1 wm_h)))), ?_⟩
        refine wm_c ⟨(wk_L_law_L_law_r31 _ (wm_8 wm_h)), ?_⟩
        refine wm_c ⟨(wk_L_law_L_law_r31 _ (wm_8 (wm_1 wm_h))), ?_⟩
        refine wm_c ⟨(wk_L_law_L_law_r9 _ (wm_8 (wm_2 wm_h))), ?_⟩
        refine wm_c ⟨(wk_L_law_L_law_r9 _ (wm_8 wm_h)), ?_⟩
        refine wm_c ⟨(wk_L_law_L_law_r31 _ (wm_8 (wm_2 wm_h))), ?_⟩
        refine wm_c ⟨(wk_L_law_L_law_r31 _ (wm_8 (wm_2 (wm_1 wm_h)))), ?_⟩
        refine wm_c ⟨(wk_L_law_L_law_r31 _ (wm_8 (wm_4 wm_h))), ?_⟩
        refine wm_c ⟨(wk_L_law_L_law_r31 _ (wm_8 (wm_4 (wm_1 wm_h)))), ?_⟩
        refine wm_c ⟨(wk_L_law_L_law_r10 _ (wm_8 wm_h)), ?_⟩
        refine wm_c ⟨(wk_L_law_L_law_r10 _ (wm_8 (wm_1 wm_h))), ?_⟩
        refine wm_c ⟨(wk_L_law_L_law_r10 _ (wm_8 (wm_2 wm_h))), ?_⟩
        refine wm_c ⟨(wk_L_law_L_law_r10 _ (wm_8 (wm_2 (wm_1 wm_h)))), ?_⟩
        refine wm_c ⟨(wk_L_law_L_law_r11 _ (wm_1 wm_h)), ?_⟩
        refine wm_c ⟨(wk_L_law_L_law_r11 _ (wm_2 wm_h)), ?_⟩
        refine wm_c ⟨(wk_L_law_L_law_r11 _ (wm_2 (wm_1 wm_h))), ?_⟩
        refine wm_c ⟨(wk_L_law_L_law_r11 _ (wm_4 wm_h)), ?_⟩
        refine wm_c ⟨(wk_L_law_L_law_r31 _ (wm_8 (wm_4 (wm_2 wm_h)))), ?_⟩
        refine wm_c ⟨(wk_L_law_L_law_r31 _ (wm_8 (wm_4 (wm_2 (wm_1 wm_h))))), ?_⟩
        exact wm_n
      · unfold wsX8_lie_r3
        refine wm_c ⟨(wk_L_law_L_law_r31 _ (wm_16 wm_h)), ?_⟩
        refine wm_c ⟨(wk_L_law_L_law_r31 _ (wm_16 (wm_1 wm_h))), ?_⟩
        refine wm_c ⟨(wk_L_law_L_law_r11 _ (wm_8 (wm_2 wm_h))), ?_⟩
        refine wm_c ⟨(wk_L_law_L_law_r11 _ (wm_8 (wm_2 (wm_1 wm_h)))), ?_⟩
        refine wm_c ⟨(wk_L_law_L_law_r11 _ (wm_8 (wm_4 wm_h))), ?_⟩
        exact wm_n
  · exact wk_L_law_X80
set_option maxRecDepth 20000 in
theorem gL_law_X8_lie : GoodIn wsL_law (wsV RL 120 RX8 yX8_lie wsX8_lie) := by
  refine goodIn_app (goodIn_sub ?_ ?_) ggL_law_X8_lie
  · exact wm_c ⟨(wk_L_law_L_law_r32 _ (wm_8 (wm_4 (wm_2 wm_h)))), wm_c ⟨(wk_L_law_L_law_r32 _ (wm_8 (wm_4 (wm_2 (wm_1 wm_h))))), wm_c ⟨(wk_L_law_L_law_r32 _ (wm_16 wm_h)), wm_c ⟨(wk_L_law_L_law_r1 _ (wm_4 (wm_1 wm_h))), wm_n⟩⟩⟩⟩
  · decide +kernel
set_option maxRecDepth 20000 in
theorem ggL_law_X7_table : GoodIn wsL_law wsX7_table := by
  refine goodIn_sub ?_ gd_X7_table
  unfold wsX7_table
  refine wm_c ⟨(wk_L_law_L_law_r33 _ (wm_1 wm_h)), ?_⟩
  refine wm_a ⟨?_, ?_⟩
  · refine wm_a ⟨?_, ?_⟩
    · refine wm_a ⟨?_, ?_⟩
      · refine wm_a ⟨?_, ?_⟩
        · refine wm_a ⟨?_, ?_⟩
          · unfold wsX7_table_r1
            refine wm_c ⟨(wk_L_law_L_law_r14 _ (wm_16 wm_h)), ?_⟩
            refine wm_c ⟨(wk_L_law_L_law_r2 _ (wm_4 (wm_2 (wm_1 wm_h)))), ?_⟩
            refine wm_c ⟨(wk_L_law_L_law_r26 _ (wm_8 (wm_2 (wm_1 wm_h)))), ?_⟩
            refine wm_c ⟨(wk_L_law_L_law_r26 _ (wm_8 (wm_4 wm_h))), ?_⟩
            refine wm_c ⟨(wk_L_law_L_law_r26 _ (wm_8 (wm_4 (wm_1 wm_h)))), ?_⟩
            refine wm_c ⟨(wk_L_law_L_law_r1 _ (wm_2 wm_h)), ?_⟩
            refine wm_c ⟨(wk_L_law_L_law_r26 _ (wm_8 (wm_4 (wm_2 wm_h)))), ?_⟩
            refine wm_c ⟨(wk_L_law_L_law_r26 _ (wm_8 (wm_4 (wm_2 (wm_1 wm_h))))), ?_⟩
            refine wm_c ⟨(wk_L_law_L_law_r8 _ (wm_4 (wm_1 wm_h))), ?_⟩
            refine wm_c ⟨(wk_L_law_L_law_r8 _ (wm_4 (wm_2 wm_h))), ?_⟩
            refine wm_c ⟨(wk_L_law_L_law_r2 _ (wm_4 (wm_2 wm_h))), ?_⟩
            refine wm_c ⟨(wk_L_law_L_law_r8 _ (wm_4 (wm_2 (wm_1 wm_h)))), ?_⟩
            refine wm_c ⟨(wk_L_law_L_law_r5 _ (wm_4 wm_h)), ?_⟩
            refine wm_c ⟨(wk_L_law_L_law_r4 _ (wm_16 (wm_4 (wm_2 wm_h)))), ?_⟩
            refine wm_c ⟨(wk_L_law_L_law_r5 _ (wm_2 wm_h)), ?_⟩
            refine wm_c ⟨(wk_L_law_L_law_r33 _ (wm_2 wm_h)), ?_⟩
            refine wm_c ⟨(wk_L_law_L_law_r33 _ (wm_2 (wm_1 wm_h))), ?_⟩
            refine wm_c ⟨(wk_L_law_L_law_r33 _ (wm_4 wm_h)), ?_⟩
            refine wm_c ⟨(wk_L_law_L_law_r33 _ (wm_4 (wm_1 wm_h))), ?_⟩
            refine wm_c ⟨(wk_L_law_L_law_r5 _ (wm_4 (wm_1 wm_h))), ?_⟩
            refine wm_c ⟨(wk_L_law_L_law_r4 _ (wm_16 (wm_4 (wm_2 (wm_1 wm_h))))), ?_⟩
            refine wm_c ⟨(wk_L_law_L_law_r5 _ (wm_1 wm_h)), ?_⟩
            refine wm_c ⟨(wk_L_law_L_law_r6 _ (wm_16 (wm_4 (wm_2 wm_h)))), ?_⟩
            refine wm_c ⟨(wk_L_law_L_law_r6 _ (wm_16 (wm_4 (wm_2 (wm_1 wm_h))))), ?_⟩
            exact wm_n
          · refine wm_a ⟨?_, ?_⟩
            · unfold wsX7_table_r2
              refine wm_c ⟨(wk_L_law_L_law_r7 _ wm_h), ?_⟩
              refine wm_c ⟨(wk_L_law_L_law_r1 _ (wm_16 (wm_2 (wm_1 wm_h)))), ?_⟩
              refine wm_c ⟨(wk_L_law_L_law_r7 _ (wm_1 wm_h)), ?_⟩
              refine wm_c ⟨(wk_L_law_L_law_r3 _ (wm_4 (wm_1 wm_h))), ?_⟩
              refine wm_c ⟨(wk_L_law_L_law_r3 _ (wm_4 (wm_2 (wm_1 wm_h)))), ?_⟩
              refine wm_c ⟨(wk_L_law_L_law_r28 _ (wm_16 (wm_2 wm_h))), ?_⟩
              refine wm_c ⟨(wk_L_law_L_law_r28 _ (wm_8 (wm_4 (wm_2 wm_h)))), ?_⟩
              refine wm_c ⟨(wk_L_law_L_law_r28 _ (wm_8 (wm_4 (wm_2 (wm_1 wm_h))))), ?_⟩
              refine wm_c ⟨(wk_L_law_L_law_r28 _ (wm_16 wm_h)), ?_⟩
              refine wm_c ⟨(wk_L_law_L_law_r5 _ (wm_4 (wm_2 wm_h))), ?_⟩
              refine wm_c ⟨(wk_L_law_L_law_r5 _ (wm_4 (wm_2 (wm_1 wm_h)))), ?_⟩
              refine wm_c ⟨(wk_L_law_L_law_r28 _ (wm_16 (wm_1 wm_h))), ?_⟩
              refine wm_c ⟨(wk_L_law_L_law_r11 _ (wm_16 (wm_4 (wm_1 wm_h)))), ?_⟩
              refine wm_c ⟨(wk_L_law_L_law_r6 _ (wm_1 wm_h)), ?_⟩
              refine wm_c ⟨(wk_L_law_L_law_r11 _ (wm_16 (wm_4 (wm_2 wm_h)))), ?_⟩
              refine wm_c ⟨(wk_L_law_L_law_r28 _ (wm_16 (wm_2 (wm_1 wm_h)))), ?_⟩
              refine wm_c ⟨(wk_L_law_L_law_r17 _ (wm_16 (wm_2 (wm_1 wm_h)))), ?_⟩
              refine wm_c ⟨(wk_L_law_L_law_r17 _ (wm_16 (wm_4 wm_h))), ?_⟩
              refine wm_c ⟨(wk_L_law_L_law_r2 _ (wm_2 wm_h)), ?_⟩
              refine wm_c ⟨(wk_L_law_L_law_r17 _ (wm_16 (wm_4 (wm_1 wm_h)))), ?_⟩
              refine wm_c ⟨(wk_L_law_L_law_r4 _ (wm_4 wm_h)), ?_⟩
              refine wm_c ⟨(wk_L_law_L_law_r3 _ (wm_16 (wm_2 wm_h))), ?_⟩
              refine wm_c ⟨(wk_L_law_L_law_r17 _ (wm_16 (wm_4 (wm_2 wm_h)))), ?_⟩
              refine wm_c ⟨(wk_L_law_L_law_r16 _ (wm_8 (wm_4 (wm_2 (wm_1 wm_h))))), ?_⟩
              exact wm_n
            · refine wm_a ⟨?_, ?_⟩
              · unfold wsX7_table_r3
                refine wm_c ⟨(wk_L_law_L_law_r16 _ (wm_16 wm_h)), ?_⟩
                refine wm_c ⟨(wk_L_law_L_law_r16 _ (wm_16 (wm_1 wm_h))), ?_⟩
                refine wm_c ⟨(wk_L_law_L_law_r16 _ (wm_16 (wm_2 wm_h))), ?_⟩
                refine wm_c ⟨(wk_L_law_L_law_r16 _ (wm_16 (wm_2 (wm_1 wm_h)))), ?_⟩
                refine wm_c ⟨(wk_L_law_L_law_r3 _ (wm_16 (wm_4 (wm_2 wm_h)))), ?_⟩
                refine wm_c ⟨(wk_L_law_L_law_r4 _ wm_h), ?_⟩
                refine wm_c ⟨(wk_L_law_L_law_r16 _ (wm_16 (wm_4 wm_h))), ?_⟩
                refine wm_c ⟨(wk_L_law_L_law_r16 _ (wm_16 (wm_4 (wm_1 wm_h)))), ?_⟩
                refine wm_c ⟨(wk_L_law_L_law_r16 _ (wm_16 (wm_4 (wm_2 wm_h)))), ?_⟩
                refine wm_c ⟨(wk_L_law_L_law_r16 _ (wm_16 (wm_4 (wm_2 (wm_1 wm_h))))), ?_⟩
                refine wm_c ⟨(wk_L_law_L_law_r17 _ wm_h), ?_⟩
                refine wm_c ⟨(wk_L_law_L_law_r17 _ (wm_1 wm_h)), ?_⟩
                refine wm_c ⟨(wk_L_law_L_law_r6 _ (wm_8 (wm_4 (wm_2 wm_h)))), ?_⟩
                refine wm_c ⟨(wk_L_law_L_law_r6 _ (wm_8 (wm_4 (wm_2 (wm_1 wm_h))))), ?_⟩
                refine wm_c ⟨(wk_L_law_L_law_r6 _ (wm_16 wm_h)), ?_⟩
                refine wm_c ⟨(wk_L_law_L_law_r33 _ (wm_4 (wm_2 wm_h))), ?_⟩
                refine wm_c ⟨(wk_L_law_L_law_r29 _ (wm_16 (wm_4 (wm_2 wm_h)))), ?_⟩
                refine wm_c ⟨(wk_L_law_L_law_r29 _ (wm_16 (wm_4 (wm_2 (wm_1 wm_h))))), ?_⟩
                refine wm_c ⟨(wk_L_law_L_law_r30 _ wm_h), ?_⟩
                refine wm_c ⟨(wk_L_law_L_law_r5 _ (wm_8 (wm_4 (wm_2 wm_h)))), ?_⟩
                refine wm_c ⟨(wk_L_law_L_law_r5 _ (wm_8 (wm_4 (wm_2 (wm_1 wm_h))))), ?_⟩
                refine wm_c ⟨(wk_L_law_L_law_r5 _ (wm_16 wm_h)), ?_⟩
                refine wm_c ⟨(wk_L_law_L_law_r5 _ (wm_16 (wm_1 wm_h))), ?_⟩
                refine wm_c ⟨(wk_L_law_L_law_r5 _ (wm_8 (wm_4 (wm_1 wm_h)))), ?_⟩
                exact wm_n
              · refine wm_a ⟨?_, ?_⟩
                · unfold wsX7_table_r4
                  refine wm_c ⟨(wk_L_law_L_law_r5 _ (wm_2 (wm_1 wm_h))), ?_⟩
                  refine wm_c ⟨(wk_L_law_L_law_r5 _ (wm_16 (wm_2 wm_h))), ?_⟩
                  refine wm_c ⟨(wk_L_law_L_law_r30 _ (wm_1 wm_h)), ?_⟩
                  refine wm_c ⟨(wk_L_law_L_law_r30 _ (wm_2 wm_h)), ?_⟩
                  refine wm_c ⟨(wk_L_law_L_law_r30 _ (wm_2 (wm_1 wm_h))), ?_⟩
                  refine wm_c ⟨(wk_L_law_L_law_r30 _ (wm_4 wm_h)), ?_⟩
                  refine wm_c ⟨(wk_L_law_L_law_r30 _ (wm_4 (wm_1 wm_h))), ?_⟩
                  refine wm_c ⟨(wk_L_law_L_law_r20 _ (wm_8 (wm_2 (wm_1 wm_h)))), ?_⟩
                  refine wm_c ⟨(wk_L_law_L_law_r20 _ (wm_8 (wm_4 wm_h))), ?_⟩
                  refine wm_c ⟨(wk_L_law_L_law_r20 _ (wm_8 (wm_4 (wm_1 wm_h)))), ?_⟩
                  refine wm_c ⟨(wk_L_law_L_law_r5 _ (wm_16 (wm_2 (wm_1 wm_h)))), ?_⟩
                  refine wm_c ⟨(wk_L_law_L_law_r5 _ (wm_16 (wm_4 wm_h))), ?_⟩
                  refine wm_c ⟨(wk_L_law_L_law_r5 _ (wm_16 (wm_4 (wm_1 wm_h)))), ?_⟩
                  refine wm_c ⟨(wk_L_law_L_law_r5 _ (wm_16 (wm_4 (wm_2 wm_h)))), ?_⟩
                  refine wm_c ⟨(wk_L_law_L_law_r30 _ (wm_4 (wm_2 wm_h))), ?_⟩
                  refine wm_c ⟨(wk_L_law_L_law_r30 _ (wm_4 (wm_2 (wm_1 wm_h)))), ?_⟩
                  refine wm_c ⟨(wk_L_law_L_law_r30 _ (wm_8 wm_h)), ?_⟩
                  refine wm_c ⟨(wk_L_law_L_law_r30 _ (wm_8 (wm_1 wm_h))), ?_⟩
                  refine wm_c ⟨(wk_L_law_L_law_r6 _ (wm_16 (wm_4 (wm_1 wm_h)))), ?_⟩
                  refine wm_c ⟨(wk_L_law_L_law_r30 _ (wm_8 (wm_2 wm_h))), ?_⟩
                  refine wm_c ⟨(wk_L_law_L_law_r30 _ (wm_8 (wm_2 (wm_1 wm_h)))), ?_⟩
                  refine wm_c ⟨(wk_L_law_L_law_r24 _ (wm_16 wm_h)), ?_⟩
                  refine wm_c ⟨(wk_L_law_L_law_r24 _ (wm_16 (wm_1 wm_h))), ?_⟩
                  refine wm_c ⟨(wk_L_law_L_law_r24 _ (wm_16 (wm_2 wm_h))), ?_⟩
                  exact wm_n
                · refine wm_a ⟨?_, ?_⟩
                  · unfold wsX7_table_r5
                    refine wm_c ⟨(wk_L_law_L_law_r24 _ (wm_16 (wm_2 (wm_1 wm_h)))), ?_⟩
                    refine wm_c ⟨(wk_L_law_L_law_r24 _ (wm_16 (wm_4 wm_h))), ?_⟩
                    refine wm_c ⟨(wk_L_law_L_law_r30 _ (wm_8 (wm_4 wm_h))), ?_⟩
                    refine wm_c ⟨(wk_L_law_L_law_r18 _ (wm_8 (wm_4 wm_h))), ?_⟩
                    refine wm_c ⟨(wk_L_law_L_law_r18 _ (wm_8 (wm_4 (wm_1 wm_h)))), ?_⟩
                    refine wm_c ⟨(wk_L_law_L_law_r18 _ (wm_8 (wm_4 (wm_2 wm_h)))), ?_⟩
                    refine wm_c ⟨(wk_L_law_L_law_r18 _ (wm_8 (wm_4 (wm_2 (wm_1 wm_h))))), ?_⟩
                    refine wm_c ⟨(wk_L_law_L_law_r18 _ (wm_16 wm_h)), ?_⟩
                    refine wm_c ⟨(wk_L_law_L_law_r18 _ (wm_16 (wm_1 wm_h))), ?_⟩
                    refine wm_c ⟨(wk_L_law_L_law_r18 _ (wm_16 (wm_2 wm_h))), ?_⟩
                    refine wm_c ⟨(wk_L_law_L_law_r18 _ (wm_16 (wm_2 (wm_1 wm_h)))), ?_⟩
                    refine wm_c ⟨(wk_L_law_L_law_r4 _ (wm_8 (wm_4 (wm_2 wm_h)))), ?_⟩
                    refine wm_c ⟨(wk_L_law_L_law_r4 _ (wm_8 (wm_2 wm_h))), ?_⟩
                    refine wm_c ⟨(wk_L_law_L_law_r4 _ (wm_8 (wm_4 (wm_2 (wm_1 wm_h))))), ?_⟩
                    refine wm_c ⟨(wk_L_law_L_law_r4 _ (wm_16 wm_h)), ?_⟩
                    refine wm_c ⟨(wk_L_law_L_law_r18 _ (wm_16 (wm_4 wm_h))), ?_⟩
                    refine wm_c ⟨(wk_L_law_L_law_r18 _ (wm_16 (wm_4 (wm_1 wm_h)))), ?_⟩
                    refine wm_c ⟨(wk_L_law_L_law_r18 _ (wm_16 (wm_4 (wm_2 wm_h)))), ?_⟩
                    refine wm_c ⟨(wk_L_law_L_law_r18 _ (wm_16 (wm_4 (wm_2 (wm_1 wm_h))))), ?_⟩
                    refine wm_c ⟨(wk_L_law_L_law_r3 _ (wm_16 (wm_4 wm_h))), ?_⟩
                    refine wm_c ⟨(wk_L_law_L_law_r19 _ wm_h), ?_⟩
                    refine wm_c ⟨(wk_L_law_L_law_r19 _ (wm_1 wm_h)), ?_⟩
                    refine wm_c ⟨(wk_L_law_L_law_r19 _ (wm_2 wm_h)), ?_⟩
                    refine wm_c ⟨(wk_L_law_L_law_r13 _ (wm_4 wm_h)), ?_⟩
                    exact wm_n
                  · unfold wsX7_table_r6
                    refine wm_c ⟨(wk_L_law_L_law_r30 _ (wm_8 (wm_4 (wm_1 wm_h)))), ?_⟩
                    refine wm_c ⟨(wk_L_law_L_law_r30 _ (wm_8 (wm_4 (wm_2 wm_h)))), ?_⟩
                    refine wm_c ⟨(wk_L_law_L_law_r30 _ (wm_8 (wm_4 (wm_2 (wm_1 wm_h))))), ?_⟩
                    refine wm_c ⟨(wk_L_law_L_law_r30 _ (wm_16 wm_h)), ?_⟩
                    refine wm_c ⟨(wk_L_law_L_law_r30 _ (wm_16 (wm_1 wm_h))), ?_⟩
                    refine wm_c ⟨(wk_L_law_L_law_r4 _ (wm_8 (wm_1 wm_h))), ?_⟩
                    refine wm_c ⟨(wk_L_law_L_law_r4 _ (wm_8 (wm_2 (wm_1 wm_h)))), ?_⟩
                    refine wm_c ⟨(wk_L_law_L_law_r4 _ (wm_8 (wm_4 wm_h))), ?_⟩
                    refine wm_c ⟨(wk_L_law_L_law_r4 _ (wm_8 (wm_4 (wm_1 wm_h)))), ?_⟩
                    refine wm_c ⟨(wk_L_law_L_law_r30 _ (wm_16 (wm_2 wm_h))), ?_⟩
                    refine wm_c ⟨(wk_L_law_L_law_r30 _ (wm_16 (wm_2 (wm_1 wm_h)))), ?_⟩
                    refine wm_c ⟨(wk_L_law_L_law_r30 _ (wm_16 (wm_4 wm_h))), ?_⟩
                    refine wm_c ⟨(wk_L_law_L_law_r30 _ (wm_16 (wm_4 (wm_1 wm_h)))), ?_⟩
                    refine wm_c ⟨(wk_L_law_L_law_r33 _ (wm_4 (wm_2 (wm_1 wm_h)))), ?_⟩
                    refine wm_c ⟨(wk_L_law_L_law_r25 _ (wm_16 (wm_4 (wm_2 (wm_1 wm_h))))), ?_⟩
                    refine wm_c ⟨(wk_L_law_L_law_r26 _ wm_h), ?_⟩
                    refine wm_c ⟨(wk_L_law_L_law_r26 _ (wm_1 wm_h)), ?_⟩
                    refine wm_c ⟨(wk_L_law_L_law_r15 _ (wm_16 wm_h)), ?_⟩
                    refine wm_c ⟨(wk_L_law_L_law_r15 _ (wm_16 (wm_1 wm_h))), ?_⟩
                    refine wm_c ⟨(wk_L_law_L_law_r15 _ (wm_16 (wm_2 wm_h))), ?_⟩
                    refine wm_c ⟨(wk_L_law_L_law_r14 _ (wm_16 (wm_4 wm_h))), ?_⟩
                    refine wm_c ⟨(wk_L_law_L_law_r14 _ (wm_16 (wm_4 (wm_1 wm_h)))), ?_⟩
                    refine wm_c ⟨(wk_L_law_L_law_r14 _ (wm_16 (wm_4 (wm_2 wm_h)))), ?_⟩
                    refine wm_c ⟨(wk_L_law_L_law_r14 _ (wm_16 (wm_4 (wm_2 (wm_1 wm_h))))), ?_⟩
                    exact wm_n
        · exact wk_L_law_X70
      · exact wk_L_law_X10
    · exact wk_L_law_X60
  · exact wk_L_law_X00
set_option maxRecDepth 20000 in
theorem gL_law_X7_table : GoodIn wsL_law (wsV RL 121 RX7 yX7_table wsX7_table) := by
  refine goodIn_app (goodIn_sub ?_ ?_) ggL_law_X7_table
  · exact wm_c ⟨(wk_L_law_L_law_r32 _ (wm_16 (wm_4 (wm_2 wm_h)))), wm_c ⟨(wk_L_law_L_law_r32 _ (wm_16 (wm_4 (wm_2 (wm_1 wm_h))))), wm_c ⟨(wk_L_law_L_law_r33 _ wm_h), wm_c ⟨(wk_L_law_L_law_r1 _ (wm_2 wm_h)), wm_n⟩⟩⟩⟩
  · decide +kernel
set_option maxRecDepth 20000 in
theorem ggL_law_X8_table : GoodIn wsL_law wsX8_table := by
  refine goodIn_sub ?_ gd_X8_table
  unfold wsX8_table
  refine wm_c ⟨(wk_L_law_L_law_r33 _ (wm_8 (wm_2 (wm_1 wm_h)))), ?_⟩
  refine wm_a ⟨?_, ?_⟩
  · refine wm_a ⟨?_, ?_⟩
    · unfold wsX8_table_r1
      refine wm_c ⟨(wk_L_law_L_law_r15 _ (wm_4 (wm_1 wm_h))), ?_⟩
      refine wm_c ⟨(wk_L_law_L_law_r9 _ wm_h), ?_⟩
      refine wm_c ⟨(wk_L_law_L_law_r9 _ (wm_2 (wm_1 wm_h))), ?_⟩
      refine wm_c ⟨(wk_L_law_L_law_r9 _ (wm_16 (wm_4 (wm_2 (wm_1 wm_h))))), ?_⟩
      refine wm_c ⟨(wk_L_law_L_law_r8 _ (wm_16 (wm_4 (wm_2 wm_h)))), ?_⟩
      refine wm_c ⟨(wk_L_law_L_law_r9 _ (wm_2 wm_h)), ?_⟩
      refine wm_c ⟨(wk_L_law_L_law_r8 _ (wm_16 (wm_4 (wm_2 (wm_1 wm_h))))), ?_⟩
      refine wm_c ⟨(wk_L_law_L_law_r9 _ (wm_8 wm_h)), ?_⟩
      refine wm_c ⟨(wk_L_law_L_law_r33 _ (wm_8 (wm_4 wm_h))), ?_⟩
      refine wm_c ⟨(wk_L_law_L_law_r11 _ (wm_8 (wm_1 wm_h))), ?_⟩
      refine wm_c ⟨(wk_L_law_L_law_r27 _ (wm_1 wm_h)), ?_⟩
      refine wm_c ⟨(wk_L_law_L_law_r27 _ (wm_2 wm_h)), ?_⟩
      refine wm_c ⟨(wk_L_law_L_law_r27 _ (wm_2 (wm_1 wm_h))), ?_⟩
      refine wm_c ⟨(wk_L_law_L_law_r1 _ (wm_4 (wm_1 wm_h))), ?_⟩
      refine wm_c ⟨(wk_L_law_L_law_r27 _ (wm_4 wm_h)), ?_⟩
      refine wm_c ⟨(wk_L_law_L_law_r11 _ wm_h), ?_⟩
      refine wm_c ⟨(wk_L_law_L_law_r12 _ (wm_4 (wm_2 (wm_1 wm_h)))), ?_⟩
      refine wm_c ⟨(wk_L_law_L_law_r12 _ (wm_8 wm_h)), ?_⟩
      refine wm_c ⟨(wk_L_law_L_law_r12 _ (wm_8 (wm_1 wm_h))), ?_⟩
      refine wm_c ⟨(wk_L_law_L_law_r12 _ (wm_8 (wm_2 wm_h))), ?_⟩
      refine wm_c ⟨(wk_L_law_L_law_r12 _ (wm_8 (wm_2 (wm_1 wm_h)))), ?_⟩
      refine wm_c ⟨(wk_L_law_L_law_r12 _ (wm_8 (wm_4 wm_h))), ?_⟩
      refine wm_c ⟨(wk_L_law_L_law_r12 _ (wm_8 (wm_4 (wm_1 wm_h)))), ?_⟩
      refine wm_c ⟨(wk_L_law_L_law_r10 _ wm_h), ?_⟩
      exact wm_n
    · refine wm_a ⟨?_, ?_⟩
      · unfold wsX8_table_r2
        refine wm_c ⟨(wk_L_law_L_law_r11 _ (wm_4 (wm_1 wm_h))), ?_⟩
        refine wm_c ⟨(wk_L_law_L_law_r11 _ (wm_4 (wm_2 wm_h))), ?_⟩
        refine wm_c ⟨(wk_L_law_L_law_r11 _ (wm_4 (wm_2 (wm_1 wm_h)))), ?_⟩
        refine wm_c ⟨(wk_L_law_L_law_r11 _ (wm_8 wm_h)), ?_⟩
        refine wm_c ⟨(wk_L_law_L_law_r11 _ (wm_8 (wm_2 wm_h))), ?_⟩
        refine wm_c ⟨(wk_L_law_L_law_r11 _ (wm_8 (wm_2 (wm_1 wm_h)))), ?_⟩
        refine wm_c ⟨(wk_L_law_L_law_r11 _ (wm_8 (wm_4 wm_h))), ?_⟩
        refine wm_c ⟨(wk_L_law_L_law_r31 _ (wm_2 wm_h)), ?_⟩
        refine wm_c ⟨(wk_L_law_L_law_r31 _ (wm_2 (wm_1 wm_h))), ?_⟩
        refine wm_c ⟨(wk_L_law_L_law_r31 _ (wm_4 wm_h)), ?_⟩
        refine wm_c ⟨(wk_L_law_L_law_r31 _ (wm_4 (wm_1 wm_h))), ?_⟩
        refine wm_c ⟨(wk_L_law_L_law_r9 _ (wm_8 (wm_1 wm_h))), ?_⟩
        refine wm_c ⟨(wk_L_law_L_law_r31 _ (wm_4 (wm_2 wm_h))), ?_⟩
        refine wm_c ⟨(wk_L_law_L_law_r31 _ (wm_4 (wm_2 (wm_1 wm_h)))), ?_⟩
        refine wm_c ⟨(wk_L_law_L_law_r31 _ (wm_8 wm_h)), ?_⟩
        refine wm_c ⟨(wk_L_law_L_law_r31 _ (wm_8 (wm_1 wm_h))), ?_⟩
        refine wm_c ⟨(wk_L_law_L_law_r9 _ (wm_4 (wm_2 (wm_1 wm_h)))), ?_⟩
        refine wm_c ⟨(wk_L_law_L_law_r9 _ (wm_8 (wm_2 wm_h))), ?_⟩
        refine wm_c ⟨(wk_L_law_L_law_r31 _ (wm_8 (wm_2 wm_h))), ?_⟩
        refine wm_c ⟨(wk_L_law_L_law_r31 _ (wm_8 (wm_2 (wm_1 wm_h)))), ?_⟩
        refine wm_c ⟨(wk_L_law_L_law_r31 _ (wm_8 (wm_4 wm_h))), ?_⟩
        refine wm_c ⟨(wk_L_law_L_law_r31 _ (wm_8 (wm_4 (wm_1 wm_h)))), ?_⟩
        refine wm_c ⟨(wk_L_law_L_law_r10 _ (wm_8 wm_h)), ?_⟩
        refine wm_c ⟨(wk_L_law_L_law_r10 _ (wm_8 (wm_1 wm_h))), ?_⟩
        exact wm_n
      · unfold wsX8_table_r3
        refine wm_c ⟨(wk_L_law_L_law_r10 _ (wm_8 (wm_2 wm_h))), ?_⟩
        refine wm_c ⟨(wk_L_law_L_law_r10 _ (wm_8 (wm_2 (wm_1 wm_h)))), ?_⟩
        refine wm_c ⟨(wk_L_law_L_law_r11 _ (wm_1 wm_h)), ?_⟩
        refine wm_c ⟨(wk_L_law_L_law_r11 _ (wm_2 wm_h)), ?_⟩
        refine wm_c ⟨(wk_L_law_L_law_r11 _ (wm_2 (wm_1 wm_h))), ?_⟩
        refine wm_c ⟨(wk_L_law_L_law_r11 _ (wm_4 wm_h)), ?_⟩
        refine wm_c ⟨(wk_L_law_L_law_r31 _ (wm_8 (wm_4 (wm_2 wm_h)))), ?_⟩
        refine wm_c ⟨(wk_L_law_L_law_r31 _ (wm_8 (wm_4 (wm_2 (wm_1 wm_h))))), ?_⟩
        refine wm_c ⟨(wk_L_law_L_law_r31 _ (wm_16 wm_h)), ?_⟩
        refine wm_c ⟨(wk_L_law_L_law_r31 _ (wm_16 (wm_1 wm_h))), ?_⟩
        exact wm_n
  · exact wk_L_law_X80
set_option maxRecDepth 20000 in
theorem gL_law_X8_table : GoodIn wsL_law (wsV RL 124 RX8 yX8_table wsX8_table) := by
  refine goodIn_app (goodIn_sub ?_ ?_) ggL_law_X8_table
  · exact wm_c ⟨(wk_L_law_L_law_r33 _ (wm_8 wm_h)), wm_c ⟨(wk_L_law_L_law_r33 _ (wm_8 (wm_1 wm_h))), wm_c ⟨(wk_L_law_L_law_r33 _ (wm_8 (wm_2 wm_h))), wm_c ⟨(wk_L_law_L_law_r1 _ (wm_4 (wm_1 wm_h))), wm_n⟩⟩⟩⟩
  · decide +kernel
set_option maxRecDepth 20000 in
theorem ggL_law_X7_step : GoodIn wsL_law wsX7_step := by
  refine goodIn_sub ?_ gd_X7_step
  unfold wsX7_step
  refine wm_c ⟨(wk_L_law_L_law_r33 _ (wm_16 wm_h)), ?_⟩
  refine wm_a ⟨?_, ?_⟩
  · refine wm_a ⟨?_, ?_⟩
    · refine wm_a ⟨?_, ?_⟩
      · refine wm_a ⟨?_, ?_⟩
        · unfold wsX7_step_r1
          refine wm_c ⟨(wk_L_law_L_law_r2 _ (wm_8 (wm_2 (wm_1 wm_h)))), ?_⟩
          refine wm_c ⟨(wk_L_law_L_law_r33 _ (wm_16 (wm_1 wm_h))), ?_⟩
          refine wm_c ⟨(wk_L_law_L_law_r23 _ (wm_1 wm_h)), ?_⟩
          refine wm_c ⟨(wk_L_law_L_law_r23 _ (wm_2 wm_h)), ?_⟩
          refine wm_c ⟨(wk_L_law_L_law_r23 _ (wm_2 (wm_1 wm_h))), ?_⟩
          refine wm_c ⟨(wk_L_law_L_law_r1 _ (wm_2 wm_h)), ?_⟩
          refine wm_c ⟨(wk_L_law_L_law_r23 _ (wm_4 wm_h)), ?_⟩
          refine wm_c ⟨(wk_L_law_L_law_r1 _ (wm_16 (wm_4 wm_h))), ?_⟩
          refine wm_c ⟨(wk_L_law_L_law_r23 _ (wm_4 (wm_1 wm_h))), ?_⟩
          refine wm_c ⟨(wk_L_law_L_law_r12 _ (wm_16 (wm_4 (wm_2 wm_h)))), ?_⟩
          refine wm_c ⟨(wk_L_law_L_law_r12 _ (wm_16 (wm_4 (wm_2 (wm_1 wm_h))))), ?_⟩
          refine wm_c ⟨(wk_L_law_L_law_r13 _ wm_h), ?_⟩
          refine wm_c ⟨(wk_L_law_L_law_r13 _ (wm_1 wm_h)), ?_⟩
          refine wm_c ⟨(wk_L_law_L_law_r13 _ (wm_2 wm_h)), ?_⟩
          refine wm_c ⟨(wk_L_law_L_law_r4 _ (wm_8 (wm_2 wm_h))), ?_⟩
          refine wm_c ⟨(wk_L_law_L_law_r13 _ (wm_2 (wm_1 wm_h))), ?_⟩
          refine wm_c ⟨(wk_L_law_L_law_r13 _ (wm_4 wm_h)), ?_⟩
          refine wm_c ⟨(wk_L_law_L_law_r13 _ (wm_4 (wm_1 wm_h))), ?_⟩
          refine wm_c ⟨(wk_L_law_L_law_r2 _ (wm_16 (wm_4 (wm_1 wm_h)))), ?_⟩
          refine wm_c ⟨(wk_L_law_L_law_r2 _ (wm_16 (wm_4 (wm_2 wm_h)))), ?_⟩
          refine wm_c ⟨(wk_L_law_L_law_r2 _ (wm_16 (wm_4 (wm_2 (wm_1 wm_h))))), ?_⟩
          refine wm_c ⟨(wk_L_law_L_law_r13 _ (wm_4 (wm_2 wm_h))), ?_⟩
          refine wm_c ⟨(wk_L_law_L_law_r4 _ (wm_8 (wm_1 wm_h))), ?_⟩
          refine wm_c ⟨(wk_L_law_L_law_r4 _ (wm_8 (wm_2 (wm_1 wm_h)))), ?_⟩
          exact wm_n
        · unfold wsX7_step_r2
          refine wm_c ⟨(wk_L_law_L_law_r4 _ (wm_8 (wm_4 wm_h))), ?_⟩
          refine wm_c ⟨(wk_L_law_L_law_r4 _ (wm_8 (wm_4 (wm_1 wm_h)))), ?_⟩
          refine wm_c ⟨(wk_L_law_L_law_r4 _ (wm_8 (wm_4 (wm_2 wm_h)))), ?_⟩
          refine wm_c ⟨(wk_L_law_L_law_r4 _ (wm_8 (wm_4 (wm_2 (wm_1 wm_h))))), ?_⟩
          refine wm_c ⟨(wk_L_law_L_law_r4 _ (wm_16 wm_h)), ?_⟩
          refine wm_c ⟨(wk_L_law_L_law_r33 _ (wm_16 (wm_2 wm_h))), ?_⟩
          refine wm_c ⟨(wk_L_law_L_law_r33 _ (wm_16 (wm_2 (wm_1 wm_h)))), ?_⟩
          refine wm_c ⟨(wk_L_law_L_law_r33 _ (wm_16 (wm_4 wm_h))), ?_⟩
          refine wm_c ⟨(wk_L_law_L_law_r2 _ (wm_8 (wm_2 wm_h))), ?_⟩
          refine wm_c ⟨(wk_L_law_L_law_r33 _ (wm_16 (wm_4 (wm_1 wm_h)))), ?_⟩
          refine wm_c ⟨(wk_L_law_L_law_r33 _ (wm_16 (wm_4 (wm_2 wm_h)))), ?_⟩
          refine wm_c ⟨(wk_L_law_L_law_r7 _ (wm_8 wm_h)), ?_⟩
          refine wm_c ⟨(wk_L_law_L_law_r7 _ (wm_8 (wm_1 wm_h))), ?_⟩
          exact wm_n
      · exact wk_L_law_X70
    · exact wk_L_law_X50
  · exact wk_L_law_X60
set_option maxRecDepth 20000 in
theorem gL_law_X7_step : GoodIn wsL_law (wsV RL 125 RX7 yX7_step wsX7_step) := by
  refine goodIn_app (goodIn_sub ?_ ?_) ggL_law_X7_step
  · exact wm_c ⟨(wk_L_law_L_law_r33 _ (wm_8 (wm_4 (wm_1 wm_h)))), wm_c ⟨(wk_L_law_L_law_r33 _ (wm_8 (wm_4 (wm_2 wm_h)))), wm_c ⟨(wk_L_law_L_law_r33 _ (wm_8 (wm_4 (wm_2 (wm_1 wm_h))))), wm_c ⟨(wk_L_law_L_law_r1 _ (wm_2 wm_h)), wm_n⟩⟩⟩⟩
  · decide +kernel
set_option maxRecDepth 20000 in
theorem ggL_law_X8_step : GoodIn wsL_law wsX8_step := by
  refine goodIn_sub ?_ gd_X8_step
  unfold wsX8_step
  refine wm_c ⟨(wk_L_law_L_law_r34 _ (wm_2 wm_h)), ?_⟩
  refine wm_a ⟨?_, ?_⟩
  · refine wm_a ⟨?_, ?_⟩
    · unfold wsX8_step_r1
      refine wm_c ⟨(wk_L_law_L_law_r34 _ (wm_2 (wm_1 wm_h))), ?_⟩
      refine wm_c ⟨(wk_L_law_L_law_r34 _ (wm_4 wm_h)), ?_⟩
      refine wm_c ⟨(wk_L_law_L_law_r34 _ (wm_4 (wm_1 wm_h))), ?_⟩
      refine wm_c ⟨(wk_L_law_L_law_r9 _ (wm_8 (wm_2 (wm_1 wm_h)))), ?_⟩
      refine wm_c ⟨(wk_L_law_L_law_r9 _ (wm_8 (wm_4 wm_h))), ?_⟩
      refine wm_c ⟨(wk_L_law_L_law_r23 _ (wm_16 (wm_2 wm_h))), ?_⟩
      refine wm_c ⟨(wk_L_law_L_law_r23 _ (wm_16 (wm_2 (wm_1 wm_h)))), ?_⟩
      refine wm_c ⟨(wk_L_law_L_law_r23 _ (wm_16 (wm_4 wm_h))), ?_⟩
      refine wm_c ⟨(wk_L_law_L_law_r1 _ (wm_4 (wm_1 wm_h))), ?_⟩
      refine wm_c ⟨(wk_L_law_L_law_r23 _ (wm_16 (wm_4 (wm_1 wm_h)))), ?_⟩
      refine wm_c ⟨(wk_L_law_L_law_r9 _ (wm_16 (wm_4 (wm_2 wm_h)))), ?_⟩
      refine wm_c ⟨(wk_L_law_L_law_r12 _ (wm_4 (wm_2 (wm_1 wm_h)))), ?_⟩
      refine wm_c ⟨(wk_L_law_L_law_r12 _ (wm_8 wm_h)), ?_⟩
      refine wm_c ⟨(wk_L_law_L_law_r12 _ (wm_8 (wm_1 wm_h))), ?_⟩
      refine wm_c ⟨(wk_L_law_L_law_r13 _ (wm_16 (wm_4 wm_h))), ?_⟩
      refine wm_c ⟨(wk_L_law_L_law_r13 _ (wm_16 (wm_4 (wm_1 wm_h)))), ?_⟩
      refine wm_c ⟨(wk_L_law_L_law_r13 _ (wm_16 (wm_4 (wm_2 wm_h)))), ?_⟩
      refine wm_c ⟨(wk_L_law_L_law_r11 _ (wm_8 (wm_1 wm_h))), ?_⟩
      refine wm_c ⟨(wk_L_law_L_law_r11 _ (wm_8 (wm_2 wm_h))), ?_⟩
      refine wm_c ⟨(wk_L_law_L_law_r11 _ (wm_8 (wm_2 (wm_1 wm_h)))), ?_⟩
      refine wm_c ⟨(wk_L_law_L_law_r11 _ (wm_8 (wm_4 wm_h))), ?_⟩
      refine wm_c ⟨(wk_L_law_L_law_r13 _ (wm_16 (wm_4 (wm_2 (wm_1 wm_h))))), ?_⟩
      refine wm_c ⟨(wk_L_law_L_law_r14 _ wm_h), ?_⟩
      refine wm_c ⟨(wk_L_law_L_law_r14 _ (wm_1 wm_h)), ?_⟩
      exact wm_n
    · unfold wsX8_step_r2
      refine wm_c ⟨(wk_L_law_L_law_r14 _ (wm_2 wm_h)), ?_⟩
      exact wm_n
  · exact wk_L_law_X80
