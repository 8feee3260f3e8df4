set_option maxRecDepth 20000 in
theorem ggL_law_X7_shuffle : GoodIn wsL_law wsX7_shuffle := by
  refine goodIn_sub ?_ gd_X7_shuffle
  unfold wsX7_shuffle
  refine wm_c ⟨(wk_L_law_L_law_r18 _ (wm_8 (wm_2 wm_h))), ?_⟩
  refine wm_a ⟨?_, ?_⟩
  · refine wm_a ⟨?_, ?_⟩
    · refine wm_a ⟨?_, ?_⟩
      · unfold wsX7_shuffle_r1
        refine wm_c ⟨(wk_L_law_L_law_r2 _ (wm_2 (wm_1 wm_h))), ?_⟩
        refine wm_c ⟨(wk_L_law_L_law_r1 _ (wm_16 (wm_4 (wm_2 (wm_1 wm_h))))), ?_⟩
        refine wm_c ⟨(wk_L_law_L_law_r11 _ (wm_16 (wm_1 wm_h))), ?_⟩
        refine wm_c ⟨(wk_L_law_L_law_r11 _ (wm_16 (wm_2 wm_h))), ?_⟩
        refine wm_c ⟨(wk_L_law_L_law_r1 _ (wm_2 wm_h)), ?_⟩
        refine wm_c ⟨(wk_L_law_L_law_r11 _ (wm_16 (wm_2 (wm_1 wm_h)))), ?_⟩
        refine wm_c ⟨(wk_L_law_L_law_r18 _ (wm_8 (wm_2 (wm_1 wm_h)))), ?_⟩
        refine wm_c ⟨(wk_L_law_L_law_r18 _ (wm_8 (wm_4 wm_h))), ?_⟩
        refine wm_c ⟨(wk_L_law_L_law_r18 _ (wm_8 (wm_4 (wm_1 wm_h)))), ?_⟩
        refine wm_c ⟨(wk_L_law_L_law_r2 _ (wm_2 wm_h)), ?_⟩
        refine wm_c ⟨(wk_L_law_L_law_r18 _ (wm_8 (wm_4 (wm_2 wm_h)))), ?_⟩
        refine wm_c ⟨(wk_L_law_L_law_r4 _ (wm_4 wm_h)), ?_⟩
        refine wm_c ⟨(wk_L_law_L_law_r3 _ (wm_16 (wm_2 wm_h))), ?_⟩
        refine wm_c ⟨(wk_L_law_L_law_r3 _ (wm_16 (wm_4 (wm_2 wm_h)))), ?_⟩
        refine wm_c ⟨(wk_L_law_L_law_r4 _ wm_h), ?_⟩
        refine wm_c ⟨(wk_L_law_L_law_r16 _ (wm_8 (wm_4 (wm_2 (wm_1 wm_h))))), ?_⟩
        refine wm_c ⟨(wk_L_law_L_law_r11 _ (wm_16 (wm_4 (wm_1 wm_h)))), ?_⟩
        refine wm_c ⟨(wk_L_law_L_law_r6 _ (wm_1 wm_h)), ?_⟩
        refine wm_c ⟨(wk_L_law_L_law_r11 _ (wm_16 (wm_4 (wm_2 wm_h)))), ?_⟩
        refine wm_c ⟨(wk_L_law_L_law_r18 _ (wm_8 (wm_4 (wm_2 (wm_1 wm_h))))), ?_⟩
        refine wm_c ⟨(wk_L_law_L_law_r18 _ (wm_16 wm_h)), ?_⟩
        refine wm_c ⟨(wk_L_law_L_law_r18 _ (wm_16 (wm_1 wm_h))), ?_⟩
        refine wm_c ⟨(wk_L_law_L_law_r18 _ (wm_16 (wm_2 wm_h))), ?_⟩
        refine wm_c ⟨(wk_L_law_L_law_r18 _ (wm_16 (wm_2 (wm_1 wm_h)))), ?_⟩
        exact wm_n
      · unfold wsX7_shuffle_r2
        refine wm_c ⟨(wk_L_law_L_law_r4 _ (wm_8 (wm_4 (wm_2 wm_h)))), ?_⟩
        refine wm_c ⟨(wk_L_law_L_law_r4 _ (wm_8 (wm_2 wm_h))), ?_⟩
        refine wm_c ⟨(wk_L_law_L_law_r4 _ (wm_8 (wm_4 (wm_2 (wm_1 wm_h))))), ?_⟩
        refine wm_c ⟨(wk_L_law_L_law_r4 _ (wm_16 wm_h)), ?_⟩
        refine wm_c ⟨(wk_L_law_L_law_r18 _ (wm_16 (wm_4 wm_h))), ?_⟩
        refine wm_c ⟨(wk_L_law_L_law_r18 _ (wm_16 (wm_4 (wm_1 wm_h)))), ?_⟩
        refine wm_c ⟨(wk_L_law_L_law_r18 _ (wm_16 (wm_4 (wm_2 wm_h)))), ?_⟩
        refine wm_c ⟨(wk_L_law_L_law_r18 _ (wm_16 (wm_4 (wm_2 (wm_1 wm_h))))), ?_⟩
        refine wm_c ⟨(wk_L_law_L_law_r3 _ (wm_16 (wm_4 wm_h))), ?_⟩
        refine wm_c ⟨(wk_L_law_L_law_r19 _ wm_h), ?_⟩
        refine wm_c ⟨(wk_L_law_L_law_r19 _ (wm_1 wm_h)), ?_⟩
        refine wm_c ⟨(wk_L_law_L_law_r19 _ (wm_2 wm_h)), ?_⟩
        refine wm_c ⟨(wk_L_law_L_law_r13 _ (wm_4 wm_h)), ?_⟩
        refine wm_c ⟨(wk_L_law_L_law_r16 _ (wm_16 (wm_4 (wm_1 wm_h)))), ?_⟩
        refine wm_c ⟨(wk_L_law_L_law_r16 _ (wm_16 (wm_4 (wm_2 wm_h)))), ?_⟩
        refine wm_c ⟨(wk_L_law_L_law_r16 _ (wm_16 (wm_4 (wm_2 (wm_1 wm_h))))), ?_⟩
        refine wm_c ⟨(wk_L_law_L_law_r17 _ wm_h), ?_⟩
        refine wm_c ⟨(wk_L_law_L_law_r17 _ (wm_1 wm_h)), ?_⟩
        refine wm_c ⟨(wk_L_law_L_law_r6 _ (wm_8 (wm_4 (wm_2 wm_h)))), ?_⟩
        refine wm_c ⟨(wk_L_law_L_law_r6 _ (wm_8 (wm_4 (wm_2 (wm_1 wm_h))))), ?_⟩
        refine wm_c ⟨(wk_L_law_L_law_r6 _ (wm_16 wm_h)), ?_⟩
        exact wm_n
    · exact wk_L_law_X70
  · exact wk_L_law_X00
set_option maxRecDepth 20000 in
theorem gL_law_X7_shuffle : GoodIn wsL_law (wsV RL 53 RX7 yX7_shuffle wsX7_shuffle) := by
  refine goodIn_app (goodIn_sub ?_ ?_) ggL_law_X7_shuffle
  · exact wm_c ⟨(wk_L_law_L_law_r18 _ (wm_4 (wm_2 (wm_1 wm_h)))), wm_c ⟨(wk_L_law_L_law_r18 _ (wm_8 wm_h)), wm_c ⟨(wk_L_law_L_law_r18 _ (wm_8 (wm_1 wm_h))), wm_c ⟨(wk_L_law_L_law_r1 _ (wm_2 wm_h)), wm_n⟩⟩⟩⟩
  · decide +kernel
set_option maxRecDepth 20000 in
theorem ggL_law_X8_shuffle : GoodIn wsL_law wsX8_shuffle := by
  refine goodIn_sub ?_ gd_X8_shuffle
  unfold wsX8_shuffle
  refine wm_c ⟨(wk_L_law_L_law_r19 _ (wm_4 (wm_2 wm_h))), ?_⟩
  refine wm_a ⟨?_, ?_⟩
  · refine wm_a ⟨?_, ?_⟩
    · unfold wsX8_shuffle_r1
      refine wm_c ⟨(wk_L_law_L_law_r10 _ wm_h), ?_⟩
      refine wm_c ⟨(wk_L_law_L_law_r9 _ wm_h), ?_⟩
      refine wm_c ⟨(wk_L_law_L_law_r9 _ (wm_16 (wm_4 (wm_2 wm_h)))), ?_⟩
      refine wm_c ⟨(wk_L_law_L_law_r9 _ (wm_2 wm_h)), ?_⟩
      refine wm_c ⟨(wk_L_law_L_law_r8 _ (wm_16 (wm_4 (wm_2 (wm_1 wm_h))))), ?_⟩
      refine wm_c ⟨(wk_L_law_L_law_r11 _ (wm_8 (wm_1 wm_h))), ?_⟩
      refine wm_c ⟨(wk_L_law_L_law_r17 _ (wm_4 (wm_2 wm_h))), ?_⟩
      refine wm_c ⟨(wk_L_law_L_law_r17 _ (wm_4 (wm_2 (wm_1 wm_h)))), ?_⟩
      refine wm_c ⟨(wk_L_law_L_law_r17 _ (wm_8 wm_h)), ?_⟩
      refine wm_c ⟨(wk_L_law_L_law_r1 _ (wm_4 (wm_1 wm_h))), ?_⟩
      refine wm_c ⟨(wk_L_law_L_law_r17 _ (wm_8 (wm_1 wm_h))), ?_⟩
      refine wm_c ⟨(wk_L_law_L_law_r12 _ (wm_2 (wm_1 wm_h))), ?_⟩
      refine wm_c ⟨(wk_L_law_L_law_r12 _ (wm_4 wm_h)), ?_⟩
      refine wm_c ⟨(wk_L_law_L_law_r12 _ (wm_4 (wm_1 wm_h))), ?_⟩
      refine wm_c ⟨(wk_L_law_L_law_r12 _ (wm_4 (wm_2 wm_h))), ?_⟩
      refine wm_c ⟨(wk_L_law_L_law_r12 _ (wm_4 (wm_2 (wm_1 wm_h)))), ?_⟩
      refine wm_c ⟨(wk_L_law_L_law_r12 _ (wm_8 wm_h)), ?_⟩
      refine wm_c ⟨(wk_L_law_L_law_r12 _ (wm_8 (wm_1 wm_h))), ?_⟩
      refine wm_c ⟨(wk_L_law_L_law_r10 _ (wm_16 wm_h)), ?_⟩
      refine wm_c ⟨(wk_L_law_L_law_r10 _ (wm_16 (wm_1 wm_h))), ?_⟩
      refine wm_c ⟨(wk_L_law_L_law_r10 _ (wm_16 (wm_2 wm_h))), ?_⟩
      refine wm_c ⟨(wk_L_law_L_law_r10 _ (wm_16 (wm_2 (wm_1 wm_h)))), ?_⟩
      refine wm_c ⟨(wk_L_law_L_law_r8 _ (wm_16 (wm_4 (wm_2 wm_h)))), ?_⟩
      refine wm_c ⟨(wk_L_law_L_law_r15 _ (wm_16 (wm_4 (wm_2 (wm_1 wm_h))))), ?_⟩
      exact wm_n
    · unfold wsX8_shuffle_r2
      refine wm_c ⟨(wk_L_law_L_law_r16 _ wm_h), ?_⟩
      refine wm_c ⟨(wk_L_law_L_law_r16 _ (wm_1 wm_h)), ?_⟩
      refine wm_c ⟨(wk_L_law_L_law_r16 _ (wm_2 wm_h)), ?_⟩
      exact wm_n
  · exact wk_L_law_X80
set_option maxRecDepth 20000 in
theorem gL_law_X8_shuffle : GoodIn wsL_law (wsV RL 56 RX8 yX8_shuffle wsX8_shuffle) := by
  refine goodIn_app (goodIn_sub ?_ ?_) ggL_law_X8_shuffle
  · exact wm_c ⟨(wk_L_law_L_law_r19 _ (wm_2 (wm_1 wm_h))), wm_c ⟨(wk_L_law_L_law_r19 _ (wm_4 wm_h)), wm_c ⟨(wk_L_law_L_law_r19 _ (wm_4 (wm_1 wm_h))), wm_c ⟨(wk_L_law_L_law_r1 _ (wm_4 (wm_1 wm_h))), wm_n⟩⟩⟩⟩
  · decide +kernel
set_option maxRecDepth 20000 in
theorem ggL_law_X7_turn : GoodIn wsL_law wsX7_turn := by
  refine goodIn_sub ?_ gd_X7_turn
  unfold wsX7_turn
  refine wm_c ⟨(wk_L_law_L_law_r19 _ (wm_8 (wm_2 wm_h))), ?_⟩
  refine wm_a ⟨?_, ?_⟩
  · refine wm_a ⟨?_, ?_⟩
    · refine wm_a ⟨?_, ?_⟩
      · refine wm_a ⟨?_, ?_⟩
        · unfold wsX7_turn_r1
          refine wm_c ⟨(wk_L_law_L_law_r2 _ (wm_2 (wm_1 wm_h))), ?_⟩
          refine wm_c ⟨(wk_L_law_L_law_r1 _ (wm_16 (wm_4 (wm_2 (wm_1 wm_h))))), ?_⟩
          refine wm_c ⟨(wk_L_law_L_law_r11 _ (wm_16 (wm_1 wm_h))), ?_⟩
          refine wm_c ⟨(wk_L_law_L_law_r11 _ (wm_16 (wm_2 wm_h))), ?_⟩
          refine wm_c ⟨(wk_L_law_L_law_r1 _ (wm_2 wm_h)), ?_⟩
          refine wm_c ⟨(wk_L_law_L_law_r11 _ (wm_16 (wm_2 (wm_1 wm_h)))), ?_⟩
          refine wm_c ⟨(wk_L_law_L_law_r19 _ (wm_8 (wm_2 (wm_1 wm_h)))), ?_⟩
          refine wm_c ⟨(wk_L_law_L_law_r19 _ (wm_8 (wm_4 wm_h))), ?_⟩
          refine wm_c ⟨(wk_L_law_L_law_r19 _ (wm_8 (wm_4 (wm_1 wm_h)))), ?_⟩
          refine wm_c ⟨(wk_L_law_L_law_r2 _ (wm_2 wm_h)), ?_⟩
          refine wm_c ⟨(wk_L_law_L_law_r19 _ (wm_8 (wm_4 (wm_2 wm_h)))), ?_⟩
          refine wm_c ⟨(wk_L_law_L_law_r3 _ (wm_16 (wm_2 wm_h))), ?_⟩
          refine wm_c ⟨(wk_L_law_L_law_r3 _ (wm_16 (wm_4 (wm_2 wm_h)))), ?_⟩
          refine wm_c ⟨(wk_L_law_L_law_r4 _ wm_h), ?_⟩
          refine wm_c ⟨(wk_L_law_L_law_r3 _ (wm_16 wm_h)), ?_⟩
          refine wm_c ⟨(wk_L_law_L_law_r4 _ (wm_4 wm_h)), ?_⟩
          refine wm_c ⟨(wk_L_law_L_law_r19 _ (wm_8 (wm_4 (wm_2 (wm_1 wm_h))))), ?_⟩
          refine wm_c ⟨(wk_L_law_L_law_r19 _ (wm_16 wm_h)), ?_⟩
          refine wm_c ⟨(wk_L_law_L_law_r19 _ (wm_16 (wm_1 wm_h))), ?_⟩
          refine wm_c ⟨(wk_L_law_L_law_r1 _ (wm_16 (wm_2 (wm_1 wm_h)))), ?_⟩
          refine wm_c ⟨(wk_L_law_L_law_r19 _ (wm_16 (wm_2 wm_h))), ?_⟩
          refine wm_c ⟨(wk_L_law_L_law_r3 _ (wm_4 wm_h)), ?_⟩
          refine wm_c ⟨(wk_L_law_L_law_r19 _ (wm_16 (wm_2 (wm_1 wm_h)))), ?_⟩
          refine wm_c ⟨(wk_L_law_L_law_r19 _ (wm_16 (wm_4 wm_h))), ?_⟩
          exact wm_n
        · unfold wsX7_turn_r2
          refine wm_c ⟨(wk_L_law_L_law_r4 _ (wm_8 (wm_2 wm_h))), ?_⟩
          refine wm_c ⟨(wk_L_law_L_law_r19 _ (wm_16 (wm_4 (wm_1 wm_h)))), ?_⟩
          refine wm_c ⟨(wk_L_law_L_law_r13 _ (wm_4 wm_h)), ?_⟩
          refine wm_c ⟨(wk_L_law_L_law_r16 _ (wm_16 (wm_4 (wm_1 wm_h)))), ?_⟩
          refine wm_c ⟨(wk_L_law_L_law_r16 _ (wm_16 (wm_4 (wm_2 wm_h)))), ?_⟩
          refine wm_c ⟨(wk_L_law_L_law_r16 _ (wm_16 (wm_4 (wm_2 (wm_1 wm_h))))), ?_⟩
          refine wm_c ⟨(wk_L_law_L_law_r17 _ wm_h), ?_⟩
          refine wm_c ⟨(wk_L_law_L_law_r17 _ (wm_1 wm_h)), ?_⟩
          refine wm_c ⟨(wk_L_law_L_law_r6 _ (wm_8 (wm_4 (wm_2 wm_h)))), ?_⟩
          refine wm_c ⟨(wk_L_law_L_law_r6 _ (wm_8 (wm_4 (wm_2 (wm_1 wm_h))))), ?_⟩
          refine wm_c ⟨(wk_L_law_L_law_r6 _ (wm_16 wm_h)), ?_⟩
          exact wm_n
      · exact wk_L_law_X70
    · exact wk_L_law_X00
  · exact wk_L_law_X60
set_option maxRecDepth 20000 in
theorem gL_law_X7_turn : GoodIn wsL_law (wsV RL 57 RX7 yX7_turn wsX7_turn) := by
  refine goodIn_app (goodIn_sub ?_ ?_) ggL_law_X7_turn
  · exact wm_c ⟨(wk_L_law_L_law_r19 _ (wm_4 (wm_2 (wm_1 wm_h)))), wm_c ⟨(wk_L_law_L_law_r19 _ (wm_8 wm_h)), wm_c ⟨(wk_L_law_L_law_r19 _ (wm_8 (wm_1 wm_h))), wm_c ⟨(wk_L_law_L_law_r1 _ (wm_2 wm_h)), wm_n⟩⟩⟩⟩
  · decide +kernel
set_option maxRecDepth 20000 in
theorem ggL_law_X8_turn : GoodIn wsL_law wsX8_turn := by
  refine goodIn_sub ?_ gd_X8_turn
  unfold wsX8_turn
  refine wm_c ⟨(wk_L_law_L_law_r20 _ (wm_1 wm_h)), ?_⟩
  refine wm_a ⟨?_, ?_⟩
  · refine wm_a ⟨?_, ?_⟩
    · unfold wsX8_turn_r1
      refine wm_c ⟨(wk_L_law_L_law_r10 _ wm_h), ?_⟩
      refine wm_c ⟨(wk_L_law_L_law_r9 _ wm_h), ?_⟩
      refine wm_c ⟨(wk_L_law_L_law_r9 _ (wm_16 (wm_4 (wm_2 wm_h)))), ?_⟩
      refine wm_c ⟨(wk_L_law_L_law_r9 _ (wm_2 wm_h)), ?_⟩
      refine wm_c ⟨(wk_L_law_L_law_r8 _ (wm_16 (wm_4 (wm_2 (wm_1 wm_h))))), ?_⟩
      refine wm_c ⟨(wk_L_law_L_law_r12 _ (wm_2 (wm_1 wm_h))), ?_⟩
      refine wm_c ⟨(wk_L_law_L_law_r12 _ (wm_4 wm_h)), ?_⟩
      refine wm_c ⟨(wk_L_law_L_law_r1 _ (wm_4 (wm_1 wm_h))), ?_⟩
      refine wm_c ⟨(wk_L_law_L_law_r12 _ (wm_4 (wm_1 wm_h))), ?_⟩
      refine wm_c ⟨(wk_L_law_L_law_r12 _ (wm_4 (wm_2 wm_h))), ?_⟩
      refine wm_c ⟨(wk_L_law_L_law_r12 _ (wm_4 (wm_2 (wm_1 wm_h)))), ?_⟩
      refine wm_c ⟨(wk_L_law_L_law_r12 _ (wm_8 wm_h)), ?_⟩
      refine wm_c ⟨(wk_L_law_L_law_r12 _ (wm_8 (wm_1 wm_h))), ?_⟩
      refine wm_c ⟨(wk_L_law_L_law_r10 _ (wm_16 wm_h)), ?_⟩
      refine wm_c ⟨(wk_L_law_L_law_r10 _ (wm_16 (wm_1 wm_h))), ?_⟩
      refine wm_c ⟨(wk_L_law_L_law_r10 _ (wm_16 (wm_2 wm_h))), ?_⟩
      refine wm_c ⟨(wk_L_law_L_law_r10 _ (wm_16 (wm_2 (wm_1 wm_h)))), ?_⟩
      refine wm_c ⟨(wk_L_law_L_law_r8 _ (wm_16 (wm_4 (wm_2 wm_h)))), ?_⟩
      refine wm_c ⟨(wk_L_law_L_law_r11 _ (wm_8 (wm_2 wm_h))), ?_⟩
      refine wm_c ⟨(wk_L_law_L_law_r11 _ (wm_8 (wm_2 (wm_1 wm_h)))), ?_⟩
      refine wm_c ⟨(wk_L_law_L_law_r11 _ (wm_8 (wm_4 wm_h))), ?_⟩
      refine wm_c ⟨(wk_L_law_L_law_r11 _ (wm_8 (wm_1 wm_h))), ?_⟩
      refine wm_c ⟨(wk_L_law_L_law_r15 _ (wm_16 (wm_4 (wm_2 (wm_1 wm_h))))), ?_⟩
      refine wm_c ⟨(wk_L_law_L_law_r16 _ wm_h), ?_⟩
      exact wm_n
    · unfold wsX8_turn_r2
      refine wm_c ⟨(wk_L_law_L_law_r16 _ (wm_1 wm_h)), ?_⟩
      refine wm_c ⟨(wk_L_law_L_law_r16 _ (wm_2 wm_h)), ?_⟩
      exact wm_n
  · exact wk_L_law_X80
set_option maxRecDepth 20000 in
theorem gL_law_X8_turn : GoodIn wsL_law (wsV RL 60 RX8 yX8_turn wsX8_turn) := by
  refine goodIn_app (goodIn_sub ?_ ?_) ggL_law_X8_turn
  · exact wm_c ⟨(wk_L_law_L_law_r19 _ (wm_16 (wm_4 (wm_2 wm_h)))), wm_c ⟨(wk_L_law_L_law_r19 _ (wm_16 (wm_4 (wm_2 (wm_1 wm_h))))), wm_c ⟨(wk_L_law_L_law_r20 _ wm_h), wm_c ⟨(wk_L_law_L_law_r1 _ (wm_4 (wm_1 wm_h))), wm_n⟩⟩⟩⟩
  · decide +kernel
set_option maxRecDepth 20000 in
theorem ggL_law_X7_exp : GoodIn wsL_law wsX7_exp := by
  refine goodIn_sub ?_ gd_X7_exp
  unfold wsX7_exp
  refine wm_c ⟨(wk_L_law_L_law_r20 _ (wm_4 (wm_1 wm_h))), ?_⟩
  refine wm_a ⟨?_, ?_⟩
  · refine wm_a ⟨?_, ?_⟩
    · refine wm_a ⟨?_, ?_⟩
      · unfold wsX7_exp_r1
        refine wm_c ⟨(wk_L_law_L_law_r1 _ (wm_16 (wm_4 (wm_2 (wm_1 wm_h))))), ?_⟩
        refine wm_c ⟨(wk_L_law_L_law_r2 _ (wm_2 (wm_1 wm_h))), ?_⟩
        refine wm_c ⟨(wk_L_law_L_law_r11 _ (wm_16 (wm_1 wm_h))), ?_⟩
        refine wm_c ⟨(wk_L_law_L_law_r11 _ (wm_16 (wm_2 wm_h))), ?_⟩
        refine wm_c ⟨(wk_L_law_L_law_r1 _ (wm_2 wm_h)), ?_⟩
        refine wm_c ⟨(wk_L_law_L_law_r11 _ (wm_16 (wm_2 (wm_1 wm_h)))), ?_⟩
        refine wm_c ⟨(wk_L_law_L_law_r20 _ (wm_4 (wm_2 wm_h))), ?_⟩
        refine wm_c ⟨(wk_L_law_L_law_r20 _ (wm_4 (wm_2 (wm_1 wm_h)))), ?_⟩
        refine wm_c ⟨(wk_L_law_L_law_r20 _ (wm_8 wm_h)), ?_⟩
        refine wm_c ⟨(wk_L_law_L_law_r2 _ (wm_2 wm_h)), ?_⟩
        refine wm_c ⟨(wk_L_law_L_law_r20 _ (wm_8 (wm_1 wm_h))), ?_⟩
        refine wm_c ⟨(wk_L_law_L_law_r4 _ (wm_4 (wm_2 wm_h))), ?_⟩
        refine wm_c ⟨(wk_L_law_L_law_r4 _ (wm_4 (wm_2 (wm_1 wm_h)))), ?_⟩
        refine wm_c ⟨(wk_L_law_L_law_r3 _ (wm_16 (wm_2 wm_h))), ?_⟩
        refine wm_c ⟨(wk_L_law_L_law_r4 _ (wm_1 wm_h)), ?_⟩
        refine wm_c ⟨(wk_L_law_L_law_r20 _ (wm_8 (wm_2 wm_h))), ?_⟩
        refine wm_c ⟨(wk_L_law_L_law_r20 _ (wm_8 (wm_2 (wm_1 wm_h)))), ?_⟩
        refine wm_c ⟨(wk_L_law_L_law_r20 _ (wm_8 (wm_4 wm_h))), ?_⟩
        refine wm_c ⟨(wk_L_law_L_law_r20 _ (wm_8 (wm_4 (wm_1 wm_h)))), ?_⟩
        refine wm_c ⟨(wk_L_law_L_law_r16 _ (wm_8 (wm_4 (wm_2 (wm_1 wm_h))))), ?_⟩
        refine wm_c ⟨(wk_L_law_L_law_r11 _ (wm_16 (wm_4 (wm_1 wm_h)))), ?_⟩
        refine wm_c ⟨(wk_L_law_L_law_r6 _ (wm_1 wm_h)), ?_⟩
        refine wm_c ⟨(wk_L_law_L_law_r11 _ (wm_16 (wm_4 (wm_2 wm_h)))), ?_⟩
        refine wm_c ⟨(wk_L_law_L_law_r16 _ (wm_16 wm_h)), ?_⟩
        exact wm_n
      · unfold wsX7_exp_r2
        refine wm_c ⟨(wk_L_law_L_law_r16 _ (wm_16 (wm_1 wm_h))), ?_⟩
        refine wm_c ⟨(wk_L_law_L_law_r16 _ (wm_16 (wm_2 wm_h))), ?_⟩
        refine wm_c ⟨(wk_L_law_L_law_r16 _ (wm_16 (wm_2 (wm_1 wm_h)))), ?_⟩
        refine wm_c ⟨(wk_L_law_L_law_r3 _ (wm_16 (wm_4 (wm_2 wm_h)))), ?_⟩
        refine wm_c ⟨(wk_L_law_L_law_r4 _ wm_h), ?_⟩
        refine wm_c ⟨(wk_L_law_L_law_r16 _ (wm_16 (wm_4 wm_h))), ?_⟩
        refine wm_c ⟨(wk_L_law_L_law_r16 _ (wm_16 (wm_4 (wm_1 wm_h)))), ?_⟩
        refine wm_c ⟨(wk_L_law_L_law_r16 _ (wm_16 (wm_4 (wm_2 wm_h)))), ?_⟩
        refine wm_c ⟨(wk_L_law_L_law_r16 _ (wm_16 (wm_4 (wm_2 (wm_1 wm_h))))), ?_⟩
        refine wm_c ⟨(wk_L_law_L_law_r17 _ wm_h), ?_⟩
        refine wm_c ⟨(wk_L_law_L_law_r17 _ (wm_1 wm_h)), ?_⟩
        refine wm_c ⟨(wk_L_law_L_law_r6 _ (wm_8 (wm_4 (wm_2 wm_h)))), ?_⟩
        refine wm_c ⟨(wk_L_law_L_law_r6 _ (wm_8 (wm_4 (wm_2 (wm_1 wm_h))))), ?_⟩
        refine wm_c ⟨(wk_L_law_L_law_r6 _ (wm_16 wm_h)), ?_⟩
        exact wm_n
    · exact wk_L_law_X70
  · exact wk_L_law_X00
set_option maxRecDepth 20000 in
theorem gL_law_X7_exp : GoodIn wsL_law (wsV RL 61 RX7 yX7_exp wsX7_exp) := by
  refine goodIn_app (goodIn_sub ?_ ?_) ggL_law_X7_exp
  · exact wm_c ⟨(wk_L_law_L_law_r20 _ (wm_2 wm_h)), wm_c ⟨(wk_L_law_L_law_r20 _ (wm_2 (wm_1 wm_h))), wm_c ⟨(wk_L_law_L_law_r20 _ (wm_4 wm_h)), wm_c ⟨(wk_L_law_L_law_r1 _ (wm_2 wm_h)), wm_n⟩⟩⟩⟩
  · decide +kernel
set_option maxRecDepth 20000 in
theorem ggL_law_X8_exp : GoodIn wsL_law wsX8_exp := by
  refine goodIn_sub ?_ gd_X8_exp
  unfold wsX8_exp
  refine wm_c ⟨(wk_L_law_L_law_r20 _ (wm_16 (wm_1 wm_h))), ?_⟩
  refine wm_a ⟨?_, ?_⟩
  · refine wm_a ⟨?_, ?_⟩
    · unfold wsX8_exp_r1
      refine wm_c ⟨(wk_L_law_L_law_r20 _ (wm_16 (wm_2 wm_h))), ?_⟩
      refine wm_c ⟨(wk_L_law_L_law_r20 _ (wm_16 (wm_2 (wm_1 wm_h)))), ?_⟩
      refine wm_c ⟨(wk_L_law_L_law_r20 _ (wm_16 (wm_4 wm_h))), ?_⟩
      refine wm_c ⟨(wk_L_law_L_law_r1 _ (wm_4 (wm_1 wm_h))), ?_⟩
      refine wm_c ⟨(wk_L_law_L_law_r20 _ (wm_16 (wm_4 (wm_1 wm_h)))), ?_⟩
      refine wm_c ⟨(wk_L_law_L_law_r9 _ (wm_2 wm_h)), ?_⟩
      refine wm_c ⟨(wk_L_law_L_law_r12 _ (wm_2 (wm_1 wm_h))), ?_⟩
      refine wm_c ⟨(wk_L_law_L_law_r12 _ (wm_4 wm_h)), ?_⟩
      refine wm_c ⟨(wk_L_law_L_law_r12 _ (wm_4 (wm_1 wm_h))), ?_⟩
      refine wm_c ⟨(wk_L_law_L_law_r12 _ (wm_4 (wm_2 wm_h))), ?_⟩
      refine wm_c ⟨(wk_L_law_L_law_r12 _ (wm_4 (wm_2 (wm_1 wm_h)))), ?_⟩
      refine wm_c ⟨(wk_L_law_L_law_r12 _ (wm_8 wm_h)), ?_⟩
      refine wm_c ⟨(wk_L_law_L_law_r12 _ (wm_8 (wm_1 wm_h))), ?_⟩
      refine wm_c ⟨(wk_L_law_L_law_r20 _ (wm_16 (wm_4 (wm_2 wm_h)))), ?_⟩
      refine wm_c ⟨(wk_L_law_L_law_r20 _ (wm_16 (wm_4 (wm_2 (wm_1 wm_h))))), ?_⟩
      refine wm_c ⟨(wk_L_law_L_law_r21 _ wm_h), ?_⟩
      refine wm_c ⟨(wk_L_law_L_law_r21 _ (wm_1 wm_h)), ?_⟩
      refine wm_c ⟨(wk_L_law_L_law_r9 _ (wm_16 (wm_4 (wm_2 (wm_1 wm_h))))), ?_⟩
      refine wm_c ⟨(wk_L_law_L_law_r11 _ (wm_8 (wm_1 wm_h))), ?_⟩
      refine wm_c ⟨(wk_L_law_L_law_r15 _ (wm_16 (wm_4 (wm_2 (wm_1 wm_h))))), ?_⟩
      refine wm_c ⟨(wk_L_law_L_law_r16 _ wm_h), ?_⟩
      refine wm_c ⟨(wk_L_law_L_law_r16 _ (wm_1 wm_h)), ?_⟩
      refine wm_c ⟨(wk_L_law_L_law_r16 _ (wm_2 wm_h)), ?_⟩
      refine wm_c ⟨(wk_L_law_L_law_r10 _ wm_h), ?_⟩
      exact wm_n
    · refine wm_a ⟨?_, ?_⟩
      · unfold wsX8_exp_r2
        refine wm_c ⟨(wk_L_law_L_law_r21 _ (wm_2 wm_h)), ?_⟩
        refine wm_c ⟨(wk_L_law_L_law_r21 _ (wm_2 (wm_1 wm_h))), ?_⟩
        refine wm_c ⟨(wk_L_law_L_law_r21 _ (wm_4 wm_h)), ?_⟩
        refine wm_c ⟨(wk_L_law_L_law_r21 _ (wm_4 (wm_1 wm_h))), ?_⟩
        refine wm_c ⟨(wk_L_law_L_law_r12 _ (wm_8 (wm_2 wm_h))), ?_⟩
        refine wm_c ⟨(wk_L_law_L_law_r12 _ (wm_8 (wm_2 (wm_1 wm_h)))), ?_⟩
        refine wm_c ⟨(wk_L_law_L_law_r12 _ (wm_8 (wm_4 wm_h))), ?_⟩
        refine wm_c ⟨(wk_L_law_L_law_r12 _ (wm_8 (wm_4 (wm_1 wm_h)))), ?_⟩
        refine wm_c ⟨(wk_L_law_L_law_r17 _ (wm_8 (wm_2 wm_h))), ?_⟩
        refine wm_c ⟨(wk_L_law_L_law_r17 _ (wm_8 (wm_2 (wm_1 wm_h)))), ?_⟩
        refine wm_c ⟨(wk_L_law_L_law_r17 _ (wm_8 (wm_4 wm_h))), ?_⟩
        refine wm_c ⟨(wk_L_law_L_law_r17 _ (wm_8 (wm_4 (wm_1 wm_h)))), ?_⟩
        refine wm_c ⟨(wk_L_law_L_law_r9 _ wm_h), ?_⟩
        refine wm_c ⟨(wk_L_law_L_law_r11 _ (wm_1 wm_h)), ?_⟩
        refine wm_c ⟨(wk_L_law_L_law_r11 _ (wm_2 wm_h)), ?_⟩
        refine wm_c ⟨(wk_L_law_L_law_r11 _ (wm_2 (wm_1 wm_h))), ?_⟩
        refine wm_c ⟨(wk_L_law_L_law_r11 _ (wm_4 wm_h)), ?_⟩
        refine wm_c ⟨(wk_L_law_L_law_r8 _ (wm_16 (wm_4 (wm_2 (wm_1 wm_h))))), ?_⟩
        refine wm_c ⟨(wk_L_law_L_law_r8 _ (wm_16 (wm_4 (wm_2 wm_h)))), ?_⟩
        refine wm_c ⟨(wk_L_law_L_law_r10 _ (wm_8 wm_h)), ?_⟩
        refine wm_c ⟨(wk_L_law_L_law_r10 _ (wm_8 (wm_1 wm_h))), ?_⟩
        refine wm_c ⟨(wk_L_law_L_law_r10 _ (wm_8 (wm_2 wm_h))), ?_⟩
        refine wm_c ⟨(wk_L_law_L_law_r10 _ (wm_8 (wm_2 (wm_1 wm_h)))), ?_⟩
        refine wm_c ⟨(wk_L_law_L_law_r13 _ (wm_16 (wm_4 (wm_2 (wm_1 wm_h))))), ?_⟩
        exact wm_n
      · unfold wsX8_exp_r3
        refine wm_c ⟨(wk_L_law_L_law_r14 _ wm_h), ?_⟩
        refine wm_c ⟨(wk_L_law_L_law_r14 _ (wm_1 wm_h)), ?_⟩
        refine wm_c ⟨(wk_L_law_L_law_r14 _ (wm_2 wm_h)), ?_⟩
        refine wm_c ⟨(wk_L_law_L_law_r16 _ (wm_2 (wm_1 wm_h))), ?_⟩
        refine wm_c ⟨(wk_L_law_L_law_r16 _ (wm_4 wm_h)), ?_⟩
        refine wm_c ⟨(wk_L_law_L_law_r16 _ (wm_4 (wm_1 wm_h))), ?_⟩
        refine wm_c ⟨(wk_L_law_L_law_r16 _ (wm_4 (wm_2 wm_h))), ?_⟩
        exact wm_n
  · exact wk_L_law_X80
set_option maxRecDepth 20000 in
theorem gL_law_X8_exp : GoodIn wsL_law (wsV RL 64 RX8 yX8_exp wsX8_exp) := by
  refine goodIn_app (goodIn_sub ?_ ?_) ggL_law_X8_exp
  · exact wm_c ⟨(wk_L_law_L_law_r20 _ (wm_8 (wm_4 (wm_2 wm_h)))), wm_c ⟨(wk_L_law_L_law_r20 _ (wm_8 (wm_4 (wm_2 (wm_1 wm_h))))), wm_c ⟨(wk_L_law_L_law_r20 _ (wm_16 wm_h)), wm_c ⟨(wk_L_law_L_law_r1 _ (wm_4 (wm_1 wm_h))), wm_n⟩⟩⟩⟩
  · decide +kernel
set_option maxRecDepth 20000 in
theorem ggL_law_X7_log : GoodIn wsL_law wsX7_log := by
  refine goodIn_sub ?_ gd_X7_log
  unfold wsX7_log
  refine wm_c ⟨(wk_L_law_L_law_r21 _ (wm_8 (wm_1 wm_h))), ?_⟩
  refine wm_a ⟨?_, ?_⟩
  · refine wm_a ⟨?_, ?_⟩
    · refine wm_a ⟨?_, ?_⟩
      · unfold wsX7_log_r1
        refine wm_c ⟨(wk_L_law_L_law_r1 _ (wm_16 (wm_4 (wm_2 (wm_1 wm_h))))), ?_⟩
        refine wm_c ⟨(wk_L_law_L_law_r2 _ (wm_2 (wm_1 wm_h))), ?_⟩
        refine wm_c ⟨(wk_L_law_L_law_r11 _ (wm_16 (wm_1 wm_h))), ?_⟩
        refine wm_c ⟨(wk_L_law_L_law_r11 _ (wm_16 (wm_2 wm_h))), ?_⟩
        refine wm_c ⟨(wk_L_law_L_law_r1 _ (wm_2 wm_h)), ?_⟩
        refine wm_c ⟨(wk_L_law_L_law_r11 _ (wm_16 (wm_2 (wm_1 wm_h)))), ?_⟩
        refine wm_c ⟨(wk_L_law_L_law_r21 _ (wm_8 (wm_2 wm_h))), ?_⟩
        refine wm_c ⟨(wk_L_law_L_law_r21 _ (wm_8 (wm_2 (wm_1 wm_h)))), ?_⟩
        refine wm_c ⟨(wk_L_law_L_law_r21 _ (wm_8 (wm_4 wm_h))), ?_⟩
        refine wm_c ⟨(wk_L_law_L_law_r2 _ (wm_2 wm_h)), ?_⟩
        refine wm_c ⟨(wk_L_law_L_law_r21 _ (wm_8 (wm_4 (wm_1 wm_h)))), ?_⟩
        refine wm_c ⟨(wk_L_law_L_law_r4 _ (wm_4 (wm_1 wm_h))), ?_⟩
        refine wm_c ⟨(wk_L_law_L_law_r4 _ (wm_4 (wm_2 wm_h))), ?_⟩
        refine wm_c ⟨(wk_L_law_L_law_r4 _ (wm_4 (wm_2 (wm_1 wm_h)))), ?_⟩
        refine wm_c ⟨(wk_L_law_L_law_r4 _ (wm_1 wm_h)), ?_⟩
        refine wm_c ⟨(wk_L_law_L_law_r3 _ (wm_16 (wm_2 wm_h))), ?_⟩
        refine wm_c ⟨(wk_L_law_L_law_r17 _ (wm_16 (wm_4 (wm_2 wm_h)))), ?_⟩
        refine wm_c ⟨(wk_L_law_L_law_r16 _ (wm_16 (wm_4 (wm_1 wm_h)))), ?_⟩
        refine wm_c ⟨(wk_L_law_L_law_r16 _ (wm_16 (wm_4 (wm_2 wm_h)))), ?_⟩
        refine wm_c ⟨(wk_L_law_L_law_r16 _ (wm_16 (wm_4 (wm_2 (wm_1 wm_h))))), ?_⟩
        refine wm_c ⟨(wk_L_law_L_law_r17 _ wm_h), ?_⟩
        refine wm_c ⟨(wk_L_law_L_law_r17 _ (wm_1 wm_h)), ?_⟩
        refine wm_c ⟨(wk_L_law_L_law_r6 _ (wm_8 (wm_4 (wm_2 wm_h)))), ?_⟩
        refine wm_c ⟨(wk_L_law_L_law_r6 _ (wm_8 (wm_4 (wm_2 (wm_1 wm_h))))), ?_⟩
        exact wm_n
      · unfold wsX7_log_r2
        refine wm_c ⟨(wk_L_law_L_law_r6 _ (wm_16 wm_h)), ?_⟩
        refine wm_c ⟨(wk_L_law_L_law_r20 _ (wm_8 (wm_2 wm_h))), ?_⟩
        refine wm_c ⟨(wk_L_law_L_law_r20 _ (wm_8 (wm_2 (wm_1 wm_h)))), ?_⟩
        refine wm_c ⟨(wk_L_law_L_law_r20 _ (wm_8 (wm_4 wm_h))), ?_⟩
        refine wm_c ⟨(wk_L_law_L_law_r20 _ (wm_8 (wm_4 (wm_1 wm_h)))), ?_⟩
        refine wm_c ⟨(wk_L_law_L_law_r16 _ (wm_8 (wm_4 (wm_2 (wm_1 wm_h))))), ?_⟩
        refine wm_c ⟨(wk_L_law_L_law_r11 _ (wm_16 (wm_4 (wm_1 wm_h)))), ?_⟩
        refine wm_c ⟨(wk_L_law_L_law_r6 _ (wm_1 wm_h)), ?_⟩
        refine wm_c ⟨(wk_L_law_L_law_r11 _ (wm_16 (wm_4 (wm_2 wm_h)))), ?_⟩
        refine wm_c ⟨(wk_L_law_L_law_r16 _ (wm_16 wm_h)), ?_⟩
        refine wm_c ⟨(wk_L_law_L_law_r16 _ (wm_16 (wm_1 wm_h))), ?_⟩
        refine wm_c ⟨(wk_L_law_L_law_r16 _ (wm_16 (wm_2 wm_h))), ?_⟩
        refine wm_c ⟨(wk_L_law_L_law_r16 _ (wm_16 (wm_2 (wm_1 wm_h)))), ?_⟩
        refine wm_c ⟨(wk_L_law_L_law_r3 _ (wm_16 (wm_4 (wm_2 wm_h)))), ?_⟩
        refine wm_c ⟨(wk_L_law_L_law_r4 _ wm_h), ?_⟩
        refine wm_c ⟨(wk_L_law_L_law_r16 _ (wm_16 (wm_4 wm_h))), ?_⟩
        exact wm_n
    · exact wk_L_law_X70
  · exact wk_L_law_X00
set_option maxRecDepth 20000 in
theorem gL_law_X7_log : GoodIn wsL_law (wsV RL 65 RX7 yX7_log wsX7_log) := by
  refine goodIn_app (goodIn_sub ?_ ?_) ggL_law_X7_log
  · exact wm_c ⟨(wk_L_law_L_law_r21 _ (wm_4 (wm_2 wm_h))), wm_c ⟨(wk_L_law_L_law_r21 _ (wm_4 (wm_2 (wm_1 wm_h)))), wm_c ⟨(wk_L_law_L_law_r21 _ (wm_8 wm_h)), wm_c ⟨(wk_L_law_L_law_r1 _ (wm_2 wm_h)), wm_n⟩⟩⟩⟩
  · decide +kernel
set_option maxRecDepth 20000 in
theorem ggL_law_X8_log : GoodIn wsL_law wsX8_log := by
  refine goodIn_sub ?_ gd_X8_log
  unfold wsX8_log
  refine wm_c ⟨(wk_L_law_L_law_r21 _ (wm_16 (wm_1 wm_h))), ?_⟩
  refine wm_a ⟨?_, ?_⟩
  · refine wm_a ⟨?_, ?_⟩
    · unfold wsX8_log_r1
      refine wm_c ⟨(wk_L_law_L_law_r20 _ (wm_16 (wm_2 wm_h))), ?_⟩
      refine wm_c ⟨(wk_L_law_L_law_r20 _ (wm_16 (wm_2 (wm_1 wm_h)))), ?_⟩
      refine wm_c ⟨(wk_L_law_L_law_r20 _ (wm_16 (wm_4 wm_h))), ?_⟩
      refine wm_c ⟨(wk_L_law_L_law_r1 _ (wm_4 (wm_1 wm_h))), ?_⟩
      refine wm_c ⟨(wk_L_law_L_law_r20 _ (wm_16 (wm_4 (wm_1 wm_h)))), ?_⟩
      refine wm_c ⟨(wk_L_law_L_law_r9 _ (wm_2 wm_h)), ?_⟩
      refine wm_c ⟨(wk_L_law_L_law_r12 _ (wm_2 (wm_1 wm_h))), ?_⟩
      refine wm_c ⟨(wk_L_law_L_law_r12 _ (wm_4 wm_h)), ?_⟩
      refine wm_c ⟨(wk_L_law_L_law_r12 _ (wm_4 (wm_1 wm_h))), ?_⟩
      refine wm_c ⟨(wk_L_law_L_law_r12 _ (wm_4 (wm_2 wm_h))), ?_⟩
      refine wm_c ⟨(wk_L_law_L_law_r12 _ (wm_4 (wm_2 (wm_1 wm_h)))), ?_⟩
      refine wm_c ⟨(wk_L_law_L_law_r12 _ (wm_8 wm_h)), ?_⟩
      refine wm_c ⟨(wk_L_law_L_law_r12 _ (wm_8 (wm_1 wm_h))), ?_⟩
      refine wm_c ⟨(wk_L_law_L_law_r20 _ (wm_16 (wm_4 (wm_2 wm_h)))), ?_⟩
      refine wm_c ⟨(wk_L_law_L_law_r20 _ (wm_16 (wm_4 (wm_2 (wm_1 wm_h))))), ?_⟩
      refine wm_c ⟨(wk_L_law_L_law_r21 _ wm_h), ?_⟩
      refine wm_c ⟨(wk_L_law_L_law_r21 _ (wm_1 wm_h)), ?_⟩
      refine wm_c ⟨(wk_L_law_L_law_r9 _ (wm_16 (wm_4 (wm_2 (wm_1 wm_h))))), ?_⟩
      refine wm_c ⟨(wk_L_law_L_law_r11 _ (wm_8 (wm_1 wm_h))), ?_⟩
      refine wm_c ⟨(wk_L_law_L_law_r15 _ (wm_16 (wm_4 (wm_2 (wm_1 wm_h))))), ?_⟩
      refine wm_c ⟨(wk_L_law_L_law_r16 _ wm_h), ?_⟩
      refine wm_c ⟨(wk_L_law_L_law_r16 _ (wm_1 wm_h)), ?_⟩
      refine wm_c ⟨(wk_L_law_L_law_r16 _ (wm_2 wm_h)), ?_⟩
      refine wm_c ⟨(wk_L_law_L_law_r10 _ wm_h), ?_⟩
      exact wm_n
    · refine wm_a ⟨?_, ?_⟩
      · unfold wsX8_log_r2
        refine wm_c ⟨(wk_L_law_L_law_r21 _ (wm_2 wm_h)), ?_⟩
        refine wm_c ⟨(wk_L_law_L_law_r21 _ (wm_2 (wm_1 wm_h))), ?_⟩
        refine wm_c ⟨(wk_L_law_L_law_r21 _ (wm_4 wm_h)), ?_⟩
        refine wm_c ⟨(wk_L_law_L_law_r21 _ (wm_4 (wm_1 wm_h))), ?_⟩
        refine wm_c ⟨(wk_L_law_L_law_r12 _ (wm_8 (wm_2 wm_h))), ?_⟩
        refine wm_c ⟨(wk_L_law_L_law_r12 _ (wm_8 (wm_2 (wm_1 wm_h)))), ?_⟩
        refine wm_c ⟨(wk_L_law_L_law_r12 _ (wm_8 (wm_4 wm_h))), ?_⟩
        refine wm_c ⟨(wk_L_law_L_law_r12 _ (wm_8 (wm_4 (wm_1 wm_h)))), ?_⟩
        refine wm_c ⟨(wk_L_law_L_law_r17 _ (wm_8 (wm_2 wm_h))), ?_⟩
        refine wm_c ⟨(wk_L_law_L_law_r17 _ (wm_8 (wm_2 (wm_1 wm_h)))), ?_⟩
        refine wm_c ⟨(wk_L_law_L_law_r17 _ (wm_8 (wm_4 wm_h))), ?_⟩
        refine wm_c ⟨(wk_L_law_L_law_r17 _ (wm_8 (wm_4 (wm_1 wm_h)))), ?_⟩
        refine wm_c ⟨(wk_L_law_L_law_r9 _ wm_h), ?_⟩
        refine wm_c ⟨(wk_L_law_L_law_r11 _ (wm_1 wm_h)), ?_⟩
        refine wm_c ⟨(wk_L_law_L_law_r11 _ (wm_2 wm_h)), ?_⟩
        refine wm_c ⟨(wk_L_law_L_law_r11 _ (wm_2 (wm_1 wm_h))), ?_⟩
        refine wm_c ⟨(wk_L_law_L_law_r11 _ (wm_4 wm_h)), ?_⟩
        refine wm_c ⟨(wk_L_law_L_law_r8 _ (wm_16 (wm_4 (wm_2 (wm_1 wm_h))))), ?_⟩
        refine wm_c ⟨(wk_L_law_L_law_r8 _ (wm_16 (wm_4 (wm_2 wm_h)))), ?_⟩
        refine wm_c ⟨(wk_L_law_L_law_r10 _ (wm_8 wm_h)), ?_⟩
        refine wm_c ⟨(wk_L_law_L_law_r10 _ (wm_8 (wm_1 wm_h))), ?_⟩
        refine wm_c ⟨(wk_L_law_L_law_r10 _ (wm_8 (wm_2 wm_h))), ?_⟩
        refine wm_c ⟨(wk_L_law_L_law_r10 _ (wm_8 (wm_2 (wm_1 wm_h)))), ?_⟩
        refine wm_c ⟨(wk_L_law_L_law_r13 _ (wm_16 (wm_4 (wm_2 (wm_1 wm_h))))), ?_⟩
        exact wm_n
      · unfold wsX8_log_r3
        refine wm_c ⟨(wk_L_law_L_law_r14 _ wm_h), ?_⟩
        refine wm_c ⟨(wk_L_law_L_law_r14 _ (wm_1 wm_h)), ?_⟩
        refine wm_c ⟨(wk_L_law_L_law_r14 _ (wm_2 wm_h)), ?_⟩
        refine wm_c ⟨(wk_L_law_L_law_r16 _ (wm_2 (wm_1 wm_h))), ?_⟩
        refine wm_c ⟨(wk_L_law_L_law_r16 _ (wm_4 wm_h)), ?_⟩
        refine wm_c ⟨(wk_L_law_L_law_r16 _ (wm_4 (wm_1 wm_h))), ?_⟩
        refine wm_c ⟨(wk_L_law_L_law_r16 _ (wm_4 (wm_2 wm_h))), ?_⟩
        exact wm_n
  · exact wk_L_law_X80
set_option maxRecDepth 20000 in
theorem gL_law_X8_log : GoodIn wsL_law (wsV RL 68 RX8 yX8_log wsX8_log) := by
  refine goodIn_app (goodIn_sub ?_ ?_) ggL_law_X8_log
  · exact wm_c ⟨(wk_L_law_L_law_r21 _ (wm_8 (wm_4 (wm_2 wm_h)))), wm_c ⟨(wk_L_law_L_law_r21 _ (wm_8 (wm_4 (wm_2 (wm_1 wm_h))))), wm_c ⟨(wk_L_law_L_law_r21 _ (wm_16 wm_h)), wm_c ⟨(wk_L_law_L_law_r1 _ (wm_4 (wm_1 wm_h))), wm_n⟩⟩⟩⟩
  · decide +kernel
set_option maxRecDepth 20000 in
theorem ggL_law_X7_inverse : GoodIn wsL_law wsX7_inverse := by
  refine goodIn_sub ?_ gd_X7_inverse
  unfold wsX7_inverse
  refine wm_c ⟨(wk_L_law_L_law_r21 _ (wm_16 (wm_4 (wm_1 wm_h)))), ?_⟩
  refine wm_a ⟨?_, ?_⟩
  · refine wm_a ⟨?_, ?_⟩
    · refine wm_a ⟨?_, ?_⟩
      · unfold wsX7_inverse_r1
        refine wm_c ⟨(wk_L_law_L_law_r1 _ (wm_16 (wm_4 (wm_2 (wm_1 wm_h))))), ?_⟩
        refine wm_c ⟨(wk_L_law_L_law_r2 _ (wm_2 (wm_1 wm_h))), ?_⟩
        refine wm_c ⟨(wk_L_law_L_law_r11 _ (wm_16 (wm_1 wm_h))), ?_⟩
        refine wm_c ⟨(wk_L_law_L_law_r11 _ (wm_16 (wm_2 wm_h))), ?_⟩
        refine wm_c ⟨(wk_L_law_L_law_r1 _ (wm_2 wm_h)), ?_⟩
        refine wm_c ⟨(wk_L_law_L_law_r11 _ (wm_16 (wm_2 (wm_1 wm_h)))), ?_⟩
        refine wm_c ⟨(wk_L_law_L_law_r21 _ (wm_16 (wm_4 (wm_2 wm_h)))), ?_⟩
        refine wm_c ⟨(wk_L_law_L_law_r21 _ (wm_16 (wm_4 (wm_2 (wm_1 wm_h))))), ?_⟩
        refine wm_c ⟨(wk_L_law_L_law_r22 _ wm_h), ?_⟩
        refine wm_c ⟨(wk_L_law_L_law_r2 _ (wm_2 wm_h)), ?_⟩
        refine wm_c ⟨(wk_L_law_L_law_r22 _ (wm_1 wm_h)), ?_⟩
        refine wm_c ⟨(wk_L_law_L_law_r4 _ (wm_4 (wm_1 wm_h))), ?_⟩
        refine wm_c ⟨(wk_L_law_L_law_r4 _ (wm_4 (wm_2 wm_h))), ?_⟩
        refine wm_c ⟨(wk_L_law_L_law_r4 _ (wm_4 (wm_2 (wm_1 wm_h)))), ?_⟩
        refine wm_c ⟨(wk_L_law_L_law_r3 _ (wm_16 (wm_2 wm_h))), ?_⟩
        refine wm_c ⟨(wk_L_law_L_law_r17 _ (wm_16 (wm_4 (wm_2 wm_h)))), ?_⟩
        refine wm_c ⟨(wk_L_law_L_law_r16 _ (wm_16 (wm_4 (wm_1 wm_h)))), ?_⟩
        refine wm_c ⟨(wk_L_law_L_law_r16 _ (wm_16 (wm_4 (wm_2 wm_h)))), ?_⟩
        refine wm_c ⟨(wk_L_law_L_law_r16 _ (wm_16 (wm_4 (wm_2 (wm_1 wm_h))))), ?_⟩
        refine wm_c ⟨(wk_L_law_L_law_r17 _ wm_h), ?_⟩
        refine wm_c ⟨(wk_L_law_L_law_r17 _ (wm_1 wm_h)), ?_⟩
        refine wm_c ⟨(wk_L_law_L_law_r6 _ (wm_8 (wm_4 (wm_2 wm_h)))), ?_⟩
        refine wm_c ⟨(wk_L_law_L_law_r6 _ (wm_8 (wm_4 (wm_2 (wm_1 wm_h))))), ?_⟩
        refine wm_c ⟨(wk_L_law_L_law_r6 _ (wm_16 wm_h)), ?_⟩
        exact wm_n
      · unfold wsX7_inverse_r2
        refine wm_c ⟨(wk_L_law_L_law_r20 _ (wm_8 (wm_2 wm_h))), ?_⟩
        refine wm_c ⟨(wk_L_law_L_law_r20 _ (wm_8 (wm_2 (wm_1 wm_h)))), ?_⟩
        refine wm_c ⟨(wk_L_law_L_law_r20 _ (wm_8 (wm_4 wm_h))), ?_⟩
        refine wm_c ⟨(wk_L_law_L_law_r20 _ (wm_8 (wm_4 (wm_1 wm_h)))), ?_⟩
        refine wm_c ⟨(wk_L_law_L_law_r16 _ (wm_8 (wm_4 (wm_2 (wm_1 wm_h))))), ?_⟩
        refine wm_c ⟨(wk_L_law_L_law_r11 _ (wm_16 (wm_4 (wm_1 wm_h)))), ?_⟩
        refine wm_c ⟨(wk_L_law_L_law_r6 _ (wm_1 wm_h)), ?_⟩
        refine wm_c ⟨(wk_L_law_L_law_r11 _ (wm_16 (wm_4 (wm_2 wm_h)))), ?_⟩
        refine wm_c ⟨(wk_L_law_L_law_r16 _ (wm_16 wm_h)), ?_⟩
        refine wm_c ⟨(wk_L_law_L_law_r16 _ (wm_16 (wm_1 wm_h))), ?_⟩
        refine wm_c ⟨(wk_L_law_L_law_r16 _ (wm_16 (wm_2 wm_h))), ?_⟩
        refine wm_c ⟨(wk_L_law_L_law_r16 _ (wm_16 (wm_2 (wm_1 wm_h)))), ?_⟩
        refine wm_c ⟨(wk_L_law_L_law_r3 _ (wm_16 (wm_4 (wm_2 wm_h)))), ?_⟩
        refine wm_c ⟨(wk_L_law_L_law_r4 _ wm_h), ?_⟩
        refine wm_c ⟨(wk_L_law_L_law_r16 _ (wm_16 (wm_4 wm_h))), ?_⟩
        exact wm_n
    · exact wk_L_law_X70
  · exact wk_L_law_X00
set_option maxRecDepth 20000 in
theorem gL_law_X7_inverse : GoodIn wsL_law (wsV RL 69 RX7 yX7_inverse wsX7_inverse) := by
  refine goodIn_app (goodIn_sub ?_ ?_) ggL_law_X7_inverse
  · exact wm_c ⟨(wk_L_law_L_law_r21 _ (wm_16 (wm_2 wm_h))), wm_c ⟨(wk_L_law_L_law_r21 _ (wm_16 (wm_2 (wm_1 wm_h)))), wm_c ⟨(wk_L_law_L_law_r21 _ (wm_16 (wm_4 wm_h))), wm_c ⟨(wk_L_law_L_law_r1 _ (wm_2 wm_h)), wm_n⟩⟩⟩⟩
  · decide +kernel
set_option maxRecDepth 20000 in
theorem ggL_law_X8_inverse : GoodIn wsL_law wsX8_inverse := by
  refine goodIn_sub ?_ gd_X8_inverse
  unfold wsX8_inverse
  refine wm_c ⟨(wk_L_law_L_law_r22 _ (wm_4 (wm_1 wm_h))), ?_⟩
  refine wm_a ⟨?_, ?_⟩
  · refine wm_a ⟨?_, ?_⟩
    · unfold wsX8_inverse_r1
      refine wm_c ⟨(wk_L_law_L_law_r20 _ (wm_16 (wm_2 wm_h))), ?_⟩
      refine wm_c ⟨(wk_L_law_L_law_r20 _ (wm_16 (wm_2 (wm_1 wm_h)))), ?_⟩
      refine wm_c ⟨(wk_L_law_L_law_r20 _ (wm_16 (wm_4 wm_h))), ?_⟩
      refine wm_c ⟨(wk_L_law_L_law_r1 _ (wm_4 (wm_1 wm_h))), ?_⟩
      refine wm_c ⟨(wk_L_law_L_law_r20 _ (wm_16 (wm_4 (wm_1 wm_h)))), ?_⟩
      refine wm_c ⟨(wk_L_law_L_law_r9 _ (wm_2 wm_h)), ?_⟩
      refine wm_c ⟨(wk_L_law_L_law_r12 _ (wm_2 (wm_1 wm_h))), ?_⟩
      refine wm_c ⟨(wk_L_law_L_law_r12 _ (wm_4 wm_h)), ?_⟩
      refine wm_c ⟨(wk_L_law_L_law_r12 _ (wm_4 (wm_1 wm_h))), ?_⟩
      refine wm_c ⟨(wk_L_law_L_law_r12 _ (wm_4 (wm_2 wm_h))), ?_⟩
      refine wm_c ⟨(wk_L_law_L_law_r12 _ (wm_4 (wm_2 (wm_1 wm_h)))), ?_⟩
      refine wm_c ⟨(wk_L_law_L_law_r12 _ (wm_8 wm_h)), ?_⟩
      refine wm_c ⟨(wk_L_law_L_law_r12 _ (wm_8 (wm_1 wm_h))), ?_⟩
      refine wm_c ⟨(wk_L_law_L_law_r20 _ (wm_16 (wm_4 (wm_2 wm_h)))), ?_⟩
      refine wm_c ⟨(wk_L_law_L_law_r20 _ (wm_16 (wm_4 (wm_2 (wm_1 wm_h))))), ?_⟩
      refine wm_c ⟨(wk_L_law_L_law_r21 _ wm_h), ?_⟩
      refine wm_c ⟨(wk_L_law_L_law_r21 _ (wm_1 wm_h)), ?_⟩
      refine wm_c ⟨(wk_L_law_L_law_r9 _ (wm_16 (wm_4 (wm_2 (wm_1 wm_h))))), ?_⟩
      refine wm_c ⟨(wk_L_law_L_law_r11 _ (wm_8 (wm_1 wm_h))), ?_⟩
      refine wm_c ⟨(wk_L_law_L_law_r15 _ (wm_16 (wm_4 (wm_2 (wm_1 wm_h))))), ?_⟩
      refine wm_c ⟨(wk_L_law_L_law_r16 _ wm_h), ?_⟩
      refine wm_c ⟨(wk_L_law_L_law_r16 _ (wm_1 wm_h)), ?_⟩
      refine wm_c ⟨(wk_L_law_L_law_r16 _ (wm_2 wm_h)), ?_⟩
      refine wm_c ⟨(wk_L_law_L_law_r10 _ wm_h), ?_⟩
      exact wm_n
    · refine wm_a ⟨?_, ?_⟩
      · unfold wsX8_inverse_r2
        refine wm_c ⟨(wk_L_law_L_law_r21 _ (wm_2 wm_h)), ?_⟩
        refine wm_c ⟨(wk_L_law_L_law_r21 _ (wm_2 (wm_1 wm_h))), ?_⟩
        refine wm_c ⟨(wk_L_law_L_law_r21 _ (wm_4 wm_h)), ?_⟩
        refine wm_c ⟨(wk_L_law_L_law_r21 _ (wm_4 (wm_1 wm_h))), ?_⟩
        refine wm_c ⟨(wk_L_law_L_law_r12 _ (wm_8 (wm_2 wm_h))), ?_⟩
        refine wm_c ⟨(wk_L_law_L_law_r12 _ (wm_8 (wm_2 (wm_1 wm_h)))), ?_⟩
        refine wm_c ⟨(wk_L_law_L_law_r12 _ (wm_8 (wm_4 wm_h))), ?_⟩
        refine wm_c ⟨(wk_L_law_L_law_r12 _ (wm_8 (wm_4 (wm_1 wm_h)))), ?_⟩
        refine wm_c ⟨(wk_L_law_L_law_r17 _ (wm_8 (wm_2 wm_h))), ?_⟩
        refine wm_c ⟨(wk_L_law_L_law_r17 _ (wm_8 (wm_2 (wm_1 wm_h)))), ?_⟩
        refine wm_c ⟨(wk_L_law_L_law_r17 _ (wm_8 (wm_4 wm_h))), ?_⟩
        refine wm_c ⟨(wk_L_law_L_law_r17 _ (wm_8 (wm_4 (wm_1 wm_h)))), ?_⟩
        refine wm_c ⟨(wk_L_law_L_law_r9 _ wm_h), ?_⟩
        refine wm_c ⟨(wk_L_law_L_law_r11 _ (wm_1 wm_h)), ?_⟩
        refine wm_c ⟨(wk_L_law_L_law_r11 _ (wm_2 wm_h)), ?_⟩
        refine wm_c ⟨(wk_L_law_L_law_r11 _ (wm_2 (wm_1 wm_h))), ?_⟩
        refine wm_c ⟨(wk_L_law_L_law_r11 _ (wm_4 wm_h)), ?_⟩
        refine wm_c ⟨(wk_L_law_L_law_r8 _ (wm_16 (wm_4 (wm_2 (wm_1 wm_h))))), ?_⟩
        refine wm_c ⟨(wk_L_law_L_law_r8 _ (wm_16 (wm_4 (wm_2 wm_h)))), ?_⟩
        refine wm_c ⟨(wk_L_law_L_law_r10 _ (wm_8 wm_h)), ?_⟩
        refine wm_c ⟨(wk_L_law_L_law_r10 _ (wm_8 (wm_1 wm_h))), ?_⟩
        refine wm_c ⟨(wk_L_law_L_law_r10 _ (wm_8 (wm_2 wm_h))), ?_⟩
        refine wm_c ⟨(wk_L_law_L_law_r10 _ (wm_8 (wm_2 (wm_1 wm_h)))), ?_⟩
        refine wm_c ⟨(wk_L_law_L_law_r13 _ (wm_16 (wm_4 (wm_2 (wm_1 wm_h))))), ?_⟩
        exact wm_n
      · unfold wsX8_inverse_r3
        refine wm_c ⟨(wk_L_law_L_law_r14 _ wm_h), ?_⟩
        refine wm_c ⟨(wk_L_law_L_law_r14 _ (wm_1 wm_h)), ?_⟩
        refine wm_c ⟨(wk_L_law_L_law_r14 _ (wm_2 wm_h)), ?_⟩
        refine wm_c ⟨(wk_L_law_L_law_r16 _ (wm_2 (wm_1 wm_h))), ?_⟩
        refine wm_c ⟨(wk_L_law_L_law_r16 _ (wm_4 wm_h)), ?_⟩
        refine wm_c ⟨(wk_L_law_L_law_r16 _ (wm_4 (wm_1 wm_h))), ?_⟩
        refine wm_c ⟨(wk_L_law_L_law_r16 _ (wm_4 (wm_2 wm_h))), ?_⟩
        exact wm_n
  · exact wk_L_law_X80
set_option maxRecDepth 20000 in
theorem gL_law_X8_inverse : GoodIn wsL_law (wsV RL 72 RX8 yX8_inverse wsX8_inverse) := by
  refine goodIn_app (goodIn_sub ?_ ?_) ggL_law_X8_inverse
  · exact wm_c ⟨(wk_L_law_L_law_r22 _ (wm_2 wm_h)), wm_c ⟨(wk_L_law_L_law_r22 _ (wm_2 (wm_1 wm_h))), wm_c ⟨(wk_L_law_L_law_r22 _ (wm_4 wm_h)), wm_c ⟨(wk_L_law_L_law_r1 _ (wm_4 (wm_1 wm_h))), wm_n⟩⟩⟩⟩
  · decide +kernel
set_option maxRecDepth 20000 in
theorem ggL_law_X7_group : GoodIn wsL_law wsX7_group := by
  refine goodIn_sub ?_ gd_X7_group
  unfold wsX7_group
  refine wm_c ⟨(wk_L_law_L_law_r22 _ (wm_8 (wm_1 wm_h))), ?_⟩
  refine wm_a ⟨?_, ?_⟩
  · refine wm_a ⟨?_, ?_⟩
    · refine wm_a ⟨?_, ?_⟩
      · unfold wsX7_group_r1
        refine wm_c ⟨(wk_L_law_L_law_r1 _ (wm_16 (wm_4 (wm_2 (wm_1 wm_h))))), ?_⟩
        refine wm_c ⟨(wk_L_law_L_law_r2 _ (wm_2 (wm_1 wm_h))), ?_⟩
        refine wm_c ⟨(wk_L_law_L_law_r11 _ (wm_16 (wm_1 wm_h))), ?_⟩
        refine wm_c ⟨(wk_L_law_L_law_r11 _ (wm_16 (wm_2 wm_h))), ?_⟩
        refine wm_c ⟨(wk_L_law_L_law_r1 _ (wm_2 wm_h)), ?_⟩
        refine wm_c ⟨(wk_L_law_L_law_r11 _ (wm_16 (wm_2 (wm_1 wm_h)))), ?_⟩
        refine wm_c ⟨(wk_L_law_L_law_r22 _ (wm_8 (wm_2 wm_h))), ?_⟩
        refine wm_c ⟨(wk_L_law_L_law_r22 _ (wm_8 (wm_2 (wm_1 wm_h)))), ?_⟩
        refine wm_c ⟨(wk_L_law_L_law_r22 _ (wm_8 (wm_4 wm_h))), ?_⟩
        refine wm_c ⟨(wk_L_law_L_law_r2 _ (wm_2 wm_h)), ?_⟩
        refine wm_c ⟨(wk_L_law_L_law_r22 _ (wm_8 (wm_4 (wm_1 wm_h)))), ?_⟩
        refine wm_c ⟨(wk_L_law_L_law_r4 _ (wm_2 (wm_1 wm_h))), ?_⟩
        refine wm_c ⟨(wk_L_law_L_law_r22 _ (wm_8 (wm_4 (wm_2 wm_h)))), ?_⟩
        refine wm_c ⟨(wk_L_law_L_law_r20 _ (wm_4 (wm_2 (wm_1 wm_h)))), ?_⟩
        refine wm_c ⟨(wk_L_law_L_law_r20 _ (wm_8 wm_h)), ?_⟩
        refine wm_c ⟨(wk_L_law_L_law_r20 _ (wm_8 (wm_1 wm_h))), ?_⟩
        refine wm_c ⟨(wk_L_law_L_law_r4 _ (wm_4 (wm_2 wm_h))), ?_⟩
        refine wm_c ⟨(wk_L_law_L_law_r4 _ (wm_4 (wm_2 (wm_1 wm_h)))), ?_⟩
        refine wm_c ⟨(wk_L_law_L_law_r3 _ (wm_16 (wm_2 wm_h))), ?_⟩
        refine wm_c ⟨(wk_L_law_L_law_r4 _ (wm_1 wm_h)), ?_⟩
        refine wm_c ⟨(wk_L_law_L_law_r20 _ (wm_8 (wm_2 wm_h))), ?_⟩
        refine wm_c ⟨(wk_L_law_L_law_r20 _ (wm_8 (wm_2 (wm_1 wm_h)))), ?_⟩
        refine wm_c ⟨(wk_L_law_L_law_r20 _ (wm_8 (wm_4 wm_h))), ?_⟩
        refine wm_c ⟨(wk_L_law_L_law_r20 _ (wm_8 (wm_4 (wm_1 wm_h)))), ?_⟩
        exact wm_n
      · refine wm_a ⟨?_, ?_⟩
        · unfold wsX7_group_r2
          refine wm_c ⟨(wk_L_law_L_law_r16 _ (wm_8 (wm_4 (wm_2 (wm_1 wm_h))))), ?_⟩
          refine wm_c ⟨(wk_L_law_L_law_r11 _ (wm_16 (wm_4 (wm_1 wm_h)))), ?_⟩
          refine wm_c ⟨(wk_L_law_L_law_r6 _ (wm_1 wm_h)), ?_⟩
          refine wm_c ⟨(wk_L_law_L_law_r11 _ (wm_16 (wm_4 (wm_2 wm_h)))), ?_⟩
          refine wm_c ⟨(wk_L_law_L_law_r16 _ (wm_16 wm_h)), ?_⟩
          refine wm_c ⟨(wk_L_law_L_law_r16 _ (wm_16 (wm_1 wm_h))), ?_⟩
          refine wm_c ⟨(wk_L_law_L_law_r16 _ (wm_16 (wm_2 wm_h))), ?_⟩
          refine wm_c ⟨(wk_L_law_L_law_r16 _ (wm_16 (wm_2 (wm_1 wm_h)))), ?_⟩
          refine wm_c ⟨(wk_L_law_L_law_r3 _ (wm_16 (wm_4 (wm_2 wm_h)))), ?_⟩
          refine wm_c ⟨(wk_L_law_L_law_r4 _ wm_h), ?_⟩
          refine wm_c ⟨(wk_L_law_L_law_r16 _ (wm_16 (wm_4 wm_h))), ?_⟩
          refine wm_c ⟨(wk_L_law_L_law_r16 _ (wm_16 (wm_4 (wm_1 wm_h)))), ?_⟩
          refine wm_c ⟨(wk_L_law_L_law_r16 _ (wm_16 (wm_4 (wm_2 wm_h)))), ?_⟩
          refine wm_c ⟨(wk_L_law_L_law_r16 _ (wm_16 (wm_4 (wm_2 (wm_1 wm_h))))), ?_⟩
          refine wm_c ⟨(wk_L_law_L_law_r17 _ wm_h), ?_⟩
          refine wm_c ⟨(wk_L_law_L_law_r17 _ (wm_1 wm_h)), ?_⟩
          refine wm_c ⟨(wk_L_law_L_law_r6 _ (wm_8 (wm_4 (wm_2 wm_h)))), ?_⟩
          refine wm_c ⟨(wk_L_law_L_law_r6 _ (wm_8 (wm_4 (wm_2 (wm_1 wm_h))))), ?_⟩
          refine wm_c ⟨(wk_L_law_L_law_r6 _ (wm_16 wm_h)), ?_⟩
          refine wm_c ⟨(wk_L_law_L_law_r22 _ (wm_8 (wm_4 (wm_2 (wm_1 wm_h))))), ?_⟩
          refine wm_c ⟨(wk_L_law_L_law_r16 _ (wm_8 (wm_4 wm_h))), ?_⟩
          refine wm_c ⟨(wk_L_law_L_law_r16 _ (wm_8 (wm_4 (wm_1 wm_h)))), ?_⟩
          refine wm_c ⟨(wk_L_law_L_law_r16 _ (wm_8 (wm_4 (wm_2 wm_h)))), ?_⟩
          refine wm_c ⟨(wk_L_law_L_law_r4 _ (wm_4 wm_h)), ?_⟩
          exact wm_n
        · unfold wsX7_group_r3
          refine wm_c ⟨(wk_L_law_L_law_r22 _ (wm_16 wm_h)), ?_⟩
          refine wm_c ⟨(wk_L_law_L_law_r21 _ (wm_8 (wm_2 (wm_1 wm_h)))), ?_⟩
          refine wm_c ⟨(wk_L_law_L_law_r21 _ (wm_8 (wm_4 wm_h))), ?_⟩
          refine wm_c ⟨(wk_L_law_L_law_r21 _ (wm_8 (wm_4 (wm_1 wm_h)))), ?_⟩
          refine wm_c ⟨(wk_L_law_L_law_r4 _ (wm_4 (wm_1 wm_h))), ?_⟩
          refine wm_c ⟨(wk_L_law_L_law_r17 _ (wm_16 (wm_4 (wm_2 wm_h)))), ?_⟩
          exact wm_n
    · exact wk_L_law_X70
  · exact wk_L_law_X00
set_option maxRecDepth 20000 in
theorem gL_law_X7_group : GoodIn wsL_law (wsV RL 73 RX7 yX7_group wsX7_group) := by
  refine goodIn_app (goodIn_sub ?_ ?_) ggL_law_X7_group
  · exact wm_c ⟨(wk_L_law_L_law_r22 _ (wm_4 (wm_2 wm_h))), wm_c ⟨(wk_L_law_L_law_r22 _ (wm_4 (wm_2 (wm_1 wm_h)))), wm_c ⟨(wk_L_law_L_law_r22 _ (wm_8 wm_h)), wm_c ⟨(wk_L_law_L_law_r1 _ (wm_2 wm_h)), wm_n⟩⟩⟩⟩
  · decide +kernel
set_option maxRecDepth 20000 in
theorem ggL_law_X8_group : GoodIn wsL_law wsX8_group := by
  refine goodIn_sub ?_ gd_X8_group
  unfold wsX8_group
  refine wm_c ⟨(wk_L_law_L_law_r22 _ (wm_16 (wm_4 wm_h))), ?_⟩
  refine wm_a ⟨?_, ?_⟩
  · refine wm_a ⟨?_, ?_⟩
    · unfold wsX8_group_r1
      refine wm_c ⟨(wk_L_law_L_law_r9 _ (wm_2 wm_h)), ?_⟩
      refine wm_c ⟨(wk_L_law_L_law_r17 _ (wm_4 (wm_2 wm_h))), ?_⟩
      refine wm_c ⟨(wk_L_law_L_law_r17 _ (wm_4 (wm_2 (wm_1 wm_h)))), ?_⟩
      refine wm_c ⟨(wk_L_law_L_law_r17 _ (wm_8 wm_h)), ?_⟩
      refine wm_c ⟨(wk_L_law_L_law_r1 _ (wm_4 (wm_1 wm_h))), ?_⟩
      refine wm_c ⟨(wk_L_law_L_law_r17 _ (wm_8 (wm_1 wm_h))), ?_⟩
      refine wm_c ⟨(wk_L_law_L_law_r12 _ (wm_2 (wm_1 wm_h))), ?_⟩
      refine wm_c ⟨(wk_L_law_L_law_r12 _ (wm_4 wm_h)), ?_⟩
      refine wm_c ⟨(wk_L_law_L_law_r12 _ (wm_4 (wm_1 wm_h))), ?_⟩
      refine wm_c ⟨(wk_L_law_L_law_r12 _ (wm_4 (wm_2 wm_h))), ?_⟩
      refine wm_c ⟨(wk_L_law_L_law_r12 _ (wm_4 (wm_2 (wm_1 wm_h)))), ?_⟩
      refine wm_c ⟨(wk_L_law_L_law_r12 _ (wm_8 wm_h)), ?_⟩
      refine wm_c ⟨(wk_L_law_L_law_r12 _ (wm_8 (wm_1 wm_h))), ?_⟩
      refine wm_c ⟨(wk_L_law_L_law_r20 _ (wm_16 (wm_4 (wm_2 wm_h)))), ?_⟩
      refine wm_c ⟨(wk_L_law_L_law_r20 _ (wm_16 (wm_4 (wm_2 (wm_1 wm_h))))), ?_⟩
      refine wm_c ⟨(wk_L_law_L_law_r21 _ wm_h), ?_⟩
      refine wm_c ⟨(wk_L_law_L_law_r21 _ (wm_1 wm_h)), ?_⟩
      refine wm_c ⟨(wk_L_law_L_law_r9 _ (wm_16 (wm_4 (wm_2 (wm_1 wm_h))))), ?_⟩
      refine wm_c ⟨(wk_L_law_L_law_r11 _ (wm_8 (wm_1 wm_h))), ?_⟩
      refine wm_c ⟨(wk_L_law_L_law_r15 _ (wm_16 (wm_4 (wm_2 (wm_1 wm_h))))), ?_⟩
      refine wm_c ⟨(wk_L_law_L_law_r16 _ wm_h), ?_⟩
      refine wm_c ⟨(wk_L_law_L_law_r16 _ (wm_1 wm_h)), ?_⟩
      refine wm_c ⟨(wk_L_law_L_law_r16 _ (wm_2 wm_h)), ?_⟩
      refine wm_c ⟨(wk_L_law_L_law_r10 _ wm_h), ?_⟩
      exact wm_n
    · refine wm_a ⟨?_, ?_⟩
      · unfold wsX8_group_r2
        refine wm_c ⟨(wk_L_law_L_law_r21 _ (wm_2 wm_h)), ?_⟩
        refine wm_c ⟨(wk_L_law_L_law_r21 _ (wm_2 (wm_1 wm_h))), ?_⟩
        refine wm_c ⟨(wk_L_law_L_law_r21 _ (wm_4 wm_h)), ?_⟩
        refine wm_c ⟨(wk_L_law_L_law_r21 _ (wm_4 (wm_1 wm_h))), ?_⟩
        refine wm_c ⟨(wk_L_law_L_law_r12 _ (wm_8 (wm_2 wm_h))), ?_⟩
        refine wm_c ⟨(wk_L_law_L_law_r12 _ (wm_8 (wm_2 (wm_1 wm_h)))), ?_⟩
        refine wm_c ⟨(wk_L_law_L_law_r12 _ (wm_8 (wm_4 wm_h))), ?_⟩
        refine wm_c ⟨(wk_L_law_L_law_r12 _ (wm_8 (wm_4 (wm_1 wm_h)))), ?_⟩
        refine wm_c ⟨(wk_L_law_L_law_r17 _ (wm_8 (wm_2 wm_h))), ?_⟩
        refine wm_c ⟨(wk_L_law_L_law_r17 _ (wm_8 (wm_2 (wm_1 wm_h)))), ?_⟩
        refine wm_c ⟨(wk_L_law_L_law_r17 _ (wm_8 (wm_4 wm_h))), ?_⟩
        refine wm_c ⟨(wk_L_law_L_law_r17 _ (wm_8 (wm_4 (wm_1 wm_h)))), ?_⟩
        refine wm_c ⟨(wk_L_law_L_law_r9 _ wm_h), ?_⟩
        refine wm_c ⟨(wk_L_law_L_law_r11 _ (wm_1 wm_h)), ?_⟩
        refine wm_c ⟨(wk_L_law_L_law_r11 _ (wm_2 wm_h)), ?_⟩
        refine wm_c ⟨(wk_L_law_L_law_r11 _ (wm_2 (wm_1 wm_h))), ?_⟩
        refine wm_c ⟨(wk_L_law_L_law_r11 _ (wm_4 wm_h)), ?_⟩
        refine wm_c ⟨(wk_L_law_L_law_r8 _ (wm_16 (wm_4 (wm_2 (wm_1 wm_h))))), ?_⟩
        refine wm_c ⟨(wk_L_law_L_law_r8 _ (wm_16 (wm_4 (wm_2 wm_h)))), ?_⟩
        refine wm_c ⟨(wk_L_law_L_law_r10 _ (wm_8 wm_h)), ?_⟩
        refine wm_c ⟨(wk_L_law_L_law_r10 _ (wm_8 (wm_1 wm_h))), ?_⟩
        refine wm_c ⟨(wk_L_law_L_law_r10 _ (wm_8 (wm_2 wm_h))), ?_⟩
        refine wm_c ⟨(wk_L_law_L_law_r10 _ (wm_8 (wm_2 (wm_1 wm_h)))), ?_⟩
        refine wm_c ⟨(wk_L_law_L_law_r13 _ (wm_16 (wm_4 (wm_2 (wm_1 wm_h))))), ?_⟩
        exact wm_n
      · unfold wsX8_group_r3
        refine wm_c ⟨(wk_L_law_L_law_r14 _ wm_h), ?_⟩
        refine wm_c ⟨(wk_L_law_L_law_r14 _ (wm_1 wm_h)), ?_⟩
        refine wm_c ⟨(wk_L_law_L_law_r14 _ (wm_2 wm_h)), ?_⟩
        refine wm_c ⟨(wk_L_law_L_law_r16 _ (wm_2 (wm_1 wm_h))), ?_⟩
        refine wm_c ⟨(wk_L_law_L_law_r16 _ (wm_4 wm_h)), ?_⟩
        refine wm_c ⟨(wk_L_law_L_law_r16 _ (wm_4 (wm_1 wm_h))), ?_⟩
        refine wm_c ⟨(wk_L_law_L_law_r16 _ (wm_4 (wm_2 wm_h))), ?_⟩
        exact wm_n
  · exact wk_L_law_X80
set_option maxRecDepth 20000 in
theorem gL_law_X8_group : GoodIn wsL_law (wsV RL 76 RX8 yX8_group wsX8_group) := by
  refine goodIn_app (goodIn_sub ?_ ?_) ggL_law_X8_group
  · exact wm_c ⟨(wk_L_law_L_law_r22 _ (wm_16 (wm_1 wm_h))), wm_c ⟨(wk_L_law_L_law_r22 _ (wm_16 (wm_2 wm_h))), wm_c ⟨(wk_L_law_L_law_r22 _ (wm_16 (wm_2 (wm_1 wm_h)))), wm_c ⟨(wk_L_law_L_law_r1 _ (wm_4 (wm_1 wm_h))), wm_n⟩⟩⟩⟩
  · decide +kernel
set_option maxRecDepth 20000 in
theorem ggL_law_X7_derive : GoodIn wsL_law wsX7_derive := by
  refine goodIn_sub ?_ gd_X7_derive
  unfold wsX7_derive
  refine wm_c ⟨(wk_L_law_L_law_r23 _ wm_h), ?_⟩
  refine wm_a ⟨?_, ?_⟩
  · refine wm_a ⟨?_, ?_⟩
    · refine wm_a ⟨?_, ?_⟩
      · refine wm_a ⟨?_, ?_⟩
        · unfold wsX7_derive_r1
          refine wm_c ⟨(wk_L_law_L_law_r2 _ (wm_2 (wm_1 wm_h))), ?_⟩
          refine wm_c ⟨(wk_L_law_L_law_r1 _ (wm_16 (wm_4 (wm_2 (wm_1 wm_h))))), ?_⟩
          refine wm_c ⟨(wk_L_law_L_law_r11 _ (wm_16 (wm_1 wm_h))), ?_⟩
          refine wm_c ⟨(wk_L_law_L_law_r11 _ (wm_16 (wm_2 wm_h))), ?_⟩
          refine wm_c ⟨(wk_L_law_L_law_r1 _ (wm_2 wm_h)), ?_⟩
          refine wm_c ⟨(wk_L_law_L_law_r11 _ (wm_16 (wm_2 (wm_1 wm_h)))), ?_⟩
          refine wm_c ⟨(wk_L_law_L_law_r23 _ (wm_1 wm_h)), ?_⟩
          refine wm_c ⟨(wk_L_law_L_law_r23 _ (wm_2 wm_h)), ?_⟩
          refine wm_c ⟨(wk_L_law_L_law_r23 _ (wm_2 (wm_1 wm_h))), ?_⟩
          refine wm_c ⟨(wk_L_law_L_law_r23 _ (wm_4 wm_h)), ?_⟩
          refine wm_c ⟨(wk_L_law_L_law_r1 _ (wm_16 (wm_4 wm_h))), ?_⟩
          refine wm_c ⟨(wk_L_law_L_law_r23 _ (wm_4 (wm_1 wm_h))), ?_⟩
          refine wm_c ⟨(wk_L_law_L_law_r23 _ (wm_4 (wm_2 wm_h))), ?_⟩
          refine wm_c ⟨(wk_L_law_L_law_r23 _ (wm_4 (wm_2 (wm_1 wm_h)))), ?_⟩
          refine wm_c ⟨(wk_L_law_L_law_r23 _ (wm_8 wm_h)), ?_⟩
          refine wm_c ⟨(wk_L_law_L_law_r2 _ (wm_2 wm_h)), ?_⟩
          refine wm_c ⟨(wk_L_law_L_law_r23 _ (wm_8 (wm_1 wm_h))), ?_⟩
          refine wm_c ⟨(wk_L_law_L_law_r4 _ (wm_4 wm_h)), ?_⟩
          refine wm_c ⟨(wk_L_law_L_law_r3 _ (wm_16 (wm_2 wm_h))), ?_⟩
          refine wm_c ⟨(wk_L_law_L_law_r3 _ (wm_16 (wm_4 (wm_2 wm_h)))), ?_⟩
          refine wm_c ⟨(wk_L_law_L_law_r4 _ wm_h), ?_⟩
          refine wm_c ⟨(wk_L_law_L_law_r3 _ (wm_16 (wm_4 wm_h))), ?_⟩
          refine wm_c ⟨(wk_L_law_L_law_r16 _ (wm_8 (wm_4 (wm_2 (wm_1 wm_h))))), ?_⟩
          refine wm_c ⟨(wk_L_law_L_law_r11 _ (wm_16 (wm_4 (wm_1 wm_h)))), ?_⟩
          exact wm_n
        · unfold wsX7_derive_r2
          refine wm_c ⟨(wk_L_law_L_law_r6 _ (wm_1 wm_h)), ?_⟩
          refine wm_c ⟨(wk_L_law_L_law_r11 _ (wm_16 (wm_4 (wm_2 wm_h)))), ?_⟩
          refine wm_c ⟨(wk_L_law_L_law_r23 _ (wm_8 (wm_2 wm_h))), ?_⟩
          refine wm_c ⟨(wk_L_law_L_law_r23 _ (wm_8 (wm_2 (wm_1 wm_h)))), ?_⟩
          refine wm_c ⟨(wk_L_law_L_law_r23 _ (wm_8 (wm_4 wm_h))), ?_⟩
          refine wm_c ⟨(wk_L_law_L_law_r23 _ (wm_8 (wm_4 (wm_1 wm_h)))), ?_⟩
          refine wm_c ⟨(wk_L_law_L_law_r15 _ (wm_16 wm_h)), ?_⟩
          refine wm_c ⟨(wk_L_law_L_law_r15 _ (wm_16 (wm_1 wm_h))), ?_⟩
          refine wm_c ⟨(wk_L_law_L_law_r4 _ (wm_8 (wm_2 wm_h))), ?_⟩
          refine wm_c ⟨(wk_L_law_L_law_r15 _ (wm_16 (wm_2 wm_h))), ?_⟩
          refine wm_c ⟨(wk_L_law_L_law_r4 _ (wm_16 wm_h)), ?_⟩
          refine wm_c ⟨(wk_L_law_L_law_r16 _ (wm_16 (wm_4 (wm_1 wm_h)))), ?_⟩
          refine wm_c ⟨(wk_L_law_L_law_r16 _ (wm_16 (wm_4 (wm_2 wm_h)))), ?_⟩
          refine wm_c ⟨(wk_L_law_L_law_r16 _ (wm_16 (wm_4 (wm_2 (wm_1 wm_h))))), ?_⟩
          refine wm_c ⟨(wk_L_law_L_law_r17 _ wm_h), ?_⟩
          refine wm_c ⟨(wk_L_law_L_law_r17 _ (wm_1 wm_h)), ?_⟩
          refine wm_c ⟨(wk_L_law_L_law_r6 _ (wm_8 (wm_4 (wm_2 wm_h)))), ?_⟩
          refine wm_c ⟨(wk_L_law_L_law_r6 _ (wm_8 (wm_4 (wm_2 (wm_1 wm_h))))), ?_⟩
          refine wm_c ⟨(wk_L_law_L_law_r6 _ (wm_16 wm_h)), ?_⟩
          exact wm_n
      · exact wk_L_law_X70
    · exact wk_L_law_X60
  · exact wk_L_law_X00
