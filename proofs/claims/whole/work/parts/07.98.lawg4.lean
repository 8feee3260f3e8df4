set_option maxRecDepth 20000 in
theorem ggL_law_X7_count : GoodIn wsL_law wsX7_count := by
  refine goodIn_sub ?_ gd_X7_count
  unfold wsX7_count
  refine wm_c ⟨(wk_L_law_L_law_r46 _ (wm_4 (wm_1 wm_h))), ?_⟩
  refine wm_a ⟨?_, ?_⟩
  · refine wm_a ⟨?_, ?_⟩
    · refine wm_a ⟨?_, ?_⟩
      · refine wm_a ⟨?_, ?_⟩
        · refine wm_a ⟨?_, ?_⟩
          · refine wm_a ⟨?_, ?_⟩
            · refine wm_a ⟨?_, ?_⟩
              · unfold wsX7_count_r1
                refine wm_c ⟨(wk_L_law_L_law_r1 _ (wm_16 (wm_4 wm_h))), ?_⟩
                refine wm_c ⟨(wk_L_law_L_law_r23 _ (wm_4 (wm_1 wm_h))), ?_⟩
                refine wm_c ⟨(wk_L_law_L_law_r25 _ (wm_8 (wm_1 wm_h))), ?_⟩
                refine wm_c ⟨(wk_L_law_L_law_r2 _ (wm_4 (wm_2 (wm_1 wm_h)))), ?_⟩
                refine wm_c ⟨(wk_L_law_L_law_r2 _ (wm_8 (wm_2 (wm_1 wm_h)))), ?_⟩
                refine wm_c ⟨(wk_L_law_L_law_r33 _ (wm_16 (wm_1 wm_h))), ?_⟩
                refine wm_c ⟨(wk_L_law_L_law_r2 _ (wm_8 (wm_4 (wm_2 (wm_1 wm_h))))), ?_⟩
                refine wm_c ⟨(wk_L_law_L_law_r36 _ (wm_16 (wm_1 wm_h))), ?_⟩
                refine wm_c ⟨(wk_L_law_L_law_r2 _ (wm_16 (wm_2 (wm_1 wm_h)))), ?_⟩
                refine wm_c ⟨(wk_L_law_L_law_r39 _ (wm_4 wm_h)), ?_⟩
                refine wm_c ⟨(wk_L_law_L_law_r3 _ (wm_8 wm_h)), ?_⟩
                refine wm_c ⟨(wk_L_law_L_law_r3 _ (wm_8 (wm_1 wm_h))), ?_⟩
                refine wm_c ⟨(wk_L_law_L_law_r3 _ (wm_8 (wm_2 wm_h))), ?_⟩
                refine wm_c ⟨(wk_L_law_L_law_r1 _ (wm_16 (wm_2 (wm_1 wm_h)))), ?_⟩
                refine wm_c ⟨(wk_L_law_L_law_r3 _ (wm_8 (wm_2 (wm_1 wm_h)))), ?_⟩
                refine wm_c ⟨(wk_L_law_L_law_r3 _ (wm_4 (wm_2 (wm_1 wm_h)))), ?_⟩
                refine wm_c ⟨(wk_L_law_L_law_r3 _ (wm_4 (wm_1 wm_h))), ?_⟩
                refine wm_c ⟨(wk_L_law_L_law_r26 _ (wm_8 (wm_4 (wm_2 (wm_1 wm_h))))), ?_⟩
                refine wm_c ⟨(wk_L_law_L_law_r8 _ (wm_4 (wm_1 wm_h))), ?_⟩
                refine wm_c ⟨(wk_L_law_L_law_r8 _ (wm_4 (wm_2 wm_h))), ?_⟩
                refine wm_c ⟨(wk_L_law_L_law_r2 _ (wm_4 (wm_2 wm_h))), ?_⟩
                refine wm_c ⟨(wk_L_law_L_law_r8 _ (wm_4 (wm_2 (wm_1 wm_h)))), ?_⟩
                refine wm_c ⟨(wk_L_law_L_law_r5 _ (wm_4 wm_h)), ?_⟩
                refine wm_c ⟨(wk_L_law_L_law_r4 _ (wm_16 (wm_4 (wm_2 wm_h)))), ?_⟩
                exact wm_n
              · unfold wsX7_count_r2
                refine wm_c ⟨(wk_L_law_L_law_r5 _ (wm_2 wm_h)), ?_⟩
                exact wm_n
            · exact wk_L_law_X70
          · exact wk_L_law_X60
        · exact wk_L_law_X50
      · exact wk_L_law_X20
    · exact wk_L_law_X40
  · exact wk_L_law_X10
