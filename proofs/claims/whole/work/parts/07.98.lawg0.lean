set_option maxRecDepth 20000 in
theorem ggL_law_X7_read : GoodIn wsL_law wsX7_read := by
  refine goodIn_sub ?_ gd_X7_read
  unfold wsX7_read
  refine wm_c ⟨(wk_L_law_L_law_r39 _ (wm_16 (wm_4 (wm_1 wm_h)))), ?_⟩
  refine wm_a ⟨?_, ?_⟩
  · refine wm_a ⟨?_, ?_⟩
    · refine wm_a ⟨?_, ?_⟩
      · refine wm_a ⟨?_, ?_⟩
        · refine wm_a ⟨?_, ?_⟩
          · unfold wsX7_read_r1
            refine wm_c ⟨(wk_L_law_L_law_r2 _ (wm_16 (wm_2 (wm_1 wm_h)))), ?_⟩
            refine wm_c ⟨(wk_L_law_L_law_r1 _ (wm_16 (wm_4 (wm_2 (wm_1 wm_h))))), ?_⟩
            refine wm_c ⟨(wk_L_law_L_law_r11 _ (wm_16 (wm_1 wm_h))), ?_⟩
            refine wm_c ⟨(wk_L_law_L_law_r11 _ (wm_16 (wm_2 wm_h))), ?_⟩
            refine wm_c ⟨(wk_L_law_L_law_r1 _ (wm_2 wm_h)), ?_⟩
            refine wm_c ⟨(wk_L_law_L_law_r11 _ (wm_16 (wm_2 (wm_1 wm_h)))), ?_⟩
            refine wm_c ⟨(wk_L_law_L_law_r39 _ (wm_16 (wm_4 (wm_2 wm_h)))), ?_⟩
            refine wm_c ⟨(wk_L_law_L_law_r39 _ (wm_16 (wm_4 (wm_2 (wm_1 wm_h))))), ?_⟩
            refine wm_c ⟨(wk_L_law_L_law_r40 _ wm_h), ?_⟩
            refine wm_c ⟨(wk_L_law_L_law_r2 _ (wm_16 (wm_2 wm_h))), ?_⟩
            refine wm_c ⟨(wk_L_law_L_law_r40 _ (wm_1 wm_h)), ?_⟩
            refine wm_c ⟨(wk_L_law_L_law_r40 _ (wm_2 wm_h)), ?_⟩
            refine wm_c ⟨(wk_L_law_L_law_r40 _ (wm_2 (wm_1 wm_h))), ?_⟩
            refine wm_c ⟨(wk_L_law_L_law_r40 _ (wm_4 wm_h)), ?_⟩
            refine wm_c ⟨(wk_L_law_L_law_r39 _ (wm_8 (wm_1 wm_h))), ?_⟩
            refine wm_c ⟨(wk_L_law_L_law_r8 _ (wm_8 (wm_4 (wm_1 wm_h)))), ?_⟩
            refine wm_c ⟨(wk_L_law_L_law_r40 _ (wm_4 (wm_1 wm_h))), ?_⟩
            refine wm_c ⟨(wk_L_law_L_law_r40 _ (wm_4 (wm_2 wm_h))), ?_⟩
            refine wm_c ⟨(wk_L_law_L_law_r40 _ (wm_4 (wm_2 (wm_1 wm_h)))), ?_⟩
            refine wm_c ⟨(wk_L_law_L_law_r40 _ (wm_8 wm_h)), ?_⟩
            refine wm_c ⟨(wk_L_law_L_law_r40 _ (wm_8 (wm_1 wm_h))), ?_⟩
            refine wm_c ⟨(wk_L_law_L_law_r40 _ (wm_8 (wm_2 wm_h))), ?_⟩
            refine wm_c ⟨(wk_L_law_L_law_r40 _ (wm_8 (wm_2 (wm_1 wm_h)))), ?_⟩
            refine wm_c ⟨(wk_L_law_L_law_r40 _ (wm_8 (wm_4 wm_h))), ?_⟩
            exact wm_n
          · refine wm_a ⟨?_, ?_⟩
            · unfold wsX7_read_r2
              refine wm_c ⟨(wk_L_law_L_law_r40 _ (wm_8 (wm_4 (wm_1 wm_h)))), ?_⟩
              refine wm_c ⟨(wk_L_law_L_law_r8 _ (wm_16 wm_h)), ?_⟩
              refine wm_c ⟨(wk_L_law_L_law_r40 _ (wm_8 (wm_4 (wm_2 wm_h)))), ?_⟩
              refine wm_c ⟨(wk_L_law_L_law_r11 _ (wm_16 (wm_4 (wm_1 wm_h)))), ?_⟩
              refine wm_c ⟨(wk_L_law_L_law_r6 _ (wm_1 wm_h)), ?_⟩
              refine wm_c ⟨(wk_L_law_L_law_r11 _ (wm_16 (wm_4 (wm_2 wm_h)))), ?_⟩
              refine wm_c ⟨(wk_L_law_L_law_r40 _ (wm_8 (wm_4 (wm_2 (wm_1 wm_h))))), ?_⟩
              refine wm_c ⟨(wk_L_law_L_law_r40 _ (wm_16 wm_h)), ?_⟩
              refine wm_c ⟨(wk_L_law_L_law_r40 _ (wm_16 (wm_1 wm_h))), ?_⟩
              refine wm_c ⟨(wk_L_law_L_law_r40 _ (wm_16 (wm_2 wm_h))), ?_⟩
              refine wm_c ⟨(wk_L_law_L_law_r40 _ (wm_16 (wm_2 (wm_1 wm_h)))), ?_⟩
              refine wm_c ⟨(wk_L_law_L_law_r40 _ (wm_16 (wm_4 wm_h))), ?_⟩
              refine wm_c ⟨(wk_L_law_L_law_r40 _ (wm_16 (wm_4 (wm_1 wm_h)))), ?_⟩
              refine wm_c ⟨(wk_L_law_L_law_r40 _ (wm_16 (wm_4 (wm_2 wm_h)))), ?_⟩
              refine wm_c ⟨(wk_L_law_L_law_r15 _ (wm_8 (wm_4 (wm_1 wm_h)))), ?_⟩
              refine wm_c ⟨(wk_L_law_L_law_r15 _ (wm_8 (wm_4 (wm_2 wm_h)))), ?_⟩
              refine wm_c ⟨(wk_L_law_L_law_r2 _ (wm_2 wm_h)), ?_⟩
              refine wm_c ⟨(wk_L_law_L_law_r15 _ (wm_8 (wm_4 (wm_2 (wm_1 wm_h))))), ?_⟩
              refine wm_c ⟨(wk_L_law_L_law_r15 _ (wm_16 wm_h)), ?_⟩
              refine wm_c ⟨(wk_L_law_L_law_r15 _ (wm_16 (wm_1 wm_h))), ?_⟩
              refine wm_c ⟨(wk_L_law_L_law_r4 _ (wm_8 (wm_2 wm_h))), ?_⟩
              refine wm_c ⟨(wk_L_law_L_law_r15 _ (wm_16 (wm_2 wm_h))), ?_⟩
              refine wm_c ⟨(wk_L_law_L_law_r4 _ (wm_16 wm_h)), ?_⟩
              refine wm_c ⟨(wk_L_law_L_law_r40 _ (wm_16 (wm_4 (wm_2 (wm_1 wm_h))))), ?_⟩
              exact wm_n
            · refine wm_a ⟨?_, ?_⟩
              · unfold wsX7_read_r3
                refine wm_c ⟨(wk_L_law_L_law_r41 _ wm_h), ?_⟩
                refine wm_c ⟨(wk_L_law_L_law_r41 _ (wm_1 wm_h)), ?_⟩
                refine wm_c ⟨(wk_L_law_L_law_r41 _ (wm_2 wm_h)), ?_⟩
                refine wm_c ⟨(wk_L_law_L_law_r8 _ (wm_16 (wm_1 wm_h))), ?_⟩
                refine wm_c ⟨(wk_L_law_L_law_r41 _ (wm_2 (wm_1 wm_h))), ?_⟩
                refine wm_c ⟨(wk_L_law_L_law_r41 _ (wm_4 wm_h)), ?_⟩
                refine wm_c ⟨(wk_L_law_L_law_r41 _ (wm_4 (wm_1 wm_h))), ?_⟩
                refine wm_c ⟨(wk_L_law_L_law_r41 _ (wm_4 (wm_2 wm_h))), ?_⟩
                refine wm_c ⟨(wk_L_law_L_law_r41 _ (wm_4 (wm_2 (wm_1 wm_h)))), ?_⟩
                refine wm_c ⟨(wk_L_law_L_law_r41 _ (wm_8 wm_h)), ?_⟩
                refine wm_c ⟨(wk_L_law_L_law_r41 _ (wm_8 (wm_1 wm_h))), ?_⟩
                refine wm_c ⟨(wk_L_law_L_law_r41 _ (wm_8 (wm_2 wm_h))), ?_⟩
                refine wm_c ⟨(wk_L_law_L_law_r41 _ (wm_8 (wm_2 (wm_1 wm_h)))), ?_⟩
                refine wm_c ⟨(wk_L_law_L_law_r41 _ (wm_8 (wm_4 wm_h))), ?_⟩
                refine wm_c ⟨(wk_L_law_L_law_r41 _ (wm_8 (wm_4 (wm_1 wm_h)))), ?_⟩
                refine wm_c ⟨(wk_L_law_L_law_r41 _ (wm_8 (wm_4 (wm_2 wm_h)))), ?_⟩
                refine wm_c ⟨(wk_L_law_L_law_r41 _ (wm_8 (wm_4 (wm_2 (wm_1 wm_h))))), ?_⟩
                refine wm_c ⟨(wk_L_law_L_law_r41 _ (wm_16 wm_h)), ?_⟩
                refine wm_c ⟨(wk_L_law_L_law_r16 _ (wm_16 (wm_4 (wm_2 wm_h)))), ?_⟩
                refine wm_c ⟨(wk_L_law_L_law_r16 _ (wm_16 (wm_4 (wm_2 (wm_1 wm_h))))), ?_⟩
                refine wm_c ⟨(wk_L_law_L_law_r17 _ wm_h), ?_⟩
                refine wm_c ⟨(wk_L_law_L_law_r17 _ (wm_1 wm_h)), ?_⟩
                refine wm_c ⟨(wk_L_law_L_law_r6 _ (wm_8 (wm_4 (wm_2 wm_h)))), ?_⟩
                refine wm_c ⟨(wk_L_law_L_law_r6 _ (wm_8 (wm_4 (wm_2 (wm_1 wm_h))))), ?_⟩
                exact wm_n
              · refine wm_a ⟨?_, ?_⟩
                · unfold wsX7_read_r4
                  refine wm_c ⟨(wk_L_law_L_law_r6 _ (wm_16 wm_h)), ?_⟩
                  refine wm_c ⟨(wk_L_law_L_law_r41 _ (wm_16 (wm_1 wm_h))), ?_⟩
                  refine wm_c ⟨(wk_L_law_L_law_r17 _ (wm_16 (wm_2 (wm_1 wm_h)))), ?_⟩
                  refine wm_c ⟨(wk_L_law_L_law_r17 _ (wm_16 (wm_4 wm_h))), ?_⟩
                  refine wm_c ⟨(wk_L_law_L_law_r17 _ (wm_16 (wm_4 (wm_1 wm_h)))), ?_⟩
                  refine wm_c ⟨(wk_L_law_L_law_r4 _ (wm_4 wm_h)), ?_⟩
                  refine wm_c ⟨(wk_L_law_L_law_r3 _ (wm_16 (wm_2 wm_h))), ?_⟩
                  refine wm_c ⟨(wk_L_law_L_law_r17 _ (wm_16 (wm_4 (wm_2 wm_h)))), ?_⟩
                  refine wm_c ⟨(wk_L_law_L_law_r16 _ (wm_8 (wm_4 (wm_2 (wm_1 wm_h))))), ?_⟩
                  refine wm_c ⟨(wk_L_law_L_law_r16 _ (wm_16 wm_h)), ?_⟩
                  refine wm_c ⟨(wk_L_law_L_law_r16 _ (wm_16 (wm_1 wm_h))), ?_⟩
                  refine wm_c ⟨(wk_L_law_L_law_r16 _ (wm_16 (wm_2 wm_h))), ?_⟩
                  refine wm_c ⟨(wk_L_law_L_law_r16 _ (wm_16 (wm_2 (wm_1 wm_h)))), ?_⟩
                  refine wm_c ⟨(wk_L_law_L_law_r3 _ (wm_16 (wm_4 (wm_2 wm_h)))), ?_⟩
                  refine wm_c ⟨(wk_L_law_L_law_r4 _ wm_h), ?_⟩
                  refine wm_c ⟨(wk_L_law_L_law_r16 _ (wm_16 (wm_4 wm_h))), ?_⟩
                  refine wm_c ⟨(wk_L_law_L_law_r16 _ (wm_16 (wm_4 (wm_1 wm_h)))), ?_⟩
                  refine wm_c ⟨(wk_L_law_L_law_r41 _ (wm_16 (wm_2 wm_h))), ?_⟩
                  refine wm_c ⟨(wk_L_law_L_law_r16 _ (wm_8 (wm_4 wm_h))), ?_⟩
                  refine wm_c ⟨(wk_L_law_L_law_r16 _ (wm_8 (wm_4 (wm_1 wm_h)))), ?_⟩
                  refine wm_c ⟨(wk_L_law_L_law_r16 _ (wm_8 (wm_4 (wm_2 wm_h)))), ?_⟩
                  refine wm_c ⟨(wk_L_law_L_law_r41 _ (wm_16 (wm_2 (wm_1 wm_h)))), ?_⟩
                  refine wm_c ⟨(wk_L_law_L_law_r41 _ (wm_16 (wm_4 wm_h))), ?_⟩
                  refine wm_c ⟨(wk_L_law_L_law_r41 _ (wm_16 (wm_4 (wm_1 wm_h)))), ?_⟩
                  exact wm_n
                · refine wm_a ⟨?_, ?_⟩
                  · unfold wsX7_read_r5
                    refine wm_c ⟨(wk_L_law_L_law_r41 _ (wm_16 (wm_4 (wm_2 wm_h)))), ?_⟩
                    refine wm_c ⟨(wk_L_law_L_law_r41 _ (wm_16 (wm_4 (wm_2 (wm_1 wm_h))))), ?_⟩
                    refine wm_c ⟨(wk_L_law_L_law_r42 _ wm_h), ?_⟩
                    refine wm_c ⟨(wk_L_law_L_law_r42 _ (wm_1 wm_h)), ?_⟩
                    refine wm_c ⟨(wk_L_law_L_law_r42 _ (wm_2 wm_h)), ?_⟩
                    refine wm_c ⟨(wk_L_law_L_law_r42 _ (wm_2 (wm_1 wm_h))), ?_⟩
                    refine wm_c ⟨(wk_L_law_L_law_r42 _ (wm_4 wm_h)), ?_⟩
                    refine wm_c ⟨(wk_L_law_L_law_r30 _ (wm_16 (wm_2 (wm_1 wm_h)))), ?_⟩
                    refine wm_c ⟨(wk_L_law_L_law_r30 _ (wm_16 (wm_4 wm_h))), ?_⟩
                    refine wm_c ⟨(wk_L_law_L_law_r30 _ (wm_16 (wm_4 (wm_1 wm_h)))), ?_⟩
                    refine wm_c ⟨(wk_L_law_L_law_r18 _ (wm_16 (wm_2 (wm_1 wm_h)))), ?_⟩
                    refine wm_c ⟨(wk_L_law_L_law_r4 _ (wm_8 (wm_4 (wm_2 wm_h)))), ?_⟩
                    refine wm_c ⟨(wk_L_law_L_law_r4 _ (wm_8 (wm_4 (wm_2 (wm_1 wm_h))))), ?_⟩
                    refine wm_c ⟨(wk_L_law_L_law_r42 _ (wm_4 (wm_1 wm_h))), ?_⟩
                    refine wm_c ⟨(wk_L_law_L_law_r42 _ (wm_4 (wm_2 wm_h))), ?_⟩
                    refine wm_c ⟨(wk_L_law_L_law_r42 _ (wm_4 (wm_2 (wm_1 wm_h)))), ?_⟩
                    refine wm_c ⟨(wk_L_law_L_law_r42 _ (wm_8 wm_h)), ?_⟩
                    refine wm_c ⟨(wk_L_law_L_law_r8 _ (wm_8 (wm_4 wm_h))), ?_⟩
                    refine wm_c ⟨(wk_L_law_L_law_r42 _ (wm_8 (wm_1 wm_h))), ?_⟩
                    refine wm_c ⟨(wk_L_law_L_law_r42 _ (wm_8 (wm_2 wm_h))), ?_⟩
                    refine wm_c ⟨(wk_L_law_L_law_r42 _ (wm_8 (wm_2 (wm_1 wm_h)))), ?_⟩
                    refine wm_c ⟨(wk_L_law_L_law_r42 _ (wm_8 (wm_4 wm_h))), ?_⟩
                    refine wm_c ⟨(wk_L_law_L_law_r42 _ (wm_8 (wm_4 (wm_1 wm_h)))), ?_⟩
                    refine wm_c ⟨(wk_L_law_L_law_r3 _ (wm_16 (wm_4 wm_h))), ?_⟩
                    exact wm_n
                  · refine wm_a ⟨?_, ?_⟩
                    · unfold wsX7_read_r6
                      refine wm_c ⟨(wk_L_law_L_law_r42 _ (wm_8 (wm_4 (wm_2 wm_h)))), ?_⟩
                      refine wm_c ⟨(wk_L_law_L_law_r42 _ (wm_8 (wm_4 (wm_2 (wm_1 wm_h))))), ?_⟩
                      refine wm_c ⟨(wk_L_law_L_law_r42 _ (wm_16 wm_h)), ?_⟩
                      refine wm_c ⟨(wk_L_law_L_law_r42 _ (wm_16 (wm_1 wm_h))), ?_⟩
                      refine wm_c ⟨(wk_L_law_L_law_r8 _ (wm_8 (wm_4 (wm_2 wm_h)))), ?_⟩
                      refine wm_c ⟨(wk_L_law_L_law_r42 _ (wm_16 (wm_2 wm_h))), ?_⟩
                      refine wm_c ⟨(wk_L_law_L_law_r42 _ (wm_16 (wm_2 (wm_1 wm_h)))), ?_⟩
                      refine wm_c ⟨(wk_L_law_L_law_r42 _ (wm_16 (wm_4 wm_h))), ?_⟩
                      refine wm_c ⟨(wk_L_law_L_law_r42 _ (wm_16 (wm_4 (wm_1 wm_h)))), ?_⟩
                      refine wm_c ⟨(wk_L_law_L_law_r42 _ (wm_16 (wm_4 (wm_2 wm_h)))), ?_⟩
                      refine wm_c ⟨(wk_L_law_L_law_r42 _ (wm_16 (wm_4 (wm_2 (wm_1 wm_h))))), ?_⟩
                      refine wm_c ⟨(wk_L_law_L_law_r43 _ wm_h), ?_⟩
                      refine wm_c ⟨(wk_L_law_L_law_r43 _ (wm_1 wm_h)), ?_⟩
                      refine wm_c ⟨(wk_L_law_L_law_r20 _ (wm_4 (wm_2 (wm_1 wm_h)))), ?_⟩
                      refine wm_c ⟨(wk_L_law_L_law_r20 _ (wm_8 wm_h)), ?_⟩
                      refine wm_c ⟨(wk_L_law_L_law_r20 _ (wm_8 (wm_1 wm_h))), ?_⟩
                      refine wm_c ⟨(wk_L_law_L_law_r4 _ (wm_4 (wm_2 wm_h))), ?_⟩
                      refine wm_c ⟨(wk_L_law_L_law_r4 _ (wm_4 (wm_2 (wm_1 wm_h)))), ?_⟩
                      refine wm_c ⟨(wk_L_law_L_law_r4 _ (wm_1 wm_h)), ?_⟩
                      refine wm_c ⟨(wk_L_law_L_law_r20 _ (wm_8 (wm_2 wm_h))), ?_⟩
                      refine wm_c ⟨(wk_L_law_L_law_r20 _ (wm_8 (wm_2 (wm_1 wm_h)))), ?_⟩
                      refine wm_c ⟨(wk_L_law_L_law_r20 _ (wm_8 (wm_4 wm_h))), ?_⟩
                      refine wm_c ⟨(wk_L_law_L_law_r20 _ (wm_8 (wm_4 (wm_1 wm_h)))), ?_⟩
                      refine wm_c ⟨(wk_L_law_L_law_r43 _ (wm_2 wm_h)), ?_⟩
                      exact wm_n
                    · unfold wsX7_read_r7
                      refine wm_c ⟨(wk_L_law_L_law_r21 _ (wm_8 (wm_2 (wm_1 wm_h)))), ?_⟩
                      refine wm_c ⟨(wk_L_law_L_law_r21 _ (wm_8 (wm_4 wm_h))), ?_⟩
                      refine wm_c ⟨(wk_L_law_L_law_r21 _ (wm_8 (wm_4 (wm_1 wm_h)))), ?_⟩
                      refine wm_c ⟨(wk_L_law_L_law_r4 _ (wm_4 (wm_1 wm_h))), ?_⟩
                      refine wm_c ⟨(wk_L_law_L_law_r43 _ (wm_2 (wm_1 wm_h))), ?_⟩
                      refine wm_c ⟨(wk_L_law_L_law_r43 _ (wm_4 wm_h)), ?_⟩
                      refine wm_c ⟨(wk_L_law_L_law_r43 _ (wm_4 (wm_1 wm_h))), ?_⟩
                      refine wm_c ⟨(wk_L_law_L_law_r43 _ (wm_4 (wm_2 wm_h))), ?_⟩
                      refine wm_c ⟨(wk_L_law_L_law_r43 _ (wm_4 (wm_2 (wm_1 wm_h)))), ?_⟩
                      refine wm_c ⟨(wk_L_law_L_law_r43 _ (wm_8 wm_h)), ?_⟩
                      refine wm_c ⟨(wk_L_law_L_law_r43 _ (wm_8 (wm_1 wm_h))), ?_⟩
                      refine wm_c ⟨(wk_L_law_L_law_r43 _ (wm_8 (wm_2 wm_h))), ?_⟩
                      refine wm_c ⟨(wk_L_law_L_law_r43 _ (wm_8 (wm_2 (wm_1 wm_h)))), ?_⟩
                      refine wm_c ⟨(wk_L_law_L_law_r43 _ (wm_8 (wm_4 wm_h))), ?_⟩
                      refine wm_c ⟨(wk_L_law_L_law_r43 _ (wm_8 (wm_4 (wm_1 wm_h)))), ?_⟩
                      refine wm_c ⟨(wk_L_law_L_law_r43 _ (wm_8 (wm_4 (wm_2 wm_h)))), ?_⟩
                      refine wm_c ⟨(wk_L_law_L_law_r43 _ (wm_8 (wm_4 (wm_2 (wm_1 wm_h))))), ?_⟩
                      refine wm_c ⟨(wk_L_law_L_law_r43 _ (wm_16 wm_h)), ?_⟩
                      refine wm_c ⟨(wk_L_law_L_law_r4 _ (wm_8 (wm_1 wm_h))), ?_⟩
                      refine wm_c ⟨(wk_L_law_L_law_r4 _ (wm_8 (wm_2 (wm_1 wm_h)))), ?_⟩
                      refine wm_c ⟨(wk_L_law_L_law_r4 _ (wm_8 (wm_4 wm_h))), ?_⟩
                      refine wm_c ⟨(wk_L_law_L_law_r4 _ (wm_8 (wm_4 (wm_1 wm_h)))), ?_⟩
                      exact wm_n
        · exact wk_L_law_X70
      · exact wk_L_law_X40
    · exact wk_L_law_X00
  · exact wk_L_law_X60
