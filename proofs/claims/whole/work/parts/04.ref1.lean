theorem dX8_add_0 : decode cX8_add 0 = .ok (.iload_n 1, 1) := by decide +kernel
theorem dX8_add_1 : decode cX8_add 1 = .ok (.invokestatic 157, 3) := by decide +kernel
theorem dX8_add_4 : decode cX8_add 4 = .ok (.ifCond .eq 10, 3) := by decide +kernel
theorem dX8_add_7 : decode cX8_add 7 = .ok (.iload_n 2, 1) := by decide +kernel
theorem dX8_add_8 : decode cX8_add 8 = .ok (.invokestatic 157, 3) := by decide +kernel
theorem dX8_add_11 : decode cX8_add 11 = .ok (.ifCond .ne 5, 3) := by decide +kernel
theorem dX8_add_14 : decode cX8_add 14 = .ok (.iconst (-1), 1) := by decide +kernel
theorem dX8_add_15 : decode cX8_add 15 = .ok (.ireturn, 1) := by decide +kernel
theorem dX8_add_16 : decode cX8_add 16 = .ok (.iload_n 3, 1) := by decide +kernel
theorem dX8_add_17 : decode cX8_add 17 = .ok (.iload 4, 2) := by decide +kernel
theorem dX8_add_19 : decode cX8_add 19 = .ok (.invokestatic 168, 3) := by decide +kernel
theorem dX8_add_22 : decode cX8_add 22 = .ok (.ifCond .ne 6, 3) := by decide +kernel
theorem dX8_add_25 : decode cX8_add 25 = .ok (.bipush (-2), 2) := by decide +kernel
theorem dX8_add_27 : decode cX8_add 27 = .ok (.ireturn, 1) := by decide +kernel
theorem dX8_add_28 : decode cX8_add 28 = .ok (.aload_n 0, 1) := by decide +kernel
theorem dX8_add_29 : decode cX8_add 29 = .ok (.bipush 8, 2) := by decide +kernel
theorem dX8_add_31 : decode cX8_add 31 = .ok (.iload_n 2, 1) := by decide +kernel
theorem dX8_add_32 : decode cX8_add 32 = .ok (.invokevirtual 139, 3) := by decide +kernel
theorem dX8_add_35 : decode cX8_add 35 = .ok (.aload_n 0, 1) := by decide +kernel
theorem dX8_add_36 : decode cX8_add 36 = .ok (.iload_n 1, 1) := by decide +kernel
theorem dX8_add_37 : decode cX8_add 37 = .ok (.bipush 8, 2) := by decide +kernel
theorem dX8_add_39 : decode cX8_add 39 = .ok (.iload_n 3, 1) := by decide +kernel
theorem dX8_add_40 : decode cX8_add 40 = .ok (.iload 4, 2) := by decide +kernel
theorem dX8_add_42 : decode cX8_add 42 = .ok (.invokestatic 171, 3) := by decide +kernel
theorem dX8_add_45 : decode cX8_add 45 = .ok (.invokevirtual 153, 3) := by decide +kernel
theorem dX8_add_48 : decode cX8_add 48 = .ok (.iconst 0, 1) := by decide +kernel
theorem dX8_add_49 : decode cX8_add 49 = .ok (.ireturn, 1) := by decide +kernel
set_option maxRecDepth 20000 in
theorem ggX8_areSums_X8_isSum : GoodIn wsX8_areSums wsX8_isSum := by
  refine goodIn_sub ?_ gd_X8_isSum
  unfold wsX8_isSum
  refine wm_c ⟨(wm_1 (wm_2 (wm_1 wm_h))), ?_⟩
  refine wm_c ⟨(wm_1 (wm_4 wm_h)), ?_⟩
  refine wm_c ⟨(wm_1 (wm_4 (wm_1 wm_h))), ?_⟩
  refine wm_c ⟨(wm_1 (wm_4 (wm_2 wm_h))), ?_⟩
  refine wm_c ⟨(wm_1 (wm_2 wm_h)), ?_⟩
  refine wm_c ⟨(wm_1 (wm_4 (wm_2 (wm_1 wm_h)))), ?_⟩
  exact wm_n
set_option maxRecDepth 20000 in
theorem gX8_areSums_X8_isSum : GoodIn wsX8_areSums (va_wsS RX8 157 yX8_isSum wsX8_isSum) := goodIn_app (goodIn_of _ (by decide +kernel)) ggX8_areSums_X8_isSum
theorem dX8_areSums_0 : decode cX8_areSums 0 = .ok (.iload_n 1, 1) := by decide +kernel
theorem dX8_areSums_1 : decode cX8_areSums 1 = .ok (.invokestatic 157, 3) := by decide +kernel
theorem dX8_areSums_4 : decode cX8_areSums 4 = .ok (.ifCond .eq 21, 3) := by decide +kernel
theorem dX8_areSums_7 : decode cX8_areSums 7 = .ok (.iload_n 2, 1) := by decide +kernel
theorem dX8_areSums_8 : decode cX8_areSums 8 = .ok (.invokestatic 157, 3) := by decide +kernel
theorem dX8_areSums_11 : decode cX8_areSums 11 = .ok (.ifCond .eq 14, 3) := by decide +kernel
theorem dX8_areSums_14 : decode cX8_areSums 14 = .ok (.iload_n 3, 1) := by decide +kernel
theorem dX8_areSums_15 : decode cX8_areSums 15 = .ok (.invokestatic 157, 3) := by decide +kernel
theorem dX8_areSums_18 : decode cX8_areSums 18 = .ok (.ifCond .eq 7, 3) := by decide +kernel
theorem dX8_areSums_21 : decode cX8_areSums 21 = .ok (.iconst 1, 1) := by decide +kernel
theorem dX8_areSums_22 : decode cX8_areSums 22 = .ok (.goto 4, 3) := by decide +kernel
theorem dX8_areSums_25 : decode cX8_areSums 25 = .ok (.iconst 0, 1) := by decide +kernel
theorem dX8_areSums_26 : decode cX8_areSums 26 = .ok (.ireturn, 1) := by decide +kernel
set_option maxRecDepth 20000 in
theorem ggX8_times_X8_areSums : GoodIn wsX8_times wsX8_areSums := by
  refine goodIn_sub ?_ gd_X8_areSums
  unfold wsX8_areSums
  refine wm_c ⟨(wk_X8_times_X8_times_r1 _ (wm_4 wm_h)), ?_⟩
  refine wm_c ⟨(wk_X8_times_X8_times_r1 _ (wm_4 (wm_1 wm_h))), ?_⟩
  refine wm_c ⟨(wk_X8_times_X8_times_r1 _ (wm_4 (wm_2 wm_h))), ?_⟩
  refine wm_c ⟨(wk_X8_times_X8_times_r1 _ (wm_2 (wm_1 wm_h))), ?_⟩
  refine wm_c ⟨(wk_X8_times_X8_times_r1 _ (wm_4 (wm_2 (wm_1 wm_h)))), ?_⟩
  refine wm_c ⟨(wk_X8_times_X8_times_r1 _ (wm_8 wm_h)), ?_⟩
  refine wm_c ⟨(wk_X8_times_X8_times_r1 _ (wm_8 (wm_1 wm_h))), ?_⟩
  refine wm_c ⟨(wk_X8_times_X8_times_r1 _ (wm_8 (wm_2 wm_h))), ?_⟩
  refine wm_c ⟨(wk_X8_times_X8_times_r1 _ (wm_8 (wm_2 (wm_1 wm_h)))), ?_⟩
  exact wm_n
set_option maxRecDepth 20000 in
theorem gX8_times_X8_areSums : GoodIn wsX8_times (wsV RX8 182 RX8 yX8_areSums wsX8_areSums) := by
  refine goodIn_app (goodIn_sub ?_ ?_) ggX8_times_X8_areSums
  · exact wm_c ⟨(wk_X8_times_X8_times_r1 _ wm_h), wm_c ⟨(wk_X8_times_X8_times_r1 _ (wm_1 wm_h)), wm_c ⟨(wk_X8_times_X8_times_r1 _ (wm_2 wm_h)), wm_c ⟨(wk_X8_times_X8_times_r1 _ (wm_2 (wm_1 wm_h))), wm_n⟩⟩⟩⟩
  · decide +kernel
set_option maxRecDepth 20000 in
theorem ggX8_times_X8_multiplies : GoodIn wsX8_times wsX8_multiplies := by
  refine goodIn_sub ?_ gd_X8_multiplies
  unfold wsX8_multiplies
  refine wm_c ⟨(wk_X8_times_X8_times_r1 _ (wm_8 (wm_4 (wm_2 (wm_1 wm_h))))), ?_⟩
  refine wm_a ⟨?_, ?_⟩
  · refine wm_c ⟨(wk_X8_times_X8_times_r1 _ (wm_16 wm_h)), ?_⟩
    refine wm_c ⟨(wk_X8_times_X8_times_r1 _ (wm_16 (wm_1 wm_h))), ?_⟩
    refine wm_c ⟨(wk_X8_times_X8_times_r1 _ (wm_16 (wm_2 wm_h))), ?_⟩
    refine wm_c ⟨(wk_X8_times_X8_times_r1 _ (wm_16 (wm_2 (wm_1 wm_h)))), ?_⟩
    refine wm_c ⟨(wk_X8_times_X8_times_r1 _ (wm_16 (wm_4 wm_h))), ?_⟩
    refine wm_c ⟨(wk_X8_times_X8_times_r1 _ (wm_16 (wm_4 (wm_1 wm_h)))), ?_⟩
    refine wm_c ⟨(wk_X8_times_X8_times_r1 _ (wm_16 (wm_4 (wm_2 wm_h)))), ?_⟩
    refine wm_c ⟨(wk_X8_times_X8_times_r1 _ (wm_2 (wm_1 wm_h))), ?_⟩
    refine wm_c ⟨(wk_X8_times_X8_times_r1 _ (wm_16 (wm_4 (wm_2 (wm_1 wm_h))))), ?_⟩
    refine wm_c ⟨(wk_X8_times_X8_times_r2 _ wm_h), ?_⟩
    refine wm_c ⟨(wk_X8_times_X8_times_r2 _ (wm_1 wm_h)), ?_⟩
    refine wm_c ⟨(wk_X8_times_X8_times_r2 _ (wm_2 wm_h)), ?_⟩
    refine wm_c ⟨(wk_X8_times_X8_times_r2 _ (wm_2 (wm_1 wm_h))), ?_⟩
    refine wm_c ⟨(wk_X8_times_X8_times_r2 _ (wm_4 wm_h)), ?_⟩
    refine wm_c ⟨(wk_X8_times_X8_times_r2 _ (wm_4 (wm_1 wm_h))), ?_⟩
    refine wm_c ⟨(wk_X8_times_X8_times_r2 _ (wm_4 (wm_2 wm_h))), ?_⟩
    refine wm_c ⟨(wk_X8_times_X8_times_r2 _ (wm_4 (wm_2 (wm_1 wm_h)))), ?_⟩
    refine wm_c ⟨(wk_X8_times_X8_times_r2 _ (wm_8 wm_h)), ?_⟩
    refine wm_c ⟨(wk_X8_times_X8_times_r2 _ (wm_8 (wm_1 wm_h))), ?_⟩
    exact wm_n
  · exact wk_X8_times_X80
set_option maxRecDepth 20000 in
theorem gX8_times_X8_multiplies : GoodIn wsX8_times (wsV RX8 146 RX8 yX8_multiplies wsX8_multiplies) := by
  refine goodIn_app (goodIn_sub ?_ ?_) ggX8_times_X8_multiplies
  · exact wm_c ⟨(wk_X8_times_X8_times_r1 _ (wm_8 (wm_4 wm_h))), wm_c ⟨(wk_X8_times_X8_times_r1 _ (wm_8 (wm_4 (wm_1 wm_h)))), wm_c ⟨(wk_X8_times_X8_times_r1 _ (wm_8 (wm_4 (wm_2 wm_h)))), wm_c ⟨(wk_X8_times_X8_times_r1 _ (wm_2 (wm_1 wm_h))), wm_n⟩⟩⟩⟩
  · decide +kernel
set_option maxRecDepth 20000 in
theorem ggX8_times_X8_copies : GoodIn wsX8_times wsX8_copies := by
  refine goodIn_sub ?_ gd_X8_copies
  unfold wsX8_copies
  refine wm_c ⟨(wk_X8_times_X8_times_r2 _ (wm_8 (wm_4 (wm_1 wm_h)))), ?_⟩
  refine wm_a ⟨?_, ?_⟩
  · refine wm_c ⟨(wk_X8_times_X8_times_r1 _ (wm_16 wm_h)), ?_⟩
    refine wm_c ⟨(wk_X8_times_X8_times_r1 _ (wm_16 (wm_2 wm_h))), ?_⟩
    exact wm_n
  · exact wk_X8_times_X80
set_option maxRecDepth 20000 in
theorem gX8_times_X8_copies : GoodIn wsX8_times (wsV RX8 139 RX8 yX8_copies wsX8_copies) := by
  refine goodIn_app (goodIn_sub ?_ ?_) ggX8_times_X8_copies
  · exact wm_c ⟨(wk_X8_times_X8_times_r2 _ (wm_8 (wm_2 wm_h))), wm_c ⟨(wk_X8_times_X8_times_r2 _ (wm_8 (wm_2 (wm_1 wm_h)))), wm_c ⟨(wk_X8_times_X8_times_r2 _ (wm_8 (wm_4 wm_h))), wm_c ⟨(wk_X8_times_X8_times_r1 _ (wm_2 (wm_1 wm_h))), wm_n⟩⟩⟩⟩
  · decide +kernel
theorem dX8_times_0 : decode cX8_times 0 = .ok (.aload_n 0, 1) := by decide +kernel
theorem dX8_times_1 : decode cX8_times 1 = .ok (.iload_n 1, 1) := by decide +kernel
theorem dX8_times_2 : decode cX8_times 2 = .ok (.iload_n 2, 1) := by decide +kernel
theorem dX8_times_3 : decode cX8_times 3 = .ok (.iload_n 3, 1) := by decide +kernel
theorem dX8_times_4 : decode cX8_times 4 = .ok (.invokevirtual 182, 3) := by decide +kernel
theorem dX8_times_7 : decode cX8_times 7 = .ok (.ifCond .ne 5, 3) := by decide +kernel
theorem dX8_times_10 : decode cX8_times 10 = .ok (.iconst (-1), 1) := by decide +kernel
theorem dX8_times_11 : decode cX8_times 11 = .ok (.ireturn, 1) := by decide +kernel
theorem dX8_times_12 : decode cX8_times 12 = .ok (.aload_n 0, 1) := by decide +kernel
theorem dX8_times_13 : decode cX8_times 13 = .ok (.bipush 8, 2) := by decide +kernel
theorem dX8_times_15 : decode cX8_times 15 = .ok (.iload_n 2, 1) := by decide +kernel
theorem dX8_times_16 : decode cX8_times 16 = .ok (.iload_n 3, 1) := by decide +kernel
theorem dX8_times_17 : decode cX8_times 17 = .ok (.invokevirtual 146, 3) := by decide +kernel
theorem dX8_times_20 : decode cX8_times 20 = .ok (.aload_n 0, 1) := by decide +kernel
theorem dX8_times_21 : decode cX8_times 21 = .ok (.iload_n 1, 1) := by decide +kernel
theorem dX8_times_22 : decode cX8_times 22 = .ok (.bipush 8, 2) := by decide +kernel
theorem dX8_times_24 : decode cX8_times 24 = .ok (.invokevirtual 139, 3) := by decide +kernel
theorem dX8_times_27 : decode cX8_times 27 = .ok (.iconst 0, 1) := by decide +kernel
theorem dX8_times_28 : decode cX8_times 28 = .ok (.ireturn, 1) := by decide +kernel
set_option maxRecDepth 20000 in
theorem ggX8_bracketOf_X8_multiplies : GoodIn wsX8_bracketOf wsX8_multiplies := by
  refine goodIn_sub ?_ gd_X8_multiplies
  unfold wsX8_multiplies
  refine wm_c ⟨(wk_X8_bracketOf_X8_bracketOf_r1 _ (wm_4 (wm_1 wm_h))), ?_⟩
  refine wm_a ⟨?_, ?_⟩
  · refine wm_c ⟨(wk_X8_bracketOf_X8_bracketOf_r1 _ (wm_4 (wm_2 wm_h))), ?_⟩
    refine wm_c ⟨(wk_X8_bracketOf_X8_bracketOf_r1 _ (wm_4 (wm_2 (wm_1 wm_h)))), ?_⟩
    refine wm_c ⟨(wk_X8_bracketOf_X8_bracketOf_r1 _ (wm_8 wm_h)), ?_⟩
    refine wm_c ⟨(wk_X8_bracketOf_X8_bracketOf_r1 _ (wm_8 (wm_1 wm_h))), ?_⟩
    refine wm_c ⟨(wk_X8_bracketOf_X8_bracketOf_r1 _ (wm_8 (wm_2 wm_h))), ?_⟩
    refine wm_c ⟨(wk_X8_bracketOf_X8_bracketOf_r1 _ (wm_8 (wm_2 (wm_1 wm_h)))), ?_⟩
    refine wm_c ⟨(wk_X8_bracketOf_X8_bracketOf_r1 _ (wm_8 (wm_4 wm_h))), ?_⟩
    refine wm_c ⟨(wk_X8_bracketOf_X8_bracketOf_r1 _ (wm_4 wm_h)), ?_⟩
    refine wm_c ⟨(wk_X8_bracketOf_X8_bracketOf_r1 _ (wm_8 (wm_4 (wm_1 wm_h)))), ?_⟩
    refine wm_c ⟨(wk_X8_bracketOf_X8_bracketOf_r1 _ (wm_8 (wm_4 (wm_2 wm_h)))), ?_⟩
    refine wm_c ⟨(wk_X8_bracketOf_X8_bracketOf_r1 _ (wm_8 (wm_4 (wm_2 (wm_1 wm_h))))), ?_⟩
    refine wm_c ⟨(wk_X8_bracketOf_X8_bracketOf_r1 _ (wm_16 wm_h)), ?_⟩
    refine wm_c ⟨(wk_X8_bracketOf_X8_bracketOf_r1 _ (wm_16 (wm_1 wm_h))), ?_⟩
    refine wm_c ⟨(wk_X8_bracketOf_X8_bracketOf_r1 _ (wm_16 (wm_2 wm_h))), ?_⟩
    refine wm_c ⟨(wk_X8_bracketOf_X8_bracketOf_r1 _ (wm_16 (wm_2 (wm_1 wm_h)))), ?_⟩
    refine wm_c ⟨(wk_X8_bracketOf_X8_bracketOf_r1 _ (wm_16 (wm_4 wm_h))), ?_⟩
    refine wm_c ⟨(wk_X8_bracketOf_X8_bracketOf_r1 _ (wm_16 (wm_4 (wm_1 wm_h)))), ?_⟩
    refine wm_c ⟨(wk_X8_bracketOf_X8_bracketOf_r1 _ (wm_16 (wm_4 (wm_2 wm_h)))), ?_⟩
    refine wm_c ⟨(wk_X8_bracketOf_X8_bracketOf_r1 _ (wm_16 (wm_4 (wm_2 (wm_1 wm_h))))), ?_⟩
    exact wm_n
  · exact wk_X8_bracketOf_X80
set_option maxRecDepth 20000 in
theorem gX8_bracketOf_X8_multiplies : GoodIn wsX8_bracketOf (wsV RX8 146 RX8 yX8_multiplies wsX8_multiplies) := by
  refine goodIn_app (goodIn_sub ?_ ?_) ggX8_bracketOf_X8_multiplies
  · exact wm_c ⟨(wk_X8_bracketOf_X8_bracketOf_r1 _ (wm_1 wm_h)), wm_c ⟨(wk_X8_bracketOf_X8_bracketOf_r1 _ (wm_2 wm_h)), wm_c ⟨(wk_X8_bracketOf_X8_bracketOf_r1 _ (wm_2 (wm_1 wm_h))), wm_c ⟨(wk_X8_bracketOf_X8_bracketOf_r1 _ (wm_4 wm_h)), wm_n⟩⟩⟩⟩
  · decide +kernel
set_option maxRecDepth 20000 in
theorem ggX8_bracketOf_X8_adds : GoodIn wsX8_bracketOf wsX8_adds := by
  refine goodIn_sub ?_ gd_X8_adds
  unfold wsX8_adds
  refine wm_c ⟨(wk_X8_bracketOf_X8_bracketOf_r2 _ (wm_2 (wm_1 wm_h))), ?_⟩
  refine wm_a ⟨?_, ?_⟩
  · refine wm_c ⟨(wk_X8_bracketOf_X8_bracketOf_r1 _ (wm_4 (wm_2 wm_h))), ?_⟩
    refine wm_c ⟨(wk_X8_bracketOf_X8_bracketOf_r1 _ (wm_8 wm_h)), ?_⟩
    refine wm_c ⟨(wk_X8_bracketOf_X8_bracketOf_r1 _ (wm_8 (wm_1 wm_h))), ?_⟩
    exact wm_n
  · exact wk_X8_bracketOf_X80
set_option maxRecDepth 20000 in
theorem gX8_bracketOf_X8_adds : GoodIn wsX8_bracketOf (wsV RX8 153 RX8 yX8_adds wsX8_adds) := by
  refine goodIn_app (goodIn_sub ?_ ?_) ggX8_bracketOf_X8_adds
  · exact wm_c ⟨(wk_X8_bracketOf_X8_bracketOf_r2 _ wm_h), wm_c ⟨(wk_X8_bracketOf_X8_bracketOf_r2 _ (wm_1 wm_h)), wm_c ⟨(wk_X8_bracketOf_X8_bracketOf_r2 _ (wm_2 wm_h)), wm_c ⟨(wk_X8_bracketOf_X8_bracketOf_r1 _ (wm_4 wm_h)), wm_n⟩⟩⟩⟩
  · decide +kernel
set_option maxRecDepth 20000 in
theorem ggX8_bracketOf_X8_copies : GoodIn wsX8_bracketOf wsX8_copies := by
  refine goodIn_sub ?_ gd_X8_copies
  unfold wsX8_copies
  refine wm_c ⟨(wk_X8_bracketOf_X8_bracketOf_r2 _ (wm_4 (wm_2 (wm_1 wm_h)))), ?_⟩
  refine wm_a ⟨?_, ?_⟩
  · refine wm_c ⟨(wk_X8_bracketOf_X8_bracketOf_r1 _ (wm_4 (wm_2 wm_h))), ?_⟩
    refine wm_c ⟨(wk_X8_bracketOf_X8_bracketOf_r1 _ (wm_8 wm_h)), ?_⟩
    exact wm_n
  · exact wk_X8_bracketOf_X80
set_option maxRecDepth 20000 in
theorem gX8_bracketOf_X8_copies : GoodIn wsX8_bracketOf (wsV RX8 139 RX8 yX8_copies wsX8_copies) := by
  refine goodIn_app (goodIn_sub ?_ ?_) ggX8_bracketOf_X8_copies
  · exact wm_c ⟨(wk_X8_bracketOf_X8_bracketOf_r2 _ (wm_4 wm_h)), wm_c ⟨(wk_X8_bracketOf_X8_bracketOf_r2 _ (wm_4 (wm_1 wm_h))), wm_c ⟨(wk_X8_bracketOf_X8_bracketOf_r2 _ (wm_4 (wm_2 wm_h))), wm_c ⟨(wk_X8_bracketOf_X8_bracketOf_r1 _ (wm_4 wm_h)), wm_n⟩⟩⟩⟩
  · decide +kernel
theorem dX8_bracketOf_0 : decode cX8_bracketOf 0 = .ok (.aload_n 0, 1) := by decide +kernel
theorem dX8_bracketOf_1 : decode cX8_bracketOf 1 = .ok (.bipush 8, 2) := by decide +kernel
theorem dX8_bracketOf_3 : decode cX8_bracketOf 3 = .ok (.iload_n 2, 1) := by decide +kernel
theorem dX8_bracketOf_4 : decode cX8_bracketOf 4 = .ok (.iload_n 3, 1) := by decide +kernel
theorem dX8_bracketOf_5 : decode cX8_bracketOf 5 = .ok (.invokevirtual 146, 3) := by decide +kernel
theorem dX8_bracketOf_8 : decode cX8_bracketOf 8 = .ok (.aload_n 0, 1) := by decide +kernel
theorem dX8_bracketOf_9 : decode cX8_bracketOf 9 = .ok (.bipush 9, 2) := by decide +kernel
theorem dX8_bracketOf_11 : decode cX8_bracketOf 11 = .ok (.iload_n 3, 1) := by decide +kernel
theorem dX8_bracketOf_12 : decode cX8_bracketOf 12 = .ok (.iload_n 2, 1) := by decide +kernel
theorem dX8_bracketOf_13 : decode cX8_bracketOf 13 = .ok (.invokevirtual 146, 3) := by decide +kernel
theorem dX8_bracketOf_16 : decode cX8_bracketOf 16 = .ok (.aload_n 0, 1) := by decide +kernel
theorem dX8_bracketOf_17 : decode cX8_bracketOf 17 = .ok (.bipush 8, 2) := by decide +kernel
theorem dX8_bracketOf_19 : decode cX8_bracketOf 19 = .ok (.bipush 9, 2) := by decide +kernel
theorem dX8_bracketOf_21 : decode cX8_bracketOf 21 = .ok (.ldc2_w 175, 3) := by decide +kernel
theorem dX8_bracketOf_24 : decode cX8_bracketOf 24 = .ok (.invokevirtual 153, 3) := by decide +kernel
theorem dX8_bracketOf_27 : decode cX8_bracketOf 27 = .ok (.aload_n 0, 1) := by decide +kernel
theorem dX8_bracketOf_28 : decode cX8_bracketOf 28 = .ok (.iload_n 1, 1) := by decide +kernel
theorem dX8_bracketOf_29 : decode cX8_bracketOf 29 = .ok (.bipush 8, 2) := by decide +kernel
theorem dX8_bracketOf_31 : decode cX8_bracketOf 31 = .ok (.invokevirtual 139, 3) := by decide +kernel
theorem dX8_bracketOf_34 : decode cX8_bracketOf 34 = .ok (.return_, 1) := by decide +kernel
set_option maxRecDepth 20000 in
theorem ggX8_bracket_X8_areSums : GoodIn wsX8_bracket wsX8_areSums := by
  refine goodIn_sub ?_ gd_X8_areSums
  unfold wsX8_areSums
  refine wm_c ⟨(wk_X8_bracket_X8_bracket_r1 _ (wm_4 wm_h)), ?_⟩
  refine wm_c ⟨(wk_X8_bracket_X8_bracket_r1 _ (wm_4 (wm_1 wm_h))), ?_⟩
  refine wm_c ⟨(wk_X8_bracket_X8_bracket_r1 _ (wm_4 (wm_2 wm_h))), ?_⟩
  refine wm_c ⟨(wk_X8_bracket_X8_bracket_r1 _ (wm_2 (wm_1 wm_h))), ?_⟩
  refine wm_c ⟨(wk_X8_bracket_X8_bracket_r1 _ (wm_4 (wm_2 (wm_1 wm_h)))), ?_⟩
  refine wm_c ⟨(wk_X8_bracket_X8_bracket_r1 _ (wm_8 wm_h)), ?_⟩
  refine wm_c ⟨(wk_X8_bracket_X8_bracket_r1 _ (wm_8 (wm_1 wm_h))), ?_⟩
  refine wm_c ⟨(wk_X8_bracket_X8_bracket_r1 _ (wm_8 (wm_2 wm_h))), ?_⟩
  refine wm_c ⟨(wk_X8_bracket_X8_bracket_r1 _ (wm_8 (wm_2 (wm_1 wm_h)))), ?_⟩
  exact wm_n
set_option maxRecDepth 20000 in
theorem gX8_bracket_X8_areSums : GoodIn wsX8_bracket (wsV RX8 182 RX8 yX8_areSums wsX8_areSums) := by
  refine goodIn_app (goodIn_sub ?_ ?_) ggX8_bracket_X8_areSums
  · exact wm_c ⟨(wk_X8_bracket_X8_bracket_r1 _ wm_h), wm_c ⟨(wk_X8_bracket_X8_bracket_r1 _ (wm_1 wm_h)), wm_c ⟨(wk_X8_bracket_X8_bracket_r1 _ (wm_2 wm_h)), wm_c ⟨(wk_X8_bracket_X8_bracket_r1 _ (wm_2 (wm_1 wm_h))), wm_n⟩⟩⟩⟩
  · decide +kernel
set_option maxRecDepth 20000 in
theorem ggX8_bracket_X8_bracketOf : GoodIn wsX8_bracket wsX8_bracketOf := by
  refine goodIn_sub ?_ gd_X8_bracketOf
  unfold wsX8_bracketOf
  refine wm_c ⟨(wk_X8_bracket_X8_bracket_r1 _ (wm_8 (wm_4 (wm_2 (wm_1 wm_h))))), ?_⟩
  refine wm_a ⟨?_, ?_⟩
  · refine wm_a ⟨?_, ?_⟩
    · unfold wsX8_bracketOf_r1
      refine wm_c ⟨(wk_X8_bracket_X8_bracket_r1 _ (wm_16 wm_h)), ?_⟩
      refine wm_c ⟨(wk_X8_bracket_X8_bracket_r1 _ (wm_16 (wm_1 wm_h))), ?_⟩
      refine wm_c ⟨(wk_X8_bracket_X8_bracket_r1 _ (wm_16 (wm_2 wm_h))), ?_⟩
      refine wm_c ⟨(wk_X8_bracket_X8_bracket_r1 _ (wm_16 (wm_2 (wm_1 wm_h)))), ?_⟩
      refine wm_c ⟨(wk_X8_bracket_X8_bracket_r1 _ (wm_2 (wm_1 wm_h))), ?_⟩
      refine wm_c ⟨(wk_X8_bracket_X8_bracket_r1 _ (wm_16 (wm_4 wm_h))), ?_⟩
      refine wm_c ⟨(wk_X8_bracket_X8_bracket_r1 _ (wm_16 (wm_4 (wm_1 wm_h)))), ?_⟩
      refine wm_c ⟨(wk_X8_bracket_X8_bracket_r1 _ (wm_16 (wm_4 (wm_2 wm_h)))), ?_⟩
      refine wm_c ⟨(wk_X8_bracket_X8_bracket_r1 _ (wm_16 (wm_4 (wm_2 (wm_1 wm_h))))), ?_⟩
      refine wm_c ⟨(wk_X8_bracket_X8_bracket_r2 _ wm_h), ?_⟩
      refine wm_c ⟨(wk_X8_bracket_X8_bracket_r2 _ (wm_1 wm_h)), ?_⟩
      refine wm_c ⟨(wk_X8_bracket_X8_bracket_r2 _ (wm_2 wm_h)), ?_⟩
      refine wm_c ⟨(wk_X8_bracket_X8_bracket_r2 _ (wm_2 (wm_1 wm_h))), ?_⟩
      refine wm_c ⟨(wk_X8_bracket_X8_bracket_r2 _ (wm_4 wm_h)), ?_⟩
      refine wm_c ⟨(wk_X8_bracket_X8_bracket_r2 _ (wm_4 (wm_1 wm_h))), ?_⟩
      refine wm_c ⟨(wk_X8_bracket_X8_bracket_r2 _ (wm_4 (wm_2 wm_h))), ?_⟩
      refine wm_c ⟨(wk_X8_bracket_X8_bracket_r2 _ (wm_4 (wm_2 (wm_1 wm_h)))), ?_⟩
      refine wm_c ⟨(wk_X8_bracket_X8_bracket_r2 _ (wm_8 wm_h)), ?_⟩
      refine wm_c ⟨(wk_X8_bracket_X8_bracket_r2 _ (wm_8 (wm_1 wm_h))), ?_⟩
      refine wm_c ⟨(wk_X8_bracket_X8_bracket_r2 _ (wm_8 (wm_2 wm_h))), ?_⟩
      refine wm_c ⟨(wk_X8_bracket_X8_bracket_r2 _ (wm_8 (wm_2 (wm_1 wm_h)))), ?_⟩
      refine wm_c ⟨(wk_X8_bracket_X8_bracket_r2 _ (wm_8 (wm_4 wm_h))), ?_⟩
      refine wm_c ⟨(wk_X8_bracket_X8_bracket_r2 _ (wm_8 (wm_4 (wm_1 wm_h)))), ?_⟩
      refine wm_c ⟨(wk_X8_bracket_X8_bracket_r2 _ (wm_8 (wm_4 (wm_2 wm_h)))), ?_⟩
      exact wm_n
    · unfold wsX8_bracketOf_r2
      refine wm_c ⟨(wk_X8_bracket_X8_bracket_r2 _ (wm_8 (wm_4 (wm_2 (wm_1 wm_h))))), ?_⟩
      refine wm_c ⟨(wk_X8_bracket_X8_bracket_r2 _ (wm_16 wm_h)), ?_⟩
      refine wm_c ⟨(wk_X8_bracket_X8_bracket_r2 _ (wm_16 (wm_1 wm_h))), ?_⟩
      refine wm_c ⟨(wk_X8_bracket_X8_bracket_r2 _ (wm_16 (wm_2 wm_h))), ?_⟩
      refine wm_c ⟨(wk_X8_bracket_X8_bracket_r2 _ (wm_16 (wm_2 (wm_1 wm_h)))), ?_⟩
      refine wm_c ⟨(wk_X8_bracket_X8_bracket_r2 _ (wm_16 (wm_4 wm_h))), ?_⟩
      refine wm_c ⟨(wk_X8_bracket_X8_bracket_r2 _ (wm_16 (wm_4 (wm_1 wm_h)))), ?_⟩
      refine wm_c ⟨(wk_X8_bracket_X8_bracket_r2 _ (wm_16 (wm_4 (wm_2 wm_h)))), ?_⟩
      exact wm_n
  · exact wk_X8_bracket_X80
set_option maxRecDepth 20000 in
theorem gX8_bracket_X8_bracketOf : GoodIn wsX8_bracket (wsV RX8 186 RX8 yX8_bracketOf wsX8_bracketOf) := by
  refine goodIn_app (goodIn_sub ?_ ?_) ggX8_bracket_X8_bracketOf
  · exact wm_c ⟨(wk_X8_bracket_X8_bracket_r1 _ (wm_8 (wm_4 wm_h))), wm_c ⟨(wk_X8_bracket_X8_bracket_r1 _ (wm_8 (wm_4 (wm_1 wm_h)))), wm_c ⟨(wk_X8_bracket_X8_bracket_r1 _ (wm_8 (wm_4 (wm_2 wm_h)))), wm_c ⟨(wk_X8_bracket_X8_bracket_r1 _ (wm_2 (wm_1 wm_h))), wm_n⟩⟩⟩⟩
  · decide +kernel
theorem dX8_bracket_0 : decode cX8_bracket 0 = .ok (.aload_n 0, 1) := by decide +kernel
theorem dX8_bracket_1 : decode cX8_bracket 1 = .ok (.iload_n 1, 1) := by decide +kernel
theorem dX8_bracket_2 : decode cX8_bracket 2 = .ok (.iload_n 2, 1) := by decide +kernel
theorem dX8_bracket_3 : decode cX8_bracket 3 = .ok (.iload_n 3, 1) := by decide +kernel
theorem dX8_bracket_4 : decode cX8_bracket 4 = .ok (.invokevirtual 182, 3) := by decide +kernel
theorem dX8_bracket_7 : decode cX8_bracket 7 = .ok (.ifCond .ne 5, 3) := by decide +kernel
theorem dX8_bracket_10 : decode cX8_bracket 10 = .ok (.iconst (-1), 1) := by decide +kernel
theorem dX8_bracket_11 : decode cX8_bracket 11 = .ok (.ireturn, 1) := by decide +kernel
theorem dX8_bracket_12 : decode cX8_bracket 12 = .ok (.aload_n 0, 1) := by decide +kernel
theorem dX8_bracket_13 : decode cX8_bracket 13 = .ok (.iload_n 1, 1) := by decide +kernel
theorem dX8_bracket_14 : decode cX8_bracket 14 = .ok (.iload_n 2, 1) := by decide +kernel
theorem dX8_bracket_15 : decode cX8_bracket 15 = .ok (.iload_n 3, 1) := by decide +kernel
theorem dX8_bracket_16 : decode cX8_bracket 16 = .ok (.invokevirtual 186, 3) := by decide +kernel
theorem dX8_bracket_19 : decode cX8_bracket 19 = .ok (.iconst 0, 1) := by decide +kernel
theorem dX8_bracket_20 : decode cX8_bracket 20 = .ok (.ireturn, 1) := by decide +kernel
set_option maxRecDepth 20000 in
theorem ggX8_shuffle_X8_areSums : GoodIn wsX8_shuffle wsX8_areSums := by
  refine goodIn_sub ?_ gd_X8_areSums
  unfold wsX8_areSums
  refine wm_c ⟨(wk_X8_shuffle_X8_shuffle_r1 _ (wm_8 (wm_2 wm_h))), ?_⟩
  refine wm_c ⟨(wk_X8_shuffle_X8_shuffle_r1 _ (wm_8 (wm_2 (wm_1 wm_h)))), ?_⟩
  refine wm_c ⟨(wk_X8_shuffle_X8_shuffle_r1 _ (wm_8 (wm_4 wm_h))), ?_⟩
  refine wm_c ⟨(wk_X8_shuffle_X8_shuffle_r1 _ (wm_8 (wm_1 wm_h))), ?_⟩
  refine wm_c ⟨(wk_X8_shuffle_X8_shuffle_r1 _ (wm_8 (wm_4 (wm_1 wm_h)))), ?_⟩
  refine wm_c ⟨(wk_X8_shuffle_X8_shuffle_r1 _ (wm_8 (wm_4 (wm_2 wm_h)))), ?_⟩
  refine wm_c ⟨(wk_X8_shuffle_X8_shuffle_r1 _ (wm_8 (wm_4 (wm_2 (wm_1 wm_h))))), ?_⟩
  refine wm_c ⟨(wk_X8_shuffle_X8_shuffle_r1 _ (wm_16 wm_h)), ?_⟩
  refine wm_c ⟨(wk_X8_shuffle_X8_shuffle_r1 _ (wm_16 (wm_1 wm_h))), ?_⟩
  exact wm_n
set_option maxRecDepth 20000 in
theorem gX8_shuffle_X8_areSums : GoodIn wsX8_shuffle (wsV RX8 182 RX8 yX8_areSums wsX8_areSums) := by
  refine goodIn_app (goodIn_sub ?_ ?_) ggX8_shuffle_X8_areSums
  · exact wm_c ⟨(wk_X8_shuffle_X8_shuffle_r1 _ (wm_4 (wm_2 wm_h))), wm_c ⟨(wk_X8_shuffle_X8_shuffle_r1 _ (wm_4 (wm_2 (wm_1 wm_h)))), wm_c ⟨(wk_X8_shuffle_X8_shuffle_r1 _ (wm_8 wm_h)), wm_c ⟨(wk_X8_shuffle_X8_shuffle_r1 _ (wm_8 (wm_1 wm_h))), wm_n⟩⟩⟩⟩
  · decide +kernel
set_option maxRecDepth 20000 in
theorem ggX8_shuffle_X8_letterAt : GoodIn wsX8_shuffle wsX8_letterAt := by
  refine goodIn_sub ?_ gd_X8_letterAt
  unfold wsX8_letterAt
  refine wm_c ⟨(wk_X8_shuffle_X8_shuffle_r1 _ (wm_16 (wm_4 (wm_1 wm_h)))), ?_⟩
  refine wm_a ⟨?_, ?_⟩
  · refine wm_c ⟨(wk_X8_shuffle_X8_shuffle_r1 _ (wm_4 wm_h)), ?_⟩
    refine wm_c ⟨(wk_X8_shuffle_X8_shuffle_r1 _ (wm_1 wm_h)), ?_⟩
    refine wm_c ⟨(wk_X8_shuffle_X8_shuffle_r1 _ (wm_16 (wm_4 (wm_2 wm_h)))), ?_⟩
    refine wm_c ⟨(wk_X8_shuffle_X8_shuffle_r1 _ (wm_2 wm_h)), ?_⟩
    exact wm_n
  · exact wk_X8_shuffle_X80
set_option maxRecDepth 20000 in
theorem gX8_shuffle_X8_letterAt : GoodIn wsX8_shuffle (wsV RX8 106 RX8 yX8_letterAt wsX8_letterAt) := by
  refine goodIn_app (goodIn_sub ?_ ?_) ggX8_shuffle_X8_letterAt
  · exact wm_c ⟨(wk_X8_shuffle_X8_shuffle_r1 _ (wm_16 (wm_2 wm_h))), wm_c ⟨(wk_X8_shuffle_X8_shuffle_r1 _ (wm_16 (wm_2 (wm_1 wm_h)))), wm_c ⟨(wk_X8_shuffle_X8_shuffle_r1 _ (wm_16 (wm_4 wm_h))), wm_c ⟨(wk_X8_shuffle_X8_shuffle_r1 _ (wm_8 (wm_1 wm_h))), wm_n⟩⟩⟩⟩
  · decide +kernel
set_option maxRecDepth 20000 in
theorem ggX8_shuffle_X8_copies : GoodIn wsX8_shuffle wsX8_copies := by
  refine goodIn_sub ?_ gd_X8_copies
  unfold wsX8_copies
  refine wm_c ⟨(wk_X8_shuffle_X8_shuffle_r2 _ (wm_2 wm_h)), ?_⟩
  refine wm_a ⟨?_, ?_⟩
  · refine wm_c ⟨(wk_X8_shuffle_X8_shuffle_r1 _ wm_h), ?_⟩
    refine wm_c ⟨(wk_X8_shuffle_X8_shuffle_r1 _ (wm_2 (wm_1 wm_h))), ?_⟩
    exact wm_n
  · exact wk_X8_shuffle_X80
set_option maxRecDepth 20000 in
theorem gX8_shuffle_X8_copies : GoodIn wsX8_shuffle (wsV RX8 139 RX8 yX8_copies wsX8_copies) := by
  refine goodIn_app (goodIn_sub ?_ ?_) ggX8_shuffle_X8_copies
  · exact wm_c ⟨(wk_X8_shuffle_X8_shuffle_r1 _ (wm_16 (wm_4 (wm_2 (wm_1 wm_h))))), wm_c ⟨(wk_X8_shuffle_X8_shuffle_r2 _ wm_h), wm_c ⟨(wk_X8_shuffle_X8_shuffle_r2 _ (wm_1 wm_h)), wm_c ⟨(wk_X8_shuffle_X8_shuffle_r1 _ (wm_8 (wm_1 wm_h))), wm_n⟩⟩⟩⟩
  · decide +kernel
theorem dX8_shuffle_0 : decode cX8_shuffle 0 = .ok (.aload_n 0, 1) := by decide +kernel
theorem dX8_shuffle_1 : decode cX8_shuffle 1 = .ok (.iload_n 1, 1) := by decide +kernel
theorem dX8_shuffle_2 : decode cX8_shuffle 2 = .ok (.iload_n 2, 1) := by decide +kernel
theorem dX8_shuffle_3 : decode cX8_shuffle 3 = .ok (.iload_n 3, 1) := by decide +kernel
theorem dX8_shuffle_4 : decode cX8_shuffle 4 = .ok (.invokevirtual 182, 3) := by decide +kernel
theorem dX8_shuffle_7 : decode cX8_shuffle 7 = .ok (.ifCond .ne 5, 3) := by decide +kernel
theorem dX8_shuffle_10 : decode cX8_shuffle 10 = .ok (.iconst (-1), 1) := by decide +kernel
theorem dX8_shuffle_11 : decode cX8_shuffle 11 = .ok (.ireturn, 1) := by decide +kernel
theorem dX8_shuffle_12 : decode cX8_shuffle 12 = .ok (.iconst 0, 1) := by decide +kernel
theorem dX8_shuffle_13 : decode cX8_shuffle 13 = .ok (.istore 4, 2) := by decide +kernel
theorem dX8_shuffle_15 : decode cX8_shuffle 15 = .ok (.iload 4, 2) := by decide +kernel
theorem dX8_shuffle_17 : decode cX8_shuffle 17 = .ok (.aload_n 0, 1) := by decide +kernel
theorem dX8_shuffle_18 : decode cX8_shuffle 18 = .ok (.getfield 95, 3) := by decide +kernel
theorem dX8_shuffle_21 : decode cX8_shuffle 21 = .ok (.if_icmp .ge 185, 3) := by decide +kernel
theorem dX8_shuffle_24 : decode cX8_shuffle 24 = .ok (.aload_n 0, 1) := by decide +kernel
theorem dX8_shuffle_25 : decode cX8_shuffle 25 = .ok (.getfield 20, 3) := by decide +kernel
theorem dX8_shuffle_28 : decode cX8_shuffle 28 = .ok (.iload 4, 2) := by decide +kernel
theorem dX8_shuffle_30 : decode cX8_shuffle 30 = .ok (.iaload, 1) := by decide +kernel
theorem dX8_shuffle_31 : decode cX8_shuffle 31 = .ok (.istore 5, 2) := by decide +kernel
theorem dX8_shuffle_33 : decode cX8_shuffle 33 = .ok (.lconst 0, 1) := by decide +kernel
theorem dX8_shuffle_34 : decode cX8_shuffle 34 = .ok (.lstore 6, 2) := by decide +kernel
theorem dX8_shuffle_36 : decode cX8_shuffle 36 = .ok (.iconst 0, 1) := by decide +kernel
theorem dX8_shuffle_37 : decode cX8_shuffle 37 = .ok (.istore 8, 2) := by decide +kernel
theorem dX8_shuffle_39 : decode cX8_shuffle 39 = .ok (.iload 8, 2) := by decide +kernel
theorem dX8_shuffle_41 : decode cX8_shuffle 41 = .ok (.iconst 1, 1) := by decide +kernel
theorem dX8_shuffle_42 : decode cX8_shuffle 42 = .ok (.iload 5, 2) := by decide +kernel
theorem dX8_shuffle_44 : decode cX8_shuffle 44 = .ok (.ishl, 1) := by decide +kernel
theorem dX8_shuffle_45 : decode cX8_shuffle 45 = .ok (.if_icmp .ge 142, 3) := by decide +kernel
theorem dX8_shuffle_48 : decode cX8_shuffle 48 = .ok (.iconst 0, 1) := by decide +kernel
theorem dX8_shuffle_49 : decode cX8_shuffle 49 = .ok (.istore 9, 2) := by decide +kernel
theorem dX8_shuffle_51 : decode cX8_shuffle 51 = .ok (.iconst 0, 1) := by decide +kernel
theorem dX8_shuffle_52 : decode cX8_shuffle 52 = .ok (.istore 10, 2) := by decide +kernel
theorem dX8_shuffle_54 : decode cX8_shuffle 54 = .ok (.iconst 0, 1) := by decide +kernel
theorem dX8_shuffle_55 : decode cX8_shuffle 55 = .ok (.istore 11, 2) := by decide +kernel
theorem dX8_shuffle_57 : decode cX8_shuffle 57 = .ok (.iconst 0, 1) := by decide +kernel
theorem dX8_shuffle_58 : decode cX8_shuffle 58 = .ok (.istore 12, 2) := by decide +kernel
theorem dX8_shuffle_60 : decode cX8_shuffle 60 = .ok (.iload 12, 2) := by decide +kernel
theorem dX8_shuffle_62 : decode cX8_shuffle 62 = .ok (.iload 5, 2) := by decide +kernel
theorem dX8_shuffle_64 : decode cX8_shuffle 64 = .ok (.if_icmp .ge 62, 3) := by decide +kernel
theorem dX8_shuffle_67 : decode cX8_shuffle 67 = .ok (.iload 8, 2) := by decide +kernel
theorem dX8_shuffle_69 : decode cX8_shuffle 69 = .ok (.iload 12, 2) := by decide +kernel
theorem dX8_shuffle_71 : decode cX8_shuffle 71 = .ok (.ishr, 1) := by decide +kernel
theorem dX8_shuffle_72 : decode cX8_shuffle 72 = .ok (.iconst 1, 1) := by decide +kernel
theorem dX8_shuffle_73 : decode cX8_shuffle 73 = .ok (.iand, 1) := by decide +kernel
theorem dX8_shuffle_74 : decode cX8_shuffle 74 = .ok (.iconst 1, 1) := by decide +kernel
theorem dX8_shuffle_75 : decode cX8_shuffle 75 = .ok (.if_icmp .ne 27, 3) := by decide +kernel
theorem dX8_shuffle_78 : decode cX8_shuffle 78 = .ok (.aload_n 0, 1) := by decide +kernel
theorem dX8_shuffle_79 : decode cX8_shuffle 79 = .ok (.getfield 88, 3) := by decide +kernel
theorem dX8_shuffle_82 : decode cX8_shuffle 82 = .ok (.iload 9, 2) := by decide +kernel
theorem dX8_shuffle_84 : decode cX8_shuffle 84 = .ok (.imul, 1) := by decide +kernel
theorem dX8_shuffle_85 : decode cX8_shuffle 85 = .ok (.aload_n 0, 1) := by decide +kernel
theorem dX8_shuffle_86 : decode cX8_shuffle 86 = .ok (.iload 4, 2) := by decide +kernel
theorem dX8_shuffle_88 : decode cX8_shuffle 88 = .ok (.iload 12, 2) := by decide +kernel
theorem dX8_shuffle_90 : decode cX8_shuffle 90 = .ok (.invokevirtual 106, 3) := by decide +kernel
theorem dX8_shuffle_93 : decode cX8_shuffle 93 = .ok (.iadd, 1) := by decide +kernel
theorem dX8_shuffle_94 : decode cX8_shuffle 94 = .ok (.istore 9, 2) := by decide +kernel
theorem dX8_shuffle_96 : decode cX8_shuffle 96 = .ok (.iinc 11 1, 3) := by decide +kernel
theorem dX8_shuffle_99 : decode cX8_shuffle 99 = .ok (.goto 21, 3) := by decide +kernel
theorem dX8_shuffle_102 : decode cX8_shuffle 102 = .ok (.aload_n 0, 1) := by decide +kernel
theorem dX8_shuffle_103 : decode cX8_shuffle 103 = .ok (.getfield 88, 3) := by decide +kernel
theorem dX8_shuffle_106 : decode cX8_shuffle 106 = .ok (.iload 10, 2) := by decide +kernel
theorem dX8_shuffle_108 : decode cX8_shuffle 108 = .ok (.imul, 1) := by decide +kernel
theorem dX8_shuffle_109 : decode cX8_shuffle 109 = .ok (.aload_n 0, 1) := by decide +kernel
theorem dX8_shuffle_110 : decode cX8_shuffle 110 = .ok (.iload 4, 2) := by decide +kernel
theorem dX8_shuffle_112 : decode cX8_shuffle 112 = .ok (.iload 12, 2) := by decide +kernel
theorem dX8_shuffle_114 : decode cX8_shuffle 114 = .ok (.invokevirtual 106, 3) := by decide +kernel
theorem dX8_shuffle_117 : decode cX8_shuffle 117 = .ok (.iadd, 1) := by decide +kernel
theorem dX8_shuffle_118 : decode cX8_shuffle 118 = .ok (.istore 10, 2) := by decide +kernel
theorem dX8_shuffle_120 : decode cX8_shuffle 120 = .ok (.iinc 12 1, 3) := by decide +kernel
theorem dX8_shuffle_123 : decode cX8_shuffle 123 = .ok (.goto (-63), 3) := by decide +kernel
theorem dX8_shuffle_126 : decode cX8_shuffle 126 = .ok (.lload 6, 2) := by decide +kernel
theorem dX8_shuffle_128 : decode cX8_shuffle 128 = .ok (.aload_n 0, 1) := by decide +kernel
theorem dX8_shuffle_129 : decode cX8_shuffle 129 = .ok (.getfield 23, 3) := by decide +kernel
theorem dX8_shuffle_132 : decode cX8_shuffle 132 = .ok (.sipush 364, 3) := by decide +kernel
theorem dX8_shuffle_135 : decode cX8_shuffle 135 = .ok (.iload_n 2, 1) := by decide +kernel
theorem dX8_shuffle_136 : decode cX8_shuffle 136 = .ok (.imul, 1) := by decide +kernel
theorem dX8_shuffle_137 : decode cX8_shuffle 137 = .ok (.aload_n 0, 1) := by decide +kernel
theorem dX8_shuffle_138 : decode cX8_shuffle 138 = .ok (.getfield 17, 3) := by decide +kernel
theorem dX8_shuffle_141 : decode cX8_shuffle 141 = .ok (.iload 11, 2) := by decide +kernel
theorem dX8_shuffle_143 : decode cX8_shuffle 143 = .ok (.iaload, 1) := by decide +kernel
theorem dX8_shuffle_144 : decode cX8_shuffle 144 = .ok (.iadd, 1) := by decide +kernel
theorem dX8_shuffle_145 : decode cX8_shuffle 145 = .ok (.iload 9, 2) := by decide +kernel
theorem dX8_shuffle_147 : decode cX8_shuffle 147 = .ok (.iadd, 1) := by decide +kernel
theorem dX8_shuffle_148 : decode cX8_shuffle 148 = .ok (.laload, 1) := by decide +kernel
theorem dX8_shuffle_149 : decode cX8_shuffle 149 = .ok (.aload_n 0, 1) := by decide +kernel
theorem dX8_shuffle_150 : decode cX8_shuffle 150 = .ok (.getfield 23, 3) := by decide +kernel
theorem dX8_shuffle_153 : decode cX8_shuffle 153 = .ok (.sipush 364, 3) := by decide +kernel
theorem dX8_shuffle_156 : decode cX8_shuffle 156 = .ok (.iload_n 3, 1) := by decide +kernel
theorem dX8_shuffle_157 : decode cX8_shuffle 157 = .ok (.imul, 1) := by decide +kernel
theorem dX8_shuffle_158 : decode cX8_shuffle 158 = .ok (.aload_n 0, 1) := by decide +kernel
theorem dX8_shuffle_159 : decode cX8_shuffle 159 = .ok (.getfield 17, 3) := by decide +kernel
theorem dX8_shuffle_162 : decode cX8_shuffle 162 = .ok (.iload 5, 2) := by decide +kernel
theorem dX8_shuffle_164 : decode cX8_shuffle 164 = .ok (.iload 11, 2) := by decide +kernel
theorem dX8_shuffle_166 : decode cX8_shuffle 166 = .ok (.isub, 1) := by decide +kernel
theorem dX8_shuffle_167 : decode cX8_shuffle 167 = .ok (.iaload, 1) := by decide +kernel
theorem dX8_shuffle_168 : decode cX8_shuffle 168 = .ok (.iadd, 1) := by decide +kernel
theorem dX8_shuffle_169 : decode cX8_shuffle 169 = .ok (.iload 10, 2) := by decide +kernel
theorem dX8_shuffle_171 : decode cX8_shuffle 171 = .ok (.iadd, 1) := by decide +kernel
theorem dX8_shuffle_172 : decode cX8_shuffle 172 = .ok (.laload, 1) := by decide +kernel
theorem dX8_shuffle_173 : decode cX8_shuffle 173 = .ok (.lmul, 1) := by decide +kernel
theorem dX8_shuffle_174 : decode cX8_shuffle 174 = .ok (.ladd, 1) := by decide +kernel
theorem dX8_shuffle_175 : decode cX8_shuffle 175 = .ok (.ldc2_w 3, 3) := by decide +kernel
theorem dX8_shuffle_178 : decode cX8_shuffle 178 = .ok (.lrem, 1) := by decide +kernel
theorem dX8_shuffle_179 : decode cX8_shuffle 179 = .ok (.lstore 6, 2) := by decide +kernel
theorem dX8_shuffle_181 : decode cX8_shuffle 181 = .ok (.iinc 8 1, 3) := by decide +kernel
theorem dX8_shuffle_184 : decode cX8_shuffle 184 = .ok (.goto (-145), 3) := by decide +kernel
theorem dX8_shuffle_187 : decode cX8_shuffle 187 = .ok (.aload_n 0, 1) := by decide +kernel
theorem dX8_shuffle_188 : decode cX8_shuffle 188 = .ok (.getfield 23, 3) := by decide +kernel
theorem dX8_shuffle_191 : decode cX8_shuffle 191 = .ok (.sipush 2912, 3) := by decide +kernel
theorem dX8_shuffle_194 : decode cX8_shuffle 194 = .ok (.iload 4, 2) := by decide +kernel
theorem dX8_shuffle_196 : decode cX8_shuffle 196 = .ok (.iadd, 1) := by decide +kernel
theorem dX8_shuffle_197 : decode cX8_shuffle 197 = .ok (.lload 6, 2) := by decide +kernel
theorem dX8_shuffle_199 : decode cX8_shuffle 199 = .ok (.lastore, 1) := by decide +kernel
theorem dX8_shuffle_200 : decode cX8_shuffle 200 = .ok (.iinc 4 1, 3) := by decide +kernel
theorem dX8_shuffle_203 : decode cX8_shuffle 203 = .ok (.goto (-188), 3) := by decide +kernel
theorem dX8_shuffle_206 : decode cX8_shuffle 206 = .ok (.aload_n 0, 1) := by decide +kernel
theorem dX8_shuffle_207 : decode cX8_shuffle 207 = .ok (.iload_n 1, 1) := by decide +kernel
theorem dX8_shuffle_208 : decode cX8_shuffle 208 = .ok (.bipush 8, 2) := by decide +kernel
theorem dX8_shuffle_210 : decode cX8_shuffle 210 = .ok (.invokevirtual 139, 3) := by decide +kernel
theorem dX8_shuffle_213 : decode cX8_shuffle 213 = .ok (.iconst 0, 1) := by decide +kernel
theorem dX8_shuffle_214 : decode cX8_shuffle 214 = .ok (.ireturn, 1) := by decide +kernel
set_option maxRecDepth 20000 in
theorem ggX8_turn_X8_isSum : GoodIn wsX8_turn wsX8_isSum := by
  refine goodIn_sub ?_ gd_X8_isSum
  unfold wsX8_isSum
  refine wm_c ⟨(wk_X8_turn_X8_turn_r1 _ (wm_8 wm_h)), ?_⟩
  refine wm_c ⟨(wk_X8_turn_X8_turn_r1 _ (wm_8 (wm_1 wm_h))), ?_⟩
  refine wm_c ⟨(wk_X8_turn_X8_turn_r1 _ (wm_8 (wm_2 wm_h))), ?_⟩
  refine wm_c ⟨(wk_X8_turn_X8_turn_r1 _ (wm_8 (wm_2 (wm_1 wm_h)))), ?_⟩
  refine wm_c ⟨(wk_X8_turn_X8_turn_r1 _ (wm_4 (wm_2 (wm_1 wm_h)))), ?_⟩
  refine wm_c ⟨(wk_X8_turn_X8_turn_r1 _ (wm_8 (wm_4 wm_h))), ?_⟩
  exact wm_n
set_option maxRecDepth 20000 in
theorem gX8_turn_X8_isSum : GoodIn wsX8_turn (va_wsS RX8 157 yX8_isSum wsX8_isSum) := goodIn_app (goodIn_of _ (by decide +kernel)) ggX8_turn_X8_isSum
set_option maxRecDepth 20000 in
theorem ggX8_turn_X8_letterAt : GoodIn wsX8_turn wsX8_letterAt := by
  refine goodIn_sub ?_ gd_X8_letterAt
  unfold wsX8_letterAt
  refine wm_c ⟨(wk_X8_turn_X8_turn_r1 _ (wm_16 wm_h)), ?_⟩
  refine wm_a ⟨?_, ?_⟩
  · refine wm_c ⟨(wk_X8_turn_X8_turn_r1 _ (wm_4 wm_h)), ?_⟩
    refine wm_c ⟨(wk_X8_turn_X8_turn_r1 _ (wm_1 wm_h)), ?_⟩
    refine wm_c ⟨(wk_X8_turn_X8_turn_r1 _ (wm_16 (wm_1 wm_h))), ?_⟩
    refine wm_c ⟨(wk_X8_turn_X8_turn_r1 _ (wm_2 wm_h)), ?_⟩
    exact wm_n
  · exact wk_X8_turn_X80
set_option maxRecDepth 20000 in
theorem gX8_turn_X8_letterAt : GoodIn wsX8_turn (wsV RX8 106 RX8 yX8_letterAt wsX8_letterAt) := by
  refine goodIn_app (goodIn_sub ?_ ?_) ggX8_turn_X8_letterAt
  · exact wm_c ⟨(wk_X8_turn_X8_turn_r1 _ (wm_8 (wm_4 (wm_1 wm_h)))), wm_c ⟨(wk_X8_turn_X8_turn_r1 _ (wm_8 (wm_4 (wm_2 wm_h)))), wm_c ⟨(wk_X8_turn_X8_turn_r1 _ (wm_8 (wm_4 (wm_2 (wm_1 wm_h))))), wm_c ⟨(wk_X8_turn_X8_turn_r1 _ (wm_4 (wm_2 (wm_1 wm_h)))), wm_n⟩⟩⟩⟩
  · decide +kernel
set_option maxRecDepth 20000 in
theorem ggX8_turn_X8_mod : GoodIn wsX8_turn wsX8_mod := by
  refine goodIn_sub ?_ gd_X8_mod
  unfold wsX8_mod
  refine wm_c ⟨(wk_X8_turn_X8_turn_r1 _ (wm_16 (wm_4 wm_h))), ?_⟩
  refine wm_c ⟨(wk_X8_turn_X8_turn_r1 _ (wm_16 (wm_4 (wm_1 wm_h)))), ?_⟩
  exact wm_n
set_option maxRecDepth 20000 in
theorem gX8_turn_X8_mod : GoodIn wsX8_turn (va_wsS RX8 126 yX8_mod wsX8_mod) := goodIn_app (goodIn_of _ (by decide +kernel)) ggX8_turn_X8_mod
set_option maxRecDepth 20000 in
theorem ggX8_turn_X8_copies : GoodIn wsX8_turn wsX8_copies := by
  refine goodIn_sub ?_ gd_X8_copies
  unfold wsX8_copies
  refine wm_c ⟨(wk_X8_turn_X8_turn_r2 _ (wm_1 wm_h)), ?_⟩
  refine wm_a ⟨?_, ?_⟩
  · refine wm_c ⟨(wk_X8_turn_X8_turn_r1 _ wm_h), ?_⟩
    refine wm_c ⟨(wk_X8_turn_X8_turn_r1 _ (wm_2 (wm_1 wm_h))), ?_⟩
    exact wm_n
  · exact wk_X8_turn_X80
set_option maxRecDepth 20000 in
theorem gX8_turn_X8_copies : GoodIn wsX8_turn (wsV RX8 139 RX8 yX8_copies wsX8_copies) := by
  refine goodIn_app (goodIn_sub ?_ ?_) ggX8_turn_X8_copies
  · exact wm_c ⟨(wk_X8_turn_X8_turn_r1 _ (wm_16 (wm_4 (wm_2 wm_h)))), wm_c ⟨(wk_X8_turn_X8_turn_r1 _ (wm_16 (wm_4 (wm_2 (wm_1 wm_h))))), wm_c ⟨(wk_X8_turn_X8_turn_r2 _ wm_h), wm_c ⟨(wk_X8_turn_X8_turn_r1 _ (wm_4 (wm_2 (wm_1 wm_h)))), wm_n⟩⟩⟩⟩
  · decide +kernel
theorem dX8_turn_0 : decode cX8_turn 0 = .ok (.iload_n 1, 1) := by decide +kernel
theorem dX8_turn_1 : decode cX8_turn 1 = .ok (.invokestatic 157, 3) := by decide +kernel
theorem dX8_turn_4 : decode cX8_turn 4 = .ok (.ifCond .eq 10, 3) := by decide +kernel
theorem dX8_turn_7 : decode cX8_turn 7 = .ok (.iload_n 2, 1) := by decide +kernel
theorem dX8_turn_8 : decode cX8_turn 8 = .ok (.invokestatic 157, 3) := by decide +kernel
theorem dX8_turn_11 : decode cX8_turn 11 = .ok (.ifCond .ne 5, 3) := by decide +kernel
theorem dX8_turn_14 : decode cX8_turn 14 = .ok (.iconst (-1), 1) := by decide +kernel
theorem dX8_turn_15 : decode cX8_turn 15 = .ok (.ireturn, 1) := by decide +kernel
theorem dX8_turn_16 : decode cX8_turn 16 = .ok (.iconst 0, 1) := by decide +kernel
theorem dX8_turn_17 : decode cX8_turn 17 = .ok (.istore_n 3, 1) := by decide +kernel
theorem dX8_turn_18 : decode cX8_turn 18 = .ok (.iload_n 3, 1) := by decide +kernel
theorem dX8_turn_19 : decode cX8_turn 19 = .ok (.aload_n 0, 1) := by decide +kernel
theorem dX8_turn_20 : decode cX8_turn 20 = .ok (.getfield 95, 3) := by decide +kernel
theorem dX8_turn_23 : decode cX8_turn 23 = .ok (.if_icmp .ge 110, 3) := by decide +kernel
theorem dX8_turn_26 : decode cX8_turn 26 = .ok (.iconst 0, 1) := by decide +kernel
theorem dX8_turn_27 : decode cX8_turn 27 = .ok (.istore 4, 2) := by decide +kernel
theorem dX8_turn_29 : decode cX8_turn 29 = .ok (.aload_n 0, 1) := by decide +kernel
theorem dX8_turn_30 : decode cX8_turn 30 = .ok (.getfield 20, 3) := by decide +kernel
theorem dX8_turn_33 : decode cX8_turn 33 = .ok (.iload_n 3, 1) := by decide +kernel
theorem dX8_turn_34 : decode cX8_turn 34 = .ok (.iaload, 1) := by decide +kernel
theorem dX8_turn_35 : decode cX8_turn 35 = .ok (.iconst 1, 1) := by decide +kernel
theorem dX8_turn_36 : decode cX8_turn 36 = .ok (.isub, 1) := by decide +kernel
theorem dX8_turn_37 : decode cX8_turn 37 = .ok (.istore 5, 2) := by decide +kernel
theorem dX8_turn_39 : decode cX8_turn 39 = .ok (.iload 5, 2) := by decide +kernel
theorem dX8_turn_41 : decode cX8_turn 41 = .ok (.ifCond .lt 26, 3) := by decide +kernel
theorem dX8_turn_44 : decode cX8_turn 44 = .ok (.aload_n 0, 1) := by decide +kernel
theorem dX8_turn_45 : decode cX8_turn 45 = .ok (.getfield 88, 3) := by decide +kernel
theorem dX8_turn_48 : decode cX8_turn 48 = .ok (.iload 4, 2) := by decide +kernel
theorem dX8_turn_50 : decode cX8_turn 50 = .ok (.imul, 1) := by decide +kernel
theorem dX8_turn_51 : decode cX8_turn 51 = .ok (.aload_n 0, 1) := by decide +kernel
theorem dX8_turn_52 : decode cX8_turn 52 = .ok (.iload_n 3, 1) := by decide +kernel
theorem dX8_turn_53 : decode cX8_turn 53 = .ok (.iload 5, 2) := by decide +kernel
theorem dX8_turn_55 : decode cX8_turn 55 = .ok (.invokevirtual 106, 3) := by decide +kernel
theorem dX8_turn_58 : decode cX8_turn 58 = .ok (.iadd, 1) := by decide +kernel
theorem dX8_turn_59 : decode cX8_turn 59 = .ok (.istore 4, 2) := by decide +kernel
theorem dX8_turn_61 : decode cX8_turn 61 = .ok (.iinc 5 (-1), 3) := by decide +kernel
theorem dX8_turn_64 : decode cX8_turn 64 = .ok (.goto (-25), 3) := by decide +kernel
theorem dX8_turn_67 : decode cX8_turn 67 = .ok (.aload_n 0, 1) := by decide +kernel
theorem dX8_turn_68 : decode cX8_turn 68 = .ok (.getfield 23, 3) := by decide +kernel
theorem dX8_turn_71 : decode cX8_turn 71 = .ok (.sipush 364, 3) := by decide +kernel
theorem dX8_turn_74 : decode cX8_turn 74 = .ok (.iload_n 2, 1) := by decide +kernel
theorem dX8_turn_75 : decode cX8_turn 75 = .ok (.imul, 1) := by decide +kernel
theorem dX8_turn_76 : decode cX8_turn 76 = .ok (.iload_n 3, 1) := by decide +kernel
theorem dX8_turn_77 : decode cX8_turn 77 = .ok (.iadd, 1) := by decide +kernel
theorem dX8_turn_78 : decode cX8_turn 78 = .ok (.laload, 1) := by decide +kernel
theorem dX8_turn_79 : decode cX8_turn 79 = .ok (.lstore 5, 2) := by decide +kernel
theorem dX8_turn_81 : decode cX8_turn 81 = .ok (.aload_n 0, 1) := by decide +kernel
theorem dX8_turn_82 : decode cX8_turn 82 = .ok (.getfield 23, 3) := by decide +kernel
theorem dX8_turn_85 : decode cX8_turn 85 = .ok (.sipush 2912, 3) := by decide +kernel
theorem dX8_turn_88 : decode cX8_turn 88 = .ok (.aload_n 0, 1) := by decide +kernel
theorem dX8_turn_89 : decode cX8_turn 89 = .ok (.getfield 17, 3) := by decide +kernel
theorem dX8_turn_92 : decode cX8_turn 92 = .ok (.aload_n 0, 1) := by decide +kernel
theorem dX8_turn_93 : decode cX8_turn 93 = .ok (.getfield 20, 3) := by decide +kernel
theorem dX8_turn_96 : decode cX8_turn 96 = .ok (.iload_n 3, 1) := by decide +kernel
theorem dX8_turn_97 : decode cX8_turn 97 = .ok (.iaload, 1) := by decide +kernel
theorem dX8_turn_98 : decode cX8_turn 98 = .ok (.iaload, 1) := by decide +kernel
theorem dX8_turn_99 : decode cX8_turn 99 = .ok (.iadd, 1) := by decide +kernel
theorem dX8_turn_100 : decode cX8_turn 100 = .ok (.iload 4, 2) := by decide +kernel
theorem dX8_turn_102 : decode cX8_turn 102 = .ok (.iadd, 1) := by decide +kernel
theorem dX8_turn_103 : decode cX8_turn 103 = .ok (.aload_n 0, 1) := by decide +kernel
theorem dX8_turn_104 : decode cX8_turn 104 = .ok (.getfield 20, 3) := by decide +kernel
theorem dX8_turn_107 : decode cX8_turn 107 = .ok (.iload_n 3, 1) := by decide +kernel
theorem dX8_turn_108 : decode cX8_turn 108 = .ok (.iaload, 1) := by decide +kernel
theorem dX8_turn_109 : decode cX8_turn 109 = .ok (.iconst 2, 1) := by decide +kernel
theorem dX8_turn_110 : decode cX8_turn 110 = .ok (.irem, 1) := by decide +kernel
theorem dX8_turn_111 : decode cX8_turn 111 = .ok (.iconst 1, 1) := by decide +kernel
theorem dX8_turn_112 : decode cX8_turn 112 = .ok (.if_icmp .ne 12, 3) := by decide +kernel
theorem dX8_turn_115 : decode cX8_turn 115 = .ok (.lload 5, 2) := by decide +kernel
theorem dX8_turn_117 : decode cX8_turn 117 = .ok (.lneg, 1) := by decide +kernel
theorem dX8_turn_118 : decode cX8_turn 118 = .ok (.invokestatic 126, 3) := by decide +kernel
theorem dX8_turn_121 : decode cX8_turn 121 = .ok (.goto 5, 3) := by decide +kernel
theorem dX8_turn_124 : decode cX8_turn 124 = .ok (.lload 5, 2) := by decide +kernel
theorem dX8_turn_126 : decode cX8_turn 126 = .ok (.lastore, 1) := by decide +kernel
theorem dX8_turn_127 : decode cX8_turn 127 = .ok (.iinc 3 1, 3) := by decide +kernel
theorem dX8_turn_130 : decode cX8_turn 130 = .ok (.goto (-112), 3) := by decide +kernel
theorem dX8_turn_133 : decode cX8_turn 133 = .ok (.aload_n 0, 1) := by decide +kernel
theorem dX8_turn_134 : decode cX8_turn 134 = .ok (.iload_n 1, 1) := by decide +kernel
theorem dX8_turn_135 : decode cX8_turn 135 = .ok (.bipush 8, 2) := by decide +kernel
theorem dX8_turn_137 : decode cX8_turn 137 = .ok (.invokevirtual 139, 3) := by decide +kernel
theorem dX8_turn_140 : decode cX8_turn 140 = .ok (.iconst 0, 1) := by decide +kernel
theorem dX8_turn_141 : decode cX8_turn 141 = .ok (.ireturn, 1) := by decide +kernel
set_option maxRecDepth 20000 in
theorem ggX8_seriesOf_X8_isSum : GoodIn wsX8_seriesOf wsX8_isSum := by
  refine goodIn_sub ?_ gd_X8_isSum
  unfold wsX8_isSum
  refine wm_c ⟨(wk_X8_seriesOf_X8_seriesOf_r1 _ (wm_4 wm_h)), ?_⟩
  refine wm_c ⟨(wk_X8_seriesOf_X8_seriesOf_r1 _ (wm_4 (wm_1 wm_h))), ?_⟩
  refine wm_c ⟨(wk_X8_seriesOf_X8_seriesOf_r1 _ (wm_4 (wm_2 wm_h))), ?_⟩
  refine wm_c ⟨(wk_X8_seriesOf_X8_seriesOf_r1 _ (wm_4 (wm_2 (wm_1 wm_h)))), ?_⟩
  refine wm_c ⟨(wk_X8_seriesOf_X8_seriesOf_r1 _ (wm_2 (wm_1 wm_h))), ?_⟩
  refine wm_c ⟨(wk_X8_seriesOf_X8_seriesOf_r1 _ (wm_8 wm_h)), ?_⟩
  exact wm_n
set_option maxRecDepth 20000 in
theorem gX8_seriesOf_X8_isSum : GoodIn wsX8_seriesOf (va_wsS RX8 157 yX8_isSum wsX8_isSum) := goodIn_app (goodIn_of _ (by decide +kernel)) ggX8_seriesOf_X8_isSum
set_option maxRecDepth 20000 in
theorem ggX8_seriesOf_X8_series : GoodIn wsX8_seriesOf wsX8_series := by
  refine goodIn_sub ?_ gd_X8_series
  unfold wsX8_series
  refine wm_c ⟨(wk_X8_seriesOf_X8_seriesOf_r1 _ (wm_8 (wm_4 wm_h))), ?_⟩
  refine wm_a ⟨?_, ?_⟩
  · refine wm_a ⟨?_, ?_⟩
    · unfold wsX8_series_r1
      refine wm_c ⟨(wk_X8_seriesOf_X8_seriesOf_r1 _ wm_h), ?_⟩
      refine wm_c ⟨(wk_X8_seriesOf_X8_seriesOf_r1 _ (wm_8 (wm_4 (wm_1 wm_h)))), ?_⟩
      refine wm_c ⟨(wk_X8_seriesOf_X8_seriesOf_r1 _ (wm_8 (wm_4 (wm_2 wm_h)))), ?_⟩
      refine wm_c ⟨(wk_X8_seriesOf_X8_seriesOf_r1 _ (wm_8 (wm_4 (wm_2 (wm_1 wm_h))))), ?_⟩
      refine wm_c ⟨(wk_X8_seriesOf_X8_seriesOf_r1 _ (wm_16 wm_h)), ?_⟩
      refine wm_c ⟨(wk_X8_seriesOf_X8_seriesOf_r1 _ (wm_16 (wm_1 wm_h))), ?_⟩
      refine wm_c ⟨(wk_X8_seriesOf_X8_seriesOf_r1 _ (wm_2 (wm_1 wm_h))), ?_⟩
      refine wm_c ⟨(wk_X8_seriesOf_X8_seriesOf_r1 _ (wm_16 (wm_2 wm_h))), ?_⟩
      refine wm_c ⟨(wk_X8_seriesOf_X8_seriesOf_r1 _ (wm_16 (wm_2 (wm_1 wm_h)))), ?_⟩
      refine wm_c ⟨(wk_X8_seriesOf_X8_seriesOf_r1 _ (wm_16 (wm_4 wm_h))), ?_⟩
      refine wm_c ⟨(wk_X8_seriesOf_X8_seriesOf_r1 _ (wm_16 (wm_4 (wm_1 wm_h)))), ?_⟩
      refine wm_c ⟨(wk_X8_seriesOf_X8_seriesOf_r1 _ (wm_16 (wm_4 (wm_2 wm_h)))), ?_⟩
      refine wm_c ⟨(wk_X8_seriesOf_X8_seriesOf_r1 _ (wm_16 (wm_4 (wm_2 (wm_1 wm_h))))), ?_⟩
      refine wm_c ⟨(wk_X8_seriesOf_X8_seriesOf_r2 _ wm_h), ?_⟩
      refine wm_c ⟨(wk_X8_seriesOf_X8_seriesOf_r2 _ (wm_1 wm_h)), ?_⟩
      refine wm_c ⟨(wk_X8_seriesOf_X8_seriesOf_r2 _ (wm_2 wm_h)), ?_⟩
      refine wm_c ⟨(wk_X8_seriesOf_X8_seriesOf_r2 _ (wm_2 (wm_1 wm_h))), ?_⟩
      refine wm_c ⟨(wk_X8_seriesOf_X8_seriesOf_r2 _ (wm_4 wm_h)), ?_⟩
      refine wm_c ⟨(wk_X8_seriesOf_X8_seriesOf_r2 _ (wm_4 (wm_1 wm_h))), ?_⟩
      refine wm_c ⟨(wk_X8_seriesOf_X8_seriesOf_r2 _ (wm_4 (wm_2 wm_h))), ?_⟩
      refine wm_c ⟨(wk_X8_seriesOf_X8_seriesOf_r2 _ (wm_4 (wm_2 (wm_1 wm_h)))), ?_⟩
      refine wm_c ⟨(wk_X8_seriesOf_X8_seriesOf_r2 _ (wm_8 wm_h)), ?_⟩
      refine wm_c ⟨(wk_X8_seriesOf_X8_seriesOf_r2 _ (wm_8 (wm_1 wm_h))), ?_⟩
      refine wm_c ⟨(wk_X8_seriesOf_X8_seriesOf_r2 _ (wm_8 (wm_2 wm_h))), ?_⟩
      exact wm_n
    · unfold wsX8_series_r2
      refine wm_c ⟨(wk_X8_seriesOf_X8_seriesOf_r2 _ (wm_8 (wm_2 (wm_1 wm_h)))), ?_⟩
      refine wm_c ⟨(wk_X8_seriesOf_X8_seriesOf_r2 _ (wm_8 (wm_4 wm_h))), ?_⟩
      refine wm_c ⟨(wk_X8_seriesOf_X8_seriesOf_r2 _ (wm_8 (wm_4 (wm_1 wm_h)))), ?_⟩
      refine wm_c ⟨(wk_X8_seriesOf_X8_seriesOf_r2 _ (wm_8 (wm_4 (wm_2 wm_h)))), ?_⟩
      refine wm_c ⟨(wk_X8_seriesOf_X8_seriesOf_r2 _ (wm_8 (wm_4 (wm_2 (wm_1 wm_h))))), ?_⟩
      refine wm_c ⟨(wk_X8_seriesOf_X8_seriesOf_r2 _ (wm_16 wm_h)), ?_⟩
      refine wm_c ⟨(wk_X8_seriesOf_X8_seriesOf_r2 _ (wm_16 (wm_1 wm_h))), ?_⟩
      refine wm_c ⟨(wk_X8_seriesOf_X8_seriesOf_r2 _ (wm_16 (wm_2 wm_h))), ?_⟩
      refine wm_c ⟨(wk_X8_seriesOf_X8_seriesOf_r2 _ (wm_16 (wm_2 (wm_1 wm_h)))), ?_⟩
      refine wm_c ⟨(wk_X8_seriesOf_X8_seriesOf_r2 _ (wm_16 (wm_4 wm_h))), ?_⟩
      refine wm_c ⟨(wk_X8_seriesOf_X8_seriesOf_r2 _ (wm_16 (wm_4 (wm_1 wm_h)))), ?_⟩
      refine wm_c ⟨(wk_X8_seriesOf_X8_seriesOf_r2 _ (wm_16 (wm_4 (wm_2 wm_h)))), ?_⟩
      refine wm_c ⟨(wk_X8_seriesOf_X8_seriesOf_r2 _ (wm_16 (wm_4 (wm_2 (wm_1 wm_h))))), ?_⟩
      refine wm_c ⟨(wk_X8_seriesOf_X8_seriesOf_r3 _ wm_h), ?_⟩
      refine wm_c ⟨(wk_X8_seriesOf_X8_seriesOf_r3 _ (wm_1 wm_h)), ?_⟩
      refine wm_c ⟨(wk_X8_seriesOf_X8_seriesOf_r3 _ (wm_2 wm_h)), ?_⟩
      exact wm_n
  · exact wk_X8_seriesOf_X80
set_option maxRecDepth 20000 in
theorem gX8_seriesOf_X8_series : GoodIn wsX8_seriesOf (wsV RX8 189 RX8 yX8_series wsX8_series) := by
  refine goodIn_app (goodIn_sub ?_ ?_) ggX8_seriesOf_X8_series
  · exact wm_c ⟨(wk_X8_seriesOf_X8_seriesOf_r1 _ (wm_8 (wm_1 wm_h))), wm_c ⟨(wk_X8_seriesOf_X8_seriesOf_r1 _ (wm_8 (wm_2 wm_h))), wm_c ⟨(wk_X8_seriesOf_X8_seriesOf_r1 _ (wm_8 (wm_2 (wm_1 wm_h)))), wm_c ⟨(wk_X8_seriesOf_X8_seriesOf_r1 _ (wm_2 (wm_1 wm_h))), wm_n⟩⟩⟩⟩
  · decide +kernel
theorem dX8_seriesOf_0 : decode cX8_seriesOf 0 = .ok (.iload_n 1, 1) := by decide +kernel
theorem dX8_seriesOf_1 : decode cX8_seriesOf 1 = .ok (.invokestatic 157, 3) := by decide +kernel
theorem dX8_seriesOf_4 : decode cX8_seriesOf 4 = .ok (.ifCond .eq 10, 3) := by decide +kernel
theorem dX8_seriesOf_7 : decode cX8_seriesOf 7 = .ok (.iload_n 2, 1) := by decide +kernel
theorem dX8_seriesOf_8 : decode cX8_seriesOf 8 = .ok (.invokestatic 157, 3) := by decide +kernel
theorem dX8_seriesOf_11 : decode cX8_seriesOf 11 = .ok (.ifCond .ne 5, 3) := by decide +kernel
theorem dX8_seriesOf_14 : decode cX8_seriesOf 14 = .ok (.iconst (-1), 1) := by decide +kernel
theorem dX8_seriesOf_15 : decode cX8_seriesOf 15 = .ok (.ireturn, 1) := by decide +kernel
theorem dX8_seriesOf_16 : decode cX8_seriesOf 16 = .ok (.aload_n 0, 1) := by decide +kernel
theorem dX8_seriesOf_17 : decode cX8_seriesOf 17 = .ok (.getfield 23, 3) := by decide +kernel
theorem dX8_seriesOf_20 : decode cX8_seriesOf 20 = .ok (.sipush 364, 3) := by decide +kernel
theorem dX8_seriesOf_23 : decode cX8_seriesOf 23 = .ok (.iload_n 2, 1) := by decide +kernel
theorem dX8_seriesOf_24 : decode cX8_seriesOf 24 = .ok (.imul, 1) := by decide +kernel
theorem dX8_seriesOf_25 : decode cX8_seriesOf 25 = .ok (.laload, 1) := by decide +kernel
theorem dX8_seriesOf_26 : decode cX8_seriesOf 26 = .ok (.iload_n 3, 1) := by decide +kernel
theorem dX8_seriesOf_27 : decode cX8_seriesOf 27 = .ok (.ifCond .ne 7, 3) := by decide +kernel
theorem dX8_seriesOf_30 : decode cX8_seriesOf 30 = .ok (.lconst 0, 1) := by decide +kernel
theorem dX8_seriesOf_31 : decode cX8_seriesOf 31 = .ok (.goto 4, 3) := by decide +kernel
theorem dX8_seriesOf_34 : decode cX8_seriesOf 34 = .ok (.lconst 1, 1) := by decide +kernel
theorem dX8_seriesOf_35 : decode cX8_seriesOf 35 = .ok (.lcmp, 1) := by decide +kernel
theorem dX8_seriesOf_36 : decode cX8_seriesOf 36 = .ok (.ifCond .eq 6, 3) := by decide +kernel
theorem dX8_seriesOf_39 : decode cX8_seriesOf 39 = .ok (.bipush (-3), 2) := by decide +kernel
theorem dX8_seriesOf_41 : decode cX8_seriesOf 41 = .ok (.ireturn, 1) := by decide +kernel
theorem dX8_seriesOf_42 : decode cX8_seriesOf 42 = .ok (.aload_n 0, 1) := by decide +kernel
theorem dX8_seriesOf_43 : decode cX8_seriesOf 43 = .ok (.iload_n 1, 1) := by decide +kernel
theorem dX8_seriesOf_44 : decode cX8_seriesOf 44 = .ok (.iload_n 2, 1) := by decide +kernel
theorem dX8_seriesOf_45 : decode cX8_seriesOf 45 = .ok (.iload_n 3, 1) := by decide +kernel
theorem dX8_seriesOf_46 : decode cX8_seriesOf 46 = .ok (.invokevirtual 189, 3) := by decide +kernel
theorem dX8_seriesOf_49 : decode cX8_seriesOf 49 = .ok (.iconst 0, 1) := by decide +kernel
theorem dX8_seriesOf_50 : decode cX8_seriesOf 50 = .ok (.ireturn, 1) := by decide +kernel
set_option maxRecDepth 20000 in
theorem ggX8_exp_X8_seriesOf : GoodIn wsX8_exp wsX8_seriesOf := by
  refine goodIn_sub ?_ gd_X8_seriesOf
  unfold wsX8_seriesOf
  refine wm_c ⟨(wk_X8_exp_X8_exp_r1 _ (wm_4 wm_h)), ?_⟩
  refine wm_a ⟨?_, ?_⟩
  · refine wm_a ⟨?_, ?_⟩
    · unfold wsX8_seriesOf_r1
      refine wm_c ⟨(wk_X8_exp_X8_exp_r1 _ (wm_4 (wm_1 wm_h))), ?_⟩
      refine wm_c ⟨(wk_X8_exp_X8_exp_r1 _ (wm_4 (wm_2 wm_h))), ?_⟩
      refine wm_c ⟨(wk_X8_exp_X8_exp_r1 _ (wm_4 (wm_2 (wm_1 wm_h)))), ?_⟩
      refine wm_c ⟨(wk_X8_exp_X8_exp_r1 _ (wm_2 (wm_1 wm_h))), ?_⟩
      refine wm_c ⟨(wk_X8_exp_X8_exp_r1 _ (wm_8 wm_h)), ?_⟩
      refine wm_c ⟨(wk_X8_exp_X8_exp_r1 _ (wm_8 (wm_1 wm_h))), ?_⟩
      refine wm_c ⟨(wk_X8_exp_X8_exp_r1 _ (wm_8 (wm_2 wm_h))), ?_⟩
      refine wm_c ⟨(wk_X8_exp_X8_exp_r1 _ (wm_8 (wm_2 (wm_1 wm_h)))), ?_⟩
      refine wm_c ⟨(wk_X8_exp_X8_exp_r1 _ (wm_8 (wm_4 wm_h))), ?_⟩
      refine wm_c ⟨(wk_X8_exp_X8_exp_r1 _ (wm_8 (wm_4 (wm_1 wm_h)))), ?_⟩
      refine wm_c ⟨(wk_X8_exp_X8_exp_r1 _ (wm_8 (wm_4 (wm_2 wm_h)))), ?_⟩
      refine wm_c ⟨(wk_X8_exp_X8_exp_r1 _ (wm_8 (wm_4 (wm_2 (wm_1 wm_h))))), ?_⟩
      refine wm_c ⟨(wk_X8_exp_X8_exp_r1 _ (wm_16 wm_h)), ?_⟩
      refine wm_c ⟨(wk_X8_exp_X8_exp_r1 _ (wm_16 (wm_1 wm_h))), ?_⟩
      refine wm_c ⟨(wk_X8_exp_X8_exp_r1 _ (wm_16 (wm_2 wm_h))), ?_⟩
      refine wm_c ⟨(wk_X8_exp_X8_exp_r1 _ (wm_16 (wm_2 (wm_1 wm_h)))), ?_⟩
      refine wm_c ⟨(wk_X8_exp_X8_exp_r1 _ (wm_16 (wm_4 wm_h))), ?_⟩
      refine wm_c ⟨(wk_X8_exp_X8_exp_r1 _ (wm_16 (wm_4 (wm_1 wm_h)))), ?_⟩
      refine wm_c ⟨(wk_X8_exp_X8_exp_r1 _ (wm_16 (wm_4 (wm_2 wm_h)))), ?_⟩
      refine wm_c ⟨(wk_X8_exp_X8_exp_r1 _ (wm_16 (wm_4 (wm_2 (wm_1 wm_h))))), ?_⟩
      refine wm_c ⟨(wk_X8_exp_X8_exp_r2 _ wm_h), ?_⟩
      refine wm_c ⟨(wk_X8_exp_X8_exp_r2 _ (wm_1 wm_h)), ?_⟩
      refine wm_c ⟨(wk_X8_exp_X8_exp_r2 _ (wm_2 wm_h)), ?_⟩
      refine wm_c ⟨(wk_X8_exp_X8_exp_r2 _ (wm_2 (wm_1 wm_h))), ?_⟩
      exact wm_n
    · refine wm_a ⟨?_, ?_⟩
      · unfold wsX8_seriesOf_r2
        refine wm_c ⟨(wk_X8_exp_X8_exp_r2 _ (wm_4 wm_h)), ?_⟩
        refine wm_c ⟨(wk_X8_exp_X8_exp_r2 _ (wm_4 (wm_1 wm_h))), ?_⟩
        refine wm_c ⟨(wk_X8_exp_X8_exp_r2 _ (wm_4 (wm_2 wm_h))), ?_⟩
        refine wm_c ⟨(wk_X8_exp_X8_exp_r2 _ (wm_4 (wm_2 (wm_1 wm_h)))), ?_⟩
        refine wm_c ⟨(wk_X8_exp_X8_exp_r2 _ (wm_8 wm_h)), ?_⟩
        refine wm_c ⟨(wk_X8_exp_X8_exp_r2 _ (wm_8 (wm_1 wm_h))), ?_⟩
        refine wm_c ⟨(wk_X8_exp_X8_exp_r2 _ (wm_8 (wm_2 wm_h))), ?_⟩
        refine wm_c ⟨(wk_X8_exp_X8_exp_r2 _ (wm_8 (wm_2 (wm_1 wm_h)))), ?_⟩
        refine wm_c ⟨(wk_X8_exp_X8_exp_r2 _ (wm_8 (wm_4 wm_h))), ?_⟩
        refine wm_c ⟨(wk_X8_exp_X8_exp_r2 _ (wm_8 (wm_4 (wm_1 wm_h)))), ?_⟩
        refine wm_c ⟨(wk_X8_exp_X8_exp_r2 _ (wm_8 (wm_4 (wm_2 wm_h)))), ?_⟩
        refine wm_c ⟨(wk_X8_exp_X8_exp_r2 _ (wm_8 (wm_4 (wm_2 (wm_1 wm_h))))), ?_⟩
        refine wm_c ⟨(wk_X8_exp_X8_exp_r2 _ (wm_16 wm_h)), ?_⟩
        refine wm_c ⟨(wk_X8_exp_X8_exp_r2 _ (wm_16 (wm_1 wm_h))), ?_⟩
        refine wm_c ⟨(wk_X8_exp_X8_exp_r2 _ (wm_16 (wm_2 wm_h))), ?_⟩
        refine wm_c ⟨(wk_X8_exp_X8_exp_r2 _ (wm_16 (wm_2 (wm_1 wm_h)))), ?_⟩
        refine wm_c ⟨(wk_X8_exp_X8_exp_r2 _ (wm_16 (wm_4 wm_h))), ?_⟩
        refine wm_c ⟨(wk_X8_exp_X8_exp_r2 _ (wm_16 (wm_4 (wm_1 wm_h)))), ?_⟩
        refine wm_c ⟨(wk_X8_exp_X8_exp_r2 _ (wm_16 (wm_4 (wm_2 wm_h)))), ?_⟩
        refine wm_c ⟨(wk_X8_exp_X8_exp_r2 _ (wm_16 (wm_4 (wm_2 (wm_1 wm_h))))), ?_⟩
        refine wm_c ⟨(wk_X8_exp_X8_exp_r3 _ wm_h), ?_⟩
        refine wm_c ⟨(wk_X8_exp_X8_exp_r3 _ (wm_1 wm_h)), ?_⟩
        refine wm_c ⟨(wk_X8_exp_X8_exp_r3 _ (wm_2 wm_h)), ?_⟩
        refine wm_c ⟨(wk_X8_exp_X8_exp_r3 _ (wm_2 (wm_1 wm_h))), ?_⟩
        exact wm_n
      · unfold wsX8_seriesOf_r3
        refine wm_c ⟨(wk_X8_exp_X8_exp_r3 _ (wm_4 wm_h)), ?_⟩
        refine wm_c ⟨(wk_X8_exp_X8_exp_r3 _ (wm_4 (wm_1 wm_h))), ?_⟩
        refine wm_c ⟨(wk_X8_exp_X8_exp_r3 _ (wm_4 (wm_2 wm_h))), ?_⟩
        exact wm_n
  · exact wk_X8_exp_X80
set_option maxRecDepth 20000 in
theorem gX8_exp_X8_seriesOf : GoodIn wsX8_exp (wsV RX8 192 RX8 yX8_seriesOf wsX8_seriesOf) := by
  refine goodIn_app (goodIn_sub ?_ ?_) ggX8_exp_X8_seriesOf
  · exact wm_c ⟨(wk_X8_exp_X8_exp_r1 _ wm_h), wm_c ⟨(wk_X8_exp_X8_exp_r1 _ (wm_1 wm_h)), wm_c ⟨(wk_X8_exp_X8_exp_r1 _ (wm_2 wm_h)), wm_c ⟨(wk_X8_exp_X8_exp_r1 _ (wm_2 (wm_1 wm_h))), wm_n⟩⟩⟩⟩
  · decide +kernel
theorem dX8_exp_0 : decode cX8_exp 0 = .ok (.aload_n 0, 1) := by decide +kernel
theorem dX8_exp_1 : decode cX8_exp 1 = .ok (.iload_n 1, 1) := by decide +kernel
theorem dX8_exp_2 : decode cX8_exp 2 = .ok (.iload_n 2, 1) := by decide +kernel
theorem dX8_exp_3 : decode cX8_exp 3 = .ok (.iconst 0, 1) := by decide +kernel
theorem dX8_exp_4 : decode cX8_exp 4 = .ok (.invokevirtual 192, 3) := by decide +kernel
theorem dX8_exp_7 : decode cX8_exp 7 = .ok (.ireturn, 1) := by decide +kernel
set_option maxRecDepth 20000 in
theorem ggX8_log_X8_seriesOf : GoodIn wsX8_log wsX8_seriesOf := by
  refine goodIn_sub ?_ gd_X8_seriesOf
  unfold wsX8_seriesOf
  refine wm_c ⟨(wk_X8_log_X8_log_r1 _ (wm_4 wm_h)), ?_⟩
  refine wm_a ⟨?_, ?_⟩
  · refine wm_a ⟨?_, ?_⟩
    · unfold wsX8_seriesOf_r1
      refine wm_c ⟨(wk_X8_log_X8_log_r1 _ (wm_4 (wm_1 wm_h))), ?_⟩
      refine wm_c ⟨(wk_X8_log_X8_log_r1 _ (wm_4 (wm_2 wm_h))), ?_⟩
      refine wm_c ⟨(wk_X8_log_X8_log_r1 _ (wm_4 (wm_2 (wm_1 wm_h)))), ?_⟩
      refine wm_c ⟨(wk_X8_log_X8_log_r1 _ (wm_2 (wm_1 wm_h))), ?_⟩
      refine wm_c ⟨(wk_X8_log_X8_log_r1 _ (wm_8 wm_h)), ?_⟩
      refine wm_c ⟨(wk_X8_log_X8_log_r1 _ (wm_8 (wm_1 wm_h))), ?_⟩
      refine wm_c ⟨(wk_X8_log_X8_log_r1 _ (wm_8 (wm_2 wm_h))), ?_⟩
      refine wm_c ⟨(wk_X8_log_X8_log_r1 _ (wm_8 (wm_2 (wm_1 wm_h)))), ?_⟩
      refine wm_c ⟨(wk_X8_log_X8_log_r1 _ (wm_8 (wm_4 wm_h))), ?_⟩
      refine wm_c ⟨(wk_X8_log_X8_log_r1 _ (wm_8 (wm_4 (wm_1 wm_h)))), ?_⟩
      refine wm_c ⟨(wk_X8_log_X8_log_r1 _ (wm_8 (wm_4 (wm_2 wm_h)))), ?_⟩
      refine wm_c ⟨(wk_X8_log_X8_log_r1 _ (wm_8 (wm_4 (wm_2 (wm_1 wm_h))))), ?_⟩
      refine wm_c ⟨(wk_X8_log_X8_log_r1 _ (wm_16 wm_h)), ?_⟩
      refine wm_c ⟨(wk_X8_log_X8_log_r1 _ (wm_16 (wm_1 wm_h))), ?_⟩
      refine wm_c ⟨(wk_X8_log_X8_log_r1 _ (wm_16 (wm_2 wm_h))), ?_⟩
      refine wm_c ⟨(wk_X8_log_X8_log_r1 _ (wm_16 (wm_2 (wm_1 wm_h)))), ?_⟩
      refine wm_c ⟨(wk_X8_log_X8_log_r1 _ (wm_16 (wm_4 wm_h))), ?_⟩
      refine wm_c ⟨(wk_X8_log_X8_log_r1 _ (wm_16 (wm_4 (wm_1 wm_h)))), ?_⟩
      refine wm_c ⟨(wk_X8_log_X8_log_r1 _ (wm_16 (wm_4 (wm_2 wm_h)))), ?_⟩
      refine wm_c ⟨(wk_X8_log_X8_log_r1 _ (wm_16 (wm_4 (wm_2 (wm_1 wm_h))))), ?_⟩
      refine wm_c ⟨(wk_X8_log_X8_log_r2 _ wm_h), ?_⟩
      refine wm_c ⟨(wk_X8_log_X8_log_r2 _ (wm_1 wm_h)), ?_⟩
      refine wm_c ⟨(wk_X8_log_X8_log_r2 _ (wm_2 wm_h)), ?_⟩
      refine wm_c ⟨(wk_X8_log_X8_log_r2 _ (wm_2 (wm_1 wm_h))), ?_⟩
      exact wm_n
    · refine wm_a ⟨?_, ?_⟩
      · unfold wsX8_seriesOf_r2
        refine wm_c ⟨(wk_X8_log_X8_log_r2 _ (wm_4 wm_h)), ?_⟩
        refine wm_c ⟨(wk_X8_log_X8_log_r2 _ (wm_4 (wm_1 wm_h))), ?_⟩
        refine wm_c ⟨(wk_X8_log_X8_log_r2 _ (wm_4 (wm_2 wm_h))), ?_⟩
        refine wm_c ⟨(wk_X8_log_X8_log_r2 _ (wm_4 (wm_2 (wm_1 wm_h)))), ?_⟩
        refine wm_c ⟨(wk_X8_log_X8_log_r2 _ (wm_8 wm_h)), ?_⟩
        refine wm_c ⟨(wk_X8_log_X8_log_r2 _ (wm_8 (wm_1 wm_h))), ?_⟩
        refine wm_c ⟨(wk_X8_log_X8_log_r2 _ (wm_8 (wm_2 wm_h))), ?_⟩
        refine wm_c ⟨(wk_X8_log_X8_log_r2 _ (wm_8 (wm_2 (wm_1 wm_h)))), ?_⟩
        refine wm_c ⟨(wk_X8_log_X8_log_r2 _ (wm_8 (wm_4 wm_h))), ?_⟩
        refine wm_c ⟨(wk_X8_log_X8_log_r2 _ (wm_8 (wm_4 (wm_1 wm_h)))), ?_⟩
        refine wm_c ⟨(wk_X8_log_X8_log_r2 _ (wm_8 (wm_4 (wm_2 wm_h)))), ?_⟩
        refine wm_c ⟨(wk_X8_log_X8_log_r2 _ (wm_8 (wm_4 (wm_2 (wm_1 wm_h))))), ?_⟩
        refine wm_c ⟨(wk_X8_log_X8_log_r2 _ (wm_16 wm_h)), ?_⟩
        refine wm_c ⟨(wk_X8_log_X8_log_r2 _ (wm_16 (wm_1 wm_h))), ?_⟩
        refine wm_c ⟨(wk_X8_log_X8_log_r2 _ (wm_16 (wm_2 wm_h))), ?_⟩
        refine wm_c ⟨(wk_X8_log_X8_log_r2 _ (wm_16 (wm_2 (wm_1 wm_h)))), ?_⟩
        refine wm_c ⟨(wk_X8_log_X8_log_r2 _ (wm_16 (wm_4 wm_h))), ?_⟩
        refine wm_c ⟨(wk_X8_log_X8_log_r2 _ (wm_16 (wm_4 (wm_1 wm_h)))), ?_⟩
        refine wm_c ⟨(wk_X8_log_X8_log_r2 _ (wm_16 (wm_4 (wm_2 wm_h)))), ?_⟩
        refine wm_c ⟨(wk_X8_log_X8_log_r2 _ (wm_16 (wm_4 (wm_2 (wm_1 wm_h))))), ?_⟩
        refine wm_c ⟨(wk_X8_log_X8_log_r3 _ wm_h), ?_⟩
        refine wm_c ⟨(wk_X8_log_X8_log_r3 _ (wm_1 wm_h)), ?_⟩
        refine wm_c ⟨(wk_X8_log_X8_log_r3 _ (wm_2 wm_h)), ?_⟩
        refine wm_c ⟨(wk_X8_log_X8_log_r3 _ (wm_2 (wm_1 wm_h))), ?_⟩
        exact wm_n
      · unfold wsX8_seriesOf_r3
        refine wm_c ⟨(wk_X8_log_X8_log_r3 _ (wm_4 wm_h)), ?_⟩
        refine wm_c ⟨(wk_X8_log_X8_log_r3 _ (wm_4 (wm_1 wm_h))), ?_⟩
        refine wm_c ⟨(wk_X8_log_X8_log_r3 _ (wm_4 (wm_2 wm_h))), ?_⟩
        exact wm_n
  · exact wk_X8_log_X80
set_option maxRecDepth 20000 in
theorem gX8_log_X8_seriesOf : GoodIn wsX8_log (wsV RX8 192 RX8 yX8_seriesOf wsX8_seriesOf) := by
  refine goodIn_app (goodIn_sub ?_ ?_) ggX8_log_X8_seriesOf
  · exact wm_c ⟨(wk_X8_log_X8_log_r1 _ wm_h), wm_c ⟨(wk_X8_log_X8_log_r1 _ (wm_1 wm_h)), wm_c ⟨(wk_X8_log_X8_log_r1 _ (wm_2 wm_h)), wm_c ⟨(wk_X8_log_X8_log_r1 _ (wm_2 (wm_1 wm_h))), wm_n⟩⟩⟩⟩
  · decide +kernel
theorem dX8_log_0 : decode cX8_log 0 = .ok (.aload_n 0, 1) := by decide +kernel
theorem dX8_log_1 : decode cX8_log 1 = .ok (.iload_n 1, 1) := by decide +kernel
theorem dX8_log_2 : decode cX8_log 2 = .ok (.iload_n 2, 1) := by decide +kernel
theorem dX8_log_3 : decode cX8_log 3 = .ok (.iconst 1, 1) := by decide +kernel
theorem dX8_log_4 : decode cX8_log 4 = .ok (.invokevirtual 192, 3) := by decide +kernel
theorem dX8_log_7 : decode cX8_log 7 = .ok (.ireturn, 1) := by decide +kernel
set_option maxRecDepth 20000 in
theorem ggX8_inverse_X8_seriesOf : GoodIn wsX8_inverse wsX8_seriesOf := by
  refine goodIn_sub ?_ gd_X8_seriesOf
  unfold wsX8_seriesOf
  refine wm_c ⟨(wk_X8_inverse_X8_inverse_r1 _ (wm_4 wm_h)), ?_⟩
  refine wm_a ⟨?_, ?_⟩
  · refine wm_a ⟨?_, ?_⟩
    · unfold wsX8_seriesOf_r1
      refine wm_c ⟨(wk_X8_inverse_X8_inverse_r1 _ (wm_4 (wm_1 wm_h))), ?_⟩
      refine wm_c ⟨(wk_X8_inverse_X8_inverse_r1 _ (wm_4 (wm_2 wm_h))), ?_⟩
      refine wm_c ⟨(wk_X8_inverse_X8_inverse_r1 _ (wm_4 (wm_2 (wm_1 wm_h)))), ?_⟩
      refine wm_c ⟨(wk_X8_inverse_X8_inverse_r1 _ (wm_2 (wm_1 wm_h))), ?_⟩
      refine wm_c ⟨(wk_X8_inverse_X8_inverse_r1 _ (wm_8 wm_h)), ?_⟩
      refine wm_c ⟨(wk_X8_inverse_X8_inverse_r1 _ (wm_8 (wm_1 wm_h))), ?_⟩
      refine wm_c ⟨(wk_X8_inverse_X8_inverse_r1 _ (wm_8 (wm_2 wm_h))), ?_⟩
      refine wm_c ⟨(wk_X8_inverse_X8_inverse_r1 _ (wm_8 (wm_2 (wm_1 wm_h)))), ?_⟩
      refine wm_c ⟨(wk_X8_inverse_X8_inverse_r1 _ (wm_8 (wm_4 wm_h))), ?_⟩
      refine wm_c ⟨(wk_X8_inverse_X8_inverse_r1 _ (wm_8 (wm_4 (wm_1 wm_h)))), ?_⟩
      refine wm_c ⟨(wk_X8_inverse_X8_inverse_r1 _ (wm_8 (wm_4 (wm_2 wm_h)))), ?_⟩
      refine wm_c ⟨(wk_X8_inverse_X8_inverse_r1 _ (wm_8 (wm_4 (wm_2 (wm_1 wm_h))))), ?_⟩
      refine wm_c ⟨(wk_X8_inverse_X8_inverse_r1 _ (wm_16 wm_h)), ?_⟩
      refine wm_c ⟨(wk_X8_inverse_X8_inverse_r1 _ (wm_16 (wm_1 wm_h))), ?_⟩
      refine wm_c ⟨(wk_X8_inverse_X8_inverse_r1 _ (wm_16 (wm_2 wm_h))), ?_⟩
      refine wm_c ⟨(wk_X8_inverse_X8_inverse_r1 _ (wm_16 (wm_2 (wm_1 wm_h)))), ?_⟩
      refine wm_c ⟨(wk_X8_inverse_X8_inverse_r1 _ (wm_16 (wm_4 wm_h))), ?_⟩
      refine wm_c ⟨(wk_X8_inverse_X8_inverse_r1 _ (wm_16 (wm_4 (wm_1 wm_h)))), ?_⟩
      refine wm_c ⟨(wk_X8_inverse_X8_inverse_r1 _ (wm_16 (wm_4 (wm_2 wm_h)))), ?_⟩
      refine wm_c ⟨(wk_X8_inverse_X8_inverse_r1 _ (wm_16 (wm_4 (wm_2 (wm_1 wm_h))))), ?_⟩
      refine wm_c ⟨(wk_X8_inverse_X8_inverse_r2 _ wm_h), ?_⟩
      refine wm_c ⟨(wk_X8_inverse_X8_inverse_r2 _ (wm_1 wm_h)), ?_⟩
      refine wm_c ⟨(wk_X8_inverse_X8_inverse_r2 _ (wm_2 wm_h)), ?_⟩
      refine wm_c ⟨(wk_X8_inverse_X8_inverse_r2 _ (wm_2 (wm_1 wm_h))), ?_⟩
      exact wm_n
    · refine wm_a ⟨?_, ?_⟩
      · unfold wsX8_seriesOf_r2
        refine wm_c ⟨(wk_X8_inverse_X8_inverse_r2 _ (wm_4 wm_h)), ?_⟩
        refine wm_c ⟨(wk_X8_inverse_X8_inverse_r2 _ (wm_4 (wm_1 wm_h))), ?_⟩
        refine wm_c ⟨(wk_X8_inverse_X8_inverse_r2 _ (wm_4 (wm_2 wm_h))), ?_⟩
        refine wm_c ⟨(wk_X8_inverse_X8_inverse_r2 _ (wm_4 (wm_2 (wm_1 wm_h)))), ?_⟩
        refine wm_c ⟨(wk_X8_inverse_X8_inverse_r2 _ (wm_8 wm_h)), ?_⟩
        refine wm_c ⟨(wk_X8_inverse_X8_inverse_r2 _ (wm_8 (wm_1 wm_h))), ?_⟩
        refine wm_c ⟨(wk_X8_inverse_X8_inverse_r2 _ (wm_8 (wm_2 wm_h))), ?_⟩
        refine wm_c ⟨(wk_X8_inverse_X8_inverse_r2 _ (wm_8 (wm_2 (wm_1 wm_h)))), ?_⟩
        refine wm_c ⟨(wk_X8_inverse_X8_inverse_r2 _ (wm_8 (wm_4 wm_h))), ?_⟩
        refine wm_c ⟨(wk_X8_inverse_X8_inverse_r2 _ (wm_8 (wm_4 (wm_1 wm_h)))), ?_⟩
        refine wm_c ⟨(wk_X8_inverse_X8_inverse_r2 _ (wm_8 (wm_4 (wm_2 wm_h)))), ?_⟩
        refine wm_c ⟨(wk_X8_inverse_X8_inverse_r2 _ (wm_8 (wm_4 (wm_2 (wm_1 wm_h))))), ?_⟩
        refine wm_c ⟨(wk_X8_inverse_X8_inverse_r2 _ (wm_16 wm_h)), ?_⟩
        refine wm_c ⟨(wk_X8_inverse_X8_inverse_r2 _ (wm_16 (wm_1 wm_h))), ?_⟩
        refine wm_c ⟨(wk_X8_inverse_X8_inverse_r2 _ (wm_16 (wm_2 wm_h))), ?_⟩
        refine wm_c ⟨(wk_X8_inverse_X8_inverse_r2 _ (wm_16 (wm_2 (wm_1 wm_h)))), ?_⟩
        refine wm_c ⟨(wk_X8_inverse_X8_inverse_r2 _ (wm_16 (wm_4 wm_h))), ?_⟩
        refine wm_c ⟨(wk_X8_inverse_X8_inverse_r2 _ (wm_16 (wm_4 (wm_1 wm_h)))), ?_⟩
        refine wm_c ⟨(wk_X8_inverse_X8_inverse_r2 _ (wm_16 (wm_4 (wm_2 wm_h)))), ?_⟩
        refine wm_c ⟨(wk_X8_inverse_X8_inverse_r2 _ (wm_16 (wm_4 (wm_2 (wm_1 wm_h))))), ?_⟩
        refine wm_c ⟨(wk_X8_inverse_X8_inverse_r3 _ wm_h), ?_⟩
        refine wm_c ⟨(wk_X8_inverse_X8_inverse_r3 _ (wm_1 wm_h)), ?_⟩
        refine wm_c ⟨(wk_X8_inverse_X8_inverse_r3 _ (wm_2 wm_h)), ?_⟩
        refine wm_c ⟨(wk_X8_inverse_X8_inverse_r3 _ (wm_2 (wm_1 wm_h))), ?_⟩
        exact wm_n
      · unfold wsX8_seriesOf_r3
        refine wm_c ⟨(wk_X8_inverse_X8_inverse_r3 _ (wm_4 wm_h)), ?_⟩
        refine wm_c ⟨(wk_X8_inverse_X8_inverse_r3 _ (wm_4 (wm_1 wm_h))), ?_⟩
        refine wm_c ⟨(wk_X8_inverse_X8_inverse_r3 _ (wm_4 (wm_2 wm_h))), ?_⟩
        exact wm_n
  · exact wk_X8_inverse_X80
set_option maxRecDepth 20000 in
theorem gX8_inverse_X8_seriesOf : GoodIn wsX8_inverse (wsV RX8 192 RX8 yX8_seriesOf wsX8_seriesOf) := by
  refine goodIn_app (goodIn_sub ?_ ?_) ggX8_inverse_X8_seriesOf
  · exact wm_c ⟨(wk_X8_inverse_X8_inverse_r1 _ wm_h), wm_c ⟨(wk_X8_inverse_X8_inverse_r1 _ (wm_1 wm_h)), wm_c ⟨(wk_X8_inverse_X8_inverse_r1 _ (wm_2 wm_h)), wm_c ⟨(wk_X8_inverse_X8_inverse_r1 _ (wm_2 (wm_1 wm_h))), wm_n⟩⟩⟩⟩
  · decide +kernel
theorem dX8_inverse_0 : decode cX8_inverse 0 = .ok (.aload_n 0, 1) := by decide +kernel
theorem dX8_inverse_1 : decode cX8_inverse 1 = .ok (.iload_n 1, 1) := by decide +kernel
theorem dX8_inverse_2 : decode cX8_inverse 2 = .ok (.iload_n 2, 1) := by decide +kernel
theorem dX8_inverse_3 : decode cX8_inverse 3 = .ok (.iconst 2, 1) := by decide +kernel
theorem dX8_inverse_4 : decode cX8_inverse 4 = .ok (.invokevirtual 192, 3) := by decide +kernel
theorem dX8_inverse_7 : decode cX8_inverse 7 = .ok (.ireturn, 1) := by decide +kernel
set_option maxRecDepth 20000 in
theorem ggX8_group_X8_areSums : GoodIn wsX8_group wsX8_areSums := by
  refine goodIn_sub ?_ gd_X8_areSums
  unfold wsX8_areSums
  refine wm_c ⟨(wk_X8_group_X8_group_r1 _ (wm_4 (wm_1 wm_h))), ?_⟩
  refine wm_c ⟨(wk_X8_group_X8_group_r1 _ (wm_4 (wm_2 wm_h))), ?_⟩
  refine wm_c ⟨(wk_X8_group_X8_group_r1 _ (wm_4 (wm_2 (wm_1 wm_h)))), ?_⟩
  refine wm_c ⟨(wk_X8_group_X8_group_r1 _ (wm_4 wm_h)), ?_⟩
  refine wm_c ⟨(wk_X8_group_X8_group_r1 _ (wm_8 wm_h)), ?_⟩
  refine wm_c ⟨(wk_X8_group_X8_group_r1 _ (wm_8 (wm_1 wm_h))), ?_⟩
  refine wm_c ⟨(wk_X8_group_X8_group_r1 _ (wm_8 (wm_2 wm_h))), ?_⟩
  refine wm_c ⟨(wk_X8_group_X8_group_r1 _ (wm_8 (wm_2 (wm_1 wm_h)))), ?_⟩
  refine wm_c ⟨(wk_X8_group_X8_group_r1 _ (wm_8 (wm_4 wm_h))), ?_⟩
  exact wm_n
set_option maxRecDepth 20000 in
theorem gX8_group_X8_areSums : GoodIn wsX8_group (wsV RX8 182 RX8 yX8_areSums wsX8_areSums) := by
  refine goodIn_app (goodIn_sub ?_ ?_) ggX8_group_X8_areSums
  · exact wm_c ⟨(wk_X8_group_X8_group_r1 _ (wm_1 wm_h)), wm_c ⟨(wk_X8_group_X8_group_r1 _ (wm_2 wm_h)), wm_c ⟨(wk_X8_group_X8_group_r1 _ (wm_2 (wm_1 wm_h))), wm_c ⟨(wk_X8_group_X8_group_r1 _ (wm_4 wm_h)), wm_n⟩⟩⟩⟩
  · decide +kernel
set_option maxRecDepth 20000 in
theorem ggX8_group_X8_series : GoodIn wsX8_group wsX8_series := by
  refine goodIn_sub ?_ gd_X8_series
  unfold wsX8_series
  refine wm_c ⟨(wk_X8_group_X8_group_r1 _ (wm_16 wm_h)), ?_⟩
  refine wm_a ⟨?_, ?_⟩
  · refine wm_a ⟨?_, ?_⟩
    · unfold wsX8_series_r1
      refine wm_c ⟨(wk_X8_group_X8_group_r1 _ wm_h), ?_⟩
      refine wm_c ⟨(wk_X8_group_X8_group_r1 _ (wm_16 (wm_1 wm_h))), ?_⟩
      refine wm_c ⟨(wk_X8_group_X8_group_r1 _ (wm_16 (wm_2 wm_h))), ?_⟩
      refine wm_c ⟨(wk_X8_group_X8_group_r1 _ (wm_16 (wm_2 (wm_1 wm_h)))), ?_⟩
      refine wm_c ⟨(wk_X8_group_X8_group_r1 _ (wm_16 (wm_4 wm_h))), ?_⟩
      refine wm_c ⟨(wk_X8_group_X8_group_r1 _ (wm_16 (wm_4 (wm_1 wm_h)))), ?_⟩
      refine wm_c ⟨(wk_X8_group_X8_group_r1 _ (wm_4 wm_h)), ?_⟩
      refine wm_c ⟨(wk_X8_group_X8_group_r1 _ (wm_16 (wm_4 (wm_2 wm_h)))), ?_⟩
      refine wm_c ⟨(wk_X8_group_X8_group_r1 _ (wm_16 (wm_4 (wm_2 (wm_1 wm_h))))), ?_⟩
      refine wm_c ⟨(wk_X8_group_X8_group_r2 _ wm_h), ?_⟩
      refine wm_c ⟨(wk_X8_group_X8_group_r2 _ (wm_1 wm_h)), ?_⟩
      refine wm_c ⟨(wk_X8_group_X8_group_r2 _ (wm_2 wm_h)), ?_⟩
      refine wm_c ⟨(wk_X8_group_X8_group_r2 _ (wm_2 (wm_1 wm_h))), ?_⟩
      refine wm_c ⟨(wk_X8_group_X8_group_r2 _ (wm_4 wm_h)), ?_⟩
      refine wm_c ⟨(wk_X8_group_X8_group_r2 _ (wm_4 (wm_1 wm_h))), ?_⟩
      refine wm_c ⟨(wk_X8_group_X8_group_r2 _ (wm_4 (wm_2 wm_h))), ?_⟩
      refine wm_c ⟨(wk_X8_group_X8_group_r2 _ (wm_4 (wm_2 (wm_1 wm_h)))), ?_⟩
      refine wm_c ⟨(wk_X8_group_X8_group_r2 _ (wm_8 wm_h)), ?_⟩
      refine wm_c ⟨(wk_X8_group_X8_group_r2 _ (wm_8 (wm_1 wm_h))), ?_⟩
      refine wm_c ⟨(wk_X8_group_X8_group_r2 _ (wm_8 (wm_2 wm_h))), ?_⟩
      refine wm_c ⟨(wk_X8_group_X8_group_r2 _ (wm_8 (wm_2 (wm_1 wm_h)))), ?_⟩
      refine wm_c ⟨(wk_X8_group_X8_group_r2 _ (wm_8 (wm_4 wm_h))), ?_⟩
      refine wm_c ⟨(wk_X8_group_X8_group_r2 _ (wm_8 (wm_4 (wm_1 wm_h)))), ?_⟩
      refine wm_c ⟨(wk_X8_group_X8_group_r2 _ (wm_8 (wm_4 (wm_2 wm_h)))), ?_⟩
      exact wm_n
    · unfold wsX8_series_r2
      refine wm_c ⟨(wk_X8_group_X8_group_r2 _ (wm_8 (wm_4 (wm_2 (wm_1 wm_h))))), ?_⟩
      refine wm_c ⟨(wk_X8_group_X8_group_r2 _ (wm_16 wm_h)), ?_⟩
      refine wm_c ⟨(wk_X8_group_X8_group_r2 _ (wm_16 (wm_1 wm_h))), ?_⟩
      refine wm_c ⟨(wk_X8_group_X8_group_r2 _ (wm_16 (wm_2 wm_h))), ?_⟩
      refine wm_c ⟨(wk_X8_group_X8_group_r2 _ (wm_16 (wm_2 (wm_1 wm_h)))), ?_⟩
      refine wm_c ⟨(wk_X8_group_X8_group_r2 _ (wm_16 (wm_4 wm_h))), ?_⟩
      refine wm_c ⟨(wk_X8_group_X8_group_r2 _ (wm_16 (wm_4 (wm_1 wm_h)))), ?_⟩
      refine wm_c ⟨(wk_X8_group_X8_group_r2 _ (wm_16 (wm_4 (wm_2 wm_h)))), ?_⟩
      refine wm_c ⟨(wk_X8_group_X8_group_r2 _ (wm_16 (wm_4 (wm_2 (wm_1 wm_h))))), ?_⟩
      refine wm_c ⟨(wk_X8_group_X8_group_r3 _ wm_h), ?_⟩
      refine wm_c ⟨(wk_X8_group_X8_group_r3 _ (wm_1 wm_h)), ?_⟩
      refine wm_c ⟨(wk_X8_group_X8_group_r3 _ (wm_2 wm_h)), ?_⟩
      refine wm_c ⟨(wk_X8_group_X8_group_r3 _ (wm_2 (wm_1 wm_h))), ?_⟩
      refine wm_c ⟨(wk_X8_group_X8_group_r3 _ (wm_4 wm_h)), ?_⟩
      refine wm_c ⟨(wk_X8_group_X8_group_r3 _ (wm_4 (wm_1 wm_h))), ?_⟩
      refine wm_c ⟨(wk_X8_group_X8_group_r3 _ (wm_4 (wm_2 wm_h))), ?_⟩
      exact wm_n
  · exact wk_X8_group_X80
set_option maxRecDepth 20000 in
theorem gX8_group_X8_series : GoodIn wsX8_group (wsV RX8 189 RX8 yX8_series wsX8_series) := by
  refine goodIn_app (goodIn_sub ?_ ?_) ggX8_group_X8_series
  · exact wm_c ⟨(wk_X8_group_X8_group_r1 _ (wm_8 (wm_4 (wm_1 wm_h)))), wm_c ⟨(wk_X8_group_X8_group_r1 _ (wm_8 (wm_4 (wm_2 wm_h)))), wm_c ⟨(wk_X8_group_X8_group_r1 _ (wm_8 (wm_4 (wm_2 (wm_1 wm_h))))), wm_c ⟨(wk_X8_group_X8_group_r1 _ (wm_4 wm_h)), wm_n⟩⟩⟩⟩
  · decide +kernel
set_option maxRecDepth 20000 in
theorem ggX8_group_X8_multiplies : GoodIn wsX8_group wsX8_multiplies := by
  refine goodIn_sub ?_ gd_X8_multiplies
  unfold wsX8_multiplies
  refine wm_c ⟨(wk_X8_group_X8_group_r2 _ (wm_8 (wm_2 (wm_1 wm_h)))), ?_⟩
  refine wm_a ⟨?_, ?_⟩
  · refine wm_c ⟨(wk_X8_group_X8_group_r1 _ (wm_16 (wm_4 (wm_2 (wm_1 wm_h))))), ?_⟩
    refine wm_c ⟨(wk_X8_group_X8_group_r2 _ (wm_8 (wm_4 wm_h))), ?_⟩
    refine wm_c ⟨(wk_X8_group_X8_group_r1 _ wm_h), ?_⟩
    refine wm_c ⟨(wk_X8_group_X8_group_r1 _ (wm_16 (wm_2 wm_h))), ?_⟩
    refine wm_c ⟨(wk_X8_group_X8_group_r2 _ (wm_4 wm_h)), ?_⟩
    refine wm_c ⟨(wk_X8_group_X8_group_r2 _ (wm_4 (wm_1 wm_h))), ?_⟩
    refine wm_c ⟨(wk_X8_group_X8_group_r2 _ (wm_4 (wm_2 wm_h))), ?_⟩
    refine wm_c ⟨(wk_X8_group_X8_group_r1 _ (wm_4 wm_h)), ?_⟩
    refine wm_c ⟨(wk_X8_group_X8_group_r2 _ (wm_4 (wm_2 (wm_1 wm_h)))), ?_⟩
    refine wm_c ⟨(wk_X8_group_X8_group_r2 _ (wm_8 (wm_4 (wm_1 wm_h)))), ?_⟩
    refine wm_c ⟨(wk_X8_group_X8_group_r2 _ (wm_8 (wm_4 (wm_2 wm_h)))), ?_⟩
    refine wm_c ⟨(wk_X8_group_X8_group_r2 _ (wm_8 (wm_4 (wm_2 (wm_1 wm_h))))), ?_⟩
    refine wm_c ⟨(wk_X8_group_X8_group_r2 _ (wm_16 wm_h)), ?_⟩
    refine wm_c ⟨(wk_X8_group_X8_group_r2 _ (wm_16 (wm_1 wm_h))), ?_⟩
    refine wm_c ⟨(wk_X8_group_X8_group_r2 _ (wm_16 (wm_2 wm_h))), ?_⟩
    refine wm_c ⟨(wk_X8_group_X8_group_r2 _ (wm_16 (wm_2 (wm_1 wm_h)))), ?_⟩
    refine wm_c ⟨(wk_X8_group_X8_group_r2 _ (wm_16 (wm_4 wm_h))), ?_⟩
    refine wm_c ⟨(wk_X8_group_X8_group_r2 _ (wm_16 (wm_4 (wm_1 wm_h)))), ?_⟩
    refine wm_c ⟨(wk_X8_group_X8_group_r2 _ (wm_16 (wm_4 (wm_2 wm_h)))), ?_⟩
    exact wm_n
  · exact wk_X8_group_X80
set_option maxRecDepth 20000 in
theorem gX8_group_X8_multiplies : GoodIn wsX8_group (wsV RX8 146 RX8 yX8_multiplies wsX8_multiplies) := by
  refine goodIn_app (goodIn_sub ?_ ?_) ggX8_group_X8_multiplies
  · exact wm_c ⟨(wk_X8_group_X8_group_r2 _ (wm_8 wm_h)), wm_c ⟨(wk_X8_group_X8_group_r2 _ (wm_8 (wm_1 wm_h))), wm_c ⟨(wk_X8_group_X8_group_r2 _ (wm_8 (wm_2 wm_h))), wm_c ⟨(wk_X8_group_X8_group_r1 _ (wm_4 wm_h)), wm_n⟩⟩⟩⟩
  · decide +kernel
theorem dX8_group_0 : decode cX8_group 0 = .ok (.aload_n 0, 1) := by decide +kernel
theorem dX8_group_1 : decode cX8_group 1 = .ok (.iload_n 1, 1) := by decide +kernel
theorem dX8_group_2 : decode cX8_group 2 = .ok (.iload_n 2, 1) := by decide +kernel
theorem dX8_group_3 : decode cX8_group 3 = .ok (.iload_n 3, 1) := by decide +kernel
theorem dX8_group_4 : decode cX8_group 4 = .ok (.invokevirtual 182, 3) := by decide +kernel
theorem dX8_group_7 : decode cX8_group 7 = .ok (.ifCond .ne 5, 3) := by decide +kernel
theorem dX8_group_10 : decode cX8_group 10 = .ok (.iconst (-1), 1) := by decide +kernel
theorem dX8_group_11 : decode cX8_group 11 = .ok (.ireturn, 1) := by decide +kernel
theorem dX8_group_12 : decode cX8_group 12 = .ok (.aload_n 0, 1) := by decide +kernel
theorem dX8_group_13 : decode cX8_group 13 = .ok (.getfield 23, 3) := by decide +kernel
theorem dX8_group_16 : decode cX8_group 16 = .ok (.sipush 364, 3) := by decide +kernel
theorem dX8_group_19 : decode cX8_group 19 = .ok (.iload_n 2, 1) := by decide +kernel
theorem dX8_group_20 : decode cX8_group 20 = .ok (.imul, 1) := by decide +kernel
theorem dX8_group_21 : decode cX8_group 21 = .ok (.laload, 1) := by decide +kernel
theorem dX8_group_22 : decode cX8_group 22 = .ok (.lconst 0, 1) := by decide +kernel
theorem dX8_group_23 : decode cX8_group 23 = .ok (.lcmp, 1) := by decide +kernel
theorem dX8_group_24 : decode cX8_group 24 = .ok (.ifCond .ne 18, 3) := by decide +kernel
theorem dX8_group_27 : decode cX8_group 27 = .ok (.aload_n 0, 1) := by decide +kernel
theorem dX8_group_28 : decode cX8_group 28 = .ok (.getfield 23, 3) := by decide +kernel
theorem dX8_group_31 : decode cX8_group 31 = .ok (.sipush 364, 3) := by decide +kernel
theorem dX8_group_34 : decode cX8_group 34 = .ok (.iload_n 3, 1) := by decide +kernel
theorem dX8_group_35 : decode cX8_group 35 = .ok (.imul, 1) := by decide +kernel
theorem dX8_group_36 : decode cX8_group 36 = .ok (.laload, 1) := by decide +kernel
theorem dX8_group_37 : decode cX8_group 37 = .ok (.lconst 0, 1) := by decide +kernel
theorem dX8_group_38 : decode cX8_group 38 = .ok (.lcmp, 1) := by decide +kernel
theorem dX8_group_39 : decode cX8_group 39 = .ok (.ifCond .eq 6, 3) := by decide +kernel
theorem dX8_group_42 : decode cX8_group 42 = .ok (.bipush (-3), 2) := by decide +kernel
theorem dX8_group_44 : decode cX8_group 44 = .ok (.ireturn, 1) := by decide +kernel
theorem dX8_group_45 : decode cX8_group 45 = .ok (.aload_n 0, 1) := by decide +kernel
theorem dX8_group_46 : decode cX8_group 46 = .ok (.bipush 14, 2) := by decide +kernel
theorem dX8_group_48 : decode cX8_group 48 = .ok (.iload_n 2, 1) := by decide +kernel
theorem dX8_group_49 : decode cX8_group 49 = .ok (.iconst 0, 1) := by decide +kernel
theorem dX8_group_50 : decode cX8_group 50 = .ok (.invokevirtual 189, 3) := by decide +kernel
theorem dX8_group_53 : decode cX8_group 53 = .ok (.aload_n 0, 1) := by decide +kernel
theorem dX8_group_54 : decode cX8_group 54 = .ok (.bipush 15, 2) := by decide +kernel
theorem dX8_group_56 : decode cX8_group 56 = .ok (.iload_n 3, 1) := by decide +kernel
theorem dX8_group_57 : decode cX8_group 57 = .ok (.iconst 0, 1) := by decide +kernel
theorem dX8_group_58 : decode cX8_group 58 = .ok (.invokevirtual 189, 3) := by decide +kernel
theorem dX8_group_61 : decode cX8_group 61 = .ok (.aload_n 0, 1) := by decide +kernel
theorem dX8_group_62 : decode cX8_group 62 = .ok (.bipush 16, 2) := by decide +kernel
theorem dX8_group_64 : decode cX8_group 64 = .ok (.bipush 14, 2) := by decide +kernel
theorem dX8_group_66 : decode cX8_group 66 = .ok (.bipush 15, 2) := by decide +kernel
theorem dX8_group_68 : decode cX8_group 68 = .ok (.invokevirtual 146, 3) := by decide +kernel
theorem dX8_group_71 : decode cX8_group 71 = .ok (.aload_n 0, 1) := by decide +kernel
theorem dX8_group_72 : decode cX8_group 72 = .ok (.iload_n 1, 1) := by decide +kernel
theorem dX8_group_73 : decode cX8_group 73 = .ok (.bipush 16, 2) := by decide +kernel
theorem dX8_group_75 : decode cX8_group 75 = .ok (.iconst 1, 1) := by decide +kernel
theorem dX8_group_76 : decode cX8_group 76 = .ok (.invokevirtual 189, 3) := by decide +kernel
theorem dX8_group_79 : decode cX8_group 79 = .ok (.iconst 0, 1) := by decide +kernel
theorem dX8_group_80 : decode cX8_group 80 = .ok (.ireturn, 1) := by decide +kernel
set_option maxRecDepth 20000 in
theorem ggX8_isLetter_X8_in : GoodIn wsX8_isLetter wsX8_in := by
  refine goodIn_sub ?_ gd_X8_in
  unfold wsX8_in
  refine wm_c ⟨(wm_1 (wm_l (wm_4 wm_h))), ?_⟩
  exact wm_n
set_option maxRecDepth 20000 in
theorem gX8_isLetter_X8_in : GoodIn wsX8_isLetter (va_wsS RX8 130 yX8_in wsX8_in) := goodIn_app (goodIn_of _ (by decide +kernel)) ggX8_isLetter_X8_in
theorem dX8_isLetter_0 : decode cX8_isLetter 0 = .ok (.iload_n 1, 1) := by decide +kernel
theorem dX8_isLetter_1 : decode cX8_isLetter 1 = .ok (.i2l, 1) := by decide +kernel
theorem dX8_isLetter_2 : decode cX8_isLetter 2 = .ok (.lconst 0, 1) := by decide +kernel
theorem dX8_isLetter_3 : decode cX8_isLetter 3 = .ok (.aload_n 0, 1) := by decide +kernel
theorem dX8_isLetter_4 : decode cX8_isLetter 4 = .ok (.getfield 88, 3) := by decide +kernel
theorem dX8_isLetter_7 : decode cX8_isLetter 7 = .ok (.iconst 1, 1) := by decide +kernel
theorem dX8_isLetter_8 : decode cX8_isLetter 8 = .ok (.isub, 1) := by decide +kernel
theorem dX8_isLetter_9 : decode cX8_isLetter 9 = .ok (.i2l, 1) := by decide +kernel
theorem dX8_isLetter_10 : decode cX8_isLetter 10 = .ok (.invokestatic 130, 3) := by decide +kernel
theorem dX8_isLetter_13 : decode cX8_isLetter 13 = .ok (.ireturn, 1) := by decide +kernel
set_option maxRecDepth 20000 in
theorem ggX8_derive_X8_areSums : GoodIn wsX8_derive wsX8_areSums := by
  refine goodIn_sub ?_ gd_X8_areSums
  unfold wsX8_areSums
  refine wm_c ⟨(wk_X8_derive_X8_derive_r1 _ (wm_4 (wm_2 (wm_1 wm_h)))), ?_⟩
  refine wm_c ⟨(wk_X8_derive_X8_derive_r1 _ (wm_8 wm_h)), ?_⟩
  refine wm_c ⟨(wk_X8_derive_X8_derive_r1 _ (wm_8 (wm_1 wm_h))), ?_⟩
  refine wm_c ⟨(wk_X8_derive_X8_derive_r1 _ (wm_4 (wm_2 wm_h))), ?_⟩
  refine wm_c ⟨(wk_X8_derive_X8_derive_r1 _ (wm_8 (wm_2 wm_h))), ?_⟩
  refine wm_c ⟨(wk_X8_derive_X8_derive_r1 _ (wm_8 (wm_2 (wm_1 wm_h)))), ?_⟩
  refine wm_c ⟨(wk_X8_derive_X8_derive_r1 _ (wm_8 (wm_4 wm_h))), ?_⟩
  refine wm_c ⟨(wk_X8_derive_X8_derive_r1 _ (wm_8 (wm_4 (wm_1 wm_h)))), ?_⟩
  refine wm_c ⟨(wk_X8_derive_X8_derive_r1 _ (wm_8 (wm_4 (wm_2 wm_h)))), ?_⟩
  exact wm_n
set_option maxRecDepth 20000 in
theorem gX8_derive_X8_areSums : GoodIn wsX8_derive (wsV RX8 182 RX8 yX8_areSums wsX8_areSums) := by
  refine goodIn_app (goodIn_sub ?_ ?_) ggX8_derive_X8_areSums
  · exact wm_c ⟨(wk_X8_derive_X8_derive_r1 _ (wm_2 (wm_1 wm_h))), wm_c ⟨(wk_X8_derive_X8_derive_r1 _ (wm_4 wm_h)), wm_c ⟨(wk_X8_derive_X8_derive_r1 _ (wm_4 (wm_1 wm_h))), wm_c ⟨(wk_X8_derive_X8_derive_r1 _ (wm_4 (wm_2 wm_h))), wm_n⟩⟩⟩⟩
  · decide +kernel
set_option maxRecDepth 20000 in
theorem ggX8_derive_X8_isLetter : GoodIn wsX8_derive wsX8_isLetter := by
  refine goodIn_sub ?_ gd_X8_isLetter
  unfold wsX8_isLetter
  refine wm_c ⟨(wk_X8_derive_X8_derive_r1 _ (wm_16 (wm_2 wm_h))), ?_⟩
  refine wm_a ⟨?_, ?_⟩
  · refine wm_c ⟨(wk_X8_derive_X8_derive_r1 _ (wm_16 (wm_2 (wm_1 wm_h)))), ?_⟩
    refine wm_c ⟨(wk_X8_derive_X8_derive_r1 _ (wm_8 (wm_4 wm_h))), ?_⟩
    refine wm_c ⟨(wk_X8_derive_X8_derive_r1 _ (wm_8 (wm_4 (wm_1 wm_h)))), ?_⟩
    refine wm_c ⟨(wk_X8_derive_X8_derive_r1 _ (wm_4 (wm_2 wm_h))), ?_⟩
    refine wm_c ⟨(wk_X8_derive_X8_derive_r1 _ (wm_8 (wm_4 (wm_2 wm_h)))), ?_⟩
    exact wm_n
  · exact wk_X8_derive_X80
set_option maxRecDepth 20000 in
theorem gX8_derive_X8_isLetter : GoodIn wsX8_derive (wsV RX8 196 RX8 yX8_isLetter wsX8_isLetter) := by
  refine goodIn_app (goodIn_sub ?_ ?_) ggX8_derive_X8_isLetter
  · exact wm_c ⟨(wk_X8_derive_X8_derive_r1 _ (wm_8 (wm_4 (wm_2 (wm_1 wm_h))))), wm_c ⟨(wk_X8_derive_X8_derive_r1 _ (wm_16 wm_h)), wm_c ⟨(wk_X8_derive_X8_derive_r1 _ (wm_16 (wm_1 wm_h))), wm_c ⟨(wk_X8_derive_X8_derive_r1 _ (wm_4 (wm_2 wm_h))), wm_n⟩⟩⟩⟩
  · decide +kernel
set_option maxRecDepth 20000 in
theorem ggX8_derive_X8_clears : GoodIn wsX8_derive wsX8_clears := by
  refine goodIn_sub ?_ gd_X8_clears
  unfold wsX8_clears
  refine wm_c ⟨(wk_X8_derive_X8_derive_r1 _ (wm_16 (wm_4 (wm_2 (wm_1 wm_h))))), ?_⟩
  refine wm_a ⟨?_, ?_⟩
  · refine wm_c ⟨(wk_X8_derive_X8_derive_r1 _ wm_h), ?_⟩
    refine wm_c ⟨(wk_X8_derive_X8_derive_r1 _ (wm_1 wm_h)), ?_⟩
    exact wm_n
  · exact wk_X8_derive_X80
set_option maxRecDepth 20000 in
theorem gX8_derive_X8_clears : GoodIn wsX8_derive (wsV RX8 136 RX8 yX8_clears wsX8_clears) := by
  refine goodIn_app (goodIn_sub ?_ ?_) ggX8_derive_X8_clears
  · exact wm_c ⟨(wk_X8_derive_X8_derive_r1 _ (wm_16 (wm_4 wm_h))), wm_c ⟨(wk_X8_derive_X8_derive_r1 _ (wm_16 (wm_4 (wm_1 wm_h)))), wm_c ⟨(wk_X8_derive_X8_derive_r1 _ (wm_16 (wm_4 (wm_2 wm_h)))), wm_c ⟨(wk_X8_derive_X8_derive_r1 _ (wm_4 (wm_2 wm_h))), wm_n⟩⟩⟩⟩
  · decide +kernel
set_option maxRecDepth 20000 in
theorem ggX8_derive_X8_letterAt : GoodIn wsX8_derive wsX8_letterAt := by
  refine goodIn_sub ?_ gd_X8_letterAt
  unfold wsX8_letterAt
  refine wm_c ⟨(wk_X8_derive_X8_derive_r2 _ (wm_2 (wm_1 wm_h))), ?_⟩
  refine wm_a ⟨?_, ?_⟩
  · refine wm_c ⟨(wk_X8_derive_X8_derive_r2 _ (wm_4 wm_h)), ?_⟩
    refine wm_c ⟨(wk_X8_derive_X8_derive_r1 _ (wm_2 wm_h)), ?_⟩
    refine wm_c ⟨(wk_X8_derive_X8_derive_r2 _ (wm_4 (wm_1 wm_h))), ?_⟩
    refine wm_c ⟨(wk_X8_derive_X8_derive_r1 _ (wm_16 (wm_2 (wm_1 wm_h)))), ?_⟩
    exact wm_n
  · exact wk_X8_derive_X80
set_option maxRecDepth 20000 in
theorem gX8_derive_X8_letterAt : GoodIn wsX8_derive (wsV RX8 106 RX8 yX8_letterAt wsX8_letterAt) := by
  refine goodIn_app (goodIn_sub ?_ ?_) ggX8_derive_X8_letterAt
  · exact wm_c ⟨(wk_X8_derive_X8_derive_r2 _ wm_h), wm_c ⟨(wk_X8_derive_X8_derive_r2 _ (wm_1 wm_h)), wm_c ⟨(wk_X8_derive_X8_derive_r2 _ (wm_2 wm_h)), wm_c ⟨(wk_X8_derive_X8_derive_r1 _ (wm_4 (wm_2 wm_h))), wm_n⟩⟩⟩⟩
  · decide +kernel
set_option maxRecDepth 20000 in
theorem ggX8_derive_X8_derives : GoodIn wsX8_derive wsX8_derives := by
  refine goodIn_sub ?_ gd_X8_derives
  unfold wsX8_derives
  refine wm_c ⟨(wk_X8_derive_X8_derive_r2 _ (wm_8 (wm_1 wm_h))), ?_⟩
  refine wm_a ⟨?_, ?_⟩
  · refine wm_c ⟨(wk_X8_derive_X8_derive_r2 _ (wm_4 wm_h)), ?_⟩
    refine wm_c ⟨(wk_X8_derive_X8_derive_r1 _ (wm_2 wm_h)), ?_⟩
    refine wm_c ⟨(wk_X8_derive_X8_derive_r2 _ (wm_8 (wm_2 wm_h))), ?_⟩
    refine wm_c ⟨(wk_X8_derive_X8_derive_r2 _ (wm_4 (wm_1 wm_h))), ?_⟩
    refine wm_c ⟨(wk_X8_derive_X8_derive_r1 _ (wm_1 wm_h)), ?_⟩
    refine wm_c ⟨(wk_X8_derive_X8_derive_r2 _ (wm_8 (wm_2 (wm_1 wm_h)))), ?_⟩
    refine wm_c ⟨(wk_X8_derive_X8_derive_r2 _ (wm_8 (wm_4 wm_h))), ?_⟩
    refine wm_c ⟨(wk_X8_derive_X8_derive_r2 _ (wm_8 (wm_4 (wm_1 wm_h)))), ?_⟩
    refine wm_c ⟨(wk_X8_derive_X8_derive_r2 _ (wm_8 (wm_4 (wm_2 wm_h)))), ?_⟩
    refine wm_c ⟨(wk_X8_derive_X8_derive_r1 _ (wm_4 (wm_2 wm_h))), ?_⟩
    refine wm_c ⟨(wk_X8_derive_X8_derive_r2 _ (wm_8 (wm_4 (wm_2 (wm_1 wm_h))))), ?_⟩
    refine wm_c ⟨(wk_X8_derive_X8_derive_r2 _ (wm_16 wm_h)), ?_⟩
    refine wm_c ⟨(wk_X8_derive_X8_derive_r2 _ (wm_16 (wm_1 wm_h))), ?_⟩
    refine wm_c ⟨(wk_X8_derive_X8_derive_r2 _ (wm_16 (wm_2 wm_h))), ?_⟩
    refine wm_c ⟨(wk_X8_derive_X8_derive_r2 _ (wm_16 (wm_2 (wm_1 wm_h)))), ?_⟩
    exact wm_n
  · exact wk_X8_derive_X80
set_option maxRecDepth 20000 in
theorem gX8_derive_X8_derives : GoodIn wsX8_derive (wsV RX8 199 RX8 yX8_derives wsX8_derives) := by
  refine goodIn_app (goodIn_sub ?_ ?_) ggX8_derive_X8_derives
  · exact wm_c ⟨(wk_X8_derive_X8_derive_r2 _ (wm_4 (wm_2 wm_h))), wm_c ⟨(wk_X8_derive_X8_derive_r2 _ (wm_4 (wm_2 (wm_1 wm_h)))), wm_c ⟨(wk_X8_derive_X8_derive_r2 _ (wm_8 wm_h)), wm_c ⟨(wk_X8_derive_X8_derive_r1 _ (wm_4 (wm_2 wm_h))), wm_n⟩⟩⟩⟩
  · decide +kernel
set_option maxRecDepth 20000 in
theorem ggX8_derive_X8_copies : GoodIn wsX8_derive wsX8_copies := by
  refine goodIn_sub ?_ gd_X8_copies
  unfold wsX8_copies
  refine wm_c ⟨(wk_X8_derive_X8_derive_r2 _ (wm_16 (wm_4 (wm_2 (wm_1 wm_h))))), ?_⟩
  refine wm_a ⟨?_, ?_⟩
  · refine wm_c ⟨(wk_X8_derive_X8_derive_r1 _ wm_h), ?_⟩
    refine wm_c ⟨(wk_X8_derive_X8_derive_r1 _ (wm_1 wm_h)), ?_⟩
    exact wm_n
  · exact wk_X8_derive_X80
set_option maxRecDepth 20000 in
theorem gX8_derive_X8_copies : GoodIn wsX8_derive (wsV RX8 139 RX8 yX8_copies wsX8_copies) := by
  refine goodIn_app (goodIn_sub ?_ ?_) ggX8_derive_X8_copies
  · exact wm_c ⟨(wk_X8_derive_X8_derive_r2 _ (wm_16 (wm_4 wm_h))), wm_c ⟨(wk_X8_derive_X8_derive_r2 _ (wm_16 (wm_4 (wm_1 wm_h)))), wm_c ⟨(wk_X8_derive_X8_derive_r2 _ (wm_16 (wm_4 (wm_2 wm_h)))), wm_c ⟨(wk_X8_derive_X8_derive_r1 _ (wm_4 (wm_2 wm_h))), wm_n⟩⟩⟩⟩
  · decide +kernel
theorem dX8_derive_0 : decode cX8_derive 0 = .ok (.aload_n 0, 1) := by decide +kernel
theorem dX8_derive_1 : decode cX8_derive 1 = .ok (.iload_n 1, 1) := by decide +kernel
theorem dX8_derive_2 : decode cX8_derive 2 = .ok (.iload_n 2, 1) := by decide +kernel
theorem dX8_derive_3 : decode cX8_derive 3 = .ok (.iload 4, 2) := by decide +kernel
theorem dX8_derive_5 : decode cX8_derive 5 = .ok (.invokevirtual 182, 3) := by decide +kernel
theorem dX8_derive_8 : decode cX8_derive 8 = .ok (.ifCond .eq 11, 3) := by decide +kernel
theorem dX8_derive_11 : decode cX8_derive 11 = .ok (.aload_n 0, 1) := by decide +kernel
theorem dX8_derive_12 : decode cX8_derive 12 = .ok (.iload_n 3, 1) := by decide +kernel
theorem dX8_derive_13 : decode cX8_derive 13 = .ok (.invokevirtual 196, 3) := by decide +kernel
theorem dX8_derive_16 : decode cX8_derive 16 = .ok (.ifCond .ne 5, 3) := by decide +kernel
theorem dX8_derive_19 : decode cX8_derive 19 = .ok (.iconst (-1), 1) := by decide +kernel
theorem dX8_derive_20 : decode cX8_derive 20 = .ok (.ireturn, 1) := by decide +kernel
theorem dX8_derive_21 : decode cX8_derive 21 = .ok (.aload_n 0, 1) := by decide +kernel
theorem dX8_derive_22 : decode cX8_derive 22 = .ok (.bipush 8, 2) := by decide +kernel
theorem dX8_derive_24 : decode cX8_derive 24 = .ok (.invokevirtual 136, 3) := by decide +kernel
theorem dX8_derive_27 : decode cX8_derive 27 = .ok (.iconst 0, 1) := by decide +kernel
theorem dX8_derive_28 : decode cX8_derive 28 = .ok (.istore 5, 2) := by decide +kernel
theorem dX8_derive_30 : decode cX8_derive 30 = .ok (.iload 5, 2) := by decide +kernel
theorem dX8_derive_32 : decode cX8_derive 32 = .ok (.aload_n 0, 1) := by decide +kernel
theorem dX8_derive_33 : decode cX8_derive 33 = .ok (.getfield 95, 3) := by decide +kernel
theorem dX8_derive_36 : decode cX8_derive 36 = .ok (.if_icmp .ge 76, 3) := by decide +kernel
theorem dX8_derive_39 : decode cX8_derive 39 = .ok (.aload_n 0, 1) := by decide +kernel
theorem dX8_derive_40 : decode cX8_derive 40 = .ok (.getfield 23, 3) := by decide +kernel
theorem dX8_derive_43 : decode cX8_derive 43 = .ok (.sipush 364, 3) := by decide +kernel
theorem dX8_derive_46 : decode cX8_derive 46 = .ok (.iload_n 2, 1) := by decide +kernel
theorem dX8_derive_47 : decode cX8_derive 47 = .ok (.imul, 1) := by decide +kernel
theorem dX8_derive_48 : decode cX8_derive 48 = .ok (.iload 5, 2) := by decide +kernel
theorem dX8_derive_50 : decode cX8_derive 50 = .ok (.iadd, 1) := by decide +kernel
theorem dX8_derive_51 : decode cX8_derive 51 = .ok (.laload, 1) := by decide +kernel
theorem dX8_derive_52 : decode cX8_derive 52 = .ok (.lstore 6, 2) := by decide +kernel
theorem dX8_derive_54 : decode cX8_derive 54 = .ok (.iconst 0, 1) := by decide +kernel
theorem dX8_derive_55 : decode cX8_derive 55 = .ok (.istore 8, 2) := by decide +kernel
theorem dX8_derive_57 : decode cX8_derive 57 = .ok (.iload 8, 2) := by decide +kernel
theorem dX8_derive_59 : decode cX8_derive 59 = .ok (.aload_n 0, 1) := by decide +kernel
theorem dX8_derive_60 : decode cX8_derive 60 = .ok (.getfield 20, 3) := by decide +kernel
theorem dX8_derive_63 : decode cX8_derive 63 = .ok (.iload 5, 2) := by decide +kernel
theorem dX8_derive_65 : decode cX8_derive 65 = .ok (.iaload, 1) := by decide +kernel
theorem dX8_derive_66 : decode cX8_derive 66 = .ok (.if_icmp .ge 40, 3) := by decide +kernel
theorem dX8_derive_69 : decode cX8_derive 69 = .ok (.lload 6, 2) := by decide +kernel
theorem dX8_derive_71 : decode cX8_derive 71 = .ok (.lconst 0, 1) := by decide +kernel
theorem dX8_derive_72 : decode cX8_derive 72 = .ok (.lcmp, 1) := by decide +kernel
theorem dX8_derive_73 : decode cX8_derive 73 = .ok (.ifCond .eq 33, 3) := by decide +kernel
theorem dX8_derive_76 : decode cX8_derive 76 = .ok (.aload_n 0, 1) := by decide +kernel
theorem dX8_derive_77 : decode cX8_derive 77 = .ok (.iload 5, 2) := by decide +kernel
theorem dX8_derive_79 : decode cX8_derive 79 = .ok (.iload 8, 2) := by decide +kernel
theorem dX8_derive_81 : decode cX8_derive 81 = .ok (.invokevirtual 106, 3) := by decide +kernel
theorem dX8_derive_84 : decode cX8_derive 84 = .ok (.iload_n 3, 1) := by decide +kernel
theorem dX8_derive_85 : decode cX8_derive 85 = .ok (.if_icmp .ne 15, 3) := by decide +kernel
theorem dX8_derive_88 : decode cX8_derive 88 = .ok (.aload_n 0, 1) := by decide +kernel
theorem dX8_derive_89 : decode cX8_derive 89 = .ok (.iload 5, 2) := by decide +kernel
theorem dX8_derive_91 : decode cX8_derive 91 = .ok (.iload 8, 2) := by decide +kernel
theorem dX8_derive_93 : decode cX8_derive 93 = .ok (.lload 6, 2) := by decide +kernel
theorem dX8_derive_95 : decode cX8_derive 95 = .ok (.iload 4, 2) := by decide +kernel
theorem dX8_derive_97 : decode cX8_derive 97 = .ok (.invokevirtual 199, 3) := by decide +kernel
theorem dX8_derive_100 : decode cX8_derive 100 = .ok (.iinc 8 1, 3) := by decide +kernel
theorem dX8_derive_103 : decode cX8_derive 103 = .ok (.goto (-46), 3) := by decide +kernel
theorem dX8_derive_106 : decode cX8_derive 106 = .ok (.iinc 5 1, 3) := by decide +kernel
theorem dX8_derive_109 : decode cX8_derive 109 = .ok (.goto (-79), 3) := by decide +kernel
theorem dX8_derive_112 : decode cX8_derive 112 = .ok (.aload_n 0, 1) := by decide +kernel
theorem dX8_derive_113 : decode cX8_derive 113 = .ok (.iload_n 1, 1) := by decide +kernel
theorem dX8_derive_114 : decode cX8_derive 114 = .ok (.bipush 8, 2) := by decide +kernel
theorem dX8_derive_116 : decode cX8_derive 116 = .ok (.invokevirtual 139, 3) := by decide +kernel
theorem dX8_derive_119 : decode cX8_derive 119 = .ok (.iconst 0, 1) := by decide +kernel
theorem dX8_derive_120 : decode cX8_derive 120 = .ok (.ireturn, 1) := by decide +kernel
set_option maxRecDepth 20000 in
theorem ggX8_derives_X8_beginning : GoodIn wsX8_derives wsX8_beginning := by
  refine goodIn_sub ?_ gd_X8_beginning
  unfold wsX8_beginning
  refine wm_c ⟨(wm_1 (wm_l (wm_8 (wm_2 wm_h)))), ?_⟩
  refine wm_a ⟨?_, ?_⟩
  · refine wm_c ⟨(wm_1 (wm_l wm_h)), ?_⟩
    refine wm_c ⟨(wm_1 (wm_l (wm_1 wm_h))), ?_⟩
    refine wm_c ⟨(wm_1 (wm_l (wm_2 (wm_1 wm_h)))), ?_⟩
    exact wm_n
  · exact wk_X8_derives_X80
set_option maxRecDepth 20000 in
theorem gX8_derives_X8_beginning : GoodIn wsX8_derives (wsV RX8 119 RX8 yX8_beginning wsX8_beginning) := by
  refine goodIn_app (goodIn_sub ?_ ?_) ggX8_derives_X8_beginning
  · exact wm_c ⟨(wm_1 (wm_l (wm_4 (wm_2 wm_h)))), wm_c ⟨(wm_1 (wm_l (wm_4 (wm_2 (wm_1 wm_h))))), wm_c ⟨(wm_1 (wm_l (wm_8 wm_h))), wm_c ⟨(wm_1 (wm_l (wm_8 (wm_1 wm_h)))), wm_n⟩⟩⟩⟩
  · decide +kernel
set_option maxRecDepth 20000 in
theorem ggX8_derives_X8_end : GoodIn wsX8_derives wsX8_end := by
  refine goodIn_sub ?_ gd_X8_end
  unfold wsX8_end
  refine wm_c ⟨(wm_1 (wm_l (wm_8 (wm_4 (wm_2 wm_h))))), ?_⟩
  refine wm_a ⟨?_, ?_⟩
  · refine wm_c ⟨(wm_1 (wm_l (wm_1 wm_h))), ?_⟩
    refine wm_c ⟨(wm_1 (wm_l wm_h)), ?_⟩
    refine wm_c ⟨(wm_1 (wm_l (wm_2 (wm_1 wm_h)))), ?_⟩
    exact wm_n
  · exact wk_X8_derives_X80
set_option maxRecDepth 20000 in
theorem gX8_derives_X8_end : GoodIn wsX8_derives (wsV RX8 109 RX8 yX8_end wsX8_end) := by
  refine goodIn_app (goodIn_sub ?_ ?_) ggX8_derives_X8_end
  · exact wm_c ⟨(wm_1 (wm_l (wm_8 (wm_2 (wm_1 wm_h))))), wm_c ⟨(wm_1 (wm_l (wm_8 (wm_4 wm_h)))), wm_c ⟨(wm_1 (wm_l (wm_8 (wm_4 (wm_1 wm_h))))), wm_c ⟨(wm_1 (wm_l (wm_8 (wm_1 wm_h)))), wm_n⟩⟩⟩⟩
  · decide +kernel
theorem dX8_derives_0 : decode cX8_derives 0 = .ok (.aload_n 0, 1) := by decide +kernel
theorem dX8_derives_1 : decode cX8_derives 1 = .ok (.iload_n 1, 1) := by decide +kernel
theorem dX8_derives_2 : decode cX8_derives 2 = .ok (.iload_n 2, 1) := by decide +kernel
theorem dX8_derives_3 : decode cX8_derives 3 = .ok (.invokevirtual 119, 3) := by decide +kernel
theorem dX8_derives_6 : decode cX8_derives 6 = .ok (.aload_n 0, 1) := by decide +kernel
theorem dX8_derives_7 : decode cX8_derives 7 = .ok (.getfield 17, 3) := by decide +kernel
theorem dX8_derives_10 : decode cX8_derives 10 = .ok (.iload_n 2, 1) := by decide +kernel
theorem dX8_derives_11 : decode cX8_derives 11 = .ok (.iaload, 1) := by decide +kernel
theorem dX8_derives_12 : decode cX8_derives 12 = .ok (.isub, 1) := by decide +kernel
theorem dX8_derives_13 : decode cX8_derives 13 = .ok (.istore 6, 2) := by decide +kernel
theorem dX8_derives_15 : decode cX8_derives 15 = .ok (.aload_n 0, 1) := by decide +kernel
theorem dX8_derives_16 : decode cX8_derives 16 = .ok (.getfield 20, 3) := by decide +kernel
theorem dX8_derives_19 : decode cX8_derives 19 = .ok (.iload_n 1, 1) := by decide +kernel
theorem dX8_derives_20 : decode cX8_derives 20 = .ok (.iaload, 1) := by decide +kernel
theorem dX8_derives_21 : decode cX8_derives 21 = .ok (.iconst 1, 1) := by decide +kernel
theorem dX8_derives_22 : decode cX8_derives 22 = .ok (.isub, 1) := by decide +kernel
theorem dX8_derives_23 : decode cX8_derives 23 = .ok (.iload_n 2, 1) := by decide +kernel
theorem dX8_derives_24 : decode cX8_derives 24 = .ok (.isub, 1) := by decide +kernel
theorem dX8_derives_25 : decode cX8_derives 25 = .ok (.istore 7, 2) := by decide +kernel
theorem dX8_derives_27 : decode cX8_derives 27 = .ok (.aload_n 0, 1) := by decide +kernel
theorem dX8_derives_28 : decode cX8_derives 28 = .ok (.iload_n 1, 1) := by decide +kernel
theorem dX8_derives_29 : decode cX8_derives 29 = .ok (.iload_n 2, 1) := by decide +kernel
theorem dX8_derives_30 : decode cX8_derives 30 = .ok (.iconst 1, 1) := by decide +kernel
theorem dX8_derives_31 : decode cX8_derives 31 = .ok (.iadd, 1) := by decide +kernel
theorem dX8_derives_32 : decode cX8_derives 32 = .ok (.invokevirtual 109, 3) := by decide +kernel
theorem dX8_derives_35 : decode cX8_derives 35 = .ok (.aload_n 0, 1) := by decide +kernel
theorem dX8_derives_36 : decode cX8_derives 36 = .ok (.getfield 17, 3) := by decide +kernel
theorem dX8_derives_39 : decode cX8_derives 39 = .ok (.iload 7, 2) := by decide +kernel
theorem dX8_derives_41 : decode cX8_derives 41 = .ok (.iaload, 1) := by decide +kernel
theorem dX8_derives_42 : decode cX8_derives 42 = .ok (.isub, 1) := by decide +kernel
theorem dX8_derives_43 : decode cX8_derives 43 = .ok (.istore 8, 2) := by decide +kernel
theorem dX8_derives_45 : decode cX8_derives 45 = .ok (.iconst 0, 1) := by decide +kernel
theorem dX8_derives_46 : decode cX8_derives 46 = .ok (.istore 9, 2) := by decide +kernel
theorem dX8_derives_48 : decode cX8_derives 48 = .ok (.iload_n 2, 1) := by decide +kernel
theorem dX8_derives_49 : decode cX8_derives 49 = .ok (.iload 9, 2) := by decide +kernel
theorem dX8_derives_51 : decode cX8_derives 51 = .ok (.iadd, 1) := by decide +kernel
theorem dX8_derives_52 : decode cX8_derives 52 = .ok (.iload 7, 2) := by decide +kernel
theorem dX8_derives_54 : decode cX8_derives 54 = .ok (.iadd, 1) := by decide +kernel
theorem dX8_derives_55 : decode cX8_derives 55 = .ok (.aload_n 0, 1) := by decide +kernel
theorem dX8_derives_56 : decode cX8_derives 56 = .ok (.getfield 92, 3) := by decide +kernel
theorem dX8_derives_59 : decode cX8_derives 59 = .ok (.if_icmp .gt 120, 3) := by decide +kernel
theorem dX8_derives_62 : decode cX8_derives 62 = .ok (.iconst 0, 1) := by decide +kernel
theorem dX8_derives_63 : decode cX8_derives 63 = .ok (.istore 10, 2) := by decide +kernel
theorem dX8_derives_65 : decode cX8_derives 65 = .ok (.iload 10, 2) := by decide +kernel
theorem dX8_derives_67 : decode cX8_derives 67 = .ok (.aload_n 0, 1) := by decide +kernel
theorem dX8_derives_68 : decode cX8_derives 68 = .ok (.getfield 13, 3) := by decide +kernel
theorem dX8_derives_71 : decode cX8_derives 71 = .ok (.iload 9, 2) := by decide +kernel
theorem dX8_derives_73 : decode cX8_derives 73 = .ok (.iaload, 1) := by decide +kernel
theorem dX8_derives_74 : decode cX8_derives 74 = .ok (.if_icmp .ge 99, 3) := by decide +kernel
theorem dX8_derives_77 : decode cX8_derives 77 = .ok (.aload_n 0, 1) := by decide +kernel
theorem dX8_derives_78 : decode cX8_derives 78 = .ok (.getfield 17, 3) := by decide +kernel
theorem dX8_derives_81 : decode cX8_derives 81 = .ok (.iload_n 2, 1) := by decide +kernel
theorem dX8_derives_82 : decode cX8_derives 82 = .ok (.iload 9, 2) := by decide +kernel
theorem dX8_derives_84 : decode cX8_derives 84 = .ok (.iadd, 1) := by decide +kernel
theorem dX8_derives_85 : decode cX8_derives 85 = .ok (.iload 7, 2) := by decide +kernel
theorem dX8_derives_87 : decode cX8_derives 87 = .ok (.iadd, 1) := by decide +kernel
theorem dX8_derives_88 : decode cX8_derives 88 = .ok (.iaload, 1) := by decide +kernel
theorem dX8_derives_89 : decode cX8_derives 89 = .ok (.iload 6, 2) := by decide +kernel
theorem dX8_derives_91 : decode cX8_derives 91 = .ok (.aload_n 0, 1) := by decide +kernel
theorem dX8_derives_92 : decode cX8_derives 92 = .ok (.getfield 13, 3) := by decide +kernel
theorem dX8_derives_95 : decode cX8_derives 95 = .ok (.iload 9, 2) := by decide +kernel
theorem dX8_derives_97 : decode cX8_derives 97 = .ok (.iaload, 1) := by decide +kernel
theorem dX8_derives_98 : decode cX8_derives 98 = .ok (.imul, 1) := by decide +kernel
theorem dX8_derives_99 : decode cX8_derives 99 = .ok (.iload 10, 2) := by decide +kernel
theorem dX8_derives_101 : decode cX8_derives 101 = .ok (.iadd, 1) := by decide +kernel
theorem dX8_derives_102 : decode cX8_derives 102 = .ok (.aload_n 0, 1) := by decide +kernel
theorem dX8_derives_103 : decode cX8_derives 103 = .ok (.getfield 13, 3) := by decide +kernel
theorem dX8_derives_106 : decode cX8_derives 106 = .ok (.iload 7, 2) := by decide +kernel
theorem dX8_derives_108 : decode cX8_derives 108 = .ok (.iaload, 1) := by decide +kernel
theorem dX8_derives_109 : decode cX8_derives 109 = .ok (.imul, 1) := by decide +kernel
theorem dX8_derives_110 : decode cX8_derives 110 = .ok (.iadd, 1) := by decide +kernel
theorem dX8_derives_111 : decode cX8_derives 111 = .ok (.iload 8, 2) := by decide +kernel
theorem dX8_derives_113 : decode cX8_derives 113 = .ok (.iadd, 1) := by decide +kernel
theorem dX8_derives_114 : decode cX8_derives 114 = .ok (.istore 11, 2) := by decide +kernel
theorem dX8_derives_116 : decode cX8_derives 116 = .ok (.aload_n 0, 1) := by decide +kernel
theorem dX8_derives_117 : decode cX8_derives 117 = .ok (.getfield 23, 3) := by decide +kernel
theorem dX8_derives_120 : decode cX8_derives 120 = .ok (.sipush 2912, 3) := by decide +kernel
theorem dX8_derives_123 : decode cX8_derives 123 = .ok (.iload 11, 2) := by decide +kernel
theorem dX8_derives_125 : decode cX8_derives 125 = .ok (.iadd, 1) := by decide +kernel
theorem dX8_derives_126 : decode cX8_derives 126 = .ok (.aload_n 0, 1) := by decide +kernel
theorem dX8_derives_127 : decode cX8_derives 127 = .ok (.getfield 23, 3) := by decide +kernel
theorem dX8_derives_130 : decode cX8_derives 130 = .ok (.sipush 2912, 3) := by decide +kernel
theorem dX8_derives_133 : decode cX8_derives 133 = .ok (.iload 11, 2) := by decide +kernel
theorem dX8_derives_135 : decode cX8_derives 135 = .ok (.iadd, 1) := by decide +kernel
theorem dX8_derives_136 : decode cX8_derives 136 = .ok (.laload, 1) := by decide +kernel
theorem dX8_derives_137 : decode cX8_derives 137 = .ok (.lload_n 3, 1) := by decide +kernel
theorem dX8_derives_138 : decode cX8_derives 138 = .ok (.aload_n 0, 1) := by decide +kernel
theorem dX8_derives_139 : decode cX8_derives 139 = .ok (.getfield 23, 3) := by decide +kernel
theorem dX8_derives_142 : decode cX8_derives 142 = .ok (.sipush 364, 3) := by decide +kernel
theorem dX8_derives_145 : decode cX8_derives 145 = .ok (.iload 5, 2) := by decide +kernel
theorem dX8_derives_147 : decode cX8_derives 147 = .ok (.imul, 1) := by decide +kernel
theorem dX8_derives_148 : decode cX8_derives 148 = .ok (.aload_n 0, 1) := by decide +kernel
theorem dX8_derives_149 : decode cX8_derives 149 = .ok (.getfield 17, 3) := by decide +kernel
theorem dX8_derives_152 : decode cX8_derives 152 = .ok (.iload 9, 2) := by decide +kernel
theorem dX8_derives_154 : decode cX8_derives 154 = .ok (.iaload, 1) := by decide +kernel
theorem dX8_derives_155 : decode cX8_derives 155 = .ok (.iadd, 1) := by decide +kernel
theorem dX8_derives_156 : decode cX8_derives 156 = .ok (.iload 10, 2) := by decide +kernel
theorem dX8_derives_158 : decode cX8_derives 158 = .ok (.iadd, 1) := by decide +kernel
theorem dX8_derives_159 : decode cX8_derives 159 = .ok (.laload, 1) := by decide +kernel
theorem dX8_derives_160 : decode cX8_derives 160 = .ok (.lmul, 1) := by decide +kernel
theorem dX8_derives_161 : decode cX8_derives 161 = .ok (.ladd, 1) := by decide +kernel
theorem dX8_derives_162 : decode cX8_derives 162 = .ok (.ldc2_w 3, 3) := by decide +kernel
theorem dX8_derives_165 : decode cX8_derives 165 = .ok (.lrem, 1) := by decide +kernel
theorem dX8_derives_166 : decode cX8_derives 166 = .ok (.lastore, 1) := by decide +kernel
theorem dX8_derives_167 : decode cX8_derives 167 = .ok (.iinc 10 1, 3) := by decide +kernel
theorem dX8_derives_170 : decode cX8_derives 170 = .ok (.goto (-105), 3) := by decide +kernel
theorem dX8_derives_173 : decode cX8_derives 173 = .ok (.iinc 9 1, 3) := by decide +kernel
theorem dX8_derives_176 : decode cX8_derives 176 = .ok (.goto (-128), 3) := by decide +kernel
theorem dX8_derives_179 : decode cX8_derives 179 = .ok (.return_, 1) := by decide +kernel
set_option maxRecDepth 20000 in
theorem ggX8_replace_X8_areSums : GoodIn wsX8_replace wsX8_areSums := by
  refine goodIn_sub ?_ gd_X8_areSums
  unfold wsX8_areSums
  refine wm_c ⟨(wk_X8_replace_X8_replace_r1 _ (wm_8 wm_h)), ?_⟩
  refine wm_c ⟨(wk_X8_replace_X8_replace_r1 _ (wm_8 (wm_1 wm_h))), ?_⟩
  refine wm_c ⟨(wk_X8_replace_X8_replace_r1 _ (wm_8 (wm_2 wm_h))), ?_⟩
  refine wm_c ⟨(wk_X8_replace_X8_replace_r1 _ (wm_4 (wm_2 (wm_1 wm_h)))), ?_⟩
  refine wm_c ⟨(wk_X8_replace_X8_replace_r1 _ (wm_8 (wm_2 (wm_1 wm_h)))), ?_⟩
  refine wm_c ⟨(wk_X8_replace_X8_replace_r1 _ (wm_8 (wm_4 wm_h))), ?_⟩
  refine wm_c ⟨(wk_X8_replace_X8_replace_r1 _ (wm_8 (wm_4 (wm_1 wm_h)))), ?_⟩
  refine wm_c ⟨(wk_X8_replace_X8_replace_r1 _ (wm_8 (wm_4 (wm_2 wm_h)))), ?_⟩
  refine wm_c ⟨(wk_X8_replace_X8_replace_r1 _ (wm_8 (wm_4 (wm_2 (wm_1 wm_h))))), ?_⟩
  exact wm_n
set_option maxRecDepth 20000 in
theorem gX8_replace_X8_areSums : GoodIn wsX8_replace (wsV RX8 182 RX8 yX8_areSums wsX8_areSums) := by
  refine goodIn_app (goodIn_sub ?_ ?_) ggX8_replace_X8_areSums
  · exact wm_c ⟨(wk_X8_replace_X8_replace_r1 _ (wm_4 wm_h)), wm_c ⟨(wk_X8_replace_X8_replace_r1 _ (wm_4 (wm_1 wm_h))), wm_c ⟨(wk_X8_replace_X8_replace_r1 _ (wm_4 (wm_2 wm_h))), wm_c ⟨(wk_X8_replace_X8_replace_r1 _ (wm_4 (wm_2 (wm_1 wm_h)))), wm_n⟩⟩⟩⟩
  · decide +kernel
set_option maxRecDepth 20000 in
theorem ggX8_replace_X8_isLetter : GoodIn wsX8_replace wsX8_isLetter := by
  refine goodIn_sub ?_ gd_X8_isLetter
  unfold wsX8_isLetter
  refine wm_c ⟨(wk_X8_replace_X8_replace_r1 _ (wm_16 (wm_2 (wm_1 wm_h)))), ?_⟩
  refine wm_a ⟨?_, ?_⟩
  · refine wm_c ⟨(wk_X8_replace_X8_replace_r1 _ (wm_16 (wm_4 wm_h))), ?_⟩
    refine wm_c ⟨(wk_X8_replace_X8_replace_r1 _ (wm_8 (wm_4 (wm_1 wm_h)))), ?_⟩
    refine wm_c ⟨(wk_X8_replace_X8_replace_r1 _ (wm_8 (wm_4 (wm_2 wm_h)))), ?_⟩
    refine wm_c ⟨(wk_X8_replace_X8_replace_r1 _ (wm_4 (wm_2 (wm_1 wm_h)))), ?_⟩
    refine wm_c ⟨(wk_X8_replace_X8_replace_r1 _ (wm_8 (wm_4 (wm_2 (wm_1 wm_h))))), ?_⟩
    exact wm_n
  · exact wk_X8_replace_X80
set_option maxRecDepth 20000 in
theorem gX8_replace_X8_isLetter : GoodIn wsX8_replace (wsV RX8 196 RX8 yX8_isLetter wsX8_isLetter) := by
  refine goodIn_app (goodIn_sub ?_ ?_) ggX8_replace_X8_isLetter
  · exact wm_c ⟨(wk_X8_replace_X8_replace_r1 _ (wm_16 wm_h)), wm_c ⟨(wk_X8_replace_X8_replace_r1 _ (wm_16 (wm_1 wm_h))), wm_c ⟨(wk_X8_replace_X8_replace_r1 _ (wm_16 (wm_2 wm_h))), wm_c ⟨(wk_X8_replace_X8_replace_r1 _ (wm_4 (wm_2 (wm_1 wm_h)))), wm_n⟩⟩⟩⟩
  · decide +kernel
set_option maxRecDepth 20000 in
theorem ggX8_replace_X8_clears : GoodIn wsX8_replace wsX8_clears := by
  refine goodIn_sub ?_ gd_X8_clears
  unfold wsX8_clears
  refine wm_c ⟨(wk_X8_replace_X8_replace_r2 _ wm_h), ?_⟩
  refine wm_a ⟨?_, ?_⟩
  · refine wm_c ⟨(wk_X8_replace_X8_replace_r1 _ (wm_1 wm_h)), ?_⟩
    refine wm_c ⟨(wk_X8_replace_X8_replace_r1 _ wm_h), ?_⟩
    exact wm_n
  · exact wk_X8_replace_X80
set_option maxRecDepth 20000 in
theorem gX8_replace_X8_clears : GoodIn wsX8_replace (wsV RX8 136 RX8 yX8_clears wsX8_clears) := by
  refine goodIn_app (goodIn_sub ?_ ?_) ggX8_replace_X8_clears
  · exact wm_c ⟨(wk_X8_replace_X8_replace_r1 _ (wm_16 (wm_4 (wm_1 wm_h)))), wm_c ⟨(wk_X8_replace_X8_replace_r1 _ (wm_16 (wm_4 (wm_2 wm_h)))), wm_c ⟨(wk_X8_replace_X8_replace_r1 _ (wm_16 (wm_4 (wm_2 (wm_1 wm_h))))), wm_c ⟨(wk_X8_replace_X8_replace_r1 _ (wm_4 (wm_2 (wm_1 wm_h)))), wm_n⟩⟩⟩⟩
  · decide +kernel
set_option maxRecDepth 20000 in
theorem ggX8_replace_X8_ones : GoodIn wsX8_replace wsX8_ones := by
  refine goodIn_sub ?_ gd_X8_ones
  unfold wsX8_ones
  refine wm_c ⟨(wk_X8_replace_X8_replace_r2 _ (wm_4 wm_h)), ?_⟩
  refine wm_a ⟨?_, ?_⟩
  · refine wm_c ⟨(wk_X8_replace_X8_replace_r1 _ wm_h), ?_⟩
    refine wm_c ⟨(wk_X8_replace_X8_replace_r1 _ (wm_16 (wm_4 (wm_1 wm_h)))), ?_⟩
    refine wm_c ⟨(wk_X8_replace_X8_replace_r1 _ (wm_16 (wm_4 (wm_2 wm_h)))), ?_⟩
    refine wm_c ⟨(wk_X8_replace_X8_replace_r1 _ (wm_16 (wm_4 (wm_2 (wm_1 wm_h))))), ?_⟩
    refine wm_c ⟨(wk_X8_replace_X8_replace_r1 _ (wm_4 (wm_2 (wm_1 wm_h)))), ?_⟩
    refine wm_c ⟨(wk_X8_replace_X8_replace_r2 _ wm_h), ?_⟩
    refine wm_c ⟨(wk_X8_replace_X8_replace_r1 _ (wm_1 wm_h)), ?_⟩
    exact wm_n
  · exact wk_X8_replace_X80
set_option maxRecDepth 20000 in
theorem gX8_replace_X8_ones : GoodIn wsX8_replace (wsV RX8 143 RX8 yX8_ones wsX8_ones) := by
  refine goodIn_app (goodIn_sub ?_ ?_) ggX8_replace_X8_ones
  · exact wm_c ⟨(wk_X8_replace_X8_replace_r2 _ (wm_1 wm_h)), wm_c ⟨(wk_X8_replace_X8_replace_r2 _ (wm_2 wm_h)), wm_c ⟨(wk_X8_replace_X8_replace_r2 _ (wm_2 (wm_1 wm_h))), wm_c ⟨(wk_X8_replace_X8_replace_r1 _ (wm_4 (wm_2 (wm_1 wm_h)))), wm_n⟩⟩⟩⟩
  · decide +kernel
set_option maxRecDepth 20000 in
theorem ggX8_replace_X8_letterAt : GoodIn wsX8_replace wsX8_letterAt := by
  refine goodIn_sub ?_ gd_X8_letterAt
  unfold wsX8_letterAt
  refine wm_c ⟨(wk_X8_replace_X8_replace_r2 _ (wm_8 wm_h)), ?_⟩
  refine wm_a ⟨?_, ?_⟩
  · refine wm_c ⟨(wk_X8_replace_X8_replace_r1 _ (wm_2 (wm_1 wm_h))), ?_⟩
    refine wm_c ⟨(wk_X8_replace_X8_replace_r1 _ (wm_2 wm_h)), ?_⟩
    refine wm_c ⟨(wk_X8_replace_X8_replace_r2 _ (wm_8 (wm_1 wm_h))), ?_⟩
    refine wm_c ⟨(wk_X8_replace_X8_replace_r1 _ (wm_16 (wm_4 wm_h))), ?_⟩
    exact wm_n
  · exact wk_X8_replace_X80
set_option maxRecDepth 20000 in
theorem gX8_replace_X8_letterAt : GoodIn wsX8_replace (wsV RX8 106 RX8 yX8_letterAt wsX8_letterAt) := by
  refine goodIn_app (goodIn_sub ?_ ?_) ggX8_replace_X8_letterAt
  · exact wm_c ⟨(wk_X8_replace_X8_replace_r2 _ (wm_4 (wm_1 wm_h))), wm_c ⟨(wk_X8_replace_X8_replace_r2 _ (wm_4 (wm_2 wm_h))), wm_c ⟨(wk_X8_replace_X8_replace_r2 _ (wm_4 (wm_2 (wm_1 wm_h)))), wm_c ⟨(wk_X8_replace_X8_replace_r1 _ (wm_4 (wm_2 (wm_1 wm_h)))), wm_n⟩⟩⟩⟩
  · decide +kernel
set_option maxRecDepth 20000 in
theorem ggX8_replace_X8_multiplies : GoodIn wsX8_replace wsX8_multiplies := by
  refine goodIn_sub ?_ gd_X8_multiplies
  unfold wsX8_multiplies
  refine wm_c ⟨(wk_X8_replace_X8_replace_r2 _ (wm_8 (wm_4 (wm_1 wm_h)))), ?_⟩
  refine wm_a ⟨?_, ?_⟩
  · refine wm_c ⟨(wk_X8_replace_X8_replace_r1 _ (wm_1 wm_h)), ?_⟩
    refine wm_c ⟨(wk_X8_replace_X8_replace_r1 _ (wm_2 wm_h)), ?_⟩
    refine wm_c ⟨(wk_X8_replace_X8_replace_r1 _ wm_h), ?_⟩
    refine wm_c ⟨(wk_X8_replace_X8_replace_r2 _ (wm_8 (wm_4 (wm_2 wm_h)))), ?_⟩
    refine wm_c ⟨(wk_X8_replace_X8_replace_r1 _ (wm_16 (wm_4 (wm_1 wm_h)))), ?_⟩
    refine wm_c ⟨(wk_X8_replace_X8_replace_r1 _ (wm_16 (wm_4 (wm_2 wm_h)))), ?_⟩
    refine wm_c ⟨(wk_X8_replace_X8_replace_r1 _ (wm_16 (wm_4 (wm_2 (wm_1 wm_h))))), ?_⟩
    refine wm_c ⟨(wk_X8_replace_X8_replace_r1 _ (wm_4 (wm_2 (wm_1 wm_h)))), ?_⟩
    refine wm_c ⟨(wk_X8_replace_X8_replace_r2 _ wm_h), ?_⟩
    refine wm_c ⟨(wk_X8_replace_X8_replace_r2 _ (wm_8 (wm_4 (wm_2 (wm_1 wm_h))))), ?_⟩
    refine wm_c ⟨(wk_X8_replace_X8_replace_r2 _ (wm_16 wm_h)), ?_⟩
    refine wm_c ⟨(wk_X8_replace_X8_replace_r2 _ (wm_16 (wm_1 wm_h))), ?_⟩
    refine wm_c ⟨(wk_X8_replace_X8_replace_r2 _ (wm_16 (wm_2 wm_h))), ?_⟩
    refine wm_c ⟨(wk_X8_replace_X8_replace_r1 _ (wm_2 (wm_1 wm_h))), ?_⟩
    refine wm_c ⟨(wk_X8_replace_X8_replace_r2 _ (wm_8 (wm_1 wm_h))), ?_⟩
    refine wm_c ⟨(wk_X8_replace_X8_replace_r2 _ (wm_16 (wm_2 (wm_1 wm_h)))), ?_⟩
    refine wm_c ⟨(wk_X8_replace_X8_replace_r2 _ (wm_16 (wm_4 wm_h))), ?_⟩
    refine wm_c ⟨(wk_X8_replace_X8_replace_r2 _ (wm_16 (wm_4 (wm_1 wm_h)))), ?_⟩
    refine wm_c ⟨(wk_X8_replace_X8_replace_r2 _ (wm_16 (wm_4 (wm_2 wm_h)))), ?_⟩
    exact wm_n
  · exact wk_X8_replace_X80
set_option maxRecDepth 20000 in
theorem gX8_replace_X8_multiplies : GoodIn wsX8_replace (wsV RX8 146 RX8 yX8_multiplies wsX8_multiplies) := by
  refine goodIn_app (goodIn_sub ?_ ?_) ggX8_replace_X8_multiplies
  · exact wm_c ⟨(wk_X8_replace_X8_replace_r2 _ (wm_8 (wm_2 wm_h))), wm_c ⟨(wk_X8_replace_X8_replace_r2 _ (wm_8 (wm_2 (wm_1 wm_h)))), wm_c ⟨(wk_X8_replace_X8_replace_r2 _ (wm_8 (wm_4 wm_h))), wm_c ⟨(wk_X8_replace_X8_replace_r1 _ (wm_4 (wm_2 (wm_1 wm_h)))), wm_n⟩⟩⟩⟩
  · decide +kernel
set_option maxRecDepth 20000 in
theorem ggX8_replace_X8_copies : GoodIn wsX8_replace wsX8_copies := by
  refine goodIn_sub ?_ gd_X8_copies
  unfold wsX8_copies
  refine wm_c ⟨(wk_X8_replace_X8_replace_r3 _ (wm_2 wm_h)), ?_⟩
  refine wm_a ⟨?_, ?_⟩
  · refine wm_c ⟨(wk_X8_replace_X8_replace_r1 _ (wm_1 wm_h)), ?_⟩
    refine wm_c ⟨(wk_X8_replace_X8_replace_r1 _ wm_h), ?_⟩
    exact wm_n
  · exact wk_X8_replace_X80
set_option maxRecDepth 20000 in
theorem gX8_replace_X8_copies : GoodIn wsX8_replace (wsV RX8 139 RX8 yX8_copies wsX8_copies) := by
  refine goodIn_app (goodIn_sub ?_ ?_) ggX8_replace_X8_copies
  · exact wm_c ⟨(wk_X8_replace_X8_replace_r2 _ (wm_16 (wm_4 (wm_2 (wm_1 wm_h))))), wm_c ⟨(wk_X8_replace_X8_replace_r3 _ wm_h), wm_c ⟨(wk_X8_replace_X8_replace_r3 _ (wm_1 wm_h)), wm_c ⟨(wk_X8_replace_X8_replace_r1 _ (wm_4 (wm_2 (wm_1 wm_h)))), wm_n⟩⟩⟩⟩
  · decide +kernel
set_option maxRecDepth 20000 in
theorem ggX8_replace_X8_adds : GoodIn wsX8_replace wsX8_adds := by
  refine goodIn_sub ?_ gd_X8_adds
  unfold wsX8_adds
  refine wm_c ⟨(wk_X8_replace_X8_replace_r3 _ (wm_4 (wm_2 wm_h))), ?_⟩
  refine wm_a ⟨?_, ?_⟩
  · refine wm_c ⟨(wk_X8_replace_X8_replace_r1 _ (wm_1 wm_h)), ?_⟩
    refine wm_c ⟨(wk_X8_replace_X8_replace_r1 _ wm_h), ?_⟩
    refine wm_c ⟨(wk_X8_replace_X8_replace_r2 _ (wm_8 (wm_4 (wm_2 wm_h)))), ?_⟩
    exact wm_n
  · exact wk_X8_replace_X80
set_option maxRecDepth 20000 in
theorem gX8_replace_X8_adds : GoodIn wsX8_replace (wsV RX8 153 RX8 yX8_adds wsX8_adds) := by
  refine goodIn_app (goodIn_sub ?_ ?_) ggX8_replace_X8_adds
  · exact wm_c ⟨(wk_X8_replace_X8_replace_r3 _ (wm_2 (wm_1 wm_h))), wm_c ⟨(wk_X8_replace_X8_replace_r3 _ (wm_4 wm_h)), wm_c ⟨(wk_X8_replace_X8_replace_r3 _ (wm_4 (wm_1 wm_h))), wm_c ⟨(wk_X8_replace_X8_replace_r1 _ (wm_4 (wm_2 (wm_1 wm_h)))), wm_n⟩⟩⟩⟩
  · decide +kernel
theorem dX8_replace_0 : decode cX8_replace 0 = .ok (.aload_n 0, 1) := by decide +kernel
theorem dX8_replace_1 : decode cX8_replace 1 = .ok (.iload_n 1, 1) := by decide +kernel
theorem dX8_replace_2 : decode cX8_replace 2 = .ok (.iload_n 2, 1) := by decide +kernel
theorem dX8_replace_3 : decode cX8_replace 3 = .ok (.iload 4, 2) := by decide +kernel
theorem dX8_replace_5 : decode cX8_replace 5 = .ok (.invokevirtual 182, 3) := by decide +kernel
theorem dX8_replace_8 : decode cX8_replace 8 = .ok (.ifCond .eq 11, 3) := by decide +kernel
theorem dX8_replace_11 : decode cX8_replace 11 = .ok (.aload_n 0, 1) := by decide +kernel
theorem dX8_replace_12 : decode cX8_replace 12 = .ok (.iload_n 3, 1) := by decide +kernel
theorem dX8_replace_13 : decode cX8_replace 13 = .ok (.invokevirtual 196, 3) := by decide +kernel
theorem dX8_replace_16 : decode cX8_replace 16 = .ok (.ifCond .ne 5, 3) := by decide +kernel
theorem dX8_replace_19 : decode cX8_replace 19 = .ok (.iconst (-1), 1) := by decide +kernel
theorem dX8_replace_20 : decode cX8_replace 20 = .ok (.ireturn, 1) := by decide +kernel
theorem dX8_replace_21 : decode cX8_replace 21 = .ok (.aload_n 0, 1) := by decide +kernel
theorem dX8_replace_22 : decode cX8_replace 22 = .ok (.getfield 23, 3) := by decide +kernel
theorem dX8_replace_25 : decode cX8_replace 25 = .ok (.sipush 364, 3) := by decide +kernel
theorem dX8_replace_28 : decode cX8_replace 28 = .ok (.iload 4, 2) := by decide +kernel
theorem dX8_replace_30 : decode cX8_replace 30 = .ok (.imul, 1) := by decide +kernel
theorem dX8_replace_31 : decode cX8_replace 31 = .ok (.laload, 1) := by decide +kernel
theorem dX8_replace_32 : decode cX8_replace 32 = .ok (.lconst 0, 1) := by decide +kernel
theorem dX8_replace_33 : decode cX8_replace 33 = .ok (.lcmp, 1) := by decide +kernel
theorem dX8_replace_34 : decode cX8_replace 34 = .ok (.ifCond .eq 6, 3) := by decide +kernel
theorem dX8_replace_37 : decode cX8_replace 37 = .ok (.bipush (-3), 2) := by decide +kernel
theorem dX8_replace_39 : decode cX8_replace 39 = .ok (.ireturn, 1) := by decide +kernel
theorem dX8_replace_40 : decode cX8_replace 40 = .ok (.aload_n 0, 1) := by decide +kernel
theorem dX8_replace_41 : decode cX8_replace 41 = .ok (.bipush 8, 2) := by decide +kernel
theorem dX8_replace_43 : decode cX8_replace 43 = .ok (.invokevirtual 136, 3) := by decide +kernel
theorem dX8_replace_46 : decode cX8_replace 46 = .ok (.iconst 0, 1) := by decide +kernel
theorem dX8_replace_47 : decode cX8_replace 47 = .ok (.istore 5, 2) := by decide +kernel
theorem dX8_replace_49 : decode cX8_replace 49 = .ok (.iload 5, 2) := by decide +kernel
theorem dX8_replace_51 : decode cX8_replace 51 = .ok (.aload_n 0, 1) := by decide +kernel
theorem dX8_replace_52 : decode cX8_replace 52 = .ok (.getfield 95, 3) := by decide +kernel
theorem dX8_replace_55 : decode cX8_replace 55 = .ok (.if_icmp .ge 149, 3) := by decide +kernel
theorem dX8_replace_58 : decode cX8_replace 58 = .ok (.aload_n 0, 1) := by decide +kernel
theorem dX8_replace_59 : decode cX8_replace 59 = .ok (.getfield 23, 3) := by decide +kernel
theorem dX8_replace_62 : decode cX8_replace 62 = .ok (.sipush 364, 3) := by decide +kernel
theorem dX8_replace_65 : decode cX8_replace 65 = .ok (.iload_n 2, 1) := by decide +kernel
theorem dX8_replace_66 : decode cX8_replace 66 = .ok (.imul, 1) := by decide +kernel
theorem dX8_replace_67 : decode cX8_replace 67 = .ok (.iload 5, 2) := by decide +kernel
theorem dX8_replace_69 : decode cX8_replace 69 = .ok (.iadd, 1) := by decide +kernel
theorem dX8_replace_70 : decode cX8_replace 70 = .ok (.laload, 1) := by decide +kernel
theorem dX8_replace_71 : decode cX8_replace 71 = .ok (.lconst 0, 1) := by decide +kernel
theorem dX8_replace_72 : decode cX8_replace 72 = .ok (.lcmp, 1) := by decide +kernel
theorem dX8_replace_73 : decode cX8_replace 73 = .ok (.ifCond .eq 125, 3) := by decide +kernel
theorem dX8_replace_76 : decode cX8_replace 76 = .ok (.aload_n 0, 1) := by decide +kernel
theorem dX8_replace_77 : decode cX8_replace 77 = .ok (.bipush 9, 2) := by decide +kernel
theorem dX8_replace_79 : decode cX8_replace 79 = .ok (.invokevirtual 143, 3) := by decide +kernel
theorem dX8_replace_82 : decode cX8_replace 82 = .ok (.iconst 0, 1) := by decide +kernel
theorem dX8_replace_83 : decode cX8_replace 83 = .ok (.istore 6, 2) := by decide +kernel
theorem dX8_replace_85 : decode cX8_replace 85 = .ok (.iload 6, 2) := by decide +kernel
theorem dX8_replace_87 : decode cX8_replace 87 = .ok (.aload_n 0, 1) := by decide +kernel
theorem dX8_replace_88 : decode cX8_replace 88 = .ok (.getfield 20, 3) := by decide +kernel
theorem dX8_replace_91 : decode cX8_replace 91 = .ok (.iload 5, 2) := by decide +kernel
theorem dX8_replace_93 : decode cX8_replace 93 = .ok (.iaload, 1) := by decide +kernel
theorem dX8_replace_94 : decode cX8_replace 94 = .ok (.if_icmp .ge 83, 3) := by decide +kernel
theorem dX8_replace_97 : decode cX8_replace 97 = .ok (.aload_n 0, 1) := by decide +kernel
theorem dX8_replace_98 : decode cX8_replace 98 = .ok (.iload 5, 2) := by decide +kernel
theorem dX8_replace_100 : decode cX8_replace 100 = .ok (.iload 6, 2) := by decide +kernel
theorem dX8_replace_102 : decode cX8_replace 102 = .ok (.invokevirtual 106, 3) := by decide +kernel
theorem dX8_replace_105 : decode cX8_replace 105 = .ok (.iload_n 3, 1) := by decide +kernel
theorem dX8_replace_106 : decode cX8_replace 106 = .ok (.if_icmp .ne 16, 3) := by decide +kernel
theorem dX8_replace_109 : decode cX8_replace 109 = .ok (.aload_n 0, 1) := by decide +kernel
theorem dX8_replace_110 : decode cX8_replace 110 = .ok (.bipush 10, 2) := by decide +kernel
theorem dX8_replace_112 : decode cX8_replace 112 = .ok (.bipush 9, 2) := by decide +kernel
theorem dX8_replace_114 : decode cX8_replace 114 = .ok (.iload 4, 2) := by decide +kernel
theorem dX8_replace_116 : decode cX8_replace 116 = .ok (.invokevirtual 146, 3) := by decide +kernel
theorem dX8_replace_119 : decode cX8_replace 119 = .ok (.goto 44, 3) := by decide +kernel
theorem dX8_replace_122 : decode cX8_replace 122 = .ok (.aload_n 0, 1) := by decide +kernel
theorem dX8_replace_123 : decode cX8_replace 123 = .ok (.bipush 11, 2) := by decide +kernel
theorem dX8_replace_125 : decode cX8_replace 125 = .ok (.invokevirtual 136, 3) := by decide +kernel
theorem dX8_replace_128 : decode cX8_replace 128 = .ok (.aload_n 0, 1) := by decide +kernel
theorem dX8_replace_129 : decode cX8_replace 129 = .ok (.getfield 23, 3) := by decide +kernel
theorem dX8_replace_132 : decode cX8_replace 132 = .ok (.sipush 4004, 3) := by decide +kernel
theorem dX8_replace_135 : decode cX8_replace 135 = .ok (.aload_n 0, 1) := by decide +kernel
theorem dX8_replace_136 : decode cX8_replace 136 = .ok (.getfield 17, 3) := by decide +kernel
theorem dX8_replace_139 : decode cX8_replace 139 = .ok (.iconst 1, 1) := by decide +kernel
theorem dX8_replace_140 : decode cX8_replace 140 = .ok (.iaload, 1) := by decide +kernel
theorem dX8_replace_141 : decode cX8_replace 141 = .ok (.iadd, 1) := by decide +kernel
theorem dX8_replace_142 : decode cX8_replace 142 = .ok (.aload_n 0, 1) := by decide +kernel
theorem dX8_replace_143 : decode cX8_replace 143 = .ok (.iload 5, 2) := by decide +kernel
theorem dX8_replace_145 : decode cX8_replace 145 = .ok (.iload 6, 2) := by decide +kernel
theorem dX8_replace_147 : decode cX8_replace 147 = .ok (.invokevirtual 106, 3) := by decide +kernel
theorem dX8_replace_150 : decode cX8_replace 150 = .ok (.iadd, 1) := by decide +kernel
theorem dX8_replace_151 : decode cX8_replace 151 = .ok (.lconst 1, 1) := by decide +kernel
theorem dX8_replace_152 : decode cX8_replace 152 = .ok (.lastore, 1) := by decide +kernel
theorem dX8_replace_153 : decode cX8_replace 153 = .ok (.aload_n 0, 1) := by decide +kernel
theorem dX8_replace_154 : decode cX8_replace 154 = .ok (.bipush 10, 2) := by decide +kernel
theorem dX8_replace_156 : decode cX8_replace 156 = .ok (.bipush 9, 2) := by decide +kernel
theorem dX8_replace_158 : decode cX8_replace 158 = .ok (.bipush 11, 2) := by decide +kernel
theorem dX8_replace_160 : decode cX8_replace 160 = .ok (.invokevirtual 146, 3) := by decide +kernel
theorem dX8_replace_163 : decode cX8_replace 163 = .ok (.aload_n 0, 1) := by decide +kernel
theorem dX8_replace_164 : decode cX8_replace 164 = .ok (.bipush 9, 2) := by decide +kernel
theorem dX8_replace_166 : decode cX8_replace 166 = .ok (.bipush 10, 2) := by decide +kernel
theorem dX8_replace_168 : decode cX8_replace 168 = .ok (.invokevirtual 139, 3) := by decide +kernel
theorem dX8_replace_171 : decode cX8_replace 171 = .ok (.iinc 6 1, 3) := by decide +kernel
theorem dX8_replace_174 : decode cX8_replace 174 = .ok (.goto (-89), 3) := by decide +kernel
theorem dX8_replace_177 : decode cX8_replace 177 = .ok (.aload_n 0, 1) := by decide +kernel
theorem dX8_replace_178 : decode cX8_replace 178 = .ok (.bipush 8, 2) := by decide +kernel
theorem dX8_replace_180 : decode cX8_replace 180 = .ok (.bipush 9, 2) := by decide +kernel
theorem dX8_replace_182 : decode cX8_replace 182 = .ok (.aload_n 0, 1) := by decide +kernel
theorem dX8_replace_183 : decode cX8_replace 183 = .ok (.getfield 23, 3) := by decide +kernel
theorem dX8_replace_186 : decode cX8_replace 186 = .ok (.sipush 364, 3) := by decide +kernel
theorem dX8_replace_189 : decode cX8_replace 189 = .ok (.iload_n 2, 1) := by decide +kernel
theorem dX8_replace_190 : decode cX8_replace 190 = .ok (.imul, 1) := by decide +kernel
theorem dX8_replace_191 : decode cX8_replace 191 = .ok (.iload 5, 2) := by decide +kernel
theorem dX8_replace_193 : decode cX8_replace 193 = .ok (.iadd, 1) := by decide +kernel
theorem dX8_replace_194 : decode cX8_replace 194 = .ok (.laload, 1) := by decide +kernel
theorem dX8_replace_195 : decode cX8_replace 195 = .ok (.invokevirtual 153, 3) := by decide +kernel
theorem dX8_replace_198 : decode cX8_replace 198 = .ok (.iinc 5 1, 3) := by decide +kernel
theorem dX8_replace_201 : decode cX8_replace 201 = .ok (.goto (-152), 3) := by decide +kernel
theorem dX8_replace_204 : decode cX8_replace 204 = .ok (.aload_n 0, 1) := by decide +kernel
theorem dX8_replace_205 : decode cX8_replace 205 = .ok (.iload_n 1, 1) := by decide +kernel
theorem dX8_replace_206 : decode cX8_replace 206 = .ok (.bipush 8, 2) := by decide +kernel
theorem dX8_replace_208 : decode cX8_replace 208 = .ok (.invokevirtual 139, 3) := by decide +kernel
theorem dX8_replace_211 : decode cX8_replace 211 = .ok (.iconst 0, 1) := by decide +kernel
theorem dX8_replace_212 : decode cX8_replace 212 = .ok (.ireturn, 1) := by decide +kernel
set_option maxRecDepth 20000 in
theorem ggX8_part_X8_isSum : GoodIn wsX8_part wsX8_isSum := by
  refine goodIn_sub ?_ gd_X8_isSum
  unfold wsX8_isSum
  refine wm_c ⟨(wm_1 (wm_l (wm_4 (wm_2 (wm_1 wm_h))))), ?_⟩
  refine wm_c ⟨(wm_1 (wm_l (wm_8 wm_h))), ?_⟩
  refine wm_c ⟨(wm_1 (wm_l (wm_8 (wm_1 wm_h)))), ?_⟩
  refine wm_c ⟨(wm_1 (wm_l (wm_8 (wm_2 wm_h)))), ?_⟩
  refine wm_c ⟨(wm_1 (wm_l (wm_4 (wm_2 wm_h)))), ?_⟩
  refine wm_c ⟨(wm_1 (wm_l (wm_8 (wm_2 (wm_1 wm_h))))), ?_⟩
  exact wm_n
set_option maxRecDepth 20000 in
theorem gX8_part_X8_isSum : GoodIn wsX8_part (va_wsS RX8 157 yX8_isSum wsX8_isSum) := goodIn_app (goodIn_of _ (by decide +kernel)) ggX8_part_X8_isSum
set_option maxRecDepth 20000 in
theorem ggX8_part_X8_in : GoodIn wsX8_part wsX8_in := by
  refine goodIn_sub ?_ gd_X8_in
  unfold wsX8_in
  refine wm_c ⟨(wm_1 (wm_l (wm_8 (wm_2 (wm_1 wm_h))))), ?_⟩
  exact wm_n
set_option maxRecDepth 20000 in
theorem gX8_part_X8_in : GoodIn wsX8_part (va_wsS RX8 130 yX8_in wsX8_in) := goodIn_app (goodIn_of _ (by decide +kernel)) ggX8_part_X8_in
theorem dX8_part_0 : decode cX8_part 0 = .ok (.iload_n 1, 1) := by decide +kernel
theorem dX8_part_1 : decode cX8_part 1 = .ok (.invokestatic 157, 3) := by decide +kernel
theorem dX8_part_4 : decode cX8_part 4 = .ok (.ifCond .eq 24, 3) := by decide +kernel
theorem dX8_part_7 : decode cX8_part 7 = .ok (.iload_n 2, 1) := by decide +kernel
theorem dX8_part_8 : decode cX8_part 8 = .ok (.invokestatic 157, 3) := by decide +kernel
theorem dX8_part_11 : decode cX8_part 11 = .ok (.ifCond .eq 17, 3) := by decide +kernel
theorem dX8_part_14 : decode cX8_part 14 = .ok (.iload_n 3, 1) := by decide +kernel
theorem dX8_part_15 : decode cX8_part 15 = .ok (.i2l, 1) := by decide +kernel
theorem dX8_part_16 : decode cX8_part 16 = .ok (.lconst 0, 1) := by decide +kernel
theorem dX8_part_17 : decode cX8_part 17 = .ok (.aload_n 0, 1) := by decide +kernel
theorem dX8_part_18 : decode cX8_part 18 = .ok (.getfield 92, 3) := by decide +kernel
theorem dX8_part_21 : decode cX8_part 21 = .ok (.i2l, 1) := by decide +kernel
theorem dX8_part_22 : decode cX8_part 22 = .ok (.invokestatic 130, 3) := by decide +kernel
theorem dX8_part_25 : decode cX8_part 25 = .ok (.ifCond .ne 5, 3) := by decide +kernel
theorem dX8_part_28 : decode cX8_part 28 = .ok (.iconst (-1), 1) := by decide +kernel
theorem dX8_part_29 : decode cX8_part 29 = .ok (.ireturn, 1) := by decide +kernel
theorem dX8_part_30 : decode cX8_part 30 = .ok (.iconst 0, 1) := by decide +kernel
theorem dX8_part_31 : decode cX8_part 31 = .ok (.istore 4, 2) := by decide +kernel
theorem dX8_part_33 : decode cX8_part 33 = .ok (.iload 4, 2) := by decide +kernel
theorem dX8_part_35 : decode cX8_part 35 = .ok (.aload_n 0, 1) := by decide +kernel
theorem dX8_part_36 : decode cX8_part 36 = .ok (.getfield 95, 3) := by decide +kernel
theorem dX8_part_39 : decode cX8_part 39 = .ok (.if_icmp .ge 50, 3) := by decide +kernel
theorem dX8_part_42 : decode cX8_part 42 = .ok (.aload_n 0, 1) := by decide +kernel
theorem dX8_part_43 : decode cX8_part 43 = .ok (.getfield 23, 3) := by decide +kernel
theorem dX8_part_46 : decode cX8_part 46 = .ok (.sipush 364, 3) := by decide +kernel
theorem dX8_part_49 : decode cX8_part 49 = .ok (.iload_n 1, 1) := by decide +kernel
theorem dX8_part_50 : decode cX8_part 50 = .ok (.imul, 1) := by decide +kernel
theorem dX8_part_51 : decode cX8_part 51 = .ok (.iload 4, 2) := by decide +kernel
theorem dX8_part_53 : decode cX8_part 53 = .ok (.iadd, 1) := by decide +kernel
theorem dX8_part_54 : decode cX8_part 54 = .ok (.aload_n 0, 1) := by decide +kernel
theorem dX8_part_55 : decode cX8_part 55 = .ok (.getfield 20, 3) := by decide +kernel
theorem dX8_part_58 : decode cX8_part 58 = .ok (.iload 4, 2) := by decide +kernel
theorem dX8_part_60 : decode cX8_part 60 = .ok (.iaload, 1) := by decide +kernel
theorem dX8_part_61 : decode cX8_part 61 = .ok (.iload_n 3, 1) := by decide +kernel
theorem dX8_part_62 : decode cX8_part 62 = .ok (.if_icmp .ne 19, 3) := by decide +kernel
theorem dX8_part_65 : decode cX8_part 65 = .ok (.aload_n 0, 1) := by decide +kernel
theorem dX8_part_66 : decode cX8_part 66 = .ok (.getfield 23, 3) := by decide +kernel
theorem dX8_part_69 : decode cX8_part 69 = .ok (.sipush 364, 3) := by decide +kernel
theorem dX8_part_72 : decode cX8_part 72 = .ok (.iload_n 2, 1) := by decide +kernel
theorem dX8_part_73 : decode cX8_part 73 = .ok (.imul, 1) := by decide +kernel
theorem dX8_part_74 : decode cX8_part 74 = .ok (.iload 4, 2) := by decide +kernel
theorem dX8_part_76 : decode cX8_part 76 = .ok (.iadd, 1) := by decide +kernel
theorem dX8_part_77 : decode cX8_part 77 = .ok (.laload, 1) := by decide +kernel
theorem dX8_part_78 : decode cX8_part 78 = .ok (.goto 4, 3) := by decide +kernel
theorem dX8_part_81 : decode cX8_part 81 = .ok (.lconst 0, 1) := by decide +kernel
theorem dX8_part_82 : decode cX8_part 82 = .ok (.lastore, 1) := by decide +kernel
theorem dX8_part_83 : decode cX8_part 83 = .ok (.iinc 4 1, 3) := by decide +kernel
theorem dX8_part_86 : decode cX8_part 86 = .ok (.goto (-53), 3) := by decide +kernel
theorem dX8_part_89 : decode cX8_part 89 = .ok (.iconst 0, 1) := by decide +kernel
theorem dX8_part_90 : decode cX8_part 90 = .ok (.ireturn, 1) := by decide +kernel
set_option maxRecDepth 20000 in
theorem ggX8_pair_X8_isSum : GoodIn wsX8_pair wsX8_isSum := by
  refine goodIn_sub ?_ gd_X8_isSum
  unfold wsX8_isSum
  refine wm_c ⟨(wm_1 (wm_l (wm_4 (wm_2 wm_h)))), ?_⟩
  refine wm_c ⟨(wm_1 (wm_l (wm_4 (wm_2 (wm_1 wm_h))))), ?_⟩
  refine wm_c ⟨(wm_1 (wm_l (wm_8 wm_h))), ?_⟩
  refine wm_c ⟨(wm_1 (wm_l (wm_8 (wm_1 wm_h)))), ?_⟩
  refine wm_c ⟨(wm_1 (wm_l (wm_4 (wm_1 wm_h)))), ?_⟩
  refine wm_c ⟨(wm_1 (wm_l (wm_8 (wm_2 wm_h)))), ?_⟩
  exact wm_n
set_option maxRecDepth 20000 in
theorem gX8_pair_X8_isSum : GoodIn wsX8_pair (va_wsS RX8 157 yX8_isSum wsX8_isSum) := goodIn_app (goodIn_of _ (by decide +kernel)) ggX8_pair_X8_isSum
theorem dX8_pair_0 : decode cX8_pair 0 = .ok (.iload_n 1, 1) := by decide +kernel
theorem dX8_pair_1 : decode cX8_pair 1 = .ok (.invokestatic 157, 3) := by decide +kernel
theorem dX8_pair_4 : decode cX8_pair 4 = .ok (.ifCond .eq 10, 3) := by decide +kernel
theorem dX8_pair_7 : decode cX8_pair 7 = .ok (.iload_n 2, 1) := by decide +kernel
theorem dX8_pair_8 : decode cX8_pair 8 = .ok (.invokestatic 157, 3) := by decide +kernel
theorem dX8_pair_11 : decode cX8_pair 11 = .ok (.ifCond .ne 5, 3) := by decide +kernel
theorem dX8_pair_14 : decode cX8_pair 14 = .ok (.iconst (-1), 1) := by decide +kernel
theorem dX8_pair_15 : decode cX8_pair 15 = .ok (.ireturn, 1) := by decide +kernel
theorem dX8_pair_16 : decode cX8_pair 16 = .ok (.lconst 0, 1) := by decide +kernel
theorem dX8_pair_17 : decode cX8_pair 17 = .ok (.lstore_n 3, 1) := by decide +kernel
theorem dX8_pair_18 : decode cX8_pair 18 = .ok (.iconst 0, 1) := by decide +kernel
theorem dX8_pair_19 : decode cX8_pair 19 = .ok (.istore 5, 2) := by decide +kernel
theorem dX8_pair_21 : decode cX8_pair 21 = .ok (.iload 5, 2) := by decide +kernel
theorem dX8_pair_23 : decode cX8_pair 23 = .ok (.aload_n 0, 1) := by decide +kernel
theorem dX8_pair_24 : decode cX8_pair 24 = .ok (.getfield 95, 3) := by decide +kernel
theorem dX8_pair_27 : decode cX8_pair 27 = .ok (.if_icmp .ge 43, 3) := by decide +kernel
theorem dX8_pair_30 : decode cX8_pair 30 = .ok (.lload_n 3, 1) := by decide +kernel
theorem dX8_pair_31 : decode cX8_pair 31 = .ok (.aload_n 0, 1) := by decide +kernel
theorem dX8_pair_32 : decode cX8_pair 32 = .ok (.getfield 23, 3) := by decide +kernel
theorem dX8_pair_35 : decode cX8_pair 35 = .ok (.sipush 364, 3) := by decide +kernel
theorem dX8_pair_38 : decode cX8_pair 38 = .ok (.iload_n 1, 1) := by decide +kernel
theorem dX8_pair_39 : decode cX8_pair 39 = .ok (.imul, 1) := by decide +kernel
theorem dX8_pair_40 : decode cX8_pair 40 = .ok (.iload 5, 2) := by decide +kernel
theorem dX8_pair_42 : decode cX8_pair 42 = .ok (.iadd, 1) := by decide +kernel
theorem dX8_pair_43 : decode cX8_pair 43 = .ok (.laload, 1) := by decide +kernel
theorem dX8_pair_44 : decode cX8_pair 44 = .ok (.aload_n 0, 1) := by decide +kernel
theorem dX8_pair_45 : decode cX8_pair 45 = .ok (.getfield 23, 3) := by decide +kernel
theorem dX8_pair_48 : decode cX8_pair 48 = .ok (.sipush 364, 3) := by decide +kernel
theorem dX8_pair_51 : decode cX8_pair 51 = .ok (.iload_n 2, 1) := by decide +kernel
theorem dX8_pair_52 : decode cX8_pair 52 = .ok (.imul, 1) := by decide +kernel
theorem dX8_pair_53 : decode cX8_pair 53 = .ok (.iload 5, 2) := by decide +kernel
theorem dX8_pair_55 : decode cX8_pair 55 = .ok (.iadd, 1) := by decide +kernel
theorem dX8_pair_56 : decode cX8_pair 56 = .ok (.laload, 1) := by decide +kernel
theorem dX8_pair_57 : decode cX8_pair 57 = .ok (.lmul, 1) := by decide +kernel
theorem dX8_pair_58 : decode cX8_pair 58 = .ok (.ladd, 1) := by decide +kernel
theorem dX8_pair_59 : decode cX8_pair 59 = .ok (.ldc2_w 3, 3) := by decide +kernel
theorem dX8_pair_62 : decode cX8_pair 62 = .ok (.lrem, 1) := by decide +kernel
theorem dX8_pair_63 : decode cX8_pair 63 = .ok (.lstore_n 3, 1) := by decide +kernel
theorem dX8_pair_64 : decode cX8_pair 64 = .ok (.iinc 5 1, 3) := by decide +kernel
theorem dX8_pair_67 : decode cX8_pair 67 = .ok (.goto (-46), 3) := by decide +kernel
theorem dX8_pair_70 : decode cX8_pair 70 = .ok (.lload_n 3, 1) := by decide +kernel
theorem dX8_pair_71 : decode cX8_pair 71 = .ok (.l2i, 1) := by decide +kernel
theorem dX8_pair_72 : decode cX8_pair 72 = .ok (.ireturn, 1) := by decide +kernel
set_option maxRecDepth 20000 in
theorem ggX8_isNumber_X8_in : GoodIn wsX8_isNumber wsX8_in := by
  refine goodIn_sub ?_ gd_X8_in
  unfold wsX8_in
  refine wm_c ⟨(wm_1 (wm_l (wm_4 wm_h))), ?_⟩
  exact wm_n
set_option maxRecDepth 20000 in
theorem gX8_isNumber_X8_in : GoodIn wsX8_isNumber (va_wsS RX8 130 yX8_in wsX8_in) := goodIn_app (goodIn_of _ (by decide +kernel)) ggX8_isNumber_X8_in
theorem dX8_isNumber_0 : decode cX8_isNumber 0 = .ok (.iload_n 1, 1) := by decide +kernel
theorem dX8_isNumber_1 : decode cX8_isNumber 1 = .ok (.i2l, 1) := by decide +kernel
theorem dX8_isNumber_2 : decode cX8_isNumber 2 = .ok (.lconst 0, 1) := by decide +kernel
theorem dX8_isNumber_3 : decode cX8_isNumber 3 = .ok (.aload_n 0, 1) := by decide +kernel
theorem dX8_isNumber_4 : decode cX8_isNumber 4 = .ok (.getfield 116, 3) := by decide +kernel
theorem dX8_isNumber_7 : decode cX8_isNumber 7 = .ok (.iconst 1, 1) := by decide +kernel
theorem dX8_isNumber_8 : decode cX8_isNumber 8 = .ok (.isub, 1) := by decide +kernel
theorem dX8_isNumber_9 : decode cX8_isNumber 9 = .ok (.i2l, 1) := by decide +kernel
theorem dX8_isNumber_10 : decode cX8_isNumber 10 = .ok (.invokestatic 130, 3) := by decide +kernel
theorem dX8_isNumber_13 : decode cX8_isNumber 13 = .ok (.ireturn, 1) := by decide +kernel
set_option maxRecDepth 20000 in
theorem ggX8_lyndon_X8_isNumber : GoodIn wsX8_lyndon wsX8_isNumber := by
  refine goodIn_sub ?_ gd_X8_isNumber
  unfold wsX8_isNumber
  refine wm_c ⟨(wm_1 (wm_l (wm_4 (wm_1 wm_h)))), ?_⟩
  refine wm_a ⟨?_, ?_⟩
  · refine wm_c ⟨(wm_1 (wm_l (wm_4 (wm_2 wm_h)))), ?_⟩
    refine wm_c ⟨(wm_1 (wm_l (wm_4 (wm_2 (wm_1 wm_h))))), ?_⟩
    refine wm_c ⟨(wm_1 (wm_l (wm_8 wm_h))), ?_⟩
    refine wm_c ⟨(wm_1 (wm_l (wm_4 wm_h))), ?_⟩
    refine wm_c ⟨(wm_1 (wm_l (wm_8 (wm_1 wm_h)))), ?_⟩
    exact wm_n
  · exact wk_X8_lyndon_X80
set_option maxRecDepth 20000 in
theorem gX8_lyndon_X8_isNumber : GoodIn wsX8_lyndon (wsV RX8 203 RX8 yX8_isNumber wsX8_isNumber) := by
  refine goodIn_app (goodIn_sub ?_ ?_) ggX8_lyndon_X8_isNumber
  · exact wm_c ⟨(wm_1 (wm_l (wm_1 wm_h))), wm_c ⟨(wm_1 (wm_l (wm_2 wm_h))), wm_c ⟨(wm_1 (wm_l (wm_2 (wm_1 wm_h)))), wm_c ⟨(wm_1 (wm_l (wm_4 wm_h))), wm_n⟩⟩⟩⟩
  · decide +kernel
set_option maxRecDepth 20000 in
theorem ggX8_lyndon_X8_codeOf : GoodIn wsX8_lyndon wsX8_codeOf := by
  refine goodIn_sub ?_ gd_X8_codeOf
  unfold wsX8_codeOf
  refine wm_c ⟨(wm_1 (wm_l (wm_8 (wm_4 (wm_1 wm_h))))), ?_⟩
  refine wm_a ⟨?_, ?_⟩
  · refine wm_c ⟨(wm_1 (wm_l (wm_8 (wm_4 (wm_2 wm_h))))), ?_⟩
    refine wm_c ⟨(wm_1 (wm_l (wm_8 (wm_4 (wm_2 (wm_1 wm_h)))))), ?_⟩
    refine wm_c ⟨(wm_1 (wm_l (wm_16 wm_h))), ?_⟩
    refine wm_c ⟨(wm_1 (wm_l (wm_16 (wm_1 wm_h)))), ?_⟩
    refine wm_c ⟨(wm_1 (wm_l (wm_4 wm_h))), ?_⟩
    refine wm_c ⟨(wm_1 (wm_l (wm_16 (wm_2 wm_h)))), ?_⟩
    refine wm_c ⟨(wm_1 (wm_l (wm_16 (wm_2 (wm_1 wm_h))))), ?_⟩
    refine wm_c ⟨(wm_1 (wm_l (wm_16 (wm_4 wm_h)))), ?_⟩
    refine wm_c ⟨(wm_1 (wm_l (wm_16 (wm_4 (wm_1 wm_h))))), ?_⟩
    exact wm_n
  · exact wk_X8_lyndon_X80
set_option maxRecDepth 20000 in
theorem gX8_lyndon_X8_codeOf : GoodIn wsX8_lyndon (wsV RX8 206 RX8 yX8_codeOf wsX8_codeOf) := by
  refine goodIn_app (goodIn_sub ?_ ?_) ggX8_lyndon_X8_codeOf
  · exact wm_c ⟨(wm_1 (wm_l (wm_8 (wm_2 wm_h)))), wm_c ⟨(wm_1 (wm_l (wm_8 (wm_2 (wm_1 wm_h))))), wm_c ⟨(wm_1 (wm_l (wm_8 (wm_4 wm_h)))), wm_c ⟨(wm_1 (wm_l (wm_4 wm_h))), wm_n⟩⟩⟩⟩
  · decide +kernel
theorem dX8_lyndon_0 : decode cX8_lyndon 0 = .ok (.aload_n 0, 1) := by decide +kernel
theorem dX8_lyndon_1 : decode cX8_lyndon 1 = .ok (.iload_n 1, 1) := by decide +kernel
theorem dX8_lyndon_2 : decode cX8_lyndon 2 = .ok (.invokevirtual 203, 3) := by decide +kernel
theorem dX8_lyndon_5 : decode cX8_lyndon 5 = .ok (.ifCond .eq 16, 3) := by decide +kernel
theorem dX8_lyndon_8 : decode cX8_lyndon 8 = .ok (.aload_n 0, 1) := by decide +kernel
theorem dX8_lyndon_9 : decode cX8_lyndon 9 = .ok (.aload_n 0, 1) := by decide +kernel
theorem dX8_lyndon_10 : decode cX8_lyndon 10 = .ok (.getfield 27, 3) := by decide +kernel
theorem dX8_lyndon_13 : decode cX8_lyndon 13 = .ok (.iload_n 1, 1) := by decide +kernel
theorem dX8_lyndon_14 : decode cX8_lyndon 14 = .ok (.iaload, 1) := by decide +kernel
theorem dX8_lyndon_15 : decode cX8_lyndon 15 = .ok (.invokevirtual 206, 3) := by decide +kernel
theorem dX8_lyndon_18 : decode cX8_lyndon 18 = .ok (.goto 4, 3) := by decide +kernel
theorem dX8_lyndon_21 : decode cX8_lyndon 21 = .ok (.iconst (-1), 1) := by decide +kernel
theorem dX8_lyndon_22 : decode cX8_lyndon 22 = .ok (.ireturn, 1) := by decide +kernel
theorem dX8_manyOf_0 : decode cX8_manyOf 0 = .ok (.iconst 0, 1) := by decide +kernel
theorem dX8_manyOf_1 : decode cX8_manyOf 1 = .ok (.istore_n 2, 1) := by decide +kernel
theorem dX8_manyOf_2 : decode cX8_manyOf 2 = .ok (.iconst 0, 1) := by decide +kernel
theorem dX8_manyOf_3 : decode cX8_manyOf 3 = .ok (.istore_n 3, 1) := by decide +kernel
theorem dX8_manyOf_4 : decode cX8_manyOf 4 = .ok (.iload_n 3, 1) := by decide +kernel
theorem dX8_manyOf_5 : decode cX8_manyOf 5 = .ok (.aload_n 0, 1) := by decide +kernel
theorem dX8_manyOf_6 : decode cX8_manyOf 6 = .ok (.getfield 116, 3) := by decide +kernel
theorem dX8_manyOf_9 : decode cX8_manyOf 9 = .ok (.if_icmp .ge 32, 3) := by decide +kernel
theorem dX8_manyOf_12 : decode cX8_manyOf 12 = .ok (.iload_n 2, 1) := by decide +kernel
theorem dX8_manyOf_13 : decode cX8_manyOf 13 = .ok (.aload_n 0, 1) := by decide +kernel
theorem dX8_manyOf_14 : decode cX8_manyOf 14 = .ok (.getfield 20, 3) := by decide +kernel
theorem dX8_manyOf_17 : decode cX8_manyOf 17 = .ok (.aload_n 0, 1) := by decide +kernel
theorem dX8_manyOf_18 : decode cX8_manyOf 18 = .ok (.getfield 27, 3) := by decide +kernel
theorem dX8_manyOf_21 : decode cX8_manyOf 21 = .ok (.iload_n 3, 1) := by decide +kernel
theorem dX8_manyOf_22 : decode cX8_manyOf 22 = .ok (.iaload, 1) := by decide +kernel
theorem dX8_manyOf_23 : decode cX8_manyOf 23 = .ok (.iaload, 1) := by decide +kernel
theorem dX8_manyOf_24 : decode cX8_manyOf 24 = .ok (.iload_n 1, 1) := by decide +kernel
theorem dX8_manyOf_25 : decode cX8_manyOf 25 = .ok (.if_icmp .ne 7, 3) := by decide +kernel
theorem dX8_manyOf_28 : decode cX8_manyOf 28 = .ok (.iconst 1, 1) := by decide +kernel
theorem dX8_manyOf_29 : decode cX8_manyOf 29 = .ok (.goto 4, 3) := by decide +kernel
theorem dX8_manyOf_32 : decode cX8_manyOf 32 = .ok (.iconst 0, 1) := by decide +kernel
theorem dX8_manyOf_33 : decode cX8_manyOf 33 = .ok (.iadd, 1) := by decide +kernel
theorem dX8_manyOf_34 : decode cX8_manyOf 34 = .ok (.istore_n 2, 1) := by decide +kernel
theorem dX8_manyOf_35 : decode cX8_manyOf 35 = .ok (.iinc 3 1, 3) := by decide +kernel
theorem dX8_manyOf_38 : decode cX8_manyOf 38 = .ok (.goto (-34), 3) := by decide +kernel
theorem dX8_manyOf_41 : decode cX8_manyOf 41 = .ok (.iload_n 2, 1) := by decide +kernel
theorem dX8_manyOf_42 : decode cX8_manyOf 42 = .ok (.ireturn, 1) := by decide +kernel
set_option maxRecDepth 20000 in
theorem ggX8_lyndons_X8_in : GoodIn wsX8_lyndons wsX8_in := by
  refine goodIn_sub ?_ gd_X8_in
  unfold wsX8_in
  refine wm_c ⟨(wm_1 (wm_l (wm_4 wm_h))), ?_⟩
  exact wm_n
set_option maxRecDepth 20000 in
theorem gX8_lyndons_X8_in : GoodIn wsX8_lyndons (va_wsS RX8 130 yX8_in wsX8_in) := goodIn_app (goodIn_of _ (by decide +kernel)) ggX8_lyndons_X8_in
set_option maxRecDepth 20000 in
theorem ggX8_lyndons_X8_manyOf : GoodIn wsX8_lyndons wsX8_manyOf := by
  refine goodIn_sub ?_ gd_X8_manyOf
  unfold wsX8_manyOf
  refine wm_c ⟨(wm_1 (wm_l (wm_8 wm_h))), ?_⟩
  refine wm_a ⟨?_, ?_⟩
  · refine wm_c ⟨(wm_1 (wm_l (wm_8 (wm_1 wm_h)))), ?_⟩
    refine wm_c ⟨(wm_1 (wm_l (wm_8 (wm_2 wm_h)))), ?_⟩
    refine wm_c ⟨(wm_1 (wm_l (wm_8 (wm_2 (wm_1 wm_h))))), ?_⟩
    exact wm_n
  · exact wk_X8_lyndons_X80
set_option maxRecDepth 20000 in
theorem gX8_lyndons_X8_manyOf : GoodIn wsX8_lyndons (wsV RX8 209 RX8 yX8_manyOf wsX8_manyOf) := by
  refine goodIn_app (goodIn_sub ?_ ?_) ggX8_lyndons_X8_manyOf
  · exact wm_c ⟨(wm_1 (wm_l (wm_4 (wm_1 wm_h)))), wm_c ⟨(wm_1 (wm_l (wm_4 (wm_2 wm_h)))), wm_c ⟨(wm_1 (wm_l (wm_4 (wm_2 (wm_1 wm_h))))), wm_c ⟨(wm_1 (wm_l (wm_2 (wm_1 wm_h)))), wm_n⟩⟩⟩⟩
  · decide +kernel
theorem dX8_lyndons_0 : decode cX8_lyndons 0 = .ok (.iload_n 1, 1) := by decide +kernel
theorem dX8_lyndons_1 : decode cX8_lyndons 1 = .ok (.i2l, 1) := by decide +kernel
theorem dX8_lyndons_2 : decode cX8_lyndons 2 = .ok (.lconst 1, 1) := by decide +kernel
theorem dX8_lyndons_3 : decode cX8_lyndons 3 = .ok (.aload_n 0, 1) := by decide +kernel
theorem dX8_lyndons_4 : decode cX8_lyndons 4 = .ok (.getfield 92, 3) := by decide +kernel
theorem dX8_lyndons_7 : decode cX8_lyndons 7 = .ok (.i2l, 1) := by decide +kernel
theorem dX8_lyndons_8 : decode cX8_lyndons 8 = .ok (.invokestatic 130, 3) := by decide +kernel
theorem dX8_lyndons_11 : decode cX8_lyndons 11 = .ok (.ifCond .eq 11, 3) := by decide +kernel
theorem dX8_lyndons_14 : decode cX8_lyndons 14 = .ok (.aload_n 0, 1) := by decide +kernel
theorem dX8_lyndons_15 : decode cX8_lyndons 15 = .ok (.iload_n 1, 1) := by decide +kernel
theorem dX8_lyndons_16 : decode cX8_lyndons 16 = .ok (.invokevirtual 209, 3) := by decide +kernel
theorem dX8_lyndons_19 : decode cX8_lyndons 19 = .ok (.goto 4, 3) := by decide +kernel
theorem dX8_lyndons_22 : decode cX8_lyndons 22 = .ok (.iconst (-1), 1) := by decide +kernel
theorem dX8_lyndons_23 : decode cX8_lyndons 23 = .ok (.ireturn, 1) := by decide +kernel
set_option maxRecDepth 20000 in
theorem ggX8_side_X8_isNumber : GoodIn wsX8_side wsX8_isNumber := by
  refine goodIn_sub ?_ gd_X8_isNumber
  unfold wsX8_isNumber
  refine wm_c ⟨(wm_1 (wm_l (wm_4 (wm_2 wm_h)))), ?_⟩
  refine wm_a ⟨?_, ?_⟩
  · refine wm_c ⟨(wm_1 (wm_l (wm_4 (wm_2 (wm_1 wm_h))))), ?_⟩
    refine wm_c ⟨(wm_1 (wm_l (wm_8 wm_h))), ?_⟩
    refine wm_c ⟨(wm_1 (wm_l (wm_8 (wm_1 wm_h)))), ?_⟩
    refine wm_c ⟨(wm_1 (wm_l (wm_4 (wm_1 wm_h)))), ?_⟩
    refine wm_c ⟨(wm_1 (wm_l (wm_8 (wm_2 wm_h)))), ?_⟩
    exact wm_n
  · exact wk_X8_side_X80
set_option maxRecDepth 20000 in
theorem gX8_side_X8_isNumber : GoodIn wsX8_side (wsV RX8 203 RX8 yX8_isNumber wsX8_isNumber) := by
  refine goodIn_app (goodIn_sub ?_ ?_) ggX8_side_X8_isNumber
  · exact wm_c ⟨(wm_1 (wm_l (wm_2 wm_h))), wm_c ⟨(wm_1 (wm_l (wm_2 (wm_1 wm_h)))), wm_c ⟨(wm_1 (wm_l (wm_4 wm_h))), wm_c ⟨(wm_1 (wm_l (wm_4 (wm_1 wm_h)))), wm_n⟩⟩⟩⟩
  · decide +kernel
set_option maxRecDepth 20000 in
theorem ggX8_side_X8_in : GoodIn wsX8_side wsX8_in := by
  refine goodIn_sub ?_ gd_X8_in
  unfold wsX8_in
  refine wm_c ⟨(wm_1 (wm_l (wm_8 (wm_2 wm_h)))), ?_⟩
  exact wm_n
set_option maxRecDepth 20000 in
theorem gX8_side_X8_in : GoodIn wsX8_side (va_wsS RX8 130 yX8_in wsX8_in) := goodIn_app (goodIn_of _ (by decide +kernel)) ggX8_side_X8_in
theorem dX8_side_0 : decode cX8_side 0 = .ok (.aload_n 0, 1) := by decide +kernel
theorem dX8_side_1 : decode cX8_side 1 = .ok (.iload_n 1, 1) := by decide +kernel
theorem dX8_side_2 : decode cX8_side 2 = .ok (.invokevirtual 203, 3) := by decide +kernel
theorem dX8_side_5 : decode cX8_side 5 = .ok (.ifCond .eq 35, 3) := by decide +kernel
theorem dX8_side_8 : decode cX8_side 8 = .ok (.iload_n 2, 1) := by decide +kernel
theorem dX8_side_9 : decode cX8_side 9 = .ok (.i2l, 1) := by decide +kernel
theorem dX8_side_10 : decode cX8_side 10 = .ok (.lconst 0, 1) := by decide +kernel
theorem dX8_side_11 : decode cX8_side 11 = .ok (.lconst 1, 1) := by decide +kernel
theorem dX8_side_12 : decode cX8_side 12 = .ok (.invokestatic 130, 3) := by decide +kernel
theorem dX8_side_15 : decode cX8_side 15 = .ok (.ifCond .eq 25, 3) := by decide +kernel
theorem dX8_side_18 : decode cX8_side 18 = .ok (.iload_n 2, 1) := by decide +kernel
theorem dX8_side_19 : decode cX8_side 19 = .ok (.ifCond .ne 12, 3) := by decide +kernel
theorem dX8_side_22 : decode cX8_side 22 = .ok (.aload_n 0, 1) := by decide +kernel
theorem dX8_side_23 : decode cX8_side 23 = .ok (.getfield 30, 3) := by decide +kernel
theorem dX8_side_26 : decode cX8_side 26 = .ok (.iload_n 1, 1) := by decide +kernel
theorem dX8_side_27 : decode cX8_side 27 = .ok (.iaload, 1) := by decide +kernel
theorem dX8_side_28 : decode cX8_side 28 = .ok (.goto 13, 3) := by decide +kernel
theorem dX8_side_31 : decode cX8_side 31 = .ok (.aload_n 0, 1) := by decide +kernel
theorem dX8_side_32 : decode cX8_side 32 = .ok (.getfield 33, 3) := by decide +kernel
theorem dX8_side_35 : decode cX8_side 35 = .ok (.iload_n 1, 1) := by decide +kernel
theorem dX8_side_36 : decode cX8_side 36 = .ok (.iaload, 1) := by decide +kernel
theorem dX8_side_37 : decode cX8_side 37 = .ok (.goto 4, 3) := by decide +kernel
theorem dX8_side_40 : decode cX8_side 40 = .ok (.iconst (-1), 1) := by decide +kernel
theorem dX8_side_41 : decode cX8_side 41 = .ok (.ireturn, 1) := by decide +kernel
set_option maxRecDepth 20000 in
theorem ggX8_basis_X8_isSum : GoodIn wsX8_basis wsX8_isSum := by
  refine goodIn_sub ?_ gd_X8_isSum
  unfold wsX8_isSum
  refine wm_c ⟨(wm_1 (wm_l (wm_8 (wm_1 wm_h)))), ?_⟩
  refine wm_c ⟨(wm_1 (wm_l (wm_8 (wm_2 wm_h)))), ?_⟩
  refine wm_c ⟨(wm_1 (wm_l (wm_8 (wm_2 (wm_1 wm_h))))), ?_⟩
  refine wm_c ⟨(wm_1 (wm_l (wm_8 (wm_4 wm_h)))), ?_⟩
  refine wm_c ⟨(wm_1 (wm_l (wm_8 wm_h))), ?_⟩
  refine wm_c ⟨(wm_1 (wm_l (wm_8 (wm_4 (wm_1 wm_h))))), ?_⟩
  exact wm_n
set_option maxRecDepth 20000 in
theorem gX8_basis_X8_isSum : GoodIn wsX8_basis (va_wsS RX8 157 yX8_isSum wsX8_isSum) := goodIn_app (goodIn_of _ (by decide +kernel)) ggX8_basis_X8_isSum
set_option maxRecDepth 20000 in
theorem ggX8_basis_X8_isNumber : GoodIn wsX8_basis wsX8_isNumber := by
  refine goodIn_sub ?_ gd_X8_isNumber
  unfold wsX8_isNumber
  refine wm_c ⟨(wm_1 (wm_l (wm_16 (wm_1 wm_h)))), ?_⟩
  refine wm_a ⟨?_, ?_⟩
  · refine wm_c ⟨(wm_1 (wm_l (wm_16 (wm_2 wm_h)))), ?_⟩
    refine wm_c ⟨(wm_1 (wm_l (wm_8 (wm_2 (wm_1 wm_h))))), ?_⟩
    refine wm_c ⟨(wm_1 (wm_l (wm_8 (wm_4 wm_h)))), ?_⟩
    refine wm_c ⟨(wm_1 (wm_l (wm_8 wm_h))), ?_⟩
    refine wm_c ⟨(wm_1 (wm_l (wm_8 (wm_4 (wm_1 wm_h))))), ?_⟩
    exact wm_n
  · exact wk_X8_basis_X80
set_option maxRecDepth 20000 in
theorem gX8_basis_X8_isNumber : GoodIn wsX8_basis (wsV RX8 203 RX8 yX8_isNumber wsX8_isNumber) := by
  refine goodIn_app (goodIn_sub ?_ ?_) ggX8_basis_X8_isNumber
  · exact wm_c ⟨(wm_1 (wm_l (wm_8 (wm_4 (wm_2 wm_h))))), wm_c ⟨(wm_1 (wm_l (wm_8 (wm_4 (wm_2 (wm_1 wm_h)))))), wm_c ⟨(wm_1 (wm_l (wm_16 wm_h))), wm_c ⟨(wm_1 (wm_l (wm_8 wm_h))), wm_n⟩⟩⟩⟩
  · decide +kernel
set_option maxRecDepth 20000 in
theorem ggX8_basis_X8_clears : GoodIn wsX8_basis wsX8_clears := by
  refine goodIn_sub ?_ gd_X8_clears
  unfold wsX8_clears
  refine wm_c ⟨(wm_1 (wm_l (wm_16 (wm_4 (wm_2 wm_h))))), ?_⟩
  refine wm_a ⟨?_, ?_⟩
  · refine wm_c ⟨(wm_1 (wm_l (wm_16 (wm_4 (wm_2 (wm_1 wm_h)))))), ?_⟩
    refine wm_c ⟨(wm_1 (wm_l (wm_2 (wm_1 wm_h)))), ?_⟩
    exact wm_n
  · exact wk_X8_basis_X80
set_option maxRecDepth 20000 in
theorem gX8_basis_X8_clears : GoodIn wsX8_basis (wsV RX8 136 RX8 yX8_clears wsX8_clears) := by
  refine goodIn_app (goodIn_sub ?_ ?_) ggX8_basis_X8_clears
  · exact wm_c ⟨(wm_1 (wm_l (wm_16 (wm_2 (wm_1 wm_h))))), wm_c ⟨(wm_1 (wm_l (wm_16 (wm_4 wm_h)))), wm_c ⟨(wm_1 (wm_l (wm_16 (wm_4 (wm_1 wm_h))))), wm_c ⟨(wm_1 (wm_l (wm_8 wm_h))), wm_n⟩⟩⟩⟩
  · decide +kernel
theorem dX8_basis_0 : decode cX8_basis 0 = .ok (.iload_n 1, 1) := by decide +kernel
theorem dX8_basis_1 : decode cX8_basis 1 = .ok (.invokestatic 157, 3) := by decide +kernel
theorem dX8_basis_4 : decode cX8_basis 4 = .ok (.ifCond .eq 11, 3) := by decide +kernel
theorem dX8_basis_7 : decode cX8_basis 7 = .ok (.aload_n 0, 1) := by decide +kernel
theorem dX8_basis_8 : decode cX8_basis 8 = .ok (.iload_n 2, 1) := by decide +kernel
theorem dX8_basis_9 : decode cX8_basis 9 = .ok (.invokevirtual 203, 3) := by decide +kernel
theorem dX8_basis_12 : decode cX8_basis 12 = .ok (.ifCond .ne 5, 3) := by decide +kernel
theorem dX8_basis_15 : decode cX8_basis 15 = .ok (.iconst (-1), 1) := by decide +kernel
theorem dX8_basis_16 : decode cX8_basis 16 = .ok (.ireturn, 1) := by decide +kernel
theorem dX8_basis_17 : decode cX8_basis 17 = .ok (.aload_n 0, 1) := by decide +kernel
theorem dX8_basis_18 : decode cX8_basis 18 = .ok (.iload_n 1, 1) := by decide +kernel
theorem dX8_basis_19 : decode cX8_basis 19 = .ok (.invokevirtual 136, 3) := by decide +kernel
theorem dX8_basis_22 : decode cX8_basis 22 = .ok (.aload_n 0, 1) := by decide +kernel
theorem dX8_basis_23 : decode cX8_basis 23 = .ok (.getfield 20, 3) := by decide +kernel
theorem dX8_basis_26 : decode cX8_basis 26 = .ok (.aload_n 0, 1) := by decide +kernel
theorem dX8_basis_27 : decode cX8_basis 27 = .ok (.getfield 27, 3) := by decide +kernel
theorem dX8_basis_30 : decode cX8_basis 30 = .ok (.iload_n 2, 1) := by decide +kernel
theorem dX8_basis_31 : decode cX8_basis 31 = .ok (.iaload, 1) := by decide +kernel
theorem dX8_basis_32 : decode cX8_basis 32 = .ok (.iaload, 1) := by decide +kernel
theorem dX8_basis_33 : decode cX8_basis 33 = .ok (.istore_n 3, 1) := by decide +kernel
theorem dX8_basis_34 : decode cX8_basis 34 = .ok (.iconst 0, 1) := by decide +kernel
theorem dX8_basis_35 : decode cX8_basis 35 = .ok (.istore 4, 2) := by decide +kernel
theorem dX8_basis_37 : decode cX8_basis 37 = .ok (.iload 4, 2) := by decide +kernel
theorem dX8_basis_39 : decode cX8_basis 39 = .ok (.aload_n 0, 1) := by decide +kernel
theorem dX8_basis_40 : decode cX8_basis 40 = .ok (.getfield 13, 3) := by decide +kernel
theorem dX8_basis_43 : decode cX8_basis 43 = .ok (.iload_n 3, 1) := by decide +kernel
theorem dX8_basis_44 : decode cX8_basis 44 = .ok (.iaload, 1) := by decide +kernel
theorem dX8_basis_45 : decode cX8_basis 45 = .ok (.if_icmp .ge 42, 3) := by decide +kernel
theorem dX8_basis_48 : decode cX8_basis 48 = .ok (.aload_n 0, 1) := by decide +kernel
theorem dX8_basis_49 : decode cX8_basis 49 = .ok (.getfield 23, 3) := by decide +kernel
theorem dX8_basis_52 : decode cX8_basis 52 = .ok (.sipush 364, 3) := by decide +kernel
theorem dX8_basis_55 : decode cX8_basis 55 = .ok (.iload_n 1, 1) := by decide +kernel
theorem dX8_basis_56 : decode cX8_basis 56 = .ok (.imul, 1) := by decide +kernel
theorem dX8_basis_57 : decode cX8_basis 57 = .ok (.aload_n 0, 1) := by decide +kernel
theorem dX8_basis_58 : decode cX8_basis 58 = .ok (.getfield 17, 3) := by decide +kernel
theorem dX8_basis_61 : decode cX8_basis 61 = .ok (.iload_n 3, 1) := by decide +kernel
theorem dX8_basis_62 : decode cX8_basis 62 = .ok (.iaload, 1) := by decide +kernel
theorem dX8_basis_63 : decode cX8_basis 63 = .ok (.iadd, 1) := by decide +kernel
theorem dX8_basis_64 : decode cX8_basis 64 = .ok (.iload 4, 2) := by decide +kernel
theorem dX8_basis_66 : decode cX8_basis 66 = .ok (.iadd, 1) := by decide +kernel
theorem dX8_basis_67 : decode cX8_basis 67 = .ok (.aload_n 0, 1) := by decide +kernel
theorem dX8_basis_68 : decode cX8_basis 68 = .ok (.getfield 42, 3) := by decide +kernel
theorem dX8_basis_71 : decode cX8_basis 71 = .ok (.sipush 256, 3) := by decide +kernel
theorem dX8_basis_74 : decode cX8_basis 74 = .ok (.iload_n 2, 1) := by decide +kernel
theorem dX8_basis_75 : decode cX8_basis 75 = .ok (.imul, 1) := by decide +kernel
theorem dX8_basis_76 : decode cX8_basis 76 = .ok (.iload 4, 2) := by decide +kernel
theorem dX8_basis_78 : decode cX8_basis 78 = .ok (.iadd, 1) := by decide +kernel
theorem dX8_basis_79 : decode cX8_basis 79 = .ok (.laload, 1) := by decide +kernel
theorem dX8_basis_80 : decode cX8_basis 80 = .ok (.lastore, 1) := by decide +kernel
theorem dX8_basis_81 : decode cX8_basis 81 = .ok (.iinc 4 1, 3) := by decide +kernel
theorem dX8_basis_84 : decode cX8_basis 84 = .ok (.goto (-47), 3) := by decide +kernel
theorem dX8_basis_87 : decode cX8_basis 87 = .ok (.iconst 0, 1) := by decide +kernel
theorem dX8_basis_88 : decode cX8_basis 88 = .ok (.ireturn, 1) := by decide +kernel
set_option maxRecDepth 20000 in
theorem ggX8_text_X8_isNumber : GoodIn wsX8_text wsX8_isNumber := by
  refine goodIn_sub ?_ gd_X8_isNumber
  unfold wsX8_isNumber
  refine wm_c ⟨(wm_1 (wm_l (wm_8 (wm_1 wm_h)))), ?_⟩
  refine wm_a ⟨?_, ?_⟩
  · refine wm_c ⟨(wm_1 (wm_l (wm_8 (wm_2 wm_h)))), ?_⟩
    refine wm_c ⟨(wm_1 (wm_l (wm_8 (wm_2 (wm_1 wm_h))))), ?_⟩
    refine wm_c ⟨(wm_1 (wm_l (wm_8 (wm_4 wm_h)))), ?_⟩
    refine wm_c ⟨(wm_1 (wm_l (wm_8 wm_h))), ?_⟩
    refine wm_c ⟨(wm_1 (wm_l (wm_8 (wm_4 (wm_1 wm_h))))), ?_⟩
    exact wm_n
  · exact wk_X8_text_X80
set_option maxRecDepth 20000 in
theorem gX8_text_X8_isNumber : GoodIn wsX8_text (wsV RX8 203 RX8 yX8_isNumber wsX8_isNumber) := by
  refine goodIn_app (goodIn_sub ?_ ?_) ggX8_text_X8_isNumber
  · exact wm_c ⟨(wm_1 (wm_l (wm_4 (wm_1 wm_h)))), wm_c ⟨(wm_1 (wm_l (wm_4 (wm_2 wm_h)))), wm_c ⟨(wm_1 (wm_l (wm_4 (wm_2 (wm_1 wm_h))))), wm_c ⟨(wm_1 (wm_l (wm_8 wm_h))), wm_n⟩⟩⟩⟩
  · decide +kernel
set_option maxRecDepth 20000 in
theorem ggX8_text_X8_in : GoodIn wsX8_text wsX8_in := by
  refine goodIn_sub ?_ gd_X8_in
  unfold wsX8_in
  refine wm_c ⟨(wm_1 (wm_l (wm_8 (wm_4 (wm_1 wm_h))))), ?_⟩
  exact wm_n
set_option maxRecDepth 20000 in
theorem gX8_text_X8_in : GoodIn wsX8_text (va_wsS RX8 130 yX8_in wsX8_in) := goodIn_app (goodIn_of _ (by decide +kernel)) ggX8_text_X8_in
theorem dX8_text_0 : decode cX8_text 0 = .ok (.aload_n 0, 1) := by decide +kernel
theorem dX8_text_1 : decode cX8_text 1 = .ok (.iload_n 1, 1) := by decide +kernel
theorem dX8_text_2 : decode cX8_text 2 = .ok (.invokevirtual 203, 3) := by decide +kernel
theorem dX8_text_5 : decode cX8_text 5 = .ok (.ifCond .eq 21, 3) := by decide +kernel
theorem dX8_text_8 : decode cX8_text 8 = .ok (.iload_n 2, 1) := by decide +kernel
theorem dX8_text_9 : decode cX8_text 9 = .ok (.i2l, 1) := by decide +kernel
theorem dX8_text_10 : decode cX8_text 10 = .ok (.lconst 0, 1) := by decide +kernel
theorem dX8_text_11 : decode cX8_text 11 = .ok (.aload_n 0, 1) := by decide +kernel
theorem dX8_text_12 : decode cX8_text 12 = .ok (.getfield 36, 3) := by decide +kernel
theorem dX8_text_15 : decode cX8_text 15 = .ok (.iload_n 1, 1) := by decide +kernel
theorem dX8_text_16 : decode cX8_text 16 = .ok (.iaload, 1) := by decide +kernel
theorem dX8_text_17 : decode cX8_text 17 = .ok (.iconst 1, 1) := by decide +kernel
theorem dX8_text_18 : decode cX8_text 18 = .ok (.isub, 1) := by decide +kernel
theorem dX8_text_19 : decode cX8_text 19 = .ok (.i2l, 1) := by decide +kernel
theorem dX8_text_20 : decode cX8_text 20 = .ok (.invokestatic 130, 3) := by decide +kernel
theorem dX8_text_23 : decode cX8_text 23 = .ok (.ifCond .ne 5, 3) := by decide +kernel
theorem dX8_text_26 : decode cX8_text 26 = .ok (.iconst (-1), 1) := by decide +kernel
theorem dX8_text_27 : decode cX8_text 27 = .ok (.ireturn, 1) := by decide +kernel
theorem dX8_text_28 : decode cX8_text 28 = .ok (.iload_n 1, 1) := by decide +kernel
theorem dX8_text_29 : decode cX8_text 29 = .ok (.istore_n 3, 1) := by decide +kernel
theorem dX8_text_30 : decode cX8_text 30 = .ok (.iload_n 2, 1) := by decide +kernel
theorem dX8_text_31 : decode cX8_text 31 = .ok (.istore 4, 2) := by decide +kernel
theorem dX8_text_33 : decode cX8_text 33 = .ok (.aload_n 0, 1) := by decide +kernel
theorem dX8_text_34 : decode cX8_text 34 = .ok (.getfield 30, 3) := by decide +kernel
theorem dX8_text_37 : decode cX8_text 37 = .ok (.iload_n 3, 1) := by decide +kernel
theorem dX8_text_38 : decode cX8_text 38 = .ok (.iaload, 1) := by decide +kernel
theorem dX8_text_39 : decode cX8_text 39 = .ok (.iconst (-1), 1) := by decide +kernel
theorem dX8_text_40 : decode cX8_text 40 = .ok (.if_icmp .eq 91, 3) := by decide +kernel
theorem dX8_text_43 : decode cX8_text 43 = .ok (.aload_n 0, 1) := by decide +kernel
theorem dX8_text_44 : decode cX8_text 44 = .ok (.getfield 36, 3) := by decide +kernel
theorem dX8_text_47 : decode cX8_text 47 = .ok (.aload_n 0, 1) := by decide +kernel
theorem dX8_text_48 : decode cX8_text 48 = .ok (.getfield 30, 3) := by decide +kernel
theorem dX8_text_51 : decode cX8_text 51 = .ok (.iload_n 3, 1) := by decide +kernel
theorem dX8_text_52 : decode cX8_text 52 = .ok (.iaload, 1) := by decide +kernel
theorem dX8_text_53 : decode cX8_text 53 = .ok (.iaload, 1) := by decide +kernel
theorem dX8_text_54 : decode cX8_text 54 = .ok (.istore 5, 2) := by decide +kernel
theorem dX8_text_56 : decode cX8_text 56 = .ok (.iload 4, 2) := by decide +kernel
theorem dX8_text_58 : decode cX8_text 58 = .ok (.ifCond .ne 6, 3) := by decide +kernel
theorem dX8_text_61 : decode cX8_text 61 = .ok (.bipush 91, 2) := by decide +kernel
theorem dX8_text_63 : decode cX8_text 63 = .ok (.ireturn, 1) := by decide +kernel
theorem dX8_text_64 : decode cX8_text 64 = .ok (.iload 4, 2) := by decide +kernel
theorem dX8_text_66 : decode cX8_text 66 = .ok (.iload 5, 2) := by decide +kernel
theorem dX8_text_68 : decode cX8_text 68 = .ok (.if_icmp .gt 16, 3) := by decide +kernel
theorem dX8_text_71 : decode cX8_text 71 = .ok (.aload_n 0, 1) := by decide +kernel
theorem dX8_text_72 : decode cX8_text 72 = .ok (.getfield 30, 3) := by decide +kernel
theorem dX8_text_75 : decode cX8_text 75 = .ok (.iload_n 3, 1) := by decide +kernel
theorem dX8_text_76 : decode cX8_text 76 = .ok (.iaload, 1) := by decide +kernel
theorem dX8_text_77 : decode cX8_text 77 = .ok (.istore_n 3, 1) := by decide +kernel
theorem dX8_text_78 : decode cX8_text 78 = .ok (.iinc 4 (-1), 3) := by decide +kernel
theorem dX8_text_81 : decode cX8_text 81 = .ok (.goto 47, 3) := by decide +kernel
theorem dX8_text_84 : decode cX8_text 84 = .ok (.iload 4, 2) := by decide +kernel
theorem dX8_text_86 : decode cX8_text 86 = .ok (.iload 5, 2) := by decide +kernel
theorem dX8_text_88 : decode cX8_text 88 = .ok (.iconst 1, 1) := by decide +kernel
theorem dX8_text_89 : decode cX8_text 89 = .ok (.iadd, 1) := by decide +kernel
theorem dX8_text_90 : decode cX8_text 90 = .ok (.if_icmp .ne 6, 3) := by decide +kernel
theorem dX8_text_93 : decode cX8_text 93 = .ok (.bipush 44, 2) := by decide +kernel
theorem dX8_text_95 : decode cX8_text 95 = .ok (.ireturn, 1) := by decide +kernel
theorem dX8_text_96 : decode cX8_text 96 = .ok (.iload 4, 2) := by decide +kernel
theorem dX8_text_98 : decode cX8_text 98 = .ok (.aload_n 0, 1) := by decide +kernel
theorem dX8_text_99 : decode cX8_text 99 = .ok (.getfield 36, 3) := by decide +kernel
theorem dX8_text_102 : decode cX8_text 102 = .ok (.iload_n 3, 1) := by decide +kernel
theorem dX8_text_103 : decode cX8_text 103 = .ok (.iaload, 1) := by decide +kernel
theorem dX8_text_104 : decode cX8_text 104 = .ok (.iconst 1, 1) := by decide +kernel
theorem dX8_text_105 : decode cX8_text 105 = .ok (.isub, 1) := by decide +kernel
theorem dX8_text_106 : decode cX8_text 106 = .ok (.if_icmp .ne 6, 3) := by decide +kernel
theorem dX8_text_109 : decode cX8_text 109 = .ok (.bipush 93, 2) := by decide +kernel
theorem dX8_text_111 : decode cX8_text 111 = .ok (.ireturn, 1) := by decide +kernel
theorem dX8_text_112 : decode cX8_text 112 = .ok (.iload 4, 2) := by decide +kernel
theorem dX8_text_114 : decode cX8_text 114 = .ok (.iload 5, 2) := by decide +kernel
theorem dX8_text_116 : decode cX8_text 116 = .ok (.iconst 2, 1) := by decide +kernel
theorem dX8_text_117 : decode cX8_text 117 = .ok (.iadd, 1) := by decide +kernel
theorem dX8_text_118 : decode cX8_text 118 = .ok (.isub, 1) := by decide +kernel
theorem dX8_text_119 : decode cX8_text 119 = .ok (.istore 4, 2) := by decide +kernel
theorem dX8_text_121 : decode cX8_text 121 = .ok (.aload_n 0, 1) := by decide +kernel
theorem dX8_text_122 : decode cX8_text 122 = .ok (.getfield 33, 3) := by decide +kernel
theorem dX8_text_125 : decode cX8_text 125 = .ok (.iload_n 3, 1) := by decide +kernel
theorem dX8_text_126 : decode cX8_text 126 = .ok (.iaload, 1) := by decide +kernel
theorem dX8_text_127 : decode cX8_text 127 = .ok (.istore_n 3, 1) := by decide +kernel
theorem dX8_text_128 : decode cX8_text 128 = .ok (.goto (-95), 3) := by decide +kernel
theorem dX8_text_131 : decode cX8_text 131 = .ok (.bipush 97, 2) := by decide +kernel
theorem dX8_text_133 : decode cX8_text 133 = .ok (.aload_n 0, 1) := by decide +kernel
theorem dX8_text_134 : decode cX8_text 134 = .ok (.getfield 27, 3) := by decide +kernel
theorem dX8_text_137 : decode cX8_text 137 = .ok (.iload_n 3, 1) := by decide +kernel
theorem dX8_text_138 : decode cX8_text 138 = .ok (.iaload, 1) := by decide +kernel
theorem dX8_text_139 : decode cX8_text 139 = .ok (.iadd, 1) := by decide +kernel
theorem dX8_text_140 : decode cX8_text 140 = .ok (.aload_n 0, 1) := by decide +kernel
theorem dX8_text_141 : decode cX8_text 141 = .ok (.getfield 17, 3) := by decide +kernel
theorem dX8_text_144 : decode cX8_text 144 = .ok (.iconst 1, 1) := by decide +kernel
theorem dX8_text_145 : decode cX8_text 145 = .ok (.iaload, 1) := by decide +kernel
theorem dX8_text_146 : decode cX8_text 146 = .ok (.isub, 1) := by decide +kernel
theorem dX8_text_147 : decode cX8_text 147 = .ok (.ireturn, 1) := by decide +kernel
set_option maxRecDepth 20000 in
theorem ggX8_firstChief_X8_end : GoodIn wsX8_firstChief wsX8_end := by
  refine goodIn_sub ?_ gd_X8_end
  unfold wsX8_end
  refine wm_c ⟨(wm_1 (wm_l (wm_4 (wm_2 wm_h)))), ?_⟩
  refine wm_a ⟨?_, ?_⟩
  · refine wm_c ⟨(wm_1 (wm_l wm_h)), ?_⟩
    refine wm_c ⟨(wm_1 (wm_l (wm_4 (wm_2 (wm_1 wm_h))))), ?_⟩
    refine wm_c ⟨(wm_1 (wm_l (wm_8 wm_h))), ?_⟩
    exact wm_n
  · exact wk_X8_firstChief_X80
set_option maxRecDepth 20000 in
theorem gX8_firstChief_X8_end : GoodIn wsX8_firstChief (wsV RX8 109 RX8 yX8_end wsX8_end) := by
  refine goodIn_app (goodIn_sub ?_ ?_) ggX8_firstChief_X8_end
  · exact wm_c ⟨(wm_1 (wm_l (wm_2 wm_h))), wm_c ⟨(wm_1 (wm_l (wm_2 (wm_1 wm_h)))), wm_c ⟨(wm_1 (wm_l (wm_4 wm_h))), wm_c ⟨(wm_1 (wm_l (wm_4 (wm_1 wm_h)))), wm_n⟩⟩⟩⟩
  · decide +kernel
set_option maxRecDepth 20000 in
theorem ggX8_firstChief_X8_beginning : GoodIn wsX8_firstChief wsX8_beginning := by
  refine goodIn_sub ?_ gd_X8_beginning
  unfold wsX8_beginning
  refine wm_c ⟨(wm_1 (wm_l (wm_8 (wm_4 wm_h)))), ?_⟩
  refine wm_a ⟨?_, ?_⟩
  · refine wm_c ⟨(wm_1 (wm_l (wm_4 (wm_2 (wm_1 wm_h))))), ?_⟩
    refine wm_c ⟨(wm_1 (wm_l wm_h)), ?_⟩
    refine wm_c ⟨(wm_1 (wm_l (wm_8 wm_h))), ?_⟩
    exact wm_n
  · exact wk_X8_firstChief_X80
set_option maxRecDepth 20000 in
theorem gX8_firstChief_X8_beginning : GoodIn wsX8_firstChief (wsV RX8 119 RX8 yX8_beginning wsX8_beginning) := by
  refine goodIn_app (goodIn_sub ?_ ?_) ggX8_firstChief_X8_beginning
  · exact wm_c ⟨(wm_1 (wm_l (wm_8 (wm_1 wm_h)))), wm_c ⟨(wm_1 (wm_l (wm_8 (wm_2 wm_h)))), wm_c ⟨(wm_1 (wm_l (wm_8 (wm_2 (wm_1 wm_h))))), wm_c ⟨(wm_1 (wm_l (wm_4 (wm_1 wm_h)))), wm_n⟩⟩⟩⟩
  · decide +kernel
set_option maxRecDepth 20000 in
theorem ggX8_firstChief_X8_isFirst : GoodIn wsX8_firstChief wsX8_isFirst := by
  refine goodIn_sub ?_ gd_X8_isFirst
  unfold wsX8_isFirst
  refine wm_c ⟨(wm_1 (wm_l (wm_16 wm_h))), ?_⟩
  refine wm_a ⟨?_, ?_⟩
  · refine wm_c ⟨(wm_1 (wm_l wm_h)), ?_⟩
    refine wm_c ⟨(wm_1 (wm_l (wm_1 wm_h))), ?_⟩
    refine wm_c ⟨(wm_1 (wm_l (wm_2 wm_h))), ?_⟩
    refine wm_c ⟨(wm_1 (wm_l (wm_2 (wm_1 wm_h)))), ?_⟩
    refine wm_c ⟨(wm_1 (wm_l (wm_4 wm_h))), ?_⟩
    refine wm_c ⟨(wm_1 (wm_l (wm_4 (wm_1 wm_h)))), ?_⟩
    refine wm_c ⟨(wm_1 (wm_l (wm_4 (wm_2 wm_h)))), ?_⟩
    refine wm_c ⟨(wm_1 (wm_l (wm_4 (wm_2 (wm_1 wm_h))))), ?_⟩
    refine wm_c ⟨(wm_1 (wm_l (wm_8 wm_h))), ?_⟩
    refine wm_c ⟨(wm_1 (wm_l (wm_8 (wm_1 wm_h)))), ?_⟩
    refine wm_c ⟨(wm_1 (wm_l (wm_8 (wm_2 wm_h)))), ?_⟩
    refine wm_c ⟨(wm_1 (wm_l (wm_8 (wm_2 (wm_1 wm_h))))), ?_⟩
    refine wm_c ⟨(wm_1 (wm_l (wm_8 (wm_4 wm_h)))), ?_⟩
    exact wm_n
  · exact wk_X8_firstChief_X80
set_option maxRecDepth 20000 in
theorem gX8_firstChief_X8_isFirst : GoodIn wsX8_firstChief (wsV RX8 212 RX8 yX8_isFirst wsX8_isFirst) := by
  refine goodIn_app (goodIn_sub ?_ ?_) ggX8_firstChief_X8_isFirst
  · exact wm_c ⟨(wm_1 (wm_l (wm_8 (wm_4 (wm_1 wm_h))))), wm_c ⟨(wm_1 (wm_l (wm_8 (wm_4 (wm_2 wm_h))))), wm_c ⟨(wm_1 (wm_l (wm_8 (wm_4 (wm_2 (wm_1 wm_h)))))), wm_c ⟨(wm_1 (wm_l (wm_4 (wm_1 wm_h)))), wm_n⟩⟩⟩⟩
  · decide +kernel
theorem dX8_firstChief_0 : decode cX8_firstChief 0 = .ok (.aload_n 0, 1) := by decide +kernel
theorem dX8_firstChief_1 : decode cX8_firstChief 1 = .ok (.getfield 20, 3) := by decide +kernel
theorem dX8_firstChief_4 : decode cX8_firstChief 4 = .ok (.iload_n 1, 1) := by decide +kernel
theorem dX8_firstChief_5 : decode cX8_firstChief 5 = .ok (.iaload, 1) := by decide +kernel
theorem dX8_firstChief_6 : decode cX8_firstChief 6 = .ok (.iload_n 2, 1) := by decide +kernel
theorem dX8_firstChief_7 : decode cX8_firstChief 7 = .ok (.isub, 1) := by decide +kernel
theorem dX8_firstChief_8 : decode cX8_firstChief 8 = .ok (.istore_n 3, 1) := by decide +kernel
theorem dX8_firstChief_9 : decode cX8_firstChief 9 = .ok (.aload_n 0, 1) := by decide +kernel
theorem dX8_firstChief_10 : decode cX8_firstChief 10 = .ok (.getfield 39, 3) := by decide +kernel
theorem dX8_firstChief_13 : decode cX8_firstChief 13 = .ok (.aload_n 0, 1) := by decide +kernel
theorem dX8_firstChief_14 : decode cX8_firstChief 14 = .ok (.aload_n 0, 1) := by decide +kernel
theorem dX8_firstChief_15 : decode cX8_firstChief 15 = .ok (.iload_n 1, 1) := by decide +kernel
theorem dX8_firstChief_16 : decode cX8_firstChief 16 = .ok (.iload_n 2, 1) := by decide +kernel
theorem dX8_firstChief_17 : decode cX8_firstChief 17 = .ok (.invokevirtual 109, 3) := by decide +kernel
theorem dX8_firstChief_20 : decode cX8_firstChief 20 = .ok (.iload_n 3, 1) := by decide +kernel
theorem dX8_firstChief_21 : decode cX8_firstChief 21 = .ok (.invokevirtual 119, 3) := by decide +kernel
theorem dX8_firstChief_24 : decode cX8_firstChief 24 = .ok (.iaload, 1) := by decide +kernel
theorem dX8_firstChief_25 : decode cX8_firstChief 25 = .ok (.iconst (-1), 1) := by decide +kernel
theorem dX8_firstChief_26 : decode cX8_firstChief 26 = .ok (.if_icmp .eq 25, 3) := by decide +kernel
theorem dX8_firstChief_29 : decode cX8_firstChief 29 = .ok (.iload_n 3, 1) := by decide +kernel
theorem dX8_firstChief_30 : decode cX8_firstChief 30 = .ok (.aload_n 0, 1) := by decide +kernel
theorem dX8_firstChief_31 : decode cX8_firstChief 31 = .ok (.getfield 20, 3) := by decide +kernel
theorem dX8_firstChief_34 : decode cX8_firstChief 34 = .ok (.iload_n 1, 1) := by decide +kernel
theorem dX8_firstChief_35 : decode cX8_firstChief 35 = .ok (.iaload, 1) := by decide +kernel
theorem dX8_firstChief_36 : decode cX8_firstChief 36 = .ok (.iload_n 2, 1) := by decide +kernel
theorem dX8_firstChief_37 : decode cX8_firstChief 37 = .ok (.isub, 1) := by decide +kernel
theorem dX8_firstChief_38 : decode cX8_firstChief 38 = .ok (.if_icmp .ge 19, 3) := by decide +kernel
theorem dX8_firstChief_41 : decode cX8_firstChief 41 = .ok (.aload_n 0, 1) := by decide +kernel
theorem dX8_firstChief_42 : decode cX8_firstChief 42 = .ok (.iload_n 1, 1) := by decide +kernel
theorem dX8_firstChief_43 : decode cX8_firstChief 43 = .ok (.iload_n 2, 1) := by decide +kernel
theorem dX8_firstChief_44 : decode cX8_firstChief 44 = .ok (.iload_n 3, 1) := by decide +kernel
theorem dX8_firstChief_45 : decode cX8_firstChief 45 = .ok (.invokevirtual 212, 3) := by decide +kernel
theorem dX8_firstChief_48 : decode cX8_firstChief 48 = .ok (.ifCond .ne 9, 3) := by decide +kernel
theorem dX8_firstChief_51 : decode cX8_firstChief 51 = .ok (.iinc 3 (-1), 3) := by decide +kernel
theorem dX8_firstChief_54 : decode cX8_firstChief 54 = .ok (.goto (-45), 3) := by decide +kernel
theorem dX8_firstChief_57 : decode cX8_firstChief 57 = .ok (.iload_n 3, 1) := by decide +kernel
theorem dX8_firstChief_58 : decode cX8_firstChief 58 = .ok (.ireturn, 1) := by decide +kernel
set_option maxRecDepth 20000 in
theorem ggX8_isFirst_X8_end : GoodIn wsX8_isFirst wsX8_end := by
  refine goodIn_sub ?_ gd_X8_end
  unfold wsX8_end
  refine wm_c ⟨(wm_1 (wm_l (wm_4 (wm_2 wm_h)))), ?_⟩
  refine wm_a ⟨?_, ?_⟩
  · refine wm_c ⟨(wm_1 (wm_l wm_h)), ?_⟩
    refine wm_c ⟨(wm_1 (wm_l (wm_4 (wm_2 (wm_1 wm_h))))), ?_⟩
    refine wm_c ⟨(wm_1 (wm_l (wm_8 wm_h))), ?_⟩
    exact wm_n
  · exact wk_X8_isFirst_X80
set_option maxRecDepth 20000 in
theorem gX8_isFirst_X8_end : GoodIn wsX8_isFirst (wsV RX8 109 RX8 yX8_end wsX8_end) := by
  refine goodIn_app (goodIn_sub ?_ ?_) ggX8_isFirst_X8_end
  · exact wm_c ⟨(wm_1 (wm_l (wm_2 wm_h))), wm_c ⟨(wm_1 (wm_l (wm_2 (wm_1 wm_h)))), wm_c ⟨(wm_1 (wm_l (wm_4 wm_h))), wm_c ⟨(wm_1 (wm_l (wm_4 (wm_1 wm_h)))), wm_n⟩⟩⟩⟩
  · decide +kernel
set_option maxRecDepth 20000 in
theorem ggX8_isFirst_X8_beginning : GoodIn wsX8_isFirst wsX8_beginning := by
  refine goodIn_sub ?_ gd_X8_beginning
  unfold wsX8_beginning
  refine wm_c ⟨(wm_1 (wm_l (wm_8 (wm_4 wm_h)))), ?_⟩
  refine wm_a ⟨?_, ?_⟩
  · refine wm_c ⟨(wm_1 (wm_l (wm_4 (wm_2 (wm_1 wm_h))))), ?_⟩
    refine wm_c ⟨(wm_1 (wm_l wm_h)), ?_⟩
    refine wm_c ⟨(wm_1 (wm_l (wm_8 wm_h))), ?_⟩
    exact wm_n
  · exact wk_X8_isFirst_X80
set_option maxRecDepth 20000 in
theorem gX8_isFirst_X8_beginning : GoodIn wsX8_isFirst (wsV RX8 119 RX8 yX8_beginning wsX8_beginning) := by
  refine goodIn_app (goodIn_sub ?_ ?_) ggX8_isFirst_X8_beginning
  · exact wm_c ⟨(wm_1 (wm_l (wm_8 (wm_1 wm_h)))), wm_c ⟨(wm_1 (wm_l (wm_8 (wm_2 wm_h)))), wm_c ⟨(wm_1 (wm_l (wm_8 (wm_2 (wm_1 wm_h))))), wm_c ⟨(wm_1 (wm_l (wm_4 (wm_1 wm_h)))), wm_n⟩⟩⟩⟩
  · decide +kernel
theorem dX8_isFirst_0 : decode cX8_isFirst 0 = .ok (.aload_n 0, 1) := by decide +kernel
theorem dX8_isFirst_1 : decode cX8_isFirst 1 = .ok (.iload_n 1, 1) := by decide +kernel
theorem dX8_isFirst_2 : decode cX8_isFirst 2 = .ok (.iload_n 2, 1) := by decide +kernel
theorem dX8_isFirst_3 : decode cX8_isFirst 3 = .ok (.invokevirtual 109, 3) := by decide +kernel
theorem dX8_isFirst_6 : decode cX8_isFirst 6 = .ok (.istore 4, 2) := by decide +kernel
theorem dX8_isFirst_8 : decode cX8_isFirst 8 = .ok (.iload_n 3, 1) := by decide +kernel
theorem dX8_isFirst_9 : decode cX8_isFirst 9 = .ok (.iconst 1, 1) := by decide +kernel
theorem dX8_isFirst_10 : decode cX8_isFirst 10 = .ok (.iadd, 1) := by decide +kernel
theorem dX8_isFirst_11 : decode cX8_isFirst 11 = .ok (.istore 5, 2) := by decide +kernel
theorem dX8_isFirst_13 : decode cX8_isFirst 13 = .ok (.iload 5, 2) := by decide +kernel
theorem dX8_isFirst_15 : decode cX8_isFirst 15 = .ok (.aload_n 0, 1) := by decide +kernel
theorem dX8_isFirst_16 : decode cX8_isFirst 16 = .ok (.getfield 20, 3) := by decide +kernel
theorem dX8_isFirst_19 : decode cX8_isFirst 19 = .ok (.iload 4, 2) := by decide +kernel
theorem dX8_isFirst_21 : decode cX8_isFirst 21 = .ok (.iaload, 1) := by decide +kernel
theorem dX8_isFirst_22 : decode cX8_isFirst 22 = .ok (.if_icmp .gt 28, 3) := by decide +kernel
theorem dX8_isFirst_25 : decode cX8_isFirst 25 = .ok (.aload_n 0, 1) := by decide +kernel
theorem dX8_isFirst_26 : decode cX8_isFirst 26 = .ok (.getfield 39, 3) := by decide +kernel
theorem dX8_isFirst_29 : decode cX8_isFirst 29 = .ok (.aload_n 0, 1) := by decide +kernel
theorem dX8_isFirst_30 : decode cX8_isFirst 30 = .ok (.iload 4, 2) := by decide +kernel
theorem dX8_isFirst_32 : decode cX8_isFirst 32 = .ok (.iload 5, 2) := by decide +kernel
theorem dX8_isFirst_34 : decode cX8_isFirst 34 = .ok (.invokevirtual 119, 3) := by decide +kernel
theorem dX8_isFirst_37 : decode cX8_isFirst 37 = .ok (.iaload, 1) := by decide +kernel
theorem dX8_isFirst_38 : decode cX8_isFirst 38 = .ok (.iconst (-1), 1) := by decide +kernel
theorem dX8_isFirst_39 : decode cX8_isFirst 39 = .ok (.if_icmp .eq 5, 3) := by decide +kernel
theorem dX8_isFirst_42 : decode cX8_isFirst 42 = .ok (.iconst 0, 1) := by decide +kernel
theorem dX8_isFirst_43 : decode cX8_isFirst 43 = .ok (.ireturn, 1) := by decide +kernel
theorem dX8_isFirst_44 : decode cX8_isFirst 44 = .ok (.iinc 5 1, 3) := by decide +kernel
theorem dX8_isFirst_47 : decode cX8_isFirst 47 = .ok (.goto (-34), 3) := by decide +kernel
theorem dX8_isFirst_50 : decode cX8_isFirst 50 = .ok (.iconst 1, 1) := by decide +kernel
theorem dX8_isFirst_51 : decode cX8_isFirst 51 = .ok (.ireturn, 1) := by decide +kernel
set_option maxRecDepth 20000 in
theorem ggX8_ordered_X8_firstChief : GoodIn wsX8_ordered wsX8_firstChief := by
  refine goodIn_sub ?_ gd_X8_firstChief
  unfold wsX8_firstChief
  refine wm_c ⟨(wk_X8_ordered_X8_ordered_r1 _ (wm_8 (wm_2 (wm_1 wm_h)))), ?_⟩
  refine wm_a ⟨?_, ?_⟩
  · refine wm_c ⟨(wk_X8_ordered_X8_ordered_r1 _ (wm_1 wm_h)), ?_⟩
    refine wm_c ⟨(wk_X8_ordered_X8_ordered_r1 _ (wm_2 wm_h)), ?_⟩
    refine wm_c ⟨(wk_X8_ordered_X8_ordered_r1 _ (wm_8 (wm_4 wm_h))), ?_⟩
    refine wm_c ⟨(wk_X8_ordered_X8_ordered_r1 _ (wm_8 (wm_4 (wm_1 wm_h)))), ?_⟩
    refine wm_c ⟨(wk_X8_ordered_X8_ordered_r1 _ (wm_8 (wm_4 (wm_2 wm_h)))), ?_⟩
    refine wm_c ⟨(wk_X8_ordered_X8_ordered_r1 _ (wm_8 (wm_2 wm_h))), ?_⟩
    refine wm_c ⟨(wk_X8_ordered_X8_ordered_r1 _ (wm_8 (wm_4 (wm_2 (wm_1 wm_h))))), ?_⟩
    refine wm_c ⟨(wk_X8_ordered_X8_ordered_r1 _ (wm_16 wm_h)), ?_⟩
    refine wm_c ⟨(wk_X8_ordered_X8_ordered_r1 _ (wm_2 (wm_1 wm_h))), ?_⟩
    refine wm_c ⟨(wk_X8_ordered_X8_ordered_r1 _ (wm_16 (wm_1 wm_h))), ?_⟩
    refine wm_c ⟨(wk_X8_ordered_X8_ordered_r1 _ (wm_16 (wm_2 wm_h))), ?_⟩
    refine wm_c ⟨(wk_X8_ordered_X8_ordered_r1 _ (wm_16 (wm_2 (wm_1 wm_h)))), ?_⟩
    refine wm_c ⟨(wk_X8_ordered_X8_ordered_r1 _ (wm_16 (wm_4 wm_h))), ?_⟩
    refine wm_c ⟨(wk_X8_ordered_X8_ordered_r1 _ (wm_16 (wm_4 (wm_1 wm_h)))), ?_⟩
    refine wm_c ⟨(wk_X8_ordered_X8_ordered_r1 _ (wm_16 (wm_4 (wm_2 wm_h)))), ?_⟩
    refine wm_c ⟨(wk_X8_ordered_X8_ordered_r1 _ (wm_16 (wm_4 (wm_2 (wm_1 wm_h))))), ?_⟩
    refine wm_c ⟨(wk_X8_ordered_X8_ordered_r2 _ wm_h), ?_⟩
    exact wm_n
  · exact wk_X8_ordered_X80
set_option maxRecDepth 20000 in
theorem gX8_ordered_X8_firstChief : GoodIn wsX8_ordered (wsV RX8 215 RX8 yX8_firstChief wsX8_firstChief) := by
  refine goodIn_app (goodIn_sub ?_ ?_) ggX8_ordered_X8_firstChief
  · exact wm_c ⟨(wk_X8_ordered_X8_ordered_r1 _ (wm_4 (wm_2 (wm_1 wm_h)))), wm_c ⟨(wk_X8_ordered_X8_ordered_r1 _ (wm_8 wm_h)), wm_c ⟨(wk_X8_ordered_X8_ordered_r1 _ (wm_8 (wm_1 wm_h))), wm_c ⟨(wk_X8_ordered_X8_ordered_r1 _ (wm_8 (wm_2 wm_h))), wm_n⟩⟩⟩⟩
  · decide +kernel
set_option maxRecDepth 20000 in
theorem ggX8_ordered_X8_end : GoodIn wsX8_ordered wsX8_end := by
  refine goodIn_sub ?_ gd_X8_end
  unfold wsX8_end
  refine wm_c ⟨(wk_X8_ordered_X8_ordered_r1 _ (wm_8 (wm_4 (wm_2 (wm_1 wm_h))))), ?_⟩
  refine wm_a ⟨?_, ?_⟩
  · refine wm_c ⟨(wk_X8_ordered_X8_ordered_r1 _ (wm_1 wm_h)), ?_⟩
    refine wm_c ⟨(wk_X8_ordered_X8_ordered_r1 _ (wm_16 wm_h)), ?_⟩
    refine wm_c ⟨(wk_X8_ordered_X8_ordered_r1 _ (wm_2 (wm_1 wm_h))), ?_⟩
    exact wm_n
  · exact wk_X8_ordered_X80
set_option maxRecDepth 20000 in
theorem gX8_ordered_X8_end : GoodIn wsX8_ordered (wsV RX8 109 RX8 yX8_end wsX8_end) := by
  refine goodIn_app (goodIn_sub ?_ ?_) ggX8_ordered_X8_end
  · exact wm_c ⟨(wk_X8_ordered_X8_ordered_r1 _ (wm_8 (wm_4 wm_h))), wm_c ⟨(wk_X8_ordered_X8_ordered_r1 _ (wm_8 (wm_4 (wm_1 wm_h)))), wm_c ⟨(wk_X8_ordered_X8_ordered_r1 _ (wm_8 (wm_4 (wm_2 wm_h)))), wm_c ⟨(wk_X8_ordered_X8_ordered_r1 _ (wm_8 (wm_2 wm_h))), wm_n⟩⟩⟩⟩
  · decide +kernel
set_option maxRecDepth 20000 in
theorem ggX8_ordered_X8_beginning : GoodIn wsX8_ordered wsX8_beginning := by
  refine goodIn_sub ?_ gd_X8_beginning
  unfold wsX8_beginning
  refine wm_c ⟨(wk_X8_ordered_X8_ordered_r1 _ (wm_16 (wm_4 wm_h))), ?_⟩
  refine wm_a ⟨?_, ?_⟩
  · refine wm_c ⟨(wk_X8_ordered_X8_ordered_r1 _ (wm_16 wm_h)), ?_⟩
    refine wm_c ⟨(wk_X8_ordered_X8_ordered_r1 _ (wm_1 wm_h)), ?_⟩
    refine wm_c ⟨(wk_X8_ordered_X8_ordered_r1 _ (wm_2 (wm_1 wm_h))), ?_⟩
    exact wm_n
  · exact wk_X8_ordered_X80
set_option maxRecDepth 20000 in
theorem gX8_ordered_X8_beginning : GoodIn wsX8_ordered (wsV RX8 119 RX8 yX8_beginning wsX8_beginning) := by
  refine goodIn_app (goodIn_sub ?_ ?_) ggX8_ordered_X8_beginning
  · exact wm_c ⟨(wk_X8_ordered_X8_ordered_r1 _ (wm_16 (wm_1 wm_h))), wm_c ⟨(wk_X8_ordered_X8_ordered_r1 _ (wm_16 (wm_2 wm_h))), wm_c ⟨(wk_X8_ordered_X8_ordered_r1 _ (wm_16 (wm_2 (wm_1 wm_h)))), wm_c ⟨(wk_X8_ordered_X8_ordered_r1 _ (wm_8 (wm_2 wm_h))), wm_n⟩⟩⟩⟩
  · decide +kernel
theorem dX8_ordered_0 : decode cX8_ordered 0 = .ok (.iconst 0, 1) := by decide +kernel
theorem dX8_ordered_1 : decode cX8_ordered 1 = .ok (.istore_n 2, 1) := by decide +kernel
theorem dX8_ordered_2 : decode cX8_ordered 2 = .ok (.aload_n 0, 1) := by decide +kernel
theorem dX8_ordered_3 : decode cX8_ordered 3 = .ok (.getfield 45, 3) := by decide +kernel
theorem dX8_ordered_6 : decode cX8_ordered 6 = .ok (.iconst 0, 1) := by decide +kernel
theorem dX8_ordered_7 : decode cX8_ordered 7 = .ok (.lconst 1, 1) := by decide +kernel
theorem dX8_ordered_8 : decode cX8_ordered 8 = .ok (.lastore, 1) := by decide +kernel
theorem dX8_ordered_9 : decode cX8_ordered 9 = .ok (.iload_n 2, 1) := by decide +kernel
theorem dX8_ordered_10 : decode cX8_ordered 10 = .ok (.aload_n 0, 1) := by decide +kernel
theorem dX8_ordered_11 : decode cX8_ordered 11 = .ok (.getfield 20, 3) := by decide +kernel
theorem dX8_ordered_14 : decode cX8_ordered 14 = .ok (.iload_n 1, 1) := by decide +kernel
theorem dX8_ordered_15 : decode cX8_ordered 15 = .ok (.iaload, 1) := by decide +kernel
theorem dX8_ordered_16 : decode cX8_ordered 16 = .ok (.if_icmp .ge 138, 3) := by decide +kernel
theorem dX8_ordered_19 : decode cX8_ordered 19 = .ok (.aload_n 0, 1) := by decide +kernel
theorem dX8_ordered_20 : decode cX8_ordered 20 = .ok (.iload_n 1, 1) := by decide +kernel
theorem dX8_ordered_21 : decode cX8_ordered 21 = .ok (.iload_n 2, 1) := by decide +kernel
theorem dX8_ordered_22 : decode cX8_ordered 22 = .ok (.invokevirtual 215, 3) := by decide +kernel
theorem dX8_ordered_25 : decode cX8_ordered 25 = .ok (.istore_n 3, 1) := by decide +kernel
theorem dX8_ordered_26 : decode cX8_ordered 26 = .ok (.aload_n 0, 1) := by decide +kernel
theorem dX8_ordered_27 : decode cX8_ordered 27 = .ok (.getfield 39, 3) := by decide +kernel
theorem dX8_ordered_30 : decode cX8_ordered 30 = .ok (.aload_n 0, 1) := by decide +kernel
theorem dX8_ordered_31 : decode cX8_ordered 31 = .ok (.aload_n 0, 1) := by decide +kernel
theorem dX8_ordered_32 : decode cX8_ordered 32 = .ok (.iload_n 1, 1) := by decide +kernel
theorem dX8_ordered_33 : decode cX8_ordered 33 = .ok (.iload_n 2, 1) := by decide +kernel
theorem dX8_ordered_34 : decode cX8_ordered 34 = .ok (.invokevirtual 109, 3) := by decide +kernel
theorem dX8_ordered_37 : decode cX8_ordered 37 = .ok (.iload_n 3, 1) := by decide +kernel
theorem dX8_ordered_38 : decode cX8_ordered 38 = .ok (.invokevirtual 119, 3) := by decide +kernel
theorem dX8_ordered_41 : decode cX8_ordered 41 = .ok (.iaload, 1) := by decide +kernel
theorem dX8_ordered_42 : decode cX8_ordered 42 = .ok (.istore 4, 2) := by decide +kernel
theorem dX8_ordered_44 : decode cX8_ordered 44 = .ok (.iconst 0, 1) := by decide +kernel
theorem dX8_ordered_45 : decode cX8_ordered 45 = .ok (.istore 5, 2) := by decide +kernel
theorem dX8_ordered_47 : decode cX8_ordered 47 = .ok (.iload 5, 2) := by decide +kernel
theorem dX8_ordered_49 : decode cX8_ordered 49 = .ok (.aload_n 0, 1) := by decide +kernel
theorem dX8_ordered_50 : decode cX8_ordered 50 = .ok (.getfield 13, 3) := by decide +kernel
theorem dX8_ordered_53 : decode cX8_ordered 53 = .ok (.iload_n 2, 1) := by decide +kernel
theorem dX8_ordered_54 : decode cX8_ordered 54 = .ok (.iload_n 3, 1) := by decide +kernel
theorem dX8_ordered_55 : decode cX8_ordered 55 = .ok (.iadd, 1) := by decide +kernel
theorem dX8_ordered_56 : decode cX8_ordered 56 = .ok (.iaload, 1) := by decide +kernel
theorem dX8_ordered_57 : decode cX8_ordered 57 = .ok (.if_icmp .ge 56, 3) := by decide +kernel
theorem dX8_ordered_60 : decode cX8_ordered 60 = .ok (.aload_n 0, 1) := by decide +kernel
theorem dX8_ordered_61 : decode cX8_ordered 61 = .ok (.getfield 48, 3) := by decide +kernel
theorem dX8_ordered_64 : decode cX8_ordered 64 = .ok (.iload 5, 2) := by decide +kernel
theorem dX8_ordered_66 : decode cX8_ordered 66 = .ok (.aload_n 0, 1) := by decide +kernel
theorem dX8_ordered_67 : decode cX8_ordered 67 = .ok (.getfield 45, 3) := by decide +kernel
theorem dX8_ordered_70 : decode cX8_ordered 70 = .ok (.iload 5, 2) := by decide +kernel
theorem dX8_ordered_72 : decode cX8_ordered 72 = .ok (.aload_n 0, 1) := by decide +kernel
theorem dX8_ordered_73 : decode cX8_ordered 73 = .ok (.getfield 13, 3) := by decide +kernel
theorem dX8_ordered_76 : decode cX8_ordered 76 = .ok (.iload_n 3, 1) := by decide +kernel
theorem dX8_ordered_77 : decode cX8_ordered 77 = .ok (.iaload, 1) := by decide +kernel
theorem dX8_ordered_78 : decode cX8_ordered 78 = .ok (.idiv, 1) := by decide +kernel
theorem dX8_ordered_79 : decode cX8_ordered 79 = .ok (.laload, 1) := by decide +kernel
theorem dX8_ordered_80 : decode cX8_ordered 80 = .ok (.aload_n 0, 1) := by decide +kernel
theorem dX8_ordered_81 : decode cX8_ordered 81 = .ok (.getfield 42, 3) := by decide +kernel
theorem dX8_ordered_84 : decode cX8_ordered 84 = .ok (.sipush 256, 3) := by decide +kernel
theorem dX8_ordered_87 : decode cX8_ordered 87 = .ok (.iload 4, 2) := by decide +kernel
theorem dX8_ordered_89 : decode cX8_ordered 89 = .ok (.imul, 1) := by decide +kernel
theorem dX8_ordered_90 : decode cX8_ordered 90 = .ok (.iload 5, 2) := by decide +kernel
theorem dX8_ordered_92 : decode cX8_ordered 92 = .ok (.aload_n 0, 1) := by decide +kernel
theorem dX8_ordered_93 : decode cX8_ordered 93 = .ok (.getfield 13, 3) := by decide +kernel
theorem dX8_ordered_96 : decode cX8_ordered 96 = .ok (.iload_n 3, 1) := by decide +kernel
theorem dX8_ordered_97 : decode cX8_ordered 97 = .ok (.iaload, 1) := by decide +kernel
theorem dX8_ordered_98 : decode cX8_ordered 98 = .ok (.irem, 1) := by decide +kernel
theorem dX8_ordered_99 : decode cX8_ordered 99 = .ok (.iadd, 1) := by decide +kernel
theorem dX8_ordered_100 : decode cX8_ordered 100 = .ok (.laload, 1) := by decide +kernel
theorem dX8_ordered_101 : decode cX8_ordered 101 = .ok (.lmul, 1) := by decide +kernel
theorem dX8_ordered_102 : decode cX8_ordered 102 = .ok (.ldc2_w 3, 3) := by decide +kernel
theorem dX8_ordered_105 : decode cX8_ordered 105 = .ok (.lrem, 1) := by decide +kernel
theorem dX8_ordered_106 : decode cX8_ordered 106 = .ok (.lastore, 1) := by decide +kernel
theorem dX8_ordered_107 : decode cX8_ordered 107 = .ok (.iinc 5 1, 3) := by decide +kernel
theorem dX8_ordered_110 : decode cX8_ordered 110 = .ok (.goto (-63), 3) := by decide +kernel
theorem dX8_ordered_113 : decode cX8_ordered 113 = .ok (.iload_n 2, 1) := by decide +kernel
theorem dX8_ordered_114 : decode cX8_ordered 114 = .ok (.iload_n 3, 1) := by decide +kernel
theorem dX8_ordered_115 : decode cX8_ordered 115 = .ok (.iadd, 1) := by decide +kernel
theorem dX8_ordered_116 : decode cX8_ordered 116 = .ok (.istore_n 2, 1) := by decide +kernel
theorem dX8_ordered_117 : decode cX8_ordered 117 = .ok (.iconst 0, 1) := by decide +kernel
theorem dX8_ordered_118 : decode cX8_ordered 118 = .ok (.istore 5, 2) := by decide +kernel
theorem dX8_ordered_120 : decode cX8_ordered 120 = .ok (.iload 5, 2) := by decide +kernel
theorem dX8_ordered_122 : decode cX8_ordered 122 = .ok (.aload_n 0, 1) := by decide +kernel
theorem dX8_ordered_123 : decode cX8_ordered 123 = .ok (.getfield 13, 3) := by decide +kernel
theorem dX8_ordered_126 : decode cX8_ordered 126 = .ok (.iload_n 2, 1) := by decide +kernel
theorem dX8_ordered_127 : decode cX8_ordered 127 = .ok (.iaload, 1) := by decide +kernel
theorem dX8_ordered_128 : decode cX8_ordered 128 = .ok (.if_icmp .ge 23, 3) := by decide +kernel
theorem dX8_ordered_131 : decode cX8_ordered 131 = .ok (.aload_n 0, 1) := by decide +kernel
theorem dX8_ordered_132 : decode cX8_ordered 132 = .ok (.getfield 45, 3) := by decide +kernel
theorem dX8_ordered_135 : decode cX8_ordered 135 = .ok (.iload 5, 2) := by decide +kernel
theorem dX8_ordered_137 : decode cX8_ordered 137 = .ok (.aload_n 0, 1) := by decide +kernel
theorem dX8_ordered_138 : decode cX8_ordered 138 = .ok (.getfield 48, 3) := by decide +kernel
theorem dX8_ordered_141 : decode cX8_ordered 141 = .ok (.iload 5, 2) := by decide +kernel
