theorem dX8_slot_3 : decode cX8_slot 3 = .ok (.iload_n 0, 1) := by decide +kernel
theorem dX8_slot_4 : decode cX8_slot 4 = .ok (.imul, 1) := by decide +kernel
theorem dX8_slot_5 : decode cX8_slot 5 = .ok (.iadd, 1) := by decide +kernel
theorem dX8_slot_6 : decode cX8_slot 6 = .ok (.iload_n 1, 1) := by decide +kernel
theorem dX8_slot_7 : decode cX8_slot 7 = .ok (.iadd, 1) := by decide +kernel
theorem dX8_slot_8 : decode cX8_slot 8 = .ok (.ireturn, 1) := by decide +kernel
set_option maxRecDepth 20000 in
theorem ggX8_opensFrame_X8_slot : GoodIn wsX8_opensFrame wsX8_slot := by
  refine goodIn_sub ?_ gd_X8_slot
  unfold wsX8_slot
  refine wm_c ⟨(wm_1 (wm_l (wm_4 (wm_2 wm_h)))), ?_⟩
  exact wm_n
set_option maxRecDepth 20000 in
theorem gX8_opensFrame_X8_slot : GoodIn wsX8_opensFrame (va_wsS RX8 280 yX8_slot wsX8_slot) := goodIn_app (goodIn_of _ (by decide +kernel)) ggX8_opensFrame_X8_slot
set_option maxRecDepth 20000 in
theorem ggX8_opensFrame_X8_clears : GoodIn wsX8_opensFrame wsX8_clears := by
  refine goodIn_sub ?_ gd_X8_clears
  unfold wsX8_clears
  refine wm_c ⟨(wm_1 (wm_l (wm_8 (wm_2 wm_h)))), ?_⟩
  refine wm_a ⟨?_, ?_⟩
  · refine wm_c ⟨(wm_1 (wm_l (wm_8 (wm_2 (wm_1 wm_h))))), ?_⟩
    refine wm_c ⟨(wm_1 (wm_l (wm_8 (wm_4 wm_h)))), ?_⟩
    exact wm_n
  · exact wk_X8_opensFrame_X80
set_option maxRecDepth 20000 in
theorem gX8_opensFrame_X8_clears : GoodIn wsX8_opensFrame (wsV RX8 136 RX8 yX8_clears wsX8_clears) := by
  refine goodIn_app (goodIn_sub ?_ ?_) ggX8_opensFrame_X8_clears
  · exact wm_c ⟨(wm_1 (wm_l (wm_4 (wm_2 (wm_1 wm_h))))), wm_c ⟨(wm_1 (wm_l (wm_8 wm_h))), wm_c ⟨(wm_1 (wm_l (wm_8 (wm_1 wm_h)))), wm_c ⟨(wm_1 (wm_l (wm_4 (wm_1 wm_h)))), wm_n⟩⟩⟩⟩
  · decide +kernel
set_option maxRecDepth 20000 in
theorem ggX8_opensFrame_X8_ones : GoodIn wsX8_opensFrame wsX8_ones := by
  refine goodIn_sub ?_ gd_X8_ones
  unfold wsX8_ones
  refine wm_c ⟨(wm_1 (wm_l (wm_16 wm_h))), ?_⟩
  refine wm_a ⟨?_, ?_⟩
  · refine wm_c ⟨(wm_1 (wm_l (wm_8 (wm_4 wm_h)))), ?_⟩
    refine wm_c ⟨(wm_1 (wm_l (wm_4 (wm_2 (wm_1 wm_h))))), ?_⟩
    refine wm_c ⟨(wm_1 (wm_l (wm_8 wm_h))), ?_⟩
    refine wm_c ⟨(wm_1 (wm_l (wm_8 (wm_1 wm_h)))), ?_⟩
    refine wm_c ⟨(wm_1 (wm_l (wm_4 (wm_1 wm_h)))), ?_⟩
    refine wm_c ⟨(wm_1 (wm_l (wm_8 (wm_2 wm_h)))), ?_⟩
    refine wm_c ⟨(wm_1 (wm_l (wm_8 (wm_2 (wm_1 wm_h))))), ?_⟩
    exact wm_n
  · exact wk_X8_opensFrame_X80
set_option maxRecDepth 20000 in
theorem gX8_opensFrame_X8_ones : GoodIn wsX8_opensFrame (wsV RX8 143 RX8 yX8_ones wsX8_ones) := by
  refine goodIn_app (goodIn_sub ?_ ?_) ggX8_opensFrame_X8_ones
  · exact wm_c ⟨(wm_1 (wm_l (wm_8 (wm_4 (wm_1 wm_h))))), wm_c ⟨(wm_1 (wm_l (wm_8 (wm_4 (wm_2 wm_h))))), wm_c ⟨(wm_1 (wm_l (wm_8 (wm_4 (wm_2 (wm_1 wm_h)))))), wm_c ⟨(wm_1 (wm_l (wm_4 (wm_1 wm_h)))), wm_n⟩⟩⟩⟩
  · decide +kernel
theorem dX8_opensFrame_0 : decode cX8_opensFrame 0 = .ok (.aload_n 0, 1) := by decide +kernel
theorem dX8_opensFrame_1 : decode cX8_opensFrame 1 = .ok (.dup, 1) := by decide +kernel
theorem dX8_opensFrame_2 : decode cX8_opensFrame 2 = .ok (.getfield 277, 3) := by decide +kernel
theorem dX8_opensFrame_5 : decode cX8_opensFrame 5 = .ok (.iconst 1, 1) := by decide +kernel
theorem dX8_opensFrame_6 : decode cX8_opensFrame 6 = .ok (.iadd, 1) := by decide +kernel
theorem dX8_opensFrame_7 : decode cX8_opensFrame 7 = .ok (.putfield 277, 3) := by decide +kernel
theorem dX8_opensFrame_10 : decode cX8_opensFrame 10 = .ok (.aload_n 0, 1) := by decide +kernel
theorem dX8_opensFrame_11 : decode cX8_opensFrame 11 = .ok (.getfield 78, 3) := by decide +kernel
theorem dX8_opensFrame_14 : decode cX8_opensFrame 14 = .ok (.aload_n 0, 1) := by decide +kernel
theorem dX8_opensFrame_15 : decode cX8_opensFrame 15 = .ok (.getfield 277, 3) := by decide +kernel
theorem dX8_opensFrame_18 : decode cX8_opensFrame 18 = .ok (.iload_n 1, 1) := by decide +kernel
theorem dX8_opensFrame_19 : decode cX8_opensFrame 19 = .ok (.iastore, 1) := by decide +kernel
theorem dX8_opensFrame_20 : decode cX8_opensFrame 20 = .ok (.aload_n 0, 1) := by decide +kernel
theorem dX8_opensFrame_21 : decode cX8_opensFrame 21 = .ok (.getfield 81, 3) := by decide +kernel
theorem dX8_opensFrame_24 : decode cX8_opensFrame 24 = .ok (.aload_n 0, 1) := by decide +kernel
theorem dX8_opensFrame_25 : decode cX8_opensFrame 25 = .ok (.getfield 277, 3) := by decide +kernel
theorem dX8_opensFrame_28 : decode cX8_opensFrame 28 = .ok (.lconst 1, 1) := by decide +kernel
theorem dX8_opensFrame_29 : decode cX8_opensFrame 29 = .ok (.lastore, 1) := by decide +kernel
theorem dX8_opensFrame_30 : decode cX8_opensFrame 30 = .ok (.aload_n 0, 1) := by decide +kernel
theorem dX8_opensFrame_31 : decode cX8_opensFrame 31 = .ok (.aload_n 0, 1) := by decide +kernel
theorem dX8_opensFrame_32 : decode cX8_opensFrame 32 = .ok (.getfield 277, 3) := by decide +kernel
theorem dX8_opensFrame_35 : decode cX8_opensFrame 35 = .ok (.iconst 0, 1) := by decide +kernel
theorem dX8_opensFrame_36 : decode cX8_opensFrame 36 = .ok (.invokestatic 280, 3) := by decide +kernel
theorem dX8_opensFrame_39 : decode cX8_opensFrame 39 = .ok (.invokevirtual 136, 3) := by decide +kernel
theorem dX8_opensFrame_42 : decode cX8_opensFrame 42 = .ok (.aload_n 0, 1) := by decide +kernel
theorem dX8_opensFrame_43 : decode cX8_opensFrame 43 = .ok (.aload_n 0, 1) := by decide +kernel
theorem dX8_opensFrame_44 : decode cX8_opensFrame 44 = .ok (.getfield 277, 3) := by decide +kernel
theorem dX8_opensFrame_47 : decode cX8_opensFrame 47 = .ok (.iconst 1, 1) := by decide +kernel
theorem dX8_opensFrame_48 : decode cX8_opensFrame 48 = .ok (.invokestatic 280, 3) := by decide +kernel
theorem dX8_opensFrame_51 : decode cX8_opensFrame 51 = .ok (.invokevirtual 143, 3) := by decide +kernel
theorem dX8_opensFrame_54 : decode cX8_opensFrame 54 = .ok (.return_, 1) := by decide +kernel
set_option maxRecDepth 20000 in
theorem ggX8_closesTerm_X8_slot : GoodIn wsX8_closesTerm wsX8_slot := by
  refine goodIn_sub ?_ gd_X8_slot
  unfold wsX8_slot
  refine wm_c ⟨(wm_1 (wm_l (wm_4 (wm_1 wm_h)))), ?_⟩
  exact wm_n
set_option maxRecDepth 20000 in
theorem gX8_closesTerm_X8_slot : GoodIn wsX8_closesTerm (va_wsS RX8 280 yX8_slot wsX8_slot) := goodIn_app (goodIn_of _ (by decide +kernel)) ggX8_closesTerm_X8_slot
set_option maxRecDepth 20000 in
theorem ggX8_closesTerm_X8_adds : GoodIn wsX8_closesTerm wsX8_adds := by
  refine goodIn_sub ?_ gd_X8_adds
  unfold wsX8_adds
  refine wm_c ⟨(wm_1 (wm_l (wm_8 (wm_1 wm_h)))), ?_⟩
  refine wm_a ⟨?_, ?_⟩
  · refine wm_c ⟨(wm_1 (wm_l (wm_8 (wm_2 wm_h)))), ?_⟩
    refine wm_c ⟨(wm_1 (wm_l (wm_8 (wm_2 (wm_1 wm_h))))), ?_⟩
    refine wm_c ⟨(wm_1 (wm_l (wm_8 (wm_4 wm_h)))), ?_⟩
    exact wm_n
  · exact wk_X8_closesTerm_X80
set_option maxRecDepth 20000 in
theorem gX8_closesTerm_X8_adds : GoodIn wsX8_closesTerm (wsV RX8 153 RX8 yX8_adds wsX8_adds) := by
  refine goodIn_app (goodIn_sub ?_ ?_) ggX8_closesTerm_X8_adds
  · exact wm_c ⟨(wm_1 (wm_l (wm_4 (wm_2 wm_h)))), wm_c ⟨(wm_1 (wm_l (wm_4 (wm_2 (wm_1 wm_h))))), wm_c ⟨(wm_1 (wm_l (wm_8 wm_h))), wm_c ⟨(wm_1 (wm_l (wm_4 wm_h))), wm_n⟩⟩⟩⟩
  · decide +kernel
set_option maxRecDepth 20000 in
theorem ggX8_closesTerm_X8_ones : GoodIn wsX8_closesTerm wsX8_ones := by
  refine goodIn_sub ?_ gd_X8_ones
  unfold wsX8_ones
  refine wm_c ⟨(wm_1 (wm_l (wm_16 wm_h))), ?_⟩
  refine wm_a ⟨?_, ?_⟩
  · refine wm_c ⟨(wm_1 (wm_l (wm_8 (wm_2 (wm_1 wm_h))))), ?_⟩
    refine wm_c ⟨(wm_1 (wm_l (wm_16 (wm_1 wm_h)))), ?_⟩
    refine wm_c ⟨(wm_1 (wm_l (wm_16 (wm_2 wm_h)))), ?_⟩
    refine wm_c ⟨(wm_1 (wm_l (wm_16 (wm_2 (wm_1 wm_h))))), ?_⟩
    refine wm_c ⟨(wm_1 (wm_l (wm_4 wm_h))), ?_⟩
    refine wm_c ⟨(wm_1 (wm_l (wm_16 (wm_4 wm_h)))), ?_⟩
    refine wm_c ⟨(wm_1 (wm_l (wm_8 (wm_2 wm_h)))), ?_⟩
    exact wm_n
  · exact wk_X8_closesTerm_X80
set_option maxRecDepth 20000 in
theorem gX8_closesTerm_X8_ones : GoodIn wsX8_closesTerm (wsV RX8 143 RX8 yX8_ones wsX8_ones) := by
  refine goodIn_app (goodIn_sub ?_ ?_) ggX8_closesTerm_X8_ones
  · exact wm_c ⟨(wm_1 (wm_l (wm_8 (wm_4 (wm_1 wm_h))))), wm_c ⟨(wm_1 (wm_l (wm_8 (wm_4 (wm_2 wm_h))))), wm_c ⟨(wm_1 (wm_l (wm_8 (wm_4 (wm_2 (wm_1 wm_h)))))), wm_c ⟨(wm_1 (wm_l (wm_4 wm_h))), wm_n⟩⟩⟩⟩
  · decide +kernel
theorem dX8_closesTerm_0 : decode cX8_closesTerm 0 = .ok (.aload_n 0, 1) := by decide +kernel
theorem dX8_closesTerm_1 : decode cX8_closesTerm 1 = .ok (.aload_n 0, 1) := by decide +kernel
theorem dX8_closesTerm_2 : decode cX8_closesTerm 2 = .ok (.getfield 277, 3) := by decide +kernel
theorem dX8_closesTerm_5 : decode cX8_closesTerm 5 = .ok (.iconst 0, 1) := by decide +kernel
theorem dX8_closesTerm_6 : decode cX8_closesTerm 6 = .ok (.invokestatic 280, 3) := by decide +kernel
theorem dX8_closesTerm_9 : decode cX8_closesTerm 9 = .ok (.aload_n 0, 1) := by decide +kernel
theorem dX8_closesTerm_10 : decode cX8_closesTerm 10 = .ok (.getfield 277, 3) := by decide +kernel
theorem dX8_closesTerm_13 : decode cX8_closesTerm 13 = .ok (.iconst 1, 1) := by decide +kernel
theorem dX8_closesTerm_14 : decode cX8_closesTerm 14 = .ok (.invokestatic 280, 3) := by decide +kernel
theorem dX8_closesTerm_17 : decode cX8_closesTerm 17 = .ok (.aload_n 0, 1) := by decide +kernel
theorem dX8_closesTerm_18 : decode cX8_closesTerm 18 = .ok (.getfield 81, 3) := by decide +kernel
theorem dX8_closesTerm_21 : decode cX8_closesTerm 21 = .ok (.aload_n 0, 1) := by decide +kernel
theorem dX8_closesTerm_22 : decode cX8_closesTerm 22 = .ok (.getfield 277, 3) := by decide +kernel
theorem dX8_closesTerm_25 : decode cX8_closesTerm 25 = .ok (.laload, 1) := by decide +kernel
theorem dX8_closesTerm_26 : decode cX8_closesTerm 26 = .ok (.invokevirtual 153, 3) := by decide +kernel
theorem dX8_closesTerm_29 : decode cX8_closesTerm 29 = .ok (.aload_n 0, 1) := by decide +kernel
theorem dX8_closesTerm_30 : decode cX8_closesTerm 30 = .ok (.aload_n 0, 1) := by decide +kernel
theorem dX8_closesTerm_31 : decode cX8_closesTerm 31 = .ok (.getfield 277, 3) := by decide +kernel
theorem dX8_closesTerm_34 : decode cX8_closesTerm 34 = .ok (.iconst 1, 1) := by decide +kernel
theorem dX8_closesTerm_35 : decode cX8_closesTerm 35 = .ok (.invokestatic 280, 3) := by decide +kernel
theorem dX8_closesTerm_38 : decode cX8_closesTerm 38 = .ok (.invokevirtual 143, 3) := by decide +kernel
theorem dX8_closesTerm_41 : decode cX8_closesTerm 41 = .ok (.return_, 1) := by decide +kernel
set_option maxRecDepth 20000 in
theorem ggX8_factor_X8_slot : GoodIn wsX8_factor wsX8_slot := by
  refine goodIn_sub ?_ gd_X8_slot
  unfold wsX8_slot
  refine wm_c ⟨(wk_X8_factor_X8_factor_r1 _ (wm_4 wm_h)), ?_⟩
  exact wm_n
set_option maxRecDepth 20000 in
theorem gX8_factor_X8_slot : GoodIn wsX8_factor (va_wsS RX8 280 yX8_slot wsX8_slot) := goodIn_app (goodIn_of _ (by decide +kernel)) ggX8_factor_X8_slot
set_option maxRecDepth 20000 in
theorem ggX8_factor_X8_multiplies : GoodIn wsX8_factor wsX8_multiplies := by
  refine goodIn_sub ?_ gd_X8_multiplies
  unfold wsX8_multiplies
  refine wm_c ⟨(wk_X8_factor_X8_factor_r1 _ (wm_8 wm_h)), ?_⟩
  refine wm_a ⟨?_, ?_⟩
  · refine wm_c ⟨(wk_X8_factor_X8_factor_r1 _ (wm_8 (wm_1 wm_h))), ?_⟩
    refine wm_c ⟨(wk_X8_factor_X8_factor_r1 _ (wm_8 (wm_2 wm_h))), ?_⟩
    refine wm_c ⟨(wk_X8_factor_X8_factor_r1 _ (wm_8 (wm_2 (wm_1 wm_h)))), ?_⟩
    refine wm_c ⟨(wk_X8_factor_X8_factor_r1 _ (wm_8 (wm_4 wm_h))), ?_⟩
    refine wm_c ⟨(wk_X8_factor_X8_factor_r1 _ (wm_8 (wm_4 (wm_1 wm_h)))), ?_⟩
    refine wm_c ⟨(wk_X8_factor_X8_factor_r1 _ (wm_8 (wm_4 (wm_2 wm_h)))), ?_⟩
    refine wm_c ⟨(wk_X8_factor_X8_factor_r1 _ (wm_8 (wm_4 (wm_2 (wm_1 wm_h))))), ?_⟩
    refine wm_c ⟨(wk_X8_factor_X8_factor_r1 _ (wm_2 (wm_1 wm_h))), ?_⟩
    refine wm_c ⟨(wk_X8_factor_X8_factor_r1 _ (wm_16 wm_h)), ?_⟩
    refine wm_c ⟨(wk_X8_factor_X8_factor_r1 _ (wm_16 (wm_1 wm_h))), ?_⟩
    refine wm_c ⟨(wk_X8_factor_X8_factor_r1 _ (wm_16 (wm_2 wm_h))), ?_⟩
    refine wm_c ⟨(wk_X8_factor_X8_factor_r1 _ (wm_16 (wm_2 (wm_1 wm_h)))), ?_⟩
    refine wm_c ⟨(wk_X8_factor_X8_factor_r1 _ (wm_16 (wm_4 wm_h))), ?_⟩
    refine wm_c ⟨(wk_X8_factor_X8_factor_r1 _ (wm_16 (wm_4 (wm_1 wm_h)))), ?_⟩
    refine wm_c ⟨(wk_X8_factor_X8_factor_r1 _ (wm_16 (wm_4 (wm_2 wm_h)))), ?_⟩
    refine wm_c ⟨(wk_X8_factor_X8_factor_r1 _ (wm_16 (wm_4 (wm_2 (wm_1 wm_h))))), ?_⟩
    refine wm_c ⟨(wk_X8_factor_X8_factor_r2 _ wm_h), ?_⟩
    refine wm_c ⟨(wk_X8_factor_X8_factor_r2 _ (wm_1 wm_h)), ?_⟩
    refine wm_c ⟨(wk_X8_factor_X8_factor_r2 _ (wm_2 wm_h)), ?_⟩
    exact wm_n
  · exact wk_X8_factor_X80
set_option maxRecDepth 20000 in
theorem gX8_factor_X8_multiplies : GoodIn wsX8_factor (wsV RX8 146 RX8 yX8_multiplies wsX8_multiplies) := by
  refine goodIn_app (goodIn_sub ?_ ?_) ggX8_factor_X8_multiplies
  · exact wm_c ⟨(wk_X8_factor_X8_factor_r1 _ (wm_4 (wm_1 wm_h))), wm_c ⟨(wk_X8_factor_X8_factor_r1 _ (wm_4 (wm_2 wm_h))), wm_c ⟨(wk_X8_factor_X8_factor_r1 _ (wm_4 (wm_2 (wm_1 wm_h)))), wm_c ⟨(wk_X8_factor_X8_factor_r1 _ (wm_2 (wm_1 wm_h))), wm_n⟩⟩⟩⟩
  · decide +kernel
set_option maxRecDepth 20000 in
theorem ggX8_factor_X8_copies : GoodIn wsX8_factor wsX8_copies := by
  refine goodIn_sub ?_ gd_X8_copies
  unfold wsX8_copies
  refine wm_c ⟨(wk_X8_factor_X8_factor_r2 _ (wm_4 (wm_2 wm_h))), ?_⟩
  refine wm_a ⟨?_, ?_⟩
  · refine wm_c ⟨(wk_X8_factor_X8_factor_r1 _ (wm_8 (wm_1 wm_h))), ?_⟩
    refine wm_c ⟨(wk_X8_factor_X8_factor_r1 _ (wm_8 (wm_2 (wm_1 wm_h)))), ?_⟩
    exact wm_n
  · exact wk_X8_factor_X80
set_option maxRecDepth 20000 in
theorem gX8_factor_X8_copies : GoodIn wsX8_factor (wsV RX8 139 RX8 yX8_copies wsX8_copies) := by
  refine goodIn_app (goodIn_sub ?_ ?_) ggX8_factor_X8_copies
  · exact wm_c ⟨(wk_X8_factor_X8_factor_r2 _ (wm_2 (wm_1 wm_h))), wm_c ⟨(wk_X8_factor_X8_factor_r2 _ (wm_4 wm_h)), wm_c ⟨(wk_X8_factor_X8_factor_r2 _ (wm_4 (wm_1 wm_h))), wm_c ⟨(wk_X8_factor_X8_factor_r1 _ (wm_2 (wm_1 wm_h))), wm_n⟩⟩⟩⟩
  · decide +kernel
theorem dX8_factor_0 : decode cX8_factor 0 = .ok (.aload_n 0, 1) := by decide +kernel
theorem dX8_factor_1 : decode cX8_factor 1 = .ok (.bipush 9, 2) := by decide +kernel
theorem dX8_factor_3 : decode cX8_factor 3 = .ok (.aload_n 0, 1) := by decide +kernel
theorem dX8_factor_4 : decode cX8_factor 4 = .ok (.getfield 277, 3) := by decide +kernel
theorem dX8_factor_7 : decode cX8_factor 7 = .ok (.iconst 1, 1) := by decide +kernel
theorem dX8_factor_8 : decode cX8_factor 8 = .ok (.invokestatic 280, 3) := by decide +kernel
theorem dX8_factor_11 : decode cX8_factor 11 = .ok (.bipush 8, 2) := by decide +kernel
theorem dX8_factor_13 : decode cX8_factor 13 = .ok (.invokevirtual 146, 3) := by decide +kernel
theorem dX8_factor_16 : decode cX8_factor 16 = .ok (.aload_n 0, 1) := by decide +kernel
theorem dX8_factor_17 : decode cX8_factor 17 = .ok (.aload_n 0, 1) := by decide +kernel
theorem dX8_factor_18 : decode cX8_factor 18 = .ok (.getfield 277, 3) := by decide +kernel
theorem dX8_factor_21 : decode cX8_factor 21 = .ok (.iconst 1, 1) := by decide +kernel
theorem dX8_factor_22 : decode cX8_factor 22 = .ok (.invokestatic 280, 3) := by decide +kernel
theorem dX8_factor_25 : decode cX8_factor 25 = .ok (.bipush 9, 2) := by decide +kernel
theorem dX8_factor_27 : decode cX8_factor 27 = .ok (.invokevirtual 139, 3) := by decide +kernel
theorem dX8_factor_30 : decode cX8_factor 30 = .ok (.return_, 1) := by decide +kernel
set_option maxRecDepth 20000 in
theorem ggX8_closes_X8_closesTerm : GoodIn wsX8_closes wsX8_closesTerm := by
  refine goodIn_sub ?_ gd_X8_closesTerm
  unfold wsX8_closesTerm
  refine wm_c ⟨(wk_X8_closes_X8_closes_r1 _ (wm_8 wm_h)), ?_⟩
  refine wm_a ⟨?_, ?_⟩
  · refine wm_c ⟨(wk_X8_closes_X8_closes_r1 _ wm_h), ?_⟩
    refine wm_c ⟨(wk_X8_closes_X8_closes_r1 _ (wm_8 (wm_1 wm_h))), ?_⟩
    refine wm_c ⟨(wk_X8_closes_X8_closes_r1 _ (wm_8 (wm_2 wm_h))), ?_⟩
    refine wm_c ⟨(wk_X8_closes_X8_closes_r1 _ (wm_8 (wm_2 (wm_1 wm_h)))), ?_⟩
    refine wm_c ⟨(wk_X8_closes_X8_closes_r1 _ (wm_4 (wm_2 (wm_1 wm_h)))), ?_⟩
    refine wm_c ⟨(wk_X8_closes_X8_closes_r1 _ (wm_8 (wm_4 wm_h))), ?_⟩
    refine wm_c ⟨(wk_X8_closes_X8_closes_r1 _ (wm_8 (wm_4 (wm_1 wm_h)))), ?_⟩
    refine wm_c ⟨(wk_X8_closes_X8_closes_r1 _ (wm_8 (wm_4 (wm_2 wm_h)))), ?_⟩
    refine wm_c ⟨(wk_X8_closes_X8_closes_r1 _ (wm_8 (wm_4 (wm_2 (wm_1 wm_h))))), ?_⟩
    refine wm_c ⟨(wk_X8_closes_X8_closes_r1 _ (wm_16 wm_h)), ?_⟩
    refine wm_c ⟨(wk_X8_closes_X8_closes_r1 _ (wm_16 (wm_1 wm_h))), ?_⟩
    refine wm_c ⟨(wk_X8_closes_X8_closes_r1 _ (wm_2 (wm_1 wm_h))), ?_⟩
    refine wm_c ⟨(wk_X8_closes_X8_closes_r1 _ (wm_16 (wm_2 wm_h))), ?_⟩
    refine wm_c ⟨(wk_X8_closes_X8_closes_r1 _ (wm_16 (wm_2 (wm_1 wm_h)))), ?_⟩
    refine wm_c ⟨(wk_X8_closes_X8_closes_r1 _ (wm_16 (wm_4 wm_h))), ?_⟩
    refine wm_c ⟨(wk_X8_closes_X8_closes_r1 _ (wm_16 (wm_4 (wm_1 wm_h)))), ?_⟩
    refine wm_c ⟨(wk_X8_closes_X8_closes_r1 _ (wm_16 (wm_4 (wm_2 wm_h)))), ?_⟩
    refine wm_c ⟨(wk_X8_closes_X8_closes_r1 _ (wm_16 (wm_4 (wm_2 (wm_1 wm_h))))), ?_⟩
    refine wm_c ⟨(wk_X8_closes_X8_closes_r2 _ wm_h), ?_⟩
    refine wm_c ⟨(wk_X8_closes_X8_closes_r2 _ (wm_1 wm_h)), ?_⟩
    refine wm_c ⟨(wk_X8_closes_X8_closes_r2 _ (wm_2 wm_h)), ?_⟩
    exact wm_n
  · exact wk_X8_closes_X80
set_option maxRecDepth 20000 in
theorem gX8_closes_X8_closesTerm : GoodIn wsX8_closes (wsV RX8 283 RX8 yX8_closesTerm wsX8_closesTerm) := by
  refine goodIn_app (goodIn_sub ?_ ?_) ggX8_closes_X8_closesTerm
  · exact wm_c ⟨(wk_X8_closes_X8_closes_r1 _ (wm_4 wm_h)), wm_c ⟨(wk_X8_closes_X8_closes_r1 _ (wm_4 (wm_1 wm_h))), wm_c ⟨(wk_X8_closes_X8_closes_r1 _ (wm_4 (wm_2 wm_h))), wm_c ⟨(wk_X8_closes_X8_closes_r1 _ (wm_4 (wm_2 (wm_1 wm_h)))), wm_n⟩⟩⟩⟩
  · decide +kernel
set_option maxRecDepth 20000 in
theorem ggX8_closes_X8_slot : GoodIn wsX8_closes wsX8_slot := by
  refine goodIn_sub ?_ gd_X8_slot
  unfold wsX8_slot
  refine wm_c ⟨(wk_X8_closes_X8_closes_r1 _ (wm_8 (wm_4 wm_h))), ?_⟩
  exact wm_n
set_option maxRecDepth 20000 in
theorem gX8_closes_X8_slot : GoodIn wsX8_closes (va_wsS RX8 280 yX8_slot wsX8_slot) := goodIn_app (goodIn_of _ (by decide +kernel)) ggX8_closes_X8_slot
set_option maxRecDepth 20000 in
theorem ggX8_closes_X8_bracketOf : GoodIn wsX8_closes wsX8_bracketOf := by
  refine goodIn_sub ?_ gd_X8_bracketOf
  unfold wsX8_bracketOf
  refine wm_c ⟨(wk_X8_closes_X8_closes_r2 _ (wm_4 (wm_2 wm_h))), ?_⟩
  refine wm_a ⟨?_, ?_⟩
  · refine wm_a ⟨?_, ?_⟩
    · unfold wsX8_bracketOf_r1
      refine wm_c ⟨(wk_X8_closes_X8_closes_r2 _ (wm_4 (wm_2 (wm_1 wm_h)))), ?_⟩
      refine wm_c ⟨(wk_X8_closes_X8_closes_r2 _ (wm_8 wm_h)), ?_⟩
      refine wm_c ⟨(wk_X8_closes_X8_closes_r2 _ (wm_8 (wm_1 wm_h))), ?_⟩
      refine wm_c ⟨(wk_X8_closes_X8_closes_r2 _ (wm_8 (wm_2 wm_h))), ?_⟩
      refine wm_c ⟨(wk_X8_closes_X8_closes_r1 _ (wm_4 (wm_2 (wm_1 wm_h)))), ?_⟩
      refine wm_c ⟨(wk_X8_closes_X8_closes_r2 _ (wm_8 (wm_2 (wm_1 wm_h)))), ?_⟩
      refine wm_c ⟨(wk_X8_closes_X8_closes_r1 _ (wm_16 (wm_1 wm_h))), ?_⟩
      refine wm_c ⟨(wk_X8_closes_X8_closes_r2 _ (wm_8 (wm_4 wm_h))), ?_⟩
      refine wm_c ⟨(wk_X8_closes_X8_closes_r1 _ (wm_2 (wm_1 wm_h))), ?_⟩
      refine wm_c ⟨(wk_X8_closes_X8_closes_r1 _ (wm_16 (wm_2 wm_h))), ?_⟩
      refine wm_c ⟨(wk_X8_closes_X8_closes_r1 _ (wm_16 (wm_4 (wm_2 (wm_1 wm_h))))), ?_⟩
      refine wm_c ⟨(wk_X8_closes_X8_closes_r2 _ wm_h), ?_⟩
      refine wm_c ⟨(wk_X8_closes_X8_closes_r2 _ (wm_1 wm_h)), ?_⟩
      refine wm_c ⟨(wk_X8_closes_X8_closes_r2 _ (wm_2 wm_h)), ?_⟩
      refine wm_c ⟨(wk_X8_closes_X8_closes_r2 _ (wm_8 (wm_4 (wm_1 wm_h)))), ?_⟩
      refine wm_c ⟨(wk_X8_closes_X8_closes_r2 _ (wm_8 (wm_4 (wm_2 wm_h)))), ?_⟩
      refine wm_c ⟨(wk_X8_closes_X8_closes_r2 _ (wm_8 (wm_4 (wm_2 (wm_1 wm_h))))), ?_⟩
      refine wm_c ⟨(wk_X8_closes_X8_closes_r2 _ (wm_16 wm_h)), ?_⟩
      refine wm_c ⟨(wk_X8_closes_X8_closes_r2 _ (wm_16 (wm_1 wm_h))), ?_⟩
      refine wm_c ⟨(wk_X8_closes_X8_closes_r2 _ (wm_16 (wm_2 wm_h))), ?_⟩
      refine wm_c ⟨(wk_X8_closes_X8_closes_r2 _ (wm_16 (wm_2 (wm_1 wm_h)))), ?_⟩
      refine wm_c ⟨(wk_X8_closes_X8_closes_r2 _ (wm_16 (wm_4 wm_h))), ?_⟩
      refine wm_c ⟨(wk_X8_closes_X8_closes_r2 _ (wm_16 (wm_4 (wm_1 wm_h)))), ?_⟩
      refine wm_c ⟨(wk_X8_closes_X8_closes_r2 _ (wm_16 (wm_4 (wm_2 wm_h)))), ?_⟩
      exact wm_n
    · unfold wsX8_bracketOf_r2
      refine wm_c ⟨(wk_X8_closes_X8_closes_r1 _ (wm_8 (wm_4 (wm_1 wm_h)))), ?_⟩
      refine wm_c ⟨(wk_X8_closes_X8_closes_r1 _ (wm_8 (wm_4 (wm_2 wm_h)))), ?_⟩
      refine wm_c ⟨(wk_X8_closes_X8_closes_r1 _ (wm_8 (wm_4 (wm_2 (wm_1 wm_h))))), ?_⟩
      refine wm_c ⟨(wk_X8_closes_X8_closes_r1 _ (wm_16 wm_h)), ?_⟩
      refine wm_c ⟨(wk_X8_closes_X8_closes_r2 _ (wm_16 (wm_4 (wm_2 (wm_1 wm_h))))), ?_⟩
      refine wm_c ⟨(wk_X8_closes_X8_closes_r3 _ wm_h), ?_⟩
      refine wm_c ⟨(wk_X8_closes_X8_closes_r3 _ (wm_1 wm_h)), ?_⟩
      refine wm_c ⟨(wk_X8_closes_X8_closes_r3 _ (wm_2 wm_h)), ?_⟩
      exact wm_n
  · exact wk_X8_closes_X80
set_option maxRecDepth 20000 in
theorem gX8_closes_X8_bracketOf : GoodIn wsX8_closes (wsV RX8 186 RX8 yX8_bracketOf wsX8_bracketOf) := by
  refine goodIn_app (goodIn_sub ?_ ?_) ggX8_closes_X8_bracketOf
  · exact wm_c ⟨(wk_X8_closes_X8_closes_r2 _ (wm_2 (wm_1 wm_h))), wm_c ⟨(wk_X8_closes_X8_closes_r2 _ (wm_4 wm_h)), wm_c ⟨(wk_X8_closes_X8_closes_r2 _ (wm_4 (wm_1 wm_h))), wm_c ⟨(wk_X8_closes_X8_closes_r1 _ (wm_4 (wm_2 (wm_1 wm_h)))), wm_n⟩⟩⟩⟩
  · decide +kernel
set_option maxRecDepth 20000 in
theorem ggX8_closes_X8_copies : GoodIn wsX8_closes wsX8_copies := by
  refine goodIn_sub ?_ gd_X8_copies
  unfold wsX8_copies
  refine wm_c ⟨(wk_X8_closes_X8_closes_r3 _ (wm_2 wm_h)), ?_⟩
  refine wm_a ⟨?_, ?_⟩
  · refine wm_c ⟨(wk_X8_closes_X8_closes_r1 _ (wm_16 (wm_1 wm_h))), ?_⟩
    refine wm_c ⟨(wk_X8_closes_X8_closes_r1 _ (wm_2 (wm_1 wm_h))), ?_⟩
    exact wm_n
  · exact wk_X8_closes_X80
set_option maxRecDepth 20000 in
theorem gX8_closes_X8_copies : GoodIn wsX8_closes (wsV RX8 139 RX8 yX8_copies wsX8_copies) := by
  refine goodIn_app (goodIn_sub ?_ ?_) ggX8_closes_X8_copies
  · exact wm_c ⟨(wk_X8_closes_X8_closes_r2 _ (wm_16 (wm_4 (wm_2 (wm_1 wm_h))))), wm_c ⟨(wk_X8_closes_X8_closes_r3 _ wm_h), wm_c ⟨(wk_X8_closes_X8_closes_r3 _ (wm_1 wm_h)), wm_c ⟨(wk_X8_closes_X8_closes_r1 _ (wm_4 (wm_2 (wm_1 wm_h)))), wm_n⟩⟩⟩⟩
  · decide +kernel
set_option maxRecDepth 20000 in
theorem ggX8_closes_X8_series : GoodIn wsX8_closes wsX8_series := by
  refine goodIn_sub ?_ gd_X8_series
  unfold wsX8_series
  refine wm_c ⟨(wk_X8_closes_X8_closes_r3 _ (wm_4 (wm_2 wm_h))), ?_⟩
  refine wm_a ⟨?_, ?_⟩
  · refine wm_a ⟨?_, ?_⟩
    · unfold wsX8_series_r1
      refine wm_c ⟨(wk_X8_closes_X8_closes_r1 _ (wm_2 (wm_1 wm_h))), ?_⟩
      refine wm_c ⟨(wk_X8_closes_X8_closes_r3 _ (wm_4 (wm_2 (wm_1 wm_h)))), ?_⟩
      refine wm_c ⟨(wk_X8_closes_X8_closes_r1 _ (wm_16 (wm_2 wm_h))), ?_⟩
      refine wm_c ⟨(wk_X8_closes_X8_closes_r2 _ (wm_16 (wm_4 (wm_2 (wm_1 wm_h))))), ?_⟩
      refine wm_c ⟨(wk_X8_closes_X8_closes_r3 _ wm_h), ?_⟩
      refine wm_c ⟨(wk_X8_closes_X8_closes_r3 _ (wm_1 wm_h)), ?_⟩
      refine wm_c ⟨(wk_X8_closes_X8_closes_r1 _ (wm_4 (wm_2 (wm_1 wm_h)))), ?_⟩
      refine wm_c ⟨(wk_X8_closes_X8_closes_r3 _ (wm_2 wm_h)), ?_⟩
      refine wm_c ⟨(wk_X8_closes_X8_closes_r1 _ (wm_16 (wm_1 wm_h))), ?_⟩
      refine wm_c ⟨(wk_X8_closes_X8_closes_r1 _ (wm_16 (wm_2 (wm_1 wm_h)))), ?_⟩
      refine wm_c ⟨(wk_X8_closes_X8_closes_r1 _ (wm_16 (wm_4 wm_h))), ?_⟩
      refine wm_c ⟨(wk_X8_closes_X8_closes_r1 _ (wm_16 (wm_4 (wm_1 wm_h)))), ?_⟩
      refine wm_c ⟨(wk_X8_closes_X8_closes_r1 _ (wm_16 (wm_4 (wm_2 wm_h)))), ?_⟩
      refine wm_c ⟨(wk_X8_closes_X8_closes_r1 _ (wm_16 (wm_4 (wm_2 (wm_1 wm_h))))), ?_⟩
      refine wm_c ⟨(wk_X8_closes_X8_closes_r2 _ wm_h), ?_⟩
      refine wm_c ⟨(wk_X8_closes_X8_closes_r2 _ (wm_1 wm_h)), ?_⟩
      refine wm_c ⟨(wk_X8_closes_X8_closes_r2 _ (wm_2 wm_h)), ?_⟩
      refine wm_c ⟨(wk_X8_closes_X8_closes_r2 _ (wm_8 wm_h)), ?_⟩
      refine wm_c ⟨(wk_X8_closes_X8_closes_r2 _ (wm_8 (wm_1 wm_h))), ?_⟩
      refine wm_c ⟨(wk_X8_closes_X8_closes_r2 _ (wm_8 (wm_2 wm_h))), ?_⟩
      refine wm_c ⟨(wk_X8_closes_X8_closes_r2 _ (wm_8 (wm_2 (wm_1 wm_h)))), ?_⟩
      refine wm_c ⟨(wk_X8_closes_X8_closes_r2 _ (wm_8 (wm_4 wm_h))), ?_⟩
      refine wm_c ⟨(wk_X8_closes_X8_closes_r2 _ (wm_8 (wm_4 (wm_1 wm_h)))), ?_⟩
      refine wm_c ⟨(wk_X8_closes_X8_closes_r2 _ (wm_8 (wm_4 (wm_2 wm_h)))), ?_⟩
      exact wm_n
    · unfold wsX8_series_r2
      refine wm_c ⟨(wk_X8_closes_X8_closes_r2 _ (wm_8 (wm_4 (wm_2 (wm_1 wm_h))))), ?_⟩
      refine wm_c ⟨(wk_X8_closes_X8_closes_r2 _ (wm_16 wm_h)), ?_⟩
      refine wm_c ⟨(wk_X8_closes_X8_closes_r2 _ (wm_16 (wm_1 wm_h))), ?_⟩
      refine wm_c ⟨(wk_X8_closes_X8_closes_r2 _ (wm_16 (wm_2 wm_h))), ?_⟩
      refine wm_c ⟨(wk_X8_closes_X8_closes_r2 _ (wm_16 (wm_2 (wm_1 wm_h)))), ?_⟩
      refine wm_c ⟨(wk_X8_closes_X8_closes_r2 _ (wm_16 (wm_4 wm_h))), ?_⟩
      refine wm_c ⟨(wk_X8_closes_X8_closes_r2 _ (wm_16 (wm_4 (wm_1 wm_h)))), ?_⟩
      refine wm_c ⟨(wk_X8_closes_X8_closes_r2 _ (wm_16 (wm_4 (wm_2 wm_h)))), ?_⟩
      refine wm_c ⟨(wk_X8_closes_X8_closes_r3 _ (wm_8 wm_h)), ?_⟩
      refine wm_c ⟨(wk_X8_closes_X8_closes_r3 _ (wm_8 (wm_1 wm_h))), ?_⟩
      refine wm_c ⟨(wk_X8_closes_X8_closes_r3 _ (wm_8 (wm_2 wm_h))), ?_⟩
      refine wm_c ⟨(wk_X8_closes_X8_closes_r3 _ (wm_8 (wm_2 (wm_1 wm_h)))), ?_⟩
      refine wm_c ⟨(wk_X8_closes_X8_closes_r1 _ (wm_8 (wm_4 (wm_1 wm_h)))), ?_⟩
      refine wm_c ⟨(wk_X8_closes_X8_closes_r1 _ (wm_8 (wm_4 (wm_2 wm_h)))), ?_⟩
      refine wm_c ⟨(wk_X8_closes_X8_closes_r1 _ (wm_8 (wm_4 (wm_2 (wm_1 wm_h))))), ?_⟩
      refine wm_c ⟨(wk_X8_closes_X8_closes_r1 _ (wm_16 wm_h)), ?_⟩
      exact wm_n
  · exact wk_X8_closes_X80
set_option maxRecDepth 20000 in
theorem gX8_closes_X8_series : GoodIn wsX8_closes (wsV RX8 189 RX8 yX8_series wsX8_series) := by
  refine goodIn_app (goodIn_sub ?_ ?_) ggX8_closes_X8_series
  · exact wm_c ⟨(wk_X8_closes_X8_closes_r3 _ (wm_2 (wm_1 wm_h))), wm_c ⟨(wk_X8_closes_X8_closes_r3 _ (wm_4 wm_h)), wm_c ⟨(wk_X8_closes_X8_closes_r3 _ (wm_4 (wm_1 wm_h))), wm_c ⟨(wk_X8_closes_X8_closes_r1 _ (wm_4 (wm_2 (wm_1 wm_h)))), wm_n⟩⟩⟩⟩
  · decide +kernel
set_option maxRecDepth 20000 in
theorem ggX8_closes_X8_factor : GoodIn wsX8_closes wsX8_factor := by
  refine goodIn_sub ?_ gd_X8_factor
  unfold wsX8_factor
  refine wm_c ⟨(wk_X8_closes_X8_closes_r3 _ (wm_8 (wm_4 (wm_2 (wm_1 wm_h))))), ?_⟩
  refine wm_a ⟨?_, ?_⟩
  · refine wm_a ⟨?_, ?_⟩
    · unfold wsX8_factor_r1
      refine wm_c ⟨(wk_X8_closes_X8_closes_r1 _ wm_h), ?_⟩
      refine wm_c ⟨(wk_X8_closes_X8_closes_r1 _ (wm_8 (wm_2 wm_h))), ?_⟩
      refine wm_c ⟨(wk_X8_closes_X8_closes_r1 _ (wm_8 (wm_2 (wm_1 wm_h)))), ?_⟩
      refine wm_c ⟨(wk_X8_closes_X8_closes_r1 _ (wm_4 (wm_2 (wm_1 wm_h)))), ?_⟩
      refine wm_c ⟨(wk_X8_closes_X8_closes_r1 _ (wm_8 (wm_4 wm_h))), ?_⟩
      refine wm_c ⟨(wk_X8_closes_X8_closes_r2 _ (wm_8 wm_h)), ?_⟩
      refine wm_c ⟨(wk_X8_closes_X8_closes_r2 _ (wm_8 (wm_1 wm_h))), ?_⟩
      refine wm_c ⟨(wk_X8_closes_X8_closes_r2 _ (wm_8 (wm_2 wm_h))), ?_⟩
      refine wm_c ⟨(wk_X8_closes_X8_closes_r2 _ (wm_8 (wm_2 (wm_1 wm_h)))), ?_⟩
      refine wm_c ⟨(wk_X8_closes_X8_closes_r1 _ (wm_16 (wm_1 wm_h))), ?_⟩
      refine wm_c ⟨(wk_X8_closes_X8_closes_r2 _ (wm_8 (wm_4 wm_h))), ?_⟩
      refine wm_c ⟨(wk_X8_closes_X8_closes_r1 _ (wm_2 (wm_1 wm_h))), ?_⟩
      refine wm_c ⟨(wk_X8_closes_X8_closes_r1 _ (wm_16 (wm_2 wm_h))), ?_⟩
      refine wm_c ⟨(wk_X8_closes_X8_closes_r1 _ (wm_16 (wm_4 (wm_2 (wm_1 wm_h))))), ?_⟩
      refine wm_c ⟨(wk_X8_closes_X8_closes_r2 _ wm_h), ?_⟩
      refine wm_c ⟨(wk_X8_closes_X8_closes_r2 _ (wm_1 wm_h)), ?_⟩
      refine wm_c ⟨(wk_X8_closes_X8_closes_r2 _ (wm_2 wm_h)), ?_⟩
      refine wm_c ⟨(wk_X8_closes_X8_closes_r2 _ (wm_8 (wm_4 (wm_1 wm_h)))), ?_⟩
      refine wm_c ⟨(wk_X8_closes_X8_closes_r2 _ (wm_8 (wm_4 (wm_2 wm_h)))), ?_⟩
      refine wm_c ⟨(wk_X8_closes_X8_closes_r2 _ (wm_8 (wm_4 (wm_2 (wm_1 wm_h))))), ?_⟩
      refine wm_c ⟨(wk_X8_closes_X8_closes_r2 _ (wm_16 wm_h)), ?_⟩
      refine wm_c ⟨(wk_X8_closes_X8_closes_r2 _ (wm_16 (wm_1 wm_h))), ?_⟩
      refine wm_c ⟨(wk_X8_closes_X8_closes_r2 _ (wm_16 (wm_2 wm_h))), ?_⟩
      refine wm_c ⟨(wk_X8_closes_X8_closes_r2 _ (wm_16 (wm_2 (wm_1 wm_h)))), ?_⟩
      exact wm_n
    · unfold wsX8_factor_r2
      refine wm_c ⟨(wk_X8_closes_X8_closes_r2 _ (wm_16 (wm_4 wm_h))), ?_⟩
      refine wm_c ⟨(wk_X8_closes_X8_closes_r2 _ (wm_16 (wm_4 (wm_1 wm_h)))), ?_⟩
      refine wm_c ⟨(wk_X8_closes_X8_closes_r2 _ (wm_16 (wm_4 (wm_2 wm_h)))), ?_⟩
      refine wm_c ⟨(wk_X8_closes_X8_closes_r2 _ (wm_16 (wm_4 (wm_2 (wm_1 wm_h))))), ?_⟩
      refine wm_c ⟨(wk_X8_closes_X8_closes_r3 _ wm_h), ?_⟩
      refine wm_c ⟨(wk_X8_closes_X8_closes_r3 _ (wm_1 wm_h)), ?_⟩
      refine wm_c ⟨(wk_X8_closes_X8_closes_r3 _ (wm_2 wm_h)), ?_⟩
      exact wm_n
  · exact wk_X8_closes_X80
set_option maxRecDepth 20000 in
theorem gX8_closes_X8_factor : GoodIn wsX8_closes (wsV RX8 290 RX8 yX8_factor wsX8_factor) := by
  refine goodIn_app (goodIn_sub ?_ ?_) ggX8_closes_X8_factor
  · exact wm_c ⟨(wk_X8_closes_X8_closes_r3 _ (wm_8 (wm_4 wm_h))), wm_c ⟨(wk_X8_closes_X8_closes_r3 _ (wm_8 (wm_4 (wm_1 wm_h)))), wm_c ⟨(wk_X8_closes_X8_closes_r3 _ (wm_8 (wm_4 (wm_2 wm_h)))), wm_c ⟨(wk_X8_closes_X8_closes_r1 _ (wm_4 (wm_2 (wm_1 wm_h)))), wm_n⟩⟩⟩⟩
  · decide +kernel
theorem dX8_closes_0 : decode cX8_closes 0 = .ok (.aload_n 0, 1) := by decide +kernel
theorem dX8_closes_1 : decode cX8_closes 1 = .ok (.invokevirtual 283, 3) := by decide +kernel
theorem dX8_closes_4 : decode cX8_closes 4 = .ok (.aload_n 0, 1) := by decide +kernel
theorem dX8_closes_5 : decode cX8_closes 5 = .ok (.getfield 277, 3) := by decide +kernel
theorem dX8_closes_8 : decode cX8_closes 8 = .ok (.iconst 0, 1) := by decide +kernel
theorem dX8_closes_9 : decode cX8_closes 9 = .ok (.invokestatic 280, 3) := by decide +kernel
theorem dX8_closes_12 : decode cX8_closes 12 = .ok (.istore_n 2, 1) := by decide +kernel
theorem dX8_closes_13 : decode cX8_closes 13 = .ok (.aload_n 0, 1) := by decide +kernel
theorem dX8_closes_14 : decode cX8_closes 14 = .ok (.getfield 78, 3) := by decide +kernel
theorem dX8_closes_17 : decode cX8_closes 17 = .ok (.aload_n 0, 1) := by decide +kernel
theorem dX8_closes_18 : decode cX8_closes 18 = .ok (.getfield 277, 3) := by decide +kernel
theorem dX8_closes_21 : decode cX8_closes 21 = .ok (.iaload, 1) := by decide +kernel
theorem dX8_closes_22 : decode cX8_closes 22 = .ok (.istore_n 3, 1) := by decide +kernel
theorem dX8_closes_23 : decode cX8_closes 23 = .ok (.iload_n 1, 1) := by decide +kernel
theorem dX8_closes_24 : decode cX8_closes 24 = .ok (.bipush 93, 2) := by decide +kernel
theorem dX8_closes_26 : decode cX8_closes 26 = .ok (.if_icmp .ne 41, 3) := by decide +kernel
theorem dX8_closes_29 : decode cX8_closes 29 = .ok (.aload_n 0, 1) := by decide +kernel
theorem dX8_closes_30 : decode cX8_closes 30 = .ok (.aload_n 0, 1) := by decide +kernel
theorem dX8_closes_31 : decode cX8_closes 31 = .ok (.getfield 277, 3) := by decide +kernel
theorem dX8_closes_34 : decode cX8_closes 34 = .ok (.iconst 1, 1) := by decide +kernel
theorem dX8_closes_35 : decode cX8_closes 35 = .ok (.invokestatic 280, 3) := by decide +kernel
theorem dX8_closes_38 : decode cX8_closes 38 = .ok (.aload_n 0, 1) := by decide +kernel
theorem dX8_closes_39 : decode cX8_closes 39 = .ok (.getfield 277, 3) := by decide +kernel
theorem dX8_closes_42 : decode cX8_closes 42 = .ok (.iconst 2, 1) := by decide +kernel
theorem dX8_closes_43 : decode cX8_closes 43 = .ok (.invokestatic 280, 3) := by decide +kernel
theorem dX8_closes_46 : decode cX8_closes 46 = .ok (.iload_n 2, 1) := by decide +kernel
theorem dX8_closes_47 : decode cX8_closes 47 = .ok (.invokevirtual 186, 3) := by decide +kernel
theorem dX8_closes_50 : decode cX8_closes 50 = .ok (.aload_n 0, 1) := by decide +kernel
theorem dX8_closes_51 : decode cX8_closes 51 = .ok (.bipush 8, 2) := by decide +kernel
theorem dX8_closes_53 : decode cX8_closes 53 = .ok (.aload_n 0, 1) := by decide +kernel
theorem dX8_closes_54 : decode cX8_closes 54 = .ok (.getfield 277, 3) := by decide +kernel
theorem dX8_closes_57 : decode cX8_closes 57 = .ok (.iconst 1, 1) := by decide +kernel
theorem dX8_closes_58 : decode cX8_closes 58 = .ok (.invokestatic 280, 3) := by decide +kernel
theorem dX8_closes_61 : decode cX8_closes 61 = .ok (.invokevirtual 139, 3) := by decide +kernel
theorem dX8_closes_64 : decode cX8_closes 64 = .ok (.goto 104, 3) := by decide +kernel
theorem dX8_closes_67 : decode cX8_closes 67 = .ok (.iload_n 3, 1) := by decide +kernel
theorem dX8_closes_68 : decode cX8_closes 68 = .ok (.bipush 69, 2) := by decide +kernel
theorem dX8_closes_70 : decode cX8_closes 70 = .ok (.if_icmp .eq 9, 3) := by decide +kernel
theorem dX8_closes_73 : decode cX8_closes 73 = .ok (.iload_n 3, 1) := by decide +kernel
theorem dX8_closes_74 : decode cX8_closes 74 = .ok (.bipush 76, 2) := by decide +kernel
theorem dX8_closes_76 : decode cX8_closes 76 = .ok (.if_icmp .ne 85, 3) := by decide +kernel
theorem dX8_closes_79 : decode cX8_closes 79 = .ok (.aload_n 0, 1) := by decide +kernel
theorem dX8_closes_80 : decode cX8_closes 80 = .ok (.aload_n 0, 1) := by decide +kernel
theorem dX8_closes_81 : decode cX8_closes 81 = .ok (.getfield 286, 3) := by decide +kernel
theorem dX8_closes_84 : decode cX8_closes 84 = .ok (.ifCond .ne 28, 3) := by decide +kernel
theorem dX8_closes_87 : decode cX8_closes 87 = .ok (.aload_n 0, 1) := by decide +kernel
theorem dX8_closes_88 : decode cX8_closes 88 = .ok (.getfield 23, 3) := by decide +kernel
theorem dX8_closes_91 : decode cX8_closes 91 = .ok (.sipush 364, 3) := by decide +kernel
theorem dX8_closes_94 : decode cX8_closes 94 = .ok (.iload_n 2, 1) := by decide +kernel
theorem dX8_closes_95 : decode cX8_closes 95 = .ok (.imul, 1) := by decide +kernel
theorem dX8_closes_96 : decode cX8_closes 96 = .ok (.laload, 1) := by decide +kernel
theorem dX8_closes_97 : decode cX8_closes 97 = .ok (.iload_n 3, 1) := by decide +kernel
theorem dX8_closes_98 : decode cX8_closes 98 = .ok (.bipush 69, 2) := by decide +kernel
theorem dX8_closes_100 : decode cX8_closes 100 = .ok (.if_icmp .ne 7, 3) := by decide +kernel
theorem dX8_closes_103 : decode cX8_closes 103 = .ok (.lconst 0, 1) := by decide +kernel
theorem dX8_closes_104 : decode cX8_closes 104 = .ok (.goto 4, 3) := by decide +kernel
theorem dX8_closes_107 : decode cX8_closes 107 = .ok (.lconst 1, 1) := by decide +kernel
theorem dX8_closes_108 : decode cX8_closes 108 = .ok (.lcmp, 1) := by decide +kernel
theorem dX8_closes_109 : decode cX8_closes 109 = .ok (.ifCond .eq 7, 3) := by decide +kernel
theorem dX8_closes_112 : decode cX8_closes 112 = .ok (.iconst 1, 1) := by decide +kernel
theorem dX8_closes_113 : decode cX8_closes 113 = .ok (.goto 4, 3) := by decide +kernel
theorem dX8_closes_116 : decode cX8_closes 116 = .ok (.iconst 0, 1) := by decide +kernel
theorem dX8_closes_117 : decode cX8_closes 117 = .ok (.putfield 286, 3) := by decide +kernel
theorem dX8_closes_120 : decode cX8_closes 120 = .ok (.aload_n 0, 1) := by decide +kernel
theorem dX8_closes_121 : decode cX8_closes 121 = .ok (.aload_n 0, 1) := by decide +kernel
theorem dX8_closes_122 : decode cX8_closes 122 = .ok (.getfield 277, 3) := by decide +kernel
theorem dX8_closes_125 : decode cX8_closes 125 = .ok (.iconst 1, 1) := by decide +kernel
theorem dX8_closes_126 : decode cX8_closes 126 = .ok (.invokestatic 280, 3) := by decide +kernel
theorem dX8_closes_129 : decode cX8_closes 129 = .ok (.iload_n 2, 1) := by decide +kernel
theorem dX8_closes_130 : decode cX8_closes 130 = .ok (.iload_n 3, 1) := by decide +kernel
theorem dX8_closes_131 : decode cX8_closes 131 = .ok (.bipush 69, 2) := by decide +kernel
theorem dX8_closes_133 : decode cX8_closes 133 = .ok (.if_icmp .ne 7, 3) := by decide +kernel
theorem dX8_closes_136 : decode cX8_closes 136 = .ok (.iconst 0, 1) := by decide +kernel
theorem dX8_closes_137 : decode cX8_closes 137 = .ok (.goto 4, 3) := by decide +kernel
theorem dX8_closes_140 : decode cX8_closes 140 = .ok (.iconst 1, 1) := by decide +kernel
theorem dX8_closes_141 : decode cX8_closes 141 = .ok (.invokevirtual 189, 3) := by decide +kernel
theorem dX8_closes_144 : decode cX8_closes 144 = .ok (.aload_n 0, 1) := by decide +kernel
theorem dX8_closes_145 : decode cX8_closes 145 = .ok (.bipush 8, 2) := by decide +kernel
theorem dX8_closes_147 : decode cX8_closes 147 = .ok (.aload_n 0, 1) := by decide +kernel
theorem dX8_closes_148 : decode cX8_closes 148 = .ok (.getfield 277, 3) := by decide +kernel
theorem dX8_closes_151 : decode cX8_closes 151 = .ok (.iconst 1, 1) := by decide +kernel
theorem dX8_closes_152 : decode cX8_closes 152 = .ok (.invokestatic 280, 3) := by decide +kernel
theorem dX8_closes_155 : decode cX8_closes 155 = .ok (.invokevirtual 139, 3) := by decide +kernel
theorem dX8_closes_158 : decode cX8_closes 158 = .ok (.goto 10, 3) := by decide +kernel
theorem dX8_closes_161 : decode cX8_closes 161 = .ok (.aload_n 0, 1) := by decide +kernel
theorem dX8_closes_162 : decode cX8_closes 162 = .ok (.bipush 8, 2) := by decide +kernel
theorem dX8_closes_164 : decode cX8_closes 164 = .ok (.iload_n 2, 1) := by decide +kernel
theorem dX8_closes_165 : decode cX8_closes 165 = .ok (.invokevirtual 139, 3) := by decide +kernel
theorem dX8_closes_168 : decode cX8_closes 168 = .ok (.aload_n 0, 1) := by decide +kernel
theorem dX8_closes_169 : decode cX8_closes 169 = .ok (.dup, 1) := by decide +kernel
theorem dX8_closes_170 : decode cX8_closes 170 = .ok (.getfield 277, 3) := by decide +kernel
theorem dX8_closes_173 : decode cX8_closes 173 = .ok (.iconst 1, 1) := by decide +kernel
theorem dX8_closes_174 : decode cX8_closes 174 = .ok (.isub, 1) := by decide +kernel
theorem dX8_closes_175 : decode cX8_closes 175 = .ok (.putfield 277, 3) := by decide +kernel
theorem dX8_closes_178 : decode cX8_closes 178 = .ok (.aload_n 0, 1) := by decide +kernel
theorem dX8_closes_179 : decode cX8_closes 179 = .ok (.invokevirtual 290, 3) := by decide +kernel
theorem dX8_closes_182 : decode cX8_closes 182 = .ok (.return_, 1) := by decide +kernel
set_option maxRecDepth 20000 in
theorem ggX8_number_X8_byteAt : GoodIn wsX8_number wsX8_byteAt := by
  refine goodIn_sub ?_ gd_X8_byteAt
  unfold wsX8_byteAt
  refine wm_c ⟨(wm_1 (wm_l (wm_4 wm_h))), ?_⟩
  refine wm_a ⟨?_, ?_⟩
  · refine wm_c ⟨(wm_1 (wm_l (wm_4 (wm_1 wm_h)))), ?_⟩
    refine wm_c ⟨(wm_1 (wm_l (wm_4 (wm_2 wm_h)))), ?_⟩
    exact wm_n
  · exact wk_X8_number_X80
set_option maxRecDepth 20000 in
theorem gX8_number_X8_byteAt : GoodIn wsX8_number (wsV RX8 264 RX8 yX8_byteAt wsX8_byteAt) := by
  refine goodIn_app (goodIn_sub ?_ ?_) ggX8_number_X8_byteAt
  · exact wm_c ⟨(wm_1 (wm_l wm_h)), wm_c ⟨(wm_1 (wm_l (wm_1 wm_h))), wm_c ⟨(wm_1 (wm_l (wm_2 wm_h))), wm_c ⟨(wm_1 (wm_l (wm_2 (wm_1 wm_h)))), wm_n⟩⟩⟩⟩
  · decide +kernel
theorem dX8_number_0 : decode cX8_number 0 = .ok (.iconst 0, 1) := by decide +kernel
theorem dX8_number_1 : decode cX8_number 1 = .ok (.istore_n 3, 1) := by decide +kernel
theorem dX8_number_2 : decode cX8_number 2 = .ok (.iconst 0, 1) := by decide +kernel
theorem dX8_number_3 : decode cX8_number 3 = .ok (.istore 4, 2) := by decide +kernel
theorem dX8_number_5 : decode cX8_number 5 = .ok (.iload 4, 2) := by decide +kernel
theorem dX8_number_7 : decode cX8_number 7 = .ok (.iload_n 2, 1) := by decide +kernel
theorem dX8_number_8 : decode cX8_number 8 = .ok (.if_icmp .ge 26, 3) := by decide +kernel
theorem dX8_number_11 : decode cX8_number 11 = .ok (.bipush 10, 2) := by decide +kernel
theorem dX8_number_13 : decode cX8_number 13 = .ok (.iload_n 3, 1) := by decide +kernel
theorem dX8_number_14 : decode cX8_number 14 = .ok (.imul, 1) := by decide +kernel
theorem dX8_number_15 : decode cX8_number 15 = .ok (.aload_n 0, 1) := by decide +kernel
theorem dX8_number_16 : decode cX8_number 16 = .ok (.iload_n 1, 1) := by decide +kernel
theorem dX8_number_17 : decode cX8_number 17 = .ok (.iload 4, 2) := by decide +kernel
theorem dX8_number_19 : decode cX8_number 19 = .ok (.iadd, 1) := by decide +kernel
theorem dX8_number_20 : decode cX8_number 20 = .ok (.invokevirtual 264, 3) := by decide +kernel
theorem dX8_number_23 : decode cX8_number 23 = .ok (.iadd, 1) := by decide +kernel
theorem dX8_number_24 : decode cX8_number 24 = .ok (.bipush 48, 2) := by decide +kernel
theorem dX8_number_26 : decode cX8_number 26 = .ok (.isub, 1) := by decide +kernel
theorem dX8_number_27 : decode cX8_number 27 = .ok (.istore_n 3, 1) := by decide +kernel
theorem dX8_number_28 : decode cX8_number 28 = .ok (.iinc 4 1, 3) := by decide +kernel
theorem dX8_number_31 : decode cX8_number 31 = .ok (.goto (-26), 3) := by decide +kernel
theorem dX8_number_34 : decode cX8_number 34 = .ok (.iload_n 3, 1) := by decide +kernel
theorem dX8_number_35 : decode cX8_number 35 = .ok (.ireturn, 1) := by decide +kernel
set_option maxRecDepth 20000 in
theorem ggX8_works_X8_opensFrame : GoodIn wsX8_works wsX8_opensFrame := by
  refine goodIn_sub ?_ gd_X8_opensFrame
  unfold wsX8_opensFrame
  refine wm_c ⟨(wk_X8_works_X8_works_r1 _ (wm_8 (wm_2 (wm_1 wm_h)))), ?_⟩
  refine wm_a ⟨?_, ?_⟩
  · refine wm_c ⟨(wk_X8_works_X8_works_r1 _ wm_h), ?_⟩
    refine wm_c ⟨(wk_X8_works_X8_works_r1 _ (wm_8 (wm_4 wm_h))), ?_⟩
    refine wm_c ⟨(wk_X8_works_X8_works_r1 _ (wm_4 wm_h)), ?_⟩
    refine wm_c ⟨(wk_X8_works_X8_works_r1 _ (wm_8 (wm_4 (wm_1 wm_h)))), ?_⟩
    refine wm_c ⟨(wk_X8_works_X8_works_r1 _ (wm_8 (wm_4 (wm_2 wm_h)))), ?_⟩
    refine wm_c ⟨(wk_X8_works_X8_works_r1 _ (wm_8 (wm_2 wm_h))), ?_⟩
    refine wm_c ⟨(wk_X8_works_X8_works_r1 _ (wm_8 (wm_4 (wm_2 (wm_1 wm_h))))), ?_⟩
    refine wm_c ⟨(wk_X8_works_X8_works_r1 _ (wm_16 wm_h)), ?_⟩
    refine wm_c ⟨(wk_X8_works_X8_works_r1 _ (wm_16 (wm_1 wm_h))), ?_⟩
    refine wm_c ⟨(wk_X8_works_X8_works_r1 _ (wm_16 (wm_2 wm_h))), ?_⟩
    refine wm_c ⟨(wk_X8_works_X8_works_r1 _ (wm_16 (wm_2 (wm_1 wm_h)))), ?_⟩
    refine wm_c ⟨(wk_X8_works_X8_works_r1 _ (wm_16 (wm_4 wm_h))), ?_⟩
    refine wm_c ⟨(wk_X8_works_X8_works_r1 _ (wm_2 (wm_1 wm_h))), ?_⟩
    refine wm_c ⟨(wk_X8_works_X8_works_r1 _ (wm_16 (wm_4 (wm_1 wm_h)))), ?_⟩
    refine wm_c ⟨(wk_X8_works_X8_works_r1 _ (wm_16 (wm_4 (wm_2 wm_h)))), ?_⟩
    refine wm_c ⟨(wk_X8_works_X8_works_r1 _ (wm_16 (wm_4 (wm_2 (wm_1 wm_h))))), ?_⟩
    refine wm_c ⟨(wk_X8_works_X8_works_r2 _ wm_h), ?_⟩
    exact wm_n
  · exact wk_X8_works_X80
set_option maxRecDepth 20000 in
theorem gX8_works_X8_opensFrame : GoodIn wsX8_works (wsV RX8 293 RX8 yX8_opensFrame wsX8_opensFrame) := by
  refine goodIn_app (goodIn_sub ?_ ?_) ggX8_works_X8_opensFrame
  · exact wm_c ⟨(wk_X8_works_X8_works_r1 _ (wm_4 (wm_2 (wm_1 wm_h)))), wm_c ⟨(wk_X8_works_X8_works_r1 _ (wm_8 wm_h)), wm_c ⟨(wk_X8_works_X8_works_r1 _ (wm_8 (wm_1 wm_h))), wm_c ⟨(wk_X8_works_X8_works_r1 _ (wm_8 (wm_2 wm_h))), wm_n⟩⟩⟩⟩
  · decide +kernel
set_option maxRecDepth 20000 in
theorem ggX8_works_X8_byteAt : GoodIn wsX8_works wsX8_byteAt := by
  refine goodIn_sub ?_ gd_X8_byteAt
  unfold wsX8_byteAt
  refine wm_c ⟨(wk_X8_works_X8_works_r2 _ (wm_4 wm_h)), ?_⟩
  refine wm_a ⟨?_, ?_⟩
  · refine wm_c ⟨(wk_X8_works_X8_works_r1 _ (wm_2 wm_h)), ?_⟩
    refine wm_c ⟨(wk_X8_works_X8_works_r2 _ (wm_4 (wm_1 wm_h))), ?_⟩
    exact wm_n
  · exact wk_X8_works_X80
set_option maxRecDepth 20000 in
theorem gX8_works_X8_byteAt : GoodIn wsX8_works (wsV RX8 264 RX8 yX8_byteAt wsX8_byteAt) := by
  refine goodIn_app (goodIn_sub ?_ ?_) ggX8_works_X8_byteAt
  · exact wm_c ⟨(wk_X8_works_X8_works_r2 _ (wm_1 wm_h)), wm_c ⟨(wk_X8_works_X8_works_r2 _ (wm_2 wm_h)), wm_c ⟨(wk_X8_works_X8_works_r2 _ (wm_2 (wm_1 wm_h))), wm_c ⟨(wk_X8_works_X8_works_r1 _ (wm_8 (wm_2 wm_h))), wm_n⟩⟩⟩⟩
  · decide +kernel
set_option maxRecDepth 20000 in
theorem ggX8_works_X8_isDigit : GoodIn wsX8_works wsX8_isDigit := by
  refine goodIn_sub ?_ gd_X8_isDigit
  unfold wsX8_isDigit
  refine wm_c ⟨(wk_X8_works_X8_works_r2 _ (wm_8 wm_h)), ?_⟩
  refine wm_c ⟨(wk_X8_works_X8_works_r2 _ (wm_8 (wm_1 wm_h))), ?_⟩
  refine wm_c ⟨(wk_X8_works_X8_works_r2 _ (wm_8 (wm_2 wm_h))), ?_⟩
  refine wm_c ⟨(wk_X8_works_X8_works_r2 _ (wm_8 (wm_2 (wm_1 wm_h)))), ?_⟩
  refine wm_c ⟨(wk_X8_works_X8_works_r2 _ (wm_8 (wm_4 wm_h))), ?_⟩
  refine wm_c ⟨(wk_X8_works_X8_works_r1 _ (wm_8 (wm_2 wm_h))), ?_⟩
  refine wm_c ⟨(wk_X8_works_X8_works_r2 _ (wm_8 (wm_4 (wm_1 wm_h)))), ?_⟩
  exact wm_n
set_option maxRecDepth 20000 in
theorem gX8_works_X8_isDigit : GoodIn wsX8_works (va_wsS RX8 259 yX8_isDigit wsX8_isDigit) := goodIn_app (goodIn_of _ (by decide +kernel)) ggX8_works_X8_isDigit
set_option maxRecDepth 20000 in
theorem ggX8_works_X8_digitsFrom : GoodIn wsX8_works wsX8_digitsFrom := by
  refine goodIn_sub ?_ gd_X8_digitsFrom
  unfold wsX8_digitsFrom
  refine wm_c ⟨(wk_X8_works_X8_works_r2 _ (wm_16 (wm_1 wm_h))), ?_⟩
  refine wm_a ⟨?_, ?_⟩
  · refine wm_c ⟨(wk_X8_works_X8_works_r2 _ (wm_1 wm_h)), ?_⟩
    refine wm_c ⟨(wk_X8_works_X8_works_r2 _ (wm_2 wm_h)), ?_⟩
    refine wm_c ⟨(wk_X8_works_X8_works_r2 _ (wm_2 (wm_1 wm_h))), ?_⟩
    refine wm_c ⟨(wk_X8_works_X8_works_r1 _ (wm_8 (wm_2 wm_h))), ?_⟩
    refine wm_c ⟨(wk_X8_works_X8_works_r2 _ (wm_4 wm_h)), ?_⟩
    refine wm_c ⟨(wk_X8_works_X8_works_r1 _ (wm_2 wm_h)), ?_⟩
    refine wm_c ⟨(wk_X8_works_X8_works_r2 _ (wm_4 (wm_1 wm_h))), ?_⟩
    refine wm_c ⟨(wk_X8_works_X8_works_r2 _ (wm_4 (wm_2 wm_h))), ?_⟩
    refine wm_c ⟨(wk_X8_works_X8_works_r2 _ (wm_4 (wm_2 (wm_1 wm_h)))), ?_⟩
    refine wm_c ⟨(wk_X8_works_X8_works_r2 _ (wm_8 wm_h)), ?_⟩
    refine wm_c ⟨(wk_X8_works_X8_works_r2 _ (wm_8 (wm_1 wm_h))), ?_⟩
    refine wm_c ⟨(wk_X8_works_X8_works_r2 _ (wm_8 (wm_2 wm_h))), ?_⟩
    refine wm_c ⟨(wk_X8_works_X8_works_r2 _ (wm_8 (wm_2 (wm_1 wm_h)))), ?_⟩
    refine wm_c ⟨(wk_X8_works_X8_works_r2 _ (wm_8 (wm_4 wm_h))), ?_⟩
    refine wm_c ⟨(wk_X8_works_X8_works_r2 _ (wm_8 (wm_4 (wm_1 wm_h)))), ?_⟩
    exact wm_n
  · exact wk_X8_works_X80
set_option maxRecDepth 20000 in
theorem gX8_works_X8_digitsFrom : GoodIn wsX8_works (wsV RX8 274 RX8 yX8_digitsFrom wsX8_digitsFrom) := by
  refine goodIn_app (goodIn_sub ?_ ?_) ggX8_works_X8_digitsFrom
  · exact wm_c ⟨(wk_X8_works_X8_works_r2 _ (wm_8 (wm_4 (wm_2 wm_h)))), wm_c ⟨(wk_X8_works_X8_works_r2 _ (wm_8 (wm_4 (wm_2 (wm_1 wm_h))))), wm_c ⟨(wk_X8_works_X8_works_r2 _ (wm_16 wm_h)), wm_c ⟨(wk_X8_works_X8_works_r1 _ (wm_8 (wm_2 wm_h))), wm_n⟩⟩⟩⟩
  · decide +kernel
set_option maxRecDepth 20000 in
theorem ggX8_works_X8_clears : GoodIn wsX8_works wsX8_clears := by
  refine goodIn_sub ?_ gd_X8_clears
  unfold wsX8_clears
  refine wm_c ⟨(wk_X8_works_X8_works_r1 _ (wm_16 (wm_2 (wm_1 wm_h)))), ?_⟩
  refine wm_a ⟨?_, ?_⟩
  · refine wm_c ⟨(wk_X8_works_X8_works_r1 _ (wm_16 (wm_4 wm_h))), ?_⟩
    refine wm_c ⟨(wk_X8_works_X8_works_r1 _ (wm_2 (wm_1 wm_h))), ?_⟩
    exact wm_n
  · exact wk_X8_works_X80
set_option maxRecDepth 20000 in
theorem gX8_works_X8_clears : GoodIn wsX8_works (wsV RX8 136 RX8 yX8_clears wsX8_clears) := by
  refine goodIn_app (goodIn_sub ?_ ?_) ggX8_works_X8_clears
  · exact wm_c ⟨(wk_X8_works_X8_works_r1 _ (wm_16 wm_h)), wm_c ⟨(wk_X8_works_X8_works_r1 _ (wm_16 (wm_1 wm_h))), wm_c ⟨(wk_X8_works_X8_works_r1 _ (wm_16 (wm_2 wm_h))), wm_c ⟨(wk_X8_works_X8_works_r1 _ (wm_8 (wm_2 wm_h))), wm_n⟩⟩⟩⟩
  · decide +kernel
set_option maxRecDepth 20000 in
theorem ggX8_works_X8_number : GoodIn wsX8_works wsX8_number := by
  refine goodIn_sub ?_ gd_X8_number
  unfold wsX8_number
  refine wm_c ⟨(wk_X8_works_X8_works_r2 _ (wm_16 (wm_4 (wm_1 wm_h)))), ?_⟩
  refine wm_a ⟨?_, ?_⟩
  · refine wm_c ⟨(wk_X8_works_X8_works_r2 _ (wm_1 wm_h)), ?_⟩
    refine wm_c ⟨(wk_X8_works_X8_works_r2 _ (wm_2 wm_h)), ?_⟩
    refine wm_c ⟨(wk_X8_works_X8_works_r2 _ (wm_2 (wm_1 wm_h))), ?_⟩
    refine wm_c ⟨(wk_X8_works_X8_works_r1 _ (wm_8 (wm_2 wm_h))), ?_⟩
    refine wm_c ⟨(wk_X8_works_X8_works_r2 _ (wm_4 wm_h)), ?_⟩
    refine wm_c ⟨(wk_X8_works_X8_works_r1 _ (wm_2 wm_h)), ?_⟩
    refine wm_c ⟨(wk_X8_works_X8_works_r2 _ (wm_4 (wm_1 wm_h))), ?_⟩
    exact wm_n
  · exact wk_X8_works_X80
set_option maxRecDepth 20000 in
theorem gX8_works_X8_number : GoodIn wsX8_works (wsV RX8 296 RX8 yX8_number wsX8_number) := by
  refine goodIn_app (goodIn_sub ?_ ?_) ggX8_works_X8_number
  · exact wm_c ⟨(wk_X8_works_X8_works_r2 _ (wm_16 (wm_2 wm_h))), wm_c ⟨(wk_X8_works_X8_works_r2 _ (wm_16 (wm_2 (wm_1 wm_h)))), wm_c ⟨(wk_X8_works_X8_works_r2 _ (wm_16 (wm_4 wm_h))), wm_c ⟨(wk_X8_works_X8_works_r1 _ (wm_8 (wm_2 wm_h))), wm_n⟩⟩⟩⟩
  · decide +kernel
set_option maxRecDepth 20000 in
theorem ggX8_works_X8_factor : GoodIn wsX8_works wsX8_factor := by
  refine goodIn_sub ?_ gd_X8_factor
  unfold wsX8_factor
  refine wm_c ⟨(wk_X8_works_X8_works_r3 _ (wm_1 wm_h)), ?_⟩
  refine wm_a ⟨?_, ?_⟩
  · refine wm_a ⟨?_, ?_⟩
    · unfold wsX8_factor_r1
      refine wm_c ⟨(wk_X8_works_X8_works_r1 _ wm_h), ?_⟩
      refine wm_c ⟨(wk_X8_works_X8_works_r1 _ (wm_8 (wm_4 (wm_1 wm_h)))), ?_⟩
      refine wm_c ⟨(wk_X8_works_X8_works_r1 _ (wm_8 (wm_4 (wm_2 wm_h)))), ?_⟩
      refine wm_c ⟨(wk_X8_works_X8_works_r1 _ (wm_8 (wm_2 wm_h))), ?_⟩
      refine wm_c ⟨(wk_X8_works_X8_works_r1 _ (wm_8 (wm_4 (wm_2 (wm_1 wm_h))))), ?_⟩
      refine wm_c ⟨(wk_X8_works_X8_works_r3 _ (wm_2 wm_h)), ?_⟩
      refine wm_c ⟨(wk_X8_works_X8_works_r3 _ (wm_2 (wm_1 wm_h))), ?_⟩
      refine wm_c ⟨(wk_X8_works_X8_works_r3 _ (wm_4 wm_h)), ?_⟩
      refine wm_c ⟨(wk_X8_works_X8_works_r3 _ (wm_4 (wm_1 wm_h))), ?_⟩
      refine wm_c ⟨(wk_X8_works_X8_works_r1 _ (wm_16 (wm_4 wm_h))), ?_⟩
      refine wm_c ⟨(wk_X8_works_X8_works_r3 _ (wm_4 (wm_2 wm_h))), ?_⟩
      refine wm_c ⟨(wk_X8_works_X8_works_r1 _ (wm_2 (wm_1 wm_h))), ?_⟩
      refine wm_c ⟨(wk_X8_works_X8_works_r3 _ (wm_4 (wm_2 (wm_1 wm_h)))), ?_⟩
      refine wm_c ⟨(wk_X8_works_X8_works_r1 _ (wm_16 wm_h)), ?_⟩
      refine wm_c ⟨(wk_X8_works_X8_works_r1 _ (wm_16 (wm_1 wm_h))), ?_⟩
      refine wm_c ⟨(wk_X8_works_X8_works_r1 _ (wm_16 (wm_2 wm_h))), ?_⟩
      refine wm_c ⟨(wk_X8_works_X8_works_r1 _ (wm_16 (wm_2 (wm_1 wm_h)))), ?_⟩
      refine wm_c ⟨(wk_X8_works_X8_works_r3 _ (wm_8 wm_h)), ?_⟩
      refine wm_c ⟨(wk_X8_works_X8_works_r3 _ (wm_8 (wm_1 wm_h))), ?_⟩
      refine wm_c ⟨(wk_X8_works_X8_works_r3 _ (wm_8 (wm_2 wm_h))), ?_⟩
      refine wm_c ⟨(wk_X8_works_X8_works_r3 _ (wm_8 (wm_2 (wm_1 wm_h)))), ?_⟩
      refine wm_c ⟨(wk_X8_works_X8_works_r1 _ (wm_4 (wm_2 wm_h))), ?_⟩
      refine wm_c ⟨(wk_X8_works_X8_works_r3 _ (wm_8 (wm_4 wm_h))), ?_⟩
      refine wm_c ⟨(wk_X8_works_X8_works_r3 _ (wm_8 (wm_4 (wm_1 wm_h)))), ?_⟩
      exact wm_n
    · unfold wsX8_factor_r2
      refine wm_c ⟨(wk_X8_works_X8_works_r3 _ (wm_8 (wm_4 (wm_2 wm_h)))), ?_⟩
      refine wm_c ⟨(wk_X8_works_X8_works_r3 _ (wm_8 (wm_4 (wm_2 (wm_1 wm_h))))), ?_⟩
      refine wm_c ⟨(wk_X8_works_X8_works_r3 _ (wm_16 wm_h)), ?_⟩
      refine wm_c ⟨(wk_X8_works_X8_works_r3 _ (wm_16 (wm_1 wm_h))), ?_⟩
      refine wm_c ⟨(wk_X8_works_X8_works_r3 _ (wm_16 (wm_2 wm_h))), ?_⟩
      refine wm_c ⟨(wk_X8_works_X8_works_r3 _ (wm_16 (wm_2 (wm_1 wm_h)))), ?_⟩
      refine wm_c ⟨(wk_X8_works_X8_works_r3 _ (wm_16 (wm_4 wm_h))), ?_⟩
      exact wm_n
  · exact wk_X8_works_X80
set_option maxRecDepth 20000 in
theorem gX8_works_X8_factor : GoodIn wsX8_works (wsV RX8 290 RX8 yX8_factor wsX8_factor) := by
  refine goodIn_app (goodIn_sub ?_ ?_) ggX8_works_X8_factor
  · exact wm_c ⟨(wk_X8_works_X8_works_r2 _ (wm_16 (wm_4 (wm_2 wm_h)))), wm_c ⟨(wk_X8_works_X8_works_r2 _ (wm_16 (wm_4 (wm_2 (wm_1 wm_h))))), wm_c ⟨(wk_X8_works_X8_works_r3 _ wm_h), wm_c ⟨(wk_X8_works_X8_works_r1 _ (wm_8 (wm_2 wm_h))), wm_n⟩⟩⟩⟩
  · decide +kernel
set_option maxRecDepth 20000 in
theorem ggX8_works_X8_copies : GoodIn wsX8_works wsX8_copies := by
  refine goodIn_sub ?_ gd_X8_copies
  unfold wsX8_copies
  refine wm_c ⟨(wk_X8_works_X8_works_r3 _ (wm_16 (wm_4 wm_h))), ?_⟩
  refine wm_a ⟨?_, ?_⟩
  · refine wm_c ⟨(wk_X8_works_X8_works_r1 _ (wm_16 (wm_4 wm_h))), ?_⟩
    refine wm_c ⟨(wk_X8_works_X8_works_r1 _ (wm_2 (wm_1 wm_h))), ?_⟩
    exact wm_n
  · exact wk_X8_works_X80
set_option maxRecDepth 20000 in
theorem gX8_works_X8_copies : GoodIn wsX8_works (wsV RX8 139 RX8 yX8_copies wsX8_copies) := by
  refine goodIn_app (goodIn_sub ?_ ?_) ggX8_works_X8_copies
  · exact wm_c ⟨(wk_X8_works_X8_works_r3 _ (wm_16 (wm_1 wm_h))), wm_c ⟨(wk_X8_works_X8_works_r3 _ (wm_16 (wm_2 wm_h))), wm_c ⟨(wk_X8_works_X8_works_r3 _ (wm_16 (wm_2 (wm_1 wm_h)))), wm_c ⟨(wk_X8_works_X8_works_r1 _ (wm_8 (wm_2 wm_h))), wm_n⟩⟩⟩⟩
  · decide +kernel
set_option maxRecDepth 20000 in
theorem ggX8_works_X8_inverted : GoodIn wsX8_works wsX8_inverted := by
  refine goodIn_sub ?_ gd_X8_inverted
  unfold wsX8_inverted
  refine wm_c ⟨(wk_X8_works_X8_works_r3 _ (wm_16 (wm_4 (wm_2 (wm_1 wm_h))))), ?_⟩
  refine wm_c ⟨(wk_X8_works_X8_works_r4 _ wm_h), ?_⟩
  refine wm_c ⟨(wk_X8_works_X8_works_r3 _ (wm_4 (wm_2 (wm_1 wm_h)))), ?_⟩
  exact wm_n
set_option maxRecDepth 20000 in
theorem gX8_works_X8_inverted : GoodIn wsX8_works (va_wsS RX8 150 yX8_inverted wsX8_inverted) := goodIn_app (goodIn_of _ (by decide +kernel)) ggX8_works_X8_inverted
set_option maxRecDepth 20000 in
theorem ggX8_works_X8_closesTerm : GoodIn wsX8_works wsX8_closesTerm := by
  refine goodIn_sub ?_ gd_X8_closesTerm
  unfold wsX8_closesTerm
  refine wm_c ⟨(wk_X8_works_X8_works_r4 _ (wm_4 wm_h)), ?_⟩
  refine wm_a ⟨?_, ?_⟩
  · refine wm_c ⟨(wk_X8_works_X8_works_r1 _ wm_h), ?_⟩
    refine wm_c ⟨(wk_X8_works_X8_works_r1 _ (wm_4 wm_h)), ?_⟩
    refine wm_c ⟨(wk_X8_works_X8_works_r1 _ (wm_8 (wm_4 (wm_1 wm_h)))), ?_⟩
    refine wm_c ⟨(wk_X8_works_X8_works_r1 _ (wm_8 (wm_4 (wm_2 wm_h)))), ?_⟩
    refine wm_c ⟨(wk_X8_works_X8_works_r1 _ (wm_8 (wm_2 wm_h))), ?_⟩
    refine wm_c ⟨(wk_X8_works_X8_works_r1 _ (wm_8 (wm_4 (wm_2 (wm_1 wm_h))))), ?_⟩
    refine wm_c ⟨(wk_X8_works_X8_works_r4 _ (wm_4 (wm_1 wm_h))), ?_⟩
    refine wm_c ⟨(wk_X8_works_X8_works_r4 _ (wm_4 (wm_2 wm_h))), ?_⟩
    refine wm_c ⟨(wk_X8_works_X8_works_r4 _ (wm_4 (wm_2 (wm_1 wm_h)))), ?_⟩
    refine wm_c ⟨(wk_X8_works_X8_works_r4 _ (wm_8 wm_h)), ?_⟩
    refine wm_c ⟨(wk_X8_works_X8_works_r1 _ (wm_16 (wm_4 wm_h))), ?_⟩
    refine wm_c ⟨(wk_X8_works_X8_works_r1 _ (wm_2 (wm_1 wm_h))), ?_⟩
    refine wm_c ⟨(wk_X8_works_X8_works_r3 _ (wm_4 (wm_2 (wm_1 wm_h)))), ?_⟩
    refine wm_c ⟨(wk_X8_works_X8_works_r1 _ (wm_16 (wm_4 (wm_1 wm_h)))), ?_⟩
    refine wm_c ⟨(wk_X8_works_X8_works_r1 _ (wm_16 (wm_4 (wm_2 wm_h)))), ?_⟩
    refine wm_c ⟨(wk_X8_works_X8_works_r1 _ (wm_16 (wm_4 (wm_2 (wm_1 wm_h))))), ?_⟩
    refine wm_c ⟨(wk_X8_works_X8_works_r2 _ wm_h), ?_⟩
    refine wm_c ⟨(wk_X8_works_X8_works_r1 _ (wm_16 wm_h)), ?_⟩
    refine wm_c ⟨(wk_X8_works_X8_works_r1 _ (wm_16 (wm_1 wm_h))), ?_⟩
    refine wm_c ⟨(wk_X8_works_X8_works_r1 _ (wm_16 (wm_2 wm_h))), ?_⟩
    refine wm_c ⟨(wk_X8_works_X8_works_r1 _ (wm_16 (wm_2 (wm_1 wm_h)))), ?_⟩
    exact wm_n
  · exact wk_X8_works_X80
set_option maxRecDepth 20000 in
theorem gX8_works_X8_closesTerm : GoodIn wsX8_works (wsV RX8 283 RX8 yX8_closesTerm wsX8_closesTerm) := by
  refine goodIn_app (goodIn_sub ?_ ?_) ggX8_works_X8_closesTerm
  · exact wm_c ⟨(wk_X8_works_X8_works_r4 _ (wm_1 wm_h)), wm_c ⟨(wk_X8_works_X8_works_r4 _ (wm_2 wm_h)), wm_c ⟨(wk_X8_works_X8_works_r4 _ (wm_2 (wm_1 wm_h))), wm_c ⟨(wk_X8_works_X8_works_r1 _ (wm_8 (wm_2 wm_h))), wm_n⟩⟩⟩⟩
  · decide +kernel
set_option maxRecDepth 20000 in
theorem ggX8_works_X8_slot : GoodIn wsX8_works wsX8_slot := by
  refine goodIn_sub ?_ gd_X8_slot
  unfold wsX8_slot
  refine wm_c ⟨(wk_X8_works_X8_works_r1 _ (wm_8 (wm_4 (wm_2 (wm_1 wm_h))))), ?_⟩
  exact wm_n
set_option maxRecDepth 20000 in
theorem gX8_works_X8_slot : GoodIn wsX8_works (va_wsS RX8 280 yX8_slot wsX8_slot) := goodIn_app (goodIn_of _ (by decide +kernel)) ggX8_works_X8_slot
set_option maxRecDepth 20000 in
theorem ggX8_works_X8_closes : GoodIn wsX8_works wsX8_closes := by
  refine goodIn_sub ?_ gd_X8_closes
  unfold wsX8_closes
  refine wm_c ⟨(wk_X8_works_X8_works_r4 _ (wm_8 (wm_4 wm_h))), ?_⟩
  refine wm_a ⟨?_, ?_⟩
  · refine wm_a ⟨?_, ?_⟩
    · unfold wsX8_closes_r1
      refine wm_c ⟨(wk_X8_works_X8_works_r1 _ wm_h), ?_⟩
      refine wm_c ⟨(wk_X8_works_X8_works_r1 _ (wm_8 (wm_4 wm_h))), ?_⟩
      refine wm_c ⟨(wk_X8_works_X8_works_r1 _ (wm_1 wm_h)), ?_⟩
      refine wm_c ⟨(wk_X8_works_X8_works_r1 _ (wm_2 (wm_1 wm_h))), ?_⟩
      refine wm_c ⟨(wk_X8_works_X8_works_r4 _ (wm_1 wm_h)), ?_⟩
      refine wm_c ⟨(wk_X8_works_X8_works_r4 _ (wm_2 wm_h)), ?_⟩
      refine wm_c ⟨(wk_X8_works_X8_works_r4 _ (wm_2 (wm_1 wm_h))), ?_⟩
      refine wm_c ⟨(wk_X8_works_X8_works_r1 _ (wm_8 (wm_2 wm_h))), ?_⟩
      refine wm_c ⟨(wk_X8_works_X8_works_r4 _ (wm_4 wm_h)), ?_⟩
      refine wm_c ⟨(wk_X8_works_X8_works_r1 _ (wm_4 wm_h)), ?_⟩
      refine wm_c ⟨(wk_X8_works_X8_works_r1 _ (wm_8 (wm_4 (wm_1 wm_h)))), ?_⟩
      refine wm_c ⟨(wk_X8_works_X8_works_r1 _ (wm_8 (wm_4 (wm_2 wm_h)))), ?_⟩
      refine wm_c ⟨(wk_X8_works_X8_works_r1 _ (wm_8 (wm_4 (wm_2 (wm_1 wm_h))))), ?_⟩
      refine wm_c ⟨(wk_X8_works_X8_works_r4 _ (wm_4 (wm_1 wm_h))), ?_⟩
      refine wm_c ⟨(wk_X8_works_X8_works_r4 _ (wm_4 (wm_2 wm_h))), ?_⟩
      refine wm_c ⟨(wk_X8_works_X8_works_r4 _ (wm_4 (wm_2 (wm_1 wm_h)))), ?_⟩
      refine wm_c ⟨(wk_X8_works_X8_works_r4 _ (wm_8 wm_h)), ?_⟩
      refine wm_c ⟨(wk_X8_works_X8_works_r1 _ (wm_16 (wm_4 wm_h))), ?_⟩
      refine wm_c ⟨(wk_X8_works_X8_works_r3 _ (wm_4 (wm_2 (wm_1 wm_h)))), ?_⟩
      refine wm_c ⟨(wk_X8_works_X8_works_r1 _ (wm_16 (wm_4 (wm_1 wm_h)))), ?_⟩
      refine wm_c ⟨(wk_X8_works_X8_works_r1 _ (wm_16 (wm_4 (wm_2 wm_h)))), ?_⟩
      refine wm_c ⟨(wk_X8_works_X8_works_r1 _ (wm_16 (wm_4 (wm_2 (wm_1 wm_h))))), ?_⟩
      refine wm_c ⟨(wk_X8_works_X8_works_r2 _ wm_h), ?_⟩
      refine wm_c ⟨(wk_X8_works_X8_works_r1 _ (wm_16 wm_h)), ?_⟩
      exact wm_n
    · refine wm_a ⟨?_, ?_⟩
      · unfold wsX8_closes_r2
        refine wm_c ⟨(wk_X8_works_X8_works_r1 _ (wm_16 (wm_1 wm_h))), ?_⟩
        refine wm_c ⟨(wk_X8_works_X8_works_r1 _ (wm_16 (wm_2 wm_h))), ?_⟩
        refine wm_c ⟨(wk_X8_works_X8_works_r1 _ (wm_16 (wm_2 (wm_1 wm_h)))), ?_⟩
        refine wm_c ⟨(wk_X8_works_X8_works_r4 _ (wm_8 (wm_4 (wm_1 wm_h)))), ?_⟩
        refine wm_c ⟨(wk_X8_works_X8_works_r4 _ (wm_8 (wm_4 (wm_2 wm_h)))), ?_⟩
        refine wm_c ⟨(wk_X8_works_X8_works_r4 _ (wm_8 (wm_4 (wm_2 (wm_1 wm_h))))), ?_⟩
        refine wm_c ⟨(wk_X8_works_X8_works_r4 _ (wm_16 wm_h)), ?_⟩
        refine wm_c ⟨(wk_X8_works_X8_works_r1 _ (wm_4 (wm_1 wm_h))), ?_⟩
        refine wm_c ⟨(wk_X8_works_X8_works_r3 _ (wm_2 wm_h)), ?_⟩
        refine wm_c ⟨(wk_X8_works_X8_works_r3 _ (wm_2 (wm_1 wm_h))), ?_⟩
        refine wm_c ⟨(wk_X8_works_X8_works_r3 _ (wm_4 wm_h)), ?_⟩
        refine wm_c ⟨(wk_X8_works_X8_works_r3 _ (wm_4 (wm_1 wm_h))), ?_⟩
        refine wm_c ⟨(wk_X8_works_X8_works_r3 _ (wm_4 (wm_2 wm_h))), ?_⟩
        refine wm_c ⟨(wk_X8_works_X8_works_r3 _ (wm_8 wm_h)), ?_⟩
        refine wm_c ⟨(wk_X8_works_X8_works_r3 _ (wm_8 (wm_1 wm_h))), ?_⟩
        refine wm_c ⟨(wk_X8_works_X8_works_r3 _ (wm_8 (wm_2 wm_h))), ?_⟩
        refine wm_c ⟨(wk_X8_works_X8_works_r3 _ (wm_8 (wm_2 (wm_1 wm_h)))), ?_⟩
        refine wm_c ⟨(wk_X8_works_X8_works_r1 _ (wm_4 (wm_2 wm_h))), ?_⟩
        refine wm_c ⟨(wk_X8_works_X8_works_r3 _ (wm_8 (wm_4 wm_h))), ?_⟩
        refine wm_c ⟨(wk_X8_works_X8_works_r3 _ (wm_8 (wm_4 (wm_1 wm_h)))), ?_⟩
        refine wm_c ⟨(wk_X8_works_X8_works_r3 _ (wm_8 (wm_4 (wm_2 wm_h)))), ?_⟩
        refine wm_c ⟨(wk_X8_works_X8_works_r3 _ (wm_8 (wm_4 (wm_2 (wm_1 wm_h))))), ?_⟩
        refine wm_c ⟨(wk_X8_works_X8_works_r3 _ (wm_16 wm_h)), ?_⟩
        refine wm_c ⟨(wk_X8_works_X8_works_r3 _ (wm_16 (wm_1 wm_h))), ?_⟩
        exact wm_n
      · unfold wsX8_closes_r3
        refine wm_c ⟨(wk_X8_works_X8_works_r3 _ (wm_16 (wm_2 wm_h))), ?_⟩
        refine wm_c ⟨(wk_X8_works_X8_works_r3 _ (wm_16 (wm_2 (wm_1 wm_h)))), ?_⟩
        refine wm_c ⟨(wk_X8_works_X8_works_r3 _ (wm_16 (wm_4 wm_h))), ?_⟩
        refine wm_c ⟨(wk_X8_works_X8_works_r4 _ (wm_16 (wm_1 wm_h))), ?_⟩
        refine wm_c ⟨(wk_X8_works_X8_works_r4 _ (wm_16 (wm_2 wm_h))), ?_⟩
        refine wm_c ⟨(wk_X8_works_X8_works_r4 _ (wm_16 (wm_2 (wm_1 wm_h)))), ?_⟩
        refine wm_c ⟨(wk_X8_works_X8_works_r4 _ (wm_16 (wm_4 wm_h))), ?_⟩
        refine wm_c ⟨(wk_X8_works_X8_works_r4 _ (wm_16 (wm_4 (wm_1 wm_h)))), ?_⟩
        refine wm_c ⟨(wk_X8_works_X8_works_r3 _ (wm_16 (wm_4 (wm_1 wm_h)))), ?_⟩
        refine wm_c ⟨(wk_X8_works_X8_works_r3 _ (wm_16 (wm_4 (wm_2 wm_h)))), ?_⟩
        refine wm_c ⟨(wk_X8_works_X8_works_r3 _ (wm_16 (wm_4 (wm_2 (wm_1 wm_h))))), ?_⟩
        refine wm_c ⟨(wk_X8_works_X8_works_r4 _ wm_h), ?_⟩
        refine wm_c ⟨(wk_X8_works_X8_works_r2 _ (wm_16 (wm_4 (wm_2 wm_h)))), ?_⟩
        refine wm_c ⟨(wk_X8_works_X8_works_r2 _ (wm_16 (wm_4 (wm_2 (wm_1 wm_h))))), ?_⟩
        refine wm_c ⟨(wk_X8_works_X8_works_r3 _ wm_h), ?_⟩
        refine wm_c ⟨(wk_X8_works_X8_works_r3 _ (wm_1 wm_h)), ?_⟩
        exact wm_n
  · exact wk_X8_works_X80
set_option maxRecDepth 20000 in
theorem gX8_works_X8_closes : GoodIn wsX8_works (wsV RX8 299 RX8 yX8_closes wsX8_closes) := by
  refine goodIn_app (goodIn_sub ?_ ?_) ggX8_works_X8_closes
  · exact wm_c ⟨(wk_X8_works_X8_works_r4 _ (wm_8 (wm_1 wm_h))), wm_c ⟨(wk_X8_works_X8_works_r4 _ (wm_8 (wm_2 wm_h))), wm_c ⟨(wk_X8_works_X8_works_r4 _ (wm_8 (wm_2 (wm_1 wm_h)))), wm_c ⟨(wk_X8_works_X8_works_r1 _ (wm_8 (wm_2 wm_h))), wm_n⟩⟩⟩⟩
  · decide +kernel
theorem dX8_works_0 : decode cX8_works 0 = .ok (.aload_n 0, 1) := by decide +kernel
theorem dX8_works_1 : decode cX8_works 1 = .ok (.iconst (-1), 1) := by decide +kernel
theorem dX8_works_2 : decode cX8_works 2 = .ok (.putfield 277, 3) := by decide +kernel
theorem dX8_works_5 : decode cX8_works 5 = .ok (.aload_n 0, 1) := by decide +kernel
theorem dX8_works_6 : decode cX8_works 6 = .ok (.iconst 0, 1) := by decide +kernel
theorem dX8_works_7 : decode cX8_works 7 = .ok (.putfield 286, 3) := by decide +kernel
theorem dX8_works_10 : decode cX8_works 10 = .ok (.aload_n 0, 1) := by decide +kernel
theorem dX8_works_11 : decode cX8_works 11 = .ok (.bipush 40, 2) := by decide +kernel
theorem dX8_works_13 : decode cX8_works 13 = .ok (.invokevirtual 293, 3) := by decide +kernel
theorem dX8_works_16 : decode cX8_works 16 = .ok (.iconst 0, 1) := by decide +kernel
theorem dX8_works_17 : decode cX8_works 17 = .ok (.istore_n 1, 1) := by decide +kernel
theorem dX8_works_18 : decode cX8_works 18 = .ok (.iload_n 1, 1) := by decide +kernel
theorem dX8_works_19 : decode cX8_works 19 = .ok (.aload_n 0, 1) := by decide +kernel
theorem dX8_works_20 : decode cX8_works 20 = .ok (.getfield 250, 3) := by decide +kernel
theorem dX8_works_23 : decode cX8_works 23 = .ok (.if_icmp .ge 337, 3) := by decide +kernel
theorem dX8_works_26 : decode cX8_works 26 = .ok (.aload_n 0, 1) := by decide +kernel
theorem dX8_works_27 : decode cX8_works 27 = .ok (.getfield 286, 3) := by decide +kernel
theorem dX8_works_30 : decode cX8_works 30 = .ok (.ifCond .ne 330, 3) := by decide +kernel
theorem dX8_works_33 : decode cX8_works 33 = .ok (.aload_n 0, 1) := by decide +kernel
theorem dX8_works_34 : decode cX8_works 34 = .ok (.iload_n 1, 1) := by decide +kernel
theorem dX8_works_35 : decode cX8_works 35 = .ok (.invokevirtual 264, 3) := by decide +kernel
theorem dX8_works_38 : decode cX8_works 38 = .ok (.istore_n 2, 1) := by decide +kernel
theorem dX8_works_39 : decode cX8_works 39 = .ok (.iconst 1, 1) := by decide +kernel
theorem dX8_works_40 : decode cX8_works 40 = .ok (.istore_n 3, 1) := by decide +kernel
theorem dX8_works_41 : decode cX8_works 41 = .ok (.iload_n 2, 1) := by decide +kernel
theorem dX8_works_42 : decode cX8_works 42 = .ok (.invokestatic 259, 3) := by decide +kernel
theorem dX8_works_45 : decode cX8_works 45 = .ok (.ifCond .eq 37, 3) := by decide +kernel
theorem dX8_works_48 : decode cX8_works 48 = .ok (.aload_n 0, 1) := by decide +kernel
theorem dX8_works_49 : decode cX8_works 49 = .ok (.iload_n 1, 1) := by decide +kernel
theorem dX8_works_50 : decode cX8_works 50 = .ok (.invokevirtual 274, 3) := by decide +kernel
theorem dX8_works_53 : decode cX8_works 53 = .ok (.istore_n 3, 1) := by decide +kernel
theorem dX8_works_54 : decode cX8_works 54 = .ok (.aload_n 0, 1) := by decide +kernel
theorem dX8_works_55 : decode cX8_works 55 = .ok (.bipush 8, 2) := by decide +kernel
theorem dX8_works_57 : decode cX8_works 57 = .ok (.invokevirtual 136, 3) := by decide +kernel
theorem dX8_works_60 : decode cX8_works 60 = .ok (.aload_n 0, 1) := by decide +kernel
theorem dX8_works_61 : decode cX8_works 61 = .ok (.getfield 23, 3) := by decide +kernel
theorem dX8_works_64 : decode cX8_works 64 = .ok (.sipush 2912, 3) := by decide +kernel
theorem dX8_works_67 : decode cX8_works 67 = .ok (.aload_n 0, 1) := by decide +kernel
theorem dX8_works_68 : decode cX8_works 68 = .ok (.iload_n 1, 1) := by decide +kernel
theorem dX8_works_69 : decode cX8_works 69 = .ok (.iload_n 3, 1) := by decide +kernel
theorem dX8_works_70 : decode cX8_works 70 = .ok (.invokevirtual 296, 3) := by decide +kernel
theorem dX8_works_73 : decode cX8_works 73 = .ok (.i2l, 1) := by decide +kernel
theorem dX8_works_74 : decode cX8_works 74 = .ok (.lastore, 1) := by decide +kernel
theorem dX8_works_75 : decode cX8_works 75 = .ok (.aload_n 0, 1) := by decide +kernel
theorem dX8_works_76 : decode cX8_works 76 = .ok (.invokevirtual 290, 3) := by decide +kernel
theorem dX8_works_79 : decode cX8_works 79 = .ok (.goto 274, 3) := by decide +kernel
theorem dX8_works_82 : decode cX8_works 82 = .ok (.iload_n 2, 1) := by decide +kernel
theorem dX8_works_83 : decode cX8_works 83 = .ok (.bipush 114, 2) := by decide +kernel
theorem dX8_works_85 : decode cX8_works 85 = .ok (.if_icmp .ne 28, 3) := by decide +kernel
theorem dX8_works_88 : decode cX8_works 88 = .ok (.aload_n 0, 1) := by decide +kernel
theorem dX8_works_89 : decode cX8_works 89 = .ok (.bipush 8, 2) := by decide +kernel
theorem dX8_works_91 : decode cX8_works 91 = .ok (.aload_n 0, 1) := by decide +kernel
theorem dX8_works_92 : decode cX8_works 92 = .ok (.iload_n 1, 1) := by decide +kernel
theorem dX8_works_93 : decode cX8_works 93 = .ok (.iconst 1, 1) := by decide +kernel
theorem dX8_works_94 : decode cX8_works 94 = .ok (.iadd, 1) := by decide +kernel
theorem dX8_works_95 : decode cX8_works 95 = .ok (.invokevirtual 264, 3) := by decide +kernel
theorem dX8_works_98 : decode cX8_works 98 = .ok (.bipush 48, 2) := by decide +kernel
theorem dX8_works_100 : decode cX8_works 100 = .ok (.isub, 1) := by decide +kernel
theorem dX8_works_101 : decode cX8_works 101 = .ok (.invokevirtual 139, 3) := by decide +kernel
theorem dX8_works_104 : decode cX8_works 104 = .ok (.aload_n 0, 1) := by decide +kernel
theorem dX8_works_105 : decode cX8_works 105 = .ok (.invokevirtual 290, 3) := by decide +kernel
theorem dX8_works_108 : decode cX8_works 108 = .ok (.iconst 2, 1) := by decide +kernel
theorem dX8_works_109 : decode cX8_works 109 = .ok (.istore_n 3, 1) := by decide +kernel
theorem dX8_works_110 : decode cX8_works 110 = .ok (.goto 243, 3) := by decide +kernel
theorem dX8_works_113 : decode cX8_works 113 = .ok (.iload_n 2, 1) := by decide +kernel
theorem dX8_works_114 : decode cX8_works 114 = .ok (.bipush 47, 2) := by decide +kernel
theorem dX8_works_116 : decode cX8_works 116 = .ok (.if_icmp .ne 48, 3) := by decide +kernel
theorem dX8_works_119 : decode cX8_works 119 = .ok (.iconst 1, 1) := by decide +kernel
theorem dX8_works_120 : decode cX8_works 120 = .ok (.aload_n 0, 1) := by decide +kernel
theorem dX8_works_121 : decode cX8_works 121 = .ok (.iload_n 1, 1) := by decide +kernel
theorem dX8_works_122 : decode cX8_works 122 = .ok (.iconst 1, 1) := by decide +kernel
theorem dX8_works_123 : decode cX8_works 123 = .ok (.iadd, 1) := by decide +kernel
theorem dX8_works_124 : decode cX8_works 124 = .ok (.invokevirtual 274, 3) := by decide +kernel
theorem dX8_works_127 : decode cX8_works 127 = .ok (.iadd, 1) := by decide +kernel
theorem dX8_works_128 : decode cX8_works 128 = .ok (.istore_n 3, 1) := by decide +kernel
theorem dX8_works_129 : decode cX8_works 129 = .ok (.aload_n 0, 1) := by decide +kernel
theorem dX8_works_130 : decode cX8_works 130 = .ok (.bipush 8, 2) := by decide +kernel
theorem dX8_works_132 : decode cX8_works 132 = .ok (.invokevirtual 136, 3) := by decide +kernel
theorem dX8_works_135 : decode cX8_works 135 = .ok (.aload_n 0, 1) := by decide +kernel
theorem dX8_works_136 : decode cX8_works 136 = .ok (.getfield 23, 3) := by decide +kernel
theorem dX8_works_139 : decode cX8_works 139 = .ok (.sipush 2912, 3) := by decide +kernel
theorem dX8_works_142 : decode cX8_works 142 = .ok (.aload_n 0, 1) := by decide +kernel
theorem dX8_works_143 : decode cX8_works 143 = .ok (.iload_n 1, 1) := by decide +kernel
theorem dX8_works_144 : decode cX8_works 144 = .ok (.iconst 1, 1) := by decide +kernel
theorem dX8_works_145 : decode cX8_works 145 = .ok (.iadd, 1) := by decide +kernel
theorem dX8_works_146 : decode cX8_works 146 = .ok (.iload_n 3, 1) := by decide +kernel
theorem dX8_works_147 : decode cX8_works 147 = .ok (.iconst 1, 1) := by decide +kernel
theorem dX8_works_148 : decode cX8_works 148 = .ok (.isub, 1) := by decide +kernel
theorem dX8_works_149 : decode cX8_works 149 = .ok (.invokevirtual 296, 3) := by decide +kernel
theorem dX8_works_152 : decode cX8_works 152 = .ok (.i2l, 1) := by decide +kernel
theorem dX8_works_153 : decode cX8_works 153 = .ok (.invokestatic 150, 3) := by decide +kernel
theorem dX8_works_156 : decode cX8_works 156 = .ok (.lastore, 1) := by decide +kernel
theorem dX8_works_157 : decode cX8_works 157 = .ok (.aload_n 0, 1) := by decide +kernel
theorem dX8_works_158 : decode cX8_works 158 = .ok (.invokevirtual 290, 3) := by decide +kernel
theorem dX8_works_161 : decode cX8_works 161 = .ok (.goto 192, 3) := by decide +kernel
theorem dX8_works_164 : decode cX8_works 164 = .ok (.iload_n 2, 1) := by decide +kernel
theorem dX8_works_165 : decode cX8_works 165 = .ok (.bipush 43, 2) := by decide +kernel
theorem dX8_works_167 : decode cX8_works 167 = .ok (.if_icmp .eq 9, 3) := by decide +kernel
theorem dX8_works_170 : decode cX8_works 170 = .ok (.iload_n 2, 1) := by decide +kernel
theorem dX8_works_171 : decode cX8_works 171 = .ok (.bipush 45, 2) := by decide +kernel
theorem dX8_works_173 : decode cX8_works 173 = .ok (.if_icmp .ne 32, 3) := by decide +kernel
theorem dX8_works_176 : decode cX8_works 176 = .ok (.aload_n 0, 1) := by decide +kernel
theorem dX8_works_177 : decode cX8_works 177 = .ok (.invokevirtual 283, 3) := by decide +kernel
theorem dX8_works_180 : decode cX8_works 180 = .ok (.aload_n 0, 1) := by decide +kernel
theorem dX8_works_181 : decode cX8_works 181 = .ok (.getfield 81, 3) := by decide +kernel
theorem dX8_works_184 : decode cX8_works 184 = .ok (.aload_n 0, 1) := by decide +kernel
theorem dX8_works_185 : decode cX8_works 185 = .ok (.getfield 277, 3) := by decide +kernel
theorem dX8_works_188 : decode cX8_works 188 = .ok (.iload_n 2, 1) := by decide +kernel
theorem dX8_works_189 : decode cX8_works 189 = .ok (.bipush 43, 2) := by decide +kernel
theorem dX8_works_191 : decode cX8_works 191 = .ok (.if_icmp .ne 7, 3) := by decide +kernel
theorem dX8_works_194 : decode cX8_works 194 = .ok (.lconst 1, 1) := by decide +kernel
theorem dX8_works_195 : decode cX8_works 195 = .ok (.goto 6, 3) := by decide +kernel
theorem dX8_works_198 : decode cX8_works 198 = .ok (.ldc2_w 175, 3) := by decide +kernel
theorem dX8_works_201 : decode cX8_works 201 = .ok (.lastore, 1) := by decide +kernel
theorem dX8_works_202 : decode cX8_works 202 = .ok (.goto 151, 3) := by decide +kernel
theorem dX8_works_205 : decode cX8_works 205 = .ok (.iload_n 2, 1) := by decide +kernel
theorem dX8_works_206 : decode cX8_works 206 = .ok (.bipush 44, 2) := by decide +kernel
theorem dX8_works_208 : decode cX8_works 208 = .ok (.if_icmp .ne 52, 3) := by decide +kernel
theorem dX8_works_211 : decode cX8_works 211 = .ok (.aload_n 0, 1) := by decide +kernel
theorem dX8_works_212 : decode cX8_works 212 = .ok (.invokevirtual 283, 3) := by decide +kernel
theorem dX8_works_215 : decode cX8_works 215 = .ok (.aload_n 0, 1) := by decide +kernel
theorem dX8_works_216 : decode cX8_works 216 = .ok (.aload_n 0, 1) := by decide +kernel
theorem dX8_works_217 : decode cX8_works 217 = .ok (.getfield 277, 3) := by decide +kernel
theorem dX8_works_220 : decode cX8_works 220 = .ok (.iconst 2, 1) := by decide +kernel
theorem dX8_works_221 : decode cX8_works 221 = .ok (.invokestatic 280, 3) := by decide +kernel
theorem dX8_works_224 : decode cX8_works 224 = .ok (.aload_n 0, 1) := by decide +kernel
theorem dX8_works_225 : decode cX8_works 225 = .ok (.getfield 277, 3) := by decide +kernel
theorem dX8_works_228 : decode cX8_works 228 = .ok (.iconst 0, 1) := by decide +kernel
theorem dX8_works_229 : decode cX8_works 229 = .ok (.invokestatic 280, 3) := by decide +kernel
theorem dX8_works_232 : decode cX8_works 232 = .ok (.invokevirtual 139, 3) := by decide +kernel
theorem dX8_works_235 : decode cX8_works 235 = .ok (.aload_n 0, 1) := by decide +kernel
theorem dX8_works_236 : decode cX8_works 236 = .ok (.aload_n 0, 1) := by decide +kernel
theorem dX8_works_237 : decode cX8_works 237 = .ok (.getfield 277, 3) := by decide +kernel
theorem dX8_works_240 : decode cX8_works 240 = .ok (.iconst 0, 1) := by decide +kernel
theorem dX8_works_241 : decode cX8_works 241 = .ok (.invokestatic 280, 3) := by decide +kernel
theorem dX8_works_244 : decode cX8_works 244 = .ok (.invokevirtual 136, 3) := by decide +kernel
theorem dX8_works_247 : decode cX8_works 247 = .ok (.aload_n 0, 1) := by decide +kernel
theorem dX8_works_248 : decode cX8_works 248 = .ok (.getfield 81, 3) := by decide +kernel
theorem dX8_works_251 : decode cX8_works 251 = .ok (.aload_n 0, 1) := by decide +kernel
theorem dX8_works_252 : decode cX8_works 252 = .ok (.getfield 277, 3) := by decide +kernel
theorem dX8_works_255 : decode cX8_works 255 = .ok (.lconst 1, 1) := by decide +kernel
theorem dX8_works_256 : decode cX8_works 256 = .ok (.lastore, 1) := by decide +kernel
theorem dX8_works_257 : decode cX8_works 257 = .ok (.goto 96, 3) := by decide +kernel
theorem dX8_works_260 : decode cX8_works 260 = .ok (.iload_n 2, 1) := by decide +kernel
theorem dX8_works_261 : decode cX8_works 261 = .ok (.bipush 41, 2) := by decide +kernel
theorem dX8_works_263 : decode cX8_works 263 = .ok (.if_icmp .eq 9, 3) := by decide +kernel
theorem dX8_works_266 : decode cX8_works 266 = .ok (.iload_n 2, 1) := by decide +kernel
theorem dX8_works_267 : decode cX8_works 267 = .ok (.bipush 93, 2) := by decide +kernel
theorem dX8_works_269 : decode cX8_works 269 = .ok (.if_icmp .ne 11, 3) := by decide +kernel
theorem dX8_works_272 : decode cX8_works 272 = .ok (.aload_n 0, 1) := by decide +kernel
theorem dX8_works_273 : decode cX8_works 273 = .ok (.iload_n 2, 1) := by decide +kernel
theorem dX8_works_274 : decode cX8_works 274 = .ok (.invokevirtual 299, 3) := by decide +kernel
theorem dX8_works_277 : decode cX8_works 277 = .ok (.goto 76, 3) := by decide +kernel
theorem dX8_works_280 : decode cX8_works 280 = .ok (.iload_n 2, 1) := by decide +kernel
theorem dX8_works_281 : decode cX8_works 281 = .ok (.bipush 91, 2) := by decide +kernel
theorem dX8_works_283 : decode cX8_works 283 = .ok (.if_icmp .eq 9, 3) := by decide +kernel
theorem dX8_works_286 : decode cX8_works 286 = .ok (.iload_n 2, 1) := by decide +kernel
theorem dX8_works_287 : decode cX8_works 287 = .ok (.bipush 40, 2) := by decide +kernel
theorem dX8_works_289 : decode cX8_works 289 = .ok (.if_icmp .ne 11, 3) := by decide +kernel
theorem dX8_works_292 : decode cX8_works 292 = .ok (.aload_n 0, 1) := by decide +kernel
theorem dX8_works_293 : decode cX8_works 293 = .ok (.iload_n 2, 1) := by decide +kernel
theorem dX8_works_294 : decode cX8_works 294 = .ok (.invokevirtual 293, 3) := by decide +kernel
theorem dX8_works_297 : decode cX8_works 297 = .ok (.goto 56, 3) := by decide +kernel
theorem dX8_works_300 : decode cX8_works 300 = .ok (.iload_n 2, 1) := by decide +kernel
theorem dX8_works_301 : decode cX8_works 301 = .ok (.bipush 69, 2) := by decide +kernel
theorem dX8_works_303 : decode cX8_works 303 = .ok (.if_icmp .eq 9, 3) := by decide +kernel
theorem dX8_works_306 : decode cX8_works 306 = .ok (.iload_n 2, 1) := by decide +kernel
theorem dX8_works_307 : decode cX8_works 307 = .ok (.bipush 76, 2) := by decide +kernel
theorem dX8_works_309 : decode cX8_works 309 = .ok (.if_icmp .ne 13, 3) := by decide +kernel
theorem dX8_works_312 : decode cX8_works 312 = .ok (.aload_n 0, 1) := by decide +kernel
theorem dX8_works_313 : decode cX8_works 313 = .ok (.iload_n 2, 1) := by decide +kernel
theorem dX8_works_314 : decode cX8_works 314 = .ok (.invokevirtual 293, 3) := by decide +kernel
theorem dX8_works_317 : decode cX8_works 317 = .ok (.iconst 2, 1) := by decide +kernel
theorem dX8_works_318 : decode cX8_works 318 = .ok (.istore_n 3, 1) := by decide +kernel
theorem dX8_works_319 : decode cX8_works 319 = .ok (.goto 34, 3) := by decide +kernel
theorem dX8_works_322 : decode cX8_works 322 = .ok (.aload_n 0, 1) := by decide +kernel
theorem dX8_works_323 : decode cX8_works 323 = .ok (.bipush 8, 2) := by decide +kernel
theorem dX8_works_325 : decode cX8_works 325 = .ok (.invokevirtual 136, 3) := by decide +kernel
theorem dX8_works_328 : decode cX8_works 328 = .ok (.aload_n 0, 1) := by decide +kernel
theorem dX8_works_329 : decode cX8_works 329 = .ok (.getfield 23, 3) := by decide +kernel
theorem dX8_works_332 : decode cX8_works 332 = .ok (.sipush 2912, 3) := by decide +kernel
theorem dX8_works_335 : decode cX8_works 335 = .ok (.aload_n 0, 1) := by decide +kernel
theorem dX8_works_336 : decode cX8_works 336 = .ok (.getfield 17, 3) := by decide +kernel
theorem dX8_works_339 : decode cX8_works 339 = .ok (.iconst 1, 1) := by decide +kernel
theorem dX8_works_340 : decode cX8_works 340 = .ok (.iaload, 1) := by decide +kernel
theorem dX8_works_341 : decode cX8_works 341 = .ok (.iadd, 1) := by decide +kernel
theorem dX8_works_342 : decode cX8_works 342 = .ok (.iload_n 2, 1) := by decide +kernel
theorem dX8_works_343 : decode cX8_works 343 = .ok (.iadd, 1) := by decide +kernel
theorem dX8_works_344 : decode cX8_works 344 = .ok (.bipush 97, 2) := by decide +kernel
theorem dX8_works_346 : decode cX8_works 346 = .ok (.isub, 1) := by decide +kernel
theorem dX8_works_347 : decode cX8_works 347 = .ok (.lconst 1, 1) := by decide +kernel
theorem dX8_works_348 : decode cX8_works 348 = .ok (.lastore, 1) := by decide +kernel
theorem dX8_works_349 : decode cX8_works 349 = .ok (.aload_n 0, 1) := by decide +kernel
theorem dX8_works_350 : decode cX8_works 350 = .ok (.invokevirtual 290, 3) := by decide +kernel
theorem dX8_works_353 : decode cX8_works 353 = .ok (.iload_n 1, 1) := by decide +kernel
theorem dX8_works_354 : decode cX8_works 354 = .ok (.iload_n 3, 1) := by decide +kernel
theorem dX8_works_355 : decode cX8_works 355 = .ok (.iadd, 1) := by decide +kernel
theorem dX8_works_356 : decode cX8_works 356 = .ok (.istore_n 1, 1) := by decide +kernel
theorem dX8_works_357 : decode cX8_works 357 = .ok (.goto (-339), 3) := by decide +kernel
theorem dX8_works_360 : decode cX8_works 360 = .ok (.aload_n 0, 1) := by decide +kernel
theorem dX8_works_361 : decode cX8_works 361 = .ok (.invokevirtual 283, 3) := by decide +kernel
theorem dX8_works_364 : decode cX8_works 364 = .ok (.return_, 1) := by decide +kernel
set_option maxRecDepth 20000 in
theorem ggX8_read_X8_isSum : GoodIn wsX8_read wsX8_isSum := by
  refine goodIn_sub ?_ gd_X8_isSum
  unfold wsX8_isSum
  refine wm_c ⟨(wk_X8_read_X8_read_r1 _ (wm_4 (wm_1 wm_h))), ?_⟩
  refine wm_c ⟨(wk_X8_read_X8_read_r1 _ (wm_4 (wm_2 wm_h))), ?_⟩
  refine wm_c ⟨(wk_X8_read_X8_read_r1 _ (wm_4 (wm_2 (wm_1 wm_h)))), ?_⟩
  refine wm_c ⟨(wk_X8_read_X8_read_r1 _ (wm_8 wm_h)), ?_⟩
  refine wm_c ⟨(wk_X8_read_X8_read_r1 _ (wm_4 wm_h)), ?_⟩
  refine wm_c ⟨(wk_X8_read_X8_read_r1 _ (wm_8 (wm_1 wm_h))), ?_⟩
  exact wm_n
set_option maxRecDepth 20000 in
theorem gX8_read_X8_isSum : GoodIn wsX8_read (va_wsS RX8 157 yX8_isSum wsX8_isSum) := goodIn_app (goodIn_of _ (by decide +kernel)) ggX8_read_X8_isSum
set_option maxRecDepth 20000 in
theorem ggX8_read_X8_reads : GoodIn wsX8_read wsX8_reads := by
  refine goodIn_sub ?_ gd_X8_reads
  unfold wsX8_reads
  refine wm_c ⟨(wk_X8_read_X8_read_r1 _ (wm_8 (wm_4 (wm_1 wm_h)))), ?_⟩
  refine wm_a ⟨?_, ?_⟩
  · refine wm_a ⟨?_, ?_⟩
    · unfold wsX8_reads_r1
      refine wm_c ⟨(wk_X8_read_X8_read_r1 _ (wm_8 (wm_4 (wm_2 wm_h)))), ?_⟩
      refine wm_c ⟨(wk_X8_read_X8_read_r1 _ wm_h), ?_⟩
      refine wm_c ⟨(wk_X8_read_X8_read_r1 _ (wm_8 (wm_4 (wm_2 (wm_1 wm_h))))), ?_⟩
      refine wm_c ⟨(wk_X8_read_X8_read_r1 _ (wm_16 wm_h)), ?_⟩
      refine wm_c ⟨(wk_X8_read_X8_read_r1 _ (wm_16 (wm_1 wm_h))), ?_⟩
      refine wm_c ⟨(wk_X8_read_X8_read_r1 _ (wm_16 (wm_2 wm_h))), ?_⟩
      refine wm_c ⟨(wk_X8_read_X8_read_r1 _ (wm_16 (wm_2 (wm_1 wm_h)))), ?_⟩
      refine wm_c ⟨(wk_X8_read_X8_read_r1 _ (wm_16 (wm_4 wm_h))), ?_⟩
      refine wm_c ⟨(wk_X8_read_X8_read_r1 _ (wm_4 wm_h)), ?_⟩
      refine wm_c ⟨(wk_X8_read_X8_read_r1 _ (wm_16 (wm_4 (wm_1 wm_h)))), ?_⟩
      refine wm_c ⟨(wk_X8_read_X8_read_r1 _ (wm_16 (wm_4 (wm_2 wm_h)))), ?_⟩
      refine wm_c ⟨(wk_X8_read_X8_read_r1 _ (wm_16 (wm_4 (wm_2 (wm_1 wm_h))))), ?_⟩
      refine wm_c ⟨(wk_X8_read_X8_read_r2 _ wm_h), ?_⟩
      refine wm_c ⟨(wk_X8_read_X8_read_r2 _ (wm_1 wm_h)), ?_⟩
      refine wm_c ⟨(wk_X8_read_X8_read_r2 _ (wm_2 wm_h)), ?_⟩
      refine wm_c ⟨(wk_X8_read_X8_read_r2 _ (wm_2 (wm_1 wm_h))), ?_⟩
      refine wm_c ⟨(wk_X8_read_X8_read_r2 _ (wm_4 wm_h)), ?_⟩
      refine wm_c ⟨(wk_X8_read_X8_read_r2 _ (wm_4 (wm_1 wm_h))), ?_⟩
      refine wm_c ⟨(wk_X8_read_X8_read_r2 _ (wm_4 (wm_2 wm_h))), ?_⟩
      refine wm_c ⟨(wk_X8_read_X8_read_r2 _ (wm_4 (wm_2 (wm_1 wm_h)))), ?_⟩
      refine wm_c ⟨(wk_X8_read_X8_read_r2 _ (wm_8 wm_h)), ?_⟩
      refine wm_c ⟨(wk_X8_read_X8_read_r1 _ (wm_4 (wm_2 (wm_1 wm_h)))), ?_⟩
      refine wm_c ⟨(wk_X8_read_X8_read_r1 _ (wm_8 wm_h)), ?_⟩
      refine wm_c ⟨(wk_X8_read_X8_read_r1 _ (wm_8 (wm_1 wm_h))), ?_⟩
      exact wm_n
    · unfold wsX8_reads_r2
      refine wm_c ⟨(wk_X8_read_X8_read_r2 _ (wm_8 (wm_1 wm_h))), ?_⟩
      refine wm_c ⟨(wk_X8_read_X8_read_r2 _ (wm_8 (wm_2 wm_h))), ?_⟩
      refine wm_c ⟨(wk_X8_read_X8_read_r2 _ (wm_8 (wm_2 (wm_1 wm_h)))), ?_⟩
      refine wm_c ⟨(wk_X8_read_X8_read_r2 _ (wm_8 (wm_4 wm_h))), ?_⟩
      exact wm_n
  · exact wk_X8_read_X80
set_option maxRecDepth 20000 in
theorem gX8_read_X8_reads : GoodIn wsX8_read (wsV RX8 302 RX8 yX8_reads wsX8_reads) := by
  refine goodIn_app (goodIn_sub ?_ ?_) ggX8_read_X8_reads
  · exact wm_c ⟨(wk_X8_read_X8_read_r1 _ (wm_8 (wm_2 wm_h))), wm_c ⟨(wk_X8_read_X8_read_r1 _ (wm_8 (wm_2 (wm_1 wm_h)))), wm_c ⟨(wk_X8_read_X8_read_r1 _ (wm_8 (wm_4 wm_h))), wm_c ⟨(wk_X8_read_X8_read_r1 _ (wm_4 wm_h)), wm_n⟩⟩⟩⟩
  · decide +kernel
set_option maxRecDepth 20000 in
theorem ggX8_read_X8_works : GoodIn wsX8_read wsX8_works := by
  refine goodIn_sub ?_ gd_X8_works
  unfold wsX8_works
  refine wm_c ⟨(wk_X8_read_X8_read_r2 _ (wm_16 wm_h)), ?_⟩
  refine wm_a ⟨?_, ?_⟩
  · refine wm_a ⟨?_, ?_⟩
    · unfold wsX8_works_r1
      refine wm_c ⟨(wk_X8_read_X8_read_r2 _ (wm_16 (wm_1 wm_h))), ?_⟩
      refine wm_c ⟨(wk_X8_read_X8_read_r1 _ (wm_1 wm_h)), ?_⟩
      refine wm_c ⟨(wk_X8_read_X8_read_r1 _ wm_h), ?_⟩
      refine wm_c ⟨(wk_X8_read_X8_read_r2 _ (wm_16 (wm_2 wm_h))), ?_⟩
      refine wm_c ⟨(wk_X8_read_X8_read_r2 _ (wm_16 (wm_2 (wm_1 wm_h)))), ?_⟩
      refine wm_c ⟨(wk_X8_read_X8_read_r2 _ (wm_16 (wm_4 wm_h))), ?_⟩
      refine wm_c ⟨(wk_X8_read_X8_read_r2 _ (wm_16 (wm_4 (wm_1 wm_h)))), ?_⟩
      refine wm_c ⟨(wk_X8_read_X8_read_r2 _ (wm_16 (wm_4 (wm_2 wm_h)))), ?_⟩
      refine wm_c ⟨(wk_X8_read_X8_read_r2 _ (wm_16 (wm_4 (wm_2 (wm_1 wm_h))))), ?_⟩
      refine wm_c ⟨(wk_X8_read_X8_read_r3 _ wm_h), ?_⟩
      refine wm_c ⟨(wk_X8_read_X8_read_r1 _ (wm_4 wm_h)), ?_⟩
      refine wm_c ⟨(wk_X8_read_X8_read_r3 _ (wm_1 wm_h)), ?_⟩
      refine wm_c ⟨(wk_X8_read_X8_read_r3 _ (wm_2 wm_h)), ?_⟩
      refine wm_c ⟨(wk_X8_read_X8_read_r3 _ (wm_2 (wm_1 wm_h))), ?_⟩
      refine wm_c ⟨(wk_X8_read_X8_read_r3 _ (wm_4 wm_h)), ?_⟩
      refine wm_c ⟨(wk_X8_read_X8_read_r3 _ (wm_4 (wm_1 wm_h))), ?_⟩
      refine wm_c ⟨(wk_X8_read_X8_read_r3 _ (wm_4 (wm_2 wm_h))), ?_⟩
      refine wm_c ⟨(wk_X8_read_X8_read_r3 _ (wm_4 (wm_2 (wm_1 wm_h)))), ?_⟩
      refine wm_c ⟨(wk_X8_read_X8_read_r3 _ (wm_8 wm_h)), ?_⟩
      refine wm_c ⟨(wk_X8_read_X8_read_r3 _ (wm_8 (wm_1 wm_h))), ?_⟩
      refine wm_c ⟨(wk_X8_read_X8_read_r3 _ (wm_8 (wm_2 wm_h))), ?_⟩
      refine wm_c ⟨(wk_X8_read_X8_read_r3 _ (wm_8 (wm_2 (wm_1 wm_h)))), ?_⟩
      refine wm_c ⟨(wk_X8_read_X8_read_r3 _ (wm_8 (wm_4 wm_h))), ?_⟩
      refine wm_c ⟨(wk_X8_read_X8_read_r3 _ (wm_8 (wm_4 (wm_1 wm_h)))), ?_⟩
      exact wm_n
    · refine wm_a ⟨?_, ?_⟩
      · unfold wsX8_works_r2
        refine wm_c ⟨(wk_X8_read_X8_read_r3 _ (wm_8 (wm_4 (wm_2 wm_h)))), ?_⟩
        refine wm_c ⟨(wk_X8_read_X8_read_r1 _ (wm_16 (wm_2 wm_h))), ?_⟩
        refine wm_c ⟨(wk_X8_read_X8_read_r1 _ (wm_16 (wm_2 (wm_1 wm_h)))), ?_⟩
        refine wm_c ⟨(wk_X8_read_X8_read_r1 _ (wm_16 (wm_4 wm_h))), ?_⟩
        refine wm_c ⟨(wk_X8_read_X8_read_r1 _ (wm_16 (wm_4 (wm_1 wm_h)))), ?_⟩
        refine wm_c ⟨(wk_X8_read_X8_read_r1 _ (wm_16 (wm_4 (wm_2 wm_h)))), ?_⟩
        refine wm_c ⟨(wk_X8_read_X8_read_r2 _ (wm_4 (wm_1 wm_h))), ?_⟩
        refine wm_c ⟨(wk_X8_read_X8_read_r2 _ (wm_4 (wm_2 wm_h))), ?_⟩
        refine wm_c ⟨(wk_X8_read_X8_read_r2 _ (wm_4 (wm_2 (wm_1 wm_h)))), ?_⟩
        refine wm_c ⟨(wk_X8_read_X8_read_r1 _ (wm_8 (wm_4 (wm_2 (wm_1 wm_h))))), ?_⟩
        refine wm_c ⟨(wk_X8_read_X8_read_r2 _ (wm_8 wm_h)), ?_⟩
        refine wm_c ⟨(wk_X8_read_X8_read_r1 _ (wm_4 (wm_2 (wm_1 wm_h)))), ?_⟩
        refine wm_c ⟨(wk_X8_read_X8_read_r1 _ (wm_8 wm_h)), ?_⟩
        refine wm_c ⟨(wk_X8_read_X8_read_r1 _ (wm_8 (wm_1 wm_h))), ?_⟩
        refine wm_c ⟨(wk_X8_read_X8_read_r2 _ (wm_8 (wm_1 wm_h))), ?_⟩
        refine wm_c ⟨(wk_X8_read_X8_read_r2 _ (wm_8 (wm_2 wm_h))), ?_⟩
        refine wm_c ⟨(wk_X8_read_X8_read_r2 _ (wm_8 (wm_2 (wm_1 wm_h)))), ?_⟩
        refine wm_c ⟨(wk_X8_read_X8_read_r2 _ (wm_8 (wm_4 wm_h))), ?_⟩
        refine wm_c ⟨(wk_X8_read_X8_read_r3 _ (wm_8 (wm_4 (wm_2 (wm_1 wm_h))))), ?_⟩
        refine wm_c ⟨(wk_X8_read_X8_read_r3 _ (wm_16 wm_h)), ?_⟩
        refine wm_c ⟨(wk_X8_read_X8_read_r3 _ (wm_16 (wm_1 wm_h))), ?_⟩
        refine wm_c ⟨(wk_X8_read_X8_read_r3 _ (wm_16 (wm_2 wm_h))), ?_⟩
        refine wm_c ⟨(wk_X8_read_X8_read_r3 _ (wm_16 (wm_2 (wm_1 wm_h)))), ?_⟩
        refine wm_c ⟨(wk_X8_read_X8_read_r3 _ (wm_16 (wm_4 wm_h))), ?_⟩
        exact wm_n
      · refine wm_a ⟨?_, ?_⟩
        · unfold wsX8_works_r3
          refine wm_c ⟨(wk_X8_read_X8_read_r3 _ (wm_16 (wm_4 (wm_1 wm_h)))), ?_⟩
          refine wm_c ⟨(wk_X8_read_X8_read_r3 _ (wm_16 (wm_4 (wm_2 wm_h)))), ?_⟩
          refine wm_c ⟨(wk_X8_read_X8_read_r3 _ (wm_16 (wm_4 (wm_2 (wm_1 wm_h))))), ?_⟩
          refine wm_c ⟨(wk_X8_read_X8_read_r4 _ wm_h), ?_⟩
          refine wm_c ⟨(wk_X8_read_X8_read_r4 _ (wm_1 wm_h)), ?_⟩
          refine wm_c ⟨(wk_X8_read_X8_read_r4 _ (wm_2 wm_h)), ?_⟩
          refine wm_c ⟨(wk_X8_read_X8_read_r4 _ (wm_2 (wm_1 wm_h))), ?_⟩
          refine wm_c ⟨(wk_X8_read_X8_read_r4 _ (wm_4 wm_h)), ?_⟩
          refine wm_c ⟨(wk_X8_read_X8_read_r4 _ (wm_4 (wm_1 wm_h))), ?_⟩
          refine wm_c ⟨(wk_X8_read_X8_read_r4 _ (wm_4 (wm_2 wm_h))), ?_⟩
          refine wm_c ⟨(wk_X8_read_X8_read_r4 _ (wm_4 (wm_2 (wm_1 wm_h)))), ?_⟩
          refine wm_c ⟨(wk_X8_read_X8_read_r4 _ (wm_8 wm_h)), ?_⟩
          refine wm_c ⟨(wk_X8_read_X8_read_r4 _ (wm_8 (wm_1 wm_h))), ?_⟩
          refine wm_c ⟨(wk_X8_read_X8_read_r4 _ (wm_8 (wm_2 wm_h))), ?_⟩
          refine wm_c ⟨(wk_X8_read_X8_read_r4 _ (wm_8 (wm_2 (wm_1 wm_h)))), ?_⟩
          refine wm_c ⟨(wk_X8_read_X8_read_r4 _ (wm_8 (wm_4 wm_h))), ?_⟩
          refine wm_c ⟨(wk_X8_read_X8_read_r4 _ (wm_8 (wm_4 (wm_1 wm_h)))), ?_⟩
          refine wm_c ⟨(wk_X8_read_X8_read_r4 _ (wm_8 (wm_4 (wm_2 wm_h)))), ?_⟩
          refine wm_c ⟨(wk_X8_read_X8_read_r4 _ (wm_8 (wm_4 (wm_2 (wm_1 wm_h))))), ?_⟩
          refine wm_c ⟨(wk_X8_read_X8_read_r4 _ (wm_16 wm_h)), ?_⟩
          refine wm_c ⟨(wk_X8_read_X8_read_r4 _ (wm_16 (wm_1 wm_h))), ?_⟩
          refine wm_c ⟨(wk_X8_read_X8_read_r4 _ (wm_16 (wm_2 wm_h))), ?_⟩
          refine wm_c ⟨(wk_X8_read_X8_read_r4 _ (wm_16 (wm_2 (wm_1 wm_h)))), ?_⟩
          refine wm_c ⟨(wk_X8_read_X8_read_r4 _ (wm_16 (wm_4 wm_h))), ?_⟩
          exact wm_n
        · unfold wsX8_works_r4
          refine wm_c ⟨(wk_X8_read_X8_read_r4 _ (wm_16 (wm_4 (wm_1 wm_h)))), ?_⟩
          refine wm_c ⟨(wk_X8_read_X8_read_r4 _ (wm_16 (wm_4 (wm_2 wm_h)))), ?_⟩
          refine wm_c ⟨(wk_X8_read_X8_read_r4 _ (wm_16 (wm_4 (wm_2 (wm_1 wm_h))))), ?_⟩
          refine wm_c ⟨(wk_X8_read_X8_read_r5 _ wm_h), ?_⟩
          refine wm_c ⟨(wk_X8_read_X8_read_r5 _ (wm_1 wm_h)), ?_⟩
          refine wm_c ⟨(wk_X8_read_X8_read_r5 _ (wm_2 wm_h)), ?_⟩
          refine wm_c ⟨(wk_X8_read_X8_read_r5 _ (wm_2 (wm_1 wm_h))), ?_⟩
          refine wm_c ⟨(wk_X8_read_X8_read_r5 _ (wm_4 wm_h)), ?_⟩
          refine wm_c ⟨(wk_X8_read_X8_read_r5 _ (wm_4 (wm_1 wm_h))), ?_⟩
          refine wm_c ⟨(wk_X8_read_X8_read_r5 _ (wm_4 (wm_2 wm_h))), ?_⟩
          refine wm_c ⟨(wk_X8_read_X8_read_r5 _ (wm_4 (wm_2 (wm_1 wm_h)))), ?_⟩
          refine wm_c ⟨(wk_X8_read_X8_read_r5 _ (wm_8 wm_h)), ?_⟩
          refine wm_c ⟨(wk_X8_read_X8_read_r5 _ (wm_8 (wm_1 wm_h))), ?_⟩
          refine wm_c ⟨(wk_X8_read_X8_read_r5 _ (wm_8 (wm_2 wm_h))), ?_⟩
          refine wm_c ⟨(wk_X8_read_X8_read_r5 _ (wm_8 (wm_2 (wm_1 wm_h)))), ?_⟩
          refine wm_c ⟨(wk_X8_read_X8_read_r5 _ (wm_8 (wm_4 wm_h))), ?_⟩
          refine wm_c ⟨(wk_X8_read_X8_read_r5 _ (wm_8 (wm_4 (wm_1 wm_h)))), ?_⟩
          refine wm_c ⟨(wk_X8_read_X8_read_r5 _ (wm_8 (wm_4 (wm_2 wm_h)))), ?_⟩
          refine wm_c ⟨(wk_X8_read_X8_read_r5 _ (wm_8 (wm_4 (wm_2 (wm_1 wm_h))))), ?_⟩
          refine wm_c ⟨(wk_X8_read_X8_read_r5 _ (wm_16 wm_h)), ?_⟩
          refine wm_c ⟨(wk_X8_read_X8_read_r5 _ (wm_16 (wm_1 wm_h))), ?_⟩
          refine wm_c ⟨(wk_X8_read_X8_read_r5 _ (wm_16 (wm_2 wm_h))), ?_⟩
          exact wm_n
  · exact wk_X8_read_X80
set_option maxRecDepth 20000 in
theorem gX8_read_X8_works : GoodIn wsX8_read (wsV RX8 306 RX8 yX8_works wsX8_works) := by
  refine goodIn_app (goodIn_sub ?_ ?_) ggX8_read_X8_works
  · exact wm_c ⟨(wk_X8_read_X8_read_r2 _ (wm_8 (wm_4 (wm_1 wm_h)))), wm_c ⟨(wk_X8_read_X8_read_r2 _ (wm_8 (wm_4 (wm_2 wm_h)))), wm_c ⟨(wk_X8_read_X8_read_r2 _ (wm_8 (wm_4 (wm_2 (wm_1 wm_h))))), wm_c ⟨(wk_X8_read_X8_read_r1 _ (wm_4 wm_h)), wm_n⟩⟩⟩⟩
  · decide +kernel
set_option maxRecDepth 20000 in
theorem ggX8_read_X8_slot : GoodIn wsX8_read wsX8_slot := by
  refine goodIn_sub ?_ gd_X8_slot
  unfold wsX8_slot
  refine wm_c ⟨(wk_X8_read_X8_read_r3 _ (wm_4 (wm_1 wm_h))), ?_⟩
  exact wm_n
set_option maxRecDepth 20000 in
theorem gX8_read_X8_slot : GoodIn wsX8_read (va_wsS RX8 280 yX8_slot wsX8_slot) := goodIn_app (goodIn_of _ (by decide +kernel)) ggX8_read_X8_slot
set_option maxRecDepth 20000 in
theorem ggX8_read_X8_copies : GoodIn wsX8_read wsX8_copies := by
  refine goodIn_sub ?_ gd_X8_copies
  unfold wsX8_copies
  refine wm_c ⟨(wk_X8_read_X8_read_r4 _ (wm_16 (wm_1 wm_h))), ?_⟩
  refine wm_a ⟨?_, ?_⟩
  · refine wm_c ⟨(wk_X8_read_X8_read_r3 _ (wm_8 (wm_2 wm_h))), ?_⟩
    refine wm_c ⟨(wk_X8_read_X8_read_r2 _ (wm_16 (wm_2 wm_h))), ?_⟩
    exact wm_n
  · exact wk_X8_read_X80
set_option maxRecDepth 20000 in
theorem gX8_read_X8_copies : GoodIn wsX8_read (wsV RX8 139 RX8 yX8_copies wsX8_copies) := by
  refine goodIn_app (goodIn_sub ?_ ?_) ggX8_read_X8_copies
  · exact wm_c ⟨(wk_X8_read_X8_read_r4 _ (wm_8 (wm_4 (wm_2 wm_h)))), wm_c ⟨(wk_X8_read_X8_read_r4 _ (wm_8 (wm_4 (wm_2 (wm_1 wm_h))))), wm_c ⟨(wk_X8_read_X8_read_r4 _ (wm_16 wm_h)), wm_c ⟨(wk_X8_read_X8_read_r1 _ (wm_4 wm_h)), wm_n⟩⟩⟩⟩
  · decide +kernel
theorem dX8_read_0 : decode cX8_read 0 = .ok (.iload_n 1, 1) := by decide +kernel
theorem dX8_read_1 : decode cX8_read 1 = .ok (.invokestatic 157, 3) := by decide +kernel
theorem dX8_read_4 : decode cX8_read 4 = .ok (.ifCond .ne 5, 3) := by decide +kernel
theorem dX8_read_7 : decode cX8_read 7 = .ok (.iconst (-1), 1) := by decide +kernel
theorem dX8_read_8 : decode cX8_read 8 = .ok (.ireturn, 1) := by decide +kernel
theorem dX8_read_9 : decode cX8_read 9 = .ok (.aload_n 0, 1) := by decide +kernel
theorem dX8_read_10 : decode cX8_read 10 = .ok (.invokevirtual 302, 3) := by decide +kernel
theorem dX8_read_13 : decode cX8_read 13 = .ok (.istore_n 2, 1) := by decide +kernel
theorem dX8_read_14 : decode cX8_read 14 = .ok (.iload_n 2, 1) := by decide +kernel
theorem dX8_read_15 : decode cX8_read 15 = .ok (.iconst (-1), 1) := by decide +kernel
theorem dX8_read_16 : decode cX8_read 16 = .ok (.if_icmp .eq 13, 3) := by decide +kernel
theorem dX8_read_19 : decode cX8_read 19 = .ok (.aload_n 0, 1) := by decide +kernel
theorem dX8_read_20 : decode cX8_read 20 = .ok (.iconst 0, 1) := by decide +kernel
theorem dX8_read_21 : decode cX8_read 21 = .ok (.putfield 250, 3) := by decide +kernel
theorem dX8_read_24 : decode cX8_read 24 = .ok (.bipush (-10), 2) := by decide +kernel
theorem dX8_read_26 : decode cX8_read 26 = .ok (.iload_n 2, 1) := by decide +kernel
theorem dX8_read_27 : decode cX8_read 27 = .ok (.isub, 1) := by decide +kernel
theorem dX8_read_28 : decode cX8_read 28 = .ok (.ireturn, 1) := by decide +kernel
theorem dX8_read_29 : decode cX8_read 29 = .ok (.aload_n 0, 1) := by decide +kernel
theorem dX8_read_30 : decode cX8_read 30 = .ok (.invokevirtual 306, 3) := by decide +kernel
theorem dX8_read_33 : decode cX8_read 33 = .ok (.aload_n 0, 1) := by decide +kernel
theorem dX8_read_34 : decode cX8_read 34 = .ok (.iconst 0, 1) := by decide +kernel
theorem dX8_read_35 : decode cX8_read 35 = .ok (.putfield 250, 3) := by decide +kernel
theorem dX8_read_38 : decode cX8_read 38 = .ok (.aload_n 0, 1) := by decide +kernel
theorem dX8_read_39 : decode cX8_read 39 = .ok (.getfield 286, 3) := by decide +kernel
theorem dX8_read_42 : decode cX8_read 42 = .ok (.ifCond .eq 6, 3) := by decide +kernel
theorem dX8_read_45 : decode cX8_read 45 = .ok (.bipush (-9), 2) := by decide +kernel
theorem dX8_read_47 : decode cX8_read 47 = .ok (.ireturn, 1) := by decide +kernel
theorem dX8_read_48 : decode cX8_read 48 = .ok (.aload_n 0, 1) := by decide +kernel
theorem dX8_read_49 : decode cX8_read 49 = .ok (.iload_n 1, 1) := by decide +kernel
theorem dX8_read_50 : decode cX8_read 50 = .ok (.iconst 0, 1) := by decide +kernel
theorem dX8_read_51 : decode cX8_read 51 = .ok (.iconst 0, 1) := by decide +kernel
theorem dX8_read_52 : decode cX8_read 52 = .ok (.invokestatic 280, 3) := by decide +kernel
theorem dX8_read_55 : decode cX8_read 55 = .ok (.invokevirtual 139, 3) := by decide +kernel
theorem dX8_read_58 : decode cX8_read 58 = .ok (.iconst 0, 1) := by decide +kernel
theorem dX8_read_59 : decode cX8_read 59 = .ok (.ireturn, 1) := by decide +kernel
theorem dX8_count_0 : decode cX8_count 0 = .ok (.iload_n 1, 1) := by decide +kernel
theorem dX8_count_1 : decode cX8_count 1 = .ok (.tableswitch 78 0 6 #[43, 48, 53, 58, 63, 68, 73], 43) := by decide +kernel
theorem dX8_count_44 : decode cX8_count 44 = .ok (.aload_n 0, 1) := by decide +kernel
theorem dX8_count_45 : decode cX8_count 45 = .ok (.getfield 88, 3) := by decide +kernel
theorem dX8_count_48 : decode cX8_count 48 = .ok (.ireturn, 1) := by decide +kernel
theorem dX8_count_49 : decode cX8_count 49 = .ok (.aload_n 0, 1) := by decide +kernel
theorem dX8_count_50 : decode cX8_count 50 = .ok (.getfield 92, 3) := by decide +kernel
theorem dX8_count_53 : decode cX8_count 53 = .ok (.ireturn, 1) := by decide +kernel
theorem dX8_count_54 : decode cX8_count 54 = .ok (.aload_n 0, 1) := by decide +kernel
theorem dX8_count_55 : decode cX8_count 55 = .ok (.getfield 95, 3) := by decide +kernel
theorem dX8_count_58 : decode cX8_count 58 = .ok (.ireturn, 1) := by decide +kernel
theorem dX8_count_59 : decode cX8_count 59 = .ok (.aload_n 0, 1) := by decide +kernel
theorem dX8_count_60 : decode cX8_count 60 = .ok (.getfield 116, 3) := by decide +kernel
theorem dX8_count_63 : decode cX8_count 63 = .ok (.ireturn, 1) := by decide +kernel
theorem dX8_count_64 : decode cX8_count 64 = .ok (.aload_n 0, 1) := by decide +kernel
theorem dX8_count_65 : decode cX8_count 65 = .ok (.getfield 233, 3) := by decide +kernel
theorem dX8_count_68 : decode cX8_count 68 = .ok (.ireturn, 1) := by decide +kernel
theorem dX8_count_69 : decode cX8_count 69 = .ok (.aload_n 0, 1) := by decide +kernel
theorem dX8_count_70 : decode cX8_count 70 = .ok (.getfield 239, 3) := by decide +kernel
theorem dX8_count_73 : decode cX8_count 73 = .ok (.ireturn, 1) := by decide +kernel
theorem dX8_count_74 : decode cX8_count 74 = .ok (.aload_n 0, 1) := by decide +kernel
theorem dX8_count_75 : decode cX8_count 75 = .ok (.getfield 250, 3) := by decide +kernel
theorem dX8_count_78 : decode cX8_count 78 = .ok (.ireturn, 1) := by decide +kernel
theorem dX8_count_79 : decode cX8_count 79 = .ok (.iconst (-1), 1) := by decide +kernel
theorem dX8_count_80 : decode cX8_count 80 = .ok (.ireturn, 1) := by decide +kernel
theorem dJ9_floorMod_7cf53_0 : decode cJ9_floorMod_7cf53 0 = .ok (.iload_n 0, 1) := by decide +kernel
theorem dJ9_floorMod_7cf53_1 : decode cJ9_floorMod_7cf53 1 = .ok (.iload_n 1, 1) := by decide +kernel
theorem dJ9_floorMod_7cf53_2 : decode cJ9_floorMod_7cf53 2 = .ok (.irem, 1) := by decide +kernel
theorem dJ9_floorMod_7cf53_3 : decode cJ9_floorMod_7cf53 3 = .ok (.istore_n 2, 1) := by decide +kernel
theorem dJ9_floorMod_7cf53_4 : decode cJ9_floorMod_7cf53 4 = .ok (.iload_n 0, 1) := by decide +kernel
theorem dJ9_floorMod_7cf53_5 : decode cJ9_floorMod_7cf53 5 = .ok (.iload_n 1, 1) := by decide +kernel
theorem dJ9_floorMod_7cf53_6 : decode cJ9_floorMod_7cf53 6 = .ok (.ixor, 1) := by decide +kernel
theorem dJ9_floorMod_7cf53_7 : decode cJ9_floorMod_7cf53 7 = .ok (.ifCond .ge 11, 3) := by decide +kernel
theorem dJ9_floorMod_7cf53_10 : decode cJ9_floorMod_7cf53 10 = .ok (.iload_n 2, 1) := by decide +kernel
theorem dJ9_floorMod_7cf53_11 : decode cJ9_floorMod_7cf53 11 = .ok (.ifCond .eq 7, 3) := by decide +kernel
theorem dJ9_floorMod_7cf53_14 : decode cJ9_floorMod_7cf53 14 = .ok (.iload_n 2, 1) := by decide +kernel
theorem dJ9_floorMod_7cf53_15 : decode cJ9_floorMod_7cf53 15 = .ok (.iload_n 1, 1) := by decide +kernel
theorem dJ9_floorMod_7cf53_16 : decode cJ9_floorMod_7cf53 16 = .ok (.iadd, 1) := by decide +kernel
theorem dJ9_floorMod_7cf53_17 : decode cJ9_floorMod_7cf53 17 = .ok (.ireturn, 1) := by decide +kernel
theorem dJ9_floorMod_7cf53_18 : decode cJ9_floorMod_7cf53 18 = .ok (.iload_n 2, 1) := by decide +kernel
theorem dJ9_floorMod_7cf53_19 : decode cJ9_floorMod_7cf53 19 = .ok (.ireturn, 1) := by decide +kernel
theorem dJ9_min_7cf53_0 : decode cJ9_min_7cf53 0 = .ok (.iload_n 0, 1) := by decide +kernel
theorem dJ9_min_7cf53_1 : decode cJ9_min_7cf53 1 = .ok (.iload_n 1, 1) := by decide +kernel
theorem dJ9_min_7cf53_2 : decode cJ9_min_7cf53 2 = .ok (.if_icmp .gt 7, 3) := by decide +kernel
theorem dJ9_min_7cf53_5 : decode cJ9_min_7cf53 5 = .ok (.iload_n 0, 1) := by decide +kernel
theorem dJ9_min_7cf53_6 : decode cJ9_min_7cf53 6 = .ok (.goto 4, 3) := by decide +kernel
theorem dJ9_min_7cf53_9 : decode cJ9_min_7cf53 9 = .ok (.iload_n 1, 1) := by decide +kernel
theorem dJ9_min_7cf53_10 : decode cJ9_min_7cf53 10 = .ok (.ireturn, 1) := by decide +kernel
theorem dJ7_rangeCheck_23922_0 : decode cJ7_rangeCheck_23922 0 = .ok (.iload_n 1, 1) := by decide +kernel
theorem dJ7_rangeCheck_23922_1 : decode cJ7_rangeCheck_23922 1 = .ok (.iload_n 2, 1) := by decide +kernel
theorem dJ7_rangeCheck_23922_2 : decode cJ7_rangeCheck_23922 2 = .ok (.if_icmp .le 44, 3) := by decide +kernel
theorem dJ7_rangeCheck_23922_5 : decode cJ7_rangeCheck_23922 5 = .ok (.new 43, 3) := by decide +kernel
theorem dJ7_rangeCheck_23922_8 : decode cJ7_rangeCheck_23922 8 = .ok (.dup, 1) := by decide +kernel
theorem dJ7_rangeCheck_23922_9 : decode cJ7_rangeCheck_23922 9 = .ok (.new 45, 3) := by decide +kernel
theorem dJ7_rangeCheck_23922_12 : decode cJ7_rangeCheck_23922 12 = .ok (.dup, 1) := by decide +kernel
theorem dJ7_rangeCheck_23922_13 : decode cJ7_rangeCheck_23922 13 = .ok (.invokespecial 47, 3) := by decide +kernel
theorem dJ7_rangeCheck_23922_16 : decode cJ7_rangeCheck_23922 16 = .ok (.ldc 48, 2) := by decide +kernel
theorem dJ7_rangeCheck_23922_18 : decode cJ7_rangeCheck_23922 18 = .ok (.invokevirtual 50, 3) := by decide +kernel
theorem dJ7_rangeCheck_23922_21 : decode cJ7_rangeCheck_23922 21 = .ok (.iload_n 1, 1) := by decide +kernel
theorem dJ7_rangeCheck_23922_22 : decode cJ7_rangeCheck_23922 22 = .ok (.invokevirtual 54, 3) := by decide +kernel
theorem dJ7_rangeCheck_23922_25 : decode cJ7_rangeCheck_23922 25 = .ok (.ldc 57, 2) := by decide +kernel
theorem dJ7_rangeCheck_23922_27 : decode cJ7_rangeCheck_23922 27 = .ok (.invokevirtual 50, 3) := by decide +kernel
theorem dJ7_rangeCheck_23922_30 : decode cJ7_rangeCheck_23922 30 = .ok (.iload_n 2, 1) := by decide +kernel
theorem dJ7_rangeCheck_23922_31 : decode cJ7_rangeCheck_23922 31 = .ok (.invokevirtual 54, 3) := by decide +kernel
theorem dJ7_rangeCheck_23922_34 : decode cJ7_rangeCheck_23922 34 = .ok (.ldc 59, 2) := by decide +kernel
theorem dJ7_rangeCheck_23922_36 : decode cJ7_rangeCheck_23922 36 = .ok (.invokevirtual 50, 3) := by decide +kernel
theorem dJ7_rangeCheck_23922_39 : decode cJ7_rangeCheck_23922 39 = .ok (.invokevirtual 61, 3) := by decide +kernel
theorem dJ7_rangeCheck_23922_42 : decode cJ7_rangeCheck_23922 42 = .ok (.invokespecial 65, 3) := by decide +kernel
theorem dJ7_rangeCheck_23922_45 : decode cJ7_rangeCheck_23922 45 = .ok (.athrow, 1) := by decide +kernel
theorem dJ7_rangeCheck_23922_46 : decode cJ7_rangeCheck_23922 46 = .ok (.iload_n 1, 1) := by decide +kernel
theorem dJ7_rangeCheck_23922_47 : decode cJ7_rangeCheck_23922 47 = .ok (.ifCond .ge 12, 3) := by decide +kernel
theorem dJ7_rangeCheck_23922_50 : decode cJ7_rangeCheck_23922 50 = .ok (.new 68, 3) := by decide +kernel
theorem dJ7_rangeCheck_23922_53 : decode cJ7_rangeCheck_23922 53 = .ok (.dup, 1) := by decide +kernel
theorem dJ7_rangeCheck_23922_54 : decode cJ7_rangeCheck_23922 54 = .ok (.iload_n 1, 1) := by decide +kernel
theorem dJ7_rangeCheck_23922_55 : decode cJ7_rangeCheck_23922 55 = .ok (.invokespecial 70, 3) := by decide +kernel
theorem dJ7_rangeCheck_23922_58 : decode cJ7_rangeCheck_23922 58 = .ok (.athrow, 1) := by decide +kernel
theorem dJ7_rangeCheck_23922_59 : decode cJ7_rangeCheck_23922 59 = .ok (.iload_n 2, 1) := by decide +kernel
theorem dJ7_rangeCheck_23922_60 : decode cJ7_rangeCheck_23922 60 = .ok (.iload_n 0, 1) := by decide +kernel
theorem dJ7_rangeCheck_23922_61 : decode cJ7_rangeCheck_23922 61 = .ok (.if_icmp .le 12, 3) := by decide +kernel
theorem dJ7_rangeCheck_23922_64 : decode cJ7_rangeCheck_23922 64 = .ok (.new 68, 3) := by decide +kernel
theorem dJ7_rangeCheck_23922_67 : decode cJ7_rangeCheck_23922 67 = .ok (.dup, 1) := by decide +kernel
theorem dJ7_rangeCheck_23922_68 : decode cJ7_rangeCheck_23922 68 = .ok (.iload_n 2, 1) := by decide +kernel
theorem dJ7_rangeCheck_23922_69 : decode cJ7_rangeCheck_23922 69 = .ok (.invokespecial 70, 3) := by decide +kernel
theorem dJ7_rangeCheck_23922_72 : decode cJ7_rangeCheck_23922 72 = .ok (.athrow, 1) := by decide +kernel
theorem dJ7_rangeCheck_23922_73 : decode cJ7_rangeCheck_23922 73 = .ok (.return_, 1) := by decide +kernel
theorem dJ7_fill_53178_0 : decode cJ7_fill_53178 0 = .ok (.iconst 0, 1) := by decide +kernel
theorem dJ7_fill_53178_1 : decode cJ7_fill_53178 1 = .ok (.istore_n 2, 1) := by decide +kernel
theorem dJ7_fill_53178_2 : decode cJ7_fill_53178 2 = .ok (.aload_n 0, 1) := by decide +kernel
theorem dJ7_fill_53178_3 : decode cJ7_fill_53178 3 = .ok (.arraylength, 1) := by decide +kernel
theorem dJ7_fill_53178_4 : decode cJ7_fill_53178 4 = .ok (.istore_n 3, 1) := by decide +kernel
theorem dJ7_fill_53178_5 : decode cJ7_fill_53178 5 = .ok (.iload_n 2, 1) := by decide +kernel
theorem dJ7_fill_53178_6 : decode cJ7_fill_53178 6 = .ok (.iload_n 3, 1) := by decide +kernel
theorem dJ7_fill_53178_7 : decode cJ7_fill_53178 7 = .ok (.if_icmp .ge 13, 3) := by decide +kernel
theorem dJ7_fill_53178_10 : decode cJ7_fill_53178 10 = .ok (.aload_n 0, 1) := by decide +kernel
theorem dJ7_fill_53178_11 : decode cJ7_fill_53178 11 = .ok (.iload_n 2, 1) := by decide +kernel
theorem dJ7_fill_53178_12 : decode cJ7_fill_53178 12 = .ok (.iload_n 1, 1) := by decide +kernel
theorem dJ7_fill_53178_13 : decode cJ7_fill_53178 13 = .ok (.iastore, 1) := by decide +kernel
theorem dJ7_fill_53178_14 : decode cJ7_fill_53178 14 = .ok (.iinc 2 1, 3) := by decide +kernel
theorem dJ7_fill_53178_17 : decode cJ7_fill_53178 17 = .ok (.goto (-12), 3) := by decide +kernel
theorem dJ7_fill_53178_20 : decode cJ7_fill_53178 20 = .ok (.return_, 1) := by decide +kernel
set_option maxRecDepth 20000 in
theorem ggJ7_fill_fda19_J7_rangeCheck_23922 : GoodIn wsJ7_fill_fda19 wsJ7_rangeCheck_23922 := by
  refine goodIn_sub ?_ gd_J7_rangeCheck_23922
  unfold wsJ7_rangeCheck_23922
  refine wm_c ⟨(wm_1 (wm_2 (wm_1 wm_h))), ?_⟩
  exact wm_n
set_option maxRecDepth 20000 in
theorem gJ7_fill_fda19_J7_rangeCheck_23922 : GoodIn wsJ7_fill_fda19 (va_wsS RJ7 13 yJ7_rangeCheck_23922 wsJ7_rangeCheck_23922) := goodIn_app (goodIn_of _ (by decide +kernel)) ggJ7_fill_fda19_J7_rangeCheck_23922
theorem dJ7_fill_fda19_0 : decode cJ7_fill_fda19 0 = .ok (.aload_n 0, 1) := by decide +kernel
theorem dJ7_fill_fda19_1 : decode cJ7_fill_fda19 1 = .ok (.arraylength, 1) := by decide +kernel
theorem dJ7_fill_fda19_2 : decode cJ7_fill_fda19 2 = .ok (.iload_n 1, 1) := by decide +kernel
theorem dJ7_fill_fda19_3 : decode cJ7_fill_fda19 3 = .ok (.iload_n 2, 1) := by decide +kernel
theorem dJ7_fill_fda19_4 : decode cJ7_fill_fda19 4 = .ok (.invokestatic 13, 3) := by decide +kernel
theorem dJ7_fill_fda19_7 : decode cJ7_fill_fda19 7 = .ok (.iload_n 1, 1) := by decide +kernel
theorem dJ7_fill_fda19_8 : decode cJ7_fill_fda19 8 = .ok (.istore 4, 2) := by decide +kernel
theorem dJ7_fill_fda19_10 : decode cJ7_fill_fda19 10 = .ok (.iload 4, 2) := by decide +kernel
theorem dJ7_fill_fda19_12 : decode cJ7_fill_fda19 12 = .ok (.iload_n 2, 1) := by decide +kernel
theorem dJ7_fill_fda19_13 : decode cJ7_fill_fda19 13 = .ok (.if_icmp .ge 14, 3) := by decide +kernel
theorem dJ7_fill_fda19_16 : decode cJ7_fill_fda19 16 = .ok (.aload_n 0, 1) := by decide +kernel
theorem dJ7_fill_fda19_17 : decode cJ7_fill_fda19 17 = .ok (.iload 4, 2) := by decide +kernel
theorem dJ7_fill_fda19_19 : decode cJ7_fill_fda19 19 = .ok (.iload_n 3, 1) := by decide +kernel
theorem dJ7_fill_fda19_20 : decode cJ7_fill_fda19 20 = .ok (.iastore, 1) := by decide +kernel
theorem dJ7_fill_fda19_21 : decode cJ7_fill_fda19 21 = .ok (.iinc 4 1, 3) := by decide +kernel
theorem dJ7_fill_fda19_24 : decode cJ7_fill_fda19 24 = .ok (.goto (-14), 3) := by decide +kernel
theorem dJ7_fill_fda19_27 : decode cJ7_fill_fda19 27 = .ok (.return_, 1) := by decide +kernel
theorem dJ7_copyOf_59c91_0 : decode cJ7_copyOf_59c91 0 = .ok (.iload_n 1, 1) := by decide +kernel
theorem dJ7_copyOf_59c91_1 : decode cJ7_copyOf_59c91 1 = .ok (.aload_n 0, 1) := by decide +kernel
theorem dJ7_copyOf_59c91_2 : decode cJ7_copyOf_59c91 2 = .ok (.arraylength, 1) := by decide +kernel
theorem dJ7_copyOf_59c91_3 : decode cJ7_copyOf_59c91 3 = .ok (.if_icmp .ne 11, 3) := by decide +kernel
theorem dJ7_copyOf_59c91_6 : decode cJ7_copyOf_59c91 6 = .ok (.aload_n 0, 1) := by decide +kernel
theorem dJ7_copyOf_59c91_7 : decode cJ7_copyOf_59c91 7 = .ok (.invokevirtual 316, 3) := by decide +kernel
theorem dJ7_copyOf_59c91_10 : decode cJ7_copyOf_59c91 10 = .ok (.checkcast 317, 3) := by decide +kernel
theorem dJ7_copyOf_59c91_13 : decode cJ7_copyOf_59c91 13 = .ok (.areturn, 1) := by decide +kernel
theorem dJ7_copyOf_59c91_14 : decode cJ7_copyOf_59c91 14 = .ok (.iload_n 1, 1) := by decide +kernel
theorem dJ7_copyOf_59c91_15 : decode cJ7_copyOf_59c91 15 = .ok (.newarray .int, 2) := by decide +kernel
theorem dJ7_copyOf_59c91_17 : decode cJ7_copyOf_59c91 17 = .ok (.astore_n 2, 1) := by decide +kernel
theorem dJ7_copyOf_59c91_18 : decode cJ7_copyOf_59c91 18 = .ok (.aload_n 0, 1) := by decide +kernel
theorem dJ7_copyOf_59c91_19 : decode cJ7_copyOf_59c91 19 = .ok (.iconst 0, 1) := by decide +kernel
theorem dJ7_copyOf_59c91_20 : decode cJ7_copyOf_59c91 20 = .ok (.aload_n 2, 1) := by decide +kernel
theorem dJ7_copyOf_59c91_21 : decode cJ7_copyOf_59c91 21 = .ok (.iconst 0, 1) := by decide +kernel
theorem dJ7_copyOf_59c91_22 : decode cJ7_copyOf_59c91 22 = .ok (.aload_n 0, 1) := by decide +kernel
theorem dJ7_copyOf_59c91_23 : decode cJ7_copyOf_59c91 23 = .ok (.arraylength, 1) := by decide +kernel
theorem dJ7_copyOf_59c91_24 : decode cJ7_copyOf_59c91 24 = .ok (.iload_n 1, 1) := by decide +kernel
theorem dJ7_copyOf_59c91_25 : decode cJ7_copyOf_59c91 25 = .ok (.invokestatic 304, 3) := by decide +kernel
theorem dJ7_copyOf_59c91_28 : decode cJ7_copyOf_59c91 28 = .ok (.invokestatic 150, 3) := by decide +kernel
theorem dJ7_copyOf_59c91_31 : decode cJ7_copyOf_59c91 31 = .ok (.aload_n 2, 1) := by decide +kernel
theorem dJ7_copyOf_59c91_32 : decode cJ7_copyOf_59c91 32 = .ok (.areturn, 1) := by decide +kernel
