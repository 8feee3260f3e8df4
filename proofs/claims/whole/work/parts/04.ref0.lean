theorem dX3_plus_0 : decode cX3_plus 0 = .ok (.iload_n 0, 1) := by decide +kernel
theorem dX3_plus_1 : decode cX3_plus 1 = .ok (.ldc 9, 2) := by decide +kernel
theorem dX3_plus_3 : decode cX3_plus 3 = .ok (.iload_n 1, 1) := by decide +kernel
theorem dX3_plus_4 : decode cX3_plus 4 = .ok (.isub, 1) := by decide +kernel
theorem dX3_plus_5 : decode cX3_plus 5 = .ok (.isub, 1) := by decide +kernel
theorem dX3_plus_6 : decode cX3_plus 6 = .ok (.istore_n 2, 1) := by decide +kernel
theorem dX3_plus_7 : decode cX3_plus 7 = .ok (.iload_n 2, 1) := by decide +kernel
theorem dX3_plus_8 : decode cX3_plus 8 = .ok (.ifCond .ge 10, 3) := by decide +kernel
theorem dX3_plus_11 : decode cX3_plus 11 = .ok (.iload_n 2, 1) := by decide +kernel
theorem dX3_plus_12 : decode cX3_plus 12 = .ok (.ldc 9, 2) := by decide +kernel
theorem dX3_plus_14 : decode cX3_plus 14 = .ok (.iadd, 1) := by decide +kernel
theorem dX3_plus_15 : decode cX3_plus 15 = .ok (.goto 4, 3) := by decide +kernel
theorem dX3_plus_18 : decode cX3_plus 18 = .ok (.iload_n 2, 1) := by decide +kernel
theorem dX3_plus_19 : decode cX3_plus 19 = .ok (.ireturn, 1) := by decide +kernel
theorem dX3_minus_0 : decode cX3_minus 0 = .ok (.iload_n 0, 1) := by decide +kernel
theorem dX3_minus_1 : decode cX3_minus 1 = .ok (.iload_n 1, 1) := by decide +kernel
theorem dX3_minus_2 : decode cX3_minus 2 = .ok (.isub, 1) := by decide +kernel
theorem dX3_minus_3 : decode cX3_minus 3 = .ok (.istore_n 2, 1) := by decide +kernel
theorem dX3_minus_4 : decode cX3_minus 4 = .ok (.iload_n 2, 1) := by decide +kernel
theorem dX3_minus_5 : decode cX3_minus 5 = .ok (.ifCond .ge 10, 3) := by decide +kernel
theorem dX3_minus_8 : decode cX3_minus 8 = .ok (.iload_n 2, 1) := by decide +kernel
theorem dX3_minus_9 : decode cX3_minus 9 = .ok (.ldc 9, 2) := by decide +kernel
theorem dX3_minus_11 : decode cX3_minus 11 = .ok (.iadd, 1) := by decide +kernel
theorem dX3_minus_12 : decode cX3_minus 12 = .ok (.goto 4, 3) := by decide +kernel
theorem dX3_minus_15 : decode cX3_minus 15 = .ok (.iload_n 2, 1) := by decide +kernel
theorem dX3_minus_16 : decode cX3_minus 16 = .ok (.ireturn, 1) := by decide +kernel
theorem dX3_product_0 : decode cX3_product 0 = .ok (.iload_n 0, 1) := by decide +kernel
theorem dX3_product_1 : decode cX3_product 1 = .ok (.i2l, 1) := by decide +kernel
theorem dX3_product_2 : decode cX3_product 2 = .ok (.iload_n 1, 1) := by decide +kernel
theorem dX3_product_3 : decode cX3_product 3 = .ok (.i2l, 1) := by decide +kernel
theorem dX3_product_4 : decode cX3_product 4 = .ok (.lmul, 1) := by decide +kernel
theorem dX3_product_5 : decode cX3_product 5 = .ok (.ldc2_w 10, 3) := by decide +kernel
theorem dX3_product_8 : decode cX3_product 8 = .ok (.lrem, 1) := by decide +kernel
theorem dX3_product_9 : decode cX3_product 9 = .ok (.l2i, 1) := by decide +kernel
theorem dX3_product_10 : decode cX3_product 10 = .ok (.ireturn, 1) := by decide +kernel
theorem dX3_productMore_0 : decode cX3_productMore 0 = .ok (.iload_n 0, 1) := by decide +kernel
theorem dX3_productMore_1 : decode cX3_productMore 1 = .ok (.i2l, 1) := by decide +kernel
theorem dX3_productMore_2 : decode cX3_productMore 2 = .ok (.iload_n 1, 1) := by decide +kernel
theorem dX3_productMore_3 : decode cX3_productMore 3 = .ok (.i2l, 1) := by decide +kernel
theorem dX3_productMore_4 : decode cX3_productMore 4 = .ok (.iload_n 2, 1) := by decide +kernel
theorem dX3_productMore_5 : decode cX3_productMore 5 = .ok (.i2l, 1) := by decide +kernel
theorem dX3_productMore_6 : decode cX3_productMore 6 = .ok (.lmul, 1) := by decide +kernel
theorem dX3_productMore_7 : decode cX3_productMore 7 = .ok (.ladd, 1) := by decide +kernel
theorem dX3_productMore_8 : decode cX3_productMore 8 = .ok (.ldc2_w 10, 3) := by decide +kernel
theorem dX3_productMore_11 : decode cX3_productMore 11 = .ok (.lrem, 1) := by decide +kernel
theorem dX3_productMore_12 : decode cX3_productMore 12 = .ok (.l2i, 1) := by decide +kernel
theorem dX3_productMore_13 : decode cX3_productMore 13 = .ok (.ireturn, 1) := by decide +kernel
set_option maxRecDepth 20000 in
theorem ggX3_reciprocal_X3_product : GoodIn wsX3_reciprocal wsX3_product := by
  refine goodIn_sub ?_ gd_X3_product
  unfold wsX3_product
  refine wm_c ⟨(wm_1 (wm_4 wm_h)), ?_⟩
  refine wm_c ⟨(wm_1 (wm_4 (wm_1 wm_h))), ?_⟩
  exact wm_n
set_option maxRecDepth 20000 in
theorem gX3_reciprocal_X3_product : GoodIn wsX3_reciprocal (va_wsS RX3 13 yX3_product wsX3_product) := goodIn_app (goodIn_of _ (by decide +kernel)) ggX3_reciprocal_X3_product
theorem dX3_reciprocal_0 : decode cX3_reciprocal 0 = .ok (.ldc 12, 2) := by decide +kernel
theorem dX3_reciprocal_2 : decode cX3_reciprocal 2 = .ok (.istore_n 1, 1) := by decide +kernel
theorem dX3_reciprocal_3 : decode cX3_reciprocal 3 = .ok (.iload_n 0, 1) := by decide +kernel
theorem dX3_reciprocal_4 : decode cX3_reciprocal 4 = .ok (.istore_n 2, 1) := by decide +kernel
theorem dX3_reciprocal_5 : decode cX3_reciprocal 5 = .ok (.iconst 1, 1) := by decide +kernel
theorem dX3_reciprocal_6 : decode cX3_reciprocal 6 = .ok (.istore_n 3, 1) := by decide +kernel
theorem dX3_reciprocal_7 : decode cX3_reciprocal 7 = .ok (.iconst 0, 1) := by decide +kernel
theorem dX3_reciprocal_8 : decode cX3_reciprocal 8 = .ok (.istore 4, 2) := by decide +kernel
theorem dX3_reciprocal_10 : decode cX3_reciprocal 10 = .ok (.iload 4, 2) := by decide +kernel
theorem dX3_reciprocal_12 : decode cX3_reciprocal 12 = .ok (.bipush 31, 2) := by decide +kernel
theorem dX3_reciprocal_14 : decode cX3_reciprocal 14 = .ok (.if_icmp .ge 31, 3) := by decide +kernel
theorem dX3_reciprocal_17 : decode cX3_reciprocal 17 = .ok (.iload_n 1, 1) := by decide +kernel
theorem dX3_reciprocal_18 : decode cX3_reciprocal 18 = .ok (.iload 4, 2) := by decide +kernel
theorem dX3_reciprocal_20 : decode cX3_reciprocal 20 = .ok (.ishr, 1) := by decide +kernel
theorem dX3_reciprocal_21 : decode cX3_reciprocal 21 = .ok (.iconst 1, 1) := by decide +kernel
theorem dX3_reciprocal_22 : decode cX3_reciprocal 22 = .ok (.iand, 1) := by decide +kernel
theorem dX3_reciprocal_23 : decode cX3_reciprocal 23 = .ok (.iconst 1, 1) := by decide +kernel
theorem dX3_reciprocal_24 : decode cX3_reciprocal 24 = .ok (.if_icmp .ne 9, 3) := by decide +kernel
theorem dX3_reciprocal_27 : decode cX3_reciprocal 27 = .ok (.iload_n 3, 1) := by decide +kernel
theorem dX3_reciprocal_28 : decode cX3_reciprocal 28 = .ok (.iload_n 2, 1) := by decide +kernel
theorem dX3_reciprocal_29 : decode cX3_reciprocal 29 = .ok (.invokestatic 13, 3) := by decide +kernel
theorem dX3_reciprocal_32 : decode cX3_reciprocal 32 = .ok (.istore_n 3, 1) := by decide +kernel
theorem dX3_reciprocal_33 : decode cX3_reciprocal 33 = .ok (.iload_n 2, 1) := by decide +kernel
theorem dX3_reciprocal_34 : decode cX3_reciprocal 34 = .ok (.iload_n 2, 1) := by decide +kernel
theorem dX3_reciprocal_35 : decode cX3_reciprocal 35 = .ok (.invokestatic 13, 3) := by decide +kernel
theorem dX3_reciprocal_38 : decode cX3_reciprocal 38 = .ok (.istore_n 2, 1) := by decide +kernel
theorem dX3_reciprocal_39 : decode cX3_reciprocal 39 = .ok (.iinc 4 1, 3) := by decide +kernel
theorem dX3_reciprocal_42 : decode cX3_reciprocal 42 = .ok (.goto (-32), 3) := by decide +kernel
theorem dX3_reciprocal_45 : decode cX3_reciprocal 45 = .ok (.iload_n 3, 1) := by decide +kernel
theorem dX3_reciprocal_46 : decode cX3_reciprocal 46 = .ok (.ireturn, 1) := by decide +kernel
set_option maxRecDepth 20000 in
theorem ggX3_ratio_J9_floorMod_7cf53 : GoodIn wsX3_ratio wsJ9_floorMod_7cf53 := by
  refine goodIn_sub ?_ gd_J9_floorMod_7cf53
  unfold wsJ9_floorMod_7cf53
  refine wm_c ⟨(wm_1 (wm_4 wm_h)), ?_⟩
  exact wm_n
set_option maxRecDepth 20000 in
theorem gX3_ratio_J9_floorMod_7cf53 : GoodIn wsX3_ratio (va_wsS RX3 19 yJ9_floorMod_7cf53 wsJ9_floorMod_7cf53) := goodIn_app (goodIn_of _ (by decide +kernel)) ggX3_ratio_J9_floorMod_7cf53
set_option maxRecDepth 20000 in
theorem ggX3_ratio_X3_reciprocal : GoodIn wsX3_ratio wsX3_reciprocal := by
  refine goodIn_sub ?_ gd_X3_reciprocal
  unfold wsX3_reciprocal
  refine wm_c ⟨(wm_1 (wm_8 wm_h)), ?_⟩
  refine wm_c ⟨(wm_1 (wm_8 (wm_1 wm_h))), ?_⟩
  refine wm_c ⟨(wm_1 (wm_8 (wm_2 wm_h))), ?_⟩
  refine wm_c ⟨(wm_1 (wm_8 (wm_2 (wm_1 wm_h)))), ?_⟩
  refine wm_c ⟨(wm_1 (wm_4 (wm_2 (wm_1 wm_h)))), ?_⟩
  refine wm_c ⟨(wm_1 (wm_8 (wm_4 wm_h))), ?_⟩
  refine wm_c ⟨(wm_1 (wm_8 (wm_4 (wm_1 wm_h)))), ?_⟩
  exact wm_n
set_option maxRecDepth 20000 in
theorem gX3_ratio_X3_reciprocal : GoodIn wsX3_ratio (va_wsS RX3 24 yX3_reciprocal wsX3_reciprocal) := goodIn_app (goodIn_of _ (by decide +kernel)) ggX3_ratio_X3_reciprocal
set_option maxRecDepth 20000 in
theorem ggX3_ratio_X3_product : GoodIn wsX3_ratio wsX3_product := by
  refine goodIn_sub ?_ gd_X3_product
  unfold wsX3_product
  refine wm_c ⟨(wm_1 (wm_8 (wm_4 wm_h))), ?_⟩
  refine wm_c ⟨(wm_1 (wm_8 (wm_4 (wm_1 wm_h)))), ?_⟩
  exact wm_n
set_option maxRecDepth 20000 in
theorem gX3_ratio_X3_product : GoodIn wsX3_ratio (va_wsS RX3 13 yX3_product wsX3_product) := goodIn_app (goodIn_of _ (by decide +kernel)) ggX3_ratio_X3_product
theorem dX3_ratio_0 : decode cX3_ratio 0 = .ok (.iload_n 0, 1) := by decide +kernel
theorem dX3_ratio_1 : decode cX3_ratio 1 = .ok (.ldc 9, 2) := by decide +kernel
theorem dX3_ratio_3 : decode cX3_ratio 3 = .ok (.invokestatic 19, 3) := by decide +kernel
theorem dX3_ratio_6 : decode cX3_ratio 6 = .ok (.iload_n 1, 1) := by decide +kernel
theorem dX3_ratio_7 : decode cX3_ratio 7 = .ok (.invokestatic 24, 3) := by decide +kernel
theorem dX3_ratio_10 : decode cX3_ratio 10 = .ok (.invokestatic 13, 3) := by decide +kernel
theorem dX3_ratio_13 : decode cX3_ratio 13 = .ok (.ireturn, 1) := by decide +kernel
theorem dX3_nearNought_0 : decode cX3_nearNought 0 = .ok (.iload_n 0, 1) := by decide +kernel
theorem dX3_nearNought_1 : decode cX3_nearNought 1 = .ok (.ldc 28, 2) := by decide +kernel
theorem dX3_nearNought_3 : decode cX3_nearNought 3 = .ok (.if_icmp .le 10, 3) := by decide +kernel
theorem dX3_nearNought_6 : decode cX3_nearNought 6 = .ok (.iload_n 0, 1) := by decide +kernel
theorem dX3_nearNought_7 : decode cX3_nearNought 7 = .ok (.ldc 9, 2) := by decide +kernel
theorem dX3_nearNought_9 : decode cX3_nearNought 9 = .ok (.isub, 1) := by decide +kernel
theorem dX3_nearNought_10 : decode cX3_nearNought 10 = .ok (.goto 4, 3) := by decide +kernel
theorem dX3_nearNought_13 : decode cX3_nearNought 13 = .ok (.iload_n 0, 1) := by decide +kernel
theorem dX3_nearNought_14 : decode cX3_nearNought 14 = .ok (.ireturn, 1) := by decide +kernel
theorem dX8_in_0 : decode cX8_in 0 = .ok (.lload_n 0, 1) := by decide +kernel
theorem dX8_in_1 : decode cX8_in 1 = .ok (.lload_n 2, 1) := by decide +kernel
theorem dX8_in_2 : decode cX8_in 2 = .ok (.lcmp, 1) := by decide +kernel
theorem dX8_in_3 : decode cX8_in 3 = .ok (.ifCond .lt 14, 3) := by decide +kernel
theorem dX8_in_6 : decode cX8_in 6 = .ok (.lload_n 0, 1) := by decide +kernel
theorem dX8_in_7 : decode cX8_in 7 = .ok (.lload 4, 2) := by decide +kernel
theorem dX8_in_9 : decode cX8_in 9 = .ok (.lcmp, 1) := by decide +kernel
theorem dX8_in_10 : decode cX8_in 10 = .ok (.ifCond .gt 7, 3) := by decide +kernel
theorem dX8_in_13 : decode cX8_in 13 = .ok (.iconst 1, 1) := by decide +kernel
theorem dX8_in_14 : decode cX8_in 14 = .ok (.goto 4, 3) := by decide +kernel
theorem dX8_in_17 : decode cX8_in 17 = .ok (.iconst 0, 1) := by decide +kernel
theorem dX8_in_18 : decode cX8_in 18 = .ok (.ireturn, 1) := by decide +kernel
theorem dX8_mod_0 : decode cX8_mod 0 = .ok (.lload_n 0, 1) := by decide +kernel
theorem dX8_mod_1 : decode cX8_mod 1 = .ok (.ldc2_w 3, 3) := by decide +kernel
theorem dX8_mod_4 : decode cX8_mod 4 = .ok (.lrem, 1) := by decide +kernel
theorem dX8_mod_5 : decode cX8_mod 5 = .ok (.lstore_n 2, 1) := by decide +kernel
theorem dX8_mod_6 : decode cX8_mod 6 = .ok (.lload_n 2, 1) := by decide +kernel
theorem dX8_mod_7 : decode cX8_mod 7 = .ok (.lconst 0, 1) := by decide +kernel
theorem dX8_mod_8 : decode cX8_mod 8 = .ok (.lcmp, 1) := by decide +kernel
theorem dX8_mod_9 : decode cX8_mod 9 = .ok (.ifCond .ge 11, 3) := by decide +kernel
theorem dX8_mod_12 : decode cX8_mod 12 = .ok (.lload_n 2, 1) := by decide +kernel
theorem dX8_mod_13 : decode cX8_mod 13 = .ok (.ldc2_w 3, 3) := by decide +kernel
theorem dX8_mod_16 : decode cX8_mod 16 = .ok (.ladd, 1) := by decide +kernel
theorem dX8_mod_17 : decode cX8_mod 17 = .ok (.goto 4, 3) := by decide +kernel
theorem dX8_mod_20 : decode cX8_mod 20 = .ok (.lload_n 2, 1) := by decide +kernel
theorem dX8_mod_21 : decode cX8_mod 21 = .ok (.lreturn, 1) := by decide +kernel
theorem dX8_inverted_0 : decode cX8_inverted 0 = .ok (.lconst 1, 1) := by decide +kernel
theorem dX8_inverted_1 : decode cX8_inverted 1 = .ok (.lstore_n 2, 1) := by decide +kernel
theorem dX8_inverted_2 : decode cX8_inverted 2 = .ok (.lload_n 0, 1) := by decide +kernel
theorem dX8_inverted_3 : decode cX8_inverted 3 = .ok (.lstore 4, 2) := by decide +kernel
theorem dX8_inverted_5 : decode cX8_inverted 5 = .ok (.ldc2_w 5, 3) := by decide +kernel
theorem dX8_inverted_8 : decode cX8_inverted 8 = .ok (.lstore 6, 2) := by decide +kernel
theorem dX8_inverted_10 : decode cX8_inverted 10 = .ok (.lload 6, 2) := by decide +kernel
theorem dX8_inverted_12 : decode cX8_inverted 12 = .ok (.lconst 0, 1) := by decide +kernel
theorem dX8_inverted_13 : decode cX8_inverted 13 = .ok (.lcmp, 1) := by decide +kernel
theorem dX8_inverted_14 : decode cX8_inverted 14 = .ok (.ifCond .le 45, 3) := by decide +kernel
theorem dX8_inverted_17 : decode cX8_inverted 17 = .ok (.lload 6, 2) := by decide +kernel
theorem dX8_inverted_19 : decode cX8_inverted 19 = .ok (.lconst 1, 1) := by decide +kernel
theorem dX8_inverted_20 : decode cX8_inverted 20 = .ok (.land, 1) := by decide +kernel
theorem dX8_inverted_21 : decode cX8_inverted 21 = .ok (.lconst 1, 1) := by decide +kernel
theorem dX8_inverted_22 : decode cX8_inverted 22 = .ok (.lcmp, 1) := by decide +kernel
theorem dX8_inverted_23 : decode cX8_inverted 23 = .ok (.ifCond .ne 14, 3) := by decide +kernel
theorem dX8_inverted_26 : decode cX8_inverted 26 = .ok (.lload_n 2, 1) := by decide +kernel
theorem dX8_inverted_27 : decode cX8_inverted 27 = .ok (.lload 4, 2) := by decide +kernel
theorem dX8_inverted_29 : decode cX8_inverted 29 = .ok (.lmul, 1) := by decide +kernel
theorem dX8_inverted_30 : decode cX8_inverted 30 = .ok (.ldc2_w 3, 3) := by decide +kernel
theorem dX8_inverted_33 : decode cX8_inverted 33 = .ok (.lrem, 1) := by decide +kernel
theorem dX8_inverted_34 : decode cX8_inverted 34 = .ok (.goto 4, 3) := by decide +kernel
theorem dX8_inverted_37 : decode cX8_inverted 37 = .ok (.lload_n 2, 1) := by decide +kernel
theorem dX8_inverted_38 : decode cX8_inverted 38 = .ok (.lstore_n 2, 1) := by decide +kernel
theorem dX8_inverted_39 : decode cX8_inverted 39 = .ok (.lload 4, 2) := by decide +kernel
theorem dX8_inverted_41 : decode cX8_inverted 41 = .ok (.lload 4, 2) := by decide +kernel
theorem dX8_inverted_43 : decode cX8_inverted 43 = .ok (.lmul, 1) := by decide +kernel
theorem dX8_inverted_44 : decode cX8_inverted 44 = .ok (.ldc2_w 3, 3) := by decide +kernel
theorem dX8_inverted_47 : decode cX8_inverted 47 = .ok (.lrem, 1) := by decide +kernel
theorem dX8_inverted_48 : decode cX8_inverted 48 = .ok (.lstore 4, 2) := by decide +kernel
theorem dX8_inverted_50 : decode cX8_inverted 50 = .ok (.lload 6, 2) := by decide +kernel
theorem dX8_inverted_52 : decode cX8_inverted 52 = .ok (.iconst 1, 1) := by decide +kernel
theorem dX8_inverted_53 : decode cX8_inverted 53 = .ok (.lshr, 1) := by decide +kernel
theorem dX8_inverted_54 : decode cX8_inverted 54 = .ok (.lstore 6, 2) := by decide +kernel
theorem dX8_inverted_56 : decode cX8_inverted 56 = .ok (.goto (-46), 3) := by decide +kernel
theorem dX8_inverted_59 : decode cX8_inverted 59 = .ok (.lload_n 2, 1) := by decide +kernel
theorem dX8_inverted_60 : decode cX8_inverted 60 = .ok (.lreturn, 1) := by decide +kernel
theorem dX8_floorMod_0 : decode cX8_floorMod 0 = .ok (.iload_n 0, 1) := by decide +kernel
theorem dX8_floorMod_1 : decode cX8_floorMod 1 = .ok (.iload_n 1, 1) := by decide +kernel
theorem dX8_floorMod_2 : decode cX8_floorMod 2 = .ok (.irem, 1) := by decide +kernel
theorem dX8_floorMod_3 : decode cX8_floorMod 3 = .ok (.iload_n 1, 1) := by decide +kernel
theorem dX8_floorMod_4 : decode cX8_floorMod 4 = .ok (.iadd, 1) := by decide +kernel
theorem dX8_floorMod_5 : decode cX8_floorMod 5 = .ok (.iload_n 1, 1) := by decide +kernel
theorem dX8_floorMod_6 : decode cX8_floorMod 6 = .ok (.irem, 1) := by decide +kernel
theorem dX8_floorMod_7 : decode cX8_floorMod 7 = .ok (.ireturn, 1) := by decide +kernel
set_option maxRecDepth 20000 in
theorem ggX8_init_X8_floorMod : GoodIn wsX8_init wsX8_floorMod := by
  refine goodIn_sub ?_ gd_X8_floorMod
  unfold wsX8_floorMod
  refine wm_c ⟨(wk_X8_init_X8_init_r2 _ (wm_8 (wm_2 wm_h))), ?_⟩
  exact wm_n
set_option maxRecDepth 20000 in
theorem gX8_init_X8_floorMod : GoodIn wsX8_init (va_wsS RX8 84 yX8_floorMod wsX8_floorMod) := goodIn_app (goodIn_of _ (by decide +kernel)) ggX8_init_X8_floorMod
set_option maxRecDepth 20000 in
theorem ggX8_init_X8_isChief : GoodIn wsX8_init wsX8_isChief := by
  refine goodIn_sub ?_ gd_X8_isChief
  unfold wsX8_isChief
  refine wm_c ⟨(wk_X8_init_X8_init_r2 _ (wm_8 (wm_4 (wm_2 wm_h)))), ?_⟩
  refine wm_a ⟨?_, ?_⟩
  · refine wm_c ⟨(wk_X8_init_X8_init_r1 _ (wm_4 (wm_2 wm_h))), ?_⟩
    refine wm_c ⟨(wk_X8_init_X8_init_r2 _ (wm_8 (wm_4 (wm_2 (wm_1 wm_h))))), ?_⟩
    refine wm_c ⟨(wk_X8_init_X8_init_r2 _ (wm_16 wm_h)), ?_⟩
    refine wm_c ⟨(wk_X8_init_X8_init_r2 _ (wm_16 (wm_1 wm_h))), ?_⟩
    refine wm_c ⟨(wk_X8_init_X8_init_r2 _ (wm_8 (wm_1 wm_h))), ?_⟩
    refine wm_c ⟨(wk_X8_init_X8_init_r2 _ (wm_16 (wm_2 wm_h))), ?_⟩
    refine wm_c ⟨(wk_X8_init_X8_init_r1 _ (wm_4 (wm_1 wm_h))), ?_⟩
    refine wm_c ⟨(wk_X8_init_X8_init_r1 _ (wm_4 wm_h)), ?_⟩
    refine wm_c ⟨(wk_X8_init_X8_init_r2 _ (wm_16 (wm_2 (wm_1 wm_h)))), ?_⟩
    refine wm_c ⟨(wk_X8_init_X8_init_r2 _ (wm_16 (wm_4 wm_h))), ?_⟩
    refine wm_c ⟨(wk_X8_init_X8_init_r2 _ (wm_16 (wm_4 (wm_1 wm_h)))), ?_⟩
    refine wm_c ⟨(wk_X8_init_X8_init_r2 _ (wm_16 (wm_4 (wm_2 wm_h)))), ?_⟩
    refine wm_c ⟨(wk_X8_init_X8_init_r2 _ (wm_16 (wm_4 (wm_2 (wm_1 wm_h))))), ?_⟩
    refine wm_c ⟨(wk_X8_init_X8_init_r3 _ wm_h), ?_⟩
    refine wm_c ⟨(wk_X8_init_X8_init_r3 _ (wm_1 wm_h)), ?_⟩
    refine wm_c ⟨(wk_X8_init_X8_init_r3 _ (wm_2 wm_h)), ?_⟩
    refine wm_c ⟨(wk_X8_init_X8_init_r2 _ (wm_4 wm_h)), ?_⟩
    exact wm_n
  · exact wk_X8_init_X80
set_option maxRecDepth 20000 in
theorem gX8_init_X8_isChief : GoodIn wsX8_init (wsV RX8 98 RX8 yX8_isChief wsX8_isChief) := by
  refine goodIn_app (goodIn_sub ?_ ?_) ggX8_init_X8_isChief
  · exact wm_c ⟨(wk_X8_init_X8_init_r2 _ (wm_8 (wm_2 (wm_1 wm_h)))), wm_c ⟨(wk_X8_init_X8_init_r2 _ (wm_8 (wm_4 wm_h))), wm_c ⟨(wk_X8_init_X8_init_r2 _ (wm_8 (wm_4 (wm_1 wm_h)))), wm_c ⟨(wk_X8_init_X8_init_r2 _ (wm_8 (wm_1 wm_h))), wm_n⟩⟩⟩⟩
  · decide +kernel
set_option maxRecDepth 20000 in
theorem ggX8_init_X8_comes : GoodIn wsX8_init wsX8_comes := by
  refine goodIn_sub ?_ gd_X8_comes
  unfold wsX8_comes
  refine wm_c ⟨(wk_X8_init_X8_init_r3 _ (wm_4 (wm_2 wm_h))), ?_⟩
  refine wm_a ⟨?_, ?_⟩
  · refine wm_a ⟨?_, ?_⟩
    · unfold wsX8_comes_r1
      refine wm_c ⟨(wk_X8_init_X8_init_r1 _ (wm_4 (wm_2 wm_h))), ?_⟩
      refine wm_c ⟨(wk_X8_init_X8_init_r3 _ (wm_4 (wm_2 (wm_1 wm_h)))), ?_⟩
      refine wm_c ⟨(wk_X8_init_X8_init_r1 _ (wm_8 (wm_1 wm_h))), ?_⟩
      refine wm_c ⟨(wk_X8_init_X8_init_r1 _ (wm_8 (wm_4 (wm_1 wm_h)))), ?_⟩
      refine wm_c ⟨(wk_X8_init_X8_init_r1 _ (wm_8 (wm_2 wm_h))), ?_⟩
      refine wm_c ⟨(wk_X8_init_X8_init_r1 _ (wm_8 (wm_2 (wm_1 wm_h)))), ?_⟩
      refine wm_c ⟨(wk_X8_init_X8_init_r1 _ (wm_8 (wm_4 wm_h))), ?_⟩
      refine wm_c ⟨(wk_X8_init_X8_init_r1 _ (wm_8 (wm_4 (wm_2 wm_h)))), ?_⟩
      refine wm_c ⟨(wk_X8_init_X8_init_r1 _ (wm_4 (wm_1 wm_h))), ?_⟩
      refine wm_c ⟨(wk_X8_init_X8_init_r2 _ (wm_8 (wm_4 (wm_2 (wm_1 wm_h))))), ?_⟩
      refine wm_c ⟨(wk_X8_init_X8_init_r2 _ (wm_16 wm_h)), ?_⟩
      refine wm_c ⟨(wk_X8_init_X8_init_r2 _ (wm_16 (wm_1 wm_h))), ?_⟩
      refine wm_c ⟨(wk_X8_init_X8_init_r2 _ (wm_8 (wm_1 wm_h))), ?_⟩
      refine wm_c ⟨(wk_X8_init_X8_init_r2 _ (wm_16 (wm_2 wm_h))), ?_⟩
      refine wm_c ⟨(wk_X8_init_X8_init_r1 _ (wm_4 wm_h)), ?_⟩
      refine wm_c ⟨(wk_X8_init_X8_init_r2 _ (wm_8 (wm_2 (wm_1 wm_h)))), ?_⟩
      refine wm_c ⟨(wk_X8_init_X8_init_r2 _ (wm_8 (wm_4 wm_h))), ?_⟩
      refine wm_c ⟨(wk_X8_init_X8_init_r2 _ (wm_8 (wm_4 (wm_1 wm_h)))), ?_⟩
      refine wm_c ⟨(wk_X8_init_X8_init_r2 _ (wm_8 (wm_4 (wm_2 wm_h)))), ?_⟩
      refine wm_c ⟨(wk_X8_init_X8_init_r2 _ (wm_16 (wm_2 (wm_1 wm_h)))), ?_⟩
      refine wm_c ⟨(wk_X8_init_X8_init_r2 _ (wm_16 (wm_4 wm_h))), ?_⟩
      refine wm_c ⟨(wk_X8_init_X8_init_r2 _ (wm_16 (wm_4 (wm_1 wm_h)))), ?_⟩
      refine wm_c ⟨(wk_X8_init_X8_init_r2 _ (wm_16 (wm_4 (wm_2 wm_h)))), ?_⟩
      refine wm_c ⟨(wk_X8_init_X8_init_r2 _ (wm_16 (wm_4 (wm_2 (wm_1 wm_h))))), ?_⟩
      exact wm_n
    · unfold wsX8_comes_r2
      refine wm_c ⟨(wk_X8_init_X8_init_r3 _ wm_h), ?_⟩
      refine wm_c ⟨(wk_X8_init_X8_init_r3 _ (wm_1 wm_h)), ?_⟩
      refine wm_c ⟨(wk_X8_init_X8_init_r3 _ (wm_2 wm_h)), ?_⟩
      refine wm_c ⟨(wk_X8_init_X8_init_r2 _ (wm_4 wm_h)), ?_⟩
      refine wm_c ⟨(wk_X8_init_X8_init_r3 _ (wm_8 wm_h)), ?_⟩
      refine wm_c ⟨(wk_X8_init_X8_init_r3 _ (wm_8 (wm_1 wm_h))), ?_⟩
      refine wm_c ⟨(wk_X8_init_X8_init_r3 _ (wm_8 (wm_2 wm_h))), ?_⟩
      refine wm_c ⟨(wk_X8_init_X8_init_r3 _ (wm_8 (wm_2 (wm_1 wm_h)))), ?_⟩
      refine wm_c ⟨(wk_X8_init_X8_init_r3 _ (wm_8 (wm_4 wm_h))), ?_⟩
      refine wm_c ⟨(wk_X8_init_X8_init_r3 _ (wm_8 (wm_4 (wm_1 wm_h)))), ?_⟩
      refine wm_c ⟨(wk_X8_init_X8_init_r3 _ (wm_8 (wm_4 (wm_2 wm_h)))), ?_⟩
      refine wm_c ⟨(wk_X8_init_X8_init_r3 _ (wm_8 (wm_4 (wm_2 (wm_1 wm_h))))), ?_⟩
      refine wm_c ⟨(wk_X8_init_X8_init_r3 _ (wm_16 wm_h)), ?_⟩
      refine wm_c ⟨(wk_X8_init_X8_init_r3 _ (wm_16 (wm_1 wm_h))), ?_⟩
      refine wm_c ⟨(wk_X8_init_X8_init_r3 _ (wm_16 (wm_2 wm_h))), ?_⟩
      refine wm_c ⟨(wk_X8_init_X8_init_r3 _ (wm_16 (wm_2 (wm_1 wm_h)))), ?_⟩
      exact wm_n
  · exact wk_X8_init_X80
set_option maxRecDepth 20000 in
theorem gX8_init_X8_comes : GoodIn wsX8_init (wsV RX8 102 RX8 yX8_comes wsX8_comes) := by
  refine goodIn_app (goodIn_sub ?_ ?_) ggX8_init_X8_comes
  · exact wm_c ⟨(wk_X8_init_X8_init_r3 _ (wm_2 (wm_1 wm_h))), wm_c ⟨(wk_X8_init_X8_init_r3 _ (wm_4 wm_h)), wm_c ⟨(wk_X8_init_X8_init_r3 _ (wm_4 (wm_1 wm_h))), wm_c ⟨(wk_X8_init_X8_init_r2 _ (wm_8 (wm_1 wm_h))), wm_n⟩⟩⟩⟩
  · decide +kernel
theorem dX8_init_0 : decode cX8_init 0 = .ok (.aload_n 0, 1) := by decide +kernel
theorem dX8_init_1 : decode cX8_init 1 = .ok (.invokespecial 7, 3) := by decide +kernel
theorem dX8_init_4 : decode cX8_init 4 = .ok (.aload_n 0, 1) := by decide +kernel
theorem dX8_init_5 : decode cX8_init 5 = .ok (.bipush 8, 2) := by decide +kernel
theorem dX8_init_7 : decode cX8_init 7 = .ok (.newarray .int, 2) := by decide +kernel
theorem dX8_init_9 : decode cX8_init 9 = .ok (.putfield 13, 3) := by decide +kernel
theorem dX8_init_12 : decode cX8_init 12 = .ok (.aload_n 0, 1) := by decide +kernel
theorem dX8_init_13 : decode cX8_init 13 = .ok (.bipush 8, 2) := by decide +kernel
theorem dX8_init_15 : decode cX8_init 15 = .ok (.newarray .int, 2) := by decide +kernel
theorem dX8_init_17 : decode cX8_init 17 = .ok (.putfield 17, 3) := by decide +kernel
theorem dX8_init_20 : decode cX8_init 20 = .ok (.aload_n 0, 1) := by decide +kernel
theorem dX8_init_21 : decode cX8_init 21 = .ok (.sipush 364, 3) := by decide +kernel
theorem dX8_init_24 : decode cX8_init 24 = .ok (.newarray .int, 2) := by decide +kernel
theorem dX8_init_26 : decode cX8_init 26 = .ok (.putfield 20, 3) := by decide +kernel
theorem dX8_init_29 : decode cX8_init 29 = .ok (.aload_n 0, 1) := by decide +kernel
theorem dX8_init_30 : decode cX8_init 30 = .ok (.sipush 13104, 3) := by decide +kernel
theorem dX8_init_33 : decode cX8_init 33 = .ok (.newarray .long, 2) := by decide +kernel
theorem dX8_init_35 : decode cX8_init 35 = .ok (.putfield 23, 3) := by decide +kernel
theorem dX8_init_38 : decode cX8_init 38 = .ok (.aload_n 0, 1) := by decide +kernel
theorem dX8_init_39 : decode cX8_init 39 = .ok (.bipush 100, 2) := by decide +kernel
theorem dX8_init_41 : decode cX8_init 41 = .ok (.newarray .int, 2) := by decide +kernel
theorem dX8_init_43 : decode cX8_init 43 = .ok (.putfield 27, 3) := by decide +kernel
theorem dX8_init_46 : decode cX8_init 46 = .ok (.aload_n 0, 1) := by decide +kernel
theorem dX8_init_47 : decode cX8_init 47 = .ok (.bipush 100, 2) := by decide +kernel
theorem dX8_init_49 : decode cX8_init 49 = .ok (.newarray .int, 2) := by decide +kernel
theorem dX8_init_51 : decode cX8_init 51 = .ok (.putfield 30, 3) := by decide +kernel
theorem dX8_init_54 : decode cX8_init 54 = .ok (.aload_n 0, 1) := by decide +kernel
theorem dX8_init_55 : decode cX8_init 55 = .ok (.bipush 100, 2) := by decide +kernel
theorem dX8_init_57 : decode cX8_init 57 = .ok (.newarray .int, 2) := by decide +kernel
theorem dX8_init_59 : decode cX8_init 59 = .ok (.putfield 33, 3) := by decide +kernel
theorem dX8_init_62 : decode cX8_init 62 = .ok (.aload_n 0, 1) := by decide +kernel
theorem dX8_init_63 : decode cX8_init 63 = .ok (.bipush 100, 2) := by decide +kernel
theorem dX8_init_65 : decode cX8_init 65 = .ok (.newarray .int, 2) := by decide +kernel
theorem dX8_init_67 : decode cX8_init 67 = .ok (.putfield 36, 3) := by decide +kernel
theorem dX8_init_70 : decode cX8_init 70 = .ok (.aload_n 0, 1) := by decide +kernel
theorem dX8_init_71 : decode cX8_init 71 = .ok (.sipush 364, 3) := by decide +kernel
theorem dX8_init_74 : decode cX8_init 74 = .ok (.newarray .int, 2) := by decide +kernel
theorem dX8_init_76 : decode cX8_init 76 = .ok (.putfield 39, 3) := by decide +kernel
theorem dX8_init_79 : decode cX8_init 79 = .ok (.aload_n 0, 1) := by decide +kernel
theorem dX8_init_80 : decode cX8_init 80 = .ok (.sipush 25600, 3) := by decide +kernel
theorem dX8_init_83 : decode cX8_init 83 = .ok (.newarray .long, 2) := by decide +kernel
theorem dX8_init_85 : decode cX8_init 85 = .ok (.putfield 42, 3) := by decide +kernel
theorem dX8_init_88 : decode cX8_init 88 = .ok (.aload_n 0, 1) := by decide +kernel
theorem dX8_init_89 : decode cX8_init 89 = .ok (.sipush 256, 3) := by decide +kernel
theorem dX8_init_92 : decode cX8_init 92 = .ok (.newarray .long, 2) := by decide +kernel
theorem dX8_init_94 : decode cX8_init 94 = .ok (.putfield 45, 3) := by decide +kernel
theorem dX8_init_97 : decode cX8_init 97 = .ok (.aload_n 0, 1) := by decide +kernel
theorem dX8_init_98 : decode cX8_init 98 = .ok (.sipush 256, 3) := by decide +kernel
theorem dX8_init_101 : decode cX8_init 101 = .ok (.newarray .long, 2) := by decide +kernel
theorem dX8_init_103 : decode cX8_init 103 = .ok (.putfield 48, 3) := by decide +kernel
theorem dX8_init_106 : decode cX8_init 106 = .ok (.aload_n 0, 1) := by decide +kernel
theorem dX8_init_107 : decode cX8_init 107 = .ok (.bipush 12, 2) := by decide +kernel
theorem dX8_init_109 : decode cX8_init 109 = .ok (.newarray .int, 2) := by decide +kernel
theorem dX8_init_111 : decode cX8_init 111 = .ok (.putfield 51, 3) := by decide +kernel
theorem dX8_init_114 : decode cX8_init 114 = .ok (.aload_n 0, 1) := by decide +kernel
theorem dX8_init_115 : decode cX8_init 115 = .ok (.bipush 12, 2) := by decide +kernel
theorem dX8_init_117 : decode cX8_init 117 = .ok (.newarray .long, 2) := by decide +kernel
theorem dX8_init_119 : decode cX8_init 119 = .ok (.putfield 54, 3) := by decide +kernel
theorem dX8_init_122 : decode cX8_init 122 = .ok (.aload_n 0, 1) := by decide +kernel
theorem dX8_init_123 : decode cX8_init 123 = .ok (.iconst 4, 1) := by decide +kernel
theorem dX8_init_124 : decode cX8_init 124 = .ok (.newarray .int, 2) := by decide +kernel
theorem dX8_init_126 : decode cX8_init 126 = .ok (.putfield 57, 3) := by decide +kernel
theorem dX8_init_129 : decode cX8_init 129 = .ok (.aload_n 0, 1) := by decide +kernel
theorem dX8_init_130 : decode cX8_init 130 = .ok (.sipush 1024, 3) := by decide +kernel
theorem dX8_init_133 : decode cX8_init 133 = .ok (.newarray .long, 2) := by decide +kernel
theorem dX8_init_135 : decode cX8_init 135 = .ok (.putfield 60, 3) := by decide +kernel
theorem dX8_init_138 : decode cX8_init 138 = .ok (.aload_n 0, 1) := by decide +kernel
theorem dX8_init_139 : decode cX8_init 139 = .ok (.sipush 25600, 3) := by decide +kernel
theorem dX8_init_142 : decode cX8_init 142 = .ok (.newarray .long, 2) := by decide +kernel
theorem dX8_init_144 : decode cX8_init 144 = .ok (.putfield 63, 3) := by decide +kernel
theorem dX8_init_147 : decode cX8_init 147 = .ok (.aload_n 0, 1) := by decide +kernel
theorem dX8_init_148 : decode cX8_init 148 = .ok (.bipush 100, 2) := by decide +kernel
theorem dX8_init_150 : decode cX8_init 150 = .ok (.newarray .int, 2) := by decide +kernel
theorem dX8_init_152 : decode cX8_init 152 = .ok (.putfield 66, 3) := by decide +kernel
theorem dX8_init_155 : decode cX8_init 155 = .ok (.aload_n 0, 1) := by decide +kernel
theorem dX8_init_156 : decode cX8_init 156 = .ok (.sipush 25600, 3) := by decide +kernel
theorem dX8_init_159 : decode cX8_init 159 = .ok (.newarray .long, 2) := by decide +kernel
theorem dX8_init_161 : decode cX8_init 161 = .ok (.putfield 69, 3) := by decide +kernel
theorem dX8_init_164 : decode cX8_init 164 = .ok (.aload_n 0, 1) := by decide +kernel
theorem dX8_init_165 : decode cX8_init 165 = .ok (.bipush 100, 2) := by decide +kernel
theorem dX8_init_167 : decode cX8_init 167 = .ok (.newarray .int, 2) := by decide +kernel
theorem dX8_init_169 : decode cX8_init 169 = .ok (.putfield 72, 3) := by decide +kernel
theorem dX8_init_172 : decode cX8_init 172 = .ok (.aload_n 0, 1) := by decide +kernel
theorem dX8_init_173 : decode cX8_init 173 = .ok (.bipush 8, 2) := by decide +kernel
theorem dX8_init_175 : decode cX8_init 175 = .ok (.newarray .int, 2) := by decide +kernel
theorem dX8_init_177 : decode cX8_init 177 = .ok (.putfield 75, 3) := by decide +kernel
theorem dX8_init_180 : decode cX8_init 180 = .ok (.aload_n 0, 1) := by decide +kernel
theorem dX8_init_181 : decode cX8_init 181 = .ok (.bipush 8, 2) := by decide +kernel
theorem dX8_init_183 : decode cX8_init 183 = .ok (.newarray .int, 2) := by decide +kernel
theorem dX8_init_185 : decode cX8_init 185 = .ok (.putfield 78, 3) := by decide +kernel
theorem dX8_init_188 : decode cX8_init 188 = .ok (.aload_n 0, 1) := by decide +kernel
theorem dX8_init_189 : decode cX8_init 189 = .ok (.bipush 8, 2) := by decide +kernel
theorem dX8_init_191 : decode cX8_init 191 = .ok (.newarray .long, 2) := by decide +kernel
theorem dX8_init_193 : decode cX8_init 193 = .ok (.putfield 81, 3) := by decide +kernel
theorem dX8_init_196 : decode cX8_init 196 = .ok (.aload_n 0, 1) := by decide +kernel
theorem dX8_init_197 : decode cX8_init 197 = .ok (.iconst 2, 1) := by decide +kernel
theorem dX8_init_198 : decode cX8_init 198 = .ok (.iload_n 1, 1) := by decide +kernel
theorem dX8_init_199 : decode cX8_init 199 = .ok (.iconst 3, 1) := by decide +kernel
theorem dX8_init_200 : decode cX8_init 200 = .ok (.invokestatic 84, 3) := by decide +kernel
theorem dX8_init_203 : decode cX8_init 203 = .ok (.iadd, 1) := by decide +kernel
theorem dX8_init_204 : decode cX8_init 204 = .ok (.putfield 88, 3) := by decide +kernel
theorem dX8_init_207 : decode cX8_init 207 = .ok (.aload_n 0, 1) := by decide +kernel
theorem dX8_init_208 : decode cX8_init 208 = .ok (.iconst 2, 1) := by decide +kernel
theorem dX8_init_209 : decode cX8_init 209 = .ok (.iload_n 2, 1) := by decide +kernel
theorem dX8_init_210 : decode cX8_init 210 = .ok (.aload_n 0, 1) := by decide +kernel
theorem dX8_init_211 : decode cX8_init 211 = .ok (.getfield 88, 3) := by decide +kernel
theorem dX8_init_214 : decode cX8_init 214 = .ok (.iconst 2, 1) := by decide +kernel
theorem dX8_init_215 : decode cX8_init 215 = .ok (.if_icmp .ne 7, 3) := by decide +kernel
theorem dX8_init_218 : decode cX8_init 218 = .ok (.iconst 5, 1) := by decide +kernel
theorem dX8_init_219 : decode cX8_init 219 = .ok (.goto 16, 3) := by decide +kernel
theorem dX8_init_222 : decode cX8_init 222 = .ok (.aload_n 0, 1) := by decide +kernel
theorem dX8_init_223 : decode cX8_init 223 = .ok (.getfield 88, 3) := by decide +kernel
theorem dX8_init_226 : decode cX8_init 226 = .ok (.iconst 3, 1) := by decide +kernel
theorem dX8_init_227 : decode cX8_init 227 = .ok (.if_icmp .ne 7, 3) := by decide +kernel
theorem dX8_init_230 : decode cX8_init 230 = .ok (.iconst 4, 1) := by decide +kernel
theorem dX8_init_231 : decode cX8_init 231 = .ok (.goto 4, 3) := by decide +kernel
theorem dX8_init_234 : decode cX8_init 234 = .ok (.iconst 3, 1) := by decide +kernel
theorem dX8_init_235 : decode cX8_init 235 = .ok (.invokestatic 84, 3) := by decide +kernel
theorem dX8_init_238 : decode cX8_init 238 = .ok (.iadd, 1) := by decide +kernel
theorem dX8_init_239 : decode cX8_init 239 = .ok (.putfield 92, 3) := by decide +kernel
theorem dX8_init_242 : decode cX8_init 242 = .ok (.aload_n 0, 1) := by decide +kernel
theorem dX8_init_243 : decode cX8_init 243 = .ok (.getfield 13, 3) := by decide +kernel
theorem dX8_init_246 : decode cX8_init 246 = .ok (.iconst 0, 1) := by decide +kernel
theorem dX8_init_247 : decode cX8_init 247 = .ok (.iconst 1, 1) := by decide +kernel
theorem dX8_init_248 : decode cX8_init 248 = .ok (.iastore, 1) := by decide +kernel
theorem dX8_init_249 : decode cX8_init 249 = .ok (.iconst 0, 1) := by decide +kernel
theorem dX8_init_250 : decode cX8_init 250 = .ok (.istore_n 3, 1) := by decide +kernel
theorem dX8_init_251 : decode cX8_init 251 = .ok (.iload_n 3, 1) := by decide +kernel
theorem dX8_init_252 : decode cX8_init 252 = .ok (.aload_n 0, 1) := by decide +kernel
theorem dX8_init_253 : decode cX8_init 253 = .ok (.getfield 92, 3) := by decide +kernel
theorem dX8_init_256 : decode cX8_init 256 = .ok (.if_icmp .gt 78, 3) := by decide +kernel
theorem dX8_init_259 : decode cX8_init 259 = .ok (.aload_n 0, 1) := by decide +kernel
theorem dX8_init_260 : decode cX8_init 260 = .ok (.getfield 17, 3) := by decide +kernel
theorem dX8_init_263 : decode cX8_init 263 = .ok (.iload_n 3, 1) := by decide +kernel
theorem dX8_init_264 : decode cX8_init 264 = .ok (.aload_n 0, 1) := by decide +kernel
theorem dX8_init_265 : decode cX8_init 265 = .ok (.getfield 95, 3) := by decide +kernel
theorem dX8_init_268 : decode cX8_init 268 = .ok (.iastore, 1) := by decide +kernel
theorem dX8_init_269 : decode cX8_init 269 = .ok (.iconst 0, 1) := by decide +kernel
theorem dX8_init_270 : decode cX8_init 270 = .ok (.istore 4, 2) := by decide +kernel
theorem dX8_init_272 : decode cX8_init 272 = .ok (.iload 4, 2) := by decide +kernel
theorem dX8_init_274 : decode cX8_init 274 = .ok (.aload_n 0, 1) := by decide +kernel
theorem dX8_init_275 : decode cX8_init 275 = .ok (.getfield 13, 3) := by decide +kernel
theorem dX8_init_278 : decode cX8_init 278 = .ok (.iload_n 3, 1) := by decide +kernel
theorem dX8_init_279 : decode cX8_init 279 = .ok (.iaload, 1) := by decide +kernel
theorem dX8_init_280 : decode cX8_init 280 = .ok (.if_icmp .ge 29, 3) := by decide +kernel
theorem dX8_init_283 : decode cX8_init 283 = .ok (.aload_n 0, 1) := by decide +kernel
theorem dX8_init_284 : decode cX8_init 284 = .ok (.getfield 20, 3) := by decide +kernel
theorem dX8_init_287 : decode cX8_init 287 = .ok (.aload_n 0, 1) := by decide +kernel
theorem dX8_init_288 : decode cX8_init 288 = .ok (.getfield 95, 3) := by decide +kernel
theorem dX8_init_291 : decode cX8_init 291 = .ok (.iload_n 3, 1) := by decide +kernel
theorem dX8_init_292 : decode cX8_init 292 = .ok (.iastore, 1) := by decide +kernel
theorem dX8_init_293 : decode cX8_init 293 = .ok (.aload_n 0, 1) := by decide +kernel
theorem dX8_init_294 : decode cX8_init 294 = .ok (.dup, 1) := by decide +kernel
theorem dX8_init_295 : decode cX8_init 295 = .ok (.getfield 95, 3) := by decide +kernel
theorem dX8_init_298 : decode cX8_init 298 = .ok (.iconst 1, 1) := by decide +kernel
theorem dX8_init_299 : decode cX8_init 299 = .ok (.iadd, 1) := by decide +kernel
theorem dX8_init_300 : decode cX8_init 300 = .ok (.putfield 95, 3) := by decide +kernel
theorem dX8_init_303 : decode cX8_init 303 = .ok (.iinc 4 1, 3) := by decide +kernel
theorem dX8_init_306 : decode cX8_init 306 = .ok (.goto (-34), 3) := by decide +kernel
theorem dX8_init_309 : decode cX8_init 309 = .ok (.aload_n 0, 1) := by decide +kernel
theorem dX8_init_310 : decode cX8_init 310 = .ok (.getfield 13, 3) := by decide +kernel
theorem dX8_init_313 : decode cX8_init 313 = .ok (.iload_n 3, 1) := by decide +kernel
theorem dX8_init_314 : decode cX8_init 314 = .ok (.iconst 1, 1) := by decide +kernel
theorem dX8_init_315 : decode cX8_init 315 = .ok (.iadd, 1) := by decide +kernel
theorem dX8_init_316 : decode cX8_init 316 = .ok (.aload_n 0, 1) := by decide +kernel
theorem dX8_init_317 : decode cX8_init 317 = .ok (.getfield 13, 3) := by decide +kernel
theorem dX8_init_320 : decode cX8_init 320 = .ok (.iload_n 3, 1) := by decide +kernel
theorem dX8_init_321 : decode cX8_init 321 = .ok (.iaload, 1) := by decide +kernel
theorem dX8_init_322 : decode cX8_init 322 = .ok (.aload_n 0, 1) := by decide +kernel
theorem dX8_init_323 : decode cX8_init 323 = .ok (.getfield 88, 3) := by decide +kernel
theorem dX8_init_326 : decode cX8_init 326 = .ok (.imul, 1) := by decide +kernel
theorem dX8_init_327 : decode cX8_init 327 = .ok (.iastore, 1) := by decide +kernel
theorem dX8_init_328 : decode cX8_init 328 = .ok (.iinc 3 1, 3) := by decide +kernel
theorem dX8_init_331 : decode cX8_init 331 = .ok (.goto (-80), 3) := by decide +kernel
theorem dX8_init_334 : decode cX8_init 334 = .ok (.aload_n 0, 1) := by decide +kernel
theorem dX8_init_335 : decode cX8_init 335 = .ok (.getfield 17, 3) := by decide +kernel
theorem dX8_init_338 : decode cX8_init 338 = .ok (.aload_n 0, 1) := by decide +kernel
theorem dX8_init_339 : decode cX8_init 339 = .ok (.getfield 92, 3) := by decide +kernel
theorem dX8_init_342 : decode cX8_init 342 = .ok (.iconst 1, 1) := by decide +kernel
theorem dX8_init_343 : decode cX8_init 343 = .ok (.iadd, 1) := by decide +kernel
theorem dX8_init_344 : decode cX8_init 344 = .ok (.aload_n 0, 1) := by decide +kernel
theorem dX8_init_345 : decode cX8_init 345 = .ok (.getfield 95, 3) := by decide +kernel
theorem dX8_init_348 : decode cX8_init 348 = .ok (.iastore, 1) := by decide +kernel
theorem dX8_init_349 : decode cX8_init 349 = .ok (.iconst 1, 1) := by decide +kernel
theorem dX8_init_350 : decode cX8_init 350 = .ok (.istore_n 3, 1) := by decide +kernel
theorem dX8_init_351 : decode cX8_init 351 = .ok (.iload_n 3, 1) := by decide +kernel
theorem dX8_init_352 : decode cX8_init 352 = .ok (.aload_n 0, 1) := by decide +kernel
theorem dX8_init_353 : decode cX8_init 353 = .ok (.getfield 95, 3) := by decide +kernel
theorem dX8_init_356 : decode cX8_init 356 = .ok (.if_icmp .ge 29, 3) := by decide +kernel
theorem dX8_init_359 : decode cX8_init 359 = .ok (.aload_n 0, 1) := by decide +kernel
theorem dX8_init_360 : decode cX8_init 360 = .ok (.getfield 39, 3) := by decide +kernel
theorem dX8_init_363 : decode cX8_init 363 = .ok (.iload_n 3, 1) := by decide +kernel
theorem dX8_init_364 : decode cX8_init 364 = .ok (.iconst (-1), 1) := by decide +kernel
theorem dX8_init_365 : decode cX8_init 365 = .ok (.iastore, 1) := by decide +kernel
theorem dX8_init_366 : decode cX8_init 366 = .ok (.aload_n 0, 1) := by decide +kernel
theorem dX8_init_367 : decode cX8_init 367 = .ok (.iload_n 3, 1) := by decide +kernel
theorem dX8_init_368 : decode cX8_init 368 = .ok (.invokevirtual 98, 3) := by decide +kernel
theorem dX8_init_371 : decode cX8_init 371 = .ok (.ifCond .eq 8, 3) := by decide +kernel
theorem dX8_init_374 : decode cX8_init 374 = .ok (.aload_n 0, 1) := by decide +kernel
theorem dX8_init_375 : decode cX8_init 375 = .ok (.iload_n 3, 1) := by decide +kernel
theorem dX8_init_376 : decode cX8_init 376 = .ok (.invokevirtual 102, 3) := by decide +kernel
theorem dX8_init_379 : decode cX8_init 379 = .ok (.iinc 3 1, 3) := by decide +kernel
theorem dX8_init_382 : decode cX8_init 382 = .ok (.goto (-31), 3) := by decide +kernel
theorem dX8_init_385 : decode cX8_init 385 = .ok (.aload_n 0, 1) := by decide +kernel
theorem dX8_init_386 : decode cX8_init 386 = .ok (.getfield 39, 3) := by decide +kernel
theorem dX8_init_389 : decode cX8_init 389 = .ok (.iconst 0, 1) := by decide +kernel
theorem dX8_init_390 : decode cX8_init 390 = .ok (.iconst (-1), 1) := by decide +kernel
theorem dX8_init_391 : decode cX8_init 391 = .ok (.iastore, 1) := by decide +kernel
theorem dX8_init_392 : decode cX8_init 392 = .ok (.return_, 1) := by decide +kernel
theorem dX8_letterAt_0 : decode cX8_letterAt 0 = .ok (.iload_n 1, 1) := by decide +kernel
theorem dX8_letterAt_1 : decode cX8_letterAt 1 = .ok (.aload_n 0, 1) := by decide +kernel
theorem dX8_letterAt_2 : decode cX8_letterAt 2 = .ok (.getfield 17, 3) := by decide +kernel
theorem dX8_letterAt_5 : decode cX8_letterAt 5 = .ok (.aload_n 0, 1) := by decide +kernel
theorem dX8_letterAt_6 : decode cX8_letterAt 6 = .ok (.getfield 20, 3) := by decide +kernel
theorem dX8_letterAt_9 : decode cX8_letterAt 9 = .ok (.iload_n 1, 1) := by decide +kernel
theorem dX8_letterAt_10 : decode cX8_letterAt 10 = .ok (.iaload, 1) := by decide +kernel
theorem dX8_letterAt_11 : decode cX8_letterAt 11 = .ok (.iaload, 1) := by decide +kernel
theorem dX8_letterAt_12 : decode cX8_letterAt 12 = .ok (.isub, 1) := by decide +kernel
theorem dX8_letterAt_13 : decode cX8_letterAt 13 = .ok (.aload_n 0, 1) := by decide +kernel
theorem dX8_letterAt_14 : decode cX8_letterAt 14 = .ok (.getfield 13, 3) := by decide +kernel
theorem dX8_letterAt_17 : decode cX8_letterAt 17 = .ok (.aload_n 0, 1) := by decide +kernel
theorem dX8_letterAt_18 : decode cX8_letterAt 18 = .ok (.getfield 20, 3) := by decide +kernel
theorem dX8_letterAt_21 : decode cX8_letterAt 21 = .ok (.iload_n 1, 1) := by decide +kernel
theorem dX8_letterAt_22 : decode cX8_letterAt 22 = .ok (.iaload, 1) := by decide +kernel
theorem dX8_letterAt_23 : decode cX8_letterAt 23 = .ok (.iconst 1, 1) := by decide +kernel
theorem dX8_letterAt_24 : decode cX8_letterAt 24 = .ok (.isub, 1) := by decide +kernel
theorem dX8_letterAt_25 : decode cX8_letterAt 25 = .ok (.iload_n 2, 1) := by decide +kernel
theorem dX8_letterAt_26 : decode cX8_letterAt 26 = .ok (.isub, 1) := by decide +kernel
theorem dX8_letterAt_27 : decode cX8_letterAt 27 = .ok (.iaload, 1) := by decide +kernel
theorem dX8_letterAt_28 : decode cX8_letterAt 28 = .ok (.idiv, 1) := by decide +kernel
theorem dX8_letterAt_29 : decode cX8_letterAt 29 = .ok (.aload_n 0, 1) := by decide +kernel
theorem dX8_letterAt_30 : decode cX8_letterAt 30 = .ok (.getfield 88, 3) := by decide +kernel
theorem dX8_letterAt_33 : decode cX8_letterAt 33 = .ok (.irem, 1) := by decide +kernel
theorem dX8_letterAt_34 : decode cX8_letterAt 34 = .ok (.ireturn, 1) := by decide +kernel
theorem dX8_end_0 : decode cX8_end 0 = .ok (.aload_n 0, 1) := by decide +kernel
theorem dX8_end_1 : decode cX8_end 1 = .ok (.getfield 20, 3) := by decide +kernel
theorem dX8_end_4 : decode cX8_end 4 = .ok (.iload_n 1, 1) := by decide +kernel
theorem dX8_end_5 : decode cX8_end 5 = .ok (.iaload, 1) := by decide +kernel
theorem dX8_end_6 : decode cX8_end 6 = .ok (.iload_n 2, 1) := by decide +kernel
theorem dX8_end_7 : decode cX8_end 7 = .ok (.isub, 1) := by decide +kernel
theorem dX8_end_8 : decode cX8_end 8 = .ok (.istore_n 3, 1) := by decide +kernel
theorem dX8_end_9 : decode cX8_end 9 = .ok (.aload_n 0, 1) := by decide +kernel
theorem dX8_end_10 : decode cX8_end 10 = .ok (.getfield 17, 3) := by decide +kernel
theorem dX8_end_13 : decode cX8_end 13 = .ok (.iload_n 3, 1) := by decide +kernel
theorem dX8_end_14 : decode cX8_end 14 = .ok (.iaload, 1) := by decide +kernel
theorem dX8_end_15 : decode cX8_end 15 = .ok (.iload_n 1, 1) := by decide +kernel
theorem dX8_end_16 : decode cX8_end 16 = .ok (.aload_n 0, 1) := by decide +kernel
theorem dX8_end_17 : decode cX8_end 17 = .ok (.getfield 17, 3) := by decide +kernel
theorem dX8_end_20 : decode cX8_end 20 = .ok (.aload_n 0, 1) := by decide +kernel
theorem dX8_end_21 : decode cX8_end 21 = .ok (.getfield 20, 3) := by decide +kernel
theorem dX8_end_24 : decode cX8_end 24 = .ok (.iload_n 1, 1) := by decide +kernel
theorem dX8_end_25 : decode cX8_end 25 = .ok (.iaload, 1) := by decide +kernel
theorem dX8_end_26 : decode cX8_end 26 = .ok (.iaload, 1) := by decide +kernel
theorem dX8_end_27 : decode cX8_end 27 = .ok (.isub, 1) := by decide +kernel
theorem dX8_end_28 : decode cX8_end 28 = .ok (.aload_n 0, 1) := by decide +kernel
theorem dX8_end_29 : decode cX8_end 29 = .ok (.getfield 13, 3) := by decide +kernel
theorem dX8_end_32 : decode cX8_end 32 = .ok (.iload_n 3, 1) := by decide +kernel
theorem dX8_end_33 : decode cX8_end 33 = .ok (.iaload, 1) := by decide +kernel
theorem dX8_end_34 : decode cX8_end 34 = .ok (.irem, 1) := by decide +kernel
theorem dX8_end_35 : decode cX8_end 35 = .ok (.iadd, 1) := by decide +kernel
theorem dX8_end_36 : decode cX8_end 36 = .ok (.ireturn, 1) := by decide +kernel
theorem dX8_beginning_0 : decode cX8_beginning 0 = .ok (.aload_n 0, 1) := by decide +kernel
theorem dX8_beginning_1 : decode cX8_beginning 1 = .ok (.getfield 17, 3) := by decide +kernel
theorem dX8_beginning_4 : decode cX8_beginning 4 = .ok (.iload_n 2, 1) := by decide +kernel
theorem dX8_beginning_5 : decode cX8_beginning 5 = .ok (.iaload, 1) := by decide +kernel
theorem dX8_beginning_6 : decode cX8_beginning 6 = .ok (.iload_n 1, 1) := by decide +kernel
theorem dX8_beginning_7 : decode cX8_beginning 7 = .ok (.aload_n 0, 1) := by decide +kernel
theorem dX8_beginning_8 : decode cX8_beginning 8 = .ok (.getfield 17, 3) := by decide +kernel
theorem dX8_beginning_11 : decode cX8_beginning 11 = .ok (.aload_n 0, 1) := by decide +kernel
theorem dX8_beginning_12 : decode cX8_beginning 12 = .ok (.getfield 20, 3) := by decide +kernel
theorem dX8_beginning_15 : decode cX8_beginning 15 = .ok (.iload_n 1, 1) := by decide +kernel
theorem dX8_beginning_16 : decode cX8_beginning 16 = .ok (.iaload, 1) := by decide +kernel
theorem dX8_beginning_17 : decode cX8_beginning 17 = .ok (.iaload, 1) := by decide +kernel
theorem dX8_beginning_18 : decode cX8_beginning 18 = .ok (.isub, 1) := by decide +kernel
theorem dX8_beginning_19 : decode cX8_beginning 19 = .ok (.aload_n 0, 1) := by decide +kernel
theorem dX8_beginning_20 : decode cX8_beginning 20 = .ok (.getfield 13, 3) := by decide +kernel
theorem dX8_beginning_23 : decode cX8_beginning 23 = .ok (.aload_n 0, 1) := by decide +kernel
theorem dX8_beginning_24 : decode cX8_beginning 24 = .ok (.getfield 20, 3) := by decide +kernel
theorem dX8_beginning_27 : decode cX8_beginning 27 = .ok (.iload_n 1, 1) := by decide +kernel
theorem dX8_beginning_28 : decode cX8_beginning 28 = .ok (.iaload, 1) := by decide +kernel
theorem dX8_beginning_29 : decode cX8_beginning 29 = .ok (.iload_n 2, 1) := by decide +kernel
theorem dX8_beginning_30 : decode cX8_beginning 30 = .ok (.isub, 1) := by decide +kernel
theorem dX8_beginning_31 : decode cX8_beginning 31 = .ok (.iaload, 1) := by decide +kernel
theorem dX8_beginning_32 : decode cX8_beginning 32 = .ok (.idiv, 1) := by decide +kernel
theorem dX8_beginning_33 : decode cX8_beginning 33 = .ok (.iadd, 1) := by decide +kernel
theorem dX8_beginning_34 : decode cX8_beginning 34 = .ok (.ireturn, 1) := by decide +kernel
set_option maxRecDepth 20000 in
theorem ggX8_isAhead_X8_letterAt : GoodIn wsX8_isAhead wsX8_letterAt := by
  refine goodIn_sub ?_ gd_X8_letterAt
  unfold wsX8_letterAt
  refine wm_c ⟨(wm_1 (wm_l (wm_4 (wm_1 wm_h)))), ?_⟩
  refine wm_a ⟨?_, ?_⟩
  · refine wm_c ⟨(wm_1 (wm_l (wm_4 (wm_2 wm_h)))), ?_⟩
    refine wm_c ⟨(wm_1 (wm_l wm_h)), ?_⟩
    refine wm_c ⟨(wm_1 (wm_l (wm_4 (wm_2 (wm_1 wm_h))))), ?_⟩
    refine wm_c ⟨(wm_1 (wm_l (wm_8 wm_h))), ?_⟩
    exact wm_n
  · exact wk_X8_isAhead_X80
set_option maxRecDepth 20000 in
theorem gX8_isAhead_X8_letterAt : GoodIn wsX8_isAhead (wsV RX8 106 RX8 yX8_letterAt wsX8_letterAt) := by
  refine goodIn_app (goodIn_sub ?_ ?_) ggX8_isAhead_X8_letterAt
  · exact wm_c ⟨(wm_1 (wm_l (wm_1 wm_h))), wm_c ⟨(wm_1 (wm_l (wm_2 wm_h))), wm_c ⟨(wm_1 (wm_l (wm_2 (wm_1 wm_h)))), wm_c ⟨(wm_1 (wm_l (wm_4 wm_h))), wm_n⟩⟩⟩⟩
  · decide +kernel
theorem dX8_isAhead_0 : decode cX8_isAhead 0 = .ok (.iconst 0, 1) := by decide +kernel
theorem dX8_isAhead_1 : decode cX8_isAhead 1 = .ok (.istore_n 3, 1) := by decide +kernel
theorem dX8_isAhead_2 : decode cX8_isAhead 2 = .ok (.iload_n 3, 1) := by decide +kernel
theorem dX8_isAhead_3 : decode cX8_isAhead 3 = .ok (.aload_n 0, 1) := by decide +kernel
theorem dX8_isAhead_4 : decode cX8_isAhead 4 = .ok (.getfield 20, 3) := by decide +kernel
theorem dX8_isAhead_7 : decode cX8_isAhead 7 = .ok (.iload_n 1, 1) := by decide +kernel
theorem dX8_isAhead_8 : decode cX8_isAhead 8 = .ok (.iaload, 1) := by decide +kernel
theorem dX8_isAhead_9 : decode cX8_isAhead 9 = .ok (.if_icmp .ge 50, 3) := by decide +kernel
theorem dX8_isAhead_12 : decode cX8_isAhead 12 = .ok (.iload_n 3, 1) := by decide +kernel
theorem dX8_isAhead_13 : decode cX8_isAhead 13 = .ok (.aload_n 0, 1) := by decide +kernel
theorem dX8_isAhead_14 : decode cX8_isAhead 14 = .ok (.getfield 20, 3) := by decide +kernel
theorem dX8_isAhead_17 : decode cX8_isAhead 17 = .ok (.iload_n 2, 1) := by decide +kernel
theorem dX8_isAhead_18 : decode cX8_isAhead 18 = .ok (.iaload, 1) := by decide +kernel
theorem dX8_isAhead_19 : decode cX8_isAhead 19 = .ok (.if_icmp .ge 40, 3) := by decide +kernel
theorem dX8_isAhead_22 : decode cX8_isAhead 22 = .ok (.aload_n 0, 1) := by decide +kernel
theorem dX8_isAhead_23 : decode cX8_isAhead 23 = .ok (.iload_n 1, 1) := by decide +kernel
theorem dX8_isAhead_24 : decode cX8_isAhead 24 = .ok (.iload_n 3, 1) := by decide +kernel
theorem dX8_isAhead_25 : decode cX8_isAhead 25 = .ok (.invokevirtual 106, 3) := by decide +kernel
theorem dX8_isAhead_28 : decode cX8_isAhead 28 = .ok (.aload_n 0, 1) := by decide +kernel
theorem dX8_isAhead_29 : decode cX8_isAhead 29 = .ok (.iload_n 2, 1) := by decide +kernel
theorem dX8_isAhead_30 : decode cX8_isAhead 30 = .ok (.iload_n 3, 1) := by decide +kernel
theorem dX8_isAhead_31 : decode cX8_isAhead 31 = .ok (.invokevirtual 106, 3) := by decide +kernel
theorem dX8_isAhead_34 : decode cX8_isAhead 34 = .ok (.isub, 1) := by decide +kernel
theorem dX8_isAhead_35 : decode cX8_isAhead 35 = .ok (.istore 4, 2) := by decide +kernel
theorem dX8_isAhead_37 : decode cX8_isAhead 37 = .ok (.iload 4, 2) := by decide +kernel
theorem dX8_isAhead_39 : decode cX8_isAhead 39 = .ok (.ifCond .eq 14, 3) := by decide +kernel
theorem dX8_isAhead_42 : decode cX8_isAhead 42 = .ok (.iload 4, 2) := by decide +kernel
theorem dX8_isAhead_44 : decode cX8_isAhead 44 = .ok (.ifCond .ge 7, 3) := by decide +kernel
theorem dX8_isAhead_47 : decode cX8_isAhead 47 = .ok (.iconst 1, 1) := by decide +kernel
theorem dX8_isAhead_48 : decode cX8_isAhead 48 = .ok (.goto 4, 3) := by decide +kernel
theorem dX8_isAhead_51 : decode cX8_isAhead 51 = .ok (.iconst 0, 1) := by decide +kernel
theorem dX8_isAhead_52 : decode cX8_isAhead 52 = .ok (.ireturn, 1) := by decide +kernel
theorem dX8_isAhead_53 : decode cX8_isAhead 53 = .ok (.iinc 3 1, 3) := by decide +kernel
theorem dX8_isAhead_56 : decode cX8_isAhead 56 = .ok (.goto (-54), 3) := by decide +kernel
theorem dX8_isAhead_59 : decode cX8_isAhead 59 = .ok (.aload_n 0, 1) := by decide +kernel
theorem dX8_isAhead_60 : decode cX8_isAhead 60 = .ok (.getfield 20, 3) := by decide +kernel
theorem dX8_isAhead_63 : decode cX8_isAhead 63 = .ok (.iload_n 1, 1) := by decide +kernel
theorem dX8_isAhead_64 : decode cX8_isAhead 64 = .ok (.iaload, 1) := by decide +kernel
theorem dX8_isAhead_65 : decode cX8_isAhead 65 = .ok (.aload_n 0, 1) := by decide +kernel
theorem dX8_isAhead_66 : decode cX8_isAhead 66 = .ok (.getfield 20, 3) := by decide +kernel
theorem dX8_isAhead_69 : decode cX8_isAhead 69 = .ok (.iload_n 2, 1) := by decide +kernel
theorem dX8_isAhead_70 : decode cX8_isAhead 70 = .ok (.iaload, 1) := by decide +kernel
theorem dX8_isAhead_71 : decode cX8_isAhead 71 = .ok (.if_icmp .ge 7, 3) := by decide +kernel
theorem dX8_isAhead_74 : decode cX8_isAhead 74 = .ok (.iconst 1, 1) := by decide +kernel
theorem dX8_isAhead_75 : decode cX8_isAhead 75 = .ok (.goto 4, 3) := by decide +kernel
theorem dX8_isAhead_78 : decode cX8_isAhead 78 = .ok (.iconst 0, 1) := by decide +kernel
theorem dX8_isAhead_79 : decode cX8_isAhead 79 = .ok (.ireturn, 1) := by decide +kernel
set_option maxRecDepth 20000 in
theorem ggX8_isChief_X8_end : GoodIn wsX8_isChief wsX8_end := by
  refine goodIn_sub ?_ gd_X8_end
  unfold wsX8_end
  refine wm_c ⟨(wm_1 (wm_l (wm_4 (wm_1 wm_h)))), ?_⟩
  refine wm_a ⟨?_, ?_⟩
  · refine wm_c ⟨(wm_1 (wm_l wm_h)), ?_⟩
    refine wm_c ⟨(wm_1 (wm_l (wm_4 (wm_2 wm_h)))), ?_⟩
    refine wm_c ⟨(wm_1 (wm_l (wm_4 (wm_2 (wm_1 wm_h))))), ?_⟩
    exact wm_n
  · exact wk_X8_isChief_X80
set_option maxRecDepth 20000 in
theorem gX8_isChief_X8_end : GoodIn wsX8_isChief (wsV RX8 109 RX8 yX8_end wsX8_end) := by
  refine goodIn_app (goodIn_sub ?_ ?_) ggX8_isChief_X8_end
  · exact wm_c ⟨(wm_1 (wm_l (wm_1 wm_h))), wm_c ⟨(wm_1 (wm_l (wm_2 wm_h))), wm_c ⟨(wm_1 (wm_l (wm_2 (wm_1 wm_h)))), wm_c ⟨(wm_1 (wm_l (wm_4 wm_h))), wm_n⟩⟩⟩⟩
  · decide +kernel
set_option maxRecDepth 20000 in
theorem ggX8_isChief_X8_isAhead : GoodIn wsX8_isChief wsX8_isAhead := by
  refine goodIn_sub ?_ gd_X8_isAhead
  unfold wsX8_isAhead
  refine wm_c ⟨(wm_1 (wm_l (wm_8 (wm_2 (wm_1 wm_h))))), ?_⟩
  refine wm_a ⟨?_, ?_⟩
  · refine wm_c ⟨(wm_1 (wm_l wm_h)), ?_⟩
    refine wm_c ⟨(wm_1 (wm_l (wm_8 (wm_4 wm_h)))), ?_⟩
    refine wm_c ⟨(wm_1 (wm_l (wm_8 (wm_4 (wm_1 wm_h))))), ?_⟩
    refine wm_c ⟨(wm_1 (wm_l (wm_8 (wm_4 (wm_2 wm_h))))), ?_⟩
    refine wm_c ⟨(wm_1 (wm_l (wm_4 wm_h))), ?_⟩
    refine wm_c ⟨(wm_1 (wm_l (wm_8 (wm_4 (wm_2 (wm_1 wm_h)))))), ?_⟩
    refine wm_c ⟨(wm_1 (wm_l (wm_4 (wm_2 wm_h)))), ?_⟩
    refine wm_c ⟨(wm_1 (wm_l (wm_4 (wm_2 (wm_1 wm_h))))), ?_⟩
    refine wm_c ⟨(wm_1 (wm_l (wm_16 wm_h))), ?_⟩
    exact wm_n
  · exact wk_X8_isChief_X80
set_option maxRecDepth 20000 in
theorem gX8_isChief_X8_isAhead : GoodIn wsX8_isChief (wsV RX8 112 RX8 yX8_isAhead wsX8_isAhead) := by
  refine goodIn_app (goodIn_sub ?_ ?_) ggX8_isChief_X8_isAhead
  · exact wm_c ⟨(wm_1 (wm_l (wm_8 wm_h))), wm_c ⟨(wm_1 (wm_l (wm_8 (wm_1 wm_h)))), wm_c ⟨(wm_1 (wm_l (wm_8 (wm_2 wm_h)))), wm_c ⟨(wm_1 (wm_l (wm_4 wm_h))), wm_n⟩⟩⟩⟩
  · decide +kernel
theorem dX8_isChief_0 : decode cX8_isChief 0 = .ok (.iconst 1, 1) := by decide +kernel
theorem dX8_isChief_1 : decode cX8_isChief 1 = .ok (.istore_n 2, 1) := by decide +kernel
theorem dX8_isChief_2 : decode cX8_isChief 2 = .ok (.iload_n 2, 1) := by decide +kernel
theorem dX8_isChief_3 : decode cX8_isChief 3 = .ok (.aload_n 0, 1) := by decide +kernel
theorem dX8_isChief_4 : decode cX8_isChief 4 = .ok (.getfield 20, 3) := by decide +kernel
theorem dX8_isChief_7 : decode cX8_isChief 7 = .ok (.iload_n 1, 1) := by decide +kernel
theorem dX8_isChief_8 : decode cX8_isChief 8 = .ok (.iaload, 1) := by decide +kernel
theorem dX8_isChief_9 : decode cX8_isChief 9 = .ok (.if_icmp .ge 25, 3) := by decide +kernel
theorem dX8_isChief_12 : decode cX8_isChief 12 = .ok (.aload_n 0, 1) := by decide +kernel
theorem dX8_isChief_13 : decode cX8_isChief 13 = .ok (.iload_n 1, 1) := by decide +kernel
theorem dX8_isChief_14 : decode cX8_isChief 14 = .ok (.aload_n 0, 1) := by decide +kernel
theorem dX8_isChief_15 : decode cX8_isChief 15 = .ok (.iload_n 1, 1) := by decide +kernel
theorem dX8_isChief_16 : decode cX8_isChief 16 = .ok (.iload_n 2, 1) := by decide +kernel
theorem dX8_isChief_17 : decode cX8_isChief 17 = .ok (.invokevirtual 109, 3) := by decide +kernel
theorem dX8_isChief_20 : decode cX8_isChief 20 = .ok (.invokevirtual 112, 3) := by decide +kernel
theorem dX8_isChief_23 : decode cX8_isChief 23 = .ok (.ifCond .ne 5, 3) := by decide +kernel
theorem dX8_isChief_26 : decode cX8_isChief 26 = .ok (.iconst 0, 1) := by decide +kernel
theorem dX8_isChief_27 : decode cX8_isChief 27 = .ok (.ireturn, 1) := by decide +kernel
theorem dX8_isChief_28 : decode cX8_isChief 28 = .ok (.iinc 2 1, 3) := by decide +kernel
theorem dX8_isChief_31 : decode cX8_isChief 31 = .ok (.goto (-29), 3) := by decide +kernel
theorem dX8_isChief_34 : decode cX8_isChief 34 = .ok (.iconst 1, 1) := by decide +kernel
theorem dX8_isChief_35 : decode cX8_isChief 35 = .ok (.ireturn, 1) := by decide +kernel
set_option maxRecDepth 20000 in
theorem ggX8_comes_X8_end : GoodIn wsX8_comes wsX8_end := by
  refine goodIn_sub ?_ gd_X8_end
  unfold wsX8_end
  refine wm_c ⟨(wk_X8_comes_X8_comes_r1 _ (wm_8 (wm_4 (wm_1 wm_h)))), ?_⟩
  refine wm_a ⟨?_, ?_⟩
  · refine wm_c ⟨(wk_X8_comes_X8_comes_r1 _ wm_h), ?_⟩
    refine wm_c ⟨(wk_X8_comes_X8_comes_r1 _ (wm_8 wm_h)), ?_⟩
    refine wm_c ⟨(wk_X8_comes_X8_comes_r1 _ (wm_8 (wm_4 (wm_2 wm_h)))), ?_⟩
    exact wm_n
  · exact wk_X8_comes_X80
set_option maxRecDepth 20000 in
theorem gX8_comes_X8_end : GoodIn wsX8_comes (wsV RX8 109 RX8 yX8_end wsX8_end) := by
  refine goodIn_app (goodIn_sub ?_ ?_) ggX8_comes_X8_end
  · exact wm_c ⟨(wk_X8_comes_X8_comes_r1 _ (wm_8 (wm_1 wm_h))), wm_c ⟨(wk_X8_comes_X8_comes_r1 _ (wm_8 (wm_2 wm_h))), wm_c ⟨(wk_X8_comes_X8_comes_r1 _ (wm_8 (wm_2 (wm_1 wm_h)))), wm_c ⟨(wk_X8_comes_X8_comes_r1 _ (wm_8 (wm_4 wm_h))), wm_n⟩⟩⟩⟩
  · decide +kernel
set_option maxRecDepth 20000 in
theorem ggX8_comes_X8_isChief : GoodIn wsX8_comes wsX8_isChief := by
  refine goodIn_sub ?_ gd_X8_isChief
  unfold wsX8_isChief
  refine wm_c ⟨(wk_X8_comes_X8_comes_r1 _ (wm_16 (wm_2 wm_h))), ?_⟩
  refine wm_a ⟨?_, ?_⟩
  · refine wm_c ⟨(wk_X8_comes_X8_comes_r1 _ wm_h), ?_⟩
    refine wm_c ⟨(wk_X8_comes_X8_comes_r1 _ (wm_8 (wm_1 wm_h))), ?_⟩
    refine wm_c ⟨(wk_X8_comes_X8_comes_r1 _ (wm_8 (wm_2 wm_h))), ?_⟩
    refine wm_c ⟨(wk_X8_comes_X8_comes_r1 _ (wm_8 (wm_2 (wm_1 wm_h)))), ?_⟩
    refine wm_c ⟨(wk_X8_comes_X8_comes_r1 _ (wm_8 (wm_4 wm_h))), ?_⟩
    refine wm_c ⟨(wk_X8_comes_X8_comes_r1 _ (wm_8 (wm_4 (wm_1 wm_h)))), ?_⟩
    refine wm_c ⟨(wk_X8_comes_X8_comes_r1 _ (wm_8 wm_h)), ?_⟩
    refine wm_c ⟨(wk_X8_comes_X8_comes_r1 _ (wm_8 (wm_4 (wm_2 wm_h)))), ?_⟩
    refine wm_c ⟨(wk_X8_comes_X8_comes_r1 _ (wm_16 (wm_2 (wm_1 wm_h)))), ?_⟩
    refine wm_c ⟨(wk_X8_comes_X8_comes_r1 _ (wm_16 (wm_4 wm_h))), ?_⟩
    refine wm_c ⟨(wk_X8_comes_X8_comes_r1 _ (wm_16 (wm_4 (wm_1 wm_h)))), ?_⟩
    refine wm_c ⟨(wk_X8_comes_X8_comes_r1 _ (wm_16 (wm_4 (wm_2 wm_h)))), ?_⟩
    refine wm_c ⟨(wk_X8_comes_X8_comes_r1 _ (wm_16 (wm_4 (wm_2 (wm_1 wm_h))))), ?_⟩
    refine wm_c ⟨(wk_X8_comes_X8_comes_r2 _ wm_h), ?_⟩
    refine wm_c ⟨(wk_X8_comes_X8_comes_r2 _ (wm_1 wm_h)), ?_⟩
    refine wm_c ⟨(wk_X8_comes_X8_comes_r2 _ (wm_2 wm_h)), ?_⟩
    refine wm_c ⟨(wk_X8_comes_X8_comes_r2 _ (wm_2 (wm_1 wm_h))), ?_⟩
    exact wm_n
  · exact wk_X8_comes_X80
set_option maxRecDepth 20000 in
theorem gX8_comes_X8_isChief : GoodIn wsX8_comes (wsV RX8 98 RX8 yX8_isChief wsX8_isChief) := by
  refine goodIn_app (goodIn_sub ?_ ?_) ggX8_comes_X8_isChief
  · exact wm_c ⟨(wk_X8_comes_X8_comes_r1 _ (wm_8 (wm_4 (wm_2 (wm_1 wm_h))))), wm_c ⟨(wk_X8_comes_X8_comes_r1 _ (wm_16 wm_h)), wm_c ⟨(wk_X8_comes_X8_comes_r1 _ (wm_16 (wm_1 wm_h))), wm_c ⟨(wk_X8_comes_X8_comes_r1 _ (wm_8 (wm_4 wm_h))), wm_n⟩⟩⟩⟩
  · decide +kernel
set_option maxRecDepth 20000 in
theorem ggX8_comes_X8_beginning : GoodIn wsX8_comes wsX8_beginning := by
  refine goodIn_sub ?_ gd_X8_beginning
  unfold wsX8_beginning
  refine wm_c ⟨(wk_X8_comes_X8_comes_r2 _ (wm_4 (wm_2 (wm_1 wm_h)))), ?_⟩
  refine wm_a ⟨?_, ?_⟩
  · refine wm_c ⟨(wk_X8_comes_X8_comes_r1 _ (wm_8 wm_h)), ?_⟩
    refine wm_c ⟨(wk_X8_comes_X8_comes_r1 _ wm_h), ?_⟩
    refine wm_c ⟨(wk_X8_comes_X8_comes_r1 _ (wm_8 (wm_4 (wm_2 wm_h)))), ?_⟩
    exact wm_n
  · exact wk_X8_comes_X80
set_option maxRecDepth 20000 in
theorem gX8_comes_X8_beginning : GoodIn wsX8_comes (wsV RX8 119 RX8 yX8_beginning wsX8_beginning) := by
  refine goodIn_app (goodIn_sub ?_ ?_) ggX8_comes_X8_beginning
  · exact wm_c ⟨(wk_X8_comes_X8_comes_r2 _ (wm_4 wm_h)), wm_c ⟨(wk_X8_comes_X8_comes_r2 _ (wm_4 (wm_1 wm_h))), wm_c ⟨(wk_X8_comes_X8_comes_r2 _ (wm_4 (wm_2 wm_h))), wm_c ⟨(wk_X8_comes_X8_comes_r1 _ (wm_8 (wm_4 wm_h))), wm_n⟩⟩⟩⟩
  · decide +kernel
set_option maxRecDepth 20000 in
theorem ggX8_comes_X8_brackets : GoodIn wsX8_comes wsX8_brackets := by
  refine goodIn_sub ?_ gd_X8_brackets
  unfold wsX8_brackets
  refine wm_c ⟨(wk_X8_comes_X8_comes_r2 _ (wm_8 (wm_2 (wm_1 wm_h)))), ?_⟩
  refine wm_a ⟨?_, ?_⟩
  · refine wm_c ⟨(wk_X8_comes_X8_comes_r1 _ (wm_8 (wm_4 (wm_2 wm_h)))), ?_⟩
    refine wm_c ⟨(wk_X8_comes_X8_comes_r1 _ (wm_4 (wm_2 (wm_1 wm_h)))), ?_⟩
    refine wm_c ⟨(wk_X8_comes_X8_comes_r2 _ (wm_8 (wm_4 wm_h))), ?_⟩
    refine wm_c ⟨(wk_X8_comes_X8_comes_r2 _ (wm_8 (wm_4 (wm_1 wm_h)))), ?_⟩
    refine wm_c ⟨(wk_X8_comes_X8_comes_r2 _ (wm_8 (wm_4 (wm_2 wm_h)))), ?_⟩
    refine wm_c ⟨(wk_X8_comes_X8_comes_r1 _ (wm_8 (wm_4 wm_h))), ?_⟩
    refine wm_c ⟨(wk_X8_comes_X8_comes_r2 _ (wm_8 (wm_4 (wm_2 (wm_1 wm_h))))), ?_⟩
    exact wm_n
  · exact wk_X8_comes_X80
set_option maxRecDepth 20000 in
theorem gX8_comes_X8_brackets : GoodIn wsX8_comes (wsV RX8 122 RX8 yX8_brackets wsX8_brackets) := by
  refine goodIn_app (goodIn_sub ?_ ?_) ggX8_comes_X8_brackets
  · exact wm_c ⟨(wk_X8_comes_X8_comes_r2 _ (wm_8 wm_h)), wm_c ⟨(wk_X8_comes_X8_comes_r2 _ (wm_8 (wm_1 wm_h))), wm_c ⟨(wk_X8_comes_X8_comes_r2 _ (wm_8 (wm_2 wm_h))), wm_c ⟨(wk_X8_comes_X8_comes_r1 _ (wm_8 (wm_4 wm_h))), wm_n⟩⟩⟩⟩
  · decide +kernel
theorem dX8_comes_0 : decode cX8_comes 0 = .ok (.aload_n 0, 1) := by decide +kernel
theorem dX8_comes_1 : decode cX8_comes 1 = .ok (.getfield 20, 3) := by decide +kernel
theorem dX8_comes_4 : decode cX8_comes 4 = .ok (.iload_n 1, 1) := by decide +kernel
theorem dX8_comes_5 : decode cX8_comes 5 = .ok (.iaload, 1) := by decide +kernel
theorem dX8_comes_6 : decode cX8_comes 6 = .ok (.istore_n 2, 1) := by decide +kernel
theorem dX8_comes_7 : decode cX8_comes 7 = .ok (.aload_n 0, 1) := by decide +kernel
theorem dX8_comes_8 : decode cX8_comes 8 = .ok (.getfield 116, 3) := by decide +kernel
theorem dX8_comes_11 : decode cX8_comes 11 = .ok (.istore_n 3, 1) := by decide +kernel
theorem dX8_comes_12 : decode cX8_comes 12 = .ok (.aload_n 0, 1) := by decide +kernel
theorem dX8_comes_13 : decode cX8_comes 13 = .ok (.getfield 27, 3) := by decide +kernel
theorem dX8_comes_16 : decode cX8_comes 16 = .ok (.iload_n 3, 1) := by decide +kernel
theorem dX8_comes_17 : decode cX8_comes 17 = .ok (.iload_n 1, 1) := by decide +kernel
theorem dX8_comes_18 : decode cX8_comes 18 = .ok (.iastore, 1) := by decide +kernel
theorem dX8_comes_19 : decode cX8_comes 19 = .ok (.aload_n 0, 1) := by decide +kernel
theorem dX8_comes_20 : decode cX8_comes 20 = .ok (.getfield 39, 3) := by decide +kernel
theorem dX8_comes_23 : decode cX8_comes 23 = .ok (.iload_n 1, 1) := by decide +kernel
theorem dX8_comes_24 : decode cX8_comes 24 = .ok (.iload_n 3, 1) := by decide +kernel
theorem dX8_comes_25 : decode cX8_comes 25 = .ok (.iastore, 1) := by decide +kernel
theorem dX8_comes_26 : decode cX8_comes 26 = .ok (.aload_n 0, 1) := by decide +kernel
theorem dX8_comes_27 : decode cX8_comes 27 = .ok (.getfield 30, 3) := by decide +kernel
theorem dX8_comes_30 : decode cX8_comes 30 = .ok (.iload_n 3, 1) := by decide +kernel
theorem dX8_comes_31 : decode cX8_comes 31 = .ok (.iconst (-1), 1) := by decide +kernel
theorem dX8_comes_32 : decode cX8_comes 32 = .ok (.iastore, 1) := by decide +kernel
theorem dX8_comes_33 : decode cX8_comes 33 = .ok (.aload_n 0, 1) := by decide +kernel
theorem dX8_comes_34 : decode cX8_comes 34 = .ok (.getfield 33, 3) := by decide +kernel
theorem dX8_comes_37 : decode cX8_comes 37 = .ok (.iload_n 3, 1) := by decide +kernel
theorem dX8_comes_38 : decode cX8_comes 38 = .ok (.iconst (-1), 1) := by decide +kernel
theorem dX8_comes_39 : decode cX8_comes 39 = .ok (.iastore, 1) := by decide +kernel
theorem dX8_comes_40 : decode cX8_comes 40 = .ok (.aload_n 0, 1) := by decide +kernel
theorem dX8_comes_41 : decode cX8_comes 41 = .ok (.getfield 36, 3) := by decide +kernel
theorem dX8_comes_44 : decode cX8_comes 44 = .ok (.iload_n 3, 1) := by decide +kernel
theorem dX8_comes_45 : decode cX8_comes 45 = .ok (.iconst 1, 1) := by decide +kernel
theorem dX8_comes_46 : decode cX8_comes 46 = .ok (.iastore, 1) := by decide +kernel
theorem dX8_comes_47 : decode cX8_comes 47 = .ok (.aload_n 0, 1) := by decide +kernel
theorem dX8_comes_48 : decode cX8_comes 48 = .ok (.dup, 1) := by decide +kernel
theorem dX8_comes_49 : decode cX8_comes 49 = .ok (.getfield 116, 3) := by decide +kernel
theorem dX8_comes_52 : decode cX8_comes 52 = .ok (.iconst 1, 1) := by decide +kernel
theorem dX8_comes_53 : decode cX8_comes 53 = .ok (.iadd, 1) := by decide +kernel
theorem dX8_comes_54 : decode cX8_comes 54 = .ok (.putfield 116, 3) := by decide +kernel
theorem dX8_comes_57 : decode cX8_comes 57 = .ok (.iload_n 2, 1) := by decide +kernel
theorem dX8_comes_58 : decode cX8_comes 58 = .ok (.iconst 1, 1) := by decide +kernel
theorem dX8_comes_59 : decode cX8_comes 59 = .ok (.if_icmp .ne 24, 3) := by decide +kernel
theorem dX8_comes_62 : decode cX8_comes 62 = .ok (.aload_n 0, 1) := by decide +kernel
theorem dX8_comes_63 : decode cX8_comes 63 = .ok (.getfield 42, 3) := by decide +kernel
theorem dX8_comes_66 : decode cX8_comes 66 = .ok (.sipush 256, 3) := by decide +kernel
theorem dX8_comes_69 : decode cX8_comes 69 = .ok (.iload_n 3, 1) := by decide +kernel
theorem dX8_comes_70 : decode cX8_comes 70 = .ok (.imul, 1) := by decide +kernel
theorem dX8_comes_71 : decode cX8_comes 71 = .ok (.iload_n 1, 1) := by decide +kernel
theorem dX8_comes_72 : decode cX8_comes 72 = .ok (.iadd, 1) := by decide +kernel
theorem dX8_comes_73 : decode cX8_comes 73 = .ok (.aload_n 0, 1) := by decide +kernel
theorem dX8_comes_74 : decode cX8_comes 74 = .ok (.getfield 17, 3) := by decide +kernel
theorem dX8_comes_77 : decode cX8_comes 77 = .ok (.iconst 1, 1) := by decide +kernel
theorem dX8_comes_78 : decode cX8_comes 78 = .ok (.iaload, 1) := by decide +kernel
theorem dX8_comes_79 : decode cX8_comes 79 = .ok (.isub, 1) := by decide +kernel
theorem dX8_comes_80 : decode cX8_comes 80 = .ok (.lconst 1, 1) := by decide +kernel
theorem dX8_comes_81 : decode cX8_comes 81 = .ok (.lastore, 1) := by decide +kernel
theorem dX8_comes_82 : decode cX8_comes 82 = .ok (.return_, 1) := by decide +kernel
theorem dX8_comes_83 : decode cX8_comes 83 = .ok (.iconst 1, 1) := by decide +kernel
theorem dX8_comes_84 : decode cX8_comes 84 = .ok (.istore 4, 2) := by decide +kernel
theorem dX8_comes_86 : decode cX8_comes 86 = .ok (.aload_n 0, 1) := by decide +kernel
theorem dX8_comes_87 : decode cX8_comes 87 = .ok (.aload_n 0, 1) := by decide +kernel
theorem dX8_comes_88 : decode cX8_comes 88 = .ok (.iload_n 1, 1) := by decide +kernel
theorem dX8_comes_89 : decode cX8_comes 89 = .ok (.iload 4, 2) := by decide +kernel
theorem dX8_comes_91 : decode cX8_comes 91 = .ok (.invokevirtual 109, 3) := by decide +kernel
theorem dX8_comes_94 : decode cX8_comes 94 = .ok (.invokevirtual 98, 3) := by decide +kernel
theorem dX8_comes_97 : decode cX8_comes 97 = .ok (.ifCond .ne 9, 3) := by decide +kernel
theorem dX8_comes_100 : decode cX8_comes 100 = .ok (.iinc 4 1, 3) := by decide +kernel
theorem dX8_comes_103 : decode cX8_comes 103 = .ok (.goto (-17), 3) := by decide +kernel
theorem dX8_comes_106 : decode cX8_comes 106 = .ok (.aload_n 0, 1) := by decide +kernel
theorem dX8_comes_107 : decode cX8_comes 107 = .ok (.getfield 30, 3) := by decide +kernel
theorem dX8_comes_110 : decode cX8_comes 110 = .ok (.iload_n 3, 1) := by decide +kernel
theorem dX8_comes_111 : decode cX8_comes 111 = .ok (.aload_n 0, 1) := by decide +kernel
theorem dX8_comes_112 : decode cX8_comes 112 = .ok (.getfield 39, 3) := by decide +kernel
theorem dX8_comes_115 : decode cX8_comes 115 = .ok (.aload_n 0, 1) := by decide +kernel
theorem dX8_comes_116 : decode cX8_comes 116 = .ok (.iload_n 1, 1) := by decide +kernel
theorem dX8_comes_117 : decode cX8_comes 117 = .ok (.iload 4, 2) := by decide +kernel
theorem dX8_comes_119 : decode cX8_comes 119 = .ok (.invokevirtual 119, 3) := by decide +kernel
theorem dX8_comes_122 : decode cX8_comes 122 = .ok (.iaload, 1) := by decide +kernel
theorem dX8_comes_123 : decode cX8_comes 123 = .ok (.iastore, 1) := by decide +kernel
theorem dX8_comes_124 : decode cX8_comes 124 = .ok (.aload_n 0, 1) := by decide +kernel
theorem dX8_comes_125 : decode cX8_comes 125 = .ok (.getfield 33, 3) := by decide +kernel
theorem dX8_comes_128 : decode cX8_comes 128 = .ok (.iload_n 3, 1) := by decide +kernel
theorem dX8_comes_129 : decode cX8_comes 129 = .ok (.aload_n 0, 1) := by decide +kernel
theorem dX8_comes_130 : decode cX8_comes 130 = .ok (.getfield 39, 3) := by decide +kernel
theorem dX8_comes_133 : decode cX8_comes 133 = .ok (.aload_n 0, 1) := by decide +kernel
theorem dX8_comes_134 : decode cX8_comes 134 = .ok (.iload_n 1, 1) := by decide +kernel
theorem dX8_comes_135 : decode cX8_comes 135 = .ok (.iload 4, 2) := by decide +kernel
theorem dX8_comes_137 : decode cX8_comes 137 = .ok (.invokevirtual 109, 3) := by decide +kernel
theorem dX8_comes_140 : decode cX8_comes 140 = .ok (.iaload, 1) := by decide +kernel
theorem dX8_comes_141 : decode cX8_comes 141 = .ok (.iastore, 1) := by decide +kernel
theorem dX8_comes_142 : decode cX8_comes 142 = .ok (.aload_n 0, 1) := by decide +kernel
theorem dX8_comes_143 : decode cX8_comes 143 = .ok (.getfield 36, 3) := by decide +kernel
theorem dX8_comes_146 : decode cX8_comes 146 = .ok (.iload_n 3, 1) := by decide +kernel
theorem dX8_comes_147 : decode cX8_comes 147 = .ok (.aload_n 0, 1) := by decide +kernel
theorem dX8_comes_148 : decode cX8_comes 148 = .ok (.getfield 36, 3) := by decide +kernel
theorem dX8_comes_151 : decode cX8_comes 151 = .ok (.aload_n 0, 1) := by decide +kernel
theorem dX8_comes_152 : decode cX8_comes 152 = .ok (.getfield 30, 3) := by decide +kernel
theorem dX8_comes_155 : decode cX8_comes 155 = .ok (.iload_n 3, 1) := by decide +kernel
theorem dX8_comes_156 : decode cX8_comes 156 = .ok (.iaload, 1) := by decide +kernel
theorem dX8_comes_157 : decode cX8_comes 157 = .ok (.iaload, 1) := by decide +kernel
theorem dX8_comes_158 : decode cX8_comes 158 = .ok (.aload_n 0, 1) := by decide +kernel
theorem dX8_comes_159 : decode cX8_comes 159 = .ok (.getfield 36, 3) := by decide +kernel
theorem dX8_comes_162 : decode cX8_comes 162 = .ok (.aload_n 0, 1) := by decide +kernel
theorem dX8_comes_163 : decode cX8_comes 163 = .ok (.getfield 33, 3) := by decide +kernel
theorem dX8_comes_166 : decode cX8_comes 166 = .ok (.iload_n 3, 1) := by decide +kernel
theorem dX8_comes_167 : decode cX8_comes 167 = .ok (.iaload, 1) := by decide +kernel
theorem dX8_comes_168 : decode cX8_comes 168 = .ok (.iaload, 1) := by decide +kernel
theorem dX8_comes_169 : decode cX8_comes 169 = .ok (.iadd, 1) := by decide +kernel
theorem dX8_comes_170 : decode cX8_comes 170 = .ok (.iconst 3, 1) := by decide +kernel
theorem dX8_comes_171 : decode cX8_comes 171 = .ok (.iadd, 1) := by decide +kernel
theorem dX8_comes_172 : decode cX8_comes 172 = .ok (.iastore, 1) := by decide +kernel
theorem dX8_comes_173 : decode cX8_comes 173 = .ok (.aload_n 0, 1) := by decide +kernel
theorem dX8_comes_174 : decode cX8_comes 174 = .ok (.sipush 256, 3) := by decide +kernel
theorem dX8_comes_177 : decode cX8_comes 177 = .ok (.iload_n 3, 1) := by decide +kernel
theorem dX8_comes_178 : decode cX8_comes 178 = .ok (.imul, 1) := by decide +kernel
theorem dX8_comes_179 : decode cX8_comes 179 = .ok (.sipush 256, 3) := by decide +kernel
theorem dX8_comes_182 : decode cX8_comes 182 = .ok (.aload_n 0, 1) := by decide +kernel
theorem dX8_comes_183 : decode cX8_comes 183 = .ok (.getfield 30, 3) := by decide +kernel
theorem dX8_comes_186 : decode cX8_comes 186 = .ok (.iload_n 3, 1) := by decide +kernel
theorem dX8_comes_187 : decode cX8_comes 187 = .ok (.iaload, 1) := by decide +kernel
theorem dX8_comes_188 : decode cX8_comes 188 = .ok (.imul, 1) := by decide +kernel
theorem dX8_comes_189 : decode cX8_comes 189 = .ok (.iload 4, 2) := by decide +kernel
theorem dX8_comes_191 : decode cX8_comes 191 = .ok (.sipush 256, 3) := by decide +kernel
theorem dX8_comes_194 : decode cX8_comes 194 = .ok (.aload_n 0, 1) := by decide +kernel
theorem dX8_comes_195 : decode cX8_comes 195 = .ok (.getfield 33, 3) := by decide +kernel
theorem dX8_comes_198 : decode cX8_comes 198 = .ok (.iload_n 3, 1) := by decide +kernel
theorem dX8_comes_199 : decode cX8_comes 199 = .ok (.iaload, 1) := by decide +kernel
theorem dX8_comes_200 : decode cX8_comes 200 = .ok (.imul, 1) := by decide +kernel
theorem dX8_comes_201 : decode cX8_comes 201 = .ok (.iload_n 2, 1) := by decide +kernel
theorem dX8_comes_202 : decode cX8_comes 202 = .ok (.iload 4, 2) := by decide +kernel
theorem dX8_comes_204 : decode cX8_comes 204 = .ok (.isub, 1) := by decide +kernel
theorem dX8_comes_205 : decode cX8_comes 205 = .ok (.invokevirtual 122, 3) := by decide +kernel
theorem dX8_comes_208 : decode cX8_comes 208 = .ok (.return_, 1) := by decide +kernel
set_option maxRecDepth 20000 in
theorem ggX8_brackets_X8_mod : GoodIn wsX8_brackets wsX8_mod := by
  refine goodIn_sub ?_ gd_X8_mod
  unfold wsX8_mod
  refine wm_c ⟨(wm_1 (wm_l (wm_4 (wm_2 wm_h)))), ?_⟩
  refine wm_c ⟨(wm_1 (wm_l (wm_2 wm_h))), ?_⟩
  exact wm_n
set_option maxRecDepth 20000 in
theorem gX8_brackets_X8_mod : GoodIn wsX8_brackets (va_wsS RX8 126 yX8_mod wsX8_mod) := goodIn_app (goodIn_of _ (by decide +kernel)) ggX8_brackets_X8_mod
theorem dX8_brackets_0 : decode cX8_brackets 0 = .ok (.iconst 0, 1) := by decide +kernel
theorem dX8_brackets_1 : decode cX8_brackets 1 = .ok (.istore 6, 2) := by decide +kernel
theorem dX8_brackets_3 : decode cX8_brackets 3 = .ok (.iload 6, 2) := by decide +kernel
theorem dX8_brackets_5 : decode cX8_brackets 5 = .ok (.aload_n 0, 1) := by decide +kernel
theorem dX8_brackets_6 : decode cX8_brackets 6 = .ok (.getfield 13, 3) := by decide +kernel
theorem dX8_brackets_9 : decode cX8_brackets 9 = .ok (.iload_n 3, 1) := by decide +kernel
theorem dX8_brackets_10 : decode cX8_brackets 10 = .ok (.iload 5, 2) := by decide +kernel
theorem dX8_brackets_12 : decode cX8_brackets 12 = .ok (.iadd, 1) := by decide +kernel
theorem dX8_brackets_13 : decode cX8_brackets 13 = .ok (.iaload, 1) := by decide +kernel
theorem dX8_brackets_14 : decode cX8_brackets 14 = .ok (.if_icmp .ge 108, 3) := by decide +kernel
theorem dX8_brackets_17 : decode cX8_brackets 17 = .ok (.aload_n 0, 1) := by decide +kernel
theorem dX8_brackets_18 : decode cX8_brackets 18 = .ok (.getfield 42, 3) := by decide +kernel
theorem dX8_brackets_21 : decode cX8_brackets 21 = .ok (.iload_n 2, 1) := by decide +kernel
theorem dX8_brackets_22 : decode cX8_brackets 22 = .ok (.iload 6, 2) := by decide +kernel
theorem dX8_brackets_24 : decode cX8_brackets 24 = .ok (.aload_n 0, 1) := by decide +kernel
theorem dX8_brackets_25 : decode cX8_brackets 25 = .ok (.getfield 13, 3) := by decide +kernel
theorem dX8_brackets_28 : decode cX8_brackets 28 = .ok (.iload 5, 2) := by decide +kernel
theorem dX8_brackets_30 : decode cX8_brackets 30 = .ok (.iaload, 1) := by decide +kernel
theorem dX8_brackets_31 : decode cX8_brackets 31 = .ok (.idiv, 1) := by decide +kernel
theorem dX8_brackets_32 : decode cX8_brackets 32 = .ok (.iadd, 1) := by decide +kernel
theorem dX8_brackets_33 : decode cX8_brackets 33 = .ok (.laload, 1) := by decide +kernel
theorem dX8_brackets_34 : decode cX8_brackets 34 = .ok (.aload_n 0, 1) := by decide +kernel
theorem dX8_brackets_35 : decode cX8_brackets 35 = .ok (.getfield 42, 3) := by decide +kernel
theorem dX8_brackets_38 : decode cX8_brackets 38 = .ok (.iload 4, 2) := by decide +kernel
theorem dX8_brackets_40 : decode cX8_brackets 40 = .ok (.iload 6, 2) := by decide +kernel
theorem dX8_brackets_42 : decode cX8_brackets 42 = .ok (.aload_n 0, 1) := by decide +kernel
theorem dX8_brackets_43 : decode cX8_brackets 43 = .ok (.getfield 13, 3) := by decide +kernel
theorem dX8_brackets_46 : decode cX8_brackets 46 = .ok (.iload 5, 2) := by decide +kernel
theorem dX8_brackets_48 : decode cX8_brackets 48 = .ok (.iaload, 1) := by decide +kernel
theorem dX8_brackets_49 : decode cX8_brackets 49 = .ok (.irem, 1) := by decide +kernel
theorem dX8_brackets_50 : decode cX8_brackets 50 = .ok (.iadd, 1) := by decide +kernel
theorem dX8_brackets_51 : decode cX8_brackets 51 = .ok (.laload, 1) := by decide +kernel
theorem dX8_brackets_52 : decode cX8_brackets 52 = .ok (.lmul, 1) := by decide +kernel
theorem dX8_brackets_53 : decode cX8_brackets 53 = .ok (.ldc2_w 3, 3) := by decide +kernel
theorem dX8_brackets_56 : decode cX8_brackets 56 = .ok (.lrem, 1) := by decide +kernel
theorem dX8_brackets_57 : decode cX8_brackets 57 = .ok (.lstore 7, 2) := by decide +kernel
theorem dX8_brackets_59 : decode cX8_brackets 59 = .ok (.aload_n 0, 1) := by decide +kernel
theorem dX8_brackets_60 : decode cX8_brackets 60 = .ok (.getfield 42, 3) := by decide +kernel
theorem dX8_brackets_63 : decode cX8_brackets 63 = .ok (.iload 4, 2) := by decide +kernel
theorem dX8_brackets_65 : decode cX8_brackets 65 = .ok (.iload 6, 2) := by decide +kernel
theorem dX8_brackets_67 : decode cX8_brackets 67 = .ok (.aload_n 0, 1) := by decide +kernel
theorem dX8_brackets_68 : decode cX8_brackets 68 = .ok (.getfield 13, 3) := by decide +kernel
theorem dX8_brackets_71 : decode cX8_brackets 71 = .ok (.iload_n 3, 1) := by decide +kernel
theorem dX8_brackets_72 : decode cX8_brackets 72 = .ok (.iaload, 1) := by decide +kernel
theorem dX8_brackets_73 : decode cX8_brackets 73 = .ok (.idiv, 1) := by decide +kernel
theorem dX8_brackets_74 : decode cX8_brackets 74 = .ok (.iadd, 1) := by decide +kernel
theorem dX8_brackets_75 : decode cX8_brackets 75 = .ok (.laload, 1) := by decide +kernel
theorem dX8_brackets_76 : decode cX8_brackets 76 = .ok (.aload_n 0, 1) := by decide +kernel
theorem dX8_brackets_77 : decode cX8_brackets 77 = .ok (.getfield 42, 3) := by decide +kernel
theorem dX8_brackets_80 : decode cX8_brackets 80 = .ok (.iload_n 2, 1) := by decide +kernel
theorem dX8_brackets_81 : decode cX8_brackets 81 = .ok (.iload 6, 2) := by decide +kernel
theorem dX8_brackets_83 : decode cX8_brackets 83 = .ok (.aload_n 0, 1) := by decide +kernel
theorem dX8_brackets_84 : decode cX8_brackets 84 = .ok (.getfield 13, 3) := by decide +kernel
theorem dX8_brackets_87 : decode cX8_brackets 87 = .ok (.iload_n 3, 1) := by decide +kernel
theorem dX8_brackets_88 : decode cX8_brackets 88 = .ok (.iaload, 1) := by decide +kernel
theorem dX8_brackets_89 : decode cX8_brackets 89 = .ok (.irem, 1) := by decide +kernel
theorem dX8_brackets_90 : decode cX8_brackets 90 = .ok (.iadd, 1) := by decide +kernel
theorem dX8_brackets_91 : decode cX8_brackets 91 = .ok (.laload, 1) := by decide +kernel
theorem dX8_brackets_92 : decode cX8_brackets 92 = .ok (.lmul, 1) := by decide +kernel
theorem dX8_brackets_93 : decode cX8_brackets 93 = .ok (.ldc2_w 3, 3) := by decide +kernel
theorem dX8_brackets_96 : decode cX8_brackets 96 = .ok (.lrem, 1) := by decide +kernel
theorem dX8_brackets_97 : decode cX8_brackets 97 = .ok (.lstore 9, 2) := by decide +kernel
theorem dX8_brackets_99 : decode cX8_brackets 99 = .ok (.aload_n 0, 1) := by decide +kernel
theorem dX8_brackets_100 : decode cX8_brackets 100 = .ok (.getfield 42, 3) := by decide +kernel
theorem dX8_brackets_103 : decode cX8_brackets 103 = .ok (.iload_n 1, 1) := by decide +kernel
theorem dX8_brackets_104 : decode cX8_brackets 104 = .ok (.iload 6, 2) := by decide +kernel
theorem dX8_brackets_106 : decode cX8_brackets 106 = .ok (.iadd, 1) := by decide +kernel
theorem dX8_brackets_107 : decode cX8_brackets 107 = .ok (.lload 7, 2) := by decide +kernel
theorem dX8_brackets_109 : decode cX8_brackets 109 = .ok (.lload 9, 2) := by decide +kernel
theorem dX8_brackets_111 : decode cX8_brackets 111 = .ok (.lsub, 1) := by decide +kernel
theorem dX8_brackets_112 : decode cX8_brackets 112 = .ok (.invokestatic 126, 3) := by decide +kernel
theorem dX8_brackets_115 : decode cX8_brackets 115 = .ok (.lastore, 1) := by decide +kernel
theorem dX8_brackets_116 : decode cX8_brackets 116 = .ok (.iinc 6 1, 3) := by decide +kernel
theorem dX8_brackets_119 : decode cX8_brackets 119 = .ok (.goto (-116), 3) := by decide +kernel
theorem dX8_brackets_122 : decode cX8_brackets 122 = .ok (.return_, 1) := by decide +kernel
set_option maxRecDepth 20000 in
theorem ggX8_wordOf_X8_in : GoodIn wsX8_wordOf wsX8_in := by
  refine goodIn_sub ?_ gd_X8_in
  unfold wsX8_in
  refine wm_c ⟨(wm_1 (wm_l (wm_4 (wm_2 wm_h)))), ?_⟩
  exact wm_n
set_option maxRecDepth 20000 in
theorem gX8_wordOf_X8_in : GoodIn wsX8_wordOf (va_wsS RX8 130 yX8_in wsX8_in) := goodIn_app (goodIn_of _ (by decide +kernel)) ggX8_wordOf_X8_in
theorem dX8_wordOf_0 : decode cX8_wordOf 0 = .ok (.iload_n 1, 1) := by decide +kernel
theorem dX8_wordOf_1 : decode cX8_wordOf 1 = .ok (.ifCond .ge 5, 3) := by decide +kernel
theorem dX8_wordOf_4 : decode cX8_wordOf 4 = .ok (.iconst (-1), 1) := by decide +kernel
theorem dX8_wordOf_5 : decode cX8_wordOf 5 = .ok (.ireturn, 1) := by decide +kernel
theorem dX8_wordOf_6 : decode cX8_wordOf 6 = .ok (.iconst 0, 1) := by decide +kernel
theorem dX8_wordOf_7 : decode cX8_wordOf 7 = .ok (.istore_n 2, 1) := by decide +kernel
theorem dX8_wordOf_8 : decode cX8_wordOf 8 = .ok (.iload_n 1, 1) := by decide +kernel
theorem dX8_wordOf_9 : decode cX8_wordOf 9 = .ok (.istore_n 3, 1) := by decide +kernel
theorem dX8_wordOf_10 : decode cX8_wordOf 10 = .ok (.iload_n 3, 1) := by decide +kernel
theorem dX8_wordOf_11 : decode cX8_wordOf 11 = .ok (.ifCond .le 14, 3) := by decide +kernel
theorem dX8_wordOf_14 : decode cX8_wordOf 14 = .ok (.iinc 2 1, 3) := by decide +kernel
theorem dX8_wordOf_17 : decode cX8_wordOf 17 = .ok (.iload_n 3, 1) := by decide +kernel
theorem dX8_wordOf_18 : decode cX8_wordOf 18 = .ok (.bipush 8, 2) := by decide +kernel
theorem dX8_wordOf_20 : decode cX8_wordOf 20 = .ok (.idiv, 1) := by decide +kernel
theorem dX8_wordOf_21 : decode cX8_wordOf 21 = .ok (.istore_n 3, 1) := by decide +kernel
theorem dX8_wordOf_22 : decode cX8_wordOf 22 = .ok (.goto (-12), 3) := by decide +kernel
theorem dX8_wordOf_25 : decode cX8_wordOf 25 = .ok (.iload_n 2, 1) := by decide +kernel
theorem dX8_wordOf_26 : decode cX8_wordOf 26 = .ok (.aload_n 0, 1) := by decide +kernel
theorem dX8_wordOf_27 : decode cX8_wordOf 27 = .ok (.getfield 92, 3) := by decide +kernel
theorem dX8_wordOf_30 : decode cX8_wordOf 30 = .ok (.if_icmp .le 5, 3) := by decide +kernel
theorem dX8_wordOf_33 : decode cX8_wordOf 33 = .ok (.iconst (-1), 1) := by decide +kernel
theorem dX8_wordOf_34 : decode cX8_wordOf 34 = .ok (.ireturn, 1) := by decide +kernel
theorem dX8_wordOf_35 : decode cX8_wordOf 35 = .ok (.iconst 0, 1) := by decide +kernel
theorem dX8_wordOf_36 : decode cX8_wordOf 36 = .ok (.istore 4, 2) := by decide +kernel
theorem dX8_wordOf_38 : decode cX8_wordOf 38 = .ok (.iload_n 2, 1) := by decide +kernel
theorem dX8_wordOf_39 : decode cX8_wordOf 39 = .ok (.iconst 1, 1) := by decide +kernel
theorem dX8_wordOf_40 : decode cX8_wordOf 40 = .ok (.isub, 1) := by decide +kernel
theorem dX8_wordOf_41 : decode cX8_wordOf 41 = .ok (.istore 5, 2) := by decide +kernel
theorem dX8_wordOf_43 : decode cX8_wordOf 43 = .ok (.iload 5, 2) := by decide +kernel
theorem dX8_wordOf_45 : decode cX8_wordOf 45 = .ok (.ifCond .lt 51, 3) := by decide +kernel
theorem dX8_wordOf_48 : decode cX8_wordOf 48 = .ok (.iload_n 1, 1) := by decide +kernel
theorem dX8_wordOf_49 : decode cX8_wordOf 49 = .ok (.iconst 3, 1) := by decide +kernel
theorem dX8_wordOf_50 : decode cX8_wordOf 50 = .ok (.iload 5, 2) := by decide +kernel
theorem dX8_wordOf_52 : decode cX8_wordOf 52 = .ok (.imul, 1) := by decide +kernel
theorem dX8_wordOf_53 : decode cX8_wordOf 53 = .ok (.ishr, 1) := by decide +kernel
theorem dX8_wordOf_54 : decode cX8_wordOf 54 = .ok (.bipush 7, 2) := by decide +kernel
theorem dX8_wordOf_56 : decode cX8_wordOf 56 = .ok (.iand, 1) := by decide +kernel
theorem dX8_wordOf_57 : decode cX8_wordOf 57 = .ok (.istore 6, 2) := by decide +kernel
theorem dX8_wordOf_59 : decode cX8_wordOf 59 = .ok (.iload 6, 2) := by decide +kernel
theorem dX8_wordOf_61 : decode cX8_wordOf 61 = .ok (.i2l, 1) := by decide +kernel
theorem dX8_wordOf_62 : decode cX8_wordOf 62 = .ok (.lconst 1, 1) := by decide +kernel
theorem dX8_wordOf_63 : decode cX8_wordOf 63 = .ok (.aload_n 0, 1) := by decide +kernel
theorem dX8_wordOf_64 : decode cX8_wordOf 64 = .ok (.getfield 88, 3) := by decide +kernel
theorem dX8_wordOf_67 : decode cX8_wordOf 67 = .ok (.i2l, 1) := by decide +kernel
theorem dX8_wordOf_68 : decode cX8_wordOf 68 = .ok (.invokestatic 130, 3) := by decide +kernel
theorem dX8_wordOf_71 : decode cX8_wordOf 71 = .ok (.ifCond .ne 5, 3) := by decide +kernel
theorem dX8_wordOf_74 : decode cX8_wordOf 74 = .ok (.iconst (-1), 1) := by decide +kernel
theorem dX8_wordOf_75 : decode cX8_wordOf 75 = .ok (.ireturn, 1) := by decide +kernel
theorem dX8_wordOf_76 : decode cX8_wordOf 76 = .ok (.aload_n 0, 1) := by decide +kernel
theorem dX8_wordOf_77 : decode cX8_wordOf 77 = .ok (.getfield 88, 3) := by decide +kernel
theorem dX8_wordOf_80 : decode cX8_wordOf 80 = .ok (.iload 4, 2) := by decide +kernel
theorem dX8_wordOf_82 : decode cX8_wordOf 82 = .ok (.imul, 1) := by decide +kernel
theorem dX8_wordOf_83 : decode cX8_wordOf 83 = .ok (.iload 6, 2) := by decide +kernel
theorem dX8_wordOf_85 : decode cX8_wordOf 85 = .ok (.iadd, 1) := by decide +kernel
theorem dX8_wordOf_86 : decode cX8_wordOf 86 = .ok (.iconst 1, 1) := by decide +kernel
theorem dX8_wordOf_87 : decode cX8_wordOf 87 = .ok (.isub, 1) := by decide +kernel
theorem dX8_wordOf_88 : decode cX8_wordOf 88 = .ok (.istore 4, 2) := by decide +kernel
theorem dX8_wordOf_90 : decode cX8_wordOf 90 = .ok (.iinc 5 (-1), 3) := by decide +kernel
theorem dX8_wordOf_93 : decode cX8_wordOf 93 = .ok (.goto (-50), 3) := by decide +kernel
theorem dX8_wordOf_96 : decode cX8_wordOf 96 = .ok (.aload_n 0, 1) := by decide +kernel
theorem dX8_wordOf_97 : decode cX8_wordOf 97 = .ok (.getfield 17, 3) := by decide +kernel
theorem dX8_wordOf_100 : decode cX8_wordOf 100 = .ok (.iload_n 2, 1) := by decide +kernel
theorem dX8_wordOf_101 : decode cX8_wordOf 101 = .ok (.iaload, 1) := by decide +kernel
theorem dX8_wordOf_102 : decode cX8_wordOf 102 = .ok (.iload 4, 2) := by decide +kernel
theorem dX8_wordOf_104 : decode cX8_wordOf 104 = .ok (.iadd, 1) := by decide +kernel
theorem dX8_wordOf_105 : decode cX8_wordOf 105 = .ok (.ireturn, 1) := by decide +kernel
set_option maxRecDepth 20000 in
theorem ggX8_codeOf_X8_letterAt : GoodIn wsX8_codeOf wsX8_letterAt := by
  refine goodIn_sub ?_ gd_X8_letterAt
  unfold wsX8_letterAt
  refine wm_c ⟨(wm_1 (wm_l (wm_4 (wm_1 wm_h)))), ?_⟩
  refine wm_a ⟨?_, ?_⟩
  · refine wm_c ⟨(wm_1 (wm_l (wm_4 (wm_2 wm_h)))), ?_⟩
    refine wm_c ⟨(wm_1 (wm_l wm_h)), ?_⟩
    refine wm_c ⟨(wm_1 (wm_l (wm_4 (wm_2 (wm_1 wm_h))))), ?_⟩
    refine wm_c ⟨(wm_1 (wm_l (wm_8 wm_h))), ?_⟩
    exact wm_n
  · exact wk_X8_codeOf_X80
set_option maxRecDepth 20000 in
theorem gX8_codeOf_X8_letterAt : GoodIn wsX8_codeOf (wsV RX8 106 RX8 yX8_letterAt wsX8_letterAt) := by
  refine goodIn_app (goodIn_sub ?_ ?_) ggX8_codeOf_X8_letterAt
  · exact wm_c ⟨(wm_1 (wm_l (wm_1 wm_h))), wm_c ⟨(wm_1 (wm_l (wm_2 wm_h))), wm_c ⟨(wm_1 (wm_l (wm_2 (wm_1 wm_h)))), wm_c ⟨(wm_1 (wm_l (wm_4 wm_h))), wm_n⟩⟩⟩⟩
  · decide +kernel
theorem dX8_codeOf_0 : decode cX8_codeOf 0 = .ok (.iconst 0, 1) := by decide +kernel
theorem dX8_codeOf_1 : decode cX8_codeOf 1 = .ok (.istore_n 2, 1) := by decide +kernel
theorem dX8_codeOf_2 : decode cX8_codeOf 2 = .ok (.iconst 0, 1) := by decide +kernel
theorem dX8_codeOf_3 : decode cX8_codeOf 3 = .ok (.istore_n 3, 1) := by decide +kernel
theorem dX8_codeOf_4 : decode cX8_codeOf 4 = .ok (.iload_n 3, 1) := by decide +kernel
theorem dX8_codeOf_5 : decode cX8_codeOf 5 = .ok (.aload_n 0, 1) := by decide +kernel
theorem dX8_codeOf_6 : decode cX8_codeOf 6 = .ok (.getfield 20, 3) := by decide +kernel
theorem dX8_codeOf_9 : decode cX8_codeOf 9 = .ok (.iload_n 1, 1) := by decide +kernel
theorem dX8_codeOf_10 : decode cX8_codeOf 10 = .ok (.iaload, 1) := by decide +kernel
theorem dX8_codeOf_11 : decode cX8_codeOf 11 = .ok (.if_icmp .ge 23, 3) := by decide +kernel
theorem dX8_codeOf_14 : decode cX8_codeOf 14 = .ok (.bipush 8, 2) := by decide +kernel
theorem dX8_codeOf_16 : decode cX8_codeOf 16 = .ok (.iload_n 2, 1) := by decide +kernel
theorem dX8_codeOf_17 : decode cX8_codeOf 17 = .ok (.imul, 1) := by decide +kernel
theorem dX8_codeOf_18 : decode cX8_codeOf 18 = .ok (.aload_n 0, 1) := by decide +kernel
theorem dX8_codeOf_19 : decode cX8_codeOf 19 = .ok (.iload_n 1, 1) := by decide +kernel
theorem dX8_codeOf_20 : decode cX8_codeOf 20 = .ok (.iload_n 3, 1) := by decide +kernel
theorem dX8_codeOf_21 : decode cX8_codeOf 21 = .ok (.invokevirtual 106, 3) := by decide +kernel
theorem dX8_codeOf_24 : decode cX8_codeOf 24 = .ok (.iadd, 1) := by decide +kernel
theorem dX8_codeOf_25 : decode cX8_codeOf 25 = .ok (.iconst 1, 1) := by decide +kernel
theorem dX8_codeOf_26 : decode cX8_codeOf 26 = .ok (.iadd, 1) := by decide +kernel
theorem dX8_codeOf_27 : decode cX8_codeOf 27 = .ok (.istore_n 2, 1) := by decide +kernel
theorem dX8_codeOf_28 : decode cX8_codeOf 28 = .ok (.iinc 3 1, 3) := by decide +kernel
theorem dX8_codeOf_31 : decode cX8_codeOf 31 = .ok (.goto (-27), 3) := by decide +kernel
theorem dX8_codeOf_34 : decode cX8_codeOf 34 = .ok (.iload_n 2, 1) := by decide +kernel
theorem dX8_codeOf_35 : decode cX8_codeOf 35 = .ok (.ireturn, 1) := by decide +kernel
set_option maxRecDepth 20000 in
theorem ggX8_isSum_X8_in : GoodIn wsX8_isSum wsX8_in := by
  refine goodIn_sub ?_ gd_X8_in
  unfold wsX8_in
  refine wm_c ⟨(wm_1 (wm_4 wm_h)), ?_⟩
  exact wm_n
set_option maxRecDepth 20000 in
theorem gX8_isSum_X8_in : GoodIn wsX8_isSum (va_wsS RX8 130 yX8_in wsX8_in) := goodIn_app (goodIn_of _ (by decide +kernel)) ggX8_isSum_X8_in
theorem dX8_isSum_0 : decode cX8_isSum 0 = .ok (.iload_n 0, 1) := by decide +kernel
theorem dX8_isSum_1 : decode cX8_isSum 1 = .ok (.i2l, 1) := by decide +kernel
theorem dX8_isSum_2 : decode cX8_isSum 2 = .ok (.lconst 0, 1) := by decide +kernel
theorem dX8_isSum_3 : decode cX8_isSum 3 = .ok (.ldc2_w 134, 3) := by decide +kernel
theorem dX8_isSum_6 : decode cX8_isSum 6 = .ok (.invokestatic 130, 3) := by decide +kernel
theorem dX8_isSum_9 : decode cX8_isSum 9 = .ok (.ireturn, 1) := by decide +kernel
theorem dX8_clears_0 : decode cX8_clears 0 = .ok (.iconst 0, 1) := by decide +kernel
theorem dX8_clears_1 : decode cX8_clears 1 = .ok (.istore_n 2, 1) := by decide +kernel
theorem dX8_clears_2 : decode cX8_clears 2 = .ok (.iload_n 2, 1) := by decide +kernel
theorem dX8_clears_3 : decode cX8_clears 3 = .ok (.aload_n 0, 1) := by decide +kernel
theorem dX8_clears_4 : decode cX8_clears 4 = .ok (.getfield 95, 3) := by decide +kernel
theorem dX8_clears_7 : decode cX8_clears 7 = .ok (.if_icmp .ge 22, 3) := by decide +kernel
theorem dX8_clears_10 : decode cX8_clears 10 = .ok (.aload_n 0, 1) := by decide +kernel
theorem dX8_clears_11 : decode cX8_clears 11 = .ok (.getfield 23, 3) := by decide +kernel
theorem dX8_clears_14 : decode cX8_clears 14 = .ok (.sipush 364, 3) := by decide +kernel
theorem dX8_clears_17 : decode cX8_clears 17 = .ok (.iload_n 1, 1) := by decide +kernel
theorem dX8_clears_18 : decode cX8_clears 18 = .ok (.imul, 1) := by decide +kernel
theorem dX8_clears_19 : decode cX8_clears 19 = .ok (.iload_n 2, 1) := by decide +kernel
theorem dX8_clears_20 : decode cX8_clears 20 = .ok (.iadd, 1) := by decide +kernel
theorem dX8_clears_21 : decode cX8_clears 21 = .ok (.lconst 0, 1) := by decide +kernel
theorem dX8_clears_22 : decode cX8_clears 22 = .ok (.lastore, 1) := by decide +kernel
theorem dX8_clears_23 : decode cX8_clears 23 = .ok (.iinc 2 1, 3) := by decide +kernel
theorem dX8_clears_26 : decode cX8_clears 26 = .ok (.goto (-24), 3) := by decide +kernel
theorem dX8_clears_29 : decode cX8_clears 29 = .ok (.return_, 1) := by decide +kernel
theorem dX8_copies_0 : decode cX8_copies 0 = .ok (.iconst 0, 1) := by decide +kernel
theorem dX8_copies_1 : decode cX8_copies 1 = .ok (.istore_n 3, 1) := by decide +kernel
theorem dX8_copies_2 : decode cX8_copies 2 = .ok (.iload_n 3, 1) := by decide +kernel
theorem dX8_copies_3 : decode cX8_copies 3 = .ok (.aload_n 0, 1) := by decide +kernel
theorem dX8_copies_4 : decode cX8_copies 4 = .ok (.getfield 95, 3) := by decide +kernel
theorem dX8_copies_7 : decode cX8_copies 7 = .ok (.if_icmp .ge 33, 3) := by decide +kernel
theorem dX8_copies_10 : decode cX8_copies 10 = .ok (.aload_n 0, 1) := by decide +kernel
theorem dX8_copies_11 : decode cX8_copies 11 = .ok (.getfield 23, 3) := by decide +kernel
theorem dX8_copies_14 : decode cX8_copies 14 = .ok (.sipush 364, 3) := by decide +kernel
theorem dX8_copies_17 : decode cX8_copies 17 = .ok (.iload_n 1, 1) := by decide +kernel
theorem dX8_copies_18 : decode cX8_copies 18 = .ok (.imul, 1) := by decide +kernel
theorem dX8_copies_19 : decode cX8_copies 19 = .ok (.iload_n 3, 1) := by decide +kernel
theorem dX8_copies_20 : decode cX8_copies 20 = .ok (.iadd, 1) := by decide +kernel
theorem dX8_copies_21 : decode cX8_copies 21 = .ok (.aload_n 0, 1) := by decide +kernel
theorem dX8_copies_22 : decode cX8_copies 22 = .ok (.getfield 23, 3) := by decide +kernel
theorem dX8_copies_25 : decode cX8_copies 25 = .ok (.sipush 364, 3) := by decide +kernel
theorem dX8_copies_28 : decode cX8_copies 28 = .ok (.iload_n 2, 1) := by decide +kernel
theorem dX8_copies_29 : decode cX8_copies 29 = .ok (.imul, 1) := by decide +kernel
theorem dX8_copies_30 : decode cX8_copies 30 = .ok (.iload_n 3, 1) := by decide +kernel
theorem dX8_copies_31 : decode cX8_copies 31 = .ok (.iadd, 1) := by decide +kernel
theorem dX8_copies_32 : decode cX8_copies 32 = .ok (.laload, 1) := by decide +kernel
theorem dX8_copies_33 : decode cX8_copies 33 = .ok (.lastore, 1) := by decide +kernel
theorem dX8_copies_34 : decode cX8_copies 34 = .ok (.iinc 3 1, 3) := by decide +kernel
theorem dX8_copies_37 : decode cX8_copies 37 = .ok (.goto (-35), 3) := by decide +kernel
theorem dX8_copies_40 : decode cX8_copies 40 = .ok (.return_, 1) := by decide +kernel
theorem dX8_adds_0 : decode cX8_adds 0 = .ok (.iconst 0, 1) := by decide +kernel
theorem dX8_adds_1 : decode cX8_adds 1 = .ok (.istore 5, 2) := by decide +kernel
theorem dX8_adds_3 : decode cX8_adds 3 = .ok (.iload 5, 2) := by decide +kernel
theorem dX8_adds_5 : decode cX8_adds 5 = .ok (.aload_n 0, 1) := by decide +kernel
theorem dX8_adds_6 : decode cX8_adds 6 = .ok (.getfield 95, 3) := by decide +kernel
theorem dX8_adds_9 : decode cX8_adds 9 = .ok (.if_icmp .ge 55, 3) := by decide +kernel
theorem dX8_adds_12 : decode cX8_adds 12 = .ok (.aload_n 0, 1) := by decide +kernel
theorem dX8_adds_13 : decode cX8_adds 13 = .ok (.getfield 23, 3) := by decide +kernel
theorem dX8_adds_16 : decode cX8_adds 16 = .ok (.sipush 364, 3) := by decide +kernel
theorem dX8_adds_19 : decode cX8_adds 19 = .ok (.iload_n 1, 1) := by decide +kernel
theorem dX8_adds_20 : decode cX8_adds 20 = .ok (.imul, 1) := by decide +kernel
theorem dX8_adds_21 : decode cX8_adds 21 = .ok (.iload 5, 2) := by decide +kernel
theorem dX8_adds_23 : decode cX8_adds 23 = .ok (.iadd, 1) := by decide +kernel
theorem dX8_adds_24 : decode cX8_adds 24 = .ok (.aload_n 0, 1) := by decide +kernel
theorem dX8_adds_25 : decode cX8_adds 25 = .ok (.getfield 23, 3) := by decide +kernel
theorem dX8_adds_28 : decode cX8_adds 28 = .ok (.sipush 364, 3) := by decide +kernel
theorem dX8_adds_31 : decode cX8_adds 31 = .ok (.iload_n 1, 1) := by decide +kernel
theorem dX8_adds_32 : decode cX8_adds 32 = .ok (.imul, 1) := by decide +kernel
theorem dX8_adds_33 : decode cX8_adds 33 = .ok (.iload 5, 2) := by decide +kernel
theorem dX8_adds_35 : decode cX8_adds 35 = .ok (.iadd, 1) := by decide +kernel
theorem dX8_adds_36 : decode cX8_adds 36 = .ok (.laload, 1) := by decide +kernel
theorem dX8_adds_37 : decode cX8_adds 37 = .ok (.aload_n 0, 1) := by decide +kernel
theorem dX8_adds_38 : decode cX8_adds 38 = .ok (.getfield 23, 3) := by decide +kernel
theorem dX8_adds_41 : decode cX8_adds 41 = .ok (.sipush 364, 3) := by decide +kernel
theorem dX8_adds_44 : decode cX8_adds 44 = .ok (.iload_n 2, 1) := by decide +kernel
theorem dX8_adds_45 : decode cX8_adds 45 = .ok (.imul, 1) := by decide +kernel
theorem dX8_adds_46 : decode cX8_adds 46 = .ok (.iload 5, 2) := by decide +kernel
theorem dX8_adds_48 : decode cX8_adds 48 = .ok (.iadd, 1) := by decide +kernel
theorem dX8_adds_49 : decode cX8_adds 49 = .ok (.laload, 1) := by decide +kernel
theorem dX8_adds_50 : decode cX8_adds 50 = .ok (.lload_n 3, 1) := by decide +kernel
theorem dX8_adds_51 : decode cX8_adds 51 = .ok (.lmul, 1) := by decide +kernel
theorem dX8_adds_52 : decode cX8_adds 52 = .ok (.ladd, 1) := by decide +kernel
theorem dX8_adds_53 : decode cX8_adds 53 = .ok (.ldc2_w 3, 3) := by decide +kernel
theorem dX8_adds_56 : decode cX8_adds 56 = .ok (.lrem, 1) := by decide +kernel
theorem dX8_adds_57 : decode cX8_adds 57 = .ok (.lastore, 1) := by decide +kernel
theorem dX8_adds_58 : decode cX8_adds 58 = .ok (.iinc 5 1, 3) := by decide +kernel
theorem dX8_adds_61 : decode cX8_adds 61 = .ok (.goto (-58), 3) := by decide +kernel
theorem dX8_adds_64 : decode cX8_adds 64 = .ok (.return_, 1) := by decide +kernel
set_option maxRecDepth 20000 in
theorem ggX8_ones_X8_clears : GoodIn wsX8_ones wsX8_clears := by
  refine goodIn_sub ?_ gd_X8_clears
  unfold wsX8_clears
  refine wm_c ⟨(wm_1 (wm_l (wm_4 (wm_1 wm_h)))), ?_⟩
  refine wm_a ⟨?_, ?_⟩
  · refine wm_c ⟨(wm_1 (wm_l (wm_4 (wm_2 wm_h)))), ?_⟩
    refine wm_c ⟨(wm_1 (wm_l wm_h)), ?_⟩
    exact wm_n
  · exact wk_X8_ones_X80
set_option maxRecDepth 20000 in
theorem gX8_ones_X8_clears : GoodIn wsX8_ones (wsV RX8 136 RX8 yX8_clears wsX8_clears) := by
  refine goodIn_app (goodIn_sub ?_ ?_) ggX8_ones_X8_clears
  · exact wm_c ⟨(wm_1 (wm_l (wm_1 wm_h))), wm_c ⟨(wm_1 (wm_l (wm_2 wm_h))), wm_c ⟨(wm_1 (wm_l (wm_2 (wm_1 wm_h)))), wm_c ⟨(wm_1 (wm_l (wm_4 wm_h))), wm_n⟩⟩⟩⟩
  · decide +kernel
theorem dX8_ones_0 : decode cX8_ones 0 = .ok (.aload_n 0, 1) := by decide +kernel
theorem dX8_ones_1 : decode cX8_ones 1 = .ok (.iload_n 1, 1) := by decide +kernel
theorem dX8_ones_2 : decode cX8_ones 2 = .ok (.invokevirtual 136, 3) := by decide +kernel
theorem dX8_ones_5 : decode cX8_ones 5 = .ok (.aload_n 0, 1) := by decide +kernel
theorem dX8_ones_6 : decode cX8_ones 6 = .ok (.getfield 23, 3) := by decide +kernel
theorem dX8_ones_9 : decode cX8_ones 9 = .ok (.sipush 364, 3) := by decide +kernel
theorem dX8_ones_12 : decode cX8_ones 12 = .ok (.iload_n 1, 1) := by decide +kernel
theorem dX8_ones_13 : decode cX8_ones 13 = .ok (.imul, 1) := by decide +kernel
theorem dX8_ones_14 : decode cX8_ones 14 = .ok (.lconst 1, 1) := by decide +kernel
theorem dX8_ones_15 : decode cX8_ones 15 = .ok (.lastore, 1) := by decide +kernel
theorem dX8_ones_16 : decode cX8_ones 16 = .ok (.return_, 1) := by decide +kernel
set_option maxRecDepth 20000 in
theorem ggX8_multiplies_X8_clears : GoodIn wsX8_multiplies wsX8_clears := by
  refine goodIn_sub ?_ gd_X8_clears
  unfold wsX8_clears
  refine wm_c ⟨(wm_1 (wm_l (wm_8 wm_h))), ?_⟩
  refine wm_a ⟨?_, ?_⟩
  · refine wm_c ⟨(wm_1 (wm_l wm_h)), ?_⟩
    refine wm_c ⟨(wm_1 (wm_l (wm_2 wm_h))), ?_⟩
    exact wm_n
  · exact wk_X8_multiplies_X80
set_option maxRecDepth 20000 in
theorem gX8_multiplies_X8_clears : GoodIn wsX8_multiplies (wsV RX8 136 RX8 yX8_clears wsX8_clears) := by
  refine goodIn_app (goodIn_sub ?_ ?_) ggX8_multiplies_X8_clears
  · exact wm_c ⟨(wm_1 (wm_l (wm_4 wm_h))), wm_c ⟨(wm_1 (wm_l (wm_4 (wm_1 wm_h)))), wm_c ⟨(wm_1 (wm_l (wm_4 (wm_2 wm_h)))), wm_c ⟨(wm_1 (wm_l (wm_4 (wm_2 (wm_1 wm_h))))), wm_n⟩⟩⟩⟩
  · decide +kernel
set_option maxRecDepth 20000 in
theorem ggX8_multiplies_X8_beginning : GoodIn wsX8_multiplies wsX8_beginning := by
  refine goodIn_sub ?_ gd_X8_beginning
  unfold wsX8_beginning
  refine wm_c ⟨(wm_1 (wm_l (wm_8 (wm_4 wm_h)))), ?_⟩
  refine wm_a ⟨?_, ?_⟩
  · refine wm_c ⟨(wm_1 (wm_l (wm_8 (wm_4 (wm_1 wm_h))))), ?_⟩
    refine wm_c ⟨(wm_1 (wm_l (wm_1 wm_h))), ?_⟩
    refine wm_c ⟨(wm_1 (wm_l (wm_8 (wm_4 (wm_2 wm_h))))), ?_⟩
    exact wm_n
  · exact wk_X8_multiplies_X80
set_option maxRecDepth 20000 in
theorem gX8_multiplies_X8_beginning : GoodIn wsX8_multiplies (wsV RX8 119 RX8 yX8_beginning wsX8_beginning) := by
  refine goodIn_app (goodIn_sub ?_ ?_) ggX8_multiplies_X8_beginning
  · exact wm_c ⟨(wm_1 (wm_l (wm_8 (wm_1 wm_h)))), wm_c ⟨(wm_1 (wm_l (wm_8 (wm_2 wm_h)))), wm_c ⟨(wm_1 (wm_l (wm_8 (wm_2 (wm_1 wm_h))))), wm_c ⟨(wm_1 (wm_l (wm_4 (wm_2 (wm_1 wm_h))))), wm_n⟩⟩⟩⟩
  · decide +kernel
set_option maxRecDepth 20000 in
theorem ggX8_multiplies_X8_end : GoodIn wsX8_multiplies wsX8_end := by
  refine goodIn_sub ?_ gd_X8_end
  unfold wsX8_end
  refine wm_c ⟨(wm_1 (wm_l (wm_16 (wm_2 wm_h)))), ?_⟩
  refine wm_a ⟨?_, ?_⟩
  · refine wm_c ⟨(wm_1 (wm_l (wm_1 wm_h))), ?_⟩
    refine wm_c ⟨(wm_1 (wm_l (wm_8 (wm_4 (wm_1 wm_h))))), ?_⟩
    refine wm_c ⟨(wm_1 (wm_l (wm_8 (wm_4 (wm_2 wm_h))))), ?_⟩
    exact wm_n
  · exact wk_X8_multiplies_X80
set_option maxRecDepth 20000 in
theorem gX8_multiplies_X8_end : GoodIn wsX8_multiplies (wsV RX8 109 RX8 yX8_end wsX8_end) := by
  refine goodIn_app (goodIn_sub ?_ ?_) ggX8_multiplies_X8_end
  · exact wm_c ⟨(wm_1 (wm_l (wm_8 (wm_4 (wm_2 (wm_1 wm_h)))))), wm_c ⟨(wm_1 (wm_l (wm_16 wm_h))), wm_c ⟨(wm_1 (wm_l (wm_16 (wm_1 wm_h)))), wm_c ⟨(wm_1 (wm_l (wm_4 (wm_2 (wm_1 wm_h))))), wm_n⟩⟩⟩⟩
  · decide +kernel
theorem dX8_multiplies_0 : decode cX8_multiplies 0 = .ok (.aload_n 0, 1) := by decide +kernel
theorem dX8_multiplies_1 : decode cX8_multiplies 1 = .ok (.iload_n 1, 1) := by decide +kernel
theorem dX8_multiplies_2 : decode cX8_multiplies 2 = .ok (.invokevirtual 136, 3) := by decide +kernel
theorem dX8_multiplies_5 : decode cX8_multiplies 5 = .ok (.iconst 0, 1) := by decide +kernel
theorem dX8_multiplies_6 : decode cX8_multiplies 6 = .ok (.istore 4, 2) := by decide +kernel
theorem dX8_multiplies_8 : decode cX8_multiplies 8 = .ok (.iload 4, 2) := by decide +kernel
theorem dX8_multiplies_10 : decode cX8_multiplies 10 = .ok (.aload_n 0, 1) := by decide +kernel
theorem dX8_multiplies_11 : decode cX8_multiplies 11 = .ok (.getfield 95, 3) := by decide +kernel
theorem dX8_multiplies_14 : decode cX8_multiplies 14 = .ok (.if_icmp .ge 96, 3) := by decide +kernel
theorem dX8_multiplies_17 : decode cX8_multiplies 17 = .ok (.lconst 0, 1) := by decide +kernel
theorem dX8_multiplies_18 : decode cX8_multiplies 18 = .ok (.lstore 5, 2) := by decide +kernel
theorem dX8_multiplies_20 : decode cX8_multiplies 20 = .ok (.iconst 0, 1) := by decide +kernel
theorem dX8_multiplies_21 : decode cX8_multiplies 21 = .ok (.istore 7, 2) := by decide +kernel
theorem dX8_multiplies_23 : decode cX8_multiplies 23 = .ok (.iload 7, 2) := by decide +kernel
theorem dX8_multiplies_25 : decode cX8_multiplies 25 = .ok (.aload_n 0, 1) := by decide +kernel
theorem dX8_multiplies_26 : decode cX8_multiplies 26 = .ok (.getfield 20, 3) := by decide +kernel
theorem dX8_multiplies_29 : decode cX8_multiplies 29 = .ok (.iload 4, 2) := by decide +kernel
theorem dX8_multiplies_31 : decode cX8_multiplies 31 = .ok (.iaload, 1) := by decide +kernel
theorem dX8_multiplies_32 : decode cX8_multiplies 32 = .ok (.if_icmp .gt 57, 3) := by decide +kernel
theorem dX8_multiplies_35 : decode cX8_multiplies 35 = .ok (.lload 5, 2) := by decide +kernel
theorem dX8_multiplies_37 : decode cX8_multiplies 37 = .ok (.aload_n 0, 1) := by decide +kernel
theorem dX8_multiplies_38 : decode cX8_multiplies 38 = .ok (.getfield 23, 3) := by decide +kernel
theorem dX8_multiplies_41 : decode cX8_multiplies 41 = .ok (.sipush 364, 3) := by decide +kernel
theorem dX8_multiplies_44 : decode cX8_multiplies 44 = .ok (.iload_n 2, 1) := by decide +kernel
theorem dX8_multiplies_45 : decode cX8_multiplies 45 = .ok (.imul, 1) := by decide +kernel
theorem dX8_multiplies_46 : decode cX8_multiplies 46 = .ok (.aload_n 0, 1) := by decide +kernel
theorem dX8_multiplies_47 : decode cX8_multiplies 47 = .ok (.iload 4, 2) := by decide +kernel
theorem dX8_multiplies_49 : decode cX8_multiplies 49 = .ok (.iload 7, 2) := by decide +kernel
theorem dX8_multiplies_51 : decode cX8_multiplies 51 = .ok (.invokevirtual 119, 3) := by decide +kernel
theorem dX8_multiplies_54 : decode cX8_multiplies 54 = .ok (.iadd, 1) := by decide +kernel
theorem dX8_multiplies_55 : decode cX8_multiplies 55 = .ok (.laload, 1) := by decide +kernel
theorem dX8_multiplies_56 : decode cX8_multiplies 56 = .ok (.aload_n 0, 1) := by decide +kernel
theorem dX8_multiplies_57 : decode cX8_multiplies 57 = .ok (.getfield 23, 3) := by decide +kernel
theorem dX8_multiplies_60 : decode cX8_multiplies 60 = .ok (.sipush 364, 3) := by decide +kernel
theorem dX8_multiplies_63 : decode cX8_multiplies 63 = .ok (.iload_n 3, 1) := by decide +kernel
theorem dX8_multiplies_64 : decode cX8_multiplies 64 = .ok (.imul, 1) := by decide +kernel
theorem dX8_multiplies_65 : decode cX8_multiplies 65 = .ok (.aload_n 0, 1) := by decide +kernel
theorem dX8_multiplies_66 : decode cX8_multiplies 66 = .ok (.iload 4, 2) := by decide +kernel
theorem dX8_multiplies_68 : decode cX8_multiplies 68 = .ok (.iload 7, 2) := by decide +kernel
theorem dX8_multiplies_70 : decode cX8_multiplies 70 = .ok (.invokevirtual 109, 3) := by decide +kernel
theorem dX8_multiplies_73 : decode cX8_multiplies 73 = .ok (.iadd, 1) := by decide +kernel
theorem dX8_multiplies_74 : decode cX8_multiplies 74 = .ok (.laload, 1) := by decide +kernel
theorem dX8_multiplies_75 : decode cX8_multiplies 75 = .ok (.lmul, 1) := by decide +kernel
theorem dX8_multiplies_76 : decode cX8_multiplies 76 = .ok (.ladd, 1) := by decide +kernel
theorem dX8_multiplies_77 : decode cX8_multiplies 77 = .ok (.ldc2_w 3, 3) := by decide +kernel
theorem dX8_multiplies_80 : decode cX8_multiplies 80 = .ok (.lrem, 1) := by decide +kernel
theorem dX8_multiplies_81 : decode cX8_multiplies 81 = .ok (.lstore 5, 2) := by decide +kernel
theorem dX8_multiplies_83 : decode cX8_multiplies 83 = .ok (.iinc 7 1, 3) := by decide +kernel
theorem dX8_multiplies_86 : decode cX8_multiplies 86 = .ok (.goto (-63), 3) := by decide +kernel
theorem dX8_multiplies_89 : decode cX8_multiplies 89 = .ok (.aload_n 0, 1) := by decide +kernel
theorem dX8_multiplies_90 : decode cX8_multiplies 90 = .ok (.getfield 23, 3) := by decide +kernel
theorem dX8_multiplies_93 : decode cX8_multiplies 93 = .ok (.sipush 364, 3) := by decide +kernel
theorem dX8_multiplies_96 : decode cX8_multiplies 96 = .ok (.iload_n 1, 1) := by decide +kernel
theorem dX8_multiplies_97 : decode cX8_multiplies 97 = .ok (.imul, 1) := by decide +kernel
theorem dX8_multiplies_98 : decode cX8_multiplies 98 = .ok (.iload 4, 2) := by decide +kernel
theorem dX8_multiplies_100 : decode cX8_multiplies 100 = .ok (.iadd, 1) := by decide +kernel
theorem dX8_multiplies_101 : decode cX8_multiplies 101 = .ok (.lload 5, 2) := by decide +kernel
theorem dX8_multiplies_103 : decode cX8_multiplies 103 = .ok (.lastore, 1) := by decide +kernel
theorem dX8_multiplies_104 : decode cX8_multiplies 104 = .ok (.iinc 4 1, 3) := by decide +kernel
theorem dX8_multiplies_107 : decode cX8_multiplies 107 = .ok (.goto (-99), 3) := by decide +kernel
theorem dX8_multiplies_110 : decode cX8_multiplies 110 = .ok (.return_, 1) := by decide +kernel
set_option maxRecDepth 20000 in
theorem ggX8_series_X8_copies : GoodIn wsX8_series wsX8_copies := by
  refine goodIn_sub ?_ gd_X8_copies
  unfold wsX8_copies
  refine wm_c ⟨(wk_X8_series_X8_series_r1 _ (wm_4 (wm_2 (wm_1 wm_h)))), ?_⟩
  refine wm_a ⟨?_, ?_⟩
  · refine wm_c ⟨(wk_X8_series_X8_series_r1 _ (wm_8 wm_h)), ?_⟩
    refine wm_c ⟨(wk_X8_series_X8_series_r1 _ wm_h), ?_⟩
    exact wm_n
  · exact wk_X8_series_X80
set_option maxRecDepth 20000 in
theorem gX8_series_X8_copies : GoodIn wsX8_series (wsV RX8 139 RX8 yX8_copies wsX8_copies) := by
  refine goodIn_app (goodIn_sub ?_ ?_) ggX8_series_X8_copies
  · exact wm_c ⟨(wk_X8_series_X8_series_r1 _ (wm_2 (wm_1 wm_h))), wm_c ⟨(wk_X8_series_X8_series_r1 _ (wm_4 wm_h)), wm_c ⟨(wk_X8_series_X8_series_r1 _ (wm_4 (wm_1 wm_h))), wm_c ⟨(wk_X8_series_X8_series_r1 _ (wm_4 (wm_2 wm_h))), wm_n⟩⟩⟩⟩
  · decide +kernel
set_option maxRecDepth 20000 in
theorem ggX8_series_X8_ones : GoodIn wsX8_series wsX8_ones := by
  refine goodIn_sub ?_ gd_X8_ones
  unfold wsX8_ones
  refine wm_c ⟨(wk_X8_series_X8_series_r1 _ (wm_8 (wm_4 wm_h))), ?_⟩
  refine wm_a ⟨?_, ?_⟩
  · refine wm_c ⟨(wk_X8_series_X8_series_r1 _ wm_h), ?_⟩
    refine wm_c ⟨(wk_X8_series_X8_series_r1 _ (wm_8 (wm_4 (wm_1 wm_h)))), ?_⟩
    refine wm_c ⟨(wk_X8_series_X8_series_r1 _ (wm_8 (wm_4 (wm_2 wm_h)))), ?_⟩
    refine wm_c ⟨(wk_X8_series_X8_series_r1 _ (wm_8 (wm_4 (wm_2 (wm_1 wm_h))))), ?_⟩
    refine wm_c ⟨(wk_X8_series_X8_series_r1 _ (wm_4 (wm_2 wm_h))), ?_⟩
    refine wm_c ⟨(wk_X8_series_X8_series_r1 _ (wm_16 wm_h)), ?_⟩
    refine wm_c ⟨(wk_X8_series_X8_series_r1 _ (wm_8 wm_h)), ?_⟩
    exact wm_n
  · exact wk_X8_series_X80
set_option maxRecDepth 20000 in
theorem gX8_series_X8_ones : GoodIn wsX8_series (wsV RX8 143 RX8 yX8_ones wsX8_ones) := by
  refine goodIn_app (goodIn_sub ?_ ?_) ggX8_series_X8_ones
  · exact wm_c ⟨(wk_X8_series_X8_series_r1 _ (wm_8 (wm_1 wm_h))), wm_c ⟨(wk_X8_series_X8_series_r1 _ (wm_8 (wm_2 wm_h))), wm_c ⟨(wk_X8_series_X8_series_r1 _ (wm_8 (wm_2 (wm_1 wm_h)))), wm_c ⟨(wk_X8_series_X8_series_r1 _ (wm_4 (wm_2 wm_h))), wm_n⟩⟩⟩⟩
  · decide +kernel
set_option maxRecDepth 20000 in
theorem ggX8_series_X8_clears : GoodIn wsX8_series wsX8_clears := by
  refine goodIn_sub ?_ gd_X8_clears
  unfold wsX8_clears
  refine wm_c ⟨(wk_X8_series_X8_series_r1 _ (wm_16 wm_h)), ?_⟩
  refine wm_a ⟨?_, ?_⟩
  · refine wm_c ⟨(wk_X8_series_X8_series_r1 _ (wm_8 wm_h)), ?_⟩
    refine wm_c ⟨(wk_X8_series_X8_series_r1 _ wm_h), ?_⟩
    exact wm_n
  · exact wk_X8_series_X80
set_option maxRecDepth 20000 in
theorem gX8_series_X8_clears : GoodIn wsX8_series (wsV RX8 136 RX8 yX8_clears wsX8_clears) := by
  refine goodIn_app (goodIn_sub ?_ ?_) ggX8_series_X8_clears
  · exact wm_c ⟨(wk_X8_series_X8_series_r1 _ (wm_8 (wm_4 (wm_1 wm_h)))), wm_c ⟨(wk_X8_series_X8_series_r1 _ (wm_8 (wm_4 (wm_2 wm_h)))), wm_c ⟨(wk_X8_series_X8_series_r1 _ (wm_8 (wm_4 (wm_2 (wm_1 wm_h))))), wm_c ⟨(wk_X8_series_X8_series_r1 _ (wm_4 (wm_2 wm_h))), wm_n⟩⟩⟩⟩
  · decide +kernel
set_option maxRecDepth 20000 in
theorem ggX8_series_X8_multiplies : GoodIn wsX8_series wsX8_multiplies := by
  refine goodIn_sub ?_ gd_X8_multiplies
  unfold wsX8_multiplies
  refine wm_c ⟨(wk_X8_series_X8_series_r1 _ (wm_16 (wm_4 wm_h))), ?_⟩
  refine wm_a ⟨?_, ?_⟩
  · refine wm_c ⟨(wk_X8_series_X8_series_r1 _ (wm_8 wm_h)), ?_⟩
    refine wm_c ⟨(wk_X8_series_X8_series_r1 _ (wm_16 (wm_4 (wm_1 wm_h)))), ?_⟩
    refine wm_c ⟨(wk_X8_series_X8_series_r1 _ wm_h), ?_⟩
    refine wm_c ⟨(wk_X8_series_X8_series_r1 _ (wm_2 wm_h)), ?_⟩
    refine wm_c ⟨(wk_X8_series_X8_series_r1 _ (wm_8 (wm_4 (wm_1 wm_h)))), ?_⟩
    refine wm_c ⟨(wk_X8_series_X8_series_r1 _ (wm_8 (wm_4 (wm_2 wm_h)))), ?_⟩
    refine wm_c ⟨(wk_X8_series_X8_series_r1 _ (wm_8 (wm_4 (wm_2 (wm_1 wm_h))))), ?_⟩
    refine wm_c ⟨(wk_X8_series_X8_series_r1 _ (wm_4 (wm_2 wm_h))), ?_⟩
    refine wm_c ⟨(wk_X8_series_X8_series_r1 _ (wm_16 wm_h)), ?_⟩
    refine wm_c ⟨(wk_X8_series_X8_series_r1 _ (wm_16 (wm_4 (wm_2 wm_h)))), ?_⟩
    refine wm_c ⟨(wk_X8_series_X8_series_r1 _ (wm_16 (wm_4 (wm_2 (wm_1 wm_h))))), ?_⟩
    refine wm_c ⟨(wk_X8_series_X8_series_r2 _ wm_h), ?_⟩
    refine wm_c ⟨(wk_X8_series_X8_series_r2 _ (wm_1 wm_h)), ?_⟩
    refine wm_c ⟨(wk_X8_series_X8_series_r2 _ (wm_2 wm_h)), ?_⟩
    refine wm_c ⟨(wk_X8_series_X8_series_r2 _ (wm_2 (wm_1 wm_h))), ?_⟩
    refine wm_c ⟨(wk_X8_series_X8_series_r2 _ (wm_4 wm_h)), ?_⟩
    refine wm_c ⟨(wk_X8_series_X8_series_r2 _ (wm_4 (wm_1 wm_h))), ?_⟩
    refine wm_c ⟨(wk_X8_series_X8_series_r2 _ (wm_4 (wm_2 wm_h))), ?_⟩
    refine wm_c ⟨(wk_X8_series_X8_series_r2 _ (wm_4 (wm_2 (wm_1 wm_h)))), ?_⟩
    exact wm_n
  · exact wk_X8_series_X80
set_option maxRecDepth 20000 in
theorem gX8_series_X8_multiplies : GoodIn wsX8_series (wsV RX8 146 RX8 yX8_multiplies wsX8_multiplies) := by
  refine goodIn_app (goodIn_sub ?_ ?_) ggX8_series_X8_multiplies
  · exact wm_c ⟨(wk_X8_series_X8_series_r1 _ (wm_16 (wm_1 wm_h))), wm_c ⟨(wk_X8_series_X8_series_r1 _ (wm_16 (wm_2 wm_h))), wm_c ⟨(wk_X8_series_X8_series_r1 _ (wm_16 (wm_2 (wm_1 wm_h)))), wm_c ⟨(wk_X8_series_X8_series_r1 _ (wm_4 (wm_2 wm_h))), wm_n⟩⟩⟩⟩
  · decide +kernel
set_option maxRecDepth 20000 in
theorem ggX8_series_X8_inverted : GoodIn wsX8_series wsX8_inverted := by
  refine goodIn_sub ?_ gd_X8_inverted
  unfold wsX8_inverted
  refine wm_c ⟨(wk_X8_series_X8_series_r2 _ (wm_8 (wm_2 wm_h))), ?_⟩
  refine wm_c ⟨(wk_X8_series_X8_series_r2 _ (wm_8 (wm_2 (wm_1 wm_h)))), ?_⟩
  refine wm_c ⟨(wk_X8_series_X8_series_r1 _ (wm_2 wm_h)), ?_⟩
  exact wm_n
set_option maxRecDepth 20000 in
theorem gX8_series_X8_inverted : GoodIn wsX8_series (va_wsS RX8 150 yX8_inverted wsX8_inverted) := goodIn_app (goodIn_of _ (by decide +kernel)) ggX8_series_X8_inverted
set_option maxRecDepth 20000 in
theorem ggX8_series_X8_adds : GoodIn wsX8_series wsX8_adds := by
  refine goodIn_sub ?_ gd_X8_adds
  unfold wsX8_adds
  refine wm_c ⟨(wk_X8_series_X8_series_r2 _ (wm_8 (wm_4 (wm_2 (wm_1 wm_h))))), ?_⟩
  refine wm_a ⟨?_, ?_⟩
  · refine wm_c ⟨(wk_X8_series_X8_series_r1 _ (wm_8 wm_h)), ?_⟩
    refine wm_c ⟨(wk_X8_series_X8_series_r1 _ wm_h), ?_⟩
    refine wm_c ⟨(wk_X8_series_X8_series_r1 _ (wm_2 wm_h)), ?_⟩
    exact wm_n
  · exact wk_X8_series_X80
set_option maxRecDepth 20000 in
theorem gX8_series_X8_adds : GoodIn wsX8_series (wsV RX8 153 RX8 yX8_adds wsX8_adds) := by
  refine goodIn_app (goodIn_sub ?_ ?_) ggX8_series_X8_adds
  · exact wm_c ⟨(wk_X8_series_X8_series_r2 _ (wm_8 (wm_4 wm_h))), wm_c ⟨(wk_X8_series_X8_series_r2 _ (wm_8 (wm_4 (wm_1 wm_h)))), wm_c ⟨(wk_X8_series_X8_series_r2 _ (wm_8 (wm_4 (wm_2 wm_h)))), wm_c ⟨(wk_X8_series_X8_series_r1 _ (wm_4 (wm_2 wm_h))), wm_n⟩⟩⟩⟩
  · decide +kernel
theorem dX8_series_0 : decode cX8_series 0 = .ok (.aload_n 0, 1) := by decide +kernel
theorem dX8_series_1 : decode cX8_series 1 = .ok (.bipush 9, 2) := by decide +kernel
theorem dX8_series_3 : decode cX8_series 3 = .ok (.iload_n 2, 1) := by decide +kernel
theorem dX8_series_4 : decode cX8_series 4 = .ok (.invokevirtual 139, 3) := by decide +kernel
theorem dX8_series_7 : decode cX8_series 7 = .ok (.aload_n 0, 1) := by decide +kernel
theorem dX8_series_8 : decode cX8_series 8 = .ok (.getfield 23, 3) := by decide +kernel
theorem dX8_series_11 : decode cX8_series 11 = .ok (.sipush 3276, 3) := by decide +kernel
theorem dX8_series_14 : decode cX8_series 14 = .ok (.lconst 0, 1) := by decide +kernel
theorem dX8_series_15 : decode cX8_series 15 = .ok (.lastore, 1) := by decide +kernel
theorem dX8_series_16 : decode cX8_series 16 = .ok (.aload_n 0, 1) := by decide +kernel
theorem dX8_series_17 : decode cX8_series 17 = .ok (.bipush 10, 2) := by decide +kernel
theorem dX8_series_19 : decode cX8_series 19 = .ok (.invokevirtual 143, 3) := by decide +kernel
theorem dX8_series_22 : decode cX8_series 22 = .ok (.aload_n 0, 1) := by decide +kernel
theorem dX8_series_23 : decode cX8_series 23 = .ok (.bipush 11, 2) := by decide +kernel
theorem dX8_series_25 : decode cX8_series 25 = .ok (.invokevirtual 136, 3) := by decide +kernel
theorem dX8_series_28 : decode cX8_series 28 = .ok (.aload_n 0, 1) := by decide +kernel
theorem dX8_series_29 : decode cX8_series 29 = .ok (.getfield 23, 3) := by decide +kernel
theorem dX8_series_32 : decode cX8_series 32 = .ok (.sipush 4004, 3) := by decide +kernel
theorem dX8_series_35 : decode cX8_series 35 = .ok (.iload_n 3, 1) := by decide +kernel
theorem dX8_series_36 : decode cX8_series 36 = .ok (.iconst 1, 1) := by decide +kernel
theorem dX8_series_37 : decode cX8_series 37 = .ok (.if_icmp .ne 7, 3) := by decide +kernel
theorem dX8_series_40 : decode cX8_series 40 = .ok (.lconst 0, 1) := by decide +kernel
theorem dX8_series_41 : decode cX8_series 41 = .ok (.goto 4, 3) := by decide +kernel
theorem dX8_series_44 : decode cX8_series 44 = .ok (.lconst 1, 1) := by decide +kernel
theorem dX8_series_45 : decode cX8_series 45 = .ok (.lastore, 1) := by decide +kernel
theorem dX8_series_46 : decode cX8_series 46 = .ok (.lconst 1, 1) := by decide +kernel
theorem dX8_series_47 : decode cX8_series 47 = .ok (.lstore 4, 2) := by decide +kernel
theorem dX8_series_49 : decode cX8_series 49 = .ok (.iconst 1, 1) := by decide +kernel
theorem dX8_series_50 : decode cX8_series 50 = .ok (.istore 6, 2) := by decide +kernel
theorem dX8_series_52 : decode cX8_series 52 = .ok (.iload 6, 2) := by decide +kernel
theorem dX8_series_54 : decode cX8_series 54 = .ok (.aload_n 0, 1) := by decide +kernel
theorem dX8_series_55 : decode cX8_series 55 = .ok (.getfield 92, 3) := by decide +kernel
theorem dX8_series_58 : decode cX8_series 58 = .ok (.if_icmp .gt 104, 3) := by decide +kernel
theorem dX8_series_61 : decode cX8_series 61 = .ok (.aload_n 0, 1) := by decide +kernel
theorem dX8_series_62 : decode cX8_series 62 = .ok (.bipush 12, 2) := by decide +kernel
theorem dX8_series_64 : decode cX8_series 64 = .ok (.bipush 10, 2) := by decide +kernel
theorem dX8_series_66 : decode cX8_series 66 = .ok (.bipush 9, 2) := by decide +kernel
theorem dX8_series_68 : decode cX8_series 68 = .ok (.invokevirtual 146, 3) := by decide +kernel
theorem dX8_series_71 : decode cX8_series 71 = .ok (.aload_n 0, 1) := by decide +kernel
theorem dX8_series_72 : decode cX8_series 72 = .ok (.bipush 10, 2) := by decide +kernel
theorem dX8_series_74 : decode cX8_series 74 = .ok (.bipush 12, 2) := by decide +kernel
theorem dX8_series_76 : decode cX8_series 76 = .ok (.invokevirtual 139, 3) := by decide +kernel
theorem dX8_series_79 : decode cX8_series 79 = .ok (.iload_n 3, 1) := by decide +kernel
theorem dX8_series_80 : decode cX8_series 80 = .ok (.ifCond .ne 19, 3) := by decide +kernel
theorem dX8_series_83 : decode cX8_series 83 = .ok (.lload 4, 2) := by decide +kernel
theorem dX8_series_85 : decode cX8_series 85 = .ok (.iload 6, 2) := by decide +kernel
theorem dX8_series_87 : decode cX8_series 87 = .ok (.i2l, 1) := by decide +kernel
theorem dX8_series_88 : decode cX8_series 88 = .ok (.invokestatic 150, 3) := by decide +kernel
theorem dX8_series_91 : decode cX8_series 91 = .ok (.lmul, 1) := by decide +kernel
theorem dX8_series_92 : decode cX8_series 92 = .ok (.ldc2_w 3, 3) := by decide +kernel
theorem dX8_series_95 : decode cX8_series 95 = .ok (.lrem, 1) := by decide +kernel
theorem dX8_series_96 : decode cX8_series 96 = .ok (.goto 18, 3) := by decide +kernel
theorem dX8_series_99 : decode cX8_series 99 = .ok (.iload_n 3, 1) := by decide +kernel
theorem dX8_series_100 : decode cX8_series 100 = .ok (.iconst 1, 1) := by decide +kernel
theorem dX8_series_101 : decode cX8_series 101 = .ok (.if_icmp .ne 12, 3) := by decide +kernel
theorem dX8_series_104 : decode cX8_series 104 = .ok (.iload 6, 2) := by decide +kernel
theorem dX8_series_106 : decode cX8_series 106 = .ok (.i2l, 1) := by decide +kernel
theorem dX8_series_107 : decode cX8_series 107 = .ok (.invokestatic 150, 3) := by decide +kernel
theorem dX8_series_110 : decode cX8_series 110 = .ok (.goto 4, 3) := by decide +kernel
theorem dX8_series_113 : decode cX8_series 113 = .ok (.lconst 1, 1) := by decide +kernel
theorem dX8_series_114 : decode cX8_series 114 = .ok (.lstore 4, 2) := by decide +kernel
theorem dX8_series_116 : decode cX8_series 116 = .ok (.aload_n 0, 1) := by decide +kernel
theorem dX8_series_117 : decode cX8_series 117 = .ok (.bipush 11, 2) := by decide +kernel
theorem dX8_series_119 : decode cX8_series 119 = .ok (.bipush 10, 2) := by decide +kernel
theorem dX8_series_121 : decode cX8_series 121 = .ok (.iload_n 3, 1) := by decide +kernel
theorem dX8_series_122 : decode cX8_series 122 = .ok (.ifCond .eq 20, 3) := by decide +kernel
theorem dX8_series_125 : decode cX8_series 125 = .ok (.iload 6, 2) := by decide +kernel
theorem dX8_series_127 : decode cX8_series 127 = .ok (.iconst 2, 1) := by decide +kernel
theorem dX8_series_128 : decode cX8_series 128 = .ok (.irem, 1) := by decide +kernel
theorem dX8_series_129 : decode cX8_series 129 = .ok (.iload_n 3, 1) := by decide +kernel
theorem dX8_series_130 : decode cX8_series 130 = .ok (.iconst 1, 1) := by decide +kernel
theorem dX8_series_131 : decode cX8_series 131 = .ok (.if_icmp .ne 7, 3) := by decide +kernel
theorem dX8_series_134 : decode cX8_series 134 = .ok (.iconst 1, 1) := by decide +kernel
theorem dX8_series_135 : decode cX8_series 135 = .ok (.goto 4, 3) := by decide +kernel
theorem dX8_series_138 : decode cX8_series 138 = .ok (.iconst 0, 1) := by decide +kernel
theorem dX8_series_139 : decode cX8_series 139 = .ok (.if_icmp .ne 8, 3) := by decide +kernel
theorem dX8_series_142 : decode cX8_series 142 = .ok (.lload 4, 2) := by decide +kernel
theorem dX8_series_144 : decode cX8_series 144 = .ok (.goto 9, 3) := by decide +kernel
theorem dX8_series_147 : decode cX8_series 147 = .ok (.ldc2_w 3, 3) := by decide +kernel
theorem dX8_series_150 : decode cX8_series 150 = .ok (.lload 4, 2) := by decide +kernel
theorem dX8_series_152 : decode cX8_series 152 = .ok (.lsub, 1) := by decide +kernel
theorem dX8_series_153 : decode cX8_series 153 = .ok (.invokevirtual 153, 3) := by decide +kernel
theorem dX8_series_156 : decode cX8_series 156 = .ok (.iinc 6 1, 3) := by decide +kernel
theorem dX8_series_159 : decode cX8_series 159 = .ok (.goto (-107), 3) := by decide +kernel
theorem dX8_series_162 : decode cX8_series 162 = .ok (.aload_n 0, 1) := by decide +kernel
theorem dX8_series_163 : decode cX8_series 163 = .ok (.iload_n 1, 1) := by decide +kernel
theorem dX8_series_164 : decode cX8_series 164 = .ok (.bipush 11, 2) := by decide +kernel
theorem dX8_series_166 : decode cX8_series 166 = .ok (.invokevirtual 139, 3) := by decide +kernel
theorem dX8_series_169 : decode cX8_series 169 = .ok (.return_, 1) := by decide +kernel
set_option maxRecDepth 20000 in
theorem ggX8_clear_X8_isSum : GoodIn wsX8_clear wsX8_isSum := by
  refine goodIn_sub ?_ gd_X8_isSum
  unfold wsX8_isSum
  refine wm_c ⟨(wm_1 (wm_l (wm_2 (wm_1 wm_h)))), ?_⟩
  refine wm_c ⟨(wm_1 (wm_l (wm_4 wm_h))), ?_⟩
  refine wm_c ⟨(wm_1 (wm_l (wm_4 (wm_1 wm_h)))), ?_⟩
  refine wm_c ⟨(wm_1 (wm_l (wm_4 (wm_2 wm_h)))), ?_⟩
  refine wm_c ⟨(wm_1 (wm_l (wm_2 wm_h))), ?_⟩
  refine wm_c ⟨(wm_1 (wm_l (wm_4 (wm_2 (wm_1 wm_h))))), ?_⟩
  exact wm_n
set_option maxRecDepth 20000 in
theorem gX8_clear_X8_isSum : GoodIn wsX8_clear (va_wsS RX8 157 yX8_isSum wsX8_isSum) := goodIn_app (goodIn_of _ (by decide +kernel)) ggX8_clear_X8_isSum
set_option maxRecDepth 20000 in
theorem ggX8_clear_X8_clears : GoodIn wsX8_clear wsX8_clears := by
  refine goodIn_sub ?_ gd_X8_clears
  unfold wsX8_clears
  refine wm_c ⟨(wm_1 (wm_l (wm_8 (wm_2 (wm_1 wm_h))))), ?_⟩
  refine wm_a ⟨?_, ?_⟩
  · refine wm_c ⟨(wm_1 (wm_l (wm_8 (wm_4 wm_h)))), ?_⟩
    refine wm_c ⟨(wm_1 (wm_l (wm_8 (wm_4 (wm_1 wm_h))))), ?_⟩
    exact wm_n
  · exact wk_X8_clear_X80
set_option maxRecDepth 20000 in
theorem gX8_clear_X8_clears : GoodIn wsX8_clear (wsV RX8 136 RX8 yX8_clears wsX8_clears) := by
  refine goodIn_app (goodIn_sub ?_ ?_) ggX8_clear_X8_clears
  · exact wm_c ⟨(wm_1 (wm_l (wm_8 wm_h))), wm_c ⟨(wm_1 (wm_l (wm_8 (wm_1 wm_h)))), wm_c ⟨(wm_1 (wm_l (wm_8 (wm_2 wm_h)))), wm_c ⟨(wm_1 (wm_l (wm_2 wm_h))), wm_n⟩⟩⟩⟩
  · decide +kernel
theorem dX8_clear_0 : decode cX8_clear 0 = .ok (.iload_n 1, 1) := by decide +kernel
theorem dX8_clear_1 : decode cX8_clear 1 = .ok (.invokestatic 157, 3) := by decide +kernel
theorem dX8_clear_4 : decode cX8_clear 4 = .ok (.ifCond .ne 5, 3) := by decide +kernel
theorem dX8_clear_7 : decode cX8_clear 7 = .ok (.iconst (-1), 1) := by decide +kernel
theorem dX8_clear_8 : decode cX8_clear 8 = .ok (.ireturn, 1) := by decide +kernel
theorem dX8_clear_9 : decode cX8_clear 9 = .ok (.aload_n 0, 1) := by decide +kernel
theorem dX8_clear_10 : decode cX8_clear 10 = .ok (.iload_n 1, 1) := by decide +kernel
theorem dX8_clear_11 : decode cX8_clear 11 = .ok (.invokevirtual 136, 3) := by decide +kernel
theorem dX8_clear_14 : decode cX8_clear 14 = .ok (.iconst 0, 1) := by decide +kernel
theorem dX8_clear_15 : decode cX8_clear 15 = .ok (.ireturn, 1) := by decide +kernel
set_option maxRecDepth 20000 in
theorem ggX8_isPart_X8_in : GoodIn wsX8_isPart wsX8_in := by
  refine goodIn_sub ?_ gd_X8_in
  unfold wsX8_in
  refine wm_c ⟨(wm_1 (wm_4 (wm_1 wm_h))), ?_⟩
  exact wm_n
set_option maxRecDepth 20000 in
theorem gX8_isPart_X8_in : GoodIn wsX8_isPart (va_wsS RX8 130 yX8_in wsX8_in) := goodIn_app (goodIn_of _ (by decide +kernel)) ggX8_isPart_X8_in
theorem dX8_isPart_0 : decode cX8_isPart 0 = .ok (.iload_n 0, 1) := by decide +kernel
theorem dX8_isPart_1 : decode cX8_isPart 1 = .ok (.i2l, 1) := by decide +kernel
theorem dX8_isPart_2 : decode cX8_isPart 2 = .ok (.ldc2_w 160, 3) := by decide +kernel
theorem dX8_isPart_5 : decode cX8_isPart 5 = .ok (.ldc2_w 162, 3) := by decide +kernel
theorem dX8_isPart_8 : decode cX8_isPart 8 = .ok (.invokestatic 130, 3) := by decide +kernel
theorem dX8_isPart_11 : decode cX8_isPart 11 = .ok (.ifCond .eq 19, 3) := by decide +kernel
theorem dX8_isPart_14 : decode cX8_isPart 14 = .ok (.iload_n 1, 1) := by decide +kernel
theorem dX8_isPart_15 : decode cX8_isPart 15 = .ok (.i2l, 1) := by decide +kernel
theorem dX8_isPart_16 : decode cX8_isPart 16 = .ok (.lconst 1, 1) := by decide +kernel
theorem dX8_isPart_17 : decode cX8_isPart 17 = .ok (.ldc2_w 162, 3) := by decide +kernel
theorem dX8_isPart_20 : decode cX8_isPart 20 = .ok (.invokestatic 130, 3) := by decide +kernel
theorem dX8_isPart_23 : decode cX8_isPart 23 = .ok (.ifCond .eq 7, 3) := by decide +kernel
theorem dX8_isPart_26 : decode cX8_isPart 26 = .ok (.iconst 1, 1) := by decide +kernel
theorem dX8_isPart_27 : decode cX8_isPart 27 = .ok (.goto 4, 3) := by decide +kernel
theorem dX8_isPart_30 : decode cX8_isPart 30 = .ok (.iconst 0, 1) := by decide +kernel
theorem dX8_isPart_31 : decode cX8_isPart 31 = .ok (.ireturn, 1) := by decide +kernel
set_option maxRecDepth 20000 in
theorem ggX8_partOf_X8_mod : GoodIn wsX8_partOf wsX8_mod := by
  refine goodIn_sub ?_ gd_X8_mod
  unfold wsX8_mod
  refine wm_c ⟨(wm_1 (wm_4 wm_h)), ?_⟩
  refine wm_c ⟨(wm_1 wm_h), ?_⟩
  exact wm_n
set_option maxRecDepth 20000 in
theorem gX8_partOf_X8_mod : GoodIn wsX8_partOf (va_wsS RX8 126 yX8_mod wsX8_mod) := goodIn_app (goodIn_of _ (by decide +kernel)) ggX8_partOf_X8_mod
set_option maxRecDepth 20000 in
theorem ggX8_partOf_X8_inverted : GoodIn wsX8_partOf wsX8_inverted := by
  refine goodIn_sub ?_ gd_X8_inverted
  unfold wsX8_inverted
  refine wm_c ⟨(wm_1 (wm_4 (wm_2 (wm_1 wm_h)))), ?_⟩
  refine wm_c ⟨(wm_1 (wm_8 wm_h)), ?_⟩
  refine wm_c ⟨(wm_1 wm_h), ?_⟩
  exact wm_n
set_option maxRecDepth 20000 in
theorem gX8_partOf_X8_inverted : GoodIn wsX8_partOf (va_wsS RX8 150 yX8_inverted wsX8_inverted) := goodIn_app (goodIn_of _ (by decide +kernel)) ggX8_partOf_X8_inverted
theorem dX8_partOf_0 : decode cX8_partOf 0 = .ok (.iload_n 0, 1) := by decide +kernel
theorem dX8_partOf_1 : decode cX8_partOf 1 = .ok (.i2l, 1) := by decide +kernel
theorem dX8_partOf_2 : decode cX8_partOf 2 = .ok (.invokestatic 126, 3) := by decide +kernel
theorem dX8_partOf_5 : decode cX8_partOf 5 = .ok (.iload_n 1, 1) := by decide +kernel
theorem dX8_partOf_6 : decode cX8_partOf 6 = .ok (.i2l, 1) := by decide +kernel
theorem dX8_partOf_7 : decode cX8_partOf 7 = .ok (.invokestatic 150, 3) := by decide +kernel
theorem dX8_partOf_10 : decode cX8_partOf 10 = .ok (.lmul, 1) := by decide +kernel
theorem dX8_partOf_11 : decode cX8_partOf 11 = .ok (.ldc2_w 3, 3) := by decide +kernel
theorem dX8_partOf_14 : decode cX8_partOf 14 = .ok (.lrem, 1) := by decide +kernel
theorem dX8_partOf_15 : decode cX8_partOf 15 = .ok (.lreturn, 1) := by decide +kernel
set_option maxRecDepth 20000 in
theorem ggX8_put_X8_wordOf : GoodIn wsX8_put wsX8_wordOf := by
  refine goodIn_sub ?_ gd_X8_wordOf
  unfold wsX8_wordOf
  refine wm_c ⟨(wk_X8_put_X8_put_r1 _ (wm_4 (wm_1 wm_h))), ?_⟩
  refine wm_a ⟨?_, ?_⟩
  · refine wm_c ⟨(wk_X8_put_X8_put_r1 _ (wm_4 (wm_2 wm_h))), ?_⟩
    refine wm_c ⟨(wk_X8_put_X8_put_r1 _ (wm_4 (wm_2 (wm_1 wm_h)))), ?_⟩
    refine wm_c ⟨(wk_X8_put_X8_put_r1 _ (wm_8 wm_h)), ?_⟩
    refine wm_c ⟨(wk_X8_put_X8_put_r1 _ (wm_8 (wm_1 wm_h))), ?_⟩
    refine wm_c ⟨(wk_X8_put_X8_put_r1 _ (wm_8 (wm_2 wm_h))), ?_⟩
    refine wm_c ⟨(wk_X8_put_X8_put_r1 _ (wm_4 wm_h)), ?_⟩
    refine wm_c ⟨(wk_X8_put_X8_put_r1 _ (wm_8 (wm_2 (wm_1 wm_h)))), ?_⟩
    exact wm_n
  · exact wk_X8_put_X80
set_option maxRecDepth 20000 in
theorem gX8_put_X8_wordOf : GoodIn wsX8_put (wsV RX8 164 RX8 yX8_wordOf wsX8_wordOf) := by
  refine goodIn_app (goodIn_sub ?_ ?_) ggX8_put_X8_wordOf
  · exact wm_c ⟨(wk_X8_put_X8_put_r1 _ (wm_1 wm_h)), wm_c ⟨(wk_X8_put_X8_put_r1 _ (wm_2 wm_h)), wm_c ⟨(wk_X8_put_X8_put_r1 _ (wm_2 (wm_1 wm_h))), wm_c ⟨(wk_X8_put_X8_put_r1 _ (wm_4 wm_h)), wm_n⟩⟩⟩⟩
  · decide +kernel
set_option maxRecDepth 20000 in
theorem ggX8_put_X8_isSum : GoodIn wsX8_put wsX8_isSum := by
  refine goodIn_sub ?_ gd_X8_isSum
  unfold wsX8_isSum
  refine wm_c ⟨(wk_X8_put_X8_put_r1 _ (wm_8 (wm_4 (wm_2 wm_h)))), ?_⟩
  refine wm_c ⟨(wk_X8_put_X8_put_r1 _ (wm_8 (wm_4 (wm_2 (wm_1 wm_h))))), ?_⟩
  refine wm_c ⟨(wk_X8_put_X8_put_r1 _ (wm_8 (wm_1 wm_h))), ?_⟩
  refine wm_c ⟨(wk_X8_put_X8_put_r1 _ (wm_8 (wm_2 wm_h))), ?_⟩
  refine wm_c ⟨(wk_X8_put_X8_put_r1 _ (wm_4 wm_h)), ?_⟩
  refine wm_c ⟨(wk_X8_put_X8_put_r1 _ (wm_8 (wm_2 (wm_1 wm_h)))), ?_⟩
  exact wm_n
set_option maxRecDepth 20000 in
theorem gX8_put_X8_isSum : GoodIn wsX8_put (va_wsS RX8 157 yX8_isSum wsX8_isSum) := goodIn_app (goodIn_of _ (by decide +kernel)) ggX8_put_X8_isSum
set_option maxRecDepth 20000 in
theorem ggX8_put_X8_isPart : GoodIn wsX8_put wsX8_isPart := by
  refine goodIn_sub ?_ gd_X8_isPart
  unfold wsX8_isPart
  refine wm_c ⟨(wk_X8_put_X8_put_r1 _ (wm_16 (wm_2 wm_h))), ?_⟩
  refine wm_c ⟨(wk_X8_put_X8_put_r1 _ (wm_16 (wm_2 (wm_1 wm_h)))), ?_⟩
  refine wm_c ⟨(wk_X8_put_X8_put_r1 _ (wm_16 (wm_4 wm_h))), ?_⟩
  refine wm_c ⟨(wk_X8_put_X8_put_r1 _ (wm_8 (wm_1 wm_h))), ?_⟩
  refine wm_c ⟨(wk_X8_put_X8_put_r1 _ (wm_8 (wm_2 wm_h))), ?_⟩
  refine wm_c ⟨(wk_X8_put_X8_put_r1 _ (wm_4 wm_h)), ?_⟩
  refine wm_c ⟨(wk_X8_put_X8_put_r1 _ (wm_8 (wm_2 (wm_1 wm_h)))), ?_⟩
  exact wm_n
set_option maxRecDepth 20000 in
theorem gX8_put_X8_isPart : GoodIn wsX8_put (va_wsS RX8 168 yX8_isPart wsX8_isPart) := goodIn_app (goodIn_of _ (by decide +kernel)) ggX8_put_X8_isPart
set_option maxRecDepth 20000 in
theorem ggX8_put_X8_partOf : GoodIn wsX8_put wsX8_partOf := by
  refine goodIn_sub ?_ gd_X8_partOf
  unfold wsX8_partOf
  refine wm_c ⟨(wk_X8_put_X8_put_r1 _ (wm_16 (wm_4 (wm_2 (wm_1 wm_h))))), ?_⟩
  refine wm_c ⟨(wk_X8_put_X8_put_r2 _ wm_h), ?_⟩
  refine wm_c ⟨(wk_X8_put_X8_put_r2 _ (wm_1 wm_h)), ?_⟩
  refine wm_c ⟨(wk_X8_put_X8_put_r2 _ (wm_2 wm_h)), ?_⟩
  refine wm_c ⟨(wk_X8_put_X8_put_r1 _ (wm_4 wm_h)), ?_⟩
  refine wm_c ⟨(wk_X8_put_X8_put_r2 _ (wm_2 (wm_1 wm_h))), ?_⟩
  refine wm_c ⟨(wk_X8_put_X8_put_r2 _ (wm_4 wm_h)), ?_⟩
  refine wm_c ⟨(wk_X8_put_X8_put_r2 _ (wm_4 (wm_1 wm_h))), ?_⟩
  refine wm_c ⟨(wk_X8_put_X8_put_r2 _ (wm_4 (wm_2 wm_h))), ?_⟩
  refine wm_c ⟨(wk_X8_put_X8_put_r2 _ (wm_4 (wm_2 (wm_1 wm_h)))), ?_⟩
  exact wm_n
set_option maxRecDepth 20000 in
theorem gX8_put_X8_partOf : GoodIn wsX8_put (va_wsS RX8 171 yX8_partOf wsX8_partOf) := goodIn_app (goodIn_of _ (by decide +kernel)) ggX8_put_X8_partOf
theorem dX8_put_0 : decode cX8_put 0 = .ok (.aload_n 0, 1) := by decide +kernel
theorem dX8_put_1 : decode cX8_put 1 = .ok (.iload_n 2, 1) := by decide +kernel
theorem dX8_put_2 : decode cX8_put 2 = .ok (.invokevirtual 164, 3) := by decide +kernel
theorem dX8_put_5 : decode cX8_put 5 = .ok (.istore 5, 2) := by decide +kernel
theorem dX8_put_7 : decode cX8_put 7 = .ok (.iload_n 1, 1) := by decide +kernel
theorem dX8_put_8 : decode cX8_put 8 = .ok (.invokestatic 157, 3) := by decide +kernel
theorem dX8_put_11 : decode cX8_put 11 = .ok (.ifCond .eq 9, 3) := by decide +kernel
theorem dX8_put_14 : decode cX8_put 14 = .ok (.iload 5, 2) := by decide +kernel
theorem dX8_put_16 : decode cX8_put 16 = .ok (.iconst (-1), 1) := by decide +kernel
theorem dX8_put_17 : decode cX8_put 17 = .ok (.if_icmp .ne 5, 3) := by decide +kernel
theorem dX8_put_20 : decode cX8_put 20 = .ok (.iconst (-1), 1) := by decide +kernel
theorem dX8_put_21 : decode cX8_put 21 = .ok (.ireturn, 1) := by decide +kernel
theorem dX8_put_22 : decode cX8_put 22 = .ok (.iload_n 3, 1) := by decide +kernel
theorem dX8_put_23 : decode cX8_put 23 = .ok (.iload 4, 2) := by decide +kernel
theorem dX8_put_25 : decode cX8_put 25 = .ok (.invokestatic 168, 3) := by decide +kernel
theorem dX8_put_28 : decode cX8_put 28 = .ok (.ifCond .ne 6, 3) := by decide +kernel
theorem dX8_put_31 : decode cX8_put 31 = .ok (.bipush (-2), 2) := by decide +kernel
theorem dX8_put_33 : decode cX8_put 33 = .ok (.ireturn, 1) := by decide +kernel
theorem dX8_put_34 : decode cX8_put 34 = .ok (.aload_n 0, 1) := by decide +kernel
theorem dX8_put_35 : decode cX8_put 35 = .ok (.getfield 23, 3) := by decide +kernel
theorem dX8_put_38 : decode cX8_put 38 = .ok (.sipush 364, 3) := by decide +kernel
theorem dX8_put_41 : decode cX8_put 41 = .ok (.iload_n 1, 1) := by decide +kernel
theorem dX8_put_42 : decode cX8_put 42 = .ok (.imul, 1) := by decide +kernel
theorem dX8_put_43 : decode cX8_put 43 = .ok (.iload 5, 2) := by decide +kernel
theorem dX8_put_45 : decode cX8_put 45 = .ok (.iadd, 1) := by decide +kernel
theorem dX8_put_46 : decode cX8_put 46 = .ok (.iload_n 3, 1) := by decide +kernel
theorem dX8_put_47 : decode cX8_put 47 = .ok (.iload 4, 2) := by decide +kernel
theorem dX8_put_49 : decode cX8_put 49 = .ok (.invokestatic 171, 3) := by decide +kernel
theorem dX8_put_52 : decode cX8_put 52 = .ok (.lastore, 1) := by decide +kernel
theorem dX8_put_53 : decode cX8_put 53 = .ok (.iconst 0, 1) := by decide +kernel
theorem dX8_put_54 : decode cX8_put 54 = .ok (.ireturn, 1) := by decide +kernel
set_option maxRecDepth 20000 in
theorem ggX8_at_X8_wordOf : GoodIn wsX8_at wsX8_wordOf := by
  refine goodIn_sub ?_ gd_X8_wordOf
  unfold wsX8_wordOf
  refine wm_c ⟨(wm_1 (wm_l (wm_4 (wm_1 wm_h)))), ?_⟩
  refine wm_a ⟨?_, ?_⟩
  · refine wm_c ⟨(wm_1 (wm_l (wm_4 (wm_2 wm_h)))), ?_⟩
    refine wm_c ⟨(wm_1 (wm_l (wm_4 (wm_2 (wm_1 wm_h))))), ?_⟩
    refine wm_c ⟨(wm_1 (wm_l (wm_8 wm_h))), ?_⟩
    refine wm_c ⟨(wm_1 (wm_l (wm_8 (wm_1 wm_h)))), ?_⟩
    refine wm_c ⟨(wm_1 (wm_l (wm_8 (wm_2 wm_h)))), ?_⟩
    refine wm_c ⟨(wm_1 (wm_l (wm_4 wm_h))), ?_⟩
    refine wm_c ⟨(wm_1 (wm_l (wm_8 (wm_2 (wm_1 wm_h))))), ?_⟩
    exact wm_n
  · exact wk_X8_at_X80
set_option maxRecDepth 20000 in
theorem gX8_at_X8_wordOf : GoodIn wsX8_at (wsV RX8 164 RX8 yX8_wordOf wsX8_wordOf) := by
  refine goodIn_app (goodIn_sub ?_ ?_) ggX8_at_X8_wordOf
  · exact wm_c ⟨(wm_1 (wm_l (wm_1 wm_h))), wm_c ⟨(wm_1 (wm_l (wm_2 wm_h))), wm_c ⟨(wm_1 (wm_l (wm_2 (wm_1 wm_h)))), wm_c ⟨(wm_1 (wm_l (wm_4 wm_h))), wm_n⟩⟩⟩⟩
  · decide +kernel
set_option maxRecDepth 20000 in
theorem ggX8_at_X8_isSum : GoodIn wsX8_at wsX8_isSum := by
  refine goodIn_sub ?_ gd_X8_isSum
  unfold wsX8_isSum
  refine wm_c ⟨(wm_1 (wm_l (wm_8 (wm_4 (wm_2 wm_h))))), ?_⟩
  refine wm_c ⟨(wm_1 (wm_l (wm_8 (wm_4 (wm_2 (wm_1 wm_h)))))), ?_⟩
  refine wm_c ⟨(wm_1 (wm_l (wm_8 (wm_1 wm_h)))), ?_⟩
  refine wm_c ⟨(wm_1 (wm_l (wm_8 (wm_2 wm_h)))), ?_⟩
  refine wm_c ⟨(wm_1 (wm_l (wm_4 wm_h))), ?_⟩
  refine wm_c ⟨(wm_1 (wm_l (wm_8 (wm_2 (wm_1 wm_h))))), ?_⟩
  exact wm_n
set_option maxRecDepth 20000 in
theorem gX8_at_X8_isSum : GoodIn wsX8_at (va_wsS RX8 157 yX8_isSum wsX8_isSum) := goodIn_app (goodIn_of _ (by decide +kernel)) ggX8_at_X8_isSum
theorem dX8_at_0 : decode cX8_at 0 = .ok (.aload_n 0, 1) := by decide +kernel
theorem dX8_at_1 : decode cX8_at 1 = .ok (.iload_n 2, 1) := by decide +kernel
theorem dX8_at_2 : decode cX8_at 2 = .ok (.invokevirtual 164, 3) := by decide +kernel
theorem dX8_at_5 : decode cX8_at 5 = .ok (.istore_n 3, 1) := by decide +kernel
theorem dX8_at_6 : decode cX8_at 6 = .ok (.iload_n 1, 1) := by decide +kernel
theorem dX8_at_7 : decode cX8_at 7 = .ok (.invokestatic 157, 3) := by decide +kernel
theorem dX8_at_10 : decode cX8_at 10 = .ok (.ifCond .eq 24, 3) := by decide +kernel
theorem dX8_at_13 : decode cX8_at 13 = .ok (.iload_n 3, 1) := by decide +kernel
theorem dX8_at_14 : decode cX8_at 14 = .ok (.iconst (-1), 1) := by decide +kernel
theorem dX8_at_15 : decode cX8_at 15 = .ok (.if_icmp .eq 19, 3) := by decide +kernel
theorem dX8_at_18 : decode cX8_at 18 = .ok (.aload_n 0, 1) := by decide +kernel
theorem dX8_at_19 : decode cX8_at 19 = .ok (.getfield 23, 3) := by decide +kernel
theorem dX8_at_22 : decode cX8_at 22 = .ok (.sipush 364, 3) := by decide +kernel
theorem dX8_at_25 : decode cX8_at 25 = .ok (.iload_n 1, 1) := by decide +kernel
theorem dX8_at_26 : decode cX8_at 26 = .ok (.imul, 1) := by decide +kernel
theorem dX8_at_27 : decode cX8_at 27 = .ok (.iload_n 3, 1) := by decide +kernel
theorem dX8_at_28 : decode cX8_at 28 = .ok (.iadd, 1) := by decide +kernel
theorem dX8_at_29 : decode cX8_at 29 = .ok (.laload, 1) := by decide +kernel
theorem dX8_at_30 : decode cX8_at 30 = .ok (.l2i, 1) := by decide +kernel
theorem dX8_at_31 : decode cX8_at 31 = .ok (.goto 4, 3) := by decide +kernel
theorem dX8_at_34 : decode cX8_at 34 = .ok (.iconst (-1), 1) := by decide +kernel
theorem dX8_at_35 : decode cX8_at 35 = .ok (.ireturn, 1) := by decide +kernel
set_option maxRecDepth 20000 in
theorem ggX8_fraction_X8_in : GoodIn wsX8_fraction wsX8_in := by
  refine goodIn_sub ?_ gd_X8_in
  unfold wsX8_in
  refine wm_c ⟨(wm_1 (wm_8 wm_h)), ?_⟩
  exact wm_n
set_option maxRecDepth 20000 in
theorem gX8_fraction_X8_in : GoodIn wsX8_fraction (va_wsS RX8 130 yX8_in wsX8_in) := goodIn_app (goodIn_of _ (by decide +kernel)) ggX8_fraction_X8_in
theorem dX8_fraction_0 : decode cX8_fraction 0 = .ok (.iload_n 1, 1) := by decide +kernel
theorem dX8_fraction_1 : decode cX8_fraction 1 = .ok (.i2l, 1) := by decide +kernel
theorem dX8_fraction_2 : decode cX8_fraction 2 = .ok (.lconst 0, 1) := by decide +kernel
theorem dX8_fraction_3 : decode cX8_fraction 3 = .ok (.ldc2_w 175, 3) := by decide +kernel
theorem dX8_fraction_6 : decode cX8_fraction 6 = .ok (.invokestatic 130, 3) := by decide +kernel
theorem dX8_fraction_9 : decode cX8_fraction 9 = .ok (.ifCond .eq 13, 3) := by decide +kernel
theorem dX8_fraction_12 : decode cX8_fraction 12 = .ok (.iload_n 2, 1) := by decide +kernel
theorem dX8_fraction_13 : decode cX8_fraction 13 = .ok (.i2l, 1) := by decide +kernel
theorem dX8_fraction_14 : decode cX8_fraction 14 = .ok (.lconst 0, 1) := by decide +kernel
theorem dX8_fraction_15 : decode cX8_fraction 15 = .ok (.lconst 1, 1) := by decide +kernel
theorem dX8_fraction_16 : decode cX8_fraction 16 = .ok (.invokestatic 130, 3) := by decide +kernel
theorem dX8_fraction_19 : decode cX8_fraction 19 = .ok (.ifCond .ne 6, 3) := by decide +kernel
theorem dX8_fraction_22 : decode cX8_fraction 22 = .ok (.ldc 177, 2) := by decide +kernel
theorem dX8_fraction_24 : decode cX8_fraction 24 = .ok (.ireturn, 1) := by decide +kernel
theorem dX8_fraction_25 : decode cX8_fraction 25 = .ok (.iconst 1, 1) := by decide +kernel
theorem dX8_fraction_26 : decode cX8_fraction 26 = .ok (.istore_n 3, 1) := by decide +kernel
theorem dX8_fraction_27 : decode cX8_fraction 27 = .ok (.iload_n 3, 1) := by decide +kernel
theorem dX8_fraction_28 : decode cX8_fraction 28 = .ok (.sipush 1000, 3) := by decide +kernel
theorem dX8_fraction_31 : decode cX8_fraction 31 = .ok (.if_icmp .gt 66, 3) := by decide +kernel
theorem dX8_fraction_34 : decode cX8_fraction 34 = .ok (.iload_n 1, 1) := by decide +kernel
theorem dX8_fraction_35 : decode cX8_fraction 35 = .ok (.i2l, 1) := by decide +kernel
theorem dX8_fraction_36 : decode cX8_fraction 36 = .ok (.iload_n 3, 1) := by decide +kernel
theorem dX8_fraction_37 : decode cX8_fraction 37 = .ok (.i2l, 1) := by decide +kernel
theorem dX8_fraction_38 : decode cX8_fraction 38 = .ok (.lmul, 1) := by decide +kernel
theorem dX8_fraction_39 : decode cX8_fraction 39 = .ok (.ldc2_w 3, 3) := by decide +kernel
theorem dX8_fraction_42 : decode cX8_fraction 42 = .ok (.lrem, 1) := by decide +kernel
theorem dX8_fraction_43 : decode cX8_fraction 43 = .ok (.lstore 4, 2) := by decide +kernel
theorem dX8_fraction_45 : decode cX8_fraction 45 = .ok (.lload 4, 2) := by decide +kernel
theorem dX8_fraction_47 : decode cX8_fraction 47 = .ok (.ldc2_w 178, 3) := by decide +kernel
theorem dX8_fraction_50 : decode cX8_fraction 50 = .ok (.lcmp, 1) := by decide +kernel
theorem dX8_fraction_51 : decode cX8_fraction 51 = .ok (.ifCond .gt 15, 3) := by decide +kernel
theorem dX8_fraction_54 : decode cX8_fraction 54 = .ok (.iload_n 2, 1) := by decide +kernel
theorem dX8_fraction_55 : decode cX8_fraction 55 = .ok (.ifCond .ne 9, 3) := by decide +kernel
theorem dX8_fraction_58 : decode cX8_fraction 58 = .ok (.lload 4, 2) := by decide +kernel
theorem dX8_fraction_60 : decode cX8_fraction 60 = .ok (.l2i, 1) := by decide +kernel
theorem dX8_fraction_61 : decode cX8_fraction 61 = .ok (.goto 4, 3) := by decide +kernel
theorem dX8_fraction_64 : decode cX8_fraction 64 = .ok (.iload_n 3, 1) := by decide +kernel
theorem dX8_fraction_65 : decode cX8_fraction 65 = .ok (.ireturn, 1) := by decide +kernel
theorem dX8_fraction_66 : decode cX8_fraction 66 = .ok (.lload 4, 2) := by decide +kernel
theorem dX8_fraction_68 : decode cX8_fraction 68 = .ok (.ldc2_w 180, 3) := by decide +kernel
theorem dX8_fraction_71 : decode cX8_fraction 71 = .ok (.lcmp, 1) := by decide +kernel
theorem dX8_fraction_72 : decode cX8_fraction 72 = .ok (.ifCond .lt 19, 3) := by decide +kernel
theorem dX8_fraction_75 : decode cX8_fraction 75 = .ok (.iload_n 2, 1) := by decide +kernel
theorem dX8_fraction_76 : decode cX8_fraction 76 = .ok (.ifCond .ne 13, 3) := by decide +kernel
theorem dX8_fraction_79 : decode cX8_fraction 79 = .ok (.lload 4, 2) := by decide +kernel
theorem dX8_fraction_81 : decode cX8_fraction 81 = .ok (.ldc2_w 3, 3) := by decide +kernel
theorem dX8_fraction_84 : decode cX8_fraction 84 = .ok (.lsub, 1) := by decide +kernel
theorem dX8_fraction_85 : decode cX8_fraction 85 = .ok (.l2i, 1) := by decide +kernel
theorem dX8_fraction_86 : decode cX8_fraction 86 = .ok (.goto 4, 3) := by decide +kernel
theorem dX8_fraction_89 : decode cX8_fraction 89 = .ok (.iload_n 3, 1) := by decide +kernel
theorem dX8_fraction_90 : decode cX8_fraction 90 = .ok (.ireturn, 1) := by decide +kernel
theorem dX8_fraction_91 : decode cX8_fraction 91 = .ok (.iinc 3 1, 3) := by decide +kernel
theorem dX8_fraction_94 : decode cX8_fraction 94 = .ok (.goto (-67), 3) := by decide +kernel
theorem dX8_fraction_97 : decode cX8_fraction 97 = .ok (.ldc 177, 2) := by decide +kernel
theorem dX8_fraction_99 : decode cX8_fraction 99 = .ok (.ireturn, 1) := by decide +kernel
set_option maxRecDepth 20000 in
theorem ggX8_add_X8_isSum : GoodIn wsX8_add wsX8_isSum := by
  refine goodIn_sub ?_ gd_X8_isSum
  unfold wsX8_isSum
  refine wm_c ⟨(wk_X8_add_X8_add_r1 _ (wm_2 (wm_1 wm_h))), ?_⟩
  refine wm_c ⟨(wk_X8_add_X8_add_r1 _ (wm_4 wm_h)), ?_⟩
  refine wm_c ⟨(wk_X8_add_X8_add_r1 _ (wm_4 (wm_1 wm_h))), ?_⟩
  refine wm_c ⟨(wk_X8_add_X8_add_r1 _ (wm_4 (wm_2 wm_h))), ?_⟩
  refine wm_c ⟨(wk_X8_add_X8_add_r1 _ (wm_2 wm_h)), ?_⟩
  refine wm_c ⟨(wk_X8_add_X8_add_r1 _ (wm_4 (wm_2 (wm_1 wm_h)))), ?_⟩
  exact wm_n
set_option maxRecDepth 20000 in
theorem gX8_add_X8_isSum : GoodIn wsX8_add (va_wsS RX8 157 yX8_isSum wsX8_isSum) := goodIn_app (goodIn_of _ (by decide +kernel)) ggX8_add_X8_isSum
set_option maxRecDepth 20000 in
theorem ggX8_add_X8_isPart : GoodIn wsX8_add wsX8_isPart := by
  refine goodIn_sub ?_ gd_X8_isPart
  unfold wsX8_isPart
  refine wm_c ⟨(wk_X8_add_X8_add_r1 _ (wm_8 (wm_2 wm_h))), ?_⟩
  refine wm_c ⟨(wk_X8_add_X8_add_r1 _ (wm_8 (wm_2 (wm_1 wm_h)))), ?_⟩
  refine wm_c ⟨(wk_X8_add_X8_add_r1 _ (wm_8 (wm_4 wm_h))), ?_⟩
  refine wm_c ⟨(wk_X8_add_X8_add_r1 _ (wm_4 (wm_1 wm_h))), ?_⟩
  refine wm_c ⟨(wk_X8_add_X8_add_r1 _ (wm_4 (wm_2 wm_h))), ?_⟩
  refine wm_c ⟨(wk_X8_add_X8_add_r1 _ (wm_2 wm_h)), ?_⟩
  refine wm_c ⟨(wk_X8_add_X8_add_r1 _ (wm_4 (wm_2 (wm_1 wm_h)))), ?_⟩
  exact wm_n
set_option maxRecDepth 20000 in
theorem gX8_add_X8_isPart : GoodIn wsX8_add (va_wsS RX8 168 yX8_isPart wsX8_isPart) := goodIn_app (goodIn_of _ (by decide +kernel)) ggX8_add_X8_isPart
set_option maxRecDepth 20000 in
theorem ggX8_add_X8_copies : GoodIn wsX8_add wsX8_copies := by
  refine goodIn_sub ?_ gd_X8_copies
  unfold wsX8_copies
  refine wm_c ⟨(wk_X8_add_X8_add_r1 _ (wm_16 wm_h)), ?_⟩
  refine wm_a ⟨?_, ?_⟩
  · refine wm_c ⟨(wk_X8_add_X8_add_r1 _ (wm_16 (wm_1 wm_h))), ?_⟩
    refine wm_c ⟨(wk_X8_add_X8_add_r1 _ (wm_16 (wm_2 wm_h))), ?_⟩
    exact wm_n
  · exact wk_X8_add_X80
set_option maxRecDepth 20000 in
theorem gX8_add_X8_copies : GoodIn wsX8_add (wsV RX8 139 RX8 yX8_copies wsX8_copies) := by
  refine goodIn_app (goodIn_sub ?_ ?_) ggX8_add_X8_copies
  · exact wm_c ⟨(wk_X8_add_X8_add_r1 _ (wm_8 (wm_4 (wm_1 wm_h)))), wm_c ⟨(wk_X8_add_X8_add_r1 _ (wm_8 (wm_4 (wm_2 wm_h)))), wm_c ⟨(wk_X8_add_X8_add_r1 _ (wm_8 (wm_4 (wm_2 (wm_1 wm_h))))), wm_c ⟨(wk_X8_add_X8_add_r1 _ (wm_2 wm_h)), wm_n⟩⟩⟩⟩
  · decide +kernel
set_option maxRecDepth 20000 in
theorem ggX8_add_X8_partOf : GoodIn wsX8_add wsX8_partOf := by
  refine goodIn_sub ?_ gd_X8_partOf
  unfold wsX8_partOf
  refine wm_c ⟨(wk_X8_add_X8_add_r1 _ (wm_16 (wm_4 (wm_1 wm_h)))), ?_⟩
  refine wm_c ⟨(wk_X8_add_X8_add_r1 _ (wm_16 (wm_4 (wm_2 wm_h)))), ?_⟩
  refine wm_c ⟨(wk_X8_add_X8_add_r1 _ (wm_16 (wm_4 (wm_2 (wm_1 wm_h))))), ?_⟩
  refine wm_c ⟨(wk_X8_add_X8_add_r2 _ wm_h), ?_⟩
  refine wm_c ⟨(wk_X8_add_X8_add_r1 _ (wm_2 wm_h)), ?_⟩
  refine wm_c ⟨(wk_X8_add_X8_add_r2 _ (wm_1 wm_h)), ?_⟩
  refine wm_c ⟨(wk_X8_add_X8_add_r2 _ (wm_2 wm_h)), ?_⟩
  refine wm_c ⟨(wk_X8_add_X8_add_r2 _ (wm_2 (wm_1 wm_h))), ?_⟩
  refine wm_c ⟨(wk_X8_add_X8_add_r2 _ (wm_4 wm_h)), ?_⟩
  refine wm_c ⟨(wk_X8_add_X8_add_r2 _ (wm_4 (wm_1 wm_h))), ?_⟩
  exact wm_n
set_option maxRecDepth 20000 in
theorem gX8_add_X8_partOf : GoodIn wsX8_add (va_wsS RX8 171 yX8_partOf wsX8_partOf) := goodIn_app (goodIn_of _ (by decide +kernel)) ggX8_add_X8_partOf
set_option maxRecDepth 20000 in
theorem ggX8_add_X8_adds : GoodIn wsX8_add wsX8_adds := by
  refine goodIn_sub ?_ gd_X8_adds
  unfold wsX8_adds
  refine wm_c ⟨(wk_X8_add_X8_add_r2 _ (wm_8 (wm_1 wm_h))), ?_⟩
  refine wm_a ⟨?_, ?_⟩
  · refine wm_c ⟨(wk_X8_add_X8_add_r1 _ (wm_16 (wm_1 wm_h))), ?_⟩
    refine wm_c ⟨(wk_X8_add_X8_add_r1 _ (wm_16 (wm_2 wm_h))), ?_⟩
    refine wm_c ⟨(wk_X8_add_X8_add_r1 _ (wm_16 (wm_4 (wm_2 wm_h)))), ?_⟩
    exact wm_n
  · exact wk_X8_add_X80
set_option maxRecDepth 20000 in
theorem gX8_add_X8_adds : GoodIn wsX8_add (wsV RX8 153 RX8 yX8_adds wsX8_adds) := by
  refine goodIn_app (goodIn_sub ?_ ?_) ggX8_add_X8_adds
  · exact wm_c ⟨(wk_X8_add_X8_add_r2 _ (wm_4 (wm_2 wm_h))), wm_c ⟨(wk_X8_add_X8_add_r2 _ (wm_4 (wm_2 (wm_1 wm_h)))), wm_c ⟨(wk_X8_add_X8_add_r2 _ (wm_8 wm_h)), wm_c ⟨(wk_X8_add_X8_add_r1 _ (wm_2 wm_h)), wm_n⟩⟩⟩⟩
  · decide +kernel
