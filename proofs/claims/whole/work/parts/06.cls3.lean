theorem dX7_init_64 : decode cX7_init 64 = .ok (.invokespecial 37, 3) := by decide +kernel
theorem dX7_init_67 : decode cX7_init 67 = .ok (.putfield 40, 3) := by decide +kernel
theorem dX7_init_70 : decode cX7_init 70 = .ok (.aload_n 0, 1) := by decide +kernel
theorem dX7_init_71 : decode cX7_init 71 = .ok (.new 44, 3) := by decide +kernel
theorem dX7_init_74 : decode cX7_init 74 = .ok (.dup, 1) := by decide +kernel
theorem dX7_init_75 : decode cX7_init 75 = .ok (.aload_n 0, 1) := by decide +kernel
theorem dX7_init_76 : decode cX7_init 76 = .ok (.getfield 20, 3) := by decide +kernel
theorem dX7_init_79 : decode cX7_init 79 = .ok (.aload_n 0, 1) := by decide +kernel
theorem dX7_init_80 : decode cX7_init 80 = .ok (.getfield 40, 3) := by decide +kernel
theorem dX7_init_83 : decode cX7_init 83 = .ok (.invokespecial 46, 3) := by decide +kernel
theorem dX7_init_86 : decode cX7_init 86 = .ok (.putfield 49, 3) := by decide +kernel
theorem dX7_init_89 : decode cX7_init 89 = .ok (.aload_n 0, 1) := by decide +kernel
theorem dX7_init_90 : decode cX7_init 90 = .ok (.new 53, 3) := by decide +kernel
theorem dX7_init_93 : decode cX7_init 93 = .ok (.dup, 1) := by decide +kernel
theorem dX7_init_94 : decode cX7_init 94 = .ok (.aload_n 0, 1) := by decide +kernel
theorem dX7_init_95 : decode cX7_init 95 = .ok (.getfield 20, 3) := by decide +kernel
theorem dX7_init_98 : decode cX7_init 98 = .ok (.aload_n 0, 1) := by decide +kernel
theorem dX7_init_99 : decode cX7_init 99 = .ok (.getfield 40, 3) := by decide +kernel
theorem dX7_init_102 : decode cX7_init 102 = .ok (.invokespecial 55, 3) := by decide +kernel
theorem dX7_init_105 : decode cX7_init 105 = .ok (.putfield 56, 3) := by decide +kernel
theorem dX7_init_108 : decode cX7_init 108 = .ok (.aload_n 0, 1) := by decide +kernel
theorem dX7_init_109 : decode cX7_init 109 = .ok (.new 60, 3) := by decide +kernel
theorem dX7_init_112 : decode cX7_init 112 = .ok (.dup, 1) := by decide +kernel
theorem dX7_init_113 : decode cX7_init 113 = .ok (.aload_n 0, 1) := by decide +kernel
theorem dX7_init_114 : decode cX7_init 114 = .ok (.getfield 20, 3) := by decide +kernel
theorem dX7_init_117 : decode cX7_init 117 = .ok (.aload_n 0, 1) := by decide +kernel
theorem dX7_init_118 : decode cX7_init 118 = .ok (.getfield 49, 3) := by decide +kernel
theorem dX7_init_121 : decode cX7_init 121 = .ok (.invokespecial 62, 3) := by decide +kernel
theorem dX7_init_124 : decode cX7_init 124 = .ok (.putfield 65, 3) := by decide +kernel
theorem dX7_init_127 : decode cX7_init 127 = .ok (.aload_n 0, 1) := by decide +kernel
theorem dX7_init_128 : decode cX7_init 128 = .ok (.new 69, 3) := by decide +kernel
theorem dX7_init_131 : decode cX7_init 131 = .ok (.dup, 1) := by decide +kernel
theorem dX7_init_132 : decode cX7_init 132 = .ok (.aload_n 0, 1) := by decide +kernel
theorem dX7_init_133 : decode cX7_init 133 = .ok (.getfield 20, 3) := by decide +kernel
theorem dX7_init_136 : decode cX7_init 136 = .ok (.aload_n 0, 1) := by decide +kernel
theorem dX7_init_137 : decode cX7_init 137 = .ok (.getfield 40, 3) := by decide +kernel
theorem dX7_init_140 : decode cX7_init 140 = .ok (.aload_n 0, 1) := by decide +kernel
theorem dX7_init_141 : decode cX7_init 141 = .ok (.getfield 32, 3) := by decide +kernel
theorem dX7_init_144 : decode cX7_init 144 = .ok (.invokespecial 71, 3) := by decide +kernel
theorem dX7_init_147 : decode cX7_init 147 = .ok (.putfield 74, 3) := by decide +kernel
theorem dX7_init_150 : decode cX7_init 150 = .ok (.return_, 1) := by decide +kernel
set_option maxRecDepth 20000 in
theorem ggX7_clear_X7_noSum : GoodIn wsX7_clear wsX7_noSum := by
  refine goodIn_sub ?_ gd_X7_noSum
  unfold wsX7_noSum
  refine wm_c ⟨(wm_1 (wm_l (wm_4 wm_h))), ?_⟩
  exact wm_n
set_option maxRecDepth 20000 in
theorem gX7_clear_X7_noSum : GoodIn wsX7_clear (va_wsS RX7 78 yX7_noSum wsX7_noSum) := goodIn_app (goodIn_of _ (by decide +kernel)) ggX7_clear_X7_noSum
set_option maxRecDepth 20000 in
theorem ggX7_clear_J7_fill_53178 : GoodIn wsX7_clear wsJ7_fill_53178 := by
  refine goodIn_sub ?_ gd_J7_fill_53178
  unfold wsJ7_fill_53178
  refine wm_c ⟨(wm_1 (wm_l (wm_8 wm_h))), ?_⟩
  exact wm_n
set_option maxRecDepth 20000 in
theorem gX7_clear_J7_fill_53178 : GoodIn wsX7_clear (va_wsS RX7 82 yJ7_fill_53178 wsJ7_fill_53178) := goodIn_app (goodIn_of _ (by decide +kernel)) ggX7_clear_J7_fill_53178
theorem dX7_clear_0 : decode cX7_clear 0 = .ok (.iload_n 1, 1) := by decide +kernel
theorem dX7_clear_1 : decode cX7_clear 1 = .ok (.invokestatic 78, 3) := by decide +kernel
theorem dX7_clear_4 : decode cX7_clear 4 = .ok (.ifCond .eq 5, 3) := by decide +kernel
theorem dX7_clear_7 : decode cX7_clear 7 = .ok (.iconst (-1), 1) := by decide +kernel
theorem dX7_clear_8 : decode cX7_clear 8 = .ok (.ireturn, 1) := by decide +kernel
theorem dX7_clear_9 : decode cX7_clear 9 = .ok (.aload_n 0, 1) := by decide +kernel
theorem dX7_clear_10 : decode cX7_clear 10 = .ok (.getfield 32, 3) := by decide +kernel
theorem dX7_clear_13 : decode cX7_clear 13 = .ok (.iload_n 1, 1) := by decide +kernel
theorem dX7_clear_14 : decode cX7_clear 14 = .ok (.aaload, 1) := by decide +kernel
theorem dX7_clear_15 : decode cX7_clear 15 = .ok (.iconst 0, 1) := by decide +kernel
theorem dX7_clear_16 : decode cX7_clear 16 = .ok (.invokestatic 82, 3) := by decide +kernel
theorem dX7_clear_19 : decode cX7_clear 19 = .ok (.iconst 0, 1) := by decide +kernel
theorem dX7_clear_20 : decode cX7_clear 20 = .ok (.ireturn, 1) := by decide +kernel
set_option maxRecDepth 20000 in
theorem ggX7_put_X6_placeOf : GoodIn wsX7_put wsX6_placeOf := by
  refine goodIn_sub ?_ gd_X6_placeOf
  unfold wsX6_placeOf
  refine wm_c ⟨(wk_X7_put_X7_put_r1 _ (wm_4 (wm_2 wm_h))), ?_⟩
  refine wm_a ⟨?_, ?_⟩
  · refine wm_c ⟨(wk_X7_put_X7_put_r1 _ (wm_4 (wm_2 (wm_1 wm_h)))), ?_⟩
    refine wm_c ⟨(wk_X7_put_X7_put_r1 _ (wm_8 wm_h)), ?_⟩
    refine wm_c ⟨(wk_X7_put_X7_put_r1 _ (wm_8 (wm_1 wm_h))), ?_⟩
    refine wm_c ⟨(wk_X7_put_X7_put_r1 _ (wm_8 (wm_2 wm_h))), ?_⟩
    exact wm_n
  · exact wk_X7_put_X60
set_option maxRecDepth 20000 in
theorem gX7_put_X6_placeOf : GoodIn wsX7_put (wsV RX7 88 RX6 yX6_placeOf wsX6_placeOf) := by
  refine goodIn_app (goodIn_sub ?_ ?_) ggX7_put_X6_placeOf
  · exact wm_c ⟨(wk_X7_put_X7_put_r1 _ (wm_2 wm_h)), wm_c ⟨(wk_X7_put_X7_put_r1 _ (wm_2 (wm_1 wm_h))), wm_c ⟨(wk_X7_put_X7_put_r1 _ (wm_4 wm_h)), wm_c ⟨(wk_X7_put_X7_put_r1 _ (wm_4 (wm_1 wm_h))), wm_n⟩⟩⟩⟩
  · decide +kernel
set_option maxRecDepth 20000 in
theorem ggX7_put_X7_noSum : GoodIn wsX7_put wsX7_noSum := by
  refine goodIn_sub ?_ gd_X7_noSum
  unfold wsX7_noSum
  refine wm_c ⟨(wk_X7_put_X7_put_r1 _ (wm_8 (wm_4 (wm_2 wm_h)))), ?_⟩
  exact wm_n
set_option maxRecDepth 20000 in
theorem gX7_put_X7_noSum : GoodIn wsX7_put (va_wsS RX7 78 yX7_noSum wsX7_noSum) := goodIn_app (goodIn_of _ (by decide +kernel)) ggX7_put_X7_noSum
set_option maxRecDepth 20000 in
theorem ggX7_put_X7_noFraction : GoodIn wsX7_put wsX7_noFraction := by
  refine goodIn_sub ?_ gd_X7_noFraction
  unfold wsX7_noFraction
  refine wm_c ⟨(wk_X7_put_X7_put_r1 _ (wm_16 (wm_1 wm_h))), ?_⟩
  exact wm_n
set_option maxRecDepth 20000 in
theorem gX7_put_X7_noFraction : GoodIn wsX7_put (va_wsS RX7 92 yX7_noFraction wsX7_noFraction) := goodIn_app (goodIn_of _ (by decide +kernel)) ggX7_put_X7_noFraction
set_option maxRecDepth 20000 in
theorem ggX7_put_X3_ratio : GoodIn wsX7_put wsX3_ratio := by
  refine goodIn_sub ?_ gd_X3_ratio
  unfold wsX3_ratio
  refine wm_c ⟨(wk_X7_put_X7_put_r1 _ (wm_16 (wm_4 (wm_1 wm_h)))), ?_⟩
  refine wm_c ⟨(wk_X7_put_X7_put_r1 _ (wm_16 (wm_4 (wm_2 wm_h)))), ?_⟩
  refine wm_c ⟨(wk_X7_put_X7_put_r1 _ (wm_16 (wm_4 (wm_2 (wm_1 wm_h))))), ?_⟩
  refine wm_c ⟨(wk_X7_put_X7_put_r2 _ wm_h), ?_⟩
  refine wm_c ⟨(wk_X7_put_X7_put_r2 _ (wm_1 wm_h)), ?_⟩
  refine wm_c ⟨(wk_X7_put_X7_put_r2 _ (wm_2 wm_h)), ?_⟩
  refine wm_c ⟨(wk_X7_put_X7_put_r2 _ (wm_2 (wm_1 wm_h))), ?_⟩
  refine wm_c ⟨(wk_X7_put_X7_put_r2 _ (wm_4 wm_h)), ?_⟩
  refine wm_c ⟨(wk_X7_put_X7_put_r1 _ (wm_16 (wm_4 wm_h))), ?_⟩
  refine wm_c ⟨(wk_X7_put_X7_put_r2 _ (wm_4 (wm_1 wm_h))), ?_⟩
  refine wm_c ⟨(wk_X7_put_X7_put_r2 _ (wm_4 (wm_2 wm_h))), ?_⟩
  refine wm_c ⟨(wk_X7_put_X7_put_r2 _ (wm_4 (wm_2 (wm_1 wm_h)))), ?_⟩
  refine wm_c ⟨(wk_X7_put_X7_put_r2 _ (wm_8 wm_h)), ?_⟩
  refine wm_c ⟨(wk_X7_put_X7_put_r2 _ (wm_8 (wm_1 wm_h))), ?_⟩
  refine wm_c ⟨(wk_X7_put_X7_put_r2 _ (wm_8 (wm_2 wm_h))), ?_⟩
  exact wm_n
set_option maxRecDepth 20000 in
theorem gX7_put_X3_ratio : GoodIn wsX7_put (va_wsS RX7 96 yX3_ratio wsX3_ratio) := goodIn_app (goodIn_of _ (by decide +kernel)) ggX7_put_X3_ratio
theorem dX7_put_0 : decode cX7_put 0 = .ok (.aload_n 0, 1) := by decide +kernel
theorem dX7_put_1 : decode cX7_put 1 = .ok (.getfield 20, 3) := by decide +kernel
theorem dX7_put_4 : decode cX7_put 4 = .ok (.iload_n 2, 1) := by decide +kernel
theorem dX7_put_5 : decode cX7_put 5 = .ok (.invokevirtual 88, 3) := by decide +kernel
theorem dX7_put_8 : decode cX7_put 8 = .ok (.istore 5, 2) := by decide +kernel
theorem dX7_put_10 : decode cX7_put 10 = .ok (.iload_n 1, 1) := by decide +kernel
theorem dX7_put_11 : decode cX7_put 11 = .ok (.invokestatic 78, 3) := by decide +kernel
theorem dX7_put_14 : decode cX7_put 14 = .ok (.ifCond .ne 8, 3) := by decide +kernel
theorem dX7_put_17 : decode cX7_put 17 = .ok (.iload 5, 2) := by decide +kernel
theorem dX7_put_19 : decode cX7_put 19 = .ok (.ifCond .ge 5, 3) := by decide +kernel
theorem dX7_put_22 : decode cX7_put 22 = .ok (.iconst (-1), 1) := by decide +kernel
theorem dX7_put_23 : decode cX7_put 23 = .ok (.ireturn, 1) := by decide +kernel
theorem dX7_put_24 : decode cX7_put 24 = .ok (.iload_n 3, 1) := by decide +kernel
theorem dX7_put_25 : decode cX7_put 25 = .ok (.iload 4, 2) := by decide +kernel
theorem dX7_put_27 : decode cX7_put 27 = .ok (.sipush 9999, 3) := by decide +kernel
theorem dX7_put_30 : decode cX7_put 30 = .ok (.invokestatic 92, 3) := by decide +kernel
theorem dX7_put_33 : decode cX7_put 33 = .ok (.ifCond .eq 6, 3) := by decide +kernel
theorem dX7_put_36 : decode cX7_put 36 = .ok (.bipush (-2), 2) := by decide +kernel
theorem dX7_put_38 : decode cX7_put 38 = .ok (.ireturn, 1) := by decide +kernel
theorem dX7_put_39 : decode cX7_put 39 = .ok (.aload_n 0, 1) := by decide +kernel
theorem dX7_put_40 : decode cX7_put 40 = .ok (.getfield 32, 3) := by decide +kernel
theorem dX7_put_43 : decode cX7_put 43 = .ok (.iload_n 1, 1) := by decide +kernel
theorem dX7_put_44 : decode cX7_put 44 = .ok (.aaload, 1) := by decide +kernel
theorem dX7_put_45 : decode cX7_put 45 = .ok (.iload 5, 2) := by decide +kernel
theorem dX7_put_47 : decode cX7_put 47 = .ok (.iload_n 3, 1) := by decide +kernel
theorem dX7_put_48 : decode cX7_put 48 = .ok (.iload 4, 2) := by decide +kernel
theorem dX7_put_50 : decode cX7_put 50 = .ok (.invokestatic 96, 3) := by decide +kernel
theorem dX7_put_53 : decode cX7_put 53 = .ok (.iastore, 1) := by decide +kernel
theorem dX7_put_54 : decode cX7_put 54 = .ok (.iconst 0, 1) := by decide +kernel
theorem dX7_put_55 : decode cX7_put 55 = .ok (.ireturn, 1) := by decide +kernel
set_option maxRecDepth 20000 in
theorem ggX7_at_X6_placeOf : GoodIn wsX7_at wsX6_placeOf := by
  refine goodIn_sub ?_ gd_X6_placeOf
  unfold wsX6_placeOf
  refine wm_c ⟨(wm_1 (wm_l (wm_l (wm_4 (wm_2 wm_h))))), ?_⟩
  refine wm_a ⟨?_, ?_⟩
  · refine wm_c ⟨(wm_1 (wm_l (wm_l (wm_4 (wm_2 (wm_1 wm_h)))))), ?_⟩
    refine wm_c ⟨(wm_1 (wm_l (wm_l (wm_8 wm_h)))), ?_⟩
    refine wm_c ⟨(wm_1 (wm_l (wm_l (wm_8 (wm_1 wm_h))))), ?_⟩
    refine wm_c ⟨(wm_1 (wm_l (wm_l (wm_8 (wm_2 wm_h))))), ?_⟩
    exact wm_n
  · exact wk_X7_at_X60
set_option maxRecDepth 20000 in
theorem gX7_at_X6_placeOf : GoodIn wsX7_at (wsV RX7 88 RX6 yX6_placeOf wsX6_placeOf) := by
  refine goodIn_app (goodIn_sub ?_ ?_) ggX7_at_X6_placeOf
  · exact wm_c ⟨(wm_1 (wm_l (wm_l (wm_2 wm_h)))), wm_c ⟨(wm_1 (wm_l (wm_l (wm_2 (wm_1 wm_h))))), wm_c ⟨(wm_1 (wm_l (wm_l (wm_4 wm_h)))), wm_c ⟨(wm_1 (wm_l (wm_l (wm_4 (wm_1 wm_h))))), wm_n⟩⟩⟩⟩
  · decide +kernel
set_option maxRecDepth 20000 in
theorem ggX7_at_X7_noSum : GoodIn wsX7_at wsX7_noSum := by
  refine goodIn_sub ?_ gd_X7_noSum
  unfold wsX7_noSum
  refine wm_c ⟨(wm_1 (wm_l (wm_l (wm_8 (wm_4 (wm_2 wm_h)))))), ?_⟩
  exact wm_n
set_option maxRecDepth 20000 in
theorem gX7_at_X7_noSum : GoodIn wsX7_at (va_wsS RX7 78 yX7_noSum wsX7_noSum) := goodIn_app (goodIn_of _ (by decide +kernel)) ggX7_at_X7_noSum
theorem dX7_at_0 : decode cX7_at 0 = .ok (.aload_n 0, 1) := by decide +kernel
theorem dX7_at_1 : decode cX7_at 1 = .ok (.getfield 20, 3) := by decide +kernel
theorem dX7_at_4 : decode cX7_at 4 = .ok (.iload_n 2, 1) := by decide +kernel
theorem dX7_at_5 : decode cX7_at 5 = .ok (.invokevirtual 88, 3) := by decide +kernel
theorem dX7_at_8 : decode cX7_at 8 = .ok (.istore_n 3, 1) := by decide +kernel
theorem dX7_at_9 : decode cX7_at 9 = .ok (.iload_n 1, 1) := by decide +kernel
theorem dX7_at_10 : decode cX7_at 10 = .ok (.invokestatic 78, 3) := by decide +kernel
theorem dX7_at_13 : decode cX7_at 13 = .ok (.ifCond .ne 7, 3) := by decide +kernel
theorem dX7_at_16 : decode cX7_at 16 = .ok (.iload_n 3, 1) := by decide +kernel
theorem dX7_at_17 : decode cX7_at 17 = .ok (.ifCond .ge 5, 3) := by decide +kernel
theorem dX7_at_20 : decode cX7_at 20 = .ok (.iconst (-1), 1) := by decide +kernel
theorem dX7_at_21 : decode cX7_at 21 = .ok (.ireturn, 1) := by decide +kernel
theorem dX7_at_22 : decode cX7_at 22 = .ok (.aload_n 0, 1) := by decide +kernel
theorem dX7_at_23 : decode cX7_at 23 = .ok (.getfield 32, 3) := by decide +kernel
theorem dX7_at_26 : decode cX7_at 26 = .ok (.iload_n 1, 1) := by decide +kernel
theorem dX7_at_27 : decode cX7_at 27 = .ok (.aaload, 1) := by decide +kernel
theorem dX7_at_28 : decode cX7_at 28 = .ok (.iload_n 3, 1) := by decide +kernel
theorem dX7_at_29 : decode cX7_at 29 = .ok (.iaload, 1) := by decide +kernel
theorem dX7_at_30 : decode cX7_at 30 = .ok (.ireturn, 1) := by decide +kernel
set_option maxRecDepth 20000 in
theorem ggX7_fraction_X3_product : GoodIn wsX7_fraction wsX3_product := by
  refine goodIn_sub ?_ gd_X3_product
  unfold wsX3_product
  refine wm_c ⟨(wm_1 (wm_4 (wm_2 (wm_1 wm_h)))), ?_⟩
  refine wm_c ⟨(wm_1 (wm_8 wm_h)), ?_⟩
  exact wm_n
set_option maxRecDepth 20000 in
theorem gX7_fraction_X3_product : GoodIn wsX7_fraction (va_wsS RX7 103 yX3_product wsX3_product) := goodIn_app (goodIn_of _ (by decide +kernel)) ggX7_fraction_X3_product
set_option maxRecDepth 20000 in
theorem ggX7_fraction_X3_nearNought : GoodIn wsX7_fraction wsX3_nearNought := by
  refine goodIn_sub ?_ gd_X3_nearNought
  unfold wsX3_nearNought
  refine wm_c ⟨(wm_1 (wm_8 (wm_2 (wm_1 wm_h)))), ?_⟩
  refine wm_c ⟨(wm_1 (wm_8 (wm_4 wm_h))), ?_⟩
  refine wm_c ⟨(wm_1 (wm_8 (wm_4 (wm_1 wm_h)))), ?_⟩
  exact wm_n
set_option maxRecDepth 20000 in
theorem gX7_fraction_X3_nearNought : GoodIn wsX7_fraction (va_wsS RX7 106 yX3_nearNought wsX3_nearNought) := goodIn_app (goodIn_of _ (by decide +kernel)) ggX7_fraction_X3_nearNought
theorem dX7_fraction_0 : decode cX7_fraction 0 = .ok (.iload_n 1, 1) := by decide +kernel
theorem dX7_fraction_1 : decode cX7_fraction 1 = .ok (.ifCond .lt 18, 3) := by decide +kernel
theorem dX7_fraction_4 : decode cX7_fraction 4 = .ok (.iload_n 1, 1) := by decide +kernel
theorem dX7_fraction_5 : decode cX7_fraction 5 = .ok (.ldc 101, 2) := by decide +kernel
theorem dX7_fraction_7 : decode cX7_fraction 7 = .ok (.if_icmp .ge 12, 3) := by decide +kernel
theorem dX7_fraction_10 : decode cX7_fraction 10 = .ok (.iload_n 2, 1) := by decide +kernel
theorem dX7_fraction_11 : decode cX7_fraction 11 = .ok (.ifCond .lt 8, 3) := by decide +kernel
theorem dX7_fraction_14 : decode cX7_fraction 14 = .ok (.iload_n 2, 1) := by decide +kernel
theorem dX7_fraction_15 : decode cX7_fraction 15 = .ok (.iconst 1, 1) := by decide +kernel
theorem dX7_fraction_16 : decode cX7_fraction 16 = .ok (.if_icmp .le 6, 3) := by decide +kernel
theorem dX7_fraction_19 : decode cX7_fraction 19 = .ok (.ldc 102, 2) := by decide +kernel
theorem dX7_fraction_21 : decode cX7_fraction 21 = .ok (.ireturn, 1) := by decide +kernel
theorem dX7_fraction_22 : decode cX7_fraction 22 = .ok (.iconst 1, 1) := by decide +kernel
theorem dX7_fraction_23 : decode cX7_fraction 23 = .ok (.istore_n 3, 1) := by decide +kernel
theorem dX7_fraction_24 : decode cX7_fraction 24 = .ok (.iload_n 3, 1) := by decide +kernel
theorem dX7_fraction_25 : decode cX7_fraction 25 = .ok (.sipush 1000, 3) := by decide +kernel
theorem dX7_fraction_28 : decode cX7_fraction 28 = .ok (.if_icmp .gt 44, 3) := by decide +kernel
theorem dX7_fraction_31 : decode cX7_fraction 31 = .ok (.iload_n 1, 1) := by decide +kernel
theorem dX7_fraction_32 : decode cX7_fraction 32 = .ok (.iload_n 3, 1) := by decide +kernel
theorem dX7_fraction_33 : decode cX7_fraction 33 = .ok (.invokestatic 103, 3) := by decide +kernel
theorem dX7_fraction_36 : decode cX7_fraction 36 = .ok (.invokestatic 106, 3) := by decide +kernel
theorem dX7_fraction_39 : decode cX7_fraction 39 = .ok (.istore 4, 2) := by decide +kernel
theorem dX7_fraction_41 : decode cX7_fraction 41 = .ok (.iload 4, 2) := by decide +kernel
theorem dX7_fraction_43 : decode cX7_fraction 43 = .ok (.ldc 109, 2) := by decide +kernel
theorem dX7_fraction_45 : decode cX7_fraction 45 = .ok (.if_icmp .lt 21, 3) := by decide +kernel
theorem dX7_fraction_48 : decode cX7_fraction 48 = .ok (.iload 4, 2) := by decide +kernel
theorem dX7_fraction_50 : decode cX7_fraction 50 = .ok (.ldc 110, 2) := by decide +kernel
theorem dX7_fraction_52 : decode cX7_fraction 52 = .ok (.if_icmp .gt 14, 3) := by decide +kernel
theorem dX7_fraction_55 : decode cX7_fraction 55 = .ok (.iload_n 2, 1) := by decide +kernel
theorem dX7_fraction_56 : decode cX7_fraction 56 = .ok (.ifCond .ne 8, 3) := by decide +kernel
theorem dX7_fraction_59 : decode cX7_fraction 59 = .ok (.iload 4, 2) := by decide +kernel
theorem dX7_fraction_61 : decode cX7_fraction 61 = .ok (.goto 4, 3) := by decide +kernel
theorem dX7_fraction_64 : decode cX7_fraction 64 = .ok (.iload_n 3, 1) := by decide +kernel
theorem dX7_fraction_65 : decode cX7_fraction 65 = .ok (.ireturn, 1) := by decide +kernel
theorem dX7_fraction_66 : decode cX7_fraction 66 = .ok (.iinc 3 1, 3) := by decide +kernel
theorem dX7_fraction_69 : decode cX7_fraction 69 = .ok (.goto (-45), 3) := by decide +kernel
theorem dX7_fraction_72 : decode cX7_fraction 72 = .ok (.ldc 102, 2) := by decide +kernel
theorem dX7_fraction_74 : decode cX7_fraction 74 = .ok (.ireturn, 1) := by decide +kernel
set_option maxRecDepth 20000 in
theorem ggX7_add_X7_noSum : GoodIn wsX7_add wsX7_noSum := by
  refine goodIn_sub ?_ gd_X7_noSum
  unfold wsX7_noSum
  refine wm_c ⟨(wk_X7_add_X7_add_r1 _ (wm_4 (wm_1 wm_h))), ?_⟩
  exact wm_n
set_option maxRecDepth 20000 in
theorem gX7_add_X7_noSum : GoodIn wsX7_add (va_wsS RX7 78 yX7_noSum wsX7_noSum) := goodIn_app (goodIn_of _ (by decide +kernel)) ggX7_add_X7_noSum
set_option maxRecDepth 20000 in
theorem ggX7_add_X7_noFraction : GoodIn wsX7_add wsX7_noFraction := by
  refine goodIn_sub ?_ gd_X7_noFraction
  unfold wsX7_noFraction
  refine wm_c ⟨(wk_X7_add_X7_add_r1 _ (wm_8 wm_h)), ?_⟩
  exact wm_n
set_option maxRecDepth 20000 in
theorem gX7_add_X7_noFraction : GoodIn wsX7_add (va_wsS RX7 92 yX7_noFraction wsX7_noFraction) := goodIn_app (goodIn_of _ (by decide +kernel)) ggX7_add_X7_noFraction
set_option maxRecDepth 20000 in
theorem ggX7_add_X3_ratio : GoodIn wsX7_add wsX3_ratio := by
  refine goodIn_sub ?_ gd_X3_ratio
  unfold wsX3_ratio
  refine wm_c ⟨(wk_X7_add_X7_add_r1 _ (wm_8 (wm_4 wm_h))), ?_⟩
  refine wm_c ⟨(wk_X7_add_X7_add_r1 _ (wm_8 (wm_4 (wm_1 wm_h)))), ?_⟩
  refine wm_c ⟨(wk_X7_add_X7_add_r1 _ (wm_8 (wm_4 (wm_2 wm_h)))), ?_⟩
  refine wm_c ⟨(wk_X7_add_X7_add_r1 _ (wm_8 (wm_4 (wm_2 (wm_1 wm_h))))), ?_⟩
  refine wm_c ⟨(wk_X7_add_X7_add_r1 _ (wm_16 wm_h)), ?_⟩
  refine wm_c ⟨(wk_X7_add_X7_add_r1 _ (wm_16 (wm_1 wm_h))), ?_⟩
  refine wm_c ⟨(wk_X7_add_X7_add_r1 _ (wm_16 (wm_2 wm_h))), ?_⟩
  refine wm_c ⟨(wk_X7_add_X7_add_r1 _ (wm_16 (wm_2 (wm_1 wm_h)))), ?_⟩
  refine wm_c ⟨(wk_X7_add_X7_add_r1 _ (wm_8 (wm_2 (wm_1 wm_h)))), ?_⟩
  refine wm_c ⟨(wk_X7_add_X7_add_r1 _ (wm_16 (wm_4 wm_h))), ?_⟩
  refine wm_c ⟨(wk_X7_add_X7_add_r1 _ (wm_16 (wm_4 (wm_1 wm_h)))), ?_⟩
  refine wm_c ⟨(wk_X7_add_X7_add_r1 _ (wm_16 (wm_4 (wm_2 wm_h)))), ?_⟩
  refine wm_c ⟨(wk_X7_add_X7_add_r1 _ (wm_16 (wm_4 (wm_2 (wm_1 wm_h))))), ?_⟩
  refine wm_c ⟨(wk_X7_add_X7_add_r2 _ wm_h), ?_⟩
  refine wm_c ⟨(wk_X7_add_X7_add_r2 _ (wm_1 wm_h)), ?_⟩
  exact wm_n
set_option maxRecDepth 20000 in
theorem gX7_add_X3_ratio : GoodIn wsX7_add (va_wsS RX7 96 yX3_ratio wsX3_ratio) := goodIn_app (goodIn_of _ (by decide +kernel)) ggX7_add_X3_ratio
set_option maxRecDepth 20000 in
theorem ggX7_add_X0_amass : GoodIn wsX7_add wsX0_amass := by
  refine goodIn_sub ?_ gd_X0_amass
  unfold wsX0_amass
  refine wm_c ⟨(wk_X7_add_X7_add_r2 _ (wm_4 (wm_2 wm_h))), ?_⟩
  refine wm_c ⟨(wk_X7_add_X7_add_r2 _ (wm_4 (wm_2 (wm_1 wm_h)))), ?_⟩
  refine wm_c ⟨(wk_X7_add_X7_add_r2 _ (wm_8 wm_h)), ?_⟩
  refine wm_c ⟨(wk_X7_add_X7_add_r1 _ (wm_8 (wm_2 (wm_1 wm_h)))), ?_⟩
  refine wm_c ⟨(wk_X7_add_X7_add_r2 _ (wm_8 (wm_1 wm_h))), ?_⟩
  refine wm_c ⟨(wk_X7_add_X7_add_r2 _ (wm_1 wm_h)), ?_⟩
  exact wm_n
set_option maxRecDepth 20000 in
theorem gX7_add_X0_amass : GoodIn wsX7_add (wsV RX7 111 RX0 yX0_amass wsX0_amass) := by
  refine goodIn_app (goodIn_sub ?_ ?_) ggX7_add_X0_amass
  · exact wm_c ⟨(wk_X7_add_X7_add_r2 _ (wm_2 wm_h)), wm_c ⟨(wk_X7_add_X7_add_r2 _ (wm_2 (wm_1 wm_h))), wm_c ⟨(wk_X7_add_X7_add_r2 _ (wm_4 wm_h)), wm_c ⟨(wk_X7_add_X7_add_r2 _ (wm_4 (wm_1 wm_h))), wm_n⟩⟩⟩⟩
  · decide +kernel
theorem dX7_add_0 : decode cX7_add 0 = .ok (.iload_n 1, 1) := by decide +kernel
theorem dX7_add_1 : decode cX7_add 1 = .ok (.invokestatic 78, 3) := by decide +kernel
theorem dX7_add_4 : decode cX7_add 4 = .ok (.ifCond .ne 10, 3) := by decide +kernel
theorem dX7_add_7 : decode cX7_add 7 = .ok (.iload_n 2, 1) := by decide +kernel
theorem dX7_add_8 : decode cX7_add 8 = .ok (.invokestatic 78, 3) := by decide +kernel
theorem dX7_add_11 : decode cX7_add 11 = .ok (.ifCond .eq 5, 3) := by decide +kernel
theorem dX7_add_14 : decode cX7_add 14 = .ok (.iconst (-1), 1) := by decide +kernel
theorem dX7_add_15 : decode cX7_add 15 = .ok (.ireturn, 1) := by decide +kernel
theorem dX7_add_16 : decode cX7_add 16 = .ok (.iload_n 3, 1) := by decide +kernel
theorem dX7_add_17 : decode cX7_add 17 = .ok (.iload 4, 2) := by decide +kernel
theorem dX7_add_19 : decode cX7_add 19 = .ok (.sipush 9999, 3) := by decide +kernel
theorem dX7_add_22 : decode cX7_add 22 = .ok (.invokestatic 92, 3) := by decide +kernel
theorem dX7_add_25 : decode cX7_add 25 = .ok (.ifCond .eq 6, 3) := by decide +kernel
theorem dX7_add_28 : decode cX7_add 28 = .ok (.bipush (-2), 2) := by decide +kernel
theorem dX7_add_30 : decode cX7_add 30 = .ok (.ireturn, 1) := by decide +kernel
theorem dX7_add_31 : decode cX7_add 31 = .ok (.aload_n 0, 1) := by decide +kernel
theorem dX7_add_32 : decode cX7_add 32 = .ok (.getfield 40, 3) := by decide +kernel
theorem dX7_add_35 : decode cX7_add 35 = .ok (.aload_n 0, 1) := by decide +kernel
theorem dX7_add_36 : decode cX7_add 36 = .ok (.getfield 32, 3) := by decide +kernel
theorem dX7_add_39 : decode cX7_add 39 = .ok (.iload_n 1, 1) := by decide +kernel
theorem dX7_add_40 : decode cX7_add 40 = .ok (.aaload, 1) := by decide +kernel
theorem dX7_add_41 : decode cX7_add 41 = .ok (.aload_n 0, 1) := by decide +kernel
theorem dX7_add_42 : decode cX7_add 42 = .ok (.getfield 32, 3) := by decide +kernel
theorem dX7_add_45 : decode cX7_add 45 = .ok (.iload_n 2, 1) := by decide +kernel
theorem dX7_add_46 : decode cX7_add 46 = .ok (.aaload, 1) := by decide +kernel
theorem dX7_add_47 : decode cX7_add 47 = .ok (.iload_n 3, 1) := by decide +kernel
theorem dX7_add_48 : decode cX7_add 48 = .ok (.iload 4, 2) := by decide +kernel
theorem dX7_add_50 : decode cX7_add 50 = .ok (.invokestatic 96, 3) := by decide +kernel
theorem dX7_add_53 : decode cX7_add 53 = .ok (.invokevirtual 111, 3) := by decide +kernel
theorem dX7_add_56 : decode cX7_add 56 = .ok (.iconst 0, 1) := by decide +kernel
theorem dX7_add_57 : decode cX7_add 57 = .ok (.ireturn, 1) := by decide +kernel
set_option maxRecDepth 20000 in
theorem ggX7_times_X7_noSum : GoodIn wsX7_times wsX7_noSum := by
  refine goodIn_sub ?_ gd_X7_noSum
  unfold wsX7_noSum
  refine wm_c ⟨(wk_X7_times_X7_times_r1 _ (wm_4 (wm_1 wm_h))), ?_⟩
  exact wm_n
set_option maxRecDepth 20000 in
theorem gX7_times_X7_noSum : GoodIn wsX7_times (va_wsS RX7 78 yX7_noSum wsX7_noSum) := goodIn_app (goodIn_of _ (by decide +kernel)) ggX7_times_X7_noSum
set_option maxRecDepth 20000 in
theorem ggX7_times_X0_multiply : GoodIn wsX7_times wsX0_multiply := by
  refine goodIn_sub ?_ gd_X0_multiply
  unfold wsX0_multiply
  refine wm_c ⟨(wk_X7_times_X7_times_r1 _ (wm_8 (wm_2 wm_h))), ?_⟩
  refine wm_a ⟨?_, ?_⟩
  · refine wm_c ⟨(wk_X7_times_X7_times_r1 _ (wm_8 (wm_2 (wm_1 wm_h)))), ?_⟩
    refine wm_c ⟨(wk_X7_times_X7_times_r1 _ (wm_8 (wm_4 wm_h))), ?_⟩
    refine wm_c ⟨(wk_X7_times_X7_times_r1 _ (wm_8 (wm_4 (wm_1 wm_h)))), ?_⟩
    refine wm_c ⟨(wk_X7_times_X7_times_r1 _ (wm_8 (wm_4 (wm_2 wm_h)))), ?_⟩
    refine wm_c ⟨(wk_X7_times_X7_times_r1 _ (wm_8 (wm_4 (wm_2 (wm_1 wm_h))))), ?_⟩
    refine wm_c ⟨(wk_X7_times_X7_times_r1 _ (wm_16 wm_h)), ?_⟩
    refine wm_c ⟨(wk_X7_times_X7_times_r1 _ (wm_16 (wm_1 wm_h))), ?_⟩
    refine wm_c ⟨(wk_X7_times_X7_times_r1 _ (wm_16 (wm_2 wm_h))), ?_⟩
    refine wm_c ⟨(wk_X7_times_X7_times_r1 _ (wm_16 (wm_2 (wm_1 wm_h)))), ?_⟩
    refine wm_c ⟨(wk_X7_times_X7_times_r1 _ (wm_8 (wm_1 wm_h))), ?_⟩
    refine wm_c ⟨(wk_X7_times_X7_times_r1 _ (wm_16 (wm_4 wm_h))), ?_⟩
    refine wm_c ⟨(wk_X7_times_X7_times_r1 _ (wm_16 (wm_4 (wm_1 wm_h)))), ?_⟩
    refine wm_c ⟨(wk_X7_times_X7_times_r1 _ (wm_16 (wm_4 (wm_2 wm_h)))), ?_⟩
    refine wm_c ⟨(wk_X7_times_X7_times_r1 _ (wm_16 (wm_4 (wm_2 (wm_1 wm_h))))), ?_⟩
    refine wm_c ⟨(wk_X7_times_X7_times_r2 _ wm_h), ?_⟩
    refine wm_c ⟨(wk_X7_times_X7_times_r2 _ (wm_1 wm_h)), ?_⟩
    refine wm_c ⟨(wk_X7_times_X7_times_r2 _ (wm_2 wm_h)), ?_⟩
    refine wm_c ⟨(wk_X7_times_X7_times_r2 _ (wm_2 (wm_1 wm_h))), ?_⟩
    refine wm_c ⟨(wk_X7_times_X7_times_r2 _ (wm_4 wm_h)), ?_⟩
    refine wm_c ⟨(wk_X7_times_X7_times_r2 _ (wm_4 (wm_1 wm_h))), ?_⟩
    refine wm_c ⟨(wk_X7_times_X7_times_r2 _ (wm_4 (wm_2 wm_h))), ?_⟩
    refine wm_c ⟨(wk_X7_times_X7_times_r2 _ (wm_4 (wm_2 (wm_1 wm_h)))), ?_⟩
    exact wm_n
  · exact wk_X7_times_X00
set_option maxRecDepth 20000 in
theorem gX7_times_X0_multiply : GoodIn wsX7_times (wsV RX7 115 RX0 yX0_multiply wsX0_multiply) := by
  refine goodIn_app (goodIn_sub ?_ ?_) ggX7_times_X0_multiply
  · exact wm_c ⟨(wk_X7_times_X7_times_r1 _ (wm_4 (wm_2 wm_h))), wm_c ⟨(wk_X7_times_X7_times_r1 _ (wm_4 (wm_2 (wm_1 wm_h)))), wm_c ⟨(wk_X7_times_X7_times_r1 _ (wm_8 wm_h)), wm_c ⟨(wk_X7_times_X7_times_r1 _ (wm_8 (wm_1 wm_h))), wm_n⟩⟩⟩⟩
  · decide +kernel
theorem dX7_times_0 : decode cX7_times 0 = .ok (.iload_n 1, 1) := by decide +kernel
theorem dX7_times_1 : decode cX7_times 1 = .ok (.invokestatic 78, 3) := by decide +kernel
theorem dX7_times_4 : decode cX7_times 4 = .ok (.ifCond .ne 17, 3) := by decide +kernel
theorem dX7_times_7 : decode cX7_times 7 = .ok (.iload_n 2, 1) := by decide +kernel
theorem dX7_times_8 : decode cX7_times 8 = .ok (.invokestatic 78, 3) := by decide +kernel
theorem dX7_times_11 : decode cX7_times 11 = .ok (.ifCond .ne 10, 3) := by decide +kernel
theorem dX7_times_14 : decode cX7_times 14 = .ok (.iload_n 3, 1) := by decide +kernel
theorem dX7_times_15 : decode cX7_times 15 = .ok (.invokestatic 78, 3) := by decide +kernel
theorem dX7_times_18 : decode cX7_times 18 = .ok (.ifCond .eq 5, 3) := by decide +kernel
theorem dX7_times_21 : decode cX7_times 21 = .ok (.iconst (-1), 1) := by decide +kernel
theorem dX7_times_22 : decode cX7_times 22 = .ok (.ireturn, 1) := by decide +kernel
theorem dX7_times_23 : decode cX7_times 23 = .ok (.aload_n 0, 1) := by decide +kernel
theorem dX7_times_24 : decode cX7_times 24 = .ok (.getfield 40, 3) := by decide +kernel
theorem dX7_times_27 : decode cX7_times 27 = .ok (.aload_n 0, 1) := by decide +kernel
theorem dX7_times_28 : decode cX7_times 28 = .ok (.getfield 32, 3) := by decide +kernel
theorem dX7_times_31 : decode cX7_times 31 = .ok (.iload_n 1, 1) := by decide +kernel
theorem dX7_times_32 : decode cX7_times 32 = .ok (.aaload, 1) := by decide +kernel
theorem dX7_times_33 : decode cX7_times 33 = .ok (.aload_n 0, 1) := by decide +kernel
theorem dX7_times_34 : decode cX7_times 34 = .ok (.getfield 32, 3) := by decide +kernel
theorem dX7_times_37 : decode cX7_times 37 = .ok (.iload_n 2, 1) := by decide +kernel
theorem dX7_times_38 : decode cX7_times 38 = .ok (.aaload, 1) := by decide +kernel
theorem dX7_times_39 : decode cX7_times 39 = .ok (.aload_n 0, 1) := by decide +kernel
theorem dX7_times_40 : decode cX7_times 40 = .ok (.getfield 32, 3) := by decide +kernel
theorem dX7_times_43 : decode cX7_times 43 = .ok (.iload_n 3, 1) := by decide +kernel
theorem dX7_times_44 : decode cX7_times 44 = .ok (.aaload, 1) := by decide +kernel
theorem dX7_times_45 : decode cX7_times 45 = .ok (.invokevirtual 115, 3) := by decide +kernel
theorem dX7_times_48 : decode cX7_times 48 = .ok (.iconst 0, 1) := by decide +kernel
theorem dX7_times_49 : decode cX7_times 49 = .ok (.ireturn, 1) := by decide +kernel
set_option maxRecDepth 20000 in
theorem ggX7_bracket_X7_noSum : GoodIn wsX7_bracket wsX7_noSum := by
  refine goodIn_sub ?_ gd_X7_noSum
  unfold wsX7_noSum
  refine wm_c ⟨(wk_X7_bracket_X7_bracket_r1 _ (wm_4 (wm_1 wm_h))), ?_⟩
  exact wm_n
set_option maxRecDepth 20000 in
theorem gX7_bracket_X7_noSum : GoodIn wsX7_bracket (va_wsS RX7 78 yX7_noSum wsX7_noSum) := goodIn_app (goodIn_of _ (by decide +kernel)) ggX7_bracket_X7_noSum
set_option maxRecDepth 20000 in
theorem ggX7_bracket_X0_commute : GoodIn wsX7_bracket wsX0_commute := by
  refine goodIn_sub ?_ gd_X0_commute
  unfold wsX0_commute
  refine wm_c ⟨(wk_X7_bracket_X7_bracket_r1 _ (wm_8 (wm_2 wm_h))), ?_⟩
  refine wm_a ⟨?_, ?_⟩
  · refine wm_c ⟨(wk_X7_bracket_X7_bracket_r1 _ (wm_8 (wm_2 (wm_1 wm_h)))), ?_⟩
    refine wm_c ⟨(wk_X7_bracket_X7_bracket_r1 _ (wm_8 (wm_4 wm_h))), ?_⟩
    refine wm_c ⟨(wk_X7_bracket_X7_bracket_r1 _ (wm_8 (wm_4 (wm_1 wm_h)))), ?_⟩
    refine wm_c ⟨(wk_X7_bracket_X7_bracket_r1 _ (wm_8 (wm_4 (wm_2 wm_h)))), ?_⟩
    refine wm_c ⟨(wk_X7_bracket_X7_bracket_r1 _ (wm_8 (wm_4 (wm_2 (wm_1 wm_h))))), ?_⟩
    refine wm_c ⟨(wk_X7_bracket_X7_bracket_r1 _ (wm_16 wm_h)), ?_⟩
    refine wm_c ⟨(wk_X7_bracket_X7_bracket_r1 _ (wm_16 (wm_1 wm_h))), ?_⟩
    refine wm_c ⟨(wk_X7_bracket_X7_bracket_r1 _ (wm_16 (wm_2 wm_h))), ?_⟩
    refine wm_c ⟨(wk_X7_bracket_X7_bracket_r1 _ (wm_16 (wm_2 (wm_1 wm_h)))), ?_⟩
    refine wm_c ⟨(wk_X7_bracket_X7_bracket_r1 _ (wm_16 (wm_4 wm_h))), ?_⟩
    refine wm_c ⟨(wk_X7_bracket_X7_bracket_r1 _ (wm_8 (wm_1 wm_h))), ?_⟩
    refine wm_c ⟨(wk_X7_bracket_X7_bracket_r1 _ (wm_16 (wm_4 (wm_1 wm_h)))), ?_⟩
    refine wm_c ⟨(wk_X7_bracket_X7_bracket_r1 _ (wm_16 (wm_4 (wm_2 wm_h)))), ?_⟩
    refine wm_c ⟨(wk_X7_bracket_X7_bracket_r1 _ (wm_16 (wm_4 (wm_2 (wm_1 wm_h))))), ?_⟩
    refine wm_c ⟨(wk_X7_bracket_X7_bracket_r2 _ wm_h), ?_⟩
    refine wm_c ⟨(wk_X7_bracket_X7_bracket_r2 _ (wm_1 wm_h)), ?_⟩
    refine wm_c ⟨(wk_X7_bracket_X7_bracket_r2 _ (wm_2 wm_h)), ?_⟩
    refine wm_c ⟨(wk_X7_bracket_X7_bracket_r2 _ (wm_2 (wm_1 wm_h))), ?_⟩
    refine wm_c ⟨(wk_X7_bracket_X7_bracket_r2 _ (wm_4 wm_h)), ?_⟩
    refine wm_c ⟨(wk_X7_bracket_X7_bracket_r2 _ (wm_4 (wm_1 wm_h))), ?_⟩
    refine wm_c ⟨(wk_X7_bracket_X7_bracket_r2 _ (wm_4 (wm_2 wm_h))), ?_⟩
    refine wm_c ⟨(wk_X7_bracket_X7_bracket_r2 _ (wm_4 (wm_2 (wm_1 wm_h)))), ?_⟩
    refine wm_c ⟨(wk_X7_bracket_X7_bracket_r2 _ (wm_8 wm_h)), ?_⟩
    exact wm_n
  · exact wk_X7_bracket_X00
set_option maxRecDepth 20000 in
theorem gX7_bracket_X0_commute : GoodIn wsX7_bracket (wsV RX7 119 RX0 yX0_commute wsX0_commute) := by
  refine goodIn_app (goodIn_sub ?_ ?_) ggX7_bracket_X0_commute
  · exact wm_c ⟨(wk_X7_bracket_X7_bracket_r1 _ (wm_4 (wm_2 wm_h))), wm_c ⟨(wk_X7_bracket_X7_bracket_r1 _ (wm_4 (wm_2 (wm_1 wm_h)))), wm_c ⟨(wk_X7_bracket_X7_bracket_r1 _ (wm_8 wm_h)), wm_c ⟨(wk_X7_bracket_X7_bracket_r1 _ (wm_8 (wm_1 wm_h))), wm_n⟩⟩⟩⟩
  · decide +kernel
theorem dX7_bracket_0 : decode cX7_bracket 0 = .ok (.iload_n 1, 1) := by decide +kernel
theorem dX7_bracket_1 : decode cX7_bracket 1 = .ok (.invokestatic 78, 3) := by decide +kernel
theorem dX7_bracket_4 : decode cX7_bracket 4 = .ok (.ifCond .ne 17, 3) := by decide +kernel
theorem dX7_bracket_7 : decode cX7_bracket 7 = .ok (.iload_n 2, 1) := by decide +kernel
theorem dX7_bracket_8 : decode cX7_bracket 8 = .ok (.invokestatic 78, 3) := by decide +kernel
theorem dX7_bracket_11 : decode cX7_bracket 11 = .ok (.ifCond .ne 10, 3) := by decide +kernel
theorem dX7_bracket_14 : decode cX7_bracket 14 = .ok (.iload_n 3, 1) := by decide +kernel
theorem dX7_bracket_15 : decode cX7_bracket 15 = .ok (.invokestatic 78, 3) := by decide +kernel
theorem dX7_bracket_18 : decode cX7_bracket 18 = .ok (.ifCond .eq 5, 3) := by decide +kernel
theorem dX7_bracket_21 : decode cX7_bracket 21 = .ok (.iconst (-1), 1) := by decide +kernel
theorem dX7_bracket_22 : decode cX7_bracket 22 = .ok (.ireturn, 1) := by decide +kernel
theorem dX7_bracket_23 : decode cX7_bracket 23 = .ok (.aload_n 0, 1) := by decide +kernel
theorem dX7_bracket_24 : decode cX7_bracket 24 = .ok (.getfield 40, 3) := by decide +kernel
theorem dX7_bracket_27 : decode cX7_bracket 27 = .ok (.aload_n 0, 1) := by decide +kernel
theorem dX7_bracket_28 : decode cX7_bracket 28 = .ok (.getfield 32, 3) := by decide +kernel
theorem dX7_bracket_31 : decode cX7_bracket 31 = .ok (.iload_n 1, 1) := by decide +kernel
theorem dX7_bracket_32 : decode cX7_bracket 32 = .ok (.aaload, 1) := by decide +kernel
theorem dX7_bracket_33 : decode cX7_bracket 33 = .ok (.aload_n 0, 1) := by decide +kernel
theorem dX7_bracket_34 : decode cX7_bracket 34 = .ok (.getfield 32, 3) := by decide +kernel
theorem dX7_bracket_37 : decode cX7_bracket 37 = .ok (.iload_n 2, 1) := by decide +kernel
theorem dX7_bracket_38 : decode cX7_bracket 38 = .ok (.aaload, 1) := by decide +kernel
theorem dX7_bracket_39 : decode cX7_bracket 39 = .ok (.aload_n 0, 1) := by decide +kernel
theorem dX7_bracket_40 : decode cX7_bracket 40 = .ok (.getfield 32, 3) := by decide +kernel
theorem dX7_bracket_43 : decode cX7_bracket 43 = .ok (.iload_n 3, 1) := by decide +kernel
theorem dX7_bracket_44 : decode cX7_bracket 44 = .ok (.aaload, 1) := by decide +kernel
theorem dX7_bracket_45 : decode cX7_bracket 45 = .ok (.invokevirtual 119, 3) := by decide +kernel
theorem dX7_bracket_48 : decode cX7_bracket 48 = .ok (.iconst 0, 1) := by decide +kernel
theorem dX7_bracket_49 : decode cX7_bracket 49 = .ok (.ireturn, 1) := by decide +kernel
set_option maxRecDepth 20000 in
theorem ggX7_shuffle_X7_noSum : GoodIn wsX7_shuffle wsX7_noSum := by
  refine goodIn_sub ?_ gd_X7_noSum
  unfold wsX7_noSum
  refine wm_c ⟨(wk_X7_shuffle_X7_shuffle_r1 _ (wm_4 (wm_1 wm_h))), ?_⟩
  exact wm_n
set_option maxRecDepth 20000 in
theorem gX7_shuffle_X7_noSum : GoodIn wsX7_shuffle (va_wsS RX7 78 yX7_noSum wsX7_noSum) := goodIn_app (goodIn_of _ (by decide +kernel)) ggX7_shuffle_X7_noSum
set_option maxRecDepth 20000 in
theorem ggX7_shuffle_X0_mingle : GoodIn wsX7_shuffle wsX0_mingle := by
  refine goodIn_sub ?_ gd_X0_mingle
  unfold wsX0_mingle
  refine wm_c ⟨(wk_X7_shuffle_X7_shuffle_r1 _ (wm_8 (wm_2 wm_h))), ?_⟩
  refine wm_a ⟨?_, ?_⟩
  · refine wm_a ⟨?_, ?_⟩
    · unfold wsX0_mingle_r1
      refine wm_c ⟨(wk_X7_shuffle_X7_shuffle_r1 _ (wm_8 (wm_2 (wm_1 wm_h)))), ?_⟩
      refine wm_c ⟨(wk_X7_shuffle_X7_shuffle_r1 _ (wm_8 (wm_4 wm_h))), ?_⟩
      refine wm_c ⟨(wk_X7_shuffle_X7_shuffle_r1 _ (wm_8 (wm_4 (wm_1 wm_h)))), ?_⟩
      refine wm_c ⟨(wk_X7_shuffle_X7_shuffle_r1 _ (wm_8 (wm_4 (wm_2 wm_h)))), ?_⟩
      refine wm_c ⟨(wk_X7_shuffle_X7_shuffle_r1 _ (wm_8 (wm_4 (wm_2 (wm_1 wm_h))))), ?_⟩
      refine wm_c ⟨(wk_X7_shuffle_X7_shuffle_r1 _ (wm_16 wm_h)), ?_⟩
      refine wm_c ⟨(wk_X7_shuffle_X7_shuffle_r1 _ (wm_16 (wm_1 wm_h))), ?_⟩
      refine wm_c ⟨(wk_X7_shuffle_X7_shuffle_r1 _ (wm_16 (wm_2 wm_h))), ?_⟩
      refine wm_c ⟨(wk_X7_shuffle_X7_shuffle_r1 _ (wm_16 (wm_2 (wm_1 wm_h)))), ?_⟩
      refine wm_c ⟨(wk_X7_shuffle_X7_shuffle_r1 _ (wm_16 (wm_4 wm_h))), ?_⟩
      refine wm_c ⟨(wk_X7_shuffle_X7_shuffle_r1 _ (wm_16 (wm_4 (wm_1 wm_h)))), ?_⟩
      refine wm_c ⟨(wk_X7_shuffle_X7_shuffle_r1 _ (wm_8 (wm_1 wm_h))), ?_⟩
      refine wm_c ⟨(wk_X7_shuffle_X7_shuffle_r1 _ (wm_16 (wm_4 (wm_2 wm_h)))), ?_⟩
      refine wm_c ⟨(wk_X7_shuffle_X7_shuffle_r1 _ (wm_16 (wm_4 (wm_2 (wm_1 wm_h))))), ?_⟩
      refine wm_c ⟨(wk_X7_shuffle_X7_shuffle_r2 _ wm_h), ?_⟩
      refine wm_c ⟨(wk_X7_shuffle_X7_shuffle_r2 _ (wm_1 wm_h)), ?_⟩
      refine wm_c ⟨(wk_X7_shuffle_X7_shuffle_r2 _ (wm_2 wm_h)), ?_⟩
      refine wm_c ⟨(wk_X7_shuffle_X7_shuffle_r2 _ (wm_2 (wm_1 wm_h))), ?_⟩
      refine wm_c ⟨(wk_X7_shuffle_X7_shuffle_r2 _ (wm_4 wm_h)), ?_⟩
      refine wm_c ⟨(wk_X7_shuffle_X7_shuffle_r2 _ (wm_4 (wm_1 wm_h))), ?_⟩
      refine wm_c ⟨(wk_X7_shuffle_X7_shuffle_r2 _ (wm_4 (wm_2 wm_h))), ?_⟩
      refine wm_c ⟨(wk_X7_shuffle_X7_shuffle_r2 _ (wm_4 (wm_2 (wm_1 wm_h)))), ?_⟩
      refine wm_c ⟨(wk_X7_shuffle_X7_shuffle_r2 _ (wm_8 wm_h)), ?_⟩
      refine wm_c ⟨(wk_X7_shuffle_X7_shuffle_r2 _ (wm_8 (wm_1 wm_h))), ?_⟩
      exact wm_n
    · unfold wsX0_mingle_r2
      refine wm_c ⟨(wk_X7_shuffle_X7_shuffle_r2 _ (wm_8 (wm_2 wm_h))), ?_⟩
      refine wm_c ⟨(wk_X7_shuffle_X7_shuffle_r2 _ (wm_8 (wm_2 (wm_1 wm_h)))), ?_⟩
      refine wm_c ⟨(wk_X7_shuffle_X7_shuffle_r2 _ (wm_8 (wm_4 wm_h))), ?_⟩
      refine wm_c ⟨(wk_X7_shuffle_X7_shuffle_r2 _ (wm_8 (wm_4 (wm_1 wm_h)))), ?_⟩
      refine wm_c ⟨(wk_X7_shuffle_X7_shuffle_r2 _ (wm_8 (wm_4 (wm_2 wm_h)))), ?_⟩
      refine wm_c ⟨(wk_X7_shuffle_X7_shuffle_r2 _ (wm_8 (wm_4 (wm_2 (wm_1 wm_h))))), ?_⟩
      refine wm_c ⟨(wk_X7_shuffle_X7_shuffle_r2 _ (wm_16 wm_h)), ?_⟩
      refine wm_c ⟨(wk_X7_shuffle_X7_shuffle_r2 _ (wm_16 (wm_1 wm_h))), ?_⟩
      refine wm_c ⟨(wk_X7_shuffle_X7_shuffle_r2 _ (wm_16 (wm_2 wm_h))), ?_⟩
      refine wm_c ⟨(wk_X7_shuffle_X7_shuffle_r2 _ (wm_16 (wm_2 (wm_1 wm_h)))), ?_⟩
      refine wm_c ⟨(wk_X7_shuffle_X7_shuffle_r2 _ (wm_16 (wm_4 wm_h))), ?_⟩
      exact wm_n
  · exact wk_X7_shuffle_X00
set_option maxRecDepth 20000 in
theorem gX7_shuffle_X0_mingle : GoodIn wsX7_shuffle (wsV RX7 122 RX0 yX0_mingle wsX0_mingle) := by
  refine goodIn_app (goodIn_sub ?_ ?_) ggX7_shuffle_X0_mingle
  · exact wm_c ⟨(wk_X7_shuffle_X7_shuffle_r1 _ (wm_4 (wm_2 wm_h))), wm_c ⟨(wk_X7_shuffle_X7_shuffle_r1 _ (wm_4 (wm_2 (wm_1 wm_h)))), wm_c ⟨(wk_X7_shuffle_X7_shuffle_r1 _ (wm_8 wm_h)), wm_c ⟨(wk_X7_shuffle_X7_shuffle_r1 _ (wm_8 (wm_1 wm_h))), wm_n⟩⟩⟩⟩
  · decide +kernel
theorem dX7_shuffle_0 : decode cX7_shuffle 0 = .ok (.iload_n 1, 1) := by decide +kernel
theorem dX7_shuffle_1 : decode cX7_shuffle 1 = .ok (.invokestatic 78, 3) := by decide +kernel
theorem dX7_shuffle_4 : decode cX7_shuffle 4 = .ok (.ifCond .ne 17, 3) := by decide +kernel
theorem dX7_shuffle_7 : decode cX7_shuffle 7 = .ok (.iload_n 2, 1) := by decide +kernel
theorem dX7_shuffle_8 : decode cX7_shuffle 8 = .ok (.invokestatic 78, 3) := by decide +kernel
theorem dX7_shuffle_11 : decode cX7_shuffle 11 = .ok (.ifCond .ne 10, 3) := by decide +kernel
theorem dX7_shuffle_14 : decode cX7_shuffle 14 = .ok (.iload_n 3, 1) := by decide +kernel
theorem dX7_shuffle_15 : decode cX7_shuffle 15 = .ok (.invokestatic 78, 3) := by decide +kernel
theorem dX7_shuffle_18 : decode cX7_shuffle 18 = .ok (.ifCond .eq 5, 3) := by decide +kernel
theorem dX7_shuffle_21 : decode cX7_shuffle 21 = .ok (.iconst (-1), 1) := by decide +kernel
theorem dX7_shuffle_22 : decode cX7_shuffle 22 = .ok (.ireturn, 1) := by decide +kernel
theorem dX7_shuffle_23 : decode cX7_shuffle 23 = .ok (.aload_n 0, 1) := by decide +kernel
theorem dX7_shuffle_24 : decode cX7_shuffle 24 = .ok (.getfield 40, 3) := by decide +kernel
theorem dX7_shuffle_27 : decode cX7_shuffle 27 = .ok (.aload_n 0, 1) := by decide +kernel
theorem dX7_shuffle_28 : decode cX7_shuffle 28 = .ok (.getfield 32, 3) := by decide +kernel
theorem dX7_shuffle_31 : decode cX7_shuffle 31 = .ok (.iload_n 1, 1) := by decide +kernel
theorem dX7_shuffle_32 : decode cX7_shuffle 32 = .ok (.aaload, 1) := by decide +kernel
theorem dX7_shuffle_33 : decode cX7_shuffle 33 = .ok (.aload_n 0, 1) := by decide +kernel
theorem dX7_shuffle_34 : decode cX7_shuffle 34 = .ok (.getfield 32, 3) := by decide +kernel
theorem dX7_shuffle_37 : decode cX7_shuffle 37 = .ok (.iload_n 2, 1) := by decide +kernel
theorem dX7_shuffle_38 : decode cX7_shuffle 38 = .ok (.aaload, 1) := by decide +kernel
theorem dX7_shuffle_39 : decode cX7_shuffle 39 = .ok (.aload_n 0, 1) := by decide +kernel
theorem dX7_shuffle_40 : decode cX7_shuffle 40 = .ok (.getfield 32, 3) := by decide +kernel
theorem dX7_shuffle_43 : decode cX7_shuffle 43 = .ok (.iload_n 3, 1) := by decide +kernel
theorem dX7_shuffle_44 : decode cX7_shuffle 44 = .ok (.aaload, 1) := by decide +kernel
theorem dX7_shuffle_45 : decode cX7_shuffle 45 = .ok (.invokevirtual 122, 3) := by decide +kernel
theorem dX7_shuffle_48 : decode cX7_shuffle 48 = .ok (.iconst 0, 1) := by decide +kernel
theorem dX7_shuffle_49 : decode cX7_shuffle 49 = .ok (.ireturn, 1) := by decide +kernel
set_option maxRecDepth 20000 in
theorem ggX7_turn_X7_noSum : GoodIn wsX7_turn wsX7_noSum := by
  refine goodIn_sub ?_ gd_X7_noSum
  unfold wsX7_noSum
  refine wm_c ⟨(wk_X7_turn_X7_turn_r1 _ (wm_4 (wm_1 wm_h))), ?_⟩
  exact wm_n
set_option maxRecDepth 20000 in
theorem gX7_turn_X7_noSum : GoodIn wsX7_turn (va_wsS RX7 78 yX7_noSum wsX7_noSum) := goodIn_app (goodIn_of _ (by decide +kernel)) ggX7_turn_X7_noSum
set_option maxRecDepth 20000 in
theorem ggX7_turn_X0_turnAbout : GoodIn wsX7_turn wsX0_turnAbout := by
  refine goodIn_sub ?_ gd_X0_turnAbout
  unfold wsX0_turnAbout
  refine wm_c ⟨(wk_X7_turn_X7_turn_r1 _ (wm_8 (wm_2 wm_h))), ?_⟩
  refine wm_a ⟨?_, ?_⟩
  · refine wm_a ⟨?_, ?_⟩
    · refine wm_a ⟨?_, ?_⟩
      · unfold wsX0_turnAbout_r1
        refine wm_c ⟨(wk_X7_turn_X7_turn_r1 _ (wm_8 (wm_2 (wm_1 wm_h)))), ?_⟩
        refine wm_c ⟨(wk_X7_turn_X7_turn_r1 _ (wm_8 (wm_4 wm_h))), ?_⟩
        refine wm_c ⟨(wk_X7_turn_X7_turn_r1 _ (wm_8 (wm_4 (wm_1 wm_h)))), ?_⟩
        refine wm_c ⟨(wk_X7_turn_X7_turn_r1 _ (wm_8 (wm_4 (wm_2 wm_h)))), ?_⟩
        refine wm_c ⟨(wk_X7_turn_X7_turn_r1 _ (wm_8 (wm_4 (wm_2 (wm_1 wm_h))))), ?_⟩
        refine wm_c ⟨(wk_X7_turn_X7_turn_r1 _ (wm_16 wm_h)), ?_⟩
        refine wm_c ⟨(wk_X7_turn_X7_turn_r1 _ (wm_16 (wm_1 wm_h))), ?_⟩
        refine wm_c ⟨(wk_X7_turn_X7_turn_r1 _ (wm_16 (wm_2 wm_h))), ?_⟩
        refine wm_c ⟨(wk_X7_turn_X7_turn_r1 _ (wm_16 (wm_2 (wm_1 wm_h)))), ?_⟩
        refine wm_c ⟨(wk_X7_turn_X7_turn_r1 _ (wm_16 (wm_4 wm_h))), ?_⟩
        refine wm_c ⟨(wk_X7_turn_X7_turn_r1 _ (wm_16 (wm_4 (wm_1 wm_h)))), ?_⟩
        refine wm_c ⟨(wk_X7_turn_X7_turn_r1 _ (wm_16 (wm_4 (wm_2 wm_h)))), ?_⟩
        refine wm_c ⟨(wk_X7_turn_X7_turn_r1 _ (wm_16 (wm_4 (wm_2 (wm_1 wm_h))))), ?_⟩
        refine wm_c ⟨(wk_X7_turn_X7_turn_r2 _ wm_h), ?_⟩
        refine wm_c ⟨(wk_X7_turn_X7_turn_r2 _ (wm_1 wm_h)), ?_⟩
        refine wm_c ⟨(wk_X7_turn_X7_turn_r2 _ (wm_2 wm_h)), ?_⟩
        refine wm_c ⟨(wk_X7_turn_X7_turn_r2 _ (wm_2 (wm_1 wm_h))), ?_⟩
        refine wm_c ⟨(wk_X7_turn_X7_turn_r2 _ (wm_4 wm_h)), ?_⟩
        refine wm_c ⟨(wk_X7_turn_X7_turn_r2 _ (wm_4 (wm_1 wm_h))), ?_⟩
        refine wm_c ⟨(wk_X7_turn_X7_turn_r1 _ (wm_8 (wm_1 wm_h))), ?_⟩
        refine wm_c ⟨(wk_X7_turn_X7_turn_r2 _ (wm_4 (wm_2 wm_h))), ?_⟩
        refine wm_c ⟨(wk_X7_turn_X7_turn_r2 _ (wm_4 (wm_2 (wm_1 wm_h)))), ?_⟩
        refine wm_c ⟨(wk_X7_turn_X7_turn_r2 _ (wm_8 wm_h)), ?_⟩
        refine wm_c ⟨(wk_X7_turn_X7_turn_r2 _ (wm_8 (wm_1 wm_h))), ?_⟩
        exact wm_n
      · unfold wsX0_turnAbout_r2
        refine wm_c ⟨(wk_X7_turn_X7_turn_r2 _ (wm_8 (wm_2 wm_h))), ?_⟩
        exact wm_n
    · exact wk_X7_turn_X00
  · exact wk_X7_turn_X60
set_option maxRecDepth 20000 in
theorem gX7_turn_X0_turnAbout : GoodIn wsX7_turn (wsV RX7 125 RX0 yX0_turnAbout wsX0_turnAbout) := by
  refine goodIn_app (goodIn_sub ?_ ?_) ggX7_turn_X0_turnAbout
  · exact wm_c ⟨(wk_X7_turn_X7_turn_r1 _ (wm_4 (wm_2 wm_h))), wm_c ⟨(wk_X7_turn_X7_turn_r1 _ (wm_4 (wm_2 (wm_1 wm_h)))), wm_c ⟨(wk_X7_turn_X7_turn_r1 _ (wm_8 wm_h)), wm_c ⟨(wk_X7_turn_X7_turn_r1 _ (wm_8 (wm_1 wm_h))), wm_n⟩⟩⟩⟩
  · decide +kernel
theorem dX7_turn_0 : decode cX7_turn 0 = .ok (.iload_n 1, 1) := by decide +kernel
theorem dX7_turn_1 : decode cX7_turn 1 = .ok (.invokestatic 78, 3) := by decide +kernel
theorem dX7_turn_4 : decode cX7_turn 4 = .ok (.ifCond .ne 10, 3) := by decide +kernel
theorem dX7_turn_7 : decode cX7_turn 7 = .ok (.iload_n 2, 1) := by decide +kernel
theorem dX7_turn_8 : decode cX7_turn 8 = .ok (.invokestatic 78, 3) := by decide +kernel
theorem dX7_turn_11 : decode cX7_turn 11 = .ok (.ifCond .eq 5, 3) := by decide +kernel
theorem dX7_turn_14 : decode cX7_turn 14 = .ok (.iconst (-1), 1) := by decide +kernel
theorem dX7_turn_15 : decode cX7_turn 15 = .ok (.ireturn, 1) := by decide +kernel
theorem dX7_turn_16 : decode cX7_turn 16 = .ok (.aload_n 0, 1) := by decide +kernel
theorem dX7_turn_17 : decode cX7_turn 17 = .ok (.getfield 40, 3) := by decide +kernel
theorem dX7_turn_20 : decode cX7_turn 20 = .ok (.aload_n 0, 1) := by decide +kernel
theorem dX7_turn_21 : decode cX7_turn 21 = .ok (.getfield 32, 3) := by decide +kernel
theorem dX7_turn_24 : decode cX7_turn 24 = .ok (.iload_n 1, 1) := by decide +kernel
theorem dX7_turn_25 : decode cX7_turn 25 = .ok (.aaload, 1) := by decide +kernel
theorem dX7_turn_26 : decode cX7_turn 26 = .ok (.aload_n 0, 1) := by decide +kernel
theorem dX7_turn_27 : decode cX7_turn 27 = .ok (.getfield 32, 3) := by decide +kernel
theorem dX7_turn_30 : decode cX7_turn 30 = .ok (.iload_n 2, 1) := by decide +kernel
theorem dX7_turn_31 : decode cX7_turn 31 = .ok (.aaload, 1) := by decide +kernel
theorem dX7_turn_32 : decode cX7_turn 32 = .ok (.invokevirtual 125, 3) := by decide +kernel
theorem dX7_turn_35 : decode cX7_turn 35 = .ok (.iconst 0, 1) := by decide +kernel
theorem dX7_turn_36 : decode cX7_turn 36 = .ok (.ireturn, 1) := by decide +kernel
set_option maxRecDepth 20000 in
theorem ggX7_exp_X7_noSum : GoodIn wsX7_exp wsX7_noSum := by
  refine goodIn_sub ?_ gd_X7_noSum
  unfold wsX7_noSum
  refine wm_c ⟨(wk_X7_exp_X7_exp_r1 _ (wm_4 (wm_1 wm_h))), ?_⟩
  exact wm_n
set_option maxRecDepth 20000 in
theorem gX7_exp_X7_noSum : GoodIn wsX7_exp (va_wsS RX7 78 yX7_noSum wsX7_noSum) := goodIn_app (goodIn_of _ (by decide +kernel)) ggX7_exp_X7_noSum
set_option maxRecDepth 20000 in
theorem ggX7_exp_X0_raise : GoodIn wsX7_exp wsX0_raise := by
  refine goodIn_sub ?_ gd_X0_raise
  unfold wsX0_raise
  refine wm_c ⟨(wk_X7_exp_X7_exp_r1 _ (wm_8 (wm_2 wm_h))), ?_⟩
  refine wm_a ⟨?_, ?_⟩
  · refine wm_a ⟨?_, ?_⟩
    · unfold wsX0_raise_r1
      refine wm_c ⟨(wk_X7_exp_X7_exp_r1 _ (wm_8 (wm_2 (wm_1 wm_h)))), ?_⟩
      refine wm_c ⟨(wk_X7_exp_X7_exp_r1 _ (wm_8 (wm_4 wm_h))), ?_⟩
      refine wm_c ⟨(wk_X7_exp_X7_exp_r1 _ (wm_8 (wm_4 (wm_1 wm_h)))), ?_⟩
      refine wm_c ⟨(wk_X7_exp_X7_exp_r1 _ (wm_8 (wm_4 (wm_2 wm_h)))), ?_⟩
      refine wm_c ⟨(wk_X7_exp_X7_exp_r1 _ (wm_8 (wm_4 (wm_2 (wm_1 wm_h))))), ?_⟩
      refine wm_c ⟨(wk_X7_exp_X7_exp_r1 _ (wm_16 wm_h)), ?_⟩
      refine wm_c ⟨(wk_X7_exp_X7_exp_r1 _ (wm_16 (wm_1 wm_h))), ?_⟩
      refine wm_c ⟨(wk_X7_exp_X7_exp_r1 _ (wm_8 (wm_1 wm_h))), ?_⟩
      refine wm_c ⟨(wk_X7_exp_X7_exp_r1 _ (wm_16 (wm_2 wm_h))), ?_⟩
      refine wm_c ⟨(wk_X7_exp_X7_exp_r1 _ (wm_16 (wm_2 (wm_1 wm_h)))), ?_⟩
      refine wm_c ⟨(wk_X7_exp_X7_exp_r1 _ (wm_16 (wm_4 wm_h))), ?_⟩
      refine wm_c ⟨(wk_X7_exp_X7_exp_r1 _ (wm_16 (wm_4 (wm_1 wm_h)))), ?_⟩
      refine wm_c ⟨(wk_X7_exp_X7_exp_r1 _ (wm_16 (wm_4 (wm_2 wm_h)))), ?_⟩
      refine wm_c ⟨(wk_X7_exp_X7_exp_r1 _ (wm_16 (wm_4 (wm_2 (wm_1 wm_h))))), ?_⟩
      refine wm_c ⟨(wk_X7_exp_X7_exp_r2 _ wm_h), ?_⟩
      refine wm_c ⟨(wk_X7_exp_X7_exp_r2 _ (wm_1 wm_h)), ?_⟩
      refine wm_c ⟨(wk_X7_exp_X7_exp_r2 _ (wm_2 wm_h)), ?_⟩
      refine wm_c ⟨(wk_X7_exp_X7_exp_r2 _ (wm_2 (wm_1 wm_h))), ?_⟩
      refine wm_c ⟨(wk_X7_exp_X7_exp_r2 _ (wm_4 wm_h)), ?_⟩
      refine wm_c ⟨(wk_X7_exp_X7_exp_r2 _ (wm_4 (wm_1 wm_h))), ?_⟩
      refine wm_c ⟨(wk_X7_exp_X7_exp_r2 _ (wm_4 (wm_2 wm_h))), ?_⟩
      refine wm_c ⟨(wk_X7_exp_X7_exp_r2 _ (wm_4 (wm_2 (wm_1 wm_h)))), ?_⟩
      refine wm_c ⟨(wk_X7_exp_X7_exp_r2 _ (wm_8 wm_h)), ?_⟩
      refine wm_c ⟨(wk_X7_exp_X7_exp_r2 _ (wm_8 (wm_1 wm_h))), ?_⟩
      exact wm_n
    · unfold wsX0_raise_r2
      refine wm_c ⟨(wk_X7_exp_X7_exp_r2 _ (wm_8 (wm_2 wm_h))), ?_⟩
      refine wm_c ⟨(wk_X7_exp_X7_exp_r2 _ (wm_8 (wm_2 (wm_1 wm_h)))), ?_⟩
      refine wm_c ⟨(wk_X7_exp_X7_exp_r2 _ (wm_8 (wm_4 wm_h))), ?_⟩
      refine wm_c ⟨(wk_X7_exp_X7_exp_r2 _ (wm_8 (wm_4 (wm_1 wm_h)))), ?_⟩
      exact wm_n
  · exact wk_X7_exp_X00
set_option maxRecDepth 20000 in
theorem gX7_exp_X0_raise : GoodIn wsX7_exp (wsV RX7 129 RX0 yX0_raise wsX0_raise) := by
  refine goodIn_app (goodIn_sub ?_ ?_) ggX7_exp_X0_raise
  · exact wm_c ⟨(wk_X7_exp_X7_exp_r1 _ (wm_4 (wm_2 wm_h))), wm_c ⟨(wk_X7_exp_X7_exp_r1 _ (wm_4 (wm_2 (wm_1 wm_h)))), wm_c ⟨(wk_X7_exp_X7_exp_r1 _ (wm_8 wm_h)), wm_c ⟨(wk_X7_exp_X7_exp_r1 _ (wm_8 (wm_1 wm_h))), wm_n⟩⟩⟩⟩
  · decide +kernel
theorem dX7_exp_0 : decode cX7_exp 0 = .ok (.iload_n 1, 1) := by decide +kernel
theorem dX7_exp_1 : decode cX7_exp 1 = .ok (.invokestatic 78, 3) := by decide +kernel
theorem dX7_exp_4 : decode cX7_exp 4 = .ok (.ifCond .ne 10, 3) := by decide +kernel
theorem dX7_exp_7 : decode cX7_exp 7 = .ok (.iload_n 2, 1) := by decide +kernel
theorem dX7_exp_8 : decode cX7_exp 8 = .ok (.invokestatic 78, 3) := by decide +kernel
theorem dX7_exp_11 : decode cX7_exp 11 = .ok (.ifCond .eq 5, 3) := by decide +kernel
theorem dX7_exp_14 : decode cX7_exp 14 = .ok (.iconst (-1), 1) := by decide +kernel
theorem dX7_exp_15 : decode cX7_exp 15 = .ok (.ireturn, 1) := by decide +kernel
theorem dX7_exp_16 : decode cX7_exp 16 = .ok (.aload_n 0, 1) := by decide +kernel
theorem dX7_exp_17 : decode cX7_exp 17 = .ok (.getfield 32, 3) := by decide +kernel
theorem dX7_exp_20 : decode cX7_exp 20 = .ok (.iload_n 2, 1) := by decide +kernel
theorem dX7_exp_21 : decode cX7_exp 21 = .ok (.aaload, 1) := by decide +kernel
theorem dX7_exp_22 : decode cX7_exp 22 = .ok (.iconst 0, 1) := by decide +kernel
theorem dX7_exp_23 : decode cX7_exp 23 = .ok (.iaload, 1) := by decide +kernel
theorem dX7_exp_24 : decode cX7_exp 24 = .ok (.ifCond .eq 6, 3) := by decide +kernel
theorem dX7_exp_27 : decode cX7_exp 27 = .ok (.bipush (-3), 2) := by decide +kernel
theorem dX7_exp_29 : decode cX7_exp 29 = .ok (.ireturn, 1) := by decide +kernel
theorem dX7_exp_30 : decode cX7_exp 30 = .ok (.aload_n 0, 1) := by decide +kernel
theorem dX7_exp_31 : decode cX7_exp 31 = .ok (.getfield 40, 3) := by decide +kernel
theorem dX7_exp_34 : decode cX7_exp 34 = .ok (.aload_n 0, 1) := by decide +kernel
theorem dX7_exp_35 : decode cX7_exp 35 = .ok (.getfield 32, 3) := by decide +kernel
theorem dX7_exp_38 : decode cX7_exp 38 = .ok (.iload_n 1, 1) := by decide +kernel
theorem dX7_exp_39 : decode cX7_exp 39 = .ok (.aaload, 1) := by decide +kernel
theorem dX7_exp_40 : decode cX7_exp 40 = .ok (.aload_n 0, 1) := by decide +kernel
theorem dX7_exp_41 : decode cX7_exp 41 = .ok (.getfield 32, 3) := by decide +kernel
theorem dX7_exp_44 : decode cX7_exp 44 = .ok (.iload_n 2, 1) := by decide +kernel
theorem dX7_exp_45 : decode cX7_exp 45 = .ok (.aaload, 1) := by decide +kernel
theorem dX7_exp_46 : decode cX7_exp 46 = .ok (.invokevirtual 129, 3) := by decide +kernel
theorem dX7_exp_49 : decode cX7_exp 49 = .ok (.iconst 0, 1) := by decide +kernel
theorem dX7_exp_50 : decode cX7_exp 50 = .ok (.ireturn, 1) := by decide +kernel
set_option maxRecDepth 20000 in
theorem ggX7_log_X7_noSum : GoodIn wsX7_log wsX7_noSum := by
  refine goodIn_sub ?_ gd_X7_noSum
  unfold wsX7_noSum
  refine wm_c ⟨(wk_X7_log_X7_log_r1 _ (wm_4 (wm_1 wm_h))), ?_⟩
  exact wm_n
set_option maxRecDepth 20000 in
theorem gX7_log_X7_noSum : GoodIn wsX7_log (va_wsS RX7 78 yX7_noSum wsX7_noSum) := goodIn_app (goodIn_of _ (by decide +kernel)) ggX7_log_X7_noSum
set_option maxRecDepth 20000 in
theorem ggX7_log_X0_unraise : GoodIn wsX7_log wsX0_unraise := by
  refine goodIn_sub ?_ gd_X0_unraise
  unfold wsX0_unraise
  refine wm_c ⟨(wk_X7_log_X7_log_r1 _ (wm_8 (wm_2 wm_h))), ?_⟩
  refine wm_a ⟨?_, ?_⟩
  · refine wm_a ⟨?_, ?_⟩
    · unfold wsX0_unraise_r1
      refine wm_c ⟨(wk_X7_log_X7_log_r1 _ (wm_8 (wm_2 (wm_1 wm_h)))), ?_⟩
      refine wm_c ⟨(wk_X7_log_X7_log_r1 _ (wm_8 (wm_4 wm_h))), ?_⟩
      refine wm_c ⟨(wk_X7_log_X7_log_r1 _ (wm_8 (wm_4 (wm_1 wm_h)))), ?_⟩
      refine wm_c ⟨(wk_X7_log_X7_log_r1 _ (wm_8 (wm_4 (wm_2 wm_h)))), ?_⟩
      refine wm_c ⟨(wk_X7_log_X7_log_r1 _ (wm_8 (wm_4 (wm_2 (wm_1 wm_h))))), ?_⟩
      refine wm_c ⟨(wk_X7_log_X7_log_r1 _ (wm_16 wm_h)), ?_⟩
      refine wm_c ⟨(wk_X7_log_X7_log_r1 _ (wm_16 (wm_1 wm_h))), ?_⟩
      refine wm_c ⟨(wk_X7_log_X7_log_r1 _ (wm_16 (wm_2 wm_h))), ?_⟩
      refine wm_c ⟨(wk_X7_log_X7_log_r1 _ (wm_16 (wm_2 (wm_1 wm_h)))), ?_⟩
      refine wm_c ⟨(wk_X7_log_X7_log_r1 _ (wm_8 (wm_1 wm_h))), ?_⟩
      refine wm_c ⟨(wk_X7_log_X7_log_r1 _ (wm_16 (wm_4 wm_h))), ?_⟩
      refine wm_c ⟨(wk_X7_log_X7_log_r1 _ (wm_16 (wm_4 (wm_1 wm_h)))), ?_⟩
      refine wm_c ⟨(wk_X7_log_X7_log_r1 _ (wm_16 (wm_4 (wm_2 wm_h)))), ?_⟩
      refine wm_c ⟨(wk_X7_log_X7_log_r1 _ (wm_16 (wm_4 (wm_2 (wm_1 wm_h))))), ?_⟩
      refine wm_c ⟨(wk_X7_log_X7_log_r2 _ wm_h), ?_⟩
      refine wm_c ⟨(wk_X7_log_X7_log_r2 _ (wm_1 wm_h)), ?_⟩
      refine wm_c ⟨(wk_X7_log_X7_log_r2 _ (wm_2 wm_h)), ?_⟩
      refine wm_c ⟨(wk_X7_log_X7_log_r2 _ (wm_2 (wm_1 wm_h))), ?_⟩
      refine wm_c ⟨(wk_X7_log_X7_log_r2 _ (wm_4 wm_h)), ?_⟩
      refine wm_c ⟨(wk_X7_log_X7_log_r2 _ (wm_4 (wm_1 wm_h))), ?_⟩
      refine wm_c ⟨(wk_X7_log_X7_log_r2 _ (wm_4 (wm_2 wm_h))), ?_⟩
      refine wm_c ⟨(wk_X7_log_X7_log_r2 _ (wm_4 (wm_2 (wm_1 wm_h)))), ?_⟩
      refine wm_c ⟨(wk_X7_log_X7_log_r2 _ (wm_8 wm_h)), ?_⟩
      refine wm_c ⟨(wk_X7_log_X7_log_r2 _ (wm_8 (wm_1 wm_h))), ?_⟩
      exact wm_n
    · unfold wsX0_unraise_r2
      refine wm_c ⟨(wk_X7_log_X7_log_r2 _ (wm_8 (wm_2 wm_h))), ?_⟩
      refine wm_c ⟨(wk_X7_log_X7_log_r2 _ (wm_8 (wm_2 (wm_1 wm_h)))), ?_⟩
      refine wm_c ⟨(wk_X7_log_X7_log_r2 _ (wm_8 (wm_4 wm_h))), ?_⟩
      refine wm_c ⟨(wk_X7_log_X7_log_r2 _ (wm_8 (wm_4 (wm_1 wm_h)))), ?_⟩
      refine wm_c ⟨(wk_X7_log_X7_log_r2 _ (wm_8 (wm_4 (wm_2 wm_h)))), ?_⟩
      refine wm_c ⟨(wk_X7_log_X7_log_r2 _ (wm_8 (wm_4 (wm_2 (wm_1 wm_h))))), ?_⟩
      exact wm_n
  · exact wk_X7_log_X00
set_option maxRecDepth 20000 in
theorem gX7_log_X0_unraise : GoodIn wsX7_log (wsV RX7 132 RX0 yX0_unraise wsX0_unraise) := by
  refine goodIn_app (goodIn_sub ?_ ?_) ggX7_log_X0_unraise
  · exact wm_c ⟨(wk_X7_log_X7_log_r1 _ (wm_4 (wm_2 wm_h))), wm_c ⟨(wk_X7_log_X7_log_r1 _ (wm_4 (wm_2 (wm_1 wm_h)))), wm_c ⟨(wk_X7_log_X7_log_r1 _ (wm_8 wm_h)), wm_c ⟨(wk_X7_log_X7_log_r1 _ (wm_8 (wm_1 wm_h))), wm_n⟩⟩⟩⟩
  · decide +kernel
theorem dX7_log_0 : decode cX7_log 0 = .ok (.iload_n 1, 1) := by decide +kernel
theorem dX7_log_1 : decode cX7_log 1 = .ok (.invokestatic 78, 3) := by decide +kernel
theorem dX7_log_4 : decode cX7_log 4 = .ok (.ifCond .ne 10, 3) := by decide +kernel
theorem dX7_log_7 : decode cX7_log 7 = .ok (.iload_n 2, 1) := by decide +kernel
theorem dX7_log_8 : decode cX7_log 8 = .ok (.invokestatic 78, 3) := by decide +kernel
theorem dX7_log_11 : decode cX7_log 11 = .ok (.ifCond .eq 5, 3) := by decide +kernel
theorem dX7_log_14 : decode cX7_log 14 = .ok (.iconst (-1), 1) := by decide +kernel
theorem dX7_log_15 : decode cX7_log 15 = .ok (.ireturn, 1) := by decide +kernel
theorem dX7_log_16 : decode cX7_log 16 = .ok (.aload_n 0, 1) := by decide +kernel
theorem dX7_log_17 : decode cX7_log 17 = .ok (.getfield 32, 3) := by decide +kernel
theorem dX7_log_20 : decode cX7_log 20 = .ok (.iload_n 2, 1) := by decide +kernel
theorem dX7_log_21 : decode cX7_log 21 = .ok (.aaload, 1) := by decide +kernel
theorem dX7_log_22 : decode cX7_log 22 = .ok (.iconst 0, 1) := by decide +kernel
theorem dX7_log_23 : decode cX7_log 23 = .ok (.iaload, 1) := by decide +kernel
theorem dX7_log_24 : decode cX7_log 24 = .ok (.iconst 1, 1) := by decide +kernel
theorem dX7_log_25 : decode cX7_log 25 = .ok (.if_icmp .eq 6, 3) := by decide +kernel
theorem dX7_log_28 : decode cX7_log 28 = .ok (.bipush (-3), 2) := by decide +kernel
theorem dX7_log_30 : decode cX7_log 30 = .ok (.ireturn, 1) := by decide +kernel
theorem dX7_log_31 : decode cX7_log 31 = .ok (.aload_n 0, 1) := by decide +kernel
theorem dX7_log_32 : decode cX7_log 32 = .ok (.getfield 40, 3) := by decide +kernel
theorem dX7_log_35 : decode cX7_log 35 = .ok (.aload_n 0, 1) := by decide +kernel
theorem dX7_log_36 : decode cX7_log 36 = .ok (.getfield 32, 3) := by decide +kernel
theorem dX7_log_39 : decode cX7_log 39 = .ok (.iload_n 1, 1) := by decide +kernel
theorem dX7_log_40 : decode cX7_log 40 = .ok (.aaload, 1) := by decide +kernel
theorem dX7_log_41 : decode cX7_log 41 = .ok (.aload_n 0, 1) := by decide +kernel
theorem dX7_log_42 : decode cX7_log 42 = .ok (.getfield 32, 3) := by decide +kernel
theorem dX7_log_45 : decode cX7_log 45 = .ok (.iload_n 2, 1) := by decide +kernel
theorem dX7_log_46 : decode cX7_log 46 = .ok (.aaload, 1) := by decide +kernel
theorem dX7_log_47 : decode cX7_log 47 = .ok (.invokevirtual 132, 3) := by decide +kernel
theorem dX7_log_50 : decode cX7_log 50 = .ok (.iconst 0, 1) := by decide +kernel
theorem dX7_log_51 : decode cX7_log 51 = .ok (.ireturn, 1) := by decide +kernel
set_option maxRecDepth 20000 in
theorem ggX7_inverse_X7_noSum : GoodIn wsX7_inverse wsX7_noSum := by
  refine goodIn_sub ?_ gd_X7_noSum
  unfold wsX7_noSum
  refine wm_c ⟨(wk_X7_inverse_X7_inverse_r1 _ (wm_4 (wm_1 wm_h))), ?_⟩
  exact wm_n
set_option maxRecDepth 20000 in
theorem gX7_inverse_X7_noSum : GoodIn wsX7_inverse (va_wsS RX7 78 yX7_noSum wsX7_noSum) := goodIn_app (goodIn_of _ (by decide +kernel)) ggX7_inverse_X7_noSum
set_option maxRecDepth 20000 in
theorem ggX7_inverse_X0_invert : GoodIn wsX7_inverse wsX0_invert := by
  refine goodIn_sub ?_ gd_X0_invert
  unfold wsX0_invert
  refine wm_c ⟨(wk_X7_inverse_X7_inverse_r1 _ (wm_8 (wm_2 wm_h))), ?_⟩
  refine wm_a ⟨?_, ?_⟩
  · refine wm_a ⟨?_, ?_⟩
    · unfold wsX0_invert_r1
      refine wm_c ⟨(wk_X7_inverse_X7_inverse_r1 _ (wm_8 (wm_2 (wm_1 wm_h)))), ?_⟩
      refine wm_c ⟨(wk_X7_inverse_X7_inverse_r1 _ (wm_8 (wm_4 wm_h))), ?_⟩
      refine wm_c ⟨(wk_X7_inverse_X7_inverse_r1 _ (wm_8 (wm_4 (wm_1 wm_h)))), ?_⟩
      refine wm_c ⟨(wk_X7_inverse_X7_inverse_r1 _ (wm_8 (wm_4 (wm_2 wm_h)))), ?_⟩
      refine wm_c ⟨(wk_X7_inverse_X7_inverse_r1 _ (wm_8 (wm_4 (wm_2 (wm_1 wm_h))))), ?_⟩
      refine wm_c ⟨(wk_X7_inverse_X7_inverse_r1 _ (wm_16 wm_h)), ?_⟩
      refine wm_c ⟨(wk_X7_inverse_X7_inverse_r1 _ (wm_16 (wm_1 wm_h))), ?_⟩
      refine wm_c ⟨(wk_X7_inverse_X7_inverse_r1 _ (wm_16 (wm_2 wm_h))), ?_⟩
      refine wm_c ⟨(wk_X7_inverse_X7_inverse_r1 _ (wm_8 (wm_1 wm_h))), ?_⟩
      refine wm_c ⟨(wk_X7_inverse_X7_inverse_r1 _ (wm_16 (wm_2 (wm_1 wm_h)))), ?_⟩
      refine wm_c ⟨(wk_X7_inverse_X7_inverse_r1 _ (wm_16 (wm_4 wm_h))), ?_⟩
      refine wm_c ⟨(wk_X7_inverse_X7_inverse_r1 _ (wm_16 (wm_4 (wm_1 wm_h)))), ?_⟩
      refine wm_c ⟨(wk_X7_inverse_X7_inverse_r1 _ (wm_16 (wm_4 (wm_2 wm_h)))), ?_⟩
      refine wm_c ⟨(wk_X7_inverse_X7_inverse_r1 _ (wm_16 (wm_4 (wm_2 (wm_1 wm_h))))), ?_⟩
      refine wm_c ⟨(wk_X7_inverse_X7_inverse_r2 _ wm_h), ?_⟩
      refine wm_c ⟨(wk_X7_inverse_X7_inverse_r2 _ (wm_1 wm_h)), ?_⟩
      refine wm_c ⟨(wk_X7_inverse_X7_inverse_r2 _ (wm_2 wm_h)), ?_⟩
      refine wm_c ⟨(wk_X7_inverse_X7_inverse_r2 _ (wm_2 (wm_1 wm_h))), ?_⟩
      refine wm_c ⟨(wk_X7_inverse_X7_inverse_r2 _ (wm_4 wm_h)), ?_⟩
      refine wm_c ⟨(wk_X7_inverse_X7_inverse_r2 _ (wm_4 (wm_1 wm_h))), ?_⟩
      refine wm_c ⟨(wk_X7_inverse_X7_inverse_r2 _ (wm_4 (wm_2 wm_h))), ?_⟩
      refine wm_c ⟨(wk_X7_inverse_X7_inverse_r2 _ (wm_4 (wm_2 (wm_1 wm_h)))), ?_⟩
      refine wm_c ⟨(wk_X7_inverse_X7_inverse_r2 _ (wm_8 wm_h)), ?_⟩
      refine wm_c ⟨(wk_X7_inverse_X7_inverse_r2 _ (wm_8 (wm_1 wm_h))), ?_⟩
      exact wm_n
    · unfold wsX0_invert_r2
      refine wm_c ⟨(wk_X7_inverse_X7_inverse_r2 _ (wm_8 (wm_2 wm_h))), ?_⟩
      refine wm_c ⟨(wk_X7_inverse_X7_inverse_r2 _ (wm_8 (wm_2 (wm_1 wm_h)))), ?_⟩
      refine wm_c ⟨(wk_X7_inverse_X7_inverse_r2 _ (wm_8 (wm_4 wm_h))), ?_⟩
      refine wm_c ⟨(wk_X7_inverse_X7_inverse_r2 _ (wm_8 (wm_4 (wm_1 wm_h)))), ?_⟩
      refine wm_c ⟨(wk_X7_inverse_X7_inverse_r2 _ (wm_8 (wm_4 (wm_2 wm_h)))), ?_⟩
      exact wm_n
  · exact wk_X7_inverse_X00
set_option maxRecDepth 20000 in
theorem gX7_inverse_X0_invert : GoodIn wsX7_inverse (wsV RX7 135 RX0 yX0_invert wsX0_invert) := by
  refine goodIn_app (goodIn_sub ?_ ?_) ggX7_inverse_X0_invert
  · exact wm_c ⟨(wk_X7_inverse_X7_inverse_r1 _ (wm_4 (wm_2 wm_h))), wm_c ⟨(wk_X7_inverse_X7_inverse_r1 _ (wm_4 (wm_2 (wm_1 wm_h)))), wm_c ⟨(wk_X7_inverse_X7_inverse_r1 _ (wm_8 wm_h)), wm_c ⟨(wk_X7_inverse_X7_inverse_r1 _ (wm_8 (wm_1 wm_h))), wm_n⟩⟩⟩⟩
  · decide +kernel
theorem dX7_inverse_0 : decode cX7_inverse 0 = .ok (.iload_n 1, 1) := by decide +kernel
theorem dX7_inverse_1 : decode cX7_inverse 1 = .ok (.invokestatic 78, 3) := by decide +kernel
theorem dX7_inverse_4 : decode cX7_inverse 4 = .ok (.ifCond .ne 10, 3) := by decide +kernel
theorem dX7_inverse_7 : decode cX7_inverse 7 = .ok (.iload_n 2, 1) := by decide +kernel
theorem dX7_inverse_8 : decode cX7_inverse 8 = .ok (.invokestatic 78, 3) := by decide +kernel
theorem dX7_inverse_11 : decode cX7_inverse 11 = .ok (.ifCond .eq 5, 3) := by decide +kernel
theorem dX7_inverse_14 : decode cX7_inverse 14 = .ok (.iconst (-1), 1) := by decide +kernel
theorem dX7_inverse_15 : decode cX7_inverse 15 = .ok (.ireturn, 1) := by decide +kernel
theorem dX7_inverse_16 : decode cX7_inverse 16 = .ok (.aload_n 0, 1) := by decide +kernel
theorem dX7_inverse_17 : decode cX7_inverse 17 = .ok (.getfield 32, 3) := by decide +kernel
theorem dX7_inverse_20 : decode cX7_inverse 20 = .ok (.iload_n 2, 1) := by decide +kernel
theorem dX7_inverse_21 : decode cX7_inverse 21 = .ok (.aaload, 1) := by decide +kernel
theorem dX7_inverse_22 : decode cX7_inverse 22 = .ok (.iconst 0, 1) := by decide +kernel
theorem dX7_inverse_23 : decode cX7_inverse 23 = .ok (.iaload, 1) := by decide +kernel
theorem dX7_inverse_24 : decode cX7_inverse 24 = .ok (.iconst 1, 1) := by decide +kernel
theorem dX7_inverse_25 : decode cX7_inverse 25 = .ok (.if_icmp .eq 6, 3) := by decide +kernel
theorem dX7_inverse_28 : decode cX7_inverse 28 = .ok (.bipush (-3), 2) := by decide +kernel
theorem dX7_inverse_30 : decode cX7_inverse 30 = .ok (.ireturn, 1) := by decide +kernel
theorem dX7_inverse_31 : decode cX7_inverse 31 = .ok (.aload_n 0, 1) := by decide +kernel
theorem dX7_inverse_32 : decode cX7_inverse 32 = .ok (.getfield 40, 3) := by decide +kernel
theorem dX7_inverse_35 : decode cX7_inverse 35 = .ok (.aload_n 0, 1) := by decide +kernel
theorem dX7_inverse_36 : decode cX7_inverse 36 = .ok (.getfield 32, 3) := by decide +kernel
theorem dX7_inverse_39 : decode cX7_inverse 39 = .ok (.iload_n 1, 1) := by decide +kernel
theorem dX7_inverse_40 : decode cX7_inverse 40 = .ok (.aaload, 1) := by decide +kernel
theorem dX7_inverse_41 : decode cX7_inverse 41 = .ok (.aload_n 0, 1) := by decide +kernel
theorem dX7_inverse_42 : decode cX7_inverse 42 = .ok (.getfield 32, 3) := by decide +kernel
theorem dX7_inverse_45 : decode cX7_inverse 45 = .ok (.iload_n 2, 1) := by decide +kernel
theorem dX7_inverse_46 : decode cX7_inverse 46 = .ok (.aaload, 1) := by decide +kernel
theorem dX7_inverse_47 : decode cX7_inverse 47 = .ok (.invokevirtual 135, 3) := by decide +kernel
theorem dX7_inverse_50 : decode cX7_inverse 50 = .ok (.iconst 0, 1) := by decide +kernel
theorem dX7_inverse_51 : decode cX7_inverse 51 = .ok (.ireturn, 1) := by decide +kernel
set_option maxRecDepth 20000 in
theorem ggX7_group_X7_noSum : GoodIn wsX7_group wsX7_noSum := by
  refine goodIn_sub ?_ gd_X7_noSum
  unfold wsX7_noSum
  refine wm_c ⟨(wk_X7_group_X7_group_r1 _ (wm_4 (wm_1 wm_h))), ?_⟩
  exact wm_n
set_option maxRecDepth 20000 in
theorem gX7_group_X7_noSum : GoodIn wsX7_group (va_wsS RX7 78 yX7_noSum wsX7_noSum) := goodIn_app (goodIn_of _ (by decide +kernel)) ggX7_group_X7_noSum
set_option maxRecDepth 20000 in
theorem ggX7_group_X0_compose : GoodIn wsX7_group wsX0_compose := by
  refine goodIn_sub ?_ gd_X0_compose
  unfold wsX0_compose
  refine wm_c ⟨(wk_X7_group_X7_group_r1 _ (wm_8 (wm_2 wm_h))), ?_⟩
  refine wm_a ⟨?_, ?_⟩
  · refine wm_a ⟨?_, ?_⟩
    · unfold wsX0_compose_r1
      refine wm_c ⟨(wk_X7_group_X7_group_r1 _ (wm_8 (wm_2 (wm_1 wm_h)))), ?_⟩
      refine wm_c ⟨(wk_X7_group_X7_group_r1 _ (wm_8 (wm_4 wm_h))), ?_⟩
      refine wm_c ⟨(wk_X7_group_X7_group_r1 _ (wm_8 (wm_4 (wm_1 wm_h)))), ?_⟩
      refine wm_c ⟨(wk_X7_group_X7_group_r1 _ (wm_8 (wm_4 (wm_2 wm_h)))), ?_⟩
      refine wm_c ⟨(wk_X7_group_X7_group_r1 _ (wm_8 (wm_1 wm_h))), ?_⟩
      refine wm_c ⟨(wk_X7_group_X7_group_r1 _ (wm_8 (wm_4 (wm_2 (wm_1 wm_h))))), ?_⟩
      refine wm_c ⟨(wk_X7_group_X7_group_r1 _ (wm_16 wm_h)), ?_⟩
      refine wm_c ⟨(wk_X7_group_X7_group_r1 _ (wm_16 (wm_1 wm_h))), ?_⟩
      refine wm_c ⟨(wk_X7_group_X7_group_r1 _ (wm_16 (wm_2 wm_h))), ?_⟩
      refine wm_c ⟨(wk_X7_group_X7_group_r1 _ (wm_16 (wm_2 (wm_1 wm_h)))), ?_⟩
      refine wm_c ⟨(wk_X7_group_X7_group_r1 _ (wm_16 (wm_4 wm_h))), ?_⟩
      refine wm_c ⟨(wk_X7_group_X7_group_r1 _ (wm_16 (wm_4 (wm_1 wm_h)))), ?_⟩
      refine wm_c ⟨(wk_X7_group_X7_group_r1 _ (wm_16 (wm_4 (wm_2 wm_h)))), ?_⟩
      refine wm_c ⟨(wk_X7_group_X7_group_r1 _ (wm_16 (wm_4 (wm_2 (wm_1 wm_h))))), ?_⟩
      refine wm_c ⟨(wk_X7_group_X7_group_r2 _ wm_h), ?_⟩
      refine wm_c ⟨(wk_X7_group_X7_group_r2 _ (wm_1 wm_h)), ?_⟩
      refine wm_c ⟨(wk_X7_group_X7_group_r2 _ (wm_2 wm_h)), ?_⟩
      refine wm_c ⟨(wk_X7_group_X7_group_r2 _ (wm_2 (wm_1 wm_h))), ?_⟩
      refine wm_c ⟨(wk_X7_group_X7_group_r2 _ (wm_4 wm_h)), ?_⟩
      refine wm_c ⟨(wk_X7_group_X7_group_r2 _ (wm_4 (wm_1 wm_h))), ?_⟩
      refine wm_c ⟨(wk_X7_group_X7_group_r2 _ (wm_4 (wm_2 wm_h))), ?_⟩
      refine wm_c ⟨(wk_X7_group_X7_group_r2 _ (wm_4 (wm_2 (wm_1 wm_h)))), ?_⟩
      refine wm_c ⟨(wk_X7_group_X7_group_r2 _ (wm_8 wm_h)), ?_⟩
      refine wm_c ⟨(wk_X7_group_X7_group_r2 _ (wm_8 (wm_1 wm_h))), ?_⟩
      exact wm_n
    · unfold wsX0_compose_r2
      refine wm_c ⟨(wk_X7_group_X7_group_r2 _ (wm_8 (wm_2 wm_h))), ?_⟩
      refine wm_c ⟨(wk_X7_group_X7_group_r2 _ (wm_8 (wm_2 (wm_1 wm_h)))), ?_⟩
      refine wm_c ⟨(wk_X7_group_X7_group_r2 _ (wm_8 (wm_4 wm_h))), ?_⟩
      refine wm_c ⟨(wk_X7_group_X7_group_r2 _ (wm_8 (wm_4 (wm_1 wm_h)))), ?_⟩
      refine wm_c ⟨(wk_X7_group_X7_group_r2 _ (wm_8 (wm_4 (wm_2 wm_h)))), ?_⟩
      refine wm_c ⟨(wk_X7_group_X7_group_r2 _ (wm_8 (wm_4 (wm_2 (wm_1 wm_h))))), ?_⟩
      refine wm_c ⟨(wk_X7_group_X7_group_r2 _ (wm_16 wm_h)), ?_⟩
      refine wm_c ⟨(wk_X7_group_X7_group_r2 _ (wm_16 (wm_1 wm_h))), ?_⟩
      refine wm_c ⟨(wk_X7_group_X7_group_r2 _ (wm_16 (wm_2 wm_h))), ?_⟩
      refine wm_c ⟨(wk_X7_group_X7_group_r2 _ (wm_16 (wm_2 (wm_1 wm_h)))), ?_⟩
      refine wm_c ⟨(wk_X7_group_X7_group_r2 _ (wm_16 (wm_4 wm_h))), ?_⟩
      refine wm_c ⟨(wk_X7_group_X7_group_r2 _ (wm_16 (wm_4 (wm_1 wm_h)))), ?_⟩
      refine wm_c ⟨(wk_X7_group_X7_group_r2 _ (wm_16 (wm_4 (wm_2 wm_h)))), ?_⟩
      refine wm_c ⟨(wk_X7_group_X7_group_r2 _ (wm_16 (wm_4 (wm_2 (wm_1 wm_h))))), ?_⟩
      refine wm_c ⟨(wk_X7_group_X7_group_r3 _ wm_h), ?_⟩
      refine wm_c ⟨(wk_X7_group_X7_group_r3 _ (wm_1 wm_h)), ?_⟩
      refine wm_c ⟨(wk_X7_group_X7_group_r3 _ (wm_2 wm_h)), ?_⟩
      refine wm_c ⟨(wk_X7_group_X7_group_r3 _ (wm_2 (wm_1 wm_h))), ?_⟩
      refine wm_c ⟨(wk_X7_group_X7_group_r3 _ (wm_4 wm_h)), ?_⟩
      refine wm_c ⟨(wk_X7_group_X7_group_r3 _ (wm_4 (wm_1 wm_h))), ?_⟩
      exact wm_n
  · exact wk_X7_group_X00
set_option maxRecDepth 20000 in
theorem gX7_group_X0_compose : GoodIn wsX7_group (wsV RX7 138 RX0 yX0_compose wsX0_compose) := by
  refine goodIn_app (goodIn_sub ?_ ?_) ggX7_group_X0_compose
  · exact wm_c ⟨(wk_X7_group_X7_group_r1 _ (wm_4 (wm_2 wm_h))), wm_c ⟨(wk_X7_group_X7_group_r1 _ (wm_4 (wm_2 (wm_1 wm_h)))), wm_c ⟨(wk_X7_group_X7_group_r1 _ (wm_8 wm_h)), wm_c ⟨(wk_X7_group_X7_group_r1 _ (wm_8 (wm_1 wm_h))), wm_n⟩⟩⟩⟩
  · decide +kernel
theorem dX7_group_0 : decode cX7_group 0 = .ok (.iload_n 1, 1) := by decide +kernel
theorem dX7_group_1 : decode cX7_group 1 = .ok (.invokestatic 78, 3) := by decide +kernel
theorem dX7_group_4 : decode cX7_group 4 = .ok (.ifCond .ne 17, 3) := by decide +kernel
theorem dX7_group_7 : decode cX7_group 7 = .ok (.iload_n 2, 1) := by decide +kernel
theorem dX7_group_8 : decode cX7_group 8 = .ok (.invokestatic 78, 3) := by decide +kernel
theorem dX7_group_11 : decode cX7_group 11 = .ok (.ifCond .ne 10, 3) := by decide +kernel
theorem dX7_group_14 : decode cX7_group 14 = .ok (.iload_n 3, 1) := by decide +kernel
theorem dX7_group_15 : decode cX7_group 15 = .ok (.invokestatic 78, 3) := by decide +kernel
theorem dX7_group_18 : decode cX7_group 18 = .ok (.ifCond .eq 5, 3) := by decide +kernel
theorem dX7_group_21 : decode cX7_group 21 = .ok (.iconst (-1), 1) := by decide +kernel
theorem dX7_group_22 : decode cX7_group 22 = .ok (.ireturn, 1) := by decide +kernel
theorem dX7_group_23 : decode cX7_group 23 = .ok (.aload_n 0, 1) := by decide +kernel
theorem dX7_group_24 : decode cX7_group 24 = .ok (.getfield 32, 3) := by decide +kernel
theorem dX7_group_27 : decode cX7_group 27 = .ok (.iload_n 2, 1) := by decide +kernel
theorem dX7_group_28 : decode cX7_group 28 = .ok (.aaload, 1) := by decide +kernel
theorem dX7_group_29 : decode cX7_group 29 = .ok (.iconst 0, 1) := by decide +kernel
theorem dX7_group_30 : decode cX7_group 30 = .ok (.iaload, 1) := by decide +kernel
theorem dX7_group_31 : decode cX7_group 31 = .ok (.ifCond .ne 14, 3) := by decide +kernel
theorem dX7_group_34 : decode cX7_group 34 = .ok (.aload_n 0, 1) := by decide +kernel
theorem dX7_group_35 : decode cX7_group 35 = .ok (.getfield 32, 3) := by decide +kernel
theorem dX7_group_38 : decode cX7_group 38 = .ok (.iload_n 3, 1) := by decide +kernel
theorem dX7_group_39 : decode cX7_group 39 = .ok (.aaload, 1) := by decide +kernel
theorem dX7_group_40 : decode cX7_group 40 = .ok (.iconst 0, 1) := by decide +kernel
theorem dX7_group_41 : decode cX7_group 41 = .ok (.iaload, 1) := by decide +kernel
theorem dX7_group_42 : decode cX7_group 42 = .ok (.ifCond .eq 6, 3) := by decide +kernel
theorem dX7_group_45 : decode cX7_group 45 = .ok (.bipush (-3), 2) := by decide +kernel
theorem dX7_group_47 : decode cX7_group 47 = .ok (.ireturn, 1) := by decide +kernel
theorem dX7_group_48 : decode cX7_group 48 = .ok (.aload_n 0, 1) := by decide +kernel
theorem dX7_group_49 : decode cX7_group 49 = .ok (.getfield 40, 3) := by decide +kernel
theorem dX7_group_52 : decode cX7_group 52 = .ok (.aload_n 0, 1) := by decide +kernel
theorem dX7_group_53 : decode cX7_group 53 = .ok (.getfield 32, 3) := by decide +kernel
theorem dX7_group_56 : decode cX7_group 56 = .ok (.iload_n 1, 1) := by decide +kernel
theorem dX7_group_57 : decode cX7_group 57 = .ok (.aaload, 1) := by decide +kernel
theorem dX7_group_58 : decode cX7_group 58 = .ok (.aload_n 0, 1) := by decide +kernel
theorem dX7_group_59 : decode cX7_group 59 = .ok (.getfield 32, 3) := by decide +kernel
theorem dX7_group_62 : decode cX7_group 62 = .ok (.iload_n 2, 1) := by decide +kernel
theorem dX7_group_63 : decode cX7_group 63 = .ok (.aaload, 1) := by decide +kernel
theorem dX7_group_64 : decode cX7_group 64 = .ok (.aload_n 0, 1) := by decide +kernel
theorem dX7_group_65 : decode cX7_group 65 = .ok (.getfield 32, 3) := by decide +kernel
theorem dX7_group_68 : decode cX7_group 68 = .ok (.iload_n 3, 1) := by decide +kernel
theorem dX7_group_69 : decode cX7_group 69 = .ok (.aaload, 1) := by decide +kernel
theorem dX7_group_70 : decode cX7_group 70 = .ok (.invokevirtual 138, 3) := by decide +kernel
theorem dX7_group_73 : decode cX7_group 73 = .ok (.iconst 0, 1) := by decide +kernel
theorem dX7_group_74 : decode cX7_group 74 = .ok (.ireturn, 1) := by decide +kernel
set_option maxRecDepth 20000 in
theorem ggX7_derive_X7_noSum : GoodIn wsX7_derive wsX7_noSum := by
  refine goodIn_sub ?_ gd_X7_noSum
  unfold wsX7_noSum
  refine wm_c ⟨(wk_X7_derive_X7_derive_r1 _ (wm_4 (wm_1 wm_h))), ?_⟩
  exact wm_n
set_option maxRecDepth 20000 in
theorem gX7_derive_X7_noSum : GoodIn wsX7_derive (va_wsS RX7 78 yX7_noSum wsX7_noSum) := goodIn_app (goodIn_of _ (by decide +kernel)) ggX7_derive_X7_noSum
set_option maxRecDepth 20000 in
theorem ggX7_derive_X7_noLetter : GoodIn wsX7_derive wsX7_noLetter := by
  refine goodIn_sub ?_ gd_X7_noLetter
  unfold wsX7_noLetter
  refine wm_c ⟨(wk_X7_derive_X7_derive_r1 _ (wm_8 (wm_1 wm_h))), ?_⟩
  refine wm_a ⟨?_, ?_⟩
  · refine wm_a ⟨?_, ?_⟩
    · refine wm_c ⟨(wk_X7_derive_X7_derive_r1 _ (wm_8 (wm_2 wm_h))), ?_⟩
      refine wm_c ⟨(wk_X7_derive_X7_derive_r1 _ (wm_8 (wm_2 (wm_1 wm_h)))), ?_⟩
      exact wm_n
    · exact wk_X7_derive_X70
  · exact wk_X7_derive_X60
set_option maxRecDepth 20000 in
theorem gX7_derive_X7_noLetter : GoodIn wsX7_derive (wsV RX7 141 RX7 yX7_noLetter wsX7_noLetter) := by
  refine goodIn_app (goodIn_sub ?_ ?_) ggX7_derive_X7_noLetter
  · exact wm_c ⟨(wk_X7_derive_X7_derive_r1 _ (wm_4 (wm_2 wm_h))), wm_c ⟨(wk_X7_derive_X7_derive_r1 _ (wm_4 (wm_2 (wm_1 wm_h)))), wm_c ⟨(wk_X7_derive_X7_derive_r1 _ (wm_8 wm_h)), wm_c ⟨(wk_X7_derive_X7_derive_r1 _ (wm_4 wm_h)), wm_n⟩⟩⟩⟩
  · decide +kernel
set_option maxRecDepth 20000 in
theorem ggX7_derive_X0_setInEach : GoodIn wsX7_derive wsX0_setInEach := by
  refine goodIn_sub ?_ gd_X0_setInEach
  unfold wsX0_setInEach
  refine wm_c ⟨(wk_X7_derive_X7_derive_r1 _ (wm_16 wm_h)), ?_⟩
  refine wm_a ⟨?_, ?_⟩
  · refine wm_a ⟨?_, ?_⟩
    · unfold wsX0_setInEach_r1
      refine wm_c ⟨(wk_X7_derive_X7_derive_r1 _ (wm_16 (wm_1 wm_h))), ?_⟩
      refine wm_c ⟨(wk_X7_derive_X7_derive_r1 _ (wm_16 (wm_2 wm_h))), ?_⟩
      refine wm_c ⟨(wk_X7_derive_X7_derive_r1 _ (wm_16 (wm_2 (wm_1 wm_h)))), ?_⟩
      refine wm_c ⟨(wk_X7_derive_X7_derive_r1 _ (wm_16 (wm_4 wm_h))), ?_⟩
      refine wm_c ⟨(wk_X7_derive_X7_derive_r1 _ (wm_16 (wm_4 (wm_1 wm_h)))), ?_⟩
      refine wm_c ⟨(wk_X7_derive_X7_derive_r1 _ (wm_16 (wm_4 (wm_2 wm_h)))), ?_⟩
      refine wm_c ⟨(wk_X7_derive_X7_derive_r1 _ (wm_16 (wm_4 (wm_2 (wm_1 wm_h))))), ?_⟩
      refine wm_c ⟨(wk_X7_derive_X7_derive_r2 _ wm_h), ?_⟩
      refine wm_c ⟨(wk_X7_derive_X7_derive_r2 _ (wm_1 wm_h)), ?_⟩
      refine wm_c ⟨(wk_X7_derive_X7_derive_r2 _ (wm_2 wm_h)), ?_⟩
      refine wm_c ⟨(wk_X7_derive_X7_derive_r2 _ (wm_2 (wm_1 wm_h))), ?_⟩
      refine wm_c ⟨(wk_X7_derive_X7_derive_r2 _ (wm_4 wm_h)), ?_⟩
      refine wm_c ⟨(wk_X7_derive_X7_derive_r1 _ (wm_8 (wm_4 (wm_2 (wm_1 wm_h))))), ?_⟩
      refine wm_c ⟨(wk_X7_derive_X7_derive_r2 _ (wm_4 (wm_1 wm_h))), ?_⟩
      refine wm_c ⟨(wk_X7_derive_X7_derive_r2 _ (wm_4 (wm_2 wm_h))), ?_⟩
      refine wm_c ⟨(wk_X7_derive_X7_derive_r2 _ (wm_4 (wm_2 (wm_1 wm_h)))), ?_⟩
      refine wm_c ⟨(wk_X7_derive_X7_derive_r2 _ (wm_8 wm_h)), ?_⟩
      refine wm_c ⟨(wk_X7_derive_X7_derive_r2 _ (wm_8 (wm_1 wm_h))), ?_⟩
      refine wm_c ⟨(wk_X7_derive_X7_derive_r2 _ (wm_8 (wm_2 wm_h))), ?_⟩
      refine wm_c ⟨(wk_X7_derive_X7_derive_r2 _ (wm_8 (wm_2 (wm_1 wm_h)))), ?_⟩
      refine wm_c ⟨(wk_X7_derive_X7_derive_r2 _ (wm_8 (wm_4 wm_h))), ?_⟩
      refine wm_c ⟨(wk_X7_derive_X7_derive_r2 _ (wm_8 (wm_4 (wm_1 wm_h)))), ?_⟩
      refine wm_c ⟨(wk_X7_derive_X7_derive_r2 _ (wm_8 (wm_4 (wm_2 wm_h)))), ?_⟩
      refine wm_c ⟨(wk_X7_derive_X7_derive_r2 _ (wm_8 (wm_4 (wm_2 (wm_1 wm_h))))), ?_⟩
      exact wm_n
    · unfold wsX0_setInEach_r2
      refine wm_c ⟨(wk_X7_derive_X7_derive_r2 _ (wm_16 wm_h)), ?_⟩
      refine wm_c ⟨(wk_X7_derive_X7_derive_r2 _ (wm_16 (wm_1 wm_h))), ?_⟩
      refine wm_c ⟨(wk_X7_derive_X7_derive_r2 _ (wm_16 (wm_2 wm_h))), ?_⟩
      exact wm_n
  · exact wk_X7_derive_X00
set_option maxRecDepth 20000 in
theorem gX7_derive_X0_setInEach : GoodIn wsX7_derive (wsV RX7 144 RX0 yX0_setInEach wsX0_setInEach) := by
  refine goodIn_app (goodIn_sub ?_ ?_) ggX7_derive_X0_setInEach
  · exact wm_c ⟨(wk_X7_derive_X7_derive_r1 _ (wm_8 (wm_4 wm_h))), wm_c ⟨(wk_X7_derive_X7_derive_r1 _ (wm_8 (wm_4 (wm_1 wm_h)))), wm_c ⟨(wk_X7_derive_X7_derive_r1 _ (wm_8 (wm_4 (wm_2 wm_h)))), wm_c ⟨(wk_X7_derive_X7_derive_r1 _ (wm_8 (wm_4 (wm_2 (wm_1 wm_h))))), wm_n⟩⟩⟩⟩
  · decide +kernel
theorem dX7_derive_0 : decode cX7_derive 0 = .ok (.iload_n 1, 1) := by decide +kernel
theorem dX7_derive_1 : decode cX7_derive 1 = .ok (.invokestatic 78, 3) := by decide +kernel
theorem dX7_derive_4 : decode cX7_derive 4 = .ok (.ifCond .ne 26, 3) := by decide +kernel
theorem dX7_derive_7 : decode cX7_derive 7 = .ok (.iload_n 2, 1) := by decide +kernel
theorem dX7_derive_8 : decode cX7_derive 8 = .ok (.invokestatic 78, 3) := by decide +kernel
theorem dX7_derive_11 : decode cX7_derive 11 = .ok (.ifCond .ne 19, 3) := by decide +kernel
theorem dX7_derive_14 : decode cX7_derive 14 = .ok (.iload 4, 2) := by decide +kernel
theorem dX7_derive_16 : decode cX7_derive 16 = .ok (.invokestatic 78, 3) := by decide +kernel
theorem dX7_derive_19 : decode cX7_derive 19 = .ok (.ifCond .ne 11, 3) := by decide +kernel
theorem dX7_derive_22 : decode cX7_derive 22 = .ok (.aload_n 0, 1) := by decide +kernel
theorem dX7_derive_23 : decode cX7_derive 23 = .ok (.iload_n 3, 1) := by decide +kernel
theorem dX7_derive_24 : decode cX7_derive 24 = .ok (.invokevirtual 141, 3) := by decide +kernel
theorem dX7_derive_27 : decode cX7_derive 27 = .ok (.ifCond .eq 5, 3) := by decide +kernel
theorem dX7_derive_30 : decode cX7_derive 30 = .ok (.iconst (-1), 1) := by decide +kernel
theorem dX7_derive_31 : decode cX7_derive 31 = .ok (.ireturn, 1) := by decide +kernel
theorem dX7_derive_32 : decode cX7_derive 32 = .ok (.aload_n 0, 1) := by decide +kernel
theorem dX7_derive_33 : decode cX7_derive 33 = .ok (.getfield 40, 3) := by decide +kernel
theorem dX7_derive_36 : decode cX7_derive 36 = .ok (.aload_n 0, 1) := by decide +kernel
theorem dX7_derive_37 : decode cX7_derive 37 = .ok (.getfield 32, 3) := by decide +kernel
theorem dX7_derive_40 : decode cX7_derive 40 = .ok (.iload_n 1, 1) := by decide +kernel
theorem dX7_derive_41 : decode cX7_derive 41 = .ok (.aaload, 1) := by decide +kernel
theorem dX7_derive_42 : decode cX7_derive 42 = .ok (.aload_n 0, 1) := by decide +kernel
theorem dX7_derive_43 : decode cX7_derive 43 = .ok (.getfield 32, 3) := by decide +kernel
theorem dX7_derive_46 : decode cX7_derive 46 = .ok (.iload_n 2, 1) := by decide +kernel
theorem dX7_derive_47 : decode cX7_derive 47 = .ok (.aaload, 1) := by decide +kernel
theorem dX7_derive_48 : decode cX7_derive 48 = .ok (.iload_n 3, 1) := by decide +kernel
theorem dX7_derive_49 : decode cX7_derive 49 = .ok (.aload_n 0, 1) := by decide +kernel
theorem dX7_derive_50 : decode cX7_derive 50 = .ok (.getfield 32, 3) := by decide +kernel
theorem dX7_derive_53 : decode cX7_derive 53 = .ok (.iload 4, 2) := by decide +kernel
theorem dX7_derive_55 : decode cX7_derive 55 = .ok (.aaload, 1) := by decide +kernel
theorem dX7_derive_56 : decode cX7_derive 56 = .ok (.invokevirtual 144, 3) := by decide +kernel
theorem dX7_derive_59 : decode cX7_derive 59 = .ok (.iconst 0, 1) := by decide +kernel
theorem dX7_derive_60 : decode cX7_derive 60 = .ok (.ireturn, 1) := by decide +kernel
set_option maxRecDepth 20000 in
theorem ggX7_replace_X7_noSum : GoodIn wsX7_replace wsX7_noSum := by
  refine goodIn_sub ?_ gd_X7_noSum
  unfold wsX7_noSum
  refine wm_c ⟨(wk_X7_replace_X7_replace_r1 _ (wm_4 (wm_1 wm_h))), ?_⟩
  exact wm_n
set_option maxRecDepth 20000 in
theorem gX7_replace_X7_noSum : GoodIn wsX7_replace (va_wsS RX7 78 yX7_noSum wsX7_noSum) := goodIn_app (goodIn_of _ (by decide +kernel)) ggX7_replace_X7_noSum
set_option maxRecDepth 20000 in
theorem ggX7_replace_X7_noLetter : GoodIn wsX7_replace wsX7_noLetter := by
  refine goodIn_sub ?_ gd_X7_noLetter
  unfold wsX7_noLetter
  refine wm_c ⟨(wk_X7_replace_X7_replace_r1 _ (wm_8 (wm_1 wm_h))), ?_⟩
  refine wm_a ⟨?_, ?_⟩
  · refine wm_a ⟨?_, ?_⟩
    · refine wm_c ⟨(wk_X7_replace_X7_replace_r1 _ (wm_8 (wm_2 wm_h))), ?_⟩
      refine wm_c ⟨(wk_X7_replace_X7_replace_r1 _ (wm_8 (wm_2 (wm_1 wm_h)))), ?_⟩
      exact wm_n
    · exact wk_X7_replace_X70
  · exact wk_X7_replace_X60
set_option maxRecDepth 20000 in
theorem gX7_replace_X7_noLetter : GoodIn wsX7_replace (wsV RX7 141 RX7 yX7_noLetter wsX7_noLetter) := by
  refine goodIn_app (goodIn_sub ?_ ?_) ggX7_replace_X7_noLetter
  · exact wm_c ⟨(wk_X7_replace_X7_replace_r1 _ (wm_4 (wm_2 wm_h))), wm_c ⟨(wk_X7_replace_X7_replace_r1 _ (wm_4 (wm_2 (wm_1 wm_h)))), wm_c ⟨(wk_X7_replace_X7_replace_r1 _ (wm_8 wm_h)), wm_c ⟨(wk_X7_replace_X7_replace_r1 _ (wm_4 wm_h)), wm_n⟩⟩⟩⟩
  · decide +kernel
set_option maxRecDepth 20000 in
theorem ggX7_replace_X0_setInAll : GoodIn wsX7_replace wsX0_setInAll := by
  refine goodIn_sub ?_ gd_X0_setInAll
  unfold wsX0_setInAll
  refine wm_c ⟨(wk_X7_replace_X7_replace_r1 _ (wm_16 wm_h)), ?_⟩
  refine wm_a ⟨?_, ?_⟩
  · refine wm_a ⟨?_, ?_⟩
    · unfold wsX0_setInAll_r1
      refine wm_c ⟨(wk_X7_replace_X7_replace_r1 _ (wm_16 (wm_1 wm_h))), ?_⟩
      refine wm_c ⟨(wk_X7_replace_X7_replace_r1 _ (wm_16 (wm_2 wm_h))), ?_⟩
      refine wm_c ⟨(wk_X7_replace_X7_replace_r1 _ (wm_16 (wm_2 (wm_1 wm_h)))), ?_⟩
      refine wm_c ⟨(wk_X7_replace_X7_replace_r1 _ (wm_16 (wm_4 wm_h))), ?_⟩
      refine wm_c ⟨(wk_X7_replace_X7_replace_r1 _ (wm_8 (wm_4 (wm_2 (wm_1 wm_h))))), ?_⟩
      refine wm_c ⟨(wk_X7_replace_X7_replace_r1 _ (wm_16 (wm_4 (wm_1 wm_h)))), ?_⟩
      refine wm_c ⟨(wk_X7_replace_X7_replace_r1 _ (wm_16 (wm_4 (wm_2 wm_h)))), ?_⟩
      refine wm_c ⟨(wk_X7_replace_X7_replace_r1 _ (wm_16 (wm_4 (wm_2 (wm_1 wm_h))))), ?_⟩
      refine wm_c ⟨(wk_X7_replace_X7_replace_r2 _ wm_h), ?_⟩
      refine wm_c ⟨(wk_X7_replace_X7_replace_r2 _ (wm_1 wm_h)), ?_⟩
      refine wm_c ⟨(wk_X7_replace_X7_replace_r2 _ (wm_2 wm_h)), ?_⟩
      refine wm_c ⟨(wk_X7_replace_X7_replace_r2 _ (wm_2 (wm_1 wm_h))), ?_⟩
      refine wm_c ⟨(wk_X7_replace_X7_replace_r2 _ (wm_4 wm_h)), ?_⟩
      refine wm_c ⟨(wk_X7_replace_X7_replace_r2 _ (wm_4 (wm_1 wm_h))), ?_⟩
      refine wm_c ⟨(wk_X7_replace_X7_replace_r2 _ (wm_4 (wm_2 wm_h))), ?_⟩
      refine wm_c ⟨(wk_X7_replace_X7_replace_r2 _ (wm_4 (wm_2 (wm_1 wm_h)))), ?_⟩
      refine wm_c ⟨(wk_X7_replace_X7_replace_r2 _ (wm_8 wm_h)), ?_⟩
      refine wm_c ⟨(wk_X7_replace_X7_replace_r2 _ (wm_8 (wm_1 wm_h))), ?_⟩
      refine wm_c ⟨(wk_X7_replace_X7_replace_r2 _ (wm_8 (wm_2 wm_h))), ?_⟩
      refine wm_c ⟨(wk_X7_replace_X7_replace_r2 _ (wm_8 (wm_2 (wm_1 wm_h)))), ?_⟩
      refine wm_c ⟨(wk_X7_replace_X7_replace_r2 _ (wm_8 (wm_4 wm_h))), ?_⟩
      refine wm_c ⟨(wk_X7_replace_X7_replace_r2 _ (wm_8 (wm_4 (wm_1 wm_h)))), ?_⟩
      refine wm_c ⟨(wk_X7_replace_X7_replace_r2 _ (wm_8 (wm_4 (wm_2 wm_h)))), ?_⟩
      refine wm_c ⟨(wk_X7_replace_X7_replace_r2 _ (wm_8 (wm_4 (wm_2 (wm_1 wm_h))))), ?_⟩
      exact wm_n
    · unfold wsX0_setInAll_r2
      refine wm_c ⟨(wk_X7_replace_X7_replace_r2 _ (wm_16 wm_h)), ?_⟩
      refine wm_c ⟨(wk_X7_replace_X7_replace_r2 _ (wm_16 (wm_1 wm_h))), ?_⟩
      refine wm_c ⟨(wk_X7_replace_X7_replace_r2 _ (wm_16 (wm_2 wm_h))), ?_⟩
      refine wm_c ⟨(wk_X7_replace_X7_replace_r2 _ (wm_16 (wm_2 (wm_1 wm_h)))), ?_⟩
      refine wm_c ⟨(wk_X7_replace_X7_replace_r2 _ (wm_16 (wm_4 wm_h))), ?_⟩
      refine wm_c ⟨(wk_X7_replace_X7_replace_r2 _ (wm_16 (wm_4 (wm_1 wm_h)))), ?_⟩
      refine wm_c ⟨(wk_X7_replace_X7_replace_r2 _ (wm_16 (wm_4 (wm_2 wm_h)))), ?_⟩
      refine wm_c ⟨(wk_X7_replace_X7_replace_r2 _ (wm_16 (wm_4 (wm_2 (wm_1 wm_h))))), ?_⟩
      refine wm_c ⟨(wk_X7_replace_X7_replace_r3 _ wm_h), ?_⟩
      refine wm_c ⟨(wk_X7_replace_X7_replace_r3 _ (wm_1 wm_h)), ?_⟩
      refine wm_c ⟨(wk_X7_replace_X7_replace_r3 _ (wm_2 wm_h)), ?_⟩
      refine wm_c ⟨(wk_X7_replace_X7_replace_r3 _ (wm_2 (wm_1 wm_h))), ?_⟩
      refine wm_c ⟨(wk_X7_replace_X7_replace_r3 _ (wm_4 wm_h)), ?_⟩
      refine wm_c ⟨(wk_X7_replace_X7_replace_r3 _ (wm_4 (wm_1 wm_h))), ?_⟩
      refine wm_c ⟨(wk_X7_replace_X7_replace_r3 _ (wm_4 (wm_2 wm_h))), ?_⟩
      refine wm_c ⟨(wk_X7_replace_X7_replace_r3 _ (wm_4 (wm_2 (wm_1 wm_h)))), ?_⟩
      refine wm_c ⟨(wk_X7_replace_X7_replace_r3 _ (wm_8 wm_h)), ?_⟩
      refine wm_c ⟨(wk_X7_replace_X7_replace_r3 _ (wm_8 (wm_1 wm_h))), ?_⟩
      refine wm_c ⟨(wk_X7_replace_X7_replace_r3 _ (wm_8 (wm_2 wm_h))), ?_⟩
      exact wm_n
  · exact wk_X7_replace_X00
set_option maxRecDepth 20000 in
theorem gX7_replace_X0_setInAll : GoodIn wsX7_replace (wsV RX7 148 RX0 yX0_setInAll wsX0_setInAll) := by
  refine goodIn_app (goodIn_sub ?_ ?_) ggX7_replace_X0_setInAll
  · exact wm_c ⟨(wk_X7_replace_X7_replace_r1 _ (wm_8 (wm_4 wm_h))), wm_c ⟨(wk_X7_replace_X7_replace_r1 _ (wm_8 (wm_4 (wm_1 wm_h)))), wm_c ⟨(wk_X7_replace_X7_replace_r1 _ (wm_8 (wm_4 (wm_2 wm_h)))), wm_c ⟨(wk_X7_replace_X7_replace_r1 _ (wm_8 (wm_4 (wm_2 (wm_1 wm_h))))), wm_n⟩⟩⟩⟩
  · decide +kernel
theorem dX7_replace_0 : decode cX7_replace 0 = .ok (.iload_n 1, 1) := by decide +kernel
theorem dX7_replace_1 : decode cX7_replace 1 = .ok (.invokestatic 78, 3) := by decide +kernel
theorem dX7_replace_4 : decode cX7_replace 4 = .ok (.ifCond .ne 26, 3) := by decide +kernel
theorem dX7_replace_7 : decode cX7_replace 7 = .ok (.iload_n 2, 1) := by decide +kernel
theorem dX7_replace_8 : decode cX7_replace 8 = .ok (.invokestatic 78, 3) := by decide +kernel
theorem dX7_replace_11 : decode cX7_replace 11 = .ok (.ifCond .ne 19, 3) := by decide +kernel
theorem dX7_replace_14 : decode cX7_replace 14 = .ok (.iload 4, 2) := by decide +kernel
theorem dX7_replace_16 : decode cX7_replace 16 = .ok (.invokestatic 78, 3) := by decide +kernel
theorem dX7_replace_19 : decode cX7_replace 19 = .ok (.ifCond .ne 11, 3) := by decide +kernel
theorem dX7_replace_22 : decode cX7_replace 22 = .ok (.aload_n 0, 1) := by decide +kernel
theorem dX7_replace_23 : decode cX7_replace 23 = .ok (.iload_n 3, 1) := by decide +kernel
theorem dX7_replace_24 : decode cX7_replace 24 = .ok (.invokevirtual 141, 3) := by decide +kernel
theorem dX7_replace_27 : decode cX7_replace 27 = .ok (.ifCond .eq 5, 3) := by decide +kernel
theorem dX7_replace_30 : decode cX7_replace 30 = .ok (.iconst (-1), 1) := by decide +kernel
theorem dX7_replace_31 : decode cX7_replace 31 = .ok (.ireturn, 1) := by decide +kernel
theorem dX7_replace_32 : decode cX7_replace 32 = .ok (.aload_n 0, 1) := by decide +kernel
theorem dX7_replace_33 : decode cX7_replace 33 = .ok (.getfield 32, 3) := by decide +kernel
theorem dX7_replace_36 : decode cX7_replace 36 = .ok (.iload 4, 2) := by decide +kernel
theorem dX7_replace_38 : decode cX7_replace 38 = .ok (.aaload, 1) := by decide +kernel
theorem dX7_replace_39 : decode cX7_replace 39 = .ok (.iconst 0, 1) := by decide +kernel
theorem dX7_replace_40 : decode cX7_replace 40 = .ok (.iaload, 1) := by decide +kernel
theorem dX7_replace_41 : decode cX7_replace 41 = .ok (.ifCond .eq 6, 3) := by decide +kernel
theorem dX7_replace_44 : decode cX7_replace 44 = .ok (.bipush (-3), 2) := by decide +kernel
theorem dX7_replace_46 : decode cX7_replace 46 = .ok (.ireturn, 1) := by decide +kernel
theorem dX7_replace_47 : decode cX7_replace 47 = .ok (.aload_n 0, 1) := by decide +kernel
theorem dX7_replace_48 : decode cX7_replace 48 = .ok (.getfield 40, 3) := by decide +kernel
theorem dX7_replace_51 : decode cX7_replace 51 = .ok (.aload_n 0, 1) := by decide +kernel
theorem dX7_replace_52 : decode cX7_replace 52 = .ok (.getfield 32, 3) := by decide +kernel
theorem dX7_replace_55 : decode cX7_replace 55 = .ok (.iload_n 1, 1) := by decide +kernel
theorem dX7_replace_56 : decode cX7_replace 56 = .ok (.aaload, 1) := by decide +kernel
theorem dX7_replace_57 : decode cX7_replace 57 = .ok (.aload_n 0, 1) := by decide +kernel
theorem dX7_replace_58 : decode cX7_replace 58 = .ok (.getfield 32, 3) := by decide +kernel
theorem dX7_replace_61 : decode cX7_replace 61 = .ok (.iload_n 2, 1) := by decide +kernel
theorem dX7_replace_62 : decode cX7_replace 62 = .ok (.aaload, 1) := by decide +kernel
theorem dX7_replace_63 : decode cX7_replace 63 = .ok (.iload_n 3, 1) := by decide +kernel
theorem dX7_replace_64 : decode cX7_replace 64 = .ok (.aload_n 0, 1) := by decide +kernel
theorem dX7_replace_65 : decode cX7_replace 65 = .ok (.getfield 32, 3) := by decide +kernel
theorem dX7_replace_68 : decode cX7_replace 68 = .ok (.iload 4, 2) := by decide +kernel
theorem dX7_replace_70 : decode cX7_replace 70 = .ok (.aaload, 1) := by decide +kernel
theorem dX7_replace_71 : decode cX7_replace 71 = .ok (.invokevirtual 148, 3) := by decide +kernel
theorem dX7_replace_74 : decode cX7_replace 74 = .ok (.iconst 0, 1) := by decide +kernel
theorem dX7_replace_75 : decode cX7_replace 75 = .ok (.ireturn, 1) := by decide +kernel
set_option maxRecDepth 20000 in
theorem ggX7_part_X7_noSum : GoodIn wsX7_part wsX7_noSum := by
  refine goodIn_sub ?_ gd_X7_noSum
  unfold wsX7_noSum
  refine wm_c ⟨(wm_1 (wm_l (wm_l (wm_l (wm_4 (wm_2 (wm_1 wm_h))))))), ?_⟩
  exact wm_n
set_option maxRecDepth 20000 in
theorem gX7_part_X7_noSum : GoodIn wsX7_part (va_wsS RX7 78 yX7_noSum wsX7_noSum) := goodIn_app (goodIn_of _ (by decide +kernel)) ggX7_part_X7_noSum
set_option maxRecDepth 20000 in
theorem ggX7_part_X0_keepLength : GoodIn wsX7_part wsX0_keepLength := by
  refine goodIn_sub ?_ gd_X0_keepLength
  unfold wsX0_keepLength
  refine wm_c ⟨(wm_1 (wm_l (wm_l (wm_l (wm_8 (wm_4 wm_h)))))), ?_⟩
  refine wm_a ⟨?_, ?_⟩
  · refine wm_c ⟨(wm_1 (wm_l (wm_l (wm_l (wm_8 (wm_4 (wm_1 wm_h))))))), ?_⟩
    exact wm_n
  · exact wk_X7_part_X00
set_option maxRecDepth 20000 in
theorem gX7_part_X0_keepLength : GoodIn wsX7_part (wsV RX7 155 RX0 yX0_keepLength wsX0_keepLength) := by
  refine goodIn_app (goodIn_sub ?_ ?_) ggX7_part_X0_keepLength
  · exact wm_c ⟨(wm_1 (wm_l (wm_l (wm_l (wm_8 wm_h))))), wm_c ⟨(wm_1 (wm_l (wm_l (wm_l (wm_8 (wm_1 wm_h)))))), wm_c ⟨(wm_1 (wm_l (wm_l (wm_l (wm_8 (wm_2 wm_h)))))), wm_c ⟨(wm_1 (wm_l (wm_l (wm_l (wm_8 (wm_2 (wm_1 wm_h))))))), wm_n⟩⟩⟩⟩
  · decide +kernel
theorem dX7_part_0 : decode cX7_part 0 = .ok (.iload_n 1, 1) := by decide +kernel
theorem dX7_part_1 : decode cX7_part 1 = .ok (.invokestatic 78, 3) := by decide +kernel
theorem dX7_part_4 : decode cX7_part 4 = .ok (.ifCond .ne 25, 3) := by decide +kernel
theorem dX7_part_7 : decode cX7_part 7 = .ok (.iload_n 2, 1) := by decide +kernel
theorem dX7_part_8 : decode cX7_part 8 = .ok (.invokestatic 78, 3) := by decide +kernel
theorem dX7_part_11 : decode cX7_part 11 = .ok (.ifCond .ne 18, 3) := by decide +kernel
theorem dX7_part_14 : decode cX7_part 14 = .ok (.iload_n 3, 1) := by decide +kernel
theorem dX7_part_15 : decode cX7_part 15 = .ok (.ifCond .lt 14, 3) := by decide +kernel
theorem dX7_part_18 : decode cX7_part 18 = .ok (.iload_n 3, 1) := by decide +kernel
theorem dX7_part_19 : decode cX7_part 19 = .ok (.aload_n 0, 1) := by decide +kernel
theorem dX7_part_20 : decode cX7_part 20 = .ok (.getfield 20, 3) := by decide +kernel
theorem dX7_part_23 : decode cX7_part 23 = .ok (.getfield 151, 3) := by decide +kernel
theorem dX7_part_26 : decode cX7_part 26 = .ok (.if_icmp .le 5, 3) := by decide +kernel
theorem dX7_part_29 : decode cX7_part 29 = .ok (.iconst (-1), 1) := by decide +kernel
theorem dX7_part_30 : decode cX7_part 30 = .ok (.ireturn, 1) := by decide +kernel
theorem dX7_part_31 : decode cX7_part 31 = .ok (.aload_n 0, 1) := by decide +kernel
theorem dX7_part_32 : decode cX7_part 32 = .ok (.getfield 40, 3) := by decide +kernel
theorem dX7_part_35 : decode cX7_part 35 = .ok (.aload_n 0, 1) := by decide +kernel
theorem dX7_part_36 : decode cX7_part 36 = .ok (.getfield 32, 3) := by decide +kernel
theorem dX7_part_39 : decode cX7_part 39 = .ok (.iload_n 1, 1) := by decide +kernel
theorem dX7_part_40 : decode cX7_part 40 = .ok (.aaload, 1) := by decide +kernel
theorem dX7_part_41 : decode cX7_part 41 = .ok (.aload_n 0, 1) := by decide +kernel
theorem dX7_part_42 : decode cX7_part 42 = .ok (.getfield 32, 3) := by decide +kernel
theorem dX7_part_45 : decode cX7_part 45 = .ok (.iload_n 2, 1) := by decide +kernel
theorem dX7_part_46 : decode cX7_part 46 = .ok (.aaload, 1) := by decide +kernel
theorem dX7_part_47 : decode cX7_part 47 = .ok (.iload_n 3, 1) := by decide +kernel
theorem dX7_part_48 : decode cX7_part 48 = .ok (.invokevirtual 155, 3) := by decide +kernel
theorem dX7_part_51 : decode cX7_part 51 = .ok (.iconst 0, 1) := by decide +kernel
theorem dX7_part_52 : decode cX7_part 52 = .ok (.ireturn, 1) := by decide +kernel
set_option maxRecDepth 20000 in
theorem ggX7_pair_X7_noSum : GoodIn wsX7_pair wsX7_noSum := by
  refine goodIn_sub ?_ gd_X7_noSum
  unfold wsX7_noSum
  refine wm_c ⟨(wm_1 (wm_l (wm_4 (wm_1 wm_h)))), ?_⟩
  exact wm_n
set_option maxRecDepth 20000 in
theorem gX7_pair_X7_noSum : GoodIn wsX7_pair (va_wsS RX7 78 yX7_noSum wsX7_noSum) := goodIn_app (goodIn_of _ (by decide +kernel)) ggX7_pair_X7_noSum
set_option maxRecDepth 20000 in
theorem ggX7_pair_X0_inner : GoodIn wsX7_pair wsX0_inner := by
  refine goodIn_sub ?_ gd_X0_inner
  unfold wsX0_inner
  refine wm_c ⟨(wm_1 (wm_l (wm_8 (wm_2 wm_h)))), ?_⟩
  refine wm_c ⟨(wm_1 (wm_l (wm_8 (wm_2 (wm_1 wm_h))))), ?_⟩
  refine wm_c ⟨(wm_1 (wm_l (wm_8 (wm_4 wm_h)))), ?_⟩
  refine wm_c ⟨(wm_1 (wm_l (wm_8 (wm_4 (wm_1 wm_h))))), ?_⟩
  refine wm_c ⟨(wm_1 (wm_l (wm_8 (wm_4 (wm_2 wm_h))))), ?_⟩
  refine wm_c ⟨(wm_1 (wm_l (wm_8 (wm_4 (wm_2 (wm_1 wm_h)))))), ?_⟩
  exact wm_n
set_option maxRecDepth 20000 in
theorem gX7_pair_X0_inner : GoodIn wsX7_pair (wsV RX7 158 RX0 yX0_inner wsX0_inner) := by
  refine goodIn_app (goodIn_sub ?_ ?_) ggX7_pair_X0_inner
  · exact wm_c ⟨(wm_1 (wm_l (wm_4 (wm_2 wm_h)))), wm_c ⟨(wm_1 (wm_l (wm_4 (wm_2 (wm_1 wm_h))))), wm_c ⟨(wm_1 (wm_l (wm_8 wm_h))), wm_c ⟨(wm_1 (wm_l (wm_8 (wm_1 wm_h)))), wm_n⟩⟩⟩⟩
  · decide +kernel
theorem dX7_pair_0 : decode cX7_pair 0 = .ok (.iload_n 1, 1) := by decide +kernel
theorem dX7_pair_1 : decode cX7_pair 1 = .ok (.invokestatic 78, 3) := by decide +kernel
theorem dX7_pair_4 : decode cX7_pair 4 = .ok (.ifCond .ne 10, 3) := by decide +kernel
theorem dX7_pair_7 : decode cX7_pair 7 = .ok (.iload_n 2, 1) := by decide +kernel
theorem dX7_pair_8 : decode cX7_pair 8 = .ok (.invokestatic 78, 3) := by decide +kernel
theorem dX7_pair_11 : decode cX7_pair 11 = .ok (.ifCond .eq 5, 3) := by decide +kernel
theorem dX7_pair_14 : decode cX7_pair 14 = .ok (.iconst (-1), 1) := by decide +kernel
theorem dX7_pair_15 : decode cX7_pair 15 = .ok (.ireturn, 1) := by decide +kernel
theorem dX7_pair_16 : decode cX7_pair 16 = .ok (.aload_n 0, 1) := by decide +kernel
theorem dX7_pair_17 : decode cX7_pair 17 = .ok (.getfield 40, 3) := by decide +kernel
theorem dX7_pair_20 : decode cX7_pair 20 = .ok (.aload_n 0, 1) := by decide +kernel
theorem dX7_pair_21 : decode cX7_pair 21 = .ok (.getfield 32, 3) := by decide +kernel
theorem dX7_pair_24 : decode cX7_pair 24 = .ok (.iload_n 1, 1) := by decide +kernel
theorem dX7_pair_25 : decode cX7_pair 25 = .ok (.aaload, 1) := by decide +kernel
theorem dX7_pair_26 : decode cX7_pair 26 = .ok (.aload_n 0, 1) := by decide +kernel
theorem dX7_pair_27 : decode cX7_pair 27 = .ok (.getfield 32, 3) := by decide +kernel
theorem dX7_pair_30 : decode cX7_pair 30 = .ok (.iload_n 2, 1) := by decide +kernel
theorem dX7_pair_31 : decode cX7_pair 31 = .ok (.aaload, 1) := by decide +kernel
theorem dX7_pair_32 : decode cX7_pair 32 = .ok (.invokevirtual 158, 3) := by decide +kernel
theorem dX7_pair_35 : decode cX7_pair 35 = .ok (.ireturn, 1) := by decide +kernel
set_option maxRecDepth 20000 in
theorem ggX7_lyndon_X7_noChief : GoodIn wsX7_lyndon wsX7_noChief := by
  refine goodIn_sub ?_ gd_X7_noChief
  unfold wsX7_noChief
  refine wm_c ⟨(wk_X7_lyndon_X7_lyndon_r1 _ (wm_4 (wm_2 (wm_1 wm_h)))), ?_⟩
  refine wm_a ⟨?_, ?_⟩
  · refine wm_a ⟨?_, ?_⟩
    · refine wm_a ⟨?_, ?_⟩
      · refine wm_c ⟨(wk_X7_lyndon_X7_lyndon_r1 _ (wm_1 wm_h)), ?_⟩
        refine wm_c ⟨(wk_X7_lyndon_X7_lyndon_r1 _ (wm_8 wm_h)), ?_⟩
        refine wm_c ⟨(wk_X7_lyndon_X7_lyndon_r1 _ (wm_8 (wm_1 wm_h))), ?_⟩
        refine wm_c ⟨(wk_X7_lyndon_X7_lyndon_r1 _ (wm_8 (wm_2 wm_h))), ?_⟩
        refine wm_c ⟨(wk_X7_lyndon_X7_lyndon_r1 _ (wm_8 (wm_2 (wm_1 wm_h)))), ?_⟩
        refine wm_c ⟨(wk_X7_lyndon_X7_lyndon_r1 _ (wm_8 (wm_4 wm_h))), ?_⟩
        refine wm_c ⟨(wk_X7_lyndon_X7_lyndon_r1 _ (wm_8 (wm_4 (wm_1 wm_h)))), ?_⟩
        refine wm_c ⟨(wk_X7_lyndon_X7_lyndon_r1 _ (wm_8 (wm_4 (wm_2 wm_h)))), ?_⟩
        refine wm_c ⟨(wk_X7_lyndon_X7_lyndon_r1 _ (wm_8 (wm_4 (wm_2 (wm_1 wm_h))))), ?_⟩
        exact wm_n
      · exact wk_X7_lyndon_X70
    · exact wk_X7_lyndon_X10
  · exact wk_X7_lyndon_X60
set_option maxRecDepth 20000 in
theorem gX7_lyndon_X7_noChief : GoodIn wsX7_lyndon (wsV RX7 162 RX7 yX7_noChief wsX7_noChief) := by
  refine goodIn_app (goodIn_sub ?_ ?_) ggX7_lyndon_X7_noChief
  · exact wm_c ⟨(wk_X7_lyndon_X7_lyndon_r1 _ (wm_2 (wm_1 wm_h))), wm_c ⟨(wk_X7_lyndon_X7_lyndon_r1 _ (wm_4 wm_h)), wm_c ⟨(wk_X7_lyndon_X7_lyndon_r1 _ (wm_4 (wm_1 wm_h))), wm_c ⟨(wk_X7_lyndon_X7_lyndon_r1 _ (wm_4 (wm_2 wm_h))), wm_n⟩⟩⟩⟩
  · decide +kernel
set_option maxRecDepth 20000 in
theorem ggX7_lyndon_X6_toldOf : GoodIn wsX7_lyndon wsX6_toldOf := by
  refine goodIn_sub ?_ gd_X6_toldOf
  unfold wsX6_toldOf
  refine wm_c ⟨(wk_X7_lyndon_X7_lyndon_r1 _ (wm_16 (wm_4 wm_h))), ?_⟩
  refine wm_a ⟨?_, ?_⟩
  · refine wm_c ⟨(wk_X7_lyndon_X7_lyndon_r1 _ (wm_16 (wm_4 (wm_1 wm_h)))), ?_⟩
    refine wm_c ⟨(wk_X7_lyndon_X7_lyndon_r1 _ (wm_16 (wm_4 (wm_2 wm_h)))), ?_⟩
    refine wm_c ⟨(wk_X7_lyndon_X7_lyndon_r1 _ (wm_16 (wm_4 (wm_2 (wm_1 wm_h))))), ?_⟩
    refine wm_c ⟨(wk_X7_lyndon_X7_lyndon_r2 _ wm_h), ?_⟩
    refine wm_c ⟨(wk_X7_lyndon_X7_lyndon_r2 _ (wm_1 wm_h)), ?_⟩
    refine wm_c ⟨(wk_X7_lyndon_X7_lyndon_r1 _ (wm_16 (wm_2 (wm_1 wm_h)))), ?_⟩
    refine wm_c ⟨(wk_X7_lyndon_X7_lyndon_r2 _ (wm_2 wm_h)), ?_⟩
    refine wm_c ⟨(wk_X7_lyndon_X7_lyndon_r2 _ (wm_2 (wm_1 wm_h))), ?_⟩
    exact wm_n
  · exact wk_X7_lyndon_X60
set_option maxRecDepth 20000 in
theorem gX7_lyndon_X6_toldOf : GoodIn wsX7_lyndon (wsV RX7 169 RX6 yX6_toldOf wsX6_toldOf) := by
  refine goodIn_app (goodIn_sub ?_ ?_) ggX7_lyndon_X6_toldOf
  · exact wm_c ⟨(wk_X7_lyndon_X7_lyndon_r1 _ (wm_16 wm_h)), wm_c ⟨(wk_X7_lyndon_X7_lyndon_r1 _ (wm_16 (wm_1 wm_h))), wm_c ⟨(wk_X7_lyndon_X7_lyndon_r1 _ (wm_16 (wm_2 wm_h))), wm_c ⟨(wk_X7_lyndon_X7_lyndon_r1 _ (wm_16 (wm_2 (wm_1 wm_h)))), wm_n⟩⟩⟩⟩
  · decide +kernel
theorem dX7_lyndon_0 : decode cX7_lyndon 0 = .ok (.aload_n 0, 1) := by decide +kernel
theorem dX7_lyndon_1 : decode cX7_lyndon 1 = .ok (.iload_n 1, 1) := by decide +kernel
theorem dX7_lyndon_2 : decode cX7_lyndon 2 = .ok (.invokevirtual 162, 3) := by decide +kernel
theorem dX7_lyndon_5 : decode cX7_lyndon 5 = .ok (.ifCond .eq 5, 3) := by decide +kernel
theorem dX7_lyndon_8 : decode cX7_lyndon 8 = .ok (.iconst (-1), 1) := by decide +kernel
theorem dX7_lyndon_9 : decode cX7_lyndon 9 = .ok (.ireturn, 1) := by decide +kernel
theorem dX7_lyndon_10 : decode cX7_lyndon 10 = .ok (.aload_n 0, 1) := by decide +kernel
theorem dX7_lyndon_11 : decode cX7_lyndon 11 = .ok (.getfield 20, 3) := by decide +kernel
theorem dX7_lyndon_14 : decode cX7_lyndon 14 = .ok (.aload_n 0, 1) := by decide +kernel
theorem dX7_lyndon_15 : decode cX7_lyndon 15 = .ok (.getfield 49, 3) := by decide +kernel
theorem dX7_lyndon_18 : decode cX7_lyndon 18 = .ok (.getfield 165, 3) := by decide +kernel
theorem dX7_lyndon_21 : decode cX7_lyndon 21 = .ok (.iload_n 1, 1) := by decide +kernel
theorem dX7_lyndon_22 : decode cX7_lyndon 22 = .ok (.iaload, 1) := by decide +kernel
theorem dX7_lyndon_23 : decode cX7_lyndon 23 = .ok (.invokevirtual 169, 3) := by decide +kernel
theorem dX7_lyndon_26 : decode cX7_lyndon 26 = .ok (.ireturn, 1) := by decide +kernel
set_option maxRecDepth 20000 in
theorem ggX7_lyndons_X1_ofLength : GoodIn wsX7_lyndons wsX1_ofLength := by
  refine goodIn_sub ?_ gd_X1_ofLength
  unfold wsX1_ofLength
  refine wm_c ⟨(wm_1 (wm_l (wm_l (wm_l (wm_4 (wm_2 (wm_1 wm_h))))))), ?_⟩
  refine wm_a ⟨?_, ?_⟩
  · refine wm_c ⟨(wm_1 (wm_l (wm_l (wm_l (wm_8 wm_h))))), ?_⟩
    exact wm_n
  · exact wk_X7_lyndons_X10
set_option maxRecDepth 20000 in
theorem gX7_lyndons_X1_ofLength : GoodIn wsX7_lyndons (wsV RX7 172 RX1 yX1_ofLength wsX1_ofLength) := by
  refine goodIn_app (goodIn_sub ?_ ?_) ggX7_lyndons_X1_ofLength
  · exact wm_c ⟨(wm_1 (wm_l (wm_l (wm_l (wm_2 (wm_1 wm_h)))))), wm_c ⟨(wm_1 (wm_l (wm_l (wm_l (wm_4 wm_h))))), wm_c ⟨(wm_1 (wm_l (wm_l (wm_l (wm_4 (wm_1 wm_h)))))), wm_c ⟨(wm_1 (wm_l (wm_l (wm_l (wm_4 (wm_2 wm_h)))))), wm_n⟩⟩⟩⟩
  · decide +kernel
theorem dX7_lyndons_0 : decode cX7_lyndons 0 = .ok (.iload_n 1, 1) := by decide +kernel
theorem dX7_lyndons_1 : decode cX7_lyndons 1 = .ok (.iconst 1, 1) := by decide +kernel
theorem dX7_lyndons_2 : decode cX7_lyndons 2 = .ok (.if_icmp .lt 14, 3) := by decide +kernel
theorem dX7_lyndons_5 : decode cX7_lyndons 5 = .ok (.iload_n 1, 1) := by decide +kernel
theorem dX7_lyndons_6 : decode cX7_lyndons 6 = .ok (.aload_n 0, 1) := by decide +kernel
theorem dX7_lyndons_7 : decode cX7_lyndons 7 = .ok (.getfield 20, 3) := by decide +kernel
theorem dX7_lyndons_10 : decode cX7_lyndons 10 = .ok (.getfield 151, 3) := by decide +kernel
theorem dX7_lyndons_13 : decode cX7_lyndons 13 = .ok (.if_icmp .le 5, 3) := by decide +kernel
theorem dX7_lyndons_16 : decode cX7_lyndons 16 = .ok (.iconst (-1), 1) := by decide +kernel
theorem dX7_lyndons_17 : decode cX7_lyndons 17 = .ok (.ireturn, 1) := by decide +kernel
theorem dX7_lyndons_18 : decode cX7_lyndons 18 = .ok (.aload_n 0, 1) := by decide +kernel
theorem dX7_lyndons_19 : decode cX7_lyndons 19 = .ok (.getfield 49, 3) := by decide +kernel
theorem dX7_lyndons_22 : decode cX7_lyndons 22 = .ok (.iload_n 1, 1) := by decide +kernel
theorem dX7_lyndons_23 : decode cX7_lyndons 23 = .ok (.invokevirtual 172, 3) := by decide +kernel
theorem dX7_lyndons_26 : decode cX7_lyndons 26 = .ok (.ireturn, 1) := by decide +kernel
set_option maxRecDepth 20000 in
theorem ggX7_side_X7_noChief : GoodIn wsX7_side wsX7_noChief := by
  refine goodIn_sub ?_ gd_X7_noChief
  unfold wsX7_noChief
  refine wm_c ⟨(wm_1 (wm_l (wm_l (wm_l (wm_4 (wm_2 (wm_1 wm_h))))))), ?_⟩
  refine wm_a ⟨?_, ?_⟩
  · refine wm_a ⟨?_, ?_⟩
    · refine wm_a ⟨?_, ?_⟩
      · refine wm_c ⟨(wm_1 (wm_l (wm_l (wm_l wm_h)))), ?_⟩
        refine wm_c ⟨(wm_1 (wm_l (wm_l (wm_l (wm_8 wm_h))))), ?_⟩
        refine wm_c ⟨(wm_1 (wm_l (wm_l (wm_l (wm_8 (wm_1 wm_h)))))), ?_⟩
        refine wm_c ⟨(wm_1 (wm_l (wm_l (wm_l (wm_8 (wm_2 wm_h)))))), ?_⟩
        refine wm_c ⟨(wm_1 (wm_l (wm_l (wm_l (wm_8 (wm_2 (wm_1 wm_h))))))), ?_⟩
        refine wm_c ⟨(wm_1 (wm_l (wm_l (wm_l (wm_8 (wm_4 wm_h)))))), ?_⟩
        refine wm_c ⟨(wm_1 (wm_l (wm_l (wm_l (wm_8 (wm_4 (wm_1 wm_h))))))), ?_⟩
        refine wm_c ⟨(wm_1 (wm_l (wm_l (wm_l (wm_8 (wm_4 (wm_2 wm_h))))))), ?_⟩
        refine wm_c ⟨(wm_1 (wm_l (wm_l (wm_l (wm_8 (wm_4 (wm_2 (wm_1 wm_h)))))))), ?_⟩
        exact wm_n
      · exact wk_X7_side_X70
    · exact wk_X7_side_X10
  · exact wk_X7_side_X60
set_option maxRecDepth 20000 in
theorem gX7_side_X7_noChief : GoodIn wsX7_side (wsV RX7 162 RX7 yX7_noChief wsX7_noChief) := by
  refine goodIn_app (goodIn_sub ?_ ?_) ggX7_side_X7_noChief
  · exact wm_c ⟨(wm_1 (wm_l (wm_l (wm_l (wm_2 (wm_1 wm_h)))))), wm_c ⟨(wm_1 (wm_l (wm_l (wm_l (wm_4 wm_h))))), wm_c ⟨(wm_1 (wm_l (wm_l (wm_l (wm_4 (wm_1 wm_h)))))), wm_c ⟨(wm_1 (wm_l (wm_l (wm_l (wm_4 (wm_2 wm_h)))))), wm_n⟩⟩⟩⟩
  · decide +kernel
theorem dX7_side_0 : decode cX7_side 0 = .ok (.aload_n 0, 1) := by decide +kernel
theorem dX7_side_1 : decode cX7_side 1 = .ok (.iload_n 1, 1) := by decide +kernel
theorem dX7_side_2 : decode cX7_side 2 = .ok (.invokevirtual 162, 3) := by decide +kernel
theorem dX7_side_5 : decode cX7_side 5 = .ok (.ifCond .ne 12, 3) := by decide +kernel
theorem dX7_side_8 : decode cX7_side 8 = .ok (.iload_n 2, 1) := by decide +kernel
theorem dX7_side_9 : decode cX7_side 9 = .ok (.ifCond .lt 8, 3) := by decide +kernel
theorem dX7_side_12 : decode cX7_side 12 = .ok (.iload_n 2, 1) := by decide +kernel
theorem dX7_side_13 : decode cX7_side 13 = .ok (.iconst 1, 1) := by decide +kernel
theorem dX7_side_14 : decode cX7_side 14 = .ok (.if_icmp .le 5, 3) := by decide +kernel
theorem dX7_side_17 : decode cX7_side 17 = .ok (.iconst (-1), 1) := by decide +kernel
theorem dX7_side_18 : decode cX7_side 18 = .ok (.ireturn, 1) := by decide +kernel
theorem dX7_side_19 : decode cX7_side 19 = .ok (.iload_n 2, 1) := by decide +kernel
theorem dX7_side_20 : decode cX7_side 20 = .ok (.ifCond .ne 15, 3) := by decide +kernel
theorem dX7_side_23 : decode cX7_side 23 = .ok (.aload_n 0, 1) := by decide +kernel
theorem dX7_side_24 : decode cX7_side 24 = .ok (.getfield 49, 3) := by decide +kernel
theorem dX7_side_27 : decode cX7_side 27 = .ok (.getfield 175, 3) := by decide +kernel
theorem dX7_side_30 : decode cX7_side 30 = .ok (.iload_n 1, 1) := by decide +kernel
theorem dX7_side_31 : decode cX7_side 31 = .ok (.iaload, 1) := by decide +kernel
theorem dX7_side_32 : decode cX7_side 32 = .ok (.goto 12, 3) := by decide +kernel
theorem dX7_side_35 : decode cX7_side 35 = .ok (.aload_n 0, 1) := by decide +kernel
theorem dX7_side_36 : decode cX7_side 36 = .ok (.getfield 49, 3) := by decide +kernel
theorem dX7_side_39 : decode cX7_side 39 = .ok (.getfield 178, 3) := by decide +kernel
theorem dX7_side_42 : decode cX7_side 42 = .ok (.iload_n 1, 1) := by decide +kernel
theorem dX7_side_43 : decode cX7_side 43 = .ok (.iaload, 1) := by decide +kernel
theorem dX7_side_44 : decode cX7_side 44 = .ok (.ireturn, 1) := by decide +kernel
set_option maxRecDepth 20000 in
theorem ggX7_basis_X7_noSum : GoodIn wsX7_basis wsX7_noSum := by
  refine goodIn_sub ?_ gd_X7_noSum
  unfold wsX7_noSum
  refine wm_c ⟨(wk_X7_basis_X7_basis_r1 _ (wm_4 (wm_2 (wm_1 wm_h)))), ?_⟩
  exact wm_n
set_option maxRecDepth 20000 in
theorem gX7_basis_X7_noSum : GoodIn wsX7_basis (va_wsS RX7 78 yX7_noSum wsX7_noSum) := goodIn_app (goodIn_of _ (by decide +kernel)) ggX7_basis_X7_noSum
set_option maxRecDepth 20000 in
theorem ggX7_basis_X7_noChief : GoodIn wsX7_basis wsX7_noChief := by
  refine goodIn_sub ?_ gd_X7_noChief
  unfold wsX7_noChief
  refine wm_c ⟨(wk_X7_basis_X7_basis_r1 _ (wm_8 (wm_2 (wm_1 wm_h)))), ?_⟩
  refine wm_a ⟨?_, ?_⟩
  · refine wm_a ⟨?_, ?_⟩
    · refine wm_a ⟨?_, ?_⟩
      · refine wm_c ⟨(wk_X7_basis_X7_basis_r1 _ wm_h), ?_⟩
        refine wm_c ⟨(wk_X7_basis_X7_basis_r1 _ (wm_8 (wm_4 wm_h))), ?_⟩
        refine wm_c ⟨(wk_X7_basis_X7_basis_r1 _ (wm_8 (wm_4 (wm_1 wm_h)))), ?_⟩
        refine wm_c ⟨(wk_X7_basis_X7_basis_r1 _ (wm_8 (wm_4 (wm_2 wm_h)))), ?_⟩
        refine wm_c ⟨(wk_X7_basis_X7_basis_r1 _ (wm_8 (wm_4 (wm_2 (wm_1 wm_h))))), ?_⟩
        refine wm_c ⟨(wk_X7_basis_X7_basis_r1 _ (wm_16 wm_h)), ?_⟩
        refine wm_c ⟨(wk_X7_basis_X7_basis_r1 _ (wm_16 (wm_1 wm_h))), ?_⟩
        refine wm_c ⟨(wk_X7_basis_X7_basis_r1 _ (wm_16 (wm_2 wm_h))), ?_⟩
        refine wm_c ⟨(wk_X7_basis_X7_basis_r1 _ (wm_16 (wm_2 (wm_1 wm_h)))), ?_⟩
        exact wm_n
      · exact wk_X7_basis_X70
    · exact wk_X7_basis_X10
  · exact wk_X7_basis_X60
set_option maxRecDepth 20000 in
theorem gX7_basis_X7_noChief : GoodIn wsX7_basis (wsV RX7 162 RX7 yX7_noChief wsX7_noChief) := by
  refine goodIn_app (goodIn_sub ?_ ?_) ggX7_basis_X7_noChief
  · exact wm_c ⟨(wk_X7_basis_X7_basis_r1 _ (wm_8 wm_h)), wm_c ⟨(wk_X7_basis_X7_basis_r1 _ (wm_8 (wm_1 wm_h))), wm_c ⟨(wk_X7_basis_X7_basis_r1 _ (wm_8 (wm_2 wm_h))), wm_c ⟨(wk_X7_basis_X7_basis_r1 _ (wm_4 (wm_2 wm_h))), wm_n⟩⟩⟩⟩
  · decide +kernel
set_option maxRecDepth 20000 in
theorem ggX7_basis_X1_weave : GoodIn wsX7_basis wsX1_weave := by
  refine goodIn_sub ?_ gd_X1_weave
  unfold wsX1_weave
  refine wm_c ⟨(wk_X7_basis_X7_basis_r1 _ (wm_16 (wm_4 (wm_2 (wm_1 wm_h))))), ?_⟩
  refine wm_a ⟨?_, ?_⟩
  · refine wm_a ⟨?_, ?_⟩
    · refine wm_a ⟨?_, ?_⟩
      · unfold wsX1_weave_r1
        refine wm_c ⟨(wk_X7_basis_X7_basis_r2 _ wm_h), ?_⟩
        refine wm_c ⟨(wk_X7_basis_X7_basis_r2 _ (wm_1 wm_h)), ?_⟩
        refine wm_c ⟨(wk_X7_basis_X7_basis_r2 _ (wm_2 wm_h)), ?_⟩
        refine wm_c ⟨(wk_X7_basis_X7_basis_r2 _ (wm_2 (wm_1 wm_h))), ?_⟩
        refine wm_c ⟨(wk_X7_basis_X7_basis_r2 _ (wm_4 wm_h)), ?_⟩
        refine wm_c ⟨(wk_X7_basis_X7_basis_r2 _ (wm_4 (wm_1 wm_h))), ?_⟩
        refine wm_c ⟨(wk_X7_basis_X7_basis_r2 _ (wm_4 (wm_2 wm_h))), ?_⟩
        refine wm_c ⟨(wk_X7_basis_X7_basis_r2 _ (wm_4 (wm_2 (wm_1 wm_h)))), ?_⟩
        refine wm_c ⟨(wk_X7_basis_X7_basis_r2 _ (wm_8 wm_h)), ?_⟩
        refine wm_c ⟨(wk_X7_basis_X7_basis_r2 _ (wm_8 (wm_1 wm_h))), ?_⟩
        refine wm_c ⟨(wk_X7_basis_X7_basis_r1 _ (wm_16 (wm_4 (wm_1 wm_h)))), ?_⟩
        refine wm_c ⟨(wk_X7_basis_X7_basis_r1 _ (wm_16 (wm_4 (wm_2 wm_h)))), ?_⟩
        refine wm_c ⟨(wk_X7_basis_X7_basis_r1 _ (wm_8 (wm_4 (wm_2 (wm_1 wm_h))))), ?_⟩
        refine wm_c ⟨(wk_X7_basis_X7_basis_r2 _ (wm_8 (wm_2 wm_h))), ?_⟩
        refine wm_c ⟨(wk_X7_basis_X7_basis_r2 _ (wm_8 (wm_2 (wm_1 wm_h)))), ?_⟩
        refine wm_c ⟨(wk_X7_basis_X7_basis_r2 _ (wm_8 (wm_4 wm_h))), ?_⟩
        refine wm_c ⟨(wk_X7_basis_X7_basis_r2 _ (wm_8 (wm_4 (wm_1 wm_h)))), ?_⟩
        refine wm_c ⟨(wk_X7_basis_X7_basis_r2 _ (wm_8 (wm_4 (wm_2 wm_h)))), ?_⟩
        refine wm_c ⟨(wk_X7_basis_X7_basis_r2 _ (wm_8 (wm_4 (wm_2 (wm_1 wm_h))))), ?_⟩
        refine wm_c ⟨(wk_X7_basis_X7_basis_r2 _ (wm_16 wm_h)), ?_⟩
        refine wm_c ⟨(wk_X7_basis_X7_basis_r2 _ (wm_16 (wm_1 wm_h))), ?_⟩
        refine wm_c ⟨(wk_X7_basis_X7_basis_r2 _ (wm_16 (wm_2 wm_h))), ?_⟩
        refine wm_c ⟨(wk_X7_basis_X7_basis_r2 _ (wm_16 (wm_2 (wm_1 wm_h)))), ?_⟩
        refine wm_c ⟨(wk_X7_basis_X7_basis_r2 _ (wm_16 (wm_4 wm_h))), ?_⟩
        exact wm_n
      · unfold wsX1_weave_r2
        refine wm_c ⟨(wk_X7_basis_X7_basis_r2 _ (wm_16 (wm_4 (wm_1 wm_h)))), ?_⟩
        refine wm_c ⟨(wk_X7_basis_X7_basis_r2 _ (wm_16 (wm_4 (wm_2 wm_h)))), ?_⟩
        refine wm_c ⟨(wk_X7_basis_X7_basis_r2 _ (wm_16 (wm_4 (wm_2 (wm_1 wm_h))))), ?_⟩
        refine wm_c ⟨(wk_X7_basis_X7_basis_r3 _ wm_h), ?_⟩
        refine wm_c ⟨(wk_X7_basis_X7_basis_r3 _ (wm_1 wm_h)), ?_⟩
        refine wm_c ⟨(wk_X7_basis_X7_basis_r3 _ (wm_2 wm_h)), ?_⟩
        refine wm_c ⟨(wk_X7_basis_X7_basis_r3 _ (wm_2 (wm_1 wm_h))), ?_⟩
        refine wm_c ⟨(wk_X7_basis_X7_basis_r3 _ (wm_4 wm_h)), ?_⟩
        refine wm_c ⟨(wk_X7_basis_X7_basis_r3 _ (wm_4 (wm_1 wm_h))), ?_⟩
        refine wm_c ⟨(wk_X7_basis_X7_basis_r3 _ (wm_4 (wm_2 wm_h))), ?_⟩
        refine wm_c ⟨(wk_X7_basis_X7_basis_r3 _ (wm_4 (wm_2 (wm_1 wm_h)))), ?_⟩
        refine wm_c ⟨(wk_X7_basis_X7_basis_r3 _ (wm_8 wm_h)), ?_⟩
        refine wm_c ⟨(wk_X7_basis_X7_basis_r3 _ (wm_8 (wm_1 wm_h))), ?_⟩
        exact wm_n
    · exact wk_X7_basis_X10
  · exact wk_X7_basis_X00
set_option maxRecDepth 20000 in
theorem gX7_basis_X1_weave : GoodIn wsX7_basis (wsV RX7 181 RX1 yX1_weave wsX1_weave) := by
  refine goodIn_app (goodIn_sub ?_ ?_) ggX7_basis_X1_weave
  · exact wm_c ⟨(wk_X7_basis_X7_basis_r1 _ (wm_16 (wm_4 wm_h))), wm_c ⟨(wk_X7_basis_X7_basis_r1 _ (wm_16 (wm_4 (wm_1 wm_h)))), wm_c ⟨(wk_X7_basis_X7_basis_r1 _ (wm_16 (wm_4 (wm_2 wm_h)))), wm_c ⟨(wk_X7_basis_X7_basis_r1 _ (wm_8 (wm_4 (wm_2 (wm_1 wm_h))))), wm_n⟩⟩⟩⟩
  · decide +kernel
set_option maxRecDepth 20000 in
theorem ggX7_basis_X0_copy : GoodIn wsX7_basis wsX0_copy := by
  refine goodIn_sub ?_ gd_X0_copy
  unfold wsX0_copy
  refine wm_c ⟨(wk_X7_basis_X7_basis_r3 _ (wm_4 (wm_1 wm_h))), ?_⟩
  refine wm_c ⟨(wk_X7_basis_X7_basis_r3 _ (wm_4 (wm_2 wm_h))), ?_⟩
  refine wm_c ⟨(wk_X7_basis_X7_basis_r3 _ (wm_4 (wm_2 (wm_1 wm_h)))), ?_⟩
  refine wm_c ⟨(wk_X7_basis_X7_basis_r3 _ (wm_8 wm_h)), ?_⟩
  refine wm_c ⟨(wk_X7_basis_X7_basis_r3 _ (wm_8 (wm_1 wm_h))), ?_⟩
  exact wm_n
set_option maxRecDepth 20000 in
theorem gX7_basis_X0_copy : GoodIn wsX7_basis (wsV RX7 187 RX0 yX0_copy wsX0_copy) := by
  refine goodIn_app (goodIn_sub ?_ ?_) ggX7_basis_X0_copy
  · exact wm_c ⟨(wk_X7_basis_X7_basis_r3 _ (wm_8 (wm_2 wm_h))), wm_c ⟨(wk_X7_basis_X7_basis_r3 _ (wm_2 (wm_1 wm_h))), wm_c ⟨(wk_X7_basis_X7_basis_r3 _ (wm_4 wm_h)), wm_c ⟨(wk_X7_basis_X7_basis_r2 _ (wm_8 (wm_4 (wm_1 wm_h)))), wm_n⟩⟩⟩⟩
  · decide +kernel
theorem dX7_basis_0 : decode cX7_basis 0 = .ok (.iload_n 1, 1) := by decide +kernel
theorem dX7_basis_1 : decode cX7_basis 1 = .ok (.invokestatic 78, 3) := by decide +kernel
theorem dX7_basis_4 : decode cX7_basis 4 = .ok (.ifCond .ne 11, 3) := by decide +kernel
theorem dX7_basis_7 : decode cX7_basis 7 = .ok (.aload_n 0, 1) := by decide +kernel
theorem dX7_basis_8 : decode cX7_basis 8 = .ok (.iload_n 2, 1) := by decide +kernel
theorem dX7_basis_9 : decode cX7_basis 9 = .ok (.invokevirtual 162, 3) := by decide +kernel
theorem dX7_basis_12 : decode cX7_basis 12 = .ok (.ifCond .eq 5, 3) := by decide +kernel
theorem dX7_basis_15 : decode cX7_basis 15 = .ok (.iconst (-1), 1) := by decide +kernel
theorem dX7_basis_16 : decode cX7_basis 16 = .ok (.ireturn, 1) := by decide +kernel
theorem dX7_basis_17 : decode cX7_basis 17 = .ok (.aload_n 0, 1) := by decide +kernel
theorem dX7_basis_18 : decode cX7_basis 18 = .ok (.getfield 49, 3) := by decide +kernel
theorem dX7_basis_21 : decode cX7_basis 21 = .ok (.iload_n 2, 1) := by decide +kernel
theorem dX7_basis_22 : decode cX7_basis 22 = .ok (.iconst 0, 1) := by decide +kernel
theorem dX7_basis_23 : decode cX7_basis 23 = .ok (.invokevirtual 181, 3) := by decide +kernel
theorem dX7_basis_26 : decode cX7_basis 26 = .ok (.aload_n 0, 1) := by decide +kernel
theorem dX7_basis_27 : decode cX7_basis 27 = .ok (.getfield 40, 3) := by decide +kernel
theorem dX7_basis_30 : decode cX7_basis 30 = .ok (.aload_n 0, 1) := by decide +kernel
theorem dX7_basis_31 : decode cX7_basis 31 = .ok (.getfield 32, 3) := by decide +kernel
theorem dX7_basis_34 : decode cX7_basis 34 = .ok (.iload_n 1, 1) := by decide +kernel
theorem dX7_basis_35 : decode cX7_basis 35 = .ok (.aaload, 1) := by decide +kernel
theorem dX7_basis_36 : decode cX7_basis 36 = .ok (.aload_n 0, 1) := by decide +kernel
theorem dX7_basis_37 : decode cX7_basis 37 = .ok (.getfield 40, 3) := by decide +kernel
theorem dX7_basis_40 : decode cX7_basis 40 = .ok (.getfield 184, 3) := by decide +kernel
theorem dX7_basis_43 : decode cX7_basis 43 = .ok (.iconst 0, 1) := by decide +kernel
theorem dX7_basis_44 : decode cX7_basis 44 = .ok (.aaload, 1) := by decide +kernel
theorem dX7_basis_45 : decode cX7_basis 45 = .ok (.invokevirtual 187, 3) := by decide +kernel
theorem dX7_basis_48 : decode cX7_basis 48 = .ok (.iconst 0, 1) := by decide +kernel
theorem dX7_basis_49 : decode cX7_basis 49 = .ok (.ireturn, 1) := by decide +kernel
set_option maxRecDepth 20000 in
theorem ggX7_text_X7_noChief : GoodIn wsX7_text wsX7_noChief := by
  refine goodIn_sub ?_ gd_X7_noChief
  unfold wsX7_noChief
  refine wm_c ⟨(wk_X7_text_X7_text_r1 _ (wm_4 (wm_1 wm_h))), ?_⟩
  refine wm_a ⟨?_, ?_⟩
  · refine wm_a ⟨?_, ?_⟩
    · refine wm_a ⟨?_, ?_⟩
      · refine wm_c ⟨(wk_X7_text_X7_text_r1 _ wm_h), ?_⟩
        refine wm_c ⟨(wk_X7_text_X7_text_r1 _ (wm_4 (wm_2 wm_h))), ?_⟩
        refine wm_c ⟨(wk_X7_text_X7_text_r1 _ (wm_4 (wm_2 (wm_1 wm_h)))), ?_⟩
        refine wm_c ⟨(wk_X7_text_X7_text_r1 _ (wm_8 wm_h)), ?_⟩
        refine wm_c ⟨(wk_X7_text_X7_text_r1 _ (wm_8 (wm_1 wm_h))), ?_⟩
        refine wm_c ⟨(wk_X7_text_X7_text_r1 _ (wm_8 (wm_2 wm_h))), ?_⟩
        refine wm_c ⟨(wk_X7_text_X7_text_r1 _ (wm_8 (wm_2 (wm_1 wm_h)))), ?_⟩
        refine wm_c ⟨(wk_X7_text_X7_text_r1 _ (wm_8 (wm_4 wm_h))), ?_⟩
        refine wm_c ⟨(wk_X7_text_X7_text_r1 _ (wm_8 (wm_4 (wm_1 wm_h)))), ?_⟩
        exact wm_n
      · exact wk_X7_text_X70
    · exact wk_X7_text_X10
  · exact wk_X7_text_X60
set_option maxRecDepth 20000 in
theorem gX7_text_X7_noChief : GoodIn wsX7_text (wsV RX7 162 RX7 yX7_noChief wsX7_noChief) := by
  refine goodIn_app (goodIn_sub ?_ ?_) ggX7_text_X7_noChief
  · exact wm_c ⟨(wk_X7_text_X7_text_r1 _ (wm_1 wm_h)), wm_c ⟨(wk_X7_text_X7_text_r1 _ (wm_2 wm_h)), wm_c ⟨(wk_X7_text_X7_text_r1 _ (wm_2 (wm_1 wm_h))), wm_c ⟨(wk_X7_text_X7_text_r1 _ (wm_4 wm_h)), wm_n⟩⟩⟩⟩
  · decide +kernel
set_option maxRecDepth 20000 in
theorem ggX7_text_X1_written : GoodIn wsX7_text wsX1_written := by
  refine goodIn_sub ?_ gd_X1_written
  unfold wsX1_written
  refine wm_c ⟨(wk_X7_text_X7_text_r1 _ (wm_16 (wm_1 wm_h))), ?_⟩
  refine wm_a ⟨?_, ?_⟩
  · refine wm_a ⟨?_, ?_⟩
    · refine wm_c ⟨(wk_X7_text_X7_text_r1 _ (wm_8 (wm_4 wm_h))), ?_⟩
      refine wm_c ⟨(wk_X7_text_X7_text_r1 _ (wm_8 (wm_4 (wm_1 wm_h)))), ?_⟩
      refine wm_c ⟨(wk_X7_text_X7_text_r1 _ (wm_16 (wm_2 wm_h))), ?_⟩
      refine wm_c ⟨(wk_X7_text_X7_text_r1 _ (wm_16 (wm_2 (wm_1 wm_h)))), ?_⟩
      refine wm_c ⟨(wk_X7_text_X7_text_r1 _ (wm_16 (wm_4 wm_h))), ?_⟩
      refine wm_c ⟨(wk_X7_text_X7_text_r1 _ (wm_16 (wm_4 (wm_1 wm_h)))), ?_⟩
      refine wm_c ⟨(wk_X7_text_X7_text_r1 _ (wm_16 (wm_4 (wm_2 wm_h)))), ?_⟩
      refine wm_c ⟨(wk_X7_text_X7_text_r1 _ (wm_8 (wm_1 wm_h))), ?_⟩
      refine wm_c ⟨(wk_X7_text_X7_text_r1 _ (wm_16 (wm_4 (wm_2 (wm_1 wm_h))))), ?_⟩
      refine wm_c ⟨(wk_X7_text_X7_text_r2 _ wm_h), ?_⟩
      refine wm_c ⟨(wk_X7_text_X7_text_r2 _ (wm_1 wm_h)), ?_⟩
      refine wm_c ⟨(wk_X7_text_X7_text_r2 _ (wm_2 wm_h)), ?_⟩
      refine wm_c ⟨(wk_X7_text_X7_text_r2 _ (wm_2 (wm_1 wm_h))), ?_⟩
      refine wm_c ⟨(wk_X7_text_X7_text_r2 _ (wm_4 wm_h)), ?_⟩
      refine wm_c ⟨(wk_X7_text_X7_text_r2 _ (wm_4 (wm_1 wm_h))), ?_⟩
      refine wm_c ⟨(wk_X7_text_X7_text_r2 _ (wm_4 (wm_2 wm_h))), ?_⟩
      refine wm_c ⟨(wk_X7_text_X7_text_r2 _ (wm_4 (wm_2 (wm_1 wm_h)))), ?_⟩
      exact wm_n
    · exact wk_X7_text_X10
  · exact wk_X7_text_X60
set_option maxRecDepth 20000 in
theorem gX7_text_X1_written : GoodIn wsX7_text (wsV RX7 190 RX1 yX1_written wsX1_written) := by
  refine goodIn_app (goodIn_sub ?_ ?_) ggX7_text_X1_written
  · exact wm_c ⟨(wk_X7_text_X7_text_r1 _ (wm_8 (wm_4 (wm_2 wm_h)))), wm_c ⟨(wk_X7_text_X7_text_r1 _ (wm_8 (wm_4 (wm_2 (wm_1 wm_h))))), wm_c ⟨(wk_X7_text_X7_text_r1 _ (wm_16 wm_h)), wm_c ⟨(wk_X7_text_X7_text_r1 _ (wm_8 (wm_1 wm_h))), wm_n⟩⟩⟩⟩
  · decide +kernel
theorem dX7_text_0 : decode cX7_text 0 = .ok (.aload_n 0, 1) := by decide +kernel
theorem dX7_text_1 : decode cX7_text 1 = .ok (.iload_n 1, 1) := by decide +kernel
theorem dX7_text_2 : decode cX7_text 2 = .ok (.invokevirtual 162, 3) := by decide +kernel
theorem dX7_text_5 : decode cX7_text 5 = .ok (.ifCond .eq 5, 3) := by decide +kernel
theorem dX7_text_8 : decode cX7_text 8 = .ok (.iconst (-1), 1) := by decide +kernel
theorem dX7_text_9 : decode cX7_text 9 = .ok (.ireturn, 1) := by decide +kernel
theorem dX7_text_10 : decode cX7_text 10 = .ok (.aload_n 0, 1) := by decide +kernel
theorem dX7_text_11 : decode cX7_text 11 = .ok (.getfield 49, 3) := by decide +kernel
theorem dX7_text_14 : decode cX7_text 14 = .ok (.iload_n 1, 1) := by decide +kernel
theorem dX7_text_15 : decode cX7_text 15 = .ok (.iload_n 2, 1) := by decide +kernel
theorem dX7_text_16 : decode cX7_text 16 = .ok (.invokevirtual 190, 3) := by decide +kernel
theorem dX7_text_19 : decode cX7_text 19 = .ok (.ireturn, 1) := by decide +kernel
set_option maxRecDepth 20000 in
theorem ggX7_share_X6_placeOf : GoodIn wsX7_share wsX6_placeOf := by
  refine goodIn_sub ?_ gd_X6_placeOf
  unfold wsX6_placeOf
  refine wm_c ⟨(wk_X7_share_X7_share_r1 _ (wm_8 (wm_1 wm_h))), ?_⟩
  refine wm_a ⟨?_, ?_⟩
  · refine wm_c ⟨(wk_X7_share_X7_share_r1 _ (wm_8 (wm_2 wm_h))), ?_⟩
    refine wm_c ⟨(wk_X7_share_X7_share_r1 _ (wm_8 (wm_2 (wm_1 wm_h)))), ?_⟩
    refine wm_c ⟨(wk_X7_share_X7_share_r1 _ (wm_8 (wm_4 wm_h))), ?_⟩
    refine wm_c ⟨(wk_X7_share_X7_share_r1 _ (wm_8 (wm_4 (wm_1 wm_h)))), ?_⟩
    exact wm_n
  · exact wk_X7_share_X60
set_option maxRecDepth 20000 in
theorem gX7_share_X6_placeOf : GoodIn wsX7_share (wsV RX7 88 RX6 yX6_placeOf wsX6_placeOf) := by
  refine goodIn_app (goodIn_sub ?_ ?_) ggX7_share_X6_placeOf
  · exact wm_c ⟨(wk_X7_share_X7_share_r1 _ (wm_4 (wm_1 wm_h))), wm_c ⟨(wk_X7_share_X7_share_r1 _ (wm_4 (wm_2 wm_h))), wm_c ⟨(wk_X7_share_X7_share_r1 _ (wm_4 (wm_2 (wm_1 wm_h)))), wm_c ⟨(wk_X7_share_X7_share_r1 _ (wm_8 wm_h)), wm_n⟩⟩⟩⟩
  · decide +kernel
set_option maxRecDepth 20000 in
theorem ggX7_share_X7_noSum : GoodIn wsX7_share wsX7_noSum := by
  refine goodIn_sub ?_ gd_X7_noSum
  unfold wsX7_noSum
  refine wm_c ⟨(wk_X7_share_X7_share_r1 _ (wm_16 (wm_1 wm_h))), ?_⟩
  exact wm_n
set_option maxRecDepth 20000 in
theorem gX7_share_X7_noSum : GoodIn wsX7_share (va_wsS RX7 78 yX7_noSum wsX7_noSum) := goodIn_app (goodIn_of _ (by decide +kernel)) ggX7_share_X7_noSum
set_option maxRecDepth 20000 in
theorem ggX7_share_X1_measure : GoodIn wsX7_share wsX1_measure := by
  refine goodIn_sub ?_ gd_X1_measure
  unfold wsX1_measure
  refine wm_c ⟨(wk_X7_share_X7_share_r1 _ (wm_16 (wm_4 (wm_2 wm_h)))), ?_⟩
  refine wm_a ⟨?_, ?_⟩
  · refine wm_a ⟨?_, ?_⟩
    · refine wm_a ⟨?_, ?_⟩
      · refine wm_a ⟨?_, ?_⟩
        · unfold wsX1_measure_r1
          refine wm_c ⟨(wk_X7_share_X7_share_r1 _ (wm_16 (wm_4 (wm_2 (wm_1 wm_h))))), ?_⟩
          refine wm_c ⟨(wk_X7_share_X7_share_r2 _ wm_h), ?_⟩
          refine wm_c ⟨(wk_X7_share_X7_share_r2 _ (wm_1 wm_h)), ?_⟩
          refine wm_c ⟨(wk_X7_share_X7_share_r2 _ (wm_2 wm_h)), ?_⟩
          refine wm_c ⟨(wk_X7_share_X7_share_r1 _ (wm_8 wm_h)), ?_⟩
          refine wm_c ⟨(wk_X7_share_X7_share_r2 _ (wm_2 (wm_1 wm_h))), ?_⟩
          refine wm_c ⟨(wk_X7_share_X7_share_r1 _ (wm_8 (wm_2 wm_h))), ?_⟩
          refine wm_c ⟨(wk_X7_share_X7_share_r1 _ (wm_8 (wm_4 (wm_1 wm_h)))), ?_⟩
          refine wm_c ⟨(wk_X7_share_X7_share_r2 _ (wm_4 wm_h)), ?_⟩
          refine wm_c ⟨(wk_X7_share_X7_share_r2 _ (wm_4 (wm_1 wm_h))), ?_⟩
          refine wm_c ⟨(wk_X7_share_X7_share_r2 _ (wm_4 (wm_2 wm_h))), ?_⟩
          refine wm_c ⟨(wk_X7_share_X7_share_r1 _ (wm_16 (wm_4 (wm_1 wm_h)))), ?_⟩
          refine wm_c ⟨(wk_X7_share_X7_share_r2 _ (wm_4 (wm_2 (wm_1 wm_h)))), ?_⟩
          refine wm_c ⟨(wk_X7_share_X7_share_r2 _ (wm_8 wm_h)), ?_⟩
          refine wm_c ⟨(wk_X7_share_X7_share_r2 _ (wm_8 (wm_1 wm_h))), ?_⟩
          refine wm_c ⟨(wk_X7_share_X7_share_r2 _ (wm_8 (wm_2 wm_h))), ?_⟩
          refine wm_c ⟨(wk_X7_share_X7_share_r2 _ (wm_8 (wm_2 (wm_1 wm_h)))), ?_⟩
          refine wm_c ⟨(wk_X7_share_X7_share_r2 _ (wm_8 (wm_4 wm_h))), ?_⟩
          refine wm_c ⟨(wk_X7_share_X7_share_r2 _ (wm_8 (wm_4 (wm_1 wm_h)))), ?_⟩
          refine wm_c ⟨(wk_X7_share_X7_share_r2 _ (wm_8 (wm_4 (wm_2 wm_h)))), ?_⟩
          refine wm_c ⟨(wk_X7_share_X7_share_r2 _ (wm_8 (wm_4 (wm_2 (wm_1 wm_h))))), ?_⟩
          refine wm_c ⟨(wk_X7_share_X7_share_r2 _ (wm_16 wm_h)), ?_⟩
          refine wm_c ⟨(wk_X7_share_X7_share_r2 _ (wm_16 (wm_1 wm_h))), ?_⟩
          refine wm_c ⟨(wk_X7_share_X7_share_r2 _ (wm_16 (wm_2 wm_h))), ?_⟩
          exact wm_n
        · refine wm_a ⟨?_, ?_⟩
          · unfold wsX1_measure_r2
            refine wm_c ⟨(wk_X7_share_X7_share_r2 _ (wm_16 (wm_2 (wm_1 wm_h)))), ?_⟩
            refine wm_c ⟨(wk_X7_share_X7_share_r2 _ (wm_16 (wm_4 wm_h))), ?_⟩
            refine wm_c ⟨(wk_X7_share_X7_share_r2 _ (wm_16 (wm_4 (wm_1 wm_h)))), ?_⟩
            refine wm_c ⟨(wk_X7_share_X7_share_r2 _ (wm_16 (wm_4 (wm_2 wm_h)))), ?_⟩
            refine wm_c ⟨(wk_X7_share_X7_share_r2 _ (wm_16 (wm_4 (wm_2 (wm_1 wm_h))))), ?_⟩
            refine wm_c ⟨(wk_X7_share_X7_share_r3 _ wm_h), ?_⟩
            refine wm_c ⟨(wk_X7_share_X7_share_r3 _ (wm_1 wm_h)), ?_⟩
            refine wm_c ⟨(wk_X7_share_X7_share_r3 _ (wm_2 wm_h)), ?_⟩
            refine wm_c ⟨(wk_X7_share_X7_share_r3 _ (wm_2 (wm_1 wm_h))), ?_⟩
            refine wm_c ⟨(wk_X7_share_X7_share_r3 _ (wm_4 wm_h)), ?_⟩
            refine wm_c ⟨(wk_X7_share_X7_share_r3 _ (wm_4 (wm_1 wm_h))), ?_⟩
            refine wm_c ⟨(wk_X7_share_X7_share_r3 _ (wm_4 (wm_2 wm_h))), ?_⟩
            refine wm_c ⟨(wk_X7_share_X7_share_r3 _ (wm_4 (wm_2 (wm_1 wm_h)))), ?_⟩
            refine wm_c ⟨(wk_X7_share_X7_share_r3 _ (wm_8 wm_h)), ?_⟩
            refine wm_c ⟨(wk_X7_share_X7_share_r3 _ (wm_8 (wm_1 wm_h))), ?_⟩
            refine wm_c ⟨(wk_X7_share_X7_share_r3 _ (wm_8 (wm_2 wm_h))), ?_⟩
            refine wm_c ⟨(wk_X7_share_X7_share_r3 _ (wm_8 (wm_2 (wm_1 wm_h)))), ?_⟩
            refine wm_c ⟨(wk_X7_share_X7_share_r3 _ (wm_8 (wm_4 wm_h))), ?_⟩
            refine wm_c ⟨(wk_X7_share_X7_share_r3 _ (wm_8 (wm_4 (wm_1 wm_h)))), ?_⟩
            refine wm_c ⟨(wk_X7_share_X7_share_r3 _ (wm_8 (wm_4 (wm_2 wm_h)))), ?_⟩
            refine wm_c ⟨(wk_X7_share_X7_share_r3 _ (wm_8 (wm_4 (wm_2 (wm_1 wm_h))))), ?_⟩
            refine wm_c ⟨(wk_X7_share_X7_share_r3 _ (wm_16 wm_h)), ?_⟩
            refine wm_c ⟨(wk_X7_share_X7_share_r3 _ (wm_16 (wm_1 wm_h))), ?_⟩
            refine wm_c ⟨(wk_X7_share_X7_share_r3 _ (wm_16 (wm_2 wm_h))), ?_⟩
            exact wm_n
          · refine wm_a ⟨?_, ?_⟩
            · unfold wsX1_measure_r3
              refine wm_c ⟨(wk_X7_share_X7_share_r3 _ (wm_16 (wm_2 (wm_1 wm_h)))), ?_⟩
              refine wm_c ⟨(wk_X7_share_X7_share_r3 _ (wm_16 (wm_4 wm_h))), ?_⟩
              refine wm_c ⟨(wk_X7_share_X7_share_r3 _ (wm_16 (wm_4 (wm_1 wm_h)))), ?_⟩
              refine wm_c ⟨(wk_X7_share_X7_share_r3 _ (wm_16 (wm_4 (wm_2 wm_h)))), ?_⟩
              refine wm_c ⟨(wk_X7_share_X7_share_r3 _ (wm_16 (wm_4 (wm_2 (wm_1 wm_h))))), ?_⟩
              refine wm_c ⟨(wk_X7_share_X7_share_r4 _ wm_h), ?_⟩
              refine wm_c ⟨(wk_X7_share_X7_share_r4 _ (wm_1 wm_h)), ?_⟩
              refine wm_c ⟨(wk_X7_share_X7_share_r4 _ (wm_2 wm_h)), ?_⟩
              refine wm_c ⟨(wk_X7_share_X7_share_r4 _ (wm_2 (wm_1 wm_h))), ?_⟩
              refine wm_c ⟨(wk_X7_share_X7_share_r4 _ (wm_4 wm_h)), ?_⟩
              refine wm_c ⟨(wk_X7_share_X7_share_r4 _ (wm_4 (wm_1 wm_h))), ?_⟩
              refine wm_c ⟨(wk_X7_share_X7_share_r4 _ (wm_4 (wm_2 wm_h))), ?_⟩
              refine wm_c ⟨(wk_X7_share_X7_share_r4 _ (wm_4 (wm_2 (wm_1 wm_h)))), ?_⟩
              refine wm_c ⟨(wk_X7_share_X7_share_r4 _ (wm_8 wm_h)), ?_⟩
              refine wm_c ⟨(wk_X7_share_X7_share_r4 _ (wm_8 (wm_1 wm_h))), ?_⟩
              refine wm_c ⟨(wk_X7_share_X7_share_r4 _ (wm_8 (wm_2 wm_h))), ?_⟩
              refine wm_c ⟨(wk_X7_share_X7_share_r4 _ (wm_8 (wm_2 (wm_1 wm_h)))), ?_⟩
              refine wm_c ⟨(wk_X7_share_X7_share_r4 _ (wm_8 (wm_4 wm_h))), ?_⟩
              refine wm_c ⟨(wk_X7_share_X7_share_r4 _ (wm_8 (wm_4 (wm_1 wm_h)))), ?_⟩
              refine wm_c ⟨(wk_X7_share_X7_share_r4 _ (wm_8 (wm_4 (wm_2 wm_h)))), ?_⟩
              refine wm_c ⟨(wk_X7_share_X7_share_r4 _ (wm_8 (wm_4 (wm_2 (wm_1 wm_h))))), ?_⟩
              refine wm_c ⟨(wk_X7_share_X7_share_r4 _ (wm_16 wm_h)), ?_⟩
              refine wm_c ⟨(wk_X7_share_X7_share_r4 _ (wm_16 (wm_1 wm_h))), ?_⟩
              refine wm_c ⟨(wk_X7_share_X7_share_r4 _ (wm_16 (wm_2 wm_h))), ?_⟩
              exact wm_n
            · unfold wsX1_measure_r4
              refine wm_c ⟨(wk_X7_share_X7_share_r4 _ (wm_16 (wm_2 (wm_1 wm_h)))), ?_⟩
              refine wm_c ⟨(wk_X7_share_X7_share_r4 _ (wm_16 (wm_4 wm_h))), ?_⟩
              refine wm_c ⟨(wk_X7_share_X7_share_r4 _ (wm_16 (wm_4 (wm_1 wm_h)))), ?_⟩
              refine wm_c ⟨(wk_X7_share_X7_share_r4 _ (wm_16 (wm_4 (wm_2 wm_h)))), ?_⟩
              refine wm_c ⟨(wk_X7_share_X7_share_r4 _ (wm_16 (wm_4 (wm_2 (wm_1 wm_h))))), ?_⟩
              refine wm_c ⟨(wk_X7_share_X7_share_r5 _ wm_h), ?_⟩
              refine wm_c ⟨(wk_X7_share_X7_share_r5 _ (wm_1 wm_h)), ?_⟩
              refine wm_c ⟨(wk_X7_share_X7_share_r5 _ (wm_2 wm_h)), ?_⟩
              refine wm_c ⟨(wk_X7_share_X7_share_r5 _ (wm_2 (wm_1 wm_h))), ?_⟩
              refine wm_c ⟨(wk_X7_share_X7_share_r5 _ (wm_4 wm_h)), ?_⟩
              refine wm_c ⟨(wk_X7_share_X7_share_r5 _ (wm_4 (wm_1 wm_h))), ?_⟩
              refine wm_c ⟨(wk_X7_share_X7_share_r5 _ (wm_4 (wm_2 wm_h))), ?_⟩
              refine wm_c ⟨(wk_X7_share_X7_share_r5 _ (wm_4 (wm_2 (wm_1 wm_h)))), ?_⟩
              refine wm_c ⟨(wk_X7_share_X7_share_r5 _ (wm_8 wm_h)), ?_⟩
              refine wm_c ⟨(wk_X7_share_X7_share_r5 _ (wm_8 (wm_1 wm_h))), ?_⟩
              refine wm_c ⟨(wk_X7_share_X7_share_r5 _ (wm_8 (wm_2 wm_h))), ?_⟩
              refine wm_c ⟨(wk_X7_share_X7_share_r5 _ (wm_8 (wm_2 (wm_1 wm_h)))), ?_⟩
              refine wm_c ⟨(wk_X7_share_X7_share_r5 _ (wm_8 (wm_4 wm_h))), ?_⟩
              refine wm_c ⟨(wk_X7_share_X7_share_r5 _ (wm_8 (wm_4 (wm_1 wm_h)))), ?_⟩
              refine wm_c ⟨(wk_X7_share_X7_share_r5 _ (wm_8 (wm_4 (wm_2 wm_h)))), ?_⟩
              refine wm_c ⟨(wk_X7_share_X7_share_r5 _ (wm_8 (wm_4 (wm_2 (wm_1 wm_h))))), ?_⟩
              refine wm_c ⟨(wk_X7_share_X7_share_r5 _ (wm_16 wm_h)), ?_⟩
              exact wm_n
      · exact wk_X7_share_X10
    · exact wk_X7_share_X60
  · exact wk_X7_share_X00
set_option maxRecDepth 20000 in
theorem gX7_share_X1_measure : GoodIn wsX7_share (wsV RX7 193 RX1 yX1_measure wsX1_measure) := by
  refine goodIn_app (goodIn_sub ?_ ?_) ggX7_share_X1_measure
  · exact wm_c ⟨(wk_X7_share_X7_share_r1 _ (wm_16 (wm_2 wm_h))), wm_c ⟨(wk_X7_share_X7_share_r1 _ (wm_16 (wm_2 (wm_1 wm_h)))), wm_c ⟨(wk_X7_share_X7_share_r1 _ (wm_16 (wm_4 wm_h))), wm_c ⟨(wk_X7_share_X7_share_r1 _ (wm_16 (wm_4 (wm_1 wm_h)))), wm_n⟩⟩⟩⟩
  · decide +kernel
set_option maxRecDepth 20000 in
theorem ggX7_share_X0_inner : GoodIn wsX7_share wsX0_inner := by
  refine goodIn_sub ?_ gd_X0_inner
  unfold wsX0_inner
  refine wm_c ⟨(wk_X7_share_X7_share_r5 _ (wm_16 (wm_4 wm_h))), ?_⟩
  refine wm_c ⟨(wk_X7_share_X7_share_r5 _ (wm_16 (wm_4 (wm_1 wm_h)))), ?_⟩
  refine wm_c ⟨(wk_X7_share_X7_share_r5 _ (wm_16 (wm_4 (wm_2 wm_h)))), ?_⟩
  refine wm_c ⟨(wk_X7_share_X7_share_r4 _ (wm_8 (wm_2 (wm_1 wm_h)))), ?_⟩
  refine wm_c ⟨(wk_X7_share_X7_share_r5 _ (wm_16 (wm_4 (wm_2 (wm_1 wm_h))))), ?_⟩
  refine wm_c ⟨(wk_X7_share_X7_share_r4 _ (wm_8 (wm_4 (wm_1 wm_h)))), ?_⟩
  exact wm_n
set_option maxRecDepth 20000 in
theorem gX7_share_X0_inner : GoodIn wsX7_share (wsV RX7 158 RX0 yX0_inner wsX0_inner) := by
  refine goodIn_app (goodIn_sub ?_ ?_) ggX7_share_X0_inner
  · exact wm_c ⟨(wk_X7_share_X7_share_r5 _ (wm_16 (wm_1 wm_h))), wm_c ⟨(wk_X7_share_X7_share_r5 _ (wm_16 (wm_2 wm_h))), wm_c ⟨(wk_X7_share_X7_share_r5 _ (wm_16 (wm_2 (wm_1 wm_h)))), wm_c ⟨(wk_X7_share_X7_share_r2 _ (wm_16 (wm_4 wm_h))), wm_n⟩⟩⟩⟩
  · decide +kernel
theorem dX7_share_0 : decode cX7_share 0 = .ok (.aload_n 0, 1) := by decide +kernel
theorem dX7_share_1 : decode cX7_share 1 = .ok (.getfield 20, 3) := by decide +kernel
theorem dX7_share_4 : decode cX7_share 4 = .ok (.iload_n 2, 1) := by decide +kernel
theorem dX7_share_5 : decode cX7_share 5 = .ok (.invokevirtual 88, 3) := by decide +kernel
theorem dX7_share_8 : decode cX7_share 8 = .ok (.istore_n 3, 1) := by decide +kernel
theorem dX7_share_9 : decode cX7_share 9 = .ok (.iload_n 1, 1) := by decide +kernel
theorem dX7_share_10 : decode cX7_share 10 = .ok (.invokestatic 78, 3) := by decide +kernel
theorem dX7_share_13 : decode cX7_share 13 = .ok (.ifCond .ne 7, 3) := by decide +kernel
theorem dX7_share_16 : decode cX7_share 16 = .ok (.iload_n 3, 1) := by decide +kernel
theorem dX7_share_17 : decode cX7_share 17 = .ok (.ifCond .ge 5, 3) := by decide +kernel
theorem dX7_share_20 : decode cX7_share 20 = .ok (.iconst (-1), 1) := by decide +kernel
theorem dX7_share_21 : decode cX7_share 21 = .ok (.ireturn, 1) := by decide +kernel
theorem dX7_share_22 : decode cX7_share 22 = .ok (.aload_n 0, 1) := by decide +kernel
theorem dX7_share_23 : decode cX7_share 23 = .ok (.getfield 49, 3) := by decide +kernel
theorem dX7_share_26 : decode cX7_share 26 = .ok (.iload_n 3, 1) := by decide +kernel
theorem dX7_share_27 : decode cX7_share 27 = .ok (.iconst 0, 1) := by decide +kernel
theorem dX7_share_28 : decode cX7_share 28 = .ok (.invokevirtual 193, 3) := by decide +kernel
theorem dX7_share_31 : decode cX7_share 31 = .ok (.aload_n 0, 1) := by decide +kernel
theorem dX7_share_32 : decode cX7_share 32 = .ok (.getfield 40, 3) := by decide +kernel
theorem dX7_share_35 : decode cX7_share 35 = .ok (.aload_n 0, 1) := by decide +kernel
theorem dX7_share_36 : decode cX7_share 36 = .ok (.getfield 32, 3) := by decide +kernel
theorem dX7_share_39 : decode cX7_share 39 = .ok (.iload_n 1, 1) := by decide +kernel
theorem dX7_share_40 : decode cX7_share 40 = .ok (.aaload, 1) := by decide +kernel
theorem dX7_share_41 : decode cX7_share 41 = .ok (.aload_n 0, 1) := by decide +kernel
theorem dX7_share_42 : decode cX7_share 42 = .ok (.getfield 40, 3) := by decide +kernel
theorem dX7_share_45 : decode cX7_share 45 = .ok (.getfield 184, 3) := by decide +kernel
theorem dX7_share_48 : decode cX7_share 48 = .ok (.iconst 0, 1) := by decide +kernel
theorem dX7_share_49 : decode cX7_share 49 = .ok (.aaload, 1) := by decide +kernel
theorem dX7_share_50 : decode cX7_share 50 = .ok (.invokevirtual 158, 3) := by decide +kernel
theorem dX7_share_53 : decode cX7_share 53 = .ok (.ireturn, 1) := by decide +kernel
set_option maxRecDepth 20000 in
theorem ggX7_lie_X7_noSum : GoodIn wsX7_lie wsX7_noSum := by
  refine goodIn_sub ?_ gd_X7_noSum
  unfold wsX7_noSum
  refine wm_c ⟨(wk_X7_lie_X7_lie_r1 _ (wm_4 (wm_1 wm_h))), ?_⟩
  exact wm_n
set_option maxRecDepth 20000 in
theorem gX7_lie_X7_noSum : GoodIn wsX7_lie (va_wsS RX7 78 yX7_noSum wsX7_noSum) := goodIn_app (goodIn_of _ (by decide +kernel)) ggX7_lie_X7_noSum
set_option maxRecDepth 20000 in
theorem ggX7_lie_X0_isLie : GoodIn wsX7_lie wsX0_isLie := by
  refine goodIn_sub ?_ gd_X0_isLie
  unfold wsX0_isLie
  refine wm_c ⟨(wk_X7_lie_X7_lie_r1 _ (wm_8 (wm_2 wm_h))), ?_⟩
  refine wm_a ⟨?_, ?_⟩
  · refine wm_a ⟨?_, ?_⟩
    · unfold wsX0_isLie_r1
      refine wm_c ⟨(wk_X7_lie_X7_lie_r1 _ (wm_8 (wm_2 (wm_1 wm_h)))), ?_⟩
      refine wm_c ⟨(wk_X7_lie_X7_lie_r1 _ (wm_8 (wm_4 wm_h))), ?_⟩
      refine wm_c ⟨(wk_X7_lie_X7_lie_r1 _ (wm_8 (wm_4 (wm_1 wm_h)))), ?_⟩
      refine wm_c ⟨(wk_X7_lie_X7_lie_r1 _ (wm_8 (wm_4 (wm_2 wm_h)))), ?_⟩
      refine wm_c ⟨(wk_X7_lie_X7_lie_r1 _ (wm_8 (wm_1 wm_h))), ?_⟩
      refine wm_c ⟨(wk_X7_lie_X7_lie_r1 _ (wm_8 (wm_4 (wm_2 (wm_1 wm_h))))), ?_⟩
      refine wm_c ⟨(wk_X7_lie_X7_lie_r1 _ (wm_16 wm_h)), ?_⟩
      refine wm_c ⟨(wk_X7_lie_X7_lie_r1 _ (wm_16 (wm_1 wm_h))), ?_⟩
      refine wm_c ⟨(wk_X7_lie_X7_lie_r1 _ (wm_16 (wm_2 wm_h))), ?_⟩
      refine wm_c ⟨(wk_X7_lie_X7_lie_r1 _ (wm_16 (wm_2 (wm_1 wm_h)))), ?_⟩
      refine wm_c ⟨(wk_X7_lie_X7_lie_r1 _ (wm_16 (wm_4 wm_h))), ?_⟩
      refine wm_c ⟨(wk_X7_lie_X7_lie_r1 _ (wm_16 (wm_4 (wm_1 wm_h)))), ?_⟩
      refine wm_c ⟨(wk_X7_lie_X7_lie_r1 _ (wm_16 (wm_4 (wm_2 wm_h)))), ?_⟩
      refine wm_c ⟨(wk_X7_lie_X7_lie_r1 _ (wm_16 (wm_4 (wm_2 (wm_1 wm_h))))), ?_⟩
      refine wm_c ⟨(wk_X7_lie_X7_lie_r2 _ wm_h), ?_⟩
      refine wm_c ⟨(wk_X7_lie_X7_lie_r2 _ (wm_1 wm_h)), ?_⟩
      refine wm_c ⟨(wk_X7_lie_X7_lie_r2 _ (wm_2 wm_h)), ?_⟩
      refine wm_c ⟨(wk_X7_lie_X7_lie_r2 _ (wm_2 (wm_1 wm_h))), ?_⟩
      refine wm_c ⟨(wk_X7_lie_X7_lie_r2 _ (wm_4 wm_h)), ?_⟩
      refine wm_c ⟨(wk_X7_lie_X7_lie_r2 _ (wm_4 (wm_1 wm_h))), ?_⟩
      refine wm_c ⟨(wk_X7_lie_X7_lie_r2 _ (wm_4 (wm_2 wm_h))), ?_⟩
      refine wm_c ⟨(wk_X7_lie_X7_lie_r2 _ (wm_4 (wm_2 (wm_1 wm_h)))), ?_⟩
      refine wm_c ⟨(wk_X7_lie_X7_lie_r2 _ (wm_8 wm_h)), ?_⟩
      refine wm_c ⟨(wk_X7_lie_X7_lie_r2 _ (wm_8 (wm_1 wm_h))), ?_⟩
      exact wm_n
    · unfold wsX0_isLie_r2
      refine wm_c ⟨(wk_X7_lie_X7_lie_r2 _ (wm_8 (wm_2 wm_h))), ?_⟩
      refine wm_c ⟨(wk_X7_lie_X7_lie_r2 _ (wm_8 (wm_2 (wm_1 wm_h)))), ?_⟩
      refine wm_c ⟨(wk_X7_lie_X7_lie_r2 _ (wm_8 (wm_4 wm_h))), ?_⟩
      refine wm_c ⟨(wk_X7_lie_X7_lie_r2 _ (wm_8 (wm_4 (wm_1 wm_h)))), ?_⟩
      refine wm_c ⟨(wk_X7_lie_X7_lie_r2 _ (wm_8 (wm_4 (wm_2 wm_h)))), ?_⟩
      refine wm_c ⟨(wk_X7_lie_X7_lie_r2 _ (wm_8 (wm_4 (wm_2 (wm_1 wm_h))))), ?_⟩
      refine wm_c ⟨(wk_X7_lie_X7_lie_r2 _ (wm_16 wm_h)), ?_⟩
      refine wm_c ⟨(wk_X7_lie_X7_lie_r2 _ (wm_16 (wm_1 wm_h))), ?_⟩
      exact wm_n
  · exact wk_X7_lie_X00
set_option maxRecDepth 20000 in
theorem gX7_lie_X0_isLie : GoodIn wsX7_lie (wsV RX7 196 RX0 yX0_isLie wsX0_isLie) := by
  refine goodIn_app (goodIn_sub ?_ ?_) ggX7_lie_X0_isLie
  · exact wm_c ⟨(wk_X7_lie_X7_lie_r1 _ (wm_4 (wm_2 wm_h))), wm_c ⟨(wk_X7_lie_X7_lie_r1 _ (wm_4 (wm_2 (wm_1 wm_h)))), wm_c ⟨(wk_X7_lie_X7_lie_r1 _ (wm_8 wm_h)), wm_c ⟨(wk_X7_lie_X7_lie_r1 _ (wm_8 (wm_1 wm_h))), wm_n⟩⟩⟩⟩
  · decide +kernel
theorem dX7_lie_0 : decode cX7_lie 0 = .ok (.iload_n 1, 1) := by decide +kernel
theorem dX7_lie_1 : decode cX7_lie 1 = .ok (.invokestatic 78, 3) := by decide +kernel
theorem dX7_lie_4 : decode cX7_lie 4 = .ok (.ifCond .eq 5, 3) := by decide +kernel
theorem dX7_lie_7 : decode cX7_lie 7 = .ok (.iconst (-1), 1) := by decide +kernel
theorem dX7_lie_8 : decode cX7_lie 8 = .ok (.ireturn, 1) := by decide +kernel
theorem dX7_lie_9 : decode cX7_lie 9 = .ok (.aload_n 0, 1) := by decide +kernel
theorem dX7_lie_10 : decode cX7_lie 10 = .ok (.getfield 40, 3) := by decide +kernel
theorem dX7_lie_13 : decode cX7_lie 13 = .ok (.aload_n 0, 1) := by decide +kernel
theorem dX7_lie_14 : decode cX7_lie 14 = .ok (.getfield 32, 3) := by decide +kernel
theorem dX7_lie_17 : decode cX7_lie 17 = .ok (.iload_n 1, 1) := by decide +kernel
theorem dX7_lie_18 : decode cX7_lie 18 = .ok (.aaload, 1) := by decide +kernel
theorem dX7_lie_19 : decode cX7_lie 19 = .ok (.invokevirtual 196, 3) := by decide +kernel
theorem dX7_lie_22 : decode cX7_lie 22 = .ok (.ifCond .eq 7, 3) := by decide +kernel
theorem dX7_lie_25 : decode cX7_lie 25 = .ok (.iconst 1, 1) := by decide +kernel
theorem dX7_lie_26 : decode cX7_lie 26 = .ok (.goto 4, 3) := by decide +kernel
theorem dX7_lie_29 : decode cX7_lie 29 = .ok (.iconst 0, 1) := by decide +kernel
theorem dX7_lie_30 : decode cX7_lie 30 = .ok (.ireturn, 1) := by decide +kernel
set_option maxRecDepth 20000 in
theorem ggX7_table_X7_noChief : GoodIn wsX7_table wsX7_noChief := by
  refine goodIn_sub ?_ gd_X7_noChief
  unfold wsX7_noChief
  refine wm_c ⟨(wk_X7_table_X7_table_r1 _ (wm_4 (wm_2 wm_h))), ?_⟩
  refine wm_a ⟨?_, ?_⟩
  · refine wm_a ⟨?_, ?_⟩
    · refine wm_a ⟨?_, ?_⟩
      · refine wm_c ⟨(wk_X7_table_X7_table_r1 _ (wm_1 wm_h)), ?_⟩
        refine wm_c ⟨(wk_X7_table_X7_table_r1 _ (wm_4 (wm_2 (wm_1 wm_h)))), ?_⟩
        refine wm_c ⟨(wk_X7_table_X7_table_r1 _ (wm_8 wm_h)), ?_⟩
        refine wm_c ⟨(wk_X7_table_X7_table_r1 _ (wm_8 (wm_1 wm_h))), ?_⟩
        refine wm_c ⟨(wk_X7_table_X7_table_r1 _ (wm_8 (wm_2 wm_h))), ?_⟩
        refine wm_c ⟨(wk_X7_table_X7_table_r1 _ (wm_8 (wm_2 (wm_1 wm_h)))), ?_⟩
        refine wm_c ⟨(wk_X7_table_X7_table_r1 _ (wm_8 (wm_4 wm_h))), ?_⟩
        refine wm_c ⟨(wk_X7_table_X7_table_r1 _ (wm_8 (wm_4 (wm_1 wm_h)))), ?_⟩
        refine wm_c ⟨(wk_X7_table_X7_table_r1 _ (wm_8 (wm_4 (wm_2 wm_h)))), ?_⟩
        exact wm_n
      · exact wk_X7_table_X70
    · exact wk_X7_table_X10
  · exact wk_X7_table_X60
set_option maxRecDepth 20000 in
theorem gX7_table_X7_noChief : GoodIn wsX7_table (wsV RX7 162 RX7 yX7_noChief wsX7_noChief) := by
  refine goodIn_app (goodIn_sub ?_ ?_) ggX7_table_X7_noChief
  · exact wm_c ⟨(wk_X7_table_X7_table_r1 _ (wm_2 wm_h)), wm_c ⟨(wk_X7_table_X7_table_r1 _ (wm_2 (wm_1 wm_h))), wm_c ⟨(wk_X7_table_X7_table_r1 _ (wm_4 wm_h)), wm_c ⟨(wk_X7_table_X7_table_r1 _ (wm_4 (wm_1 wm_h))), wm_n⟩⟩⟩⟩
  · decide +kernel
set_option maxRecDepth 20000 in
theorem ggX7_table_X1_shareInBracket : GoodIn wsX7_table wsX1_shareInBracket := by
  refine goodIn_sub ?_ gd_X1_shareInBracket
  unfold wsX1_shareInBracket
  refine wm_c ⟨(wk_X7_table_X7_table_r1 _ (wm_16 (wm_2 wm_h))), ?_⟩
  refine wm_a ⟨?_, ?_⟩
  · refine wm_a ⟨?_, ?_⟩
    · refine wm_a ⟨?_, ?_⟩
      · refine wm_a ⟨?_, ?_⟩
        · unfold wsX1_shareInBracket_r1
          refine wm_c ⟨(wk_X7_table_X7_table_r1 _ (wm_8 (wm_4 (wm_1 wm_h)))), ?_⟩
          refine wm_c ⟨(wk_X7_table_X7_table_r1 _ (wm_16 (wm_2 (wm_1 wm_h)))), ?_⟩
          refine wm_c ⟨(wk_X7_table_X7_table_r1 _ (wm_16 (wm_4 wm_h))), ?_⟩
          refine wm_c ⟨(wk_X7_table_X7_table_r1 _ (wm_16 (wm_4 (wm_1 wm_h)))), ?_⟩
          refine wm_c ⟨(wk_X7_table_X7_table_r1 _ (wm_16 (wm_4 (wm_2 wm_h)))), ?_⟩
          refine wm_c ⟨(wk_X7_table_X7_table_r1 _ (wm_16 (wm_4 (wm_2 (wm_1 wm_h))))), ?_⟩
          refine wm_c ⟨(wk_X7_table_X7_table_r2 _ wm_h), ?_⟩
          refine wm_c ⟨(wk_X7_table_X7_table_r2 _ (wm_1 wm_h)), ?_⟩
          refine wm_c ⟨(wk_X7_table_X7_table_r2 _ (wm_2 wm_h)), ?_⟩
          refine wm_c ⟨(wk_X7_table_X7_table_r2 _ (wm_2 (wm_1 wm_h))), ?_⟩
          refine wm_c ⟨(wk_X7_table_X7_table_r2 _ (wm_4 wm_h)), ?_⟩
          refine wm_c ⟨(wk_X7_table_X7_table_r2 _ (wm_4 (wm_1 wm_h))), ?_⟩
          refine wm_c ⟨(wk_X7_table_X7_table_r2 _ (wm_4 (wm_2 wm_h))), ?_⟩
          refine wm_c ⟨(wk_X7_table_X7_table_r2 _ (wm_4 (wm_2 (wm_1 wm_h)))), ?_⟩
          refine wm_c ⟨(wk_X7_table_X7_table_r1 _ (wm_8 (wm_2 wm_h))), ?_⟩
          refine wm_c ⟨(wk_X7_table_X7_table_r2 _ (wm_8 wm_h)), ?_⟩
          refine wm_c ⟨(wk_X7_table_X7_table_r2 _ (wm_8 (wm_1 wm_h))), ?_⟩
          refine wm_c ⟨(wk_X7_table_X7_table_r2 _ (wm_8 (wm_2 wm_h))), ?_⟩
          refine wm_c ⟨(wk_X7_table_X7_table_r2 _ (wm_8 (wm_2 (wm_1 wm_h)))), ?_⟩
          refine wm_c ⟨(wk_X7_table_X7_table_r2 _ (wm_8 (wm_4 wm_h))), ?_⟩
          refine wm_c ⟨(wk_X7_table_X7_table_r2 _ (wm_8 (wm_4 (wm_1 wm_h)))), ?_⟩
          refine wm_c ⟨(wk_X7_table_X7_table_r2 _ (wm_8 (wm_4 (wm_2 wm_h)))), ?_⟩
          refine wm_c ⟨(wk_X7_table_X7_table_r2 _ (wm_8 (wm_4 (wm_2 (wm_1 wm_h))))), ?_⟩
          refine wm_c ⟨(wk_X7_table_X7_table_r2 _ (wm_16 wm_h)), ?_⟩
          exact wm_n
        · refine wm_a ⟨?_, ?_⟩
          · unfold wsX1_shareInBracket_r2
            refine wm_c ⟨(wk_X7_table_X7_table_r2 _ (wm_16 (wm_1 wm_h))), ?_⟩
            refine wm_c ⟨(wk_X7_table_X7_table_r2 _ (wm_16 (wm_2 wm_h))), ?_⟩
            refine wm_c ⟨(wk_X7_table_X7_table_r2 _ (wm_16 (wm_2 (wm_1 wm_h)))), ?_⟩
            refine wm_c ⟨(wk_X7_table_X7_table_r2 _ (wm_16 (wm_4 wm_h))), ?_⟩
            refine wm_c ⟨(wk_X7_table_X7_table_r2 _ (wm_16 (wm_4 (wm_1 wm_h)))), ?_⟩
            refine wm_c ⟨(wk_X7_table_X7_table_r2 _ (wm_16 (wm_4 (wm_2 wm_h)))), ?_⟩
            refine wm_c ⟨(wk_X7_table_X7_table_r2 _ (wm_16 (wm_4 (wm_2 (wm_1 wm_h))))), ?_⟩
            refine wm_c ⟨(wk_X7_table_X7_table_r3 _ wm_h), ?_⟩
            refine wm_c ⟨(wk_X7_table_X7_table_r3 _ (wm_1 wm_h)), ?_⟩
            refine wm_c ⟨(wk_X7_table_X7_table_r3 _ (wm_2 wm_h)), ?_⟩
            refine wm_c ⟨(wk_X7_table_X7_table_r3 _ (wm_2 (wm_1 wm_h))), ?_⟩
            refine wm_c ⟨(wk_X7_table_X7_table_r3 _ (wm_4 wm_h)), ?_⟩
            refine wm_c ⟨(wk_X7_table_X7_table_r3 _ (wm_4 (wm_1 wm_h))), ?_⟩
            refine wm_c ⟨(wk_X7_table_X7_table_r3 _ (wm_4 (wm_2 wm_h))), ?_⟩
            refine wm_c ⟨(wk_X7_table_X7_table_r3 _ (wm_4 (wm_2 (wm_1 wm_h)))), ?_⟩
            refine wm_c ⟨(wk_X7_table_X7_table_r3 _ (wm_8 wm_h)), ?_⟩
            refine wm_c ⟨(wk_X7_table_X7_table_r3 _ (wm_8 (wm_1 wm_h))), ?_⟩
            refine wm_c ⟨(wk_X7_table_X7_table_r3 _ (wm_8 (wm_2 wm_h))), ?_⟩
            refine wm_c ⟨(wk_X7_table_X7_table_r3 _ (wm_8 (wm_2 (wm_1 wm_h)))), ?_⟩
            refine wm_c ⟨(wk_X7_table_X7_table_r3 _ (wm_8 (wm_4 wm_h))), ?_⟩
            refine wm_c ⟨(wk_X7_table_X7_table_r3 _ (wm_8 (wm_4 (wm_1 wm_h)))), ?_⟩
            refine wm_c ⟨(wk_X7_table_X7_table_r3 _ (wm_8 (wm_4 (wm_2 wm_h)))), ?_⟩
            refine wm_c ⟨(wk_X7_table_X7_table_r3 _ (wm_8 (wm_4 (wm_2 (wm_1 wm_h))))), ?_⟩
            refine wm_c ⟨(wk_X7_table_X7_table_r3 _ (wm_16 wm_h)), ?_⟩
            exact wm_n
          · refine wm_a ⟨?_, ?_⟩
            · unfold wsX1_shareInBracket_r3
              refine wm_c ⟨(wk_X7_table_X7_table_r3 _ (wm_16 (wm_1 wm_h))), ?_⟩
              refine wm_c ⟨(wk_X7_table_X7_table_r3 _ (wm_16 (wm_2 wm_h))), ?_⟩
              refine wm_c ⟨(wk_X7_table_X7_table_r3 _ (wm_16 (wm_2 (wm_1 wm_h)))), ?_⟩
              refine wm_c ⟨(wk_X7_table_X7_table_r3 _ (wm_16 (wm_4 wm_h))), ?_⟩
              refine wm_c ⟨(wk_X7_table_X7_table_r3 _ (wm_16 (wm_4 (wm_1 wm_h)))), ?_⟩
              refine wm_c ⟨(wk_X7_table_X7_table_r3 _ (wm_16 (wm_4 (wm_2 wm_h)))), ?_⟩
              refine wm_c ⟨(wk_X7_table_X7_table_r3 _ (wm_16 (wm_4 (wm_2 (wm_1 wm_h))))), ?_⟩
              refine wm_c ⟨(wk_X7_table_X7_table_r4 _ wm_h), ?_⟩
              refine wm_c ⟨(wk_X7_table_X7_table_r4 _ (wm_1 wm_h)), ?_⟩
              refine wm_c ⟨(wk_X7_table_X7_table_r4 _ (wm_2 wm_h)), ?_⟩
              refine wm_c ⟨(wk_X7_table_X7_table_r4 _ (wm_2 (wm_1 wm_h))), ?_⟩
              refine wm_c ⟨(wk_X7_table_X7_table_r4 _ (wm_4 wm_h)), ?_⟩
              refine wm_c ⟨(wk_X7_table_X7_table_r4 _ (wm_4 (wm_1 wm_h))), ?_⟩
              refine wm_c ⟨(wk_X7_table_X7_table_r4 _ (wm_4 (wm_2 wm_h))), ?_⟩
              refine wm_c ⟨(wk_X7_table_X7_table_r4 _ (wm_4 (wm_2 (wm_1 wm_h)))), ?_⟩
              refine wm_c ⟨(wk_X7_table_X7_table_r4 _ (wm_8 wm_h)), ?_⟩
              refine wm_c ⟨(wk_X7_table_X7_table_r4 _ (wm_8 (wm_1 wm_h))), ?_⟩
              refine wm_c ⟨(wk_X7_table_X7_table_r4 _ (wm_8 (wm_2 wm_h))), ?_⟩
              refine wm_c ⟨(wk_X7_table_X7_table_r4 _ (wm_8 (wm_2 (wm_1 wm_h)))), ?_⟩
              refine wm_c ⟨(wk_X7_table_X7_table_r4 _ (wm_8 (wm_4 wm_h))), ?_⟩
              refine wm_c ⟨(wk_X7_table_X7_table_r4 _ (wm_8 (wm_4 (wm_1 wm_h)))), ?_⟩
              refine wm_c ⟨(wk_X7_table_X7_table_r4 _ (wm_8 (wm_4 (wm_2 wm_h)))), ?_⟩
              refine wm_c ⟨(wk_X7_table_X7_table_r4 _ (wm_8 (wm_4 (wm_2 (wm_1 wm_h))))), ?_⟩
              refine wm_c ⟨(wk_X7_table_X7_table_r4 _ (wm_16 wm_h)), ?_⟩
              exact wm_n
            · refine wm_a ⟨?_, ?_⟩
              · unfold wsX1_shareInBracket_r4
                refine wm_c ⟨(wk_X7_table_X7_table_r4 _ (wm_16 (wm_1 wm_h))), ?_⟩
                refine wm_c ⟨(wk_X7_table_X7_table_r4 _ (wm_16 (wm_2 wm_h))), ?_⟩
                refine wm_c ⟨(wk_X7_table_X7_table_r4 _ (wm_16 (wm_2 (wm_1 wm_h)))), ?_⟩
                refine wm_c ⟨(wk_X7_table_X7_table_r4 _ (wm_16 (wm_4 wm_h))), ?_⟩
                refine wm_c ⟨(wk_X7_table_X7_table_r4 _ (wm_16 (wm_4 (wm_1 wm_h)))), ?_⟩
                refine wm_c ⟨(wk_X7_table_X7_table_r4 _ (wm_16 (wm_4 (wm_2 wm_h)))), ?_⟩
                refine wm_c ⟨(wk_X7_table_X7_table_r4 _ (wm_16 (wm_4 (wm_2 (wm_1 wm_h))))), ?_⟩
                refine wm_c ⟨(wk_X7_table_X7_table_r5 _ wm_h), ?_⟩
                refine wm_c ⟨(wk_X7_table_X7_table_r5 _ (wm_1 wm_h)), ?_⟩
                refine wm_c ⟨(wk_X7_table_X7_table_r5 _ (wm_2 wm_h)), ?_⟩
                refine wm_c ⟨(wk_X7_table_X7_table_r5 _ (wm_2 (wm_1 wm_h))), ?_⟩
                refine wm_c ⟨(wk_X7_table_X7_table_r5 _ (wm_4 wm_h)), ?_⟩
                refine wm_c ⟨(wk_X7_table_X7_table_r5 _ (wm_4 (wm_1 wm_h))), ?_⟩
                refine wm_c ⟨(wk_X7_table_X7_table_r5 _ (wm_4 (wm_2 wm_h))), ?_⟩
                refine wm_c ⟨(wk_X7_table_X7_table_r5 _ (wm_4 (wm_2 (wm_1 wm_h)))), ?_⟩
                refine wm_c ⟨(wk_X7_table_X7_table_r5 _ (wm_8 wm_h)), ?_⟩
                refine wm_c ⟨(wk_X7_table_X7_table_r5 _ (wm_8 (wm_1 wm_h))), ?_⟩
                refine wm_c ⟨(wk_X7_table_X7_table_r5 _ (wm_8 (wm_2 wm_h))), ?_⟩
                refine wm_c ⟨(wk_X7_table_X7_table_r5 _ (wm_8 (wm_2 (wm_1 wm_h)))), ?_⟩
                refine wm_c ⟨(wk_X7_table_X7_table_r5 _ (wm_8 (wm_4 wm_h))), ?_⟩
                refine wm_c ⟨(wk_X7_table_X7_table_r5 _ (wm_8 (wm_4 (wm_1 wm_h)))), ?_⟩
                refine wm_c ⟨(wk_X7_table_X7_table_r5 _ (wm_8 (wm_4 (wm_2 wm_h)))), ?_⟩
                refine wm_c ⟨(wk_X7_table_X7_table_r5 _ (wm_8 (wm_4 (wm_2 (wm_1 wm_h))))), ?_⟩
                refine wm_c ⟨(wk_X7_table_X7_table_r5 _ (wm_16 wm_h)), ?_⟩
                exact wm_n
              · refine wm_a ⟨?_, ?_⟩
                · unfold wsX1_shareInBracket_r5
                  refine wm_c ⟨(wk_X7_table_X7_table_r5 _ (wm_16 (wm_1 wm_h))), ?_⟩
                  refine wm_c ⟨(wk_X7_table_X7_table_r5 _ (wm_16 (wm_2 wm_h))), ?_⟩
                  refine wm_c ⟨(wk_X7_table_X7_table_r5 _ (wm_16 (wm_2 (wm_1 wm_h)))), ?_⟩
                  refine wm_c ⟨(wk_X7_table_X7_table_r5 _ (wm_16 (wm_4 wm_h))), ?_⟩
                  refine wm_c ⟨(wk_X7_table_X7_table_r5 _ (wm_16 (wm_4 (wm_1 wm_h)))), ?_⟩
                  refine wm_c ⟨(wk_X7_table_X7_table_r5 _ (wm_16 (wm_4 (wm_2 wm_h)))), ?_⟩
                  refine wm_c ⟨(wk_X7_table_X7_table_r5 _ (wm_16 (wm_4 (wm_2 (wm_1 wm_h))))), ?_⟩
                  refine wm_c ⟨(wk_X7_table_X7_table_r6 _ wm_h), ?_⟩
                  refine wm_c ⟨(wk_X7_table_X7_table_r6 _ (wm_1 wm_h)), ?_⟩
                  refine wm_c ⟨(wk_X7_table_X7_table_r6 _ (wm_2 wm_h)), ?_⟩
                  refine wm_c ⟨(wk_X7_table_X7_table_r6 _ (wm_2 (wm_1 wm_h))), ?_⟩
                  refine wm_c ⟨(wk_X7_table_X7_table_r6 _ (wm_4 wm_h)), ?_⟩
                  refine wm_c ⟨(wk_X7_table_X7_table_r6 _ (wm_4 (wm_1 wm_h))), ?_⟩
                  refine wm_c ⟨(wk_X7_table_X7_table_r6 _ (wm_4 (wm_2 wm_h))), ?_⟩
                  refine wm_c ⟨(wk_X7_table_X7_table_r6 _ (wm_4 (wm_2 (wm_1 wm_h)))), ?_⟩
                  refine wm_c ⟨(wk_X7_table_X7_table_r6 _ (wm_8 wm_h)), ?_⟩
                  refine wm_c ⟨(wk_X7_table_X7_table_r6 _ (wm_8 (wm_1 wm_h))), ?_⟩
                  refine wm_c ⟨(wk_X7_table_X7_table_r6 _ (wm_8 (wm_2 wm_h))), ?_⟩
                  refine wm_c ⟨(wk_X7_table_X7_table_r6 _ (wm_8 (wm_2 (wm_1 wm_h)))), ?_⟩
                  refine wm_c ⟨(wk_X7_table_X7_table_r6 _ (wm_8 (wm_4 wm_h))), ?_⟩
                  refine wm_c ⟨(wk_X7_table_X7_table_r6 _ (wm_8 (wm_4 (wm_1 wm_h)))), ?_⟩
                  refine wm_c ⟨(wk_X7_table_X7_table_r6 _ (wm_8 (wm_4 (wm_2 wm_h)))), ?_⟩
                  refine wm_c ⟨(wk_X7_table_X7_table_r6 _ (wm_8 (wm_4 (wm_2 (wm_1 wm_h))))), ?_⟩
                  refine wm_c ⟨(wk_X7_table_X7_table_r6 _ (wm_16 wm_h)), ?_⟩
                  exact wm_n
                · unfold wsX1_shareInBracket_r6
                  refine wm_c ⟨(wk_X7_table_X7_table_r6 _ (wm_16 (wm_1 wm_h))), ?_⟩
                  refine wm_c ⟨(wk_X7_table_X7_table_r6 _ (wm_16 (wm_2 wm_h))), ?_⟩
                  refine wm_c ⟨(wk_X7_table_X7_table_r6 _ (wm_16 (wm_2 (wm_1 wm_h)))), ?_⟩
                  exact wm_n
      · exact wk_X7_table_X10
    · exact wk_X7_table_X60
  · exact wk_X7_table_X00
set_option maxRecDepth 20000 in
theorem gX7_table_X1_shareInBracket : GoodIn wsX7_table (wsV RX7 200 RX1 yX1_shareInBracket wsX1_shareInBracket) := by
  refine goodIn_app (goodIn_sub ?_ ?_) ggX7_table_X1_shareInBracket
  · exact wm_c ⟨(wk_X7_table_X7_table_r1 _ (wm_8 (wm_4 (wm_2 (wm_1 wm_h))))), wm_c ⟨(wk_X7_table_X7_table_r1 _ (wm_16 wm_h)), wm_c ⟨(wk_X7_table_X7_table_r1 _ (wm_16 (wm_1 wm_h))), wm_c ⟨(wk_X7_table_X7_table_r1 _ (wm_8 (wm_2 wm_h))), wm_n⟩⟩⟩⟩
  · decide +kernel
set_option maxRecDepth 20000 in
theorem ggX7_table_X3_nearNought : GoodIn wsX7_table wsX3_nearNought := by
  refine goodIn_sub ?_ gd_X3_nearNought
  unfold wsX3_nearNought
  refine wm_c ⟨(wk_X7_table_X7_table_r6 _ (wm_16 (wm_4 (wm_2 wm_h)))), ?_⟩
  refine wm_c ⟨(wk_X7_table_X7_table_r6 _ (wm_16 (wm_4 (wm_2 (wm_1 wm_h))))), ?_⟩
  refine wm_c ⟨(wk_X7_table_X7_table_r5 _ (wm_16 (wm_4 (wm_2 (wm_1 wm_h))))), ?_⟩
  exact wm_n
set_option maxRecDepth 20000 in
theorem gX7_table_X3_nearNought : GoodIn wsX7_table (va_wsS RX7 106 yX3_nearNought wsX3_nearNought) := goodIn_app (goodIn_of _ (by decide +kernel)) ggX7_table_X3_nearNought
theorem dX7_table_0 : decode cX7_table 0 = .ok (.aload_n 0, 1) := by decide +kernel
theorem dX7_table_1 : decode cX7_table 1 = .ok (.iload_n 1, 1) := by decide +kernel
theorem dX7_table_2 : decode cX7_table 2 = .ok (.invokevirtual 162, 3) := by decide +kernel
theorem dX7_table_5 : decode cX7_table 5 = .ok (.ifCond .ne 19, 3) := by decide +kernel
theorem dX7_table_8 : decode cX7_table 8 = .ok (.aload_n 0, 1) := by decide +kernel
theorem dX7_table_9 : decode cX7_table 9 = .ok (.iload_n 2, 1) := by decide +kernel
theorem dX7_table_10 : decode cX7_table 10 = .ok (.invokevirtual 162, 3) := by decide +kernel
theorem dX7_table_13 : decode cX7_table 13 = .ok (.ifCond .ne 11, 3) := by decide +kernel
theorem dX7_table_16 : decode cX7_table 16 = .ok (.aload_n 0, 1) := by decide +kernel
theorem dX7_table_17 : decode cX7_table 17 = .ok (.iload_n 3, 1) := by decide +kernel
theorem dX7_table_18 : decode cX7_table 18 = .ok (.invokevirtual 162, 3) := by decide +kernel
theorem dX7_table_21 : decode cX7_table 21 = .ok (.ifCond .eq 6, 3) := by decide +kernel
theorem dX7_table_24 : decode cX7_table 24 = .ok (.ldc 102, 2) := by decide +kernel
theorem dX7_table_26 : decode cX7_table 26 = .ok (.ireturn, 1) := by decide +kernel
theorem dX7_table_27 : decode cX7_table 27 = .ok (.aload_n 0, 1) := by decide +kernel
theorem dX7_table_28 : decode cX7_table 28 = .ok (.getfield 49, 3) := by decide +kernel
theorem dX7_table_31 : decode cX7_table 31 = .ok (.iload_n 1, 1) := by decide +kernel
theorem dX7_table_32 : decode cX7_table 32 = .ok (.iload_n 2, 1) := by decide +kernel
theorem dX7_table_33 : decode cX7_table 33 = .ok (.iload_n 3, 1) := by decide +kernel
theorem dX7_table_34 : decode cX7_table 34 = .ok (.invokevirtual 200, 3) := by decide +kernel
theorem dX7_table_37 : decode cX7_table 37 = .ok (.invokestatic 106, 3) := by decide +kernel
theorem dX7_table_40 : decode cX7_table 40 = .ok (.ireturn, 1) := by decide +kernel
set_option maxRecDepth 20000 in
theorem ggX7_step_X7_noLetter : GoodIn wsX7_step wsX7_noLetter := by
  refine goodIn_sub ?_ gd_X7_noLetter
  unfold wsX7_noLetter
  refine wm_c ⟨(wk_X7_step_X7_step_r1 _ (wm_4 (wm_2 wm_h))), ?_⟩
  refine wm_a ⟨?_, ?_⟩
  · refine wm_a ⟨?_, ?_⟩
    · refine wm_c ⟨(wk_X7_step_X7_step_r1 _ (wm_4 (wm_2 (wm_1 wm_h)))), ?_⟩
      refine wm_c ⟨(wk_X7_step_X7_step_r1 _ (wm_8 wm_h)), ?_⟩
      exact wm_n
    · exact wk_X7_step_X70
  · exact wk_X7_step_X60
set_option maxRecDepth 20000 in
theorem gX7_step_X7_noLetter : GoodIn wsX7_step (wsV RX7 141 RX7 yX7_noLetter wsX7_noLetter) := by
  refine goodIn_app (goodIn_sub ?_ ?_) ggX7_step_X7_noLetter
  · exact wm_c ⟨(wk_X7_step_X7_step_r1 _ (wm_2 wm_h)), wm_c ⟨(wk_X7_step_X7_step_r1 _ (wm_2 (wm_1 wm_h))), wm_c ⟨(wk_X7_step_X7_step_r1 _ (wm_4 wm_h)), wm_c ⟨(wk_X7_step_X7_step_r1 _ (wm_4 (wm_1 wm_h))), wm_n⟩⟩⟩⟩
  · decide +kernel
set_option maxRecDepth 20000 in
theorem ggX7_step_X7_noFraction : GoodIn wsX7_step wsX7_noFraction := by
  refine goodIn_sub ?_ gd_X7_noFraction
  unfold wsX7_noFraction
  refine wm_c ⟨(wk_X7_step_X7_step_r1 _ (wm_8 (wm_2 (wm_1 wm_h)))), ?_⟩
  exact wm_n
set_option maxRecDepth 20000 in
theorem gX7_step_X7_noFraction : GoodIn wsX7_step (va_wsS RX7 92 yX7_noFraction wsX7_noFraction) := goodIn_app (goodIn_of _ (by decide +kernel)) ggX7_step_X7_noFraction
set_option maxRecDepth 20000 in
theorem ggX7_step_X3_ratio : GoodIn wsX7_step wsX3_ratio := by
  refine goodIn_sub ?_ gd_X3_ratio
  unfold wsX3_ratio
  refine wm_c ⟨(wk_X7_step_X7_step_r1 _ (wm_8 (wm_4 (wm_2 (wm_1 wm_h))))), ?_⟩
  refine wm_c ⟨(wk_X7_step_X7_step_r1 _ (wm_16 wm_h)), ?_⟩
  refine wm_c ⟨(wk_X7_step_X7_step_r1 _ (wm_16 (wm_1 wm_h))), ?_⟩
  refine wm_c ⟨(wk_X7_step_X7_step_r1 _ (wm_16 (wm_2 wm_h))), ?_⟩
  refine wm_c ⟨(wk_X7_step_X7_step_r1 _ (wm_16 (wm_2 (wm_1 wm_h)))), ?_⟩
  refine wm_c ⟨(wk_X7_step_X7_step_r1 _ (wm_16 (wm_4 wm_h))), ?_⟩
  refine wm_c ⟨(wk_X7_step_X7_step_r1 _ (wm_16 (wm_4 (wm_1 wm_h)))), ?_⟩
  refine wm_c ⟨(wk_X7_step_X7_step_r1 _ (wm_16 (wm_4 (wm_2 wm_h)))), ?_⟩
  refine wm_c ⟨(wk_X7_step_X7_step_r1 _ (wm_8 (wm_4 (wm_2 wm_h)))), ?_⟩
  refine wm_c ⟨(wk_X7_step_X7_step_r1 _ (wm_16 (wm_4 (wm_2 (wm_1 wm_h))))), ?_⟩
  refine wm_c ⟨(wk_X7_step_X7_step_r2 _ wm_h), ?_⟩
  refine wm_c ⟨(wk_X7_step_X7_step_r2 _ (wm_1 wm_h)), ?_⟩
  refine wm_c ⟨(wk_X7_step_X7_step_r2 _ (wm_2 wm_h)), ?_⟩
  refine wm_c ⟨(wk_X7_step_X7_step_r2 _ (wm_2 (wm_1 wm_h))), ?_⟩
  refine wm_c ⟨(wk_X7_step_X7_step_r2 _ (wm_4 wm_h)), ?_⟩
  exact wm_n
set_option maxRecDepth 20000 in
theorem gX7_step_X3_ratio : GoodIn wsX7_step (va_wsS RX7 96 yX3_ratio wsX3_ratio) := goodIn_app (goodIn_of _ (by decide +kernel)) ggX7_step_X3_ratio
set_option maxRecDepth 20000 in
theorem ggX7_step_X5_append : GoodIn wsX7_step wsX5_append := by
  refine goodIn_sub ?_ gd_X5_append
  unfold wsX5_append
  refine wm_c ⟨(wk_X7_step_X7_step_r2 _ (wm_8 (wm_1 wm_h))), ?_⟩
  refine wm_a ⟨?_, ?_⟩
  · refine wm_c ⟨(wk_X7_step_X7_step_r2 _ (wm_8 (wm_2 wm_h))), ?_⟩
    refine wm_c ⟨(wk_X7_step_X7_step_r2 _ (wm_8 (wm_2 (wm_1 wm_h)))), ?_⟩
    refine wm_c ⟨(wk_X7_step_X7_step_r2 _ (wm_8 (wm_4 wm_h))), ?_⟩
    exact wm_n
  · exact wk_X7_step_X50
set_option maxRecDepth 20000 in
theorem gX7_step_X5_append : GoodIn wsX7_step (wsV RX7 207 RX5 yX5_append wsX5_append) := by
  refine goodIn_app (goodIn_sub ?_ ?_) ggX7_step_X5_append
  · exact wm_c ⟨(wk_X7_step_X7_step_r2 _ (wm_4 (wm_1 wm_h))), wm_c ⟨(wk_X7_step_X7_step_r2 _ (wm_4 (wm_2 wm_h))), wm_c ⟨(wk_X7_step_X7_step_r2 _ (wm_4 (wm_2 (wm_1 wm_h)))), wm_c ⟨(wk_X7_step_X7_step_r2 _ (wm_8 wm_h)), wm_n⟩⟩⟩⟩
  · decide +kernel
theorem dX7_step_0 : decode cX7_step 0 = .ok (.aload_n 0, 1) := by decide +kernel
theorem dX7_step_1 : decode cX7_step 1 = .ok (.iload_n 1, 1) := by decide +kernel
theorem dX7_step_2 : decode cX7_step 2 = .ok (.invokevirtual 141, 3) := by decide +kernel
theorem dX7_step_5 : decode cX7_step 5 = .ok (.ifCond .eq 5, 3) := by decide +kernel
theorem dX7_step_8 : decode cX7_step 8 = .ok (.iconst (-1), 1) := by decide +kernel
theorem dX7_step_9 : decode cX7_step 9 = .ok (.ireturn, 1) := by decide +kernel
theorem dX7_step_10 : decode cX7_step 10 = .ok (.iload_n 2, 1) := by decide +kernel
theorem dX7_step_11 : decode cX7_step 11 = .ok (.iload_n 3, 1) := by decide +kernel
theorem dX7_step_12 : decode cX7_step 12 = .ok (.bipush 99, 2) := by decide +kernel
theorem dX7_step_14 : decode cX7_step 14 = .ok (.invokestatic 92, 3) := by decide +kernel
theorem dX7_step_17 : decode cX7_step 17 = .ok (.ifCond .eq 6, 3) := by decide +kernel
theorem dX7_step_20 : decode cX7_step 20 = .ok (.bipush (-2), 2) := by decide +kernel
theorem dX7_step_22 : decode cX7_step 22 = .ok (.ireturn, 1) := by decide +kernel
theorem dX7_step_23 : decode cX7_step 23 = .ok (.aload_n 0, 1) := by decide +kernel
theorem dX7_step_24 : decode cX7_step 24 = .ok (.getfield 56, 3) := by decide +kernel
theorem dX7_step_27 : decode cX7_step 27 = .ok (.getfield 204, 3) := by decide +kernel
theorem dX7_step_30 : decode cX7_step 30 = .ok (.bipush 12, 2) := by decide +kernel
theorem dX7_step_32 : decode cX7_step 32 = .ok (.if_icmp .lt 6, 3) := by decide +kernel
theorem dX7_step_35 : decode cX7_step 35 = .ok (.bipush (-4), 2) := by decide +kernel
theorem dX7_step_37 : decode cX7_step 37 = .ok (.ireturn, 1) := by decide +kernel
theorem dX7_step_38 : decode cX7_step 38 = .ok (.aload_n 0, 1) := by decide +kernel
theorem dX7_step_39 : decode cX7_step 39 = .ok (.getfield 56, 3) := by decide +kernel
theorem dX7_step_42 : decode cX7_step 42 = .ok (.iload_n 1, 1) := by decide +kernel
theorem dX7_step_43 : decode cX7_step 43 = .ok (.iload_n 2, 1) := by decide +kernel
theorem dX7_step_44 : decode cX7_step 44 = .ok (.iload_n 3, 1) := by decide +kernel
theorem dX7_step_45 : decode cX7_step 45 = .ok (.invokestatic 96, 3) := by decide +kernel
theorem dX7_step_48 : decode cX7_step 48 = .ok (.invokevirtual 207, 3) := by decide +kernel
theorem dX7_step_51 : decode cX7_step 51 = .ok (.ireturn, 1) := by decide +kernel
set_option maxRecDepth 20000 in
theorem ggX7_unstep_X5_forget : GoodIn wsX7_unstep wsX5_forget := by
  refine goodIn_sub ?_ gd_X5_forget
  unfold wsX5_forget
  refine wm_c ⟨(wm_1 (wm_l (wm_l (wm_4 (wm_1 wm_h))))), ?_⟩
  refine wm_a ⟨?_, ?_⟩
  · refine wm_c ⟨(wm_1 (wm_l (wm_l (wm_4 (wm_2 wm_h))))), ?_⟩
    exact wm_n
  · exact wk_X7_unstep_X50
set_option maxRecDepth 20000 in
theorem gX7_unstep_X5_forget : GoodIn wsX7_unstep (wsV RX7 210 RX5 yX5_forget wsX5_forget) := by
  refine goodIn_app (goodIn_sub ?_ ?_) ggX7_unstep_X5_forget
  · exact wm_c ⟨(wm_1 (wm_l (wm_l (wm_1 wm_h)))), wm_c ⟨(wm_1 (wm_l (wm_l (wm_2 wm_h)))), wm_c ⟨(wm_1 (wm_l (wm_l (wm_2 (wm_1 wm_h))))), wm_c ⟨(wm_1 (wm_l (wm_l (wm_4 wm_h)))), wm_n⟩⟩⟩⟩
  · decide +kernel
theorem dX7_unstep_0 : decode cX7_unstep 0 = .ok (.aload_n 0, 1) := by decide +kernel
theorem dX7_unstep_1 : decode cX7_unstep 1 = .ok (.getfield 56, 3) := by decide +kernel
theorem dX7_unstep_4 : decode cX7_unstep 4 = .ok (.invokevirtual 210, 3) := by decide +kernel
theorem dX7_unstep_7 : decode cX7_unstep 7 = .ok (.ireturn, 1) := by decide +kernel
set_option maxRecDepth 20000 in
theorem ggX7_scheme_X7_noSum : GoodIn wsX7_scheme wsX7_noSum := by
  refine goodIn_sub ?_ gd_X7_noSum
  unfold wsX7_noSum
  refine wm_c ⟨(wk_X7_scheme_X7_scheme_r1 _ (wm_4 (wm_1 wm_h))), ?_⟩
  exact wm_n
set_option maxRecDepth 20000 in
theorem gX7_scheme_X7_noSum : GoodIn wsX7_scheme (va_wsS RX7 78 yX7_noSum wsX7_noSum) := goodIn_app (goodIn_of _ (by decide +kernel)) ggX7_scheme_X7_noSum
set_option maxRecDepth 20000 in
theorem ggX7_scheme_X5_make : GoodIn wsX7_scheme wsX5_make := by
  refine goodIn_sub ?_ gd_X5_make
  unfold wsX5_make
  refine wm_c ⟨(wk_X7_scheme_X7_scheme_r1 _ (wm_8 (wm_2 wm_h))), ?_⟩
  refine wm_a ⟨?_, ?_⟩
  · refine wm_a ⟨?_, ?_⟩
    · refine wm_a ⟨?_, ?_⟩
      · refine wm_a ⟨?_, ?_⟩
        · unfold wsX5_make_r1
          refine wm_c ⟨(wk_X7_scheme_X7_scheme_r1 _ (wm_8 (wm_2 (wm_1 wm_h)))), ?_⟩
          refine wm_c ⟨(wk_X7_scheme_X7_scheme_r1 _ (wm_8 (wm_4 wm_h))), ?_⟩
          refine wm_c ⟨(wk_X7_scheme_X7_scheme_r1 _ (wm_8 (wm_4 (wm_1 wm_h)))), ?_⟩
          refine wm_c ⟨(wk_X7_scheme_X7_scheme_r1 _ (wm_8 (wm_4 (wm_2 wm_h)))), ?_⟩
          refine wm_c ⟨(wk_X7_scheme_X7_scheme_r1 _ (wm_8 (wm_4 (wm_2 (wm_1 wm_h))))), ?_⟩
          refine wm_c ⟨(wk_X7_scheme_X7_scheme_r1 _ (wm_16 wm_h)), ?_⟩
          refine wm_c ⟨(wk_X7_scheme_X7_scheme_r1 _ (wm_16 (wm_1 wm_h))), ?_⟩
          refine wm_c ⟨(wk_X7_scheme_X7_scheme_r1 _ (wm_16 (wm_2 wm_h))), ?_⟩
          refine wm_c ⟨(wk_X7_scheme_X7_scheme_r1 _ (wm_16 (wm_2 (wm_1 wm_h)))), ?_⟩
          refine wm_c ⟨(wk_X7_scheme_X7_scheme_r1 _ (wm_16 (wm_4 wm_h))), ?_⟩
          refine wm_c ⟨(wk_X7_scheme_X7_scheme_r1 _ (wm_16 (wm_4 (wm_1 wm_h)))), ?_⟩
          refine wm_c ⟨(wk_X7_scheme_X7_scheme_r1 _ (wm_16 (wm_4 (wm_2 wm_h)))), ?_⟩
          refine wm_c ⟨(wk_X7_scheme_X7_scheme_r1 _ (wm_16 (wm_4 (wm_2 (wm_1 wm_h))))), ?_⟩
          refine wm_c ⟨(wk_X7_scheme_X7_scheme_r2 _ wm_h), ?_⟩
          refine wm_c ⟨(wk_X7_scheme_X7_scheme_r2 _ (wm_1 wm_h)), ?_⟩
          refine wm_c ⟨(wk_X7_scheme_X7_scheme_r2 _ (wm_2 wm_h)), ?_⟩
          refine wm_c ⟨(wk_X7_scheme_X7_scheme_r2 _ (wm_2 (wm_1 wm_h))), ?_⟩
          refine wm_c ⟨(wk_X7_scheme_X7_scheme_r1 _ (wm_8 (wm_1 wm_h))), ?_⟩
          refine wm_c ⟨(wk_X7_scheme_X7_scheme_r2 _ (wm_4 wm_h)), ?_⟩
          refine wm_c ⟨(wk_X7_scheme_X7_scheme_r2 _ (wm_4 (wm_1 wm_h))), ?_⟩
          refine wm_c ⟨(wk_X7_scheme_X7_scheme_r2 _ (wm_4 (wm_2 wm_h))), ?_⟩
          refine wm_c ⟨(wk_X7_scheme_X7_scheme_r2 _ (wm_4 (wm_2 (wm_1 wm_h)))), ?_⟩
          refine wm_c ⟨(wk_X7_scheme_X7_scheme_r2 _ (wm_8 wm_h)), ?_⟩
          refine wm_c ⟨(wk_X7_scheme_X7_scheme_r2 _ (wm_8 (wm_1 wm_h))), ?_⟩
          exact wm_n
        · refine wm_a ⟨?_, ?_⟩
          · unfold wsX5_make_r2
            refine wm_c ⟨(wk_X7_scheme_X7_scheme_r2 _ (wm_8 (wm_2 wm_h))), ?_⟩
            refine wm_c ⟨(wk_X7_scheme_X7_scheme_r2 _ (wm_8 (wm_2 (wm_1 wm_h)))), ?_⟩
            refine wm_c ⟨(wk_X7_scheme_X7_scheme_r2 _ (wm_8 (wm_4 wm_h))), ?_⟩
            refine wm_c ⟨(wk_X7_scheme_X7_scheme_r2 _ (wm_8 (wm_4 (wm_1 wm_h)))), ?_⟩
            refine wm_c ⟨(wk_X7_scheme_X7_scheme_r2 _ (wm_8 (wm_4 (wm_2 wm_h)))), ?_⟩
            refine wm_c ⟨(wk_X7_scheme_X7_scheme_r2 _ (wm_8 (wm_4 (wm_2 (wm_1 wm_h))))), ?_⟩
            refine wm_c ⟨(wk_X7_scheme_X7_scheme_r2 _ (wm_16 wm_h)), ?_⟩
            refine wm_c ⟨(wk_X7_scheme_X7_scheme_r2 _ (wm_16 (wm_1 wm_h))), ?_⟩
            refine wm_c ⟨(wk_X7_scheme_X7_scheme_r2 _ (wm_16 (wm_2 wm_h))), ?_⟩
            refine wm_c ⟨(wk_X7_scheme_X7_scheme_r2 _ (wm_16 (wm_2 (wm_1 wm_h)))), ?_⟩
            refine wm_c ⟨(wk_X7_scheme_X7_scheme_r2 _ (wm_16 (wm_4 wm_h))), ?_⟩
            refine wm_c ⟨(wk_X7_scheme_X7_scheme_r2 _ (wm_16 (wm_4 (wm_1 wm_h)))), ?_⟩
            refine wm_c ⟨(wk_X7_scheme_X7_scheme_r2 _ (wm_16 (wm_4 (wm_2 wm_h)))), ?_⟩
            refine wm_c ⟨(wk_X7_scheme_X7_scheme_r2 _ (wm_16 (wm_4 (wm_2 (wm_1 wm_h))))), ?_⟩
            refine wm_c ⟨(wk_X7_scheme_X7_scheme_r3 _ wm_h), ?_⟩
            refine wm_c ⟨(wk_X7_scheme_X7_scheme_r3 _ (wm_1 wm_h)), ?_⟩
            refine wm_c ⟨(wk_X7_scheme_X7_scheme_r3 _ (wm_2 wm_h)), ?_⟩
            refine wm_c ⟨(wk_X7_scheme_X7_scheme_r3 _ (wm_2 (wm_1 wm_h))), ?_⟩
            refine wm_c ⟨(wk_X7_scheme_X7_scheme_r3 _ (wm_4 wm_h)), ?_⟩
            refine wm_c ⟨(wk_X7_scheme_X7_scheme_r3 _ (wm_4 (wm_1 wm_h))), ?_⟩
            refine wm_c ⟨(wk_X7_scheme_X7_scheme_r3 _ (wm_4 (wm_2 wm_h))), ?_⟩
            refine wm_c ⟨(wk_X7_scheme_X7_scheme_r3 _ (wm_4 (wm_2 (wm_1 wm_h)))), ?_⟩
            refine wm_c ⟨(wk_X7_scheme_X7_scheme_r3 _ (wm_8 wm_h)), ?_⟩
            refine wm_c ⟨(wk_X7_scheme_X7_scheme_r3 _ (wm_8 (wm_1 wm_h))), ?_⟩
            exact wm_n
          · unfold wsX5_make_r3
            refine wm_c ⟨(wk_X7_scheme_X7_scheme_r3 _ (wm_8 (wm_2 wm_h))), ?_⟩
            refine wm_c ⟨(wk_X7_scheme_X7_scheme_r3 _ (wm_8 (wm_2 (wm_1 wm_h)))), ?_⟩
            refine wm_c ⟨(wk_X7_scheme_X7_scheme_r3 _ (wm_8 (wm_4 wm_h))), ?_⟩
            refine wm_c ⟨(wk_X7_scheme_X7_scheme_r3 _ (wm_8 (wm_4 (wm_1 wm_h)))), ?_⟩
            refine wm_c ⟨(wk_X7_scheme_X7_scheme_r3 _ (wm_8 (wm_4 (wm_2 wm_h)))), ?_⟩
            refine wm_c ⟨(wk_X7_scheme_X7_scheme_r3 _ (wm_8 (wm_4 (wm_2 (wm_1 wm_h))))), ?_⟩
            refine wm_c ⟨(wk_X7_scheme_X7_scheme_r3 _ (wm_16 wm_h)), ?_⟩
            refine wm_c ⟨(wk_X7_scheme_X7_scheme_r3 _ (wm_16 (wm_1 wm_h))), ?_⟩
            refine wm_c ⟨(wk_X7_scheme_X7_scheme_r3 _ (wm_16 (wm_2 wm_h))), ?_⟩
            refine wm_c ⟨(wk_X7_scheme_X7_scheme_r3 _ (wm_16 (wm_2 (wm_1 wm_h)))), ?_⟩
            refine wm_c ⟨(wk_X7_scheme_X7_scheme_r3 _ (wm_16 (wm_4 wm_h))), ?_⟩
            refine wm_c ⟨(wk_X7_scheme_X7_scheme_r3 _ (wm_16 (wm_4 (wm_1 wm_h)))), ?_⟩
            refine wm_c ⟨(wk_X7_scheme_X7_scheme_r3 _ (wm_16 (wm_4 (wm_2 wm_h)))), ?_⟩
            refine wm_c ⟨(wk_X7_scheme_X7_scheme_r3 _ (wm_16 (wm_4 (wm_2 (wm_1 wm_h))))), ?_⟩
            refine wm_c ⟨(wk_X7_scheme_X7_scheme_r4 _ wm_h), ?_⟩
            refine wm_c ⟨(wk_X7_scheme_X7_scheme_r4 _ (wm_1 wm_h)), ?_⟩
            exact wm_n
      · exact wk_X7_scheme_X50
    · exact wk_X7_scheme_X00
  · exact wk_X7_scheme_X60
set_option maxRecDepth 20000 in
theorem gX7_scheme_X5_make : GoodIn wsX7_scheme (wsV RX7 213 RX5 yX5_make wsX5_make) := by
  refine goodIn_app (goodIn_sub ?_ ?_) ggX7_scheme_X5_make
  · exact wm_c ⟨(wk_X7_scheme_X7_scheme_r1 _ (wm_4 (wm_2 wm_h))), wm_c ⟨(wk_X7_scheme_X7_scheme_r1 _ (wm_4 (wm_2 (wm_1 wm_h)))), wm_c ⟨(wk_X7_scheme_X7_scheme_r1 _ (wm_8 wm_h)), wm_c ⟨(wk_X7_scheme_X7_scheme_r1 _ (wm_8 (wm_1 wm_h))), wm_n⟩⟩⟩⟩
  · decide +kernel
theorem dX7_scheme_0 : decode cX7_scheme 0 = .ok (.iload_n 1, 1) := by decide +kernel
theorem dX7_scheme_1 : decode cX7_scheme 1 = .ok (.invokestatic 78, 3) := by decide +kernel
theorem dX7_scheme_4 : decode cX7_scheme 4 = .ok (.ifCond .eq 5, 3) := by decide +kernel
theorem dX7_scheme_7 : decode cX7_scheme 7 = .ok (.iconst (-1), 1) := by decide +kernel
theorem dX7_scheme_8 : decode cX7_scheme 8 = .ok (.ireturn, 1) := by decide +kernel
theorem dX7_scheme_9 : decode cX7_scheme 9 = .ok (.aload_n 0, 1) := by decide +kernel
theorem dX7_scheme_10 : decode cX7_scheme 10 = .ok (.getfield 56, 3) := by decide +kernel
theorem dX7_scheme_13 : decode cX7_scheme 13 = .ok (.aload_n 0, 1) := by decide +kernel
theorem dX7_scheme_14 : decode cX7_scheme 14 = .ok (.getfield 32, 3) := by decide +kernel
theorem dX7_scheme_17 : decode cX7_scheme 17 = .ok (.iload_n 1, 1) := by decide +kernel
theorem dX7_scheme_18 : decode cX7_scheme 18 = .ok (.aaload, 1) := by decide +kernel
theorem dX7_scheme_19 : decode cX7_scheme 19 = .ok (.invokevirtual 213, 3) := by decide +kernel
theorem dX7_scheme_22 : decode cX7_scheme 22 = .ok (.iconst 0, 1) := by decide +kernel
theorem dX7_scheme_23 : decode cX7_scheme 23 = .ok (.ireturn, 1) := by decide +kernel
set_option maxRecDepth 20000 in
theorem ggX7_order_X5_goodLength : GoodIn wsX7_order wsX5_goodLength := by
  refine goodIn_sub ?_ gd_X5_goodLength
  unfold wsX5_goodLength
  refine wm_c ⟨(wk_X7_order_X7_order_r1 _ (wm_4 (wm_1 wm_h))), ?_⟩
  refine wm_a ⟨?_, ?_⟩
  · refine wm_a ⟨?_, ?_⟩
    · refine wm_a ⟨?_, ?_⟩
      · refine wm_a ⟨?_, ?_⟩
        · unfold wsX5_goodLength_r1
          refine wm_c ⟨(wk_X7_order_X7_order_r1 _ (wm_4 (wm_2 wm_h))), ?_⟩
          refine wm_c ⟨(wk_X7_order_X7_order_r1 _ (wm_4 (wm_2 (wm_1 wm_h)))), ?_⟩
          refine wm_c ⟨(wk_X7_order_X7_order_r1 _ (wm_8 wm_h)), ?_⟩
          refine wm_c ⟨(wk_X7_order_X7_order_r1 _ (wm_8 (wm_1 wm_h))), ?_⟩
          refine wm_c ⟨(wk_X7_order_X7_order_r1 _ (wm_8 (wm_2 wm_h))), ?_⟩
          refine wm_c ⟨(wk_X7_order_X7_order_r1 _ (wm_8 (wm_2 (wm_1 wm_h)))), ?_⟩
          refine wm_c ⟨(wk_X7_order_X7_order_r1 _ (wm_8 (wm_4 wm_h))), ?_⟩
          refine wm_c ⟨(wk_X7_order_X7_order_r1 _ (wm_8 (wm_4 (wm_1 wm_h)))), ?_⟩
          refine wm_c ⟨(wk_X7_order_X7_order_r1 _ (wm_4 wm_h)), ?_⟩
          refine wm_c ⟨(wk_X7_order_X7_order_r1 _ (wm_8 (wm_4 (wm_2 wm_h)))), ?_⟩
          refine wm_c ⟨(wk_X7_order_X7_order_r1 _ (wm_8 (wm_4 (wm_2 (wm_1 wm_h))))), ?_⟩
          refine wm_c ⟨(wk_X7_order_X7_order_r1 _ (wm_16 wm_h)), ?_⟩
          refine wm_c ⟨(wk_X7_order_X7_order_r1 _ (wm_16 (wm_1 wm_h))), ?_⟩
          refine wm_c ⟨(wk_X7_order_X7_order_r1 _ (wm_16 (wm_2 wm_h))), ?_⟩
          refine wm_c ⟨(wk_X7_order_X7_order_r1 _ (wm_16 (wm_2 (wm_1 wm_h)))), ?_⟩
          refine wm_c ⟨(wk_X7_order_X7_order_r1 _ (wm_16 (wm_4 wm_h))), ?_⟩
          refine wm_c ⟨(wk_X7_order_X7_order_r1 _ (wm_16 (wm_4 (wm_1 wm_h)))), ?_⟩
          refine wm_c ⟨(wk_X7_order_X7_order_r1 _ (wm_16 (wm_4 (wm_2 wm_h)))), ?_⟩
          refine wm_c ⟨(wk_X7_order_X7_order_r1 _ (wm_16 (wm_4 (wm_2 (wm_1 wm_h))))), ?_⟩
          refine wm_c ⟨(wk_X7_order_X7_order_r2 _ wm_h), ?_⟩
          refine wm_c ⟨(wk_X7_order_X7_order_r2 _ (wm_1 wm_h)), ?_⟩
          refine wm_c ⟨(wk_X7_order_X7_order_r2 _ (wm_2 wm_h)), ?_⟩
          refine wm_c ⟨(wk_X7_order_X7_order_r2 _ (wm_2 (wm_1 wm_h))), ?_⟩
          refine wm_c ⟨(wk_X7_order_X7_order_r2 _ (wm_4 wm_h)), ?_⟩
          exact wm_n
        · refine wm_a ⟨?_, ?_⟩
          · unfold wsX5_goodLength_r2
            refine wm_c ⟨(wk_X7_order_X7_order_r2 _ (wm_4 (wm_1 wm_h))), ?_⟩
            refine wm_c ⟨(wk_X7_order_X7_order_r2 _ (wm_4 (wm_2 wm_h))), ?_⟩
            refine wm_c ⟨(wk_X7_order_X7_order_r2 _ (wm_4 (wm_2 (wm_1 wm_h)))), ?_⟩
            refine wm_c ⟨(wk_X7_order_X7_order_r2 _ (wm_8 wm_h)), ?_⟩
            refine wm_c ⟨(wk_X7_order_X7_order_r2 _ (wm_8 (wm_1 wm_h))), ?_⟩
            refine wm_c ⟨(wk_X7_order_X7_order_r2 _ (wm_8 (wm_2 wm_h))), ?_⟩
            refine wm_c ⟨(wk_X7_order_X7_order_r2 _ (wm_8 (wm_2 (wm_1 wm_h)))), ?_⟩
            refine wm_c ⟨(wk_X7_order_X7_order_r2 _ (wm_8 (wm_4 wm_h))), ?_⟩
            refine wm_c ⟨(wk_X7_order_X7_order_r2 _ (wm_8 (wm_4 (wm_1 wm_h)))), ?_⟩
            refine wm_c ⟨(wk_X7_order_X7_order_r2 _ (wm_8 (wm_4 (wm_2 wm_h)))), ?_⟩
            refine wm_c ⟨(wk_X7_order_X7_order_r2 _ (wm_8 (wm_4 (wm_2 (wm_1 wm_h))))), ?_⟩
            refine wm_c ⟨(wk_X7_order_X7_order_r2 _ (wm_16 wm_h)), ?_⟩
            refine wm_c ⟨(wk_X7_order_X7_order_r2 _ (wm_16 (wm_1 wm_h))), ?_⟩
            refine wm_c ⟨(wk_X7_order_X7_order_r2 _ (wm_16 (wm_2 wm_h))), ?_⟩
            refine wm_c ⟨(wk_X7_order_X7_order_r2 _ (wm_16 (wm_2 (wm_1 wm_h)))), ?_⟩
            refine wm_c ⟨(wk_X7_order_X7_order_r2 _ (wm_16 (wm_4 wm_h))), ?_⟩
            refine wm_c ⟨(wk_X7_order_X7_order_r2 _ (wm_16 (wm_4 (wm_1 wm_h)))), ?_⟩
            refine wm_c ⟨(wk_X7_order_X7_order_r2 _ (wm_16 (wm_4 (wm_2 wm_h)))), ?_⟩
            refine wm_c ⟨(wk_X7_order_X7_order_r2 _ (wm_16 (wm_4 (wm_2 (wm_1 wm_h))))), ?_⟩
            refine wm_c ⟨(wk_X7_order_X7_order_r3 _ wm_h), ?_⟩
            refine wm_c ⟨(wk_X7_order_X7_order_r3 _ (wm_1 wm_h)), ?_⟩
            refine wm_c ⟨(wk_X7_order_X7_order_r3 _ (wm_2 wm_h)), ?_⟩
            refine wm_c ⟨(wk_X7_order_X7_order_r3 _ (wm_2 (wm_1 wm_h))), ?_⟩
            refine wm_c ⟨(wk_X7_order_X7_order_r3 _ (wm_4 wm_h)), ?_⟩
            exact wm_n
          · unfold wsX5_goodLength_r3
            refine wm_c ⟨(wk_X7_order_X7_order_r3 _ (wm_4 (wm_1 wm_h))), ?_⟩
            refine wm_c ⟨(wk_X7_order_X7_order_r3 _ (wm_4 (wm_2 wm_h))), ?_⟩
            refine wm_c ⟨(wk_X7_order_X7_order_r3 _ (wm_4 (wm_2 (wm_1 wm_h)))), ?_⟩
            refine wm_c ⟨(wk_X7_order_X7_order_r3 _ (wm_8 wm_h)), ?_⟩
            refine wm_c ⟨(wk_X7_order_X7_order_r3 _ (wm_8 (wm_1 wm_h))), ?_⟩
            refine wm_c ⟨(wk_X7_order_X7_order_r3 _ (wm_8 (wm_2 wm_h))), ?_⟩
            refine wm_c ⟨(wk_X7_order_X7_order_r3 _ (wm_8 (wm_2 (wm_1 wm_h)))), ?_⟩
            refine wm_c ⟨(wk_X7_order_X7_order_r3 _ (wm_8 (wm_4 wm_h))), ?_⟩
            refine wm_c ⟨(wk_X7_order_X7_order_r3 _ (wm_8 (wm_4 (wm_1 wm_h)))), ?_⟩
            refine wm_c ⟨(wk_X7_order_X7_order_r3 _ (wm_8 (wm_4 (wm_2 wm_h)))), ?_⟩
            refine wm_c ⟨(wk_X7_order_X7_order_r3 _ (wm_8 (wm_4 (wm_2 (wm_1 wm_h))))), ?_⟩
            refine wm_c ⟨(wk_X7_order_X7_order_r3 _ (wm_16 wm_h)), ?_⟩
            refine wm_c ⟨(wk_X7_order_X7_order_r3 _ (wm_16 (wm_1 wm_h))), ?_⟩
            refine wm_c ⟨(wk_X7_order_X7_order_r3 _ (wm_16 (wm_2 wm_h))), ?_⟩
            refine wm_c ⟨(wk_X7_order_X7_order_r3 _ (wm_16 (wm_2 (wm_1 wm_h)))), ?_⟩
            refine wm_c ⟨(wk_X7_order_X7_order_r3 _ (wm_16 (wm_4 wm_h))), ?_⟩
            refine wm_c ⟨(wk_X7_order_X7_order_r3 _ (wm_16 (wm_4 (wm_1 wm_h)))), ?_⟩
            refine wm_c ⟨(wk_X7_order_X7_order_r3 _ (wm_16 (wm_4 (wm_2 wm_h)))), ?_⟩
            refine wm_c ⟨(wk_X7_order_X7_order_r3 _ (wm_16 (wm_4 (wm_2 (wm_1 wm_h))))), ?_⟩
            refine wm_c ⟨(wk_X7_order_X7_order_r4 _ wm_h), ?_⟩
            refine wm_c ⟨(wk_X7_order_X7_order_r4 _ (wm_1 wm_h)), ?_⟩
            refine wm_c ⟨(wk_X7_order_X7_order_r4 _ (wm_2 wm_h)), ?_⟩
            refine wm_c ⟨(wk_X7_order_X7_order_r4 _ (wm_2 (wm_1 wm_h))), ?_⟩
            refine wm_c ⟨(wk_X7_order_X7_order_r4 _ (wm_4 wm_h)), ?_⟩
            exact wm_n
      · exact wk_X7_order_X50
    · exact wk_X7_order_X00
  · exact wk_X7_order_X60
set_option maxRecDepth 20000 in
theorem gX7_order_X5_goodLength : GoodIn wsX7_order (wsV RX7 217 RX5 yX5_goodLength wsX5_goodLength) := by
  refine goodIn_app (goodIn_sub ?_ ?_) ggX7_order_X5_goodLength
  · exact wm_c ⟨(wk_X7_order_X7_order_r1 _ (wm_1 wm_h)), wm_c ⟨(wk_X7_order_X7_order_r1 _ (wm_2 wm_h)), wm_c ⟨(wk_X7_order_X7_order_r1 _ (wm_2 (wm_1 wm_h))), wm_c ⟨(wk_X7_order_X7_order_r1 _ (wm_4 wm_h)), wm_n⟩⟩⟩⟩
  · decide +kernel
theorem dX7_order_0 : decode cX7_order 0 = .ok (.aload_n 0, 1) := by decide +kernel
theorem dX7_order_1 : decode cX7_order 1 = .ok (.getfield 56, 3) := by decide +kernel
theorem dX7_order_4 : decode cX7_order 4 = .ok (.invokevirtual 217, 3) := by decide +kernel
theorem dX7_order_7 : decode cX7_order 7 = .ok (.ireturn, 1) := by decide +kernel
set_option maxRecDepth 20000 in
theorem ggX7_relate_X7_noSum : GoodIn wsX7_relate wsX7_noSum := by
  refine goodIn_sub ?_ gd_X7_noSum
  unfold wsX7_noSum
  refine wm_c ⟨(wk_X7_relate_X7_relate_r1 _ (wm_4 (wm_2 (wm_1 wm_h)))), ?_⟩
  exact wm_n
set_option maxRecDepth 20000 in
theorem gX7_relate_X7_noSum : GoodIn wsX7_relate (va_wsS RX7 78 yX7_noSum wsX7_noSum) := goodIn_app (goodIn_of _ (by decide +kernel)) ggX7_relate_X7_noSum
set_option maxRecDepth 20000 in
theorem ggX7_relate_X0_onlyLength : GoodIn wsX7_relate wsX0_onlyLength := by
  refine goodIn_sub ?_ gd_X0_onlyLength
  unfold wsX0_onlyLength
  refine wm_c ⟨(wk_X7_relate_X7_relate_r1 _ (wm_8 (wm_4 wm_h))), ?_⟩
  refine wm_a ⟨?_, ?_⟩
  · refine wm_c ⟨(wk_X7_relate_X7_relate_r1 _ (wm_8 (wm_4 (wm_1 wm_h)))), ?_⟩
    refine wm_c ⟨(wk_X7_relate_X7_relate_r1 _ (wm_8 (wm_4 (wm_2 wm_h)))), ?_⟩
    refine wm_c ⟨(wk_X7_relate_X7_relate_r1 _ (wm_8 (wm_4 (wm_2 (wm_1 wm_h))))), ?_⟩
    refine wm_c ⟨(wk_X7_relate_X7_relate_r1 _ (wm_16 wm_h)), ?_⟩
    refine wm_c ⟨(wk_X7_relate_X7_relate_r1 _ (wm_8 (wm_2 (wm_1 wm_h)))), ?_⟩
    refine wm_c ⟨(wk_X7_relate_X7_relate_r1 _ (wm_16 (wm_1 wm_h))), ?_⟩
    refine wm_c ⟨(wk_X7_relate_X7_relate_r1 _ (wm_16 (wm_2 wm_h))), ?_⟩
    exact wm_n
  · exact wk_X7_relate_X00
set_option maxRecDepth 20000 in
theorem gX7_relate_X0_onlyLength : GoodIn wsX7_relate (wsV RX7 220 RX0 yX0_onlyLength wsX0_onlyLength) := by
  refine goodIn_app (goodIn_sub ?_ ?_) ggX7_relate_X0_onlyLength
  · exact wm_c ⟨(wk_X7_relate_X7_relate_r1 _ (wm_8 wm_h)), wm_c ⟨(wk_X7_relate_X7_relate_r1 _ (wm_8 (wm_1 wm_h))), wm_c ⟨(wk_X7_relate_X7_relate_r1 _ (wm_8 (wm_2 wm_h))), wm_c ⟨(wk_X7_relate_X7_relate_r1 _ (wm_8 (wm_2 (wm_1 wm_h)))), wm_n⟩⟩⟩⟩
  · decide +kernel
set_option maxRecDepth 20000 in
theorem ggX7_relate_X0_isLie : GoodIn wsX7_relate wsX0_isLie := by
  refine goodIn_sub ?_ gd_X0_isLie
  unfold wsX0_isLie
  refine wm_c ⟨(wk_X7_relate_X7_relate_r1 _ (wm_16 (wm_4 (wm_2 wm_h)))), ?_⟩
  refine wm_a ⟨?_, ?_⟩
  · refine wm_a ⟨?_, ?_⟩
    · unfold wsX0_isLie_r1
      refine wm_c ⟨(wk_X7_relate_X7_relate_r1 _ (wm_8 (wm_4 (wm_1 wm_h)))), ?_⟩
      refine wm_c ⟨(wk_X7_relate_X7_relate_r1 _ (wm_8 (wm_4 (wm_2 wm_h)))), ?_⟩
      refine wm_c ⟨(wk_X7_relate_X7_relate_r1 _ (wm_8 (wm_4 (wm_2 (wm_1 wm_h))))), ?_⟩
      refine wm_c ⟨(wk_X7_relate_X7_relate_r1 _ (wm_16 wm_h)), ?_⟩
      refine wm_c ⟨(wk_X7_relate_X7_relate_r1 _ (wm_8 (wm_2 (wm_1 wm_h)))), ?_⟩
      refine wm_c ⟨(wk_X7_relate_X7_relate_r1 _ (wm_16 (wm_1 wm_h))), ?_⟩
      refine wm_c ⟨(wk_X7_relate_X7_relate_r1 _ (wm_16 (wm_2 wm_h))), ?_⟩
      refine wm_c ⟨(wk_X7_relate_X7_relate_r1 _ (wm_16 (wm_4 (wm_2 (wm_1 wm_h))))), ?_⟩
      refine wm_c ⟨(wk_X7_relate_X7_relate_r2 _ wm_h), ?_⟩
      refine wm_c ⟨(wk_X7_relate_X7_relate_r2 _ (wm_1 wm_h)), ?_⟩
      refine wm_c ⟨(wk_X7_relate_X7_relate_r2 _ (wm_2 wm_h)), ?_⟩
      refine wm_c ⟨(wk_X7_relate_X7_relate_r2 _ (wm_2 (wm_1 wm_h))), ?_⟩
      refine wm_c ⟨(wk_X7_relate_X7_relate_r2 _ (wm_4 wm_h)), ?_⟩
      refine wm_c ⟨(wk_X7_relate_X7_relate_r2 _ (wm_4 (wm_1 wm_h))), ?_⟩
      refine wm_c ⟨(wk_X7_relate_X7_relate_r2 _ (wm_4 (wm_2 wm_h))), ?_⟩
      refine wm_c ⟨(wk_X7_relate_X7_relate_r2 _ (wm_4 (wm_2 (wm_1 wm_h)))), ?_⟩
      refine wm_c ⟨(wk_X7_relate_X7_relate_r2 _ (wm_8 wm_h)), ?_⟩
      refine wm_c ⟨(wk_X7_relate_X7_relate_r2 _ (wm_8 (wm_1 wm_h))), ?_⟩
      refine wm_c ⟨(wk_X7_relate_X7_relate_r2 _ (wm_8 (wm_2 wm_h))), ?_⟩
      refine wm_c ⟨(wk_X7_relate_X7_relate_r2 _ (wm_8 (wm_2 (wm_1 wm_h)))), ?_⟩
      refine wm_c ⟨(wk_X7_relate_X7_relate_r2 _ (wm_8 (wm_4 wm_h))), ?_⟩
      refine wm_c ⟨(wk_X7_relate_X7_relate_r2 _ (wm_8 (wm_4 (wm_1 wm_h)))), ?_⟩
      refine wm_c ⟨(wk_X7_relate_X7_relate_r2 _ (wm_8 (wm_4 (wm_2 wm_h)))), ?_⟩
      refine wm_c ⟨(wk_X7_relate_X7_relate_r2 _ (wm_8 (wm_4 (wm_2 (wm_1 wm_h))))), ?_⟩
      exact wm_n
    · unfold wsX0_isLie_r2
      refine wm_c ⟨(wk_X7_relate_X7_relate_r2 _ (wm_16 wm_h)), ?_⟩
      refine wm_c ⟨(wk_X7_relate_X7_relate_r2 _ (wm_16 (wm_1 wm_h))), ?_⟩
      refine wm_c ⟨(wk_X7_relate_X7_relate_r2 _ (wm_16 (wm_2 wm_h))), ?_⟩
      refine wm_c ⟨(wk_X7_relate_X7_relate_r2 _ (wm_16 (wm_2 (wm_1 wm_h)))), ?_⟩
      refine wm_c ⟨(wk_X7_relate_X7_relate_r2 _ (wm_16 (wm_4 wm_h))), ?_⟩
      refine wm_c ⟨(wk_X7_relate_X7_relate_r2 _ (wm_16 (wm_4 (wm_1 wm_h)))), ?_⟩
      refine wm_c ⟨(wk_X7_relate_X7_relate_r2 _ (wm_16 (wm_4 (wm_2 wm_h)))), ?_⟩
      refine wm_c ⟨(wk_X7_relate_X7_relate_r2 _ (wm_16 (wm_4 (wm_2 (wm_1 wm_h))))), ?_⟩
      exact wm_n
  · exact wk_X7_relate_X00
set_option maxRecDepth 20000 in
theorem gX7_relate_X0_isLie : GoodIn wsX7_relate (wsV RX7 196 RX0 yX0_isLie wsX0_isLie) := by
  refine goodIn_app (goodIn_sub ?_ ?_) ggX7_relate_X0_isLie
  · exact wm_c ⟨(wk_X7_relate_X7_relate_r1 _ (wm_16 (wm_2 (wm_1 wm_h)))), wm_c ⟨(wk_X7_relate_X7_relate_r1 _ (wm_16 (wm_4 wm_h))), wm_c ⟨(wk_X7_relate_X7_relate_r1 _ (wm_16 (wm_4 (wm_1 wm_h)))), wm_c ⟨(wk_X7_relate_X7_relate_r1 _ (wm_8 (wm_2 (wm_1 wm_h)))), wm_n⟩⟩⟩⟩
  · decide +kernel
set_option maxRecDepth 20000 in
theorem ggX7_relate_X2_enact : GoodIn wsX7_relate wsX2_enact := by
  refine goodIn_sub ?_ gd_X2_enact
  unfold wsX2_enact
  refine wm_c ⟨(wk_X7_relate_X7_relate_r3 _ (wm_4 wm_h)), ?_⟩
  refine wm_a ⟨?_, ?_⟩
  · refine wm_a ⟨?_, ?_⟩
    · refine wm_a ⟨?_, ?_⟩
      · refine wm_a ⟨?_, ?_⟩
        · unfold wsX2_enact_r1
          refine wm_c ⟨(wk_X7_relate_X7_relate_r3 _ (wm_4 (wm_1 wm_h))), ?_⟩
          refine wm_c ⟨(wk_X7_relate_X7_relate_r3 _ (wm_4 (wm_2 wm_h))), ?_⟩
          refine wm_c ⟨(wk_X7_relate_X7_relate_r3 _ (wm_4 (wm_2 (wm_1 wm_h)))), ?_⟩
          refine wm_c ⟨(wk_X7_relate_X7_relate_r3 _ (wm_8 wm_h)), ?_⟩
          refine wm_c ⟨(wk_X7_relate_X7_relate_r3 _ (wm_8 (wm_1 wm_h))), ?_⟩
          refine wm_c ⟨(wk_X7_relate_X7_relate_r3 _ (wm_8 (wm_2 wm_h))), ?_⟩
          refine wm_c ⟨(wk_X7_relate_X7_relate_r3 _ (wm_8 (wm_2 (wm_1 wm_h)))), ?_⟩
          refine wm_c ⟨(wk_X7_relate_X7_relate_r3 _ (wm_8 (wm_4 wm_h))), ?_⟩
          refine wm_c ⟨(wk_X7_relate_X7_relate_r2 _ (wm_4 (wm_2 (wm_1 wm_h)))), ?_⟩
          refine wm_c ⟨(wk_X7_relate_X7_relate_r2 _ (wm_8 wm_h)), ?_⟩
          refine wm_c ⟨(wk_X7_relate_X7_relate_r2 _ (wm_8 (wm_1 wm_h))), ?_⟩
          refine wm_c ⟨(wk_X7_relate_X7_relate_r3 _ (wm_8 (wm_4 (wm_1 wm_h)))), ?_⟩
          refine wm_c ⟨(wk_X7_relate_X7_relate_r3 _ (wm_8 (wm_4 (wm_2 wm_h)))), ?_⟩
          refine wm_c ⟨(wk_X7_relate_X7_relate_r3 _ (wm_8 (wm_4 (wm_2 (wm_1 wm_h))))), ?_⟩
          refine wm_c ⟨(wk_X7_relate_X7_relate_r3 _ (wm_16 wm_h)), ?_⟩
          refine wm_c ⟨(wk_X7_relate_X7_relate_r3 _ (wm_16 (wm_1 wm_h))), ?_⟩
          refine wm_c ⟨(wk_X7_relate_X7_relate_r3 _ (wm_16 (wm_2 wm_h))), ?_⟩
          refine wm_c ⟨(wk_X7_relate_X7_relate_r3 _ (wm_16 (wm_2 (wm_1 wm_h)))), ?_⟩
          refine wm_c ⟨(wk_X7_relate_X7_relate_r3 _ (wm_16 (wm_4 wm_h))), ?_⟩
          refine wm_c ⟨(wk_X7_relate_X7_relate_r3 _ (wm_2 (wm_1 wm_h))), ?_⟩
          refine wm_c ⟨(wk_X7_relate_X7_relate_r3 _ (wm_16 (wm_4 (wm_1 wm_h)))), ?_⟩
          refine wm_c ⟨(wk_X7_relate_X7_relate_r3 _ (wm_16 (wm_4 (wm_2 wm_h)))), ?_⟩
          refine wm_c ⟨(wk_X7_relate_X7_relate_r3 _ (wm_16 (wm_4 (wm_2 (wm_1 wm_h))))), ?_⟩
          refine wm_c ⟨(wk_X7_relate_X7_relate_r4 _ wm_h), ?_⟩
          exact wm_n
        · refine wm_a ⟨?_, ?_⟩
          · unfold wsX2_enact_r2
            refine wm_c ⟨(wk_X7_relate_X7_relate_r4 _ (wm_1 wm_h)), ?_⟩
            refine wm_c ⟨(wk_X7_relate_X7_relate_r4 _ (wm_2 wm_h)), ?_⟩
            refine wm_c ⟨(wk_X7_relate_X7_relate_r4 _ (wm_2 (wm_1 wm_h))), ?_⟩
            refine wm_c ⟨(wk_X7_relate_X7_relate_r4 _ (wm_4 wm_h)), ?_⟩
            refine wm_c ⟨(wk_X7_relate_X7_relate_r4 _ (wm_4 (wm_1 wm_h))), ?_⟩
            refine wm_c ⟨(wk_X7_relate_X7_relate_r4 _ (wm_4 (wm_2 wm_h))), ?_⟩
            refine wm_c ⟨(wk_X7_relate_X7_relate_r4 _ (wm_4 (wm_2 (wm_1 wm_h)))), ?_⟩
            refine wm_c ⟨(wk_X7_relate_X7_relate_r4 _ (wm_8 wm_h)), ?_⟩
            refine wm_c ⟨(wk_X7_relate_X7_relate_r4 _ (wm_8 (wm_1 wm_h))), ?_⟩
            refine wm_c ⟨(wk_X7_relate_X7_relate_r4 _ (wm_8 (wm_2 wm_h))), ?_⟩
            refine wm_c ⟨(wk_X7_relate_X7_relate_r4 _ (wm_8 (wm_2 (wm_1 wm_h)))), ?_⟩
            refine wm_c ⟨(wk_X7_relate_X7_relate_r2 _ (wm_16 wm_h)), ?_⟩
            refine wm_c ⟨(wk_X7_relate_X7_relate_r2 _ (wm_16 (wm_1 wm_h))), ?_⟩
            refine wm_c ⟨(wk_X7_relate_X7_relate_r2 _ (wm_16 (wm_2 wm_h))), ?_⟩
            refine wm_c ⟨(wk_X7_relate_X7_relate_r2 _ (wm_16 (wm_2 (wm_1 wm_h)))), ?_⟩
            refine wm_c ⟨(wk_X7_relate_X7_relate_r4 _ (wm_8 (wm_4 wm_h))), ?_⟩
            refine wm_c ⟨(wk_X7_relate_X7_relate_r4 _ (wm_8 (wm_4 (wm_1 wm_h)))), ?_⟩
            refine wm_c ⟨(wk_X7_relate_X7_relate_r4 _ (wm_8 (wm_4 (wm_2 wm_h)))), ?_⟩
            refine wm_c ⟨(wk_X7_relate_X7_relate_r2 _ (wm_16 (wm_4 (wm_2 (wm_1 wm_h))))), ?_⟩
            refine wm_c ⟨(wk_X7_relate_X7_relate_r4 _ (wm_8 (wm_4 (wm_2 (wm_1 wm_h))))), ?_⟩
            refine wm_c ⟨(wk_X7_relate_X7_relate_r4 _ (wm_16 wm_h)), ?_⟩
            refine wm_c ⟨(wk_X7_relate_X7_relate_r4 _ (wm_16 (wm_1 wm_h))), ?_⟩
            refine wm_c ⟨(wk_X7_relate_X7_relate_r4 _ (wm_16 (wm_2 wm_h))), ?_⟩
            refine wm_c ⟨(wk_X7_relate_X7_relate_r4 _ (wm_16 (wm_2 (wm_1 wm_h)))), ?_⟩
            exact wm_n
          · unfold wsX2_enact_r3
            refine wm_c ⟨(wk_X7_relate_X7_relate_r4 _ (wm_16 (wm_4 wm_h))), ?_⟩
            refine wm_c ⟨(wk_X7_relate_X7_relate_r4 _ (wm_16 (wm_4 (wm_1 wm_h)))), ?_⟩
            refine wm_c ⟨(wk_X7_relate_X7_relate_r4 _ (wm_16 (wm_4 (wm_2 wm_h)))), ?_⟩
            refine wm_c ⟨(wk_X7_relate_X7_relate_r4 _ (wm_16 (wm_4 (wm_2 (wm_1 wm_h))))), ?_⟩
            refine wm_c ⟨(wk_X7_relate_X7_relate_r2 _ (wm_16 (wm_4 (wm_1 wm_h)))), ?_⟩
            refine wm_c ⟨(wk_X7_relate_X7_relate_r2 _ (wm_16 (wm_4 (wm_2 wm_h)))), ?_⟩
            refine wm_c ⟨(wk_X7_relate_X7_relate_r5 _ wm_h), ?_⟩
            refine wm_c ⟨(wk_X7_relate_X7_relate_r5 _ (wm_1 wm_h)), ?_⟩
            refine wm_c ⟨(wk_X7_relate_X7_relate_r5 _ (wm_2 wm_h)), ?_⟩
            refine wm_c ⟨(wk_X7_relate_X7_relate_r5 _ (wm_2 (wm_1 wm_h))), ?_⟩
            refine wm_c ⟨(wk_X7_relate_X7_relate_r5 _ (wm_4 wm_h)), ?_⟩
            refine wm_c ⟨(wk_X7_relate_X7_relate_r5 _ (wm_4 (wm_1 wm_h))), ?_⟩
            refine wm_c ⟨(wk_X7_relate_X7_relate_r5 _ (wm_4 (wm_2 wm_h))), ?_⟩
            refine wm_c ⟨(wk_X7_relate_X7_relate_r5 _ (wm_4 (wm_2 (wm_1 wm_h)))), ?_⟩
            refine wm_c ⟨(wk_X7_relate_X7_relate_r5 _ (wm_8 wm_h)), ?_⟩
            refine wm_c ⟨(wk_X7_relate_X7_relate_r5 _ (wm_8 (wm_1 wm_h))), ?_⟩
            refine wm_c ⟨(wk_X7_relate_X7_relate_r5 _ (wm_8 (wm_2 wm_h))), ?_⟩
            refine wm_c ⟨(wk_X7_relate_X7_relate_r5 _ (wm_8 (wm_2 (wm_1 wm_h)))), ?_⟩
            refine wm_c ⟨(wk_X7_relate_X7_relate_r5 _ (wm_8 (wm_4 wm_h))), ?_⟩
            refine wm_c ⟨(wk_X7_relate_X7_relate_r5 _ (wm_8 (wm_4 (wm_1 wm_h)))), ?_⟩
            refine wm_c ⟨(wk_X7_relate_X7_relate_r5 _ (wm_8 (wm_4 (wm_2 wm_h)))), ?_⟩
            exact wm_n
      · exact wk_X7_relate_X20
    · exact wk_X7_relate_X60
  · exact wk_X7_relate_X10
set_option maxRecDepth 20000 in
theorem gX7_relate_X2_enact : GoodIn wsX7_relate (wsV RX7 225 RX2 yX2_enact wsX2_enact) := by
  refine goodIn_app (goodIn_sub ?_ ?_) ggX7_relate_X2_enact
  · exact wm_c ⟨(wk_X7_relate_X7_relate_r3 _ wm_h), wm_c ⟨(wk_X7_relate_X7_relate_r3 _ (wm_1 wm_h)), wm_c ⟨(wk_X7_relate_X7_relate_r3 _ (wm_2 wm_h)), wm_c ⟨(wk_X7_relate_X7_relate_r3 _ (wm_2 (wm_1 wm_h))), wm_n⟩⟩⟩⟩
  · decide +kernel
theorem dX7_relate_0 : decode cX7_relate 0 = .ok (.iload_n 1, 1) := by decide +kernel
theorem dX7_relate_1 : decode cX7_relate 1 = .ok (.invokestatic 78, 3) := by decide +kernel
theorem dX7_relate_4 : decode cX7_relate 4 = .ok (.ifCond .eq 5, 3) := by decide +kernel
theorem dX7_relate_7 : decode cX7_relate 7 = .ok (.iconst (-1), 1) := by decide +kernel
theorem dX7_relate_8 : decode cX7_relate 8 = .ok (.ireturn, 1) := by decide +kernel
theorem dX7_relate_9 : decode cX7_relate 9 = .ok (.aload_n 0, 1) := by decide +kernel
theorem dX7_relate_10 : decode cX7_relate 10 = .ok (.getfield 40, 3) := by decide +kernel
theorem dX7_relate_13 : decode cX7_relate 13 = .ok (.aload_n 0, 1) := by decide +kernel
theorem dX7_relate_14 : decode cX7_relate 14 = .ok (.getfield 32, 3) := by decide +kernel
theorem dX7_relate_17 : decode cX7_relate 17 = .ok (.iload_n 1, 1) := by decide +kernel
theorem dX7_relate_18 : decode cX7_relate 18 = .ok (.aaload, 1) := by decide +kernel
theorem dX7_relate_19 : decode cX7_relate 19 = .ok (.invokevirtual 220, 3) := by decide +kernel
theorem dX7_relate_22 : decode cX7_relate 22 = .ok (.istore_n 2, 1) := by decide +kernel
theorem dX7_relate_23 : decode cX7_relate 23 = .ok (.iload_n 2, 1) := by decide +kernel
theorem dX7_relate_24 : decode cX7_relate 24 = .ok (.iconst 1, 1) := by decide +kernel
theorem dX7_relate_25 : decode cX7_relate 25 = .ok (.if_icmp .lt 19, 3) := by decide +kernel
theorem dX7_relate_28 : decode cX7_relate 28 = .ok (.aload_n 0, 1) := by decide +kernel
theorem dX7_relate_29 : decode cX7_relate 29 = .ok (.getfield 40, 3) := by decide +kernel
theorem dX7_relate_32 : decode cX7_relate 32 = .ok (.aload_n 0, 1) := by decide +kernel
theorem dX7_relate_33 : decode cX7_relate 33 = .ok (.getfield 32, 3) := by decide +kernel
theorem dX7_relate_36 : decode cX7_relate 36 = .ok (.iload_n 1, 1) := by decide +kernel
theorem dX7_relate_37 : decode cX7_relate 37 = .ok (.aaload, 1) := by decide +kernel
theorem dX7_relate_38 : decode cX7_relate 38 = .ok (.invokevirtual 196, 3) := by decide +kernel
theorem dX7_relate_41 : decode cX7_relate 41 = .ok (.ifCond .ne 6, 3) := by decide +kernel
theorem dX7_relate_44 : decode cX7_relate 44 = .ok (.bipush (-3), 2) := by decide +kernel
theorem dX7_relate_46 : decode cX7_relate 46 = .ok (.ireturn, 1) := by decide +kernel
theorem dX7_relate_47 : decode cX7_relate 47 = .ok (.aload_n 0, 1) := by decide +kernel
theorem dX7_relate_48 : decode cX7_relate 48 = .ok (.getfield 65, 3) := by decide +kernel
theorem dX7_relate_51 : decode cX7_relate 51 = .ok (.getfield 224, 3) := by decide +kernel
theorem dX7_relate_54 : decode cX7_relate 54 = .ok (.iconst 4, 1) := by decide +kernel
theorem dX7_relate_55 : decode cX7_relate 55 = .ok (.if_icmp .lt 6, 3) := by decide +kernel
theorem dX7_relate_58 : decode cX7_relate 58 = .ok (.bipush (-4), 2) := by decide +kernel
theorem dX7_relate_60 : decode cX7_relate 60 = .ok (.ireturn, 1) := by decide +kernel
theorem dX7_relate_61 : decode cX7_relate 61 = .ok (.aload_n 0, 1) := by decide +kernel
theorem dX7_relate_62 : decode cX7_relate 62 = .ok (.getfield 65, 3) := by decide +kernel
theorem dX7_relate_65 : decode cX7_relate 65 = .ok (.aload_n 0, 1) := by decide +kernel
theorem dX7_relate_66 : decode cX7_relate 66 = .ok (.getfield 32, 3) := by decide +kernel
theorem dX7_relate_69 : decode cX7_relate 69 = .ok (.iload_n 1, 1) := by decide +kernel
theorem dX7_relate_70 : decode cX7_relate 70 = .ok (.aaload, 1) := by decide +kernel
theorem dX7_relate_71 : decode cX7_relate 71 = .ok (.iload_n 2, 1) := by decide +kernel
theorem dX7_relate_72 : decode cX7_relate 72 = .ok (.invokevirtual 225, 3) := by decide +kernel
theorem dX7_relate_75 : decode cX7_relate 75 = .ok (.ireturn, 1) := by decide +kernel
set_option maxRecDepth 20000 in
theorem ggX7_size_X1_ofLength : GoodIn wsX7_size wsX1_ofLength := by
  refine goodIn_sub ?_ gd_X1_ofLength
  unfold wsX1_ofLength
  refine wm_c ⟨(wm_1 (wm_l (wm_l (wm_l (wm_l (wm_8 (wm_1 wm_h))))))), ?_⟩
  refine wm_a ⟨?_, ?_⟩
  · refine wm_c ⟨(wm_1 (wm_l (wm_l (wm_l (wm_l (wm_8 (wm_2 wm_h))))))), ?_⟩
    exact wm_n
  · exact wk_X7_size_X10
set_option maxRecDepth 20000 in
theorem gX7_size_X1_ofLength : GoodIn wsX7_size (wsV RX7 172 RX1 yX1_ofLength wsX1_ofLength) := by
  refine goodIn_app (goodIn_sub ?_ ?_) ggX7_size_X1_ofLength
  · exact wm_c ⟨(wm_1 (wm_l (wm_l (wm_l (wm_l (wm_4 (wm_1 wm_h))))))), wm_c ⟨(wm_1 (wm_l (wm_l (wm_l (wm_l (wm_4 (wm_2 wm_h))))))), wm_c ⟨(wm_1 (wm_l (wm_l (wm_l (wm_l (wm_4 (wm_2 (wm_1 wm_h)))))))), wm_c ⟨(wm_1 (wm_l (wm_l (wm_l (wm_l (wm_8 wm_h)))))), wm_n⟩⟩⟩⟩
  · decide +kernel
theorem dX7_size_0 : decode cX7_size 0 = .ok (.iload_n 1, 1) := by decide +kernel
theorem dX7_size_1 : decode cX7_size 1 = .ok (.iconst 1, 1) := by decide +kernel
theorem dX7_size_2 : decode cX7_size 2 = .ok (.if_icmp .lt 14, 3) := by decide +kernel
theorem dX7_size_5 : decode cX7_size 5 = .ok (.iload_n 1, 1) := by decide +kernel
theorem dX7_size_6 : decode cX7_size 6 = .ok (.aload_n 0, 1) := by decide +kernel
theorem dX7_size_7 : decode cX7_size 7 = .ok (.getfield 20, 3) := by decide +kernel
theorem dX7_size_10 : decode cX7_size 10 = .ok (.getfield 151, 3) := by decide +kernel
theorem dX7_size_13 : decode cX7_size 13 = .ok (.if_icmp .le 5, 3) := by decide +kernel
theorem dX7_size_16 : decode cX7_size 16 = .ok (.iconst (-1), 1) := by decide +kernel
theorem dX7_size_17 : decode cX7_size 17 = .ok (.ireturn, 1) := by decide +kernel
theorem dX7_size_18 : decode cX7_size 18 = .ok (.aload_n 0, 1) := by decide +kernel
theorem dX7_size_19 : decode cX7_size 19 = .ok (.getfield 49, 3) := by decide +kernel
theorem dX7_size_22 : decode cX7_size 22 = .ok (.iload_n 1, 1) := by decide +kernel
theorem dX7_size_23 : decode cX7_size 23 = .ok (.invokevirtual 172, 3) := by decide +kernel
theorem dX7_size_26 : decode cX7_size 26 = .ok (.aload_n 0, 1) := by decide +kernel
theorem dX7_size_27 : decode cX7_size 27 = .ok (.getfield 65, 3) := by decide +kernel
theorem dX7_size_30 : decode cX7_size 30 = .ok (.getfield 229, 3) := by decide +kernel
theorem dX7_size_33 : decode cX7_size 33 = .ok (.iload_n 1, 1) := by decide +kernel
theorem dX7_size_34 : decode cX7_size 34 = .ok (.iaload, 1) := by decide +kernel
theorem dX7_size_35 : decode cX7_size 35 = .ok (.isub, 1) := by decide +kernel
theorem dX7_size_36 : decode cX7_size 36 = .ok (.ireturn, 1) := by decide +kernel
set_option maxRecDepth 20000 in
theorem ggX7_feed_X4_append : GoodIn wsX7_feed wsX4_append := by
  refine goodIn_sub ?_ gd_X4_append
  unfold wsX4_append
  refine wm_c ⟨(wm_1 (wm_l (wm_l (wm_4 (wm_2 wm_h))))), ?_⟩
  refine wm_a ⟨?_, ?_⟩
  · refine wm_c ⟨(wm_1 (wm_l (wm_l (wm_4 (wm_2 (wm_1 wm_h)))))), ?_⟩
    refine wm_c ⟨(wm_1 (wm_l (wm_l (wm_8 wm_h)))), ?_⟩
    refine wm_c ⟨(wm_1 (wm_l (wm_l (wm_8 (wm_1 wm_h))))), ?_⟩
    exact wm_n
  · exact wk_X7_feed_X40
set_option maxRecDepth 20000 in
theorem gX7_feed_X4_append : GoodIn wsX7_feed (wsV RX7 235 RX4 yX4_append wsX4_append) := by
  refine goodIn_app (goodIn_sub ?_ ?_) ggX7_feed_X4_append
  · exact wm_c ⟨(wm_1 (wm_l (wm_l (wm_2 wm_h)))), wm_c ⟨(wm_1 (wm_l (wm_l (wm_2 (wm_1 wm_h))))), wm_c ⟨(wm_1 (wm_l (wm_l (wm_4 wm_h)))), wm_c ⟨(wm_1 (wm_l (wm_l (wm_4 (wm_1 wm_h))))), wm_n⟩⟩⟩⟩
  · decide +kernel
theorem dX7_feed_0 : decode cX7_feed 0 = .ok (.iload_n 3, 1) := by decide +kernel
theorem dX7_feed_1 : decode cX7_feed 1 = .ok (.iconst 1, 1) := by decide +kernel
theorem dX7_feed_2 : decode cX7_feed 2 = .ok (.if_icmp .lt 9, 3) := by decide +kernel
theorem dX7_feed_5 : decode cX7_feed 5 = .ok (.iload_n 3, 1) := by decide +kernel
theorem dX7_feed_6 : decode cX7_feed 6 = .ok (.bipush 8, 2) := by decide +kernel
theorem dX7_feed_8 : decode cX7_feed 8 = .ok (.if_icmp .le 6, 3) := by decide +kernel
theorem dX7_feed_11 : decode cX7_feed 11 = .ok (.bipush (-2), 2) := by decide +kernel
theorem dX7_feed_13 : decode cX7_feed 13 = .ok (.ireturn, 1) := by decide +kernel
theorem dX7_feed_14 : decode cX7_feed 14 = .ok (.aload_n 0, 1) := by decide +kernel
theorem dX7_feed_15 : decode cX7_feed 15 = .ok (.getfield 74, 3) := by decide +kernel
theorem dX7_feed_18 : decode cX7_feed 18 = .ok (.getfield 232, 3) := by decide +kernel
theorem dX7_feed_21 : decode cX7_feed 21 = .ok (.iload_n 3, 1) := by decide +kernel
theorem dX7_feed_22 : decode cX7_feed 22 = .ok (.iadd, 1) := by decide +kernel
theorem dX7_feed_23 : decode cX7_feed 23 = .ok (.bipush 100, 2) := by decide +kernel
theorem dX7_feed_25 : decode cX7_feed 25 = .ok (.if_icmp .le 6, 3) := by decide +kernel
theorem dX7_feed_28 : decode cX7_feed 28 = .ok (.bipush (-4), 2) := by decide +kernel
theorem dX7_feed_30 : decode cX7_feed 30 = .ok (.ireturn, 1) := by decide +kernel
theorem dX7_feed_31 : decode cX7_feed 31 = .ok (.aload_n 0, 1) := by decide +kernel
theorem dX7_feed_32 : decode cX7_feed 32 = .ok (.getfield 74, 3) := by decide +kernel
theorem dX7_feed_35 : decode cX7_feed 35 = .ok (.lload_n 1, 1) := by decide +kernel
theorem dX7_feed_36 : decode cX7_feed 36 = .ok (.iload_n 3, 1) := by decide +kernel
theorem dX7_feed_37 : decode cX7_feed 37 = .ok (.invokevirtual 235, 3) := by decide +kernel
theorem dX7_feed_40 : decode cX7_feed 40 = .ok (.ireturn, 1) := by decide +kernel
set_option maxRecDepth 20000 in
theorem ggX7_read_X7_noSum : GoodIn wsX7_read wsX7_noSum := by
  refine goodIn_sub ?_ gd_X7_noSum
  unfold wsX7_noSum
  refine wm_c ⟨(wk_X7_read_X7_read_r1 _ (wm_4 (wm_1 wm_h))), ?_⟩
  exact wm_n
set_option maxRecDepth 20000 in
theorem gX7_read_X7_noSum : GoodIn wsX7_read (va_wsS RX7 78 yX7_noSum wsX7_noSum) := goodIn_app (goodIn_of _ (by decide +kernel)) ggX7_read_X7_noSum
set_option maxRecDepth 20000 in
theorem ggX7_read_X4_tell : GoodIn wsX7_read wsX4_tell := by
  refine goodIn_sub ?_ gd_X4_tell
  unfold wsX4_tell
  refine wm_c ⟨(wk_X7_read_X7_read_r1 _ (wm_8 (wm_2 wm_h))), ?_⟩
  refine wm_a ⟨?_, ?_⟩
  · refine wm_a ⟨?_, ?_⟩
    · refine wm_a ⟨?_, ?_⟩
      · refine wm_a ⟨?_, ?_⟩
        · unfold wsX4_tell_r1
          refine wm_c ⟨(wk_X7_read_X7_read_r1 _ (wm_8 (wm_2 (wm_1 wm_h)))), ?_⟩
          refine wm_c ⟨(wk_X7_read_X7_read_r1 _ (wm_8 (wm_4 wm_h))), ?_⟩
          refine wm_c ⟨(wk_X7_read_X7_read_r1 _ (wm_8 (wm_4 (wm_1 wm_h)))), ?_⟩
          refine wm_c ⟨(wk_X7_read_X7_read_r1 _ (wm_8 (wm_4 (wm_2 wm_h)))), ?_⟩
          refine wm_c ⟨(wk_X7_read_X7_read_r1 _ (wm_8 (wm_4 (wm_2 (wm_1 wm_h))))), ?_⟩
          refine wm_c ⟨(wk_X7_read_X7_read_r1 _ (wm_16 wm_h)), ?_⟩
          refine wm_c ⟨(wk_X7_read_X7_read_r1 _ (wm_16 (wm_1 wm_h))), ?_⟩
          refine wm_c ⟨(wk_X7_read_X7_read_r1 _ (wm_16 (wm_2 wm_h))), ?_⟩
          refine wm_c ⟨(wk_X7_read_X7_read_r1 _ (wm_8 (wm_1 wm_h))), ?_⟩
          refine wm_c ⟨(wk_X7_read_X7_read_r1 _ (wm_16 (wm_2 (wm_1 wm_h)))), ?_⟩
          refine wm_c ⟨(wk_X7_read_X7_read_r1 _ (wm_16 (wm_4 wm_h))), ?_⟩
          refine wm_c ⟨(wk_X7_read_X7_read_r1 _ (wm_16 (wm_4 (wm_1 wm_h)))), ?_⟩
          refine wm_c ⟨(wk_X7_read_X7_read_r1 _ (wm_16 (wm_4 (wm_2 wm_h)))), ?_⟩
          refine wm_c ⟨(wk_X7_read_X7_read_r1 _ (wm_16 (wm_4 (wm_2 (wm_1 wm_h))))), ?_⟩
          refine wm_c ⟨(wk_X7_read_X7_read_r2 _ wm_h), ?_⟩
          refine wm_c ⟨(wk_X7_read_X7_read_r2 _ (wm_1 wm_h)), ?_⟩
          refine wm_c ⟨(wk_X7_read_X7_read_r2 _ (wm_2 wm_h)), ?_⟩
          refine wm_c ⟨(wk_X7_read_X7_read_r2 _ (wm_2 (wm_1 wm_h))), ?_⟩
          refine wm_c ⟨(wk_X7_read_X7_read_r2 _ (wm_4 wm_h)), ?_⟩
          refine wm_c ⟨(wk_X7_read_X7_read_r2 _ (wm_4 (wm_1 wm_h))), ?_⟩
          refine wm_c ⟨(wk_X7_read_X7_read_r2 _ (wm_4 (wm_2 wm_h))), ?_⟩
          refine wm_c ⟨(wk_X7_read_X7_read_r2 _ (wm_4 (wm_2 (wm_1 wm_h)))), ?_⟩
          refine wm_c ⟨(wk_X7_read_X7_read_r2 _ (wm_8 wm_h)), ?_⟩
          refine wm_c ⟨(wk_X7_read_X7_read_r2 _ (wm_8 (wm_1 wm_h))), ?_⟩
          exact wm_n
        · refine wm_a ⟨?_, ?_⟩
          · unfold wsX4_tell_r2
            refine wm_c ⟨(wk_X7_read_X7_read_r2 _ (wm_8 (wm_2 wm_h))), ?_⟩
            refine wm_c ⟨(wk_X7_read_X7_read_r2 _ (wm_8 (wm_2 (wm_1 wm_h)))), ?_⟩
            refine wm_c ⟨(wk_X7_read_X7_read_r2 _ (wm_8 (wm_4 wm_h))), ?_⟩
            refine wm_c ⟨(wk_X7_read_X7_read_r2 _ (wm_8 (wm_4 (wm_1 wm_h)))), ?_⟩
            refine wm_c ⟨(wk_X7_read_X7_read_r2 _ (wm_8 (wm_4 (wm_2 wm_h)))), ?_⟩
            refine wm_c ⟨(wk_X7_read_X7_read_r2 _ (wm_8 (wm_4 (wm_2 (wm_1 wm_h))))), ?_⟩
            refine wm_c ⟨(wk_X7_read_X7_read_r2 _ (wm_16 wm_h)), ?_⟩
            refine wm_c ⟨(wk_X7_read_X7_read_r2 _ (wm_16 (wm_1 wm_h))), ?_⟩
            refine wm_c ⟨(wk_X7_read_X7_read_r2 _ (wm_16 (wm_2 wm_h))), ?_⟩
            refine wm_c ⟨(wk_X7_read_X7_read_r2 _ (wm_16 (wm_2 (wm_1 wm_h)))), ?_⟩
            refine wm_c ⟨(wk_X7_read_X7_read_r2 _ (wm_16 (wm_4 wm_h))), ?_⟩
            refine wm_c ⟨(wk_X7_read_X7_read_r2 _ (wm_16 (wm_4 (wm_1 wm_h)))), ?_⟩
            refine wm_c ⟨(wk_X7_read_X7_read_r2 _ (wm_16 (wm_4 (wm_2 wm_h)))), ?_⟩
            refine wm_c ⟨(wk_X7_read_X7_read_r2 _ (wm_16 (wm_4 (wm_2 (wm_1 wm_h))))), ?_⟩
            refine wm_c ⟨(wk_X7_read_X7_read_r3 _ wm_h), ?_⟩
            refine wm_c ⟨(wk_X7_read_X7_read_r3 _ (wm_1 wm_h)), ?_⟩
            refine wm_c ⟨(wk_X7_read_X7_read_r3 _ (wm_2 wm_h)), ?_⟩
            refine wm_c ⟨(wk_X7_read_X7_read_r3 _ (wm_2 (wm_1 wm_h))), ?_⟩
            refine wm_c ⟨(wk_X7_read_X7_read_r3 _ (wm_4 wm_h)), ?_⟩
            refine wm_c ⟨(wk_X7_read_X7_read_r3 _ (wm_4 (wm_1 wm_h))), ?_⟩
            refine wm_c ⟨(wk_X7_read_X7_read_r3 _ (wm_4 (wm_2 wm_h))), ?_⟩
            refine wm_c ⟨(wk_X7_read_X7_read_r3 _ (wm_4 (wm_2 (wm_1 wm_h)))), ?_⟩
            refine wm_c ⟨(wk_X7_read_X7_read_r3 _ (wm_8 wm_h)), ?_⟩
            refine wm_c ⟨(wk_X7_read_X7_read_r3 _ (wm_8 (wm_1 wm_h))), ?_⟩
            exact wm_n
          · refine wm_a ⟨?_, ?_⟩
            · unfold wsX4_tell_r3
              refine wm_c ⟨(wk_X7_read_X7_read_r3 _ (wm_8 (wm_2 wm_h))), ?_⟩
              refine wm_c ⟨(wk_X7_read_X7_read_r3 _ (wm_8 (wm_2 (wm_1 wm_h)))), ?_⟩
              refine wm_c ⟨(wk_X7_read_X7_read_r3 _ (wm_8 (wm_4 wm_h))), ?_⟩
              refine wm_c ⟨(wk_X7_read_X7_read_r3 _ (wm_8 (wm_4 (wm_1 wm_h)))), ?_⟩
              refine wm_c ⟨(wk_X7_read_X7_read_r3 _ (wm_8 (wm_4 (wm_2 wm_h)))), ?_⟩
              refine wm_c ⟨(wk_X7_read_X7_read_r3 _ (wm_8 (wm_4 (wm_2 (wm_1 wm_h))))), ?_⟩
              refine wm_c ⟨(wk_X7_read_X7_read_r3 _ (wm_16 wm_h)), ?_⟩
              refine wm_c ⟨(wk_X7_read_X7_read_r3 _ (wm_16 (wm_1 wm_h))), ?_⟩
              refine wm_c ⟨(wk_X7_read_X7_read_r3 _ (wm_16 (wm_2 wm_h))), ?_⟩
              refine wm_c ⟨(wk_X7_read_X7_read_r3 _ (wm_16 (wm_2 (wm_1 wm_h)))), ?_⟩
              refine wm_c ⟨(wk_X7_read_X7_read_r3 _ (wm_16 (wm_4 wm_h))), ?_⟩
              refine wm_c ⟨(wk_X7_read_X7_read_r3 _ (wm_16 (wm_4 (wm_1 wm_h)))), ?_⟩
              refine wm_c ⟨(wk_X7_read_X7_read_r3 _ (wm_16 (wm_4 (wm_2 wm_h)))), ?_⟩
              refine wm_c ⟨(wk_X7_read_X7_read_r3 _ (wm_16 (wm_4 (wm_2 (wm_1 wm_h))))), ?_⟩
              refine wm_c ⟨(wk_X7_read_X7_read_r4 _ wm_h), ?_⟩
              refine wm_c ⟨(wk_X7_read_X7_read_r4 _ (wm_1 wm_h)), ?_⟩
              refine wm_c ⟨(wk_X7_read_X7_read_r4 _ (wm_2 wm_h)), ?_⟩
              refine wm_c ⟨(wk_X7_read_X7_read_r4 _ (wm_2 (wm_1 wm_h))), ?_⟩
              refine wm_c ⟨(wk_X7_read_X7_read_r4 _ (wm_4 wm_h)), ?_⟩
              refine wm_c ⟨(wk_X7_read_X7_read_r4 _ (wm_4 (wm_1 wm_h))), ?_⟩
              refine wm_c ⟨(wk_X7_read_X7_read_r4 _ (wm_4 (wm_2 wm_h))), ?_⟩
              refine wm_c ⟨(wk_X7_read_X7_read_r4 _ (wm_4 (wm_2 (wm_1 wm_h)))), ?_⟩
              refine wm_c ⟨(wk_X7_read_X7_read_r4 _ (wm_8 wm_h)), ?_⟩
              refine wm_c ⟨(wk_X7_read_X7_read_r4 _ (wm_8 (wm_1 wm_h))), ?_⟩
              exact wm_n
            · refine wm_a ⟨?_, ?_⟩
              · unfold wsX4_tell_r4
                refine wm_c ⟨(wk_X7_read_X7_read_r4 _ (wm_8 (wm_2 wm_h))), ?_⟩
                refine wm_c ⟨(wk_X7_read_X7_read_r4 _ (wm_8 (wm_2 (wm_1 wm_h)))), ?_⟩
                refine wm_c ⟨(wk_X7_read_X7_read_r4 _ (wm_8 (wm_4 wm_h))), ?_⟩
                refine wm_c ⟨(wk_X7_read_X7_read_r4 _ (wm_8 (wm_4 (wm_1 wm_h)))), ?_⟩
                refine wm_c ⟨(wk_X7_read_X7_read_r4 _ (wm_8 (wm_4 (wm_2 wm_h)))), ?_⟩
                refine wm_c ⟨(wk_X7_read_X7_read_r4 _ (wm_8 (wm_4 (wm_2 (wm_1 wm_h))))), ?_⟩
                refine wm_c ⟨(wk_X7_read_X7_read_r4 _ (wm_16 wm_h)), ?_⟩
                refine wm_c ⟨(wk_X7_read_X7_read_r4 _ (wm_16 (wm_1 wm_h))), ?_⟩
                refine wm_c ⟨(wk_X7_read_X7_read_r4 _ (wm_16 (wm_2 wm_h))), ?_⟩
                refine wm_c ⟨(wk_X7_read_X7_read_r4 _ (wm_16 (wm_2 (wm_1 wm_h)))), ?_⟩
                refine wm_c ⟨(wk_X7_read_X7_read_r4 _ (wm_16 (wm_4 wm_h))), ?_⟩
                refine wm_c ⟨(wk_X7_read_X7_read_r4 _ (wm_16 (wm_4 (wm_1 wm_h)))), ?_⟩
                refine wm_c ⟨(wk_X7_read_X7_read_r4 _ (wm_16 (wm_4 (wm_2 wm_h)))), ?_⟩
                refine wm_c ⟨(wk_X7_read_X7_read_r4 _ (wm_16 (wm_4 (wm_2 (wm_1 wm_h))))), ?_⟩
                refine wm_c ⟨(wk_X7_read_X7_read_r5 _ wm_h), ?_⟩
                refine wm_c ⟨(wk_X7_read_X7_read_r5 _ (wm_1 wm_h)), ?_⟩
                refine wm_c ⟨(wk_X7_read_X7_read_r5 _ (wm_2 wm_h)), ?_⟩
                refine wm_c ⟨(wk_X7_read_X7_read_r5 _ (wm_2 (wm_1 wm_h))), ?_⟩
                refine wm_c ⟨(wk_X7_read_X7_read_r5 _ (wm_4 wm_h)), ?_⟩
                refine wm_c ⟨(wk_X7_read_X7_read_r5 _ (wm_4 (wm_1 wm_h))), ?_⟩
                refine wm_c ⟨(wk_X7_read_X7_read_r5 _ (wm_4 (wm_2 wm_h))), ?_⟩
                refine wm_c ⟨(wk_X7_read_X7_read_r5 _ (wm_4 (wm_2 (wm_1 wm_h)))), ?_⟩
                refine wm_c ⟨(wk_X7_read_X7_read_r5 _ (wm_8 wm_h)), ?_⟩
                refine wm_c ⟨(wk_X7_read_X7_read_r5 _ (wm_8 (wm_1 wm_h))), ?_⟩
                exact wm_n
              · refine wm_a ⟨?_, ?_⟩
                · unfold wsX4_tell_r5
                  refine wm_c ⟨(wk_X7_read_X7_read_r5 _ (wm_8 (wm_2 wm_h))), ?_⟩
                  refine wm_c ⟨(wk_X7_read_X7_read_r5 _ (wm_8 (wm_2 (wm_1 wm_h)))), ?_⟩
                  refine wm_c ⟨(wk_X7_read_X7_read_r5 _ (wm_8 (wm_4 wm_h))), ?_⟩
                  refine wm_c ⟨(wk_X7_read_X7_read_r5 _ (wm_8 (wm_4 (wm_1 wm_h)))), ?_⟩
                  refine wm_c ⟨(wk_X7_read_X7_read_r5 _ (wm_8 (wm_4 (wm_2 wm_h)))), ?_⟩
                  refine wm_c ⟨(wk_X7_read_X7_read_r5 _ (wm_8 (wm_4 (wm_2 (wm_1 wm_h))))), ?_⟩
                  refine wm_c ⟨(wk_X7_read_X7_read_r5 _ (wm_16 wm_h)), ?_⟩
                  refine wm_c ⟨(wk_X7_read_X7_read_r5 _ (wm_16 (wm_1 wm_h))), ?_⟩
                  refine wm_c ⟨(wk_X7_read_X7_read_r5 _ (wm_16 (wm_2 wm_h))), ?_⟩
                  refine wm_c ⟨(wk_X7_read_X7_read_r5 _ (wm_16 (wm_2 (wm_1 wm_h)))), ?_⟩
                  refine wm_c ⟨(wk_X7_read_X7_read_r5 _ (wm_16 (wm_4 wm_h))), ?_⟩
                  refine wm_c ⟨(wk_X7_read_X7_read_r5 _ (wm_16 (wm_4 (wm_1 wm_h)))), ?_⟩
                  refine wm_c ⟨(wk_X7_read_X7_read_r5 _ (wm_16 (wm_4 (wm_2 wm_h)))), ?_⟩
                  refine wm_c ⟨(wk_X7_read_X7_read_r5 _ (wm_16 (wm_4 (wm_2 (wm_1 wm_h))))), ?_⟩
                  refine wm_c ⟨(wk_X7_read_X7_read_r6 _ wm_h), ?_⟩
                  refine wm_c ⟨(wk_X7_read_X7_read_r6 _ (wm_1 wm_h)), ?_⟩
                  refine wm_c ⟨(wk_X7_read_X7_read_r6 _ (wm_2 wm_h)), ?_⟩
                  refine wm_c ⟨(wk_X7_read_X7_read_r6 _ (wm_2 (wm_1 wm_h))), ?_⟩
                  refine wm_c ⟨(wk_X7_read_X7_read_r6 _ (wm_4 wm_h)), ?_⟩
                  refine wm_c ⟨(wk_X7_read_X7_read_r1 _ (wm_2 (wm_1 wm_h))), ?_⟩
                  refine wm_c ⟨(wk_X7_read_X7_read_r1 _ (wm_4 wm_h)), ?_⟩
                  refine wm_c ⟨(wk_X7_read_X7_read_r1 _ (wm_4 (wm_1 wm_h))), ?_⟩
                  refine wm_c ⟨(wk_X7_read_X7_read_r6 _ (wm_4 (wm_1 wm_h))), ?_⟩
                  refine wm_c ⟨(wk_X7_read_X7_read_r6 _ (wm_4 (wm_2 wm_h))), ?_⟩
                  exact wm_n
                · refine wm_a ⟨?_, ?_⟩
                  · unfold wsX4_tell_r6
                    refine wm_c ⟨(wk_X7_read_X7_read_r6 _ (wm_4 (wm_2 (wm_1 wm_h)))), ?_⟩
                    refine wm_c ⟨(wk_X7_read_X7_read_r6 _ (wm_8 wm_h)), ?_⟩
                    refine wm_c ⟨(wk_X7_read_X7_read_r6 _ (wm_8 (wm_1 wm_h))), ?_⟩
                    refine wm_c ⟨(wk_X7_read_X7_read_r6 _ (wm_8 (wm_2 wm_h))), ?_⟩
                    refine wm_c ⟨(wk_X7_read_X7_read_r6 _ (wm_8 (wm_2 (wm_1 wm_h)))), ?_⟩
                    refine wm_c ⟨(wk_X7_read_X7_read_r6 _ (wm_8 (wm_4 wm_h))), ?_⟩
                    refine wm_c ⟨(wk_X7_read_X7_read_r6 _ (wm_8 (wm_4 (wm_1 wm_h)))), ?_⟩
                    refine wm_c ⟨(wk_X7_read_X7_read_r6 _ (wm_8 (wm_4 (wm_2 wm_h)))), ?_⟩
                    refine wm_c ⟨(wk_X7_read_X7_read_r6 _ (wm_8 (wm_4 (wm_2 (wm_1 wm_h))))), ?_⟩
                    refine wm_c ⟨(wk_X7_read_X7_read_r6 _ (wm_16 wm_h)), ?_⟩
                    refine wm_c ⟨(wk_X7_read_X7_read_r6 _ (wm_16 (wm_1 wm_h))), ?_⟩
                    refine wm_c ⟨(wk_X7_read_X7_read_r6 _ (wm_16 (wm_2 wm_h))), ?_⟩
                    refine wm_c ⟨(wk_X7_read_X7_read_r6 _ (wm_16 (wm_2 (wm_1 wm_h)))), ?_⟩
                    refine wm_c ⟨(wk_X7_read_X7_read_r6 _ (wm_16 (wm_4 wm_h))), ?_⟩
                    refine wm_c ⟨(wk_X7_read_X7_read_r6 _ (wm_16 (wm_4 (wm_1 wm_h)))), ?_⟩
                    refine wm_c ⟨(wk_X7_read_X7_read_r6 _ (wm_16 (wm_4 (wm_2 wm_h)))), ?_⟩
                    refine wm_c ⟨(wk_X7_read_X7_read_r6 _ (wm_16 (wm_4 (wm_2 (wm_1 wm_h))))), ?_⟩
                    refine wm_c ⟨(wk_X7_read_X7_read_r7 _ wm_h), ?_⟩
                    refine wm_c ⟨(wk_X7_read_X7_read_r7 _ (wm_1 wm_h)), ?_⟩
                    refine wm_c ⟨(wk_X7_read_X7_read_r7 _ (wm_2 wm_h)), ?_⟩
                    refine wm_c ⟨(wk_X7_read_X7_read_r7 _ (wm_2 (wm_1 wm_h))), ?_⟩
                    refine wm_c ⟨(wk_X7_read_X7_read_r7 _ (wm_4 wm_h)), ?_⟩
                    refine wm_c ⟨(wk_X7_read_X7_read_r7 _ (wm_4 (wm_1 wm_h))), ?_⟩
                    refine wm_c ⟨(wk_X7_read_X7_read_r7 _ (wm_4 (wm_2 wm_h))), ?_⟩
                    exact wm_n
                  · unfold wsX4_tell_r7
                    refine wm_c ⟨(wk_X7_read_X7_read_r7 _ (wm_4 (wm_2 (wm_1 wm_h)))), ?_⟩
                    refine wm_c ⟨(wk_X7_read_X7_read_r7 _ (wm_8 wm_h)), ?_⟩
                    refine wm_c ⟨(wk_X7_read_X7_read_r7 _ (wm_8 (wm_1 wm_h))), ?_⟩
                    refine wm_c ⟨(wk_X7_read_X7_read_r7 _ (wm_8 (wm_2 wm_h))), ?_⟩
                    refine wm_c ⟨(wk_X7_read_X7_read_r7 _ (wm_8 (wm_2 (wm_1 wm_h)))), ?_⟩
                    refine wm_c ⟨(wk_X7_read_X7_read_r7 _ (wm_8 (wm_4 wm_h))), ?_⟩
                    refine wm_c ⟨(wk_X7_read_X7_read_r7 _ (wm_8 (wm_4 (wm_1 wm_h)))), ?_⟩
                    refine wm_c ⟨(wk_X7_read_X7_read_r7 _ (wm_8 (wm_4 (wm_2 wm_h)))), ?_⟩
                    refine wm_c ⟨(wk_X7_read_X7_read_r7 _ (wm_8 (wm_4 (wm_2 (wm_1 wm_h))))), ?_⟩
                    refine wm_c ⟨(wk_X7_read_X7_read_r7 _ (wm_16 wm_h)), ?_⟩
                    refine wm_c ⟨(wk_X7_read_X7_read_r7 _ (wm_16 (wm_1 wm_h))), ?_⟩
                    refine wm_c ⟨(wk_X7_read_X7_read_r7 _ (wm_16 (wm_2 wm_h))), ?_⟩
                    refine wm_c ⟨(wk_X7_read_X7_read_r7 _ (wm_16 (wm_2 (wm_1 wm_h)))), ?_⟩
                    refine wm_c ⟨(wk_X7_read_X7_read_r7 _ (wm_16 (wm_4 wm_h))), ?_⟩
                    refine wm_c ⟨(wk_X7_read_X7_read_r7 _ (wm_16 (wm_4 (wm_1 wm_h)))), ?_⟩
                    exact wm_n
      · exact wk_X7_read_X40
    · exact wk_X7_read_X00
  · exact wk_X7_read_X60
set_option maxRecDepth 20000 in
theorem gX7_read_X4_tell : GoodIn wsX7_read (wsV RX7 238 RX4 yX4_tell wsX4_tell) := by
  refine goodIn_app (goodIn_sub ?_ ?_) ggX7_read_X4_tell
  · exact wm_c ⟨(wk_X7_read_X7_read_r1 _ (wm_4 (wm_2 wm_h))), wm_c ⟨(wk_X7_read_X7_read_r1 _ (wm_4 (wm_2 (wm_1 wm_h)))), wm_c ⟨(wk_X7_read_X7_read_r1 _ (wm_8 wm_h)), wm_c ⟨(wk_X7_read_X7_read_r1 _ (wm_8 (wm_1 wm_h))), wm_n⟩⟩⟩⟩
  · decide +kernel
theorem dX7_read_0 : decode cX7_read 0 = .ok (.iload_n 1, 1) := by decide +kernel
theorem dX7_read_1 : decode cX7_read 1 = .ok (.invokestatic 78, 3) := by decide +kernel
theorem dX7_read_4 : decode cX7_read 4 = .ok (.ifCond .eq 5, 3) := by decide +kernel
theorem dX7_read_7 : decode cX7_read 7 = .ok (.iconst (-1), 1) := by decide +kernel
theorem dX7_read_8 : decode cX7_read 8 = .ok (.ireturn, 1) := by decide +kernel
theorem dX7_read_9 : decode cX7_read 9 = .ok (.aload_n 0, 1) := by decide +kernel
theorem dX7_read_10 : decode cX7_read 10 = .ok (.getfield 74, 3) := by decide +kernel
theorem dX7_read_13 : decode cX7_read 13 = .ok (.aload_n 0, 1) := by decide +kernel
theorem dX7_read_14 : decode cX7_read 14 = .ok (.getfield 32, 3) := by decide +kernel
theorem dX7_read_17 : decode cX7_read 17 = .ok (.iload_n 1, 1) := by decide +kernel
theorem dX7_read_18 : decode cX7_read 18 = .ok (.aaload, 1) := by decide +kernel
theorem dX7_read_19 : decode cX7_read 19 = .ok (.invokevirtual 238, 3) := by decide +kernel
theorem dX7_read_22 : decode cX7_read 22 = .ok (.ireturn, 1) := by decide +kernel
set_option maxRecDepth 20000 in
theorem ggX7_count_X6_all : GoodIn wsX7_count wsX6_all := by
  refine goodIn_sub ?_ gd_X6_all
  unfold wsX6_all
  refine wm_c ⟨(wk_X7_count_X7_count_r1 _ (wm_8 (wm_4 (wm_2 wm_h)))), ?_⟩
  refine wm_a ⟨?_, ?_⟩
  · refine wm_c ⟨(wk_X7_count_X7_count_r1 _ (wm_8 (wm_4 (wm_2 (wm_1 wm_h))))), ?_⟩
    refine wm_c ⟨(wk_X7_count_X7_count_r1 _ (wm_16 wm_h)), ?_⟩
    exact wm_n
  · exact wk_X7_count_X60
set_option maxRecDepth 20000 in
theorem gX7_count_X6_all : GoodIn wsX7_count (wsV RX7 26 RX6 yX6_all wsX6_all) := by
  refine goodIn_app (goodIn_sub ?_ ?_) ggX7_count_X6_all
  · exact wm_c ⟨(wk_X7_count_X7_count_r1 _ (wm_8 (wm_2 wm_h))), wm_c ⟨(wk_X7_count_X7_count_r1 _ (wm_8 (wm_2 (wm_1 wm_h)))), wm_c ⟨(wk_X7_count_X7_count_r1 _ (wm_8 (wm_4 wm_h))), wm_c ⟨(wk_X7_count_X7_count_r1 _ (wm_8 (wm_4 (wm_1 wm_h)))), wm_n⟩⟩⟩⟩
  · decide +kernel
set_option maxRecDepth 20000 in
theorem ggX7_count_X1_all : GoodIn wsX7_count wsX1_all := by
  refine goodIn_sub ?_ gd_X1_all
  unfold wsX1_all
  refine wm_c ⟨(wk_X7_count_X7_count_r1 _ (wm_16 (wm_4 (wm_1 wm_h)))), ?_⟩
  refine wm_a ⟨?_, ?_⟩
  · refine wm_a ⟨?_, ?_⟩
    · refine wm_c ⟨(wk_X7_count_X7_count_r1 _ (wm_16 (wm_4 (wm_2 wm_h)))), ?_⟩
      refine wm_c ⟨(wk_X7_count_X7_count_r1 _ (wm_16 (wm_4 (wm_2 (wm_1 wm_h))))), ?_⟩
      refine wm_c ⟨(wk_X7_count_X7_count_r2 _ wm_h), ?_⟩
      exact wm_n
    · exact wk_X7_count_X10
  · exact wk_X7_count_X60
set_option maxRecDepth 20000 in
theorem gX7_count_X1_all : GoodIn wsX7_count (wsV RX7 244 RX1 yX1_all wsX1_all) := by
  refine goodIn_app (goodIn_sub ?_ ?_) ggX7_count_X1_all
  · exact wm_c ⟨(wk_X7_count_X7_count_r1 _ (wm_16 (wm_1 wm_h))), wm_c ⟨(wk_X7_count_X7_count_r1 _ (wm_16 (wm_2 wm_h))), wm_c ⟨(wk_X7_count_X7_count_r1 _ (wm_16 (wm_2 (wm_1 wm_h)))), wm_c ⟨(wk_X7_count_X7_count_r1 _ (wm_16 (wm_4 wm_h))), wm_n⟩⟩⟩⟩
  · decide +kernel
theorem dX7_count_0 : decode cX7_count 0 = .ok (.iload_n 1, 1) := by decide +kernel
theorem dX7_count_1 : decode cX7_count 1 = .ok (.tableswitch 99 0 6 #[43, 51, 59, 67, 75, 83, 91], 43) := by decide +kernel
theorem dX7_count_44 : decode cX7_count 44 = .ok (.aload_n 0, 1) := by decide +kernel
theorem dX7_count_45 : decode cX7_count 45 = .ok (.getfield 20, 3) := by decide +kernel
theorem dX7_count_48 : decode cX7_count 48 = .ok (.getfield 241, 3) := by decide +kernel
theorem dX7_count_51 : decode cX7_count 51 = .ok (.ireturn, 1) := by decide +kernel
theorem dX7_count_52 : decode cX7_count 52 = .ok (.aload_n 0, 1) := by decide +kernel
theorem dX7_count_53 : decode cX7_count 53 = .ok (.getfield 20, 3) := by decide +kernel
theorem dX7_count_56 : decode cX7_count 56 = .ok (.getfield 151, 3) := by decide +kernel
theorem dX7_count_59 : decode cX7_count 59 = .ok (.ireturn, 1) := by decide +kernel
theorem dX7_count_60 : decode cX7_count 60 = .ok (.aload_n 0, 1) := by decide +kernel
theorem dX7_count_61 : decode cX7_count 61 = .ok (.getfield 20, 3) := by decide +kernel
theorem dX7_count_64 : decode cX7_count 64 = .ok (.invokevirtual 26, 3) := by decide +kernel
theorem dX7_count_67 : decode cX7_count 67 = .ok (.ireturn, 1) := by decide +kernel
theorem dX7_count_68 : decode cX7_count 68 = .ok (.aload_n 0, 1) := by decide +kernel
theorem dX7_count_69 : decode cX7_count 69 = .ok (.getfield 49, 3) := by decide +kernel
theorem dX7_count_72 : decode cX7_count 72 = .ok (.invokevirtual 244, 3) := by decide +kernel
theorem dX7_count_75 : decode cX7_count 75 = .ok (.ireturn, 1) := by decide +kernel
theorem dX7_count_76 : decode cX7_count 76 = .ok (.aload_n 0, 1) := by decide +kernel
theorem dX7_count_77 : decode cX7_count 77 = .ok (.getfield 56, 3) := by decide +kernel
theorem dX7_count_80 : decode cX7_count 80 = .ok (.getfield 204, 3) := by decide +kernel
theorem dX7_count_83 : decode cX7_count 83 = .ok (.ireturn, 1) := by decide +kernel
theorem dX7_count_84 : decode cX7_count 84 = .ok (.aload_n 0, 1) := by decide +kernel
theorem dX7_count_85 : decode cX7_count 85 = .ok (.getfield 65, 3) := by decide +kernel
theorem dX7_count_88 : decode cX7_count 88 = .ok (.getfield 224, 3) := by decide +kernel
theorem dX7_count_91 : decode cX7_count 91 = .ok (.ireturn, 1) := by decide +kernel
theorem dX7_count_92 : decode cX7_count 92 = .ok (.aload_n 0, 1) := by decide +kernel
theorem dX7_count_93 : decode cX7_count 93 = .ok (.getfield 74, 3) := by decide +kernel
theorem dX7_count_96 : decode cX7_count 96 = .ok (.getfield 232, 3) := by decide +kernel
theorem dX7_count_99 : decode cX7_count 99 = .ok (.ireturn, 1) := by decide +kernel
theorem dX7_count_100 : decode cX7_count 100 = .ok (.iconst (-1), 1) := by decide +kernel
theorem dX7_count_101 : decode cX7_count 101 = .ok (.ireturn, 1) := by decide +kernel
theorem dX7_noSum_0 : decode cX7_noSum 0 = .ok (.iload_n 0, 1) := by decide +kernel
theorem dX7_noSum_1 : decode cX7_noSum 1 = .ok (.ifCond .lt 9, 3) := by decide +kernel
theorem dX7_noSum_4 : decode cX7_noSum 4 = .ok (.iload_n 0, 1) := by decide +kernel
theorem dX7_noSum_5 : decode cX7_noSum 5 = .ok (.bipush 8, 2) := by decide +kernel
theorem dX7_noSum_7 : decode cX7_noSum 7 = .ok (.if_icmp .lt 7, 3) := by decide +kernel
theorem dX7_noSum_10 : decode cX7_noSum 10 = .ok (.iconst 1, 1) := by decide +kernel
theorem dX7_noSum_11 : decode cX7_noSum 11 = .ok (.goto 4, 3) := by decide +kernel
theorem dX7_noSum_14 : decode cX7_noSum 14 = .ok (.iconst 0, 1) := by decide +kernel
theorem dX7_noSum_15 : decode cX7_noSum 15 = .ok (.ireturn, 1) := by decide +kernel
theorem dX7_noLetter_0 : decode cX7_noLetter 0 = .ok (.iload_n 1, 1) := by decide +kernel
theorem dX7_noLetter_1 : decode cX7_noLetter 1 = .ok (.ifCond .lt 14, 3) := by decide +kernel
theorem dX7_noLetter_4 : decode cX7_noLetter 4 = .ok (.iload_n 1, 1) := by decide +kernel
theorem dX7_noLetter_5 : decode cX7_noLetter 5 = .ok (.aload_n 0, 1) := by decide +kernel
theorem dX7_noLetter_6 : decode cX7_noLetter 6 = .ok (.getfield 20, 3) := by decide +kernel
theorem dX7_noLetter_9 : decode cX7_noLetter 9 = .ok (.getfield 241, 3) := by decide +kernel
theorem dX7_noLetter_12 : decode cX7_noLetter 12 = .ok (.if_icmp .lt 7, 3) := by decide +kernel
theorem dX7_noLetter_15 : decode cX7_noLetter 15 = .ok (.iconst 1, 1) := by decide +kernel
theorem dX7_noLetter_16 : decode cX7_noLetter 16 = .ok (.goto 4, 3) := by decide +kernel
theorem dX7_noLetter_19 : decode cX7_noLetter 19 = .ok (.iconst 0, 1) := by decide +kernel
theorem dX7_noLetter_20 : decode cX7_noLetter 20 = .ok (.ireturn, 1) := by decide +kernel
set_option maxRecDepth 20000 in
theorem ggX7_noChief_X1_all : GoodIn wsX7_noChief wsX1_all := by
  refine goodIn_sub ?_ gd_X1_all
  unfold wsX1_all
  refine wm_c ⟨(wm_1 (wm_l (wm_l (wm_l (wm_4 (wm_1 wm_h)))))), ?_⟩
  refine wm_a ⟨?_, ?_⟩
  · refine wm_a ⟨?_, ?_⟩
    · refine wm_c ⟨(wm_1 (wm_l (wm_l (wm_l (wm_4 (wm_2 wm_h)))))), ?_⟩
      refine wm_c ⟨(wm_1 (wm_l (wm_l (wm_l (wm_4 (wm_2 (wm_1 wm_h))))))), ?_⟩
      refine wm_c ⟨(wm_1 (wm_l (wm_l (wm_l (wm_8 wm_h))))), ?_⟩
      exact wm_n
    · exact wk_X7_noChief_X10
  · exact wk_X7_noChief_X60
set_option maxRecDepth 20000 in
theorem gX7_noChief_X1_all : GoodIn wsX7_noChief (wsV RX7 244 RX1 yX1_all wsX1_all) := by
  refine goodIn_app (goodIn_sub ?_ ?_) ggX7_noChief_X1_all
  · exact wm_c ⟨(wm_1 (wm_l (wm_l (wm_l (wm_1 wm_h))))), wm_c ⟨(wm_1 (wm_l (wm_l (wm_l (wm_2 wm_h))))), wm_c ⟨(wm_1 (wm_l (wm_l (wm_l (wm_2 (wm_1 wm_h)))))), wm_c ⟨(wm_1 (wm_l (wm_l (wm_l (wm_4 wm_h))))), wm_n⟩⟩⟩⟩
  · decide +kernel
theorem dX7_noChief_0 : decode cX7_noChief 0 = .ok (.iload_n 1, 1) := by decide +kernel
theorem dX7_noChief_1 : decode cX7_noChief 1 = .ok (.ifCond .lt 14, 3) := by decide +kernel
theorem dX7_noChief_4 : decode cX7_noChief 4 = .ok (.iload_n 1, 1) := by decide +kernel
theorem dX7_noChief_5 : decode cX7_noChief 5 = .ok (.aload_n 0, 1) := by decide +kernel
theorem dX7_noChief_6 : decode cX7_noChief 6 = .ok (.getfield 49, 3) := by decide +kernel
theorem dX7_noChief_9 : decode cX7_noChief 9 = .ok (.invokevirtual 244, 3) := by decide +kernel
theorem dX7_noChief_12 : decode cX7_noChief 12 = .ok (.if_icmp .lt 7, 3) := by decide +kernel
theorem dX7_noChief_15 : decode cX7_noChief 15 = .ok (.iconst 1, 1) := by decide +kernel
theorem dX7_noChief_16 : decode cX7_noChief 16 = .ok (.goto 4, 3) := by decide +kernel
theorem dX7_noChief_19 : decode cX7_noChief 19 = .ok (.iconst 0, 1) := by decide +kernel
theorem dX7_noChief_20 : decode cX7_noChief 20 = .ok (.ireturn, 1) := by decide +kernel
theorem dX7_noFraction_0 : decode cX7_noFraction 0 = .ok (.iload_n 0, 1) := by decide +kernel
theorem dX7_noFraction_1 : decode cX7_noFraction 1 = .ok (.iload_n 2, 1) := by decide +kernel
theorem dX7_noFraction_2 : decode cX7_noFraction 2 = .ok (.ineg, 1) := by decide +kernel
theorem dX7_noFraction_3 : decode cX7_noFraction 3 = .ok (.if_icmp .lt 18, 3) := by decide +kernel
theorem dX7_noFraction_6 : decode cX7_noFraction 6 = .ok (.iload_n 0, 1) := by decide +kernel
theorem dX7_noFraction_7 : decode cX7_noFraction 7 = .ok (.iload_n 2, 1) := by decide +kernel
theorem dX7_noFraction_8 : decode cX7_noFraction 8 = .ok (.if_icmp .gt 13, 3) := by decide +kernel
theorem dX7_noFraction_11 : decode cX7_noFraction 11 = .ok (.iload_n 1, 1) := by decide +kernel
theorem dX7_noFraction_12 : decode cX7_noFraction 12 = .ok (.iconst 1, 1) := by decide +kernel
theorem dX7_noFraction_13 : decode cX7_noFraction 13 = .ok (.if_icmp .lt 8, 3) := by decide +kernel
theorem dX7_noFraction_16 : decode cX7_noFraction 16 = .ok (.iload_n 1, 1) := by decide +kernel
theorem dX7_noFraction_17 : decode cX7_noFraction 17 = .ok (.iload_n 2, 1) := by decide +kernel
theorem dX7_noFraction_18 : decode cX7_noFraction 18 = .ok (.if_icmp .le 7, 3) := by decide +kernel
theorem dX7_noFraction_21 : decode cX7_noFraction 21 = .ok (.iconst 1, 1) := by decide +kernel
theorem dX7_noFraction_22 : decode cX7_noFraction 22 = .ok (.goto 4, 3) := by decide +kernel
theorem dX7_noFraction_25 : decode cX7_noFraction 25 = .ok (.iconst 0, 1) := by decide +kernel
theorem dX7_noFraction_26 : decode cX7_noFraction 26 = .ok (.ireturn, 1) := by decide +kernel
