set_option maxRecDepth 20000 in
theorem ggX0_init_X3_reciprocal : GoodIn wsX0_init wsX3_reciprocal := by
  refine goodIn_sub ?_ gd_X3_reciprocal
  unfold wsX3_reciprocal
  refine wm_c ⟨(wk_X0_init_X0_init_r1 _ (wm_16 (wm_4 (wm_2 (wm_1 wm_h))))), ?_⟩
  refine wm_c ⟨(wk_X0_init_X0_init_r2 _ wm_h), ?_⟩
  refine wm_c ⟨(wk_X0_init_X0_init_r2 _ (wm_1 wm_h)), ?_⟩
  refine wm_c ⟨(wk_X0_init_X0_init_r2 _ (wm_2 wm_h)), ?_⟩
  refine wm_c ⟨(wk_X0_init_X0_init_r1 _ (wm_16 (wm_4 (wm_2 wm_h)))), ?_⟩
  refine wm_c ⟨(wk_X0_init_X0_init_r2 _ (wm_2 (wm_1 wm_h))), ?_⟩
  refine wm_c ⟨(wk_X0_init_X0_init_r2 _ (wm_4 wm_h)), ?_⟩
  exact wm_n
set_option maxRecDepth 20000 in
theorem gX0_init_X3_reciprocal : GoodIn wsX0_init (va_wsS RX0 38 yX3_reciprocal wsX3_reciprocal) := goodIn_app (goodIn_of _ (by decide +kernel)) ggX0_init_X3_reciprocal
set_option maxRecDepth 20000 in
theorem ggX0_init_X6_all : GoodIn wsX0_init wsX6_all := by
  refine goodIn_sub ?_ gd_X6_all
  unfold wsX6_all
  refine wm_c ⟨(wk_X0_init_X0_init_r2 _ (wm_8 (wm_1 wm_h))), ?_⟩
  refine wm_a ⟨?_, ?_⟩
  · refine wm_c ⟨(wk_X0_init_X0_init_r2 _ (wm_8 (wm_2 wm_h))), ?_⟩
    refine wm_c ⟨(wk_X0_init_X0_init_r2 _ (wm_8 (wm_2 (wm_1 wm_h)))), ?_⟩
    exact wm_n
  · exact wk_X0_init_X60
set_option maxRecDepth 20000 in
theorem gX0_init_X6_all : GoodIn wsX0_init (wsV RX0 44 RX6 yX6_all wsX6_all) := by
  refine goodIn_app (goodIn_sub ?_ ?_) ggX0_init_X6_all
  · exact wm_c ⟨(wk_X0_init_X0_init_r2 _ (wm_4 (wm_1 wm_h))), wm_c ⟨(wk_X0_init_X0_init_r2 _ (wm_4 (wm_2 wm_h))), wm_c ⟨(wk_X0_init_X0_init_r2 _ (wm_4 (wm_2 (wm_1 wm_h)))), wm_c ⟨(wk_X0_init_X0_init_r2 _ (wm_8 wm_h)), wm_n⟩⟩⟩⟩
  · decide +kernel
theorem dX0_init_0 : decode cX0_init 0 = .ok (.aload_n 0, 1) := by decide +kernel
theorem dX0_init_1 : decode cX0_init 1 = .ok (.invokespecial 3, 3) := by decide +kernel
theorem dX0_init_4 : decode cX0_init 4 = .ok (.aload_n 0, 1) := by decide +kernel
theorem dX0_init_5 : decode cX0_init 5 = .ok (.aload_n 1, 1) := by decide +kernel
theorem dX0_init_6 : decode cX0_init 6 = .ok (.putfield 9, 3) := by decide +kernel
theorem dX0_init_9 : decode cX0_init 9 = .ok (.aload_n 0, 1) := by decide +kernel
theorem dX0_init_10 : decode cX0_init 10 = .ok (.aload_n 1, 1) := by decide +kernel
theorem dX0_init_11 : decode cX0_init 11 = .ok (.getfield 15, 3) := by decide +kernel
theorem dX0_init_14 : decode cX0_init 14 = .ok (.putfield 21, 3) := by decide +kernel
theorem dX0_init_17 : decode cX0_init 17 = .ok (.aload_n 0, 1) := by decide +kernel
theorem dX0_init_18 : decode cX0_init 18 = .ok (.aload_n 1, 1) := by decide +kernel
theorem dX0_init_19 : decode cX0_init 19 = .ok (.getfield 22, 3) := by decide +kernel
theorem dX0_init_22 : decode cX0_init 22 = .ok (.putfield 25, 3) := by decide +kernel
theorem dX0_init_25 : decode cX0_init 25 = .ok (.aload_n 0, 1) := by decide +kernel
theorem dX0_init_26 : decode cX0_init 26 = .ok (.aload_n 1, 1) := by decide +kernel
theorem dX0_init_27 : decode cX0_init 27 = .ok (.getfield 26, 3) := by decide +kernel
theorem dX0_init_30 : decode cX0_init 30 = .ok (.putfield 30, 3) := by decide +kernel
theorem dX0_init_33 : decode cX0_init 33 = .ok (.aload_n 0, 1) := by decide +kernel
theorem dX0_init_34 : decode cX0_init 34 = .ok (.aload_n 1, 1) := by decide +kernel
theorem dX0_init_35 : decode cX0_init 35 = .ok (.getfield 31, 3) := by decide +kernel
theorem dX0_init_38 : decode cX0_init 38 = .ok (.putfield 34, 3) := by decide +kernel
theorem dX0_init_41 : decode cX0_init 41 = .ok (.aload_n 0, 1) := by decide +kernel
theorem dX0_init_42 : decode cX0_init 42 = .ok (.aload_n 0, 1) := by decide +kernel
theorem dX0_init_43 : decode cX0_init 43 = .ok (.getfield 21, 3) := by decide +kernel
theorem dX0_init_46 : decode cX0_init 46 = .ok (.iconst 1, 1) := by decide +kernel
theorem dX0_init_47 : decode cX0_init 47 = .ok (.iadd, 1) := by decide +kernel
theorem dX0_init_48 : decode cX0_init 48 = .ok (.newarray .int, 2) := by decide +kernel
theorem dX0_init_50 : decode cX0_init 50 = .ok (.putfield 35, 3) := by decide +kernel
theorem dX0_init_53 : decode cX0_init 53 = .ok (.iconst 1, 1) := by decide +kernel
theorem dX0_init_54 : decode cX0_init 54 = .ok (.istore_n 2, 1) := by decide +kernel
theorem dX0_init_55 : decode cX0_init 55 = .ok (.iload_n 2, 1) := by decide +kernel
theorem dX0_init_56 : decode cX0_init 56 = .ok (.aload_n 0, 1) := by decide +kernel
theorem dX0_init_57 : decode cX0_init 57 = .ok (.getfield 21, 3) := by decide +kernel
theorem dX0_init_60 : decode cX0_init 60 = .ok (.if_icmp .gt 19, 3) := by decide +kernel
theorem dX0_init_63 : decode cX0_init 63 = .ok (.aload_n 0, 1) := by decide +kernel
theorem dX0_init_64 : decode cX0_init 64 = .ok (.getfield 35, 3) := by decide +kernel
theorem dX0_init_67 : decode cX0_init 67 = .ok (.iload_n 2, 1) := by decide +kernel
theorem dX0_init_68 : decode cX0_init 68 = .ok (.iload_n 2, 1) := by decide +kernel
theorem dX0_init_69 : decode cX0_init 69 = .ok (.invokestatic 38, 3) := by decide +kernel
theorem dX0_init_72 : decode cX0_init 72 = .ok (.iastore, 1) := by decide +kernel
theorem dX0_init_73 : decode cX0_init 73 = .ok (.iinc 2 1, 3) := by decide +kernel
theorem dX0_init_76 : decode cX0_init 76 = .ok (.goto (-21), 3) := by decide +kernel
theorem dX0_init_79 : decode cX0_init 79 = .ok (.aload_n 1, 1) := by decide +kernel
theorem dX0_init_80 : decode cX0_init 80 = .ok (.invokevirtual 44, 3) := by decide +kernel
theorem dX0_init_83 : decode cX0_init 83 = .ok (.istore_n 2, 1) := by decide +kernel
theorem dX0_init_84 : decode cX0_init 84 = .ok (.aload_n 0, 1) := by decide +kernel
theorem dX0_init_85 : decode cX0_init 85 = .ok (.bipush 18, 2) := by decide +kernel
theorem dX0_init_87 : decode cX0_init 87 = .ok (.iload_n 2, 1) := by decide +kernel
theorem dX0_init_88 : decode cX0_init 88 = .ok (.multianewarray 48 2, 4) := by decide +kernel
theorem dX0_init_92 : decode cX0_init 92 = .ok (.putfield 50, 3) := by decide +kernel
theorem dX0_init_95 : decode cX0_init 95 = .ok (.aload_n 0, 1) := by decide +kernel
theorem dX0_init_96 : decode cX0_init 96 = .ok (.iload_n 2, 1) := by decide +kernel
theorem dX0_init_97 : decode cX0_init 97 = .ok (.newarray .int, 2) := by decide +kernel
theorem dX0_init_99 : decode cX0_init 99 = .ok (.putfield 53, 3) := by decide +kernel
theorem dX0_init_102 : decode cX0_init 102 = .ok (.aload_n 0, 1) := by decide +kernel
theorem dX0_init_103 : decode cX0_init 103 = .ok (.iload_n 2, 1) := by decide +kernel
theorem dX0_init_104 : decode cX0_init 104 = .ok (.newarray .int, 2) := by decide +kernel
theorem dX0_init_106 : decode cX0_init 106 = .ok (.putfield 56, 3) := by decide +kernel
theorem dX0_init_109 : decode cX0_init 109 = .ok (.aload_n 0, 1) := by decide +kernel
theorem dX0_init_110 : decode cX0_init 110 = .ok (.iload_n 2, 1) := by decide +kernel
theorem dX0_init_111 : decode cX0_init 111 = .ok (.newarray .int, 2) := by decide +kernel
theorem dX0_init_113 : decode cX0_init 113 = .ok (.putfield 59, 3) := by decide +kernel
theorem dX0_init_116 : decode cX0_init 116 = .ok (.aload_n 0, 1) := by decide +kernel
theorem dX0_init_117 : decode cX0_init 117 = .ok (.iload_n 2, 1) := by decide +kernel
theorem dX0_init_118 : decode cX0_init 118 = .ok (.newarray .int, 2) := by decide +kernel
theorem dX0_init_120 : decode cX0_init 120 = .ok (.putfield 62, 3) := by decide +kernel
theorem dX0_init_123 : decode cX0_init 123 = .ok (.return_, 1) := by decide +kernel
theorem dX0_copy_0 : decode cX0_copy 0 = .ok (.aload_n 2, 1) := by decide +kernel
theorem dX0_copy_1 : decode cX0_copy 1 = .ok (.iconst 0, 1) := by decide +kernel
theorem dX0_copy_2 : decode cX0_copy 2 = .ok (.aload_n 1, 1) := by decide +kernel
theorem dX0_copy_3 : decode cX0_copy 3 = .ok (.iconst 0, 1) := by decide +kernel
theorem dX0_copy_4 : decode cX0_copy 4 = .ok (.aload_n 2, 1) := by decide +kernel
theorem dX0_copy_5 : decode cX0_copy 5 = .ok (.arraylength, 1) := by decide +kernel
theorem dX0_copy_6 : decode cX0_copy 6 = .ok (.invokestatic 65, 3) := by decide +kernel
theorem dX0_copy_9 : decode cX0_copy 9 = .ok (.return_, 1) := by decide +kernel
set_option maxRecDepth 20000 in
theorem ggX0_setToUnit_J7_fill_53178 : GoodIn wsX0_setToUnit wsJ7_fill_53178 := by
  refine goodIn_sub ?_ gd_J7_fill_53178
  unfold wsJ7_fill_53178
  refine wm_c ⟨(wm_1 (wm_2 (wm_1 wm_h))), ?_⟩
  exact wm_n
set_option maxRecDepth 20000 in
theorem gX0_setToUnit_J7_fill_53178 : GoodIn wsX0_setToUnit (va_wsS RX0 71 yJ7_fill_53178 wsJ7_fill_53178) := goodIn_app (goodIn_of _ (by decide +kernel)) ggX0_setToUnit_J7_fill_53178
theorem dX0_setToUnit_0 : decode cX0_setToUnit 0 = .ok (.aload_n 1, 1) := by decide +kernel
theorem dX0_setToUnit_1 : decode cX0_setToUnit 1 = .ok (.iconst 0, 1) := by decide +kernel
theorem dX0_setToUnit_2 : decode cX0_setToUnit 2 = .ok (.invokestatic 71, 3) := by decide +kernel
theorem dX0_setToUnit_5 : decode cX0_setToUnit 5 = .ok (.aload_n 1, 1) := by decide +kernel
theorem dX0_setToUnit_6 : decode cX0_setToUnit 6 = .ok (.iconst 0, 1) := by decide +kernel
theorem dX0_setToUnit_7 : decode cX0_setToUnit 7 = .ok (.iload_n 2, 1) := by decide +kernel
theorem dX0_setToUnit_8 : decode cX0_setToUnit 8 = .ok (.iastore, 1) := by decide +kernel
theorem dX0_setToUnit_9 : decode cX0_setToUnit 9 = .ok (.return_, 1) := by decide +kernel
set_option maxRecDepth 20000 in
theorem ggX0_amass_X3_productMore : GoodIn wsX0_amass wsX3_productMore := by
  refine goodIn_sub ?_ gd_X3_productMore
  unfold wsX3_productMore
  refine wm_c ⟨(wm_1 (wm_2 (wm_1 wm_h))), ?_⟩
  refine wm_c ⟨(wm_1 (wm_4 wm_h)), ?_⟩
  exact wm_n
set_option maxRecDepth 20000 in
theorem gX0_amass_X3_productMore : GoodIn wsX0_amass (va_wsS RX0 77 yX3_productMore wsX3_productMore) := goodIn_app (goodIn_of _ (by decide +kernel)) ggX0_amass_X3_productMore
theorem dX0_amass_0 : decode cX0_amass 0 = .ok (.iconst 0, 1) := by decide +kernel
theorem dX0_amass_1 : decode cX0_amass 1 = .ok (.istore 4, 2) := by decide +kernel
theorem dX0_amass_3 : decode cX0_amass 3 = .ok (.iload 4, 2) := by decide +kernel
theorem dX0_amass_5 : decode cX0_amass 5 = .ok (.aload_n 1, 1) := by decide +kernel
theorem dX0_amass_6 : decode cX0_amass 6 = .ok (.arraylength, 1) := by decide +kernel
theorem dX0_amass_7 : decode cX0_amass 7 = .ok (.if_icmp .ge 32, 3) := by decide +kernel
theorem dX0_amass_10 : decode cX0_amass 10 = .ok (.aload_n 2, 1) := by decide +kernel
theorem dX0_amass_11 : decode cX0_amass 11 = .ok (.iload 4, 2) := by decide +kernel
theorem dX0_amass_13 : decode cX0_amass 13 = .ok (.iaload, 1) := by decide +kernel
theorem dX0_amass_14 : decode cX0_amass 14 = .ok (.ifCond .eq 19, 3) := by decide +kernel
theorem dX0_amass_17 : decode cX0_amass 17 = .ok (.aload_n 1, 1) := by decide +kernel
theorem dX0_amass_18 : decode cX0_amass 18 = .ok (.iload 4, 2) := by decide +kernel
theorem dX0_amass_20 : decode cX0_amass 20 = .ok (.aload_n 1, 1) := by decide +kernel
theorem dX0_amass_21 : decode cX0_amass 21 = .ok (.iload 4, 2) := by decide +kernel
theorem dX0_amass_23 : decode cX0_amass 23 = .ok (.iaload, 1) := by decide +kernel
theorem dX0_amass_24 : decode cX0_amass 24 = .ok (.aload_n 2, 1) := by decide +kernel
theorem dX0_amass_25 : decode cX0_amass 25 = .ok (.iload 4, 2) := by decide +kernel
theorem dX0_amass_27 : decode cX0_amass 27 = .ok (.iaload, 1) := by decide +kernel
theorem dX0_amass_28 : decode cX0_amass 28 = .ok (.iload_n 3, 1) := by decide +kernel
theorem dX0_amass_29 : decode cX0_amass 29 = .ok (.invokestatic 77, 3) := by decide +kernel
theorem dX0_amass_32 : decode cX0_amass 32 = .ok (.iastore, 1) := by decide +kernel
theorem dX0_amass_33 : decode cX0_amass 33 = .ok (.iinc 4 1, 3) := by decide +kernel
theorem dX0_amass_36 : decode cX0_amass 36 = .ok (.goto (-33), 3) := by decide +kernel
theorem dX0_amass_39 : decode cX0_amass 39 = .ok (.return_, 1) := by decide +kernel
set_option maxRecDepth 20000 in
theorem ggX0_scale_X3_product : GoodIn wsX0_scale wsX3_product := by
  refine goodIn_sub ?_ gd_X3_product
  unfold wsX3_product
  refine wm_c ⟨(wm_1 (wm_2 (wm_1 wm_h))), ?_⟩
  refine wm_c ⟨(wm_1 (wm_4 wm_h)), ?_⟩
  exact wm_n
set_option maxRecDepth 20000 in
theorem gX0_scale_X3_product : GoodIn wsX0_scale (va_wsS RX0 81 yX3_product wsX3_product) := goodIn_app (goodIn_of _ (by decide +kernel)) ggX0_scale_X3_product
theorem dX0_scale_0 : decode cX0_scale 0 = .ok (.iconst 0, 1) := by decide +kernel
theorem dX0_scale_1 : decode cX0_scale 1 = .ok (.istore_n 3, 1) := by decide +kernel
theorem dX0_scale_2 : decode cX0_scale 2 = .ok (.iload_n 3, 1) := by decide +kernel
theorem dX0_scale_3 : decode cX0_scale 3 = .ok (.aload_n 1, 1) := by decide +kernel
theorem dX0_scale_4 : decode cX0_scale 4 = .ok (.arraylength, 1) := by decide +kernel
theorem dX0_scale_5 : decode cX0_scale 5 = .ok (.if_icmp .ge 19, 3) := by decide +kernel
theorem dX0_scale_8 : decode cX0_scale 8 = .ok (.aload_n 1, 1) := by decide +kernel
theorem dX0_scale_9 : decode cX0_scale 9 = .ok (.iload_n 3, 1) := by decide +kernel
theorem dX0_scale_10 : decode cX0_scale 10 = .ok (.aload_n 1, 1) := by decide +kernel
theorem dX0_scale_11 : decode cX0_scale 11 = .ok (.iload_n 3, 1) := by decide +kernel
theorem dX0_scale_12 : decode cX0_scale 12 = .ok (.iaload, 1) := by decide +kernel
theorem dX0_scale_13 : decode cX0_scale 13 = .ok (.iload_n 2, 1) := by decide +kernel
theorem dX0_scale_14 : decode cX0_scale 14 = .ok (.invokestatic 81, 3) := by decide +kernel
theorem dX0_scale_17 : decode cX0_scale 17 = .ok (.iastore, 1) := by decide +kernel
theorem dX0_scale_18 : decode cX0_scale 18 = .ok (.iinc 3 1, 3) := by decide +kernel
theorem dX0_scale_21 : decode cX0_scale 21 = .ok (.goto (-19), 3) := by decide +kernel
theorem dX0_scale_24 : decode cX0_scale 24 = .ok (.return_, 1) := by decide +kernel
set_option maxRecDepth 20000 in
theorem ggX0_inner_X3_productMore : GoodIn wsX0_inner wsX3_productMore := by
  refine goodIn_sub ?_ gd_X3_productMore
  unfold wsX3_productMore
  refine wm_c ⟨(wm_1 (wm_2 (wm_1 wm_h))), ?_⟩
  refine wm_c ⟨(wm_1 (wm_4 wm_h)), ?_⟩
  exact wm_n
set_option maxRecDepth 20000 in
theorem gX0_inner_X3_productMore : GoodIn wsX0_inner (va_wsS RX0 77 yX3_productMore wsX3_productMore) := goodIn_app (goodIn_of _ (by decide +kernel)) ggX0_inner_X3_productMore
theorem dX0_inner_0 : decode cX0_inner 0 = .ok (.iconst 0, 1) := by decide +kernel
theorem dX0_inner_1 : decode cX0_inner 1 = .ok (.istore_n 3, 1) := by decide +kernel
theorem dX0_inner_2 : decode cX0_inner 2 = .ok (.iconst 0, 1) := by decide +kernel
theorem dX0_inner_3 : decode cX0_inner 3 = .ok (.istore 4, 2) := by decide +kernel
theorem dX0_inner_5 : decode cX0_inner 5 = .ok (.iload 4, 2) := by decide +kernel
theorem dX0_inner_7 : decode cX0_inner 7 = .ok (.aload_n 1, 1) := by decide +kernel
theorem dX0_inner_8 : decode cX0_inner 8 = .ok (.arraylength, 1) := by decide +kernel
theorem dX0_inner_9 : decode cX0_inner 9 = .ok (.if_icmp .ge 29, 3) := by decide +kernel
theorem dX0_inner_12 : decode cX0_inner 12 = .ok (.aload_n 2, 1) := by decide +kernel
theorem dX0_inner_13 : decode cX0_inner 13 = .ok (.iload 4, 2) := by decide +kernel
theorem dX0_inner_15 : decode cX0_inner 15 = .ok (.iaload, 1) := by decide +kernel
theorem dX0_inner_16 : decode cX0_inner 16 = .ok (.ifCond .eq 16, 3) := by decide +kernel
theorem dX0_inner_19 : decode cX0_inner 19 = .ok (.iload_n 3, 1) := by decide +kernel
theorem dX0_inner_20 : decode cX0_inner 20 = .ok (.aload_n 1, 1) := by decide +kernel
theorem dX0_inner_21 : decode cX0_inner 21 = .ok (.iload 4, 2) := by decide +kernel
theorem dX0_inner_23 : decode cX0_inner 23 = .ok (.iaload, 1) := by decide +kernel
theorem dX0_inner_24 : decode cX0_inner 24 = .ok (.aload_n 2, 1) := by decide +kernel
theorem dX0_inner_25 : decode cX0_inner 25 = .ok (.iload 4, 2) := by decide +kernel
theorem dX0_inner_27 : decode cX0_inner 27 = .ok (.iaload, 1) := by decide +kernel
theorem dX0_inner_28 : decode cX0_inner 28 = .ok (.invokestatic 77, 3) := by decide +kernel
theorem dX0_inner_31 : decode cX0_inner 31 = .ok (.istore_n 3, 1) := by decide +kernel
theorem dX0_inner_32 : decode cX0_inner 32 = .ok (.iinc 4 1, 3) := by decide +kernel
theorem dX0_inner_35 : decode cX0_inner 35 = .ok (.goto (-30), 3) := by decide +kernel
theorem dX0_inner_38 : decode cX0_inner 38 = .ok (.iload_n 3, 1) := by decide +kernel
theorem dX0_inner_39 : decode cX0_inner 39 = .ok (.ireturn, 1) := by decide +kernel
theorem dX0_keepLength_0 : decode cX0_keepLength 0 = .ok (.iconst 0, 1) := by decide +kernel
theorem dX0_keepLength_1 : decode cX0_keepLength 1 = .ok (.istore 4, 2) := by decide +kernel
theorem dX0_keepLength_3 : decode cX0_keepLength 3 = .ok (.iload 4, 2) := by decide +kernel
theorem dX0_keepLength_5 : decode cX0_keepLength 5 = .ok (.aload_n 1, 1) := by decide +kernel
theorem dX0_keepLength_6 : decode cX0_keepLength 6 = .ok (.arraylength, 1) := by decide +kernel
theorem dX0_keepLength_7 : decode cX0_keepLength 7 = .ok (.if_icmp .ge 57, 3) := by decide +kernel
theorem dX0_keepLength_10 : decode cX0_keepLength 10 = .ok (.iload 4, 2) := by decide +kernel
theorem dX0_keepLength_12 : decode cX0_keepLength 12 = .ok (.aload_n 0, 1) := by decide +kernel
theorem dX0_keepLength_13 : decode cX0_keepLength 13 = .ok (.getfield 34, 3) := by decide +kernel
theorem dX0_keepLength_16 : decode cX0_keepLength 16 = .ok (.iload_n 3, 1) := by decide +kernel
theorem dX0_keepLength_17 : decode cX0_keepLength 17 = .ok (.iaload, 1) := by decide +kernel
theorem dX0_keepLength_18 : decode cX0_keepLength 18 = .ok (.if_icmp .lt 20, 3) := by decide +kernel
theorem dX0_keepLength_21 : decode cX0_keepLength 21 = .ok (.iload 4, 2) := by decide +kernel
theorem dX0_keepLength_23 : decode cX0_keepLength 23 = .ok (.aload_n 0, 1) := by decide +kernel
theorem dX0_keepLength_24 : decode cX0_keepLength 24 = .ok (.getfield 34, 3) := by decide +kernel
theorem dX0_keepLength_27 : decode cX0_keepLength 27 = .ok (.iload_n 3, 1) := by decide +kernel
theorem dX0_keepLength_28 : decode cX0_keepLength 28 = .ok (.iconst 1, 1) := by decide +kernel
theorem dX0_keepLength_29 : decode cX0_keepLength 29 = .ok (.iadd, 1) := by decide +kernel
theorem dX0_keepLength_30 : decode cX0_keepLength 30 = .ok (.iaload, 1) := by decide +kernel
theorem dX0_keepLength_31 : decode cX0_keepLength 31 = .ok (.if_icmp .ge 7, 3) := by decide +kernel
theorem dX0_keepLength_34 : decode cX0_keepLength 34 = .ok (.iconst 1, 1) := by decide +kernel
theorem dX0_keepLength_35 : decode cX0_keepLength 35 = .ok (.goto 4, 3) := by decide +kernel
theorem dX0_keepLength_38 : decode cX0_keepLength 38 = .ok (.iconst 0, 1) := by decide +kernel
theorem dX0_keepLength_39 : decode cX0_keepLength 39 = .ok (.istore 5, 2) := by decide +kernel
theorem dX0_keepLength_41 : decode cX0_keepLength 41 = .ok (.aload_n 1, 1) := by decide +kernel
theorem dX0_keepLength_42 : decode cX0_keepLength 42 = .ok (.iload 4, 2) := by decide +kernel
theorem dX0_keepLength_44 : decode cX0_keepLength 44 = .ok (.iload 5, 2) := by decide +kernel
theorem dX0_keepLength_46 : decode cX0_keepLength 46 = .ok (.ifCond .eq 10, 3) := by decide +kernel
theorem dX0_keepLength_49 : decode cX0_keepLength 49 = .ok (.aload_n 2, 1) := by decide +kernel
theorem dX0_keepLength_50 : decode cX0_keepLength 50 = .ok (.iload 4, 2) := by decide +kernel
theorem dX0_keepLength_52 : decode cX0_keepLength 52 = .ok (.iaload, 1) := by decide +kernel
theorem dX0_keepLength_53 : decode cX0_keepLength 53 = .ok (.goto 4, 3) := by decide +kernel
theorem dX0_keepLength_56 : decode cX0_keepLength 56 = .ok (.iconst 0, 1) := by decide +kernel
theorem dX0_keepLength_57 : decode cX0_keepLength 57 = .ok (.iastore, 1) := by decide +kernel
theorem dX0_keepLength_58 : decode cX0_keepLength 58 = .ok (.iinc 4 1, 3) := by decide +kernel
theorem dX0_keepLength_61 : decode cX0_keepLength 61 = .ok (.goto (-58), 3) := by decide +kernel
theorem dX0_keepLength_64 : decode cX0_keepLength 64 = .ok (.return_, 1) := by decide +kernel
set_option maxRecDepth 20000 in
theorem ggX0_onlyLength_X0_isNought : GoodIn wsX0_onlyLength wsX0_isNought := by
  refine goodIn_sub ?_ gd_X0_isNought
  unfold wsX0_isNought
  refine wm_c ⟨(wm_1 (wm_l (wm_4 (wm_1 wm_h)))), ?_⟩
  refine wm_a ⟨?_, ?_⟩
  · refine wm_c ⟨(wm_1 (wm_l (wm_4 (wm_2 wm_h)))), ?_⟩
    exact wm_n
  · exact wk_X0_onlyLength_X00
set_option maxRecDepth 20000 in
theorem gX0_onlyLength_X0_isNought : GoodIn wsX0_onlyLength (wsV RX0 85 RX0 yX0_isNought wsX0_isNought) := by
  refine goodIn_app (goodIn_sub ?_ ?_) ggX0_onlyLength_X0_isNought
  · exact wm_c ⟨(wm_1 (wm_l (wm_1 wm_h))), wm_c ⟨(wm_1 (wm_l (wm_2 wm_h))), wm_c ⟨(wm_1 (wm_l (wm_2 (wm_1 wm_h)))), wm_c ⟨(wm_1 (wm_l (wm_4 wm_h))), wm_n⟩⟩⟩⟩
  · decide +kernel
theorem dX0_onlyLength_0 : decode cX0_onlyLength 0 = .ok (.iconst (-1), 1) := by decide +kernel
theorem dX0_onlyLength_1 : decode cX0_onlyLength 1 = .ok (.istore_n 2, 1) := by decide +kernel
theorem dX0_onlyLength_2 : decode cX0_onlyLength 2 = .ok (.iconst 0, 1) := by decide +kernel
theorem dX0_onlyLength_3 : decode cX0_onlyLength 3 = .ok (.istore_n 3, 1) := by decide +kernel
theorem dX0_onlyLength_4 : decode cX0_onlyLength 4 = .ok (.iload_n 3, 1) := by decide +kernel
theorem dX0_onlyLength_5 : decode cX0_onlyLength 5 = .ok (.aload_n 0, 1) := by decide +kernel
theorem dX0_onlyLength_6 : decode cX0_onlyLength 6 = .ok (.getfield 21, 3) := by decide +kernel
theorem dX0_onlyLength_9 : decode cX0_onlyLength 9 = .ok (.if_icmp .gt 27, 3) := by decide +kernel
theorem dX0_onlyLength_12 : decode cX0_onlyLength 12 = .ok (.aload_n 0, 1) := by decide +kernel
theorem dX0_onlyLength_13 : decode cX0_onlyLength 13 = .ok (.aload_n 1, 1) := by decide +kernel
theorem dX0_onlyLength_14 : decode cX0_onlyLength 14 = .ok (.iload_n 3, 1) := by decide +kernel
theorem dX0_onlyLength_15 : decode cX0_onlyLength 15 = .ok (.invokevirtual 85, 3) := by decide +kernel
theorem dX0_onlyLength_18 : decode cX0_onlyLength 18 = .ok (.ifCond .ne 12, 3) := by decide +kernel
theorem dX0_onlyLength_21 : decode cX0_onlyLength 21 = .ok (.iload_n 2, 1) := by decide +kernel
theorem dX0_onlyLength_22 : decode cX0_onlyLength 22 = .ok (.iconst (-1), 1) := by decide +kernel
theorem dX0_onlyLength_23 : decode cX0_onlyLength 23 = .ok (.if_icmp .eq 5, 3) := by decide +kernel
theorem dX0_onlyLength_26 : decode cX0_onlyLength 26 = .ok (.iconst (-1), 1) := by decide +kernel
theorem dX0_onlyLength_27 : decode cX0_onlyLength 27 = .ok (.ireturn, 1) := by decide +kernel
theorem dX0_onlyLength_28 : decode cX0_onlyLength 28 = .ok (.iload_n 3, 1) := by decide +kernel
theorem dX0_onlyLength_29 : decode cX0_onlyLength 29 = .ok (.istore_n 2, 1) := by decide +kernel
theorem dX0_onlyLength_30 : decode cX0_onlyLength 30 = .ok (.iinc 3 1, 3) := by decide +kernel
theorem dX0_onlyLength_33 : decode cX0_onlyLength 33 = .ok (.goto (-29), 3) := by decide +kernel
theorem dX0_onlyLength_36 : decode cX0_onlyLength 36 = .ok (.iload_n 2, 1) := by decide +kernel
theorem dX0_onlyLength_37 : decode cX0_onlyLength 37 = .ok (.ireturn, 1) := by decide +kernel
theorem dX0_isNought_0 : decode cX0_isNought 0 = .ok (.aload_n 0, 1) := by decide +kernel
theorem dX0_isNought_1 : decode cX0_isNought 1 = .ok (.getfield 34, 3) := by decide +kernel
theorem dX0_isNought_4 : decode cX0_isNought 4 = .ok (.iload_n 2, 1) := by decide +kernel
theorem dX0_isNought_5 : decode cX0_isNought 5 = .ok (.iaload, 1) := by decide +kernel
theorem dX0_isNought_6 : decode cX0_isNought 6 = .ok (.istore_n 3, 1) := by decide +kernel
theorem dX0_isNought_7 : decode cX0_isNought 7 = .ok (.iload_n 3, 1) := by decide +kernel
theorem dX0_isNought_8 : decode cX0_isNought 8 = .ok (.aload_n 0, 1) := by decide +kernel
theorem dX0_isNought_9 : decode cX0_isNought 9 = .ok (.getfield 34, 3) := by decide +kernel
theorem dX0_isNought_12 : decode cX0_isNought 12 = .ok (.iload_n 2, 1) := by decide +kernel
theorem dX0_isNought_13 : decode cX0_isNought 13 = .ok (.iconst 1, 1) := by decide +kernel
theorem dX0_isNought_14 : decode cX0_isNought 14 = .ok (.iadd, 1) := by decide +kernel
theorem dX0_isNought_15 : decode cX0_isNought 15 = .ok (.iaload, 1) := by decide +kernel
theorem dX0_isNought_16 : decode cX0_isNought 16 = .ok (.if_icmp .ge 17, 3) := by decide +kernel
theorem dX0_isNought_19 : decode cX0_isNought 19 = .ok (.aload_n 1, 1) := by decide +kernel
theorem dX0_isNought_20 : decode cX0_isNought 20 = .ok (.iload_n 3, 1) := by decide +kernel
theorem dX0_isNought_21 : decode cX0_isNought 21 = .ok (.iaload, 1) := by decide +kernel
theorem dX0_isNought_22 : decode cX0_isNought 22 = .ok (.ifCond .eq 5, 3) := by decide +kernel
theorem dX0_isNought_25 : decode cX0_isNought 25 = .ok (.iconst 0, 1) := by decide +kernel
theorem dX0_isNought_26 : decode cX0_isNought 26 = .ok (.ireturn, 1) := by decide +kernel
theorem dX0_isNought_27 : decode cX0_isNought 27 = .ok (.iinc 3 1, 3) := by decide +kernel
theorem dX0_isNought_30 : decode cX0_isNought 30 = .ok (.goto (-23), 3) := by decide +kernel
theorem dX0_isNought_33 : decode cX0_isNought 33 = .ok (.iconst 1, 1) := by decide +kernel
theorem dX0_isNought_34 : decode cX0_isNought 34 = .ok (.ireturn, 1) := by decide +kernel
set_option maxRecDepth 20000 in
theorem ggX0_multiply_J7_fill_53178 : GoodIn wsX0_multiply wsJ7_fill_53178 := by
  refine goodIn_sub ?_ gd_J7_fill_53178
  unfold wsJ7_fill_53178
  refine wm_c ⟨(wm_1 (wm_l (wm_4 (wm_1 wm_h)))), ?_⟩
  exact wm_n
set_option maxRecDepth 20000 in
theorem gX0_multiply_J7_fill_53178 : GoodIn wsX0_multiply (va_wsS RX0 71 yJ7_fill_53178 wsJ7_fill_53178) := goodIn_app (goodIn_of _ (by decide +kernel)) ggX0_multiply_J7_fill_53178
set_option maxRecDepth 20000 in
theorem ggX0_multiply_X0_gather : GoodIn wsX0_multiply wsX0_gather := by
  refine goodIn_sub ?_ gd_X0_gather
  unfold wsX0_gather
  refine wm_c ⟨(wm_1 (wm_l (wm_8 (wm_2 wm_h)))), ?_⟩
  refine wm_a ⟨?_, ?_⟩
  · refine wm_c ⟨(wm_1 (wm_l (wm_8 (wm_2 (wm_1 wm_h))))), ?_⟩
    refine wm_c ⟨(wm_1 (wm_l (wm_8 (wm_4 wm_h)))), ?_⟩
    refine wm_c ⟨(wm_1 (wm_l (wm_8 (wm_4 (wm_1 wm_h))))), ?_⟩
    exact wm_n
  · exact wk_X0_multiply_X00
set_option maxRecDepth 20000 in
theorem gX0_multiply_X0_gather : GoodIn wsX0_multiply (wsV RX0 89 RX0 yX0_gather wsX0_gather) := by
  refine goodIn_app (goodIn_sub ?_ ?_) ggX0_multiply_X0_gather
  · exact wm_c ⟨(wm_1 (wm_l (wm_4 (wm_2 wm_h)))), wm_c ⟨(wm_1 (wm_l (wm_4 (wm_2 (wm_1 wm_h))))), wm_c ⟨(wm_1 (wm_l (wm_8 wm_h))), wm_c ⟨(wm_1 (wm_l (wm_8 (wm_1 wm_h)))), wm_n⟩⟩⟩⟩
  · decide +kernel
set_option maxRecDepth 20000 in
theorem ggX0_multiply_X0_copy : GoodIn wsX0_multiply wsX0_copy := by
  refine goodIn_sub ?_ gd_X0_copy
  unfold wsX0_copy
  refine wm_c ⟨(wm_1 (wm_l (wm_16 (wm_1 wm_h)))), ?_⟩
  refine wm_c ⟨(wm_1 (wm_l (wm_16 (wm_2 wm_h)))), ?_⟩
  refine wm_c ⟨(wm_1 (wm_l (wm_16 (wm_2 (wm_1 wm_h))))), ?_⟩
  refine wm_c ⟨(wm_1 (wm_l (wm_16 (wm_4 wm_h)))), ?_⟩
  refine wm_c ⟨(wm_1 (wm_l (wm_16 (wm_4 (wm_1 wm_h))))), ?_⟩
  exact wm_n
set_option maxRecDepth 20000 in
theorem gX0_multiply_X0_copy : GoodIn wsX0_multiply (wsV RX0 93 RX0 yX0_copy wsX0_copy) := by
  refine goodIn_app (goodIn_sub ?_ ?_) ggX0_multiply_X0_copy
  · exact wm_c ⟨(wm_1 (wm_l (wm_8 (wm_4 (wm_2 wm_h))))), wm_c ⟨(wm_1 (wm_l (wm_8 (wm_4 (wm_2 (wm_1 wm_h)))))), wm_c ⟨(wm_1 (wm_l (wm_16 wm_h))), wm_c ⟨(wm_1 (wm_l (wm_8 (wm_1 wm_h)))), wm_n⟩⟩⟩⟩
  · decide +kernel
theorem dX0_multiply_0 : decode cX0_multiply 0 = .ok (.aload_n 0, 1) := by decide +kernel
theorem dX0_multiply_1 : decode cX0_multiply 1 = .ok (.getfield 53, 3) := by decide +kernel
theorem dX0_multiply_4 : decode cX0_multiply 4 = .ok (.iconst 0, 1) := by decide +kernel
theorem dX0_multiply_5 : decode cX0_multiply 5 = .ok (.invokestatic 71, 3) := by decide +kernel
theorem dX0_multiply_8 : decode cX0_multiply 8 = .ok (.aload_n 0, 1) := by decide +kernel
theorem dX0_multiply_9 : decode cX0_multiply 9 = .ok (.aload_n 0, 1) := by decide +kernel
theorem dX0_multiply_10 : decode cX0_multiply 10 = .ok (.getfield 53, 3) := by decide +kernel
theorem dX0_multiply_13 : decode cX0_multiply 13 = .ok (.aload_n 2, 1) := by decide +kernel
theorem dX0_multiply_14 : decode cX0_multiply 14 = .ok (.aload_n 3, 1) := by decide +kernel
theorem dX0_multiply_15 : decode cX0_multiply 15 = .ok (.iconst 1, 1) := by decide +kernel
theorem dX0_multiply_16 : decode cX0_multiply 16 = .ok (.aload_n 0, 1) := by decide +kernel
theorem dX0_multiply_17 : decode cX0_multiply 17 = .ok (.getfield 21, 3) := by decide +kernel
theorem dX0_multiply_20 : decode cX0_multiply 20 = .ok (.invokevirtual 89, 3) := by decide +kernel
theorem dX0_multiply_23 : decode cX0_multiply 23 = .ok (.aload_n 0, 1) := by decide +kernel
theorem dX0_multiply_24 : decode cX0_multiply 24 = .ok (.aload_n 1, 1) := by decide +kernel
theorem dX0_multiply_25 : decode cX0_multiply 25 = .ok (.aload_n 0, 1) := by decide +kernel
theorem dX0_multiply_26 : decode cX0_multiply 26 = .ok (.getfield 53, 3) := by decide +kernel
theorem dX0_multiply_29 : decode cX0_multiply 29 = .ok (.invokevirtual 93, 3) := by decide +kernel
theorem dX0_multiply_32 : decode cX0_multiply 32 = .ok (.return_, 1) := by decide +kernel
set_option maxRecDepth 20000 in
theorem ggX0_commute_J7_fill_53178 : GoodIn wsX0_commute wsJ7_fill_53178 := by
  refine goodIn_sub ?_ gd_J7_fill_53178
  unfold wsJ7_fill_53178
  refine wm_c ⟨(wm_1 (wm_l (wm_4 (wm_2 wm_h)))), ?_⟩
  exact wm_n
set_option maxRecDepth 20000 in
theorem gX0_commute_J7_fill_53178 : GoodIn wsX0_commute (va_wsS RX0 71 yJ7_fill_53178 wsJ7_fill_53178) := goodIn_app (goodIn_of _ (by decide +kernel)) ggX0_commute_J7_fill_53178
set_option maxRecDepth 20000 in
theorem ggX0_commute_X0_gather : GoodIn wsX0_commute wsX0_gather := by
  refine goodIn_sub ?_ gd_X0_gather
  unfold wsX0_gather
  refine wm_c ⟨(wm_1 (wm_l (wm_8 (wm_2 (wm_1 wm_h))))), ?_⟩
  refine wm_a ⟨?_, ?_⟩
  · refine wm_c ⟨(wm_1 (wm_l (wm_8 (wm_4 wm_h)))), ?_⟩
    refine wm_c ⟨(wm_1 (wm_l (wm_8 (wm_4 (wm_1 wm_h))))), ?_⟩
    refine wm_c ⟨(wm_1 (wm_l (wm_8 (wm_4 (wm_2 wm_h))))), ?_⟩
    exact wm_n
  · exact wk_X0_commute_X00
set_option maxRecDepth 20000 in
theorem gX0_commute_X0_gather : GoodIn wsX0_commute (wsV RX0 89 RX0 yX0_gather wsX0_gather) := by
  refine goodIn_app (goodIn_sub ?_ ?_) ggX0_commute_X0_gather
  · exact wm_c ⟨(wm_1 (wm_l (wm_4 (wm_2 (wm_1 wm_h))))), wm_c ⟨(wm_1 (wm_l (wm_8 wm_h))), wm_c ⟨(wm_1 (wm_l (wm_8 (wm_1 wm_h)))), wm_c ⟨(wm_1 (wm_l (wm_8 (wm_2 wm_h)))), wm_n⟩⟩⟩⟩
  · decide +kernel
set_option maxRecDepth 20000 in
theorem ggX0_commute_X0_copy : GoodIn wsX0_commute wsX0_copy := by
  refine goodIn_sub ?_ gd_X0_copy
  unfold wsX0_copy
  refine wm_c ⟨(wm_1 (wm_l (wm_16 (wm_2 wm_h)))), ?_⟩
  refine wm_c ⟨(wm_1 (wm_l (wm_16 (wm_2 (wm_1 wm_h))))), ?_⟩
  refine wm_c ⟨(wm_1 (wm_l (wm_16 (wm_4 wm_h)))), ?_⟩
  refine wm_c ⟨(wm_1 (wm_l (wm_16 (wm_4 (wm_1 wm_h))))), ?_⟩
  refine wm_c ⟨(wm_1 (wm_l (wm_16 (wm_4 (wm_2 wm_h))))), ?_⟩
  exact wm_n
set_option maxRecDepth 20000 in
theorem gX0_commute_X0_copy : GoodIn wsX0_commute (wsV RX0 93 RX0 yX0_copy wsX0_copy) := by
  refine goodIn_app (goodIn_sub ?_ ?_) ggX0_commute_X0_copy
  · exact wm_c ⟨(wm_1 (wm_l (wm_8 (wm_4 (wm_2 (wm_1 wm_h)))))), wm_c ⟨(wm_1 (wm_l (wm_16 wm_h))), wm_c ⟨(wm_1 (wm_l (wm_16 (wm_1 wm_h)))), wm_c ⟨(wm_1 (wm_l (wm_8 (wm_2 wm_h)))), wm_n⟩⟩⟩⟩
  · decide +kernel
theorem dX0_commute_0 : decode cX0_commute 0 = .ok (.aload_n 0, 1) := by decide +kernel
theorem dX0_commute_1 : decode cX0_commute 1 = .ok (.getfield 53, 3) := by decide +kernel
theorem dX0_commute_4 : decode cX0_commute 4 = .ok (.iconst 0, 1) := by decide +kernel
theorem dX0_commute_5 : decode cX0_commute 5 = .ok (.invokestatic 71, 3) := by decide +kernel
theorem dX0_commute_8 : decode cX0_commute 8 = .ok (.aload_n 0, 1) := by decide +kernel
theorem dX0_commute_9 : decode cX0_commute 9 = .ok (.aload_n 0, 1) := by decide +kernel
theorem dX0_commute_10 : decode cX0_commute 10 = .ok (.getfield 53, 3) := by decide +kernel
theorem dX0_commute_13 : decode cX0_commute 13 = .ok (.aload_n 2, 1) := by decide +kernel
theorem dX0_commute_14 : decode cX0_commute 14 = .ok (.aload_n 3, 1) := by decide +kernel
theorem dX0_commute_15 : decode cX0_commute 15 = .ok (.iconst 1, 1) := by decide +kernel
theorem dX0_commute_16 : decode cX0_commute 16 = .ok (.aload_n 0, 1) := by decide +kernel
theorem dX0_commute_17 : decode cX0_commute 17 = .ok (.getfield 21, 3) := by decide +kernel
theorem dX0_commute_20 : decode cX0_commute 20 = .ok (.invokevirtual 89, 3) := by decide +kernel
theorem dX0_commute_23 : decode cX0_commute 23 = .ok (.aload_n 0, 1) := by decide +kernel
theorem dX0_commute_24 : decode cX0_commute 24 = .ok (.aload_n 0, 1) := by decide +kernel
theorem dX0_commute_25 : decode cX0_commute 25 = .ok (.getfield 53, 3) := by decide +kernel
theorem dX0_commute_28 : decode cX0_commute 28 = .ok (.aload_n 3, 1) := by decide +kernel
theorem dX0_commute_29 : decode cX0_commute 29 = .ok (.aload_n 2, 1) := by decide +kernel
theorem dX0_commute_30 : decode cX0_commute 30 = .ok (.ldc 97, 2) := by decide +kernel
theorem dX0_commute_32 : decode cX0_commute 32 = .ok (.aload_n 0, 1) := by decide +kernel
theorem dX0_commute_33 : decode cX0_commute 33 = .ok (.getfield 21, 3) := by decide +kernel
theorem dX0_commute_36 : decode cX0_commute 36 = .ok (.invokevirtual 89, 3) := by decide +kernel
theorem dX0_commute_39 : decode cX0_commute 39 = .ok (.aload_n 0, 1) := by decide +kernel
theorem dX0_commute_40 : decode cX0_commute 40 = .ok (.aload_n 1, 1) := by decide +kernel
theorem dX0_commute_41 : decode cX0_commute 41 = .ok (.aload_n 0, 1) := by decide +kernel
theorem dX0_commute_42 : decode cX0_commute 42 = .ok (.getfield 53, 3) := by decide +kernel
theorem dX0_commute_45 : decode cX0_commute 45 = .ok (.invokevirtual 93, 3) := by decide +kernel
theorem dX0_commute_48 : decode cX0_commute 48 = .ok (.return_, 1) := by decide +kernel
set_option maxRecDepth 20000 in
theorem ggX0_multiplyByLetter_J7_fill_53178 : GoodIn wsX0_multiplyByLetter wsJ7_fill_53178 := by
  refine goodIn_sub ?_ gd_J7_fill_53178
  unfold wsJ7_fill_53178
  refine wm_c ⟨(wm_1 (wm_l (wm_4 (wm_2 (wm_1 wm_h))))), ?_⟩
  exact wm_n
set_option maxRecDepth 20000 in
theorem gX0_multiplyByLetter_J7_fill_53178 : GoodIn wsX0_multiplyByLetter (va_wsS RX0 71 yJ7_fill_53178 wsJ7_fill_53178) := goodIn_app (goodIn_of _ (by decide +kernel)) ggX0_multiplyByLetter_J7_fill_53178
set_option maxRecDepth 20000 in
theorem ggX0_multiplyByLetter_X0_copy : GoodIn wsX0_multiplyByLetter wsX0_copy := by
  refine goodIn_sub ?_ gd_X0_copy
  unfold wsX0_copy
  refine wm_c ⟨(wm_1 (wm_l (wm_8 (wm_4 wm_h)))), ?_⟩
  refine wm_c ⟨(wm_1 (wm_l (wm_8 (wm_4 (wm_1 wm_h))))), ?_⟩
  refine wm_c ⟨(wm_1 (wm_l (wm_8 (wm_4 (wm_2 wm_h))))), ?_⟩
  refine wm_c ⟨(wm_1 (wm_l (wm_8 (wm_4 (wm_2 (wm_1 wm_h)))))), ?_⟩
  refine wm_c ⟨(wm_1 (wm_l (wm_16 wm_h))), ?_⟩
  exact wm_n
set_option maxRecDepth 20000 in
theorem gX0_multiplyByLetter_X0_copy : GoodIn wsX0_multiplyByLetter (wsV RX0 93 RX0 yX0_copy wsX0_copy) := by
  refine goodIn_app (goodIn_sub ?_ ?_) ggX0_multiplyByLetter_X0_copy
  · exact wm_c ⟨(wm_1 (wm_l (wm_8 wm_h))), wm_c ⟨(wm_1 (wm_l (wm_8 (wm_1 wm_h)))), wm_c ⟨(wm_1 (wm_l (wm_8 (wm_2 wm_h)))), wm_c ⟨(wm_1 (wm_l (wm_8 (wm_2 (wm_1 wm_h))))), wm_n⟩⟩⟩⟩
  · decide +kernel
theorem dX0_multiplyByLetter_0 : decode cX0_multiplyByLetter 0 = .ok (.aload_n 0, 1) := by decide +kernel
theorem dX0_multiplyByLetter_1 : decode cX0_multiplyByLetter 1 = .ok (.getfield 53, 3) := by decide +kernel
theorem dX0_multiplyByLetter_4 : decode cX0_multiplyByLetter 4 = .ok (.iconst 0, 1) := by decide +kernel
theorem dX0_multiplyByLetter_5 : decode cX0_multiplyByLetter 5 = .ok (.invokestatic 71, 3) := by decide +kernel
theorem dX0_multiplyByLetter_8 : decode cX0_multiplyByLetter 8 = .ok (.iconst 0, 1) := by decide +kernel
theorem dX0_multiplyByLetter_9 : decode cX0_multiplyByLetter 9 = .ok (.istore_n 3, 1) := by decide +kernel
theorem dX0_multiplyByLetter_10 : decode cX0_multiplyByLetter 10 = .ok (.iload_n 3, 1) := by decide +kernel
theorem dX0_multiplyByLetter_11 : decode cX0_multiplyByLetter 11 = .ok (.aload_n 0, 1) := by decide +kernel
theorem dX0_multiplyByLetter_12 : decode cX0_multiplyByLetter 12 = .ok (.getfield 21, 3) := by decide +kernel
theorem dX0_multiplyByLetter_15 : decode cX0_multiplyByLetter 15 = .ok (.if_icmp .ge 68, 3) := by decide +kernel
theorem dX0_multiplyByLetter_18 : decode cX0_multiplyByLetter 18 = .ok (.aload_n 0, 1) := by decide +kernel
theorem dX0_multiplyByLetter_19 : decode cX0_multiplyByLetter 19 = .ok (.getfield 34, 3) := by decide +kernel
theorem dX0_multiplyByLetter_22 : decode cX0_multiplyByLetter 22 = .ok (.iload_n 3, 1) := by decide +kernel
theorem dX0_multiplyByLetter_23 : decode cX0_multiplyByLetter 23 = .ok (.iconst 1, 1) := by decide +kernel
theorem dX0_multiplyByLetter_24 : decode cX0_multiplyByLetter 24 = .ok (.iadd, 1) := by decide +kernel
theorem dX0_multiplyByLetter_25 : decode cX0_multiplyByLetter 25 = .ok (.iaload, 1) := by decide +kernel
theorem dX0_multiplyByLetter_26 : decode cX0_multiplyByLetter 26 = .ok (.iload_n 2, 1) := by decide +kernel
theorem dX0_multiplyByLetter_27 : decode cX0_multiplyByLetter 27 = .ok (.iadd, 1) := by decide +kernel
theorem dX0_multiplyByLetter_28 : decode cX0_multiplyByLetter 28 = .ok (.istore 4, 2) := by decide +kernel
theorem dX0_multiplyByLetter_30 : decode cX0_multiplyByLetter 30 = .ok (.aload_n 0, 1) := by decide +kernel
theorem dX0_multiplyByLetter_31 : decode cX0_multiplyByLetter 31 = .ok (.getfield 34, 3) := by decide +kernel
theorem dX0_multiplyByLetter_34 : decode cX0_multiplyByLetter 34 = .ok (.iload_n 3, 1) := by decide +kernel
theorem dX0_multiplyByLetter_35 : decode cX0_multiplyByLetter 35 = .ok (.iaload, 1) := by decide +kernel
theorem dX0_multiplyByLetter_36 : decode cX0_multiplyByLetter 36 = .ok (.istore 5, 2) := by decide +kernel
theorem dX0_multiplyByLetter_38 : decode cX0_multiplyByLetter 38 = .ok (.iload 5, 2) := by decide +kernel
theorem dX0_multiplyByLetter_40 : decode cX0_multiplyByLetter 40 = .ok (.aload_n 0, 1) := by decide +kernel
theorem dX0_multiplyByLetter_41 : decode cX0_multiplyByLetter 41 = .ok (.getfield 34, 3) := by decide +kernel
theorem dX0_multiplyByLetter_44 : decode cX0_multiplyByLetter 44 = .ok (.iload_n 3, 1) := by decide +kernel
theorem dX0_multiplyByLetter_45 : decode cX0_multiplyByLetter 45 = .ok (.iconst 1, 1) := by decide +kernel
theorem dX0_multiplyByLetter_46 : decode cX0_multiplyByLetter 46 = .ok (.iadd, 1) := by decide +kernel
theorem dX0_multiplyByLetter_47 : decode cX0_multiplyByLetter 47 = .ok (.iaload, 1) := by decide +kernel
theorem dX0_multiplyByLetter_48 : decode cX0_multiplyByLetter 48 = .ok (.if_icmp .ge 29, 3) := by decide +kernel
theorem dX0_multiplyByLetter_51 : decode cX0_multiplyByLetter 51 = .ok (.aload_n 0, 1) := by decide +kernel
theorem dX0_multiplyByLetter_52 : decode cX0_multiplyByLetter 52 = .ok (.getfield 53, 3) := by decide +kernel
theorem dX0_multiplyByLetter_55 : decode cX0_multiplyByLetter 55 = .ok (.iload 4, 2) := by decide +kernel
theorem dX0_multiplyByLetter_57 : decode cX0_multiplyByLetter 57 = .ok (.aload_n 1, 1) := by decide +kernel
theorem dX0_multiplyByLetter_58 : decode cX0_multiplyByLetter 58 = .ok (.iload 5, 2) := by decide +kernel
theorem dX0_multiplyByLetter_60 : decode cX0_multiplyByLetter 60 = .ok (.iaload, 1) := by decide +kernel
theorem dX0_multiplyByLetter_61 : decode cX0_multiplyByLetter 61 = .ok (.iastore, 1) := by decide +kernel
theorem dX0_multiplyByLetter_62 : decode cX0_multiplyByLetter 62 = .ok (.iload 4, 2) := by decide +kernel
theorem dX0_multiplyByLetter_64 : decode cX0_multiplyByLetter 64 = .ok (.aload_n 0, 1) := by decide +kernel
theorem dX0_multiplyByLetter_65 : decode cX0_multiplyByLetter 65 = .ok (.getfield 25, 3) := by decide +kernel
theorem dX0_multiplyByLetter_68 : decode cX0_multiplyByLetter 68 = .ok (.iadd, 1) := by decide +kernel
theorem dX0_multiplyByLetter_69 : decode cX0_multiplyByLetter 69 = .ok (.istore 4, 2) := by decide +kernel
theorem dX0_multiplyByLetter_71 : decode cX0_multiplyByLetter 71 = .ok (.iinc 5 1, 3) := by decide +kernel
theorem dX0_multiplyByLetter_74 : decode cX0_multiplyByLetter 74 = .ok (.goto (-36), 3) := by decide +kernel
theorem dX0_multiplyByLetter_77 : decode cX0_multiplyByLetter 77 = .ok (.iinc 3 1, 3) := by decide +kernel
theorem dX0_multiplyByLetter_80 : decode cX0_multiplyByLetter 80 = .ok (.goto (-70), 3) := by decide +kernel
theorem dX0_multiplyByLetter_83 : decode cX0_multiplyByLetter 83 = .ok (.aload_n 0, 1) := by decide +kernel
theorem dX0_multiplyByLetter_84 : decode cX0_multiplyByLetter 84 = .ok (.aload_n 1, 1) := by decide +kernel
theorem dX0_multiplyByLetter_85 : decode cX0_multiplyByLetter 85 = .ok (.aload_n 0, 1) := by decide +kernel
theorem dX0_multiplyByLetter_86 : decode cX0_multiplyByLetter 86 = .ok (.getfield 53, 3) := by decide +kernel
theorem dX0_multiplyByLetter_89 : decode cX0_multiplyByLetter 89 = .ok (.invokevirtual 93, 3) := by decide +kernel
theorem dX0_multiplyByLetter_92 : decode cX0_multiplyByLetter 92 = .ok (.return_, 1) := by decide +kernel
theorem dX0_gather_0 : decode cX0_gather 0 = .ok (.iconst 0, 1) := by decide +kernel
theorem dX0_gather_1 : decode cX0_gather 1 = .ok (.istore 6, 2) := by decide +kernel
theorem dX0_gather_3 : decode cX0_gather 3 = .ok (.iload 6, 2) := by decide +kernel
theorem dX0_gather_5 : decode cX0_gather 5 = .ok (.iload 5, 2) := by decide +kernel
theorem dX0_gather_7 : decode cX0_gather 7 = .ok (.if_icmp .gt 165, 3) := by decide +kernel
theorem dX0_gather_10 : decode cX0_gather 10 = .ok (.iconst 0, 1) := by decide +kernel
theorem dX0_gather_11 : decode cX0_gather 11 = .ok (.istore 7, 2) := by decide +kernel
theorem dX0_gather_13 : decode cX0_gather 13 = .ok (.iload 7, 2) := by decide +kernel
theorem dX0_gather_15 : decode cX0_gather 15 = .ok (.aload_n 0, 1) := by decide +kernel
theorem dX0_gather_16 : decode cX0_gather 16 = .ok (.getfield 30, 3) := by decide +kernel
theorem dX0_gather_19 : decode cX0_gather 19 = .ok (.iload 6, 2) := by decide +kernel
theorem dX0_gather_21 : decode cX0_gather 21 = .ok (.iaload, 1) := by decide +kernel
theorem dX0_gather_22 : decode cX0_gather 22 = .ok (.if_icmp .ge 144, 3) := by decide +kernel
theorem dX0_gather_25 : decode cX0_gather 25 = .ok (.aload_n 3, 1) := by decide +kernel
theorem dX0_gather_26 : decode cX0_gather 26 = .ok (.aload_n 0, 1) := by decide +kernel
theorem dX0_gather_27 : decode cX0_gather 27 = .ok (.getfield 34, 3) := by decide +kernel
theorem dX0_gather_30 : decode cX0_gather 30 = .ok (.iload 6, 2) := by decide +kernel
theorem dX0_gather_32 : decode cX0_gather 32 = .ok (.iaload, 1) := by decide +kernel
theorem dX0_gather_33 : decode cX0_gather 33 = .ok (.iload 7, 2) := by decide +kernel
theorem dX0_gather_35 : decode cX0_gather 35 = .ok (.iadd, 1) := by decide +kernel
theorem dX0_gather_36 : decode cX0_gather 36 = .ok (.iaload, 1) := by decide +kernel
theorem dX0_gather_37 : decode cX0_gather 37 = .ok (.i2l, 1) := by decide +kernel
theorem dX0_gather_38 : decode cX0_gather 38 = .ok (.iload 4, 2) := by decide +kernel
theorem dX0_gather_40 : decode cX0_gather 40 = .ok (.i2l, 1) := by decide +kernel
theorem dX0_gather_41 : decode cX0_gather 41 = .ok (.lmul, 1) := by decide +kernel
theorem dX0_gather_42 : decode cX0_gather 42 = .ok (.ldc2_w 98, 3) := by decide +kernel
theorem dX0_gather_45 : decode cX0_gather 45 = .ok (.lrem, 1) := by decide +kernel
theorem dX0_gather_46 : decode cX0_gather 46 = .ok (.lstore 8, 2) := by decide +kernel
theorem dX0_gather_48 : decode cX0_gather 48 = .ok (.iconst 0, 1) := by decide +kernel
theorem dX0_gather_49 : decode cX0_gather 49 = .ok (.istore 10, 2) := by decide +kernel
theorem dX0_gather_51 : decode cX0_gather 51 = .ok (.iload 10, 2) := by decide +kernel
theorem dX0_gather_53 : decode cX0_gather 53 = .ok (.iload 5, 2) := by decide +kernel
theorem dX0_gather_55 : decode cX0_gather 55 = .ok (.iload 6, 2) := by decide +kernel
theorem dX0_gather_57 : decode cX0_gather 57 = .ok (.isub, 1) := by decide +kernel
theorem dX0_gather_58 : decode cX0_gather 58 = .ok (.if_icmp .gt 102, 3) := by decide +kernel
theorem dX0_gather_61 : decode cX0_gather 61 = .ok (.lload 8, 2) := by decide +kernel
theorem dX0_gather_63 : decode cX0_gather 63 = .ok (.lconst 0, 1) := by decide +kernel
theorem dX0_gather_64 : decode cX0_gather 64 = .ok (.lcmp, 1) := by decide +kernel
theorem dX0_gather_65 : decode cX0_gather 65 = .ok (.ifCond .eq 95, 3) := by decide +kernel
theorem dX0_gather_68 : decode cX0_gather 68 = .ok (.aload_n 0, 1) := by decide +kernel
theorem dX0_gather_69 : decode cX0_gather 69 = .ok (.getfield 34, 3) := by decide +kernel
theorem dX0_gather_72 : decode cX0_gather 72 = .ok (.iload 10, 2) := by decide +kernel
theorem dX0_gather_74 : decode cX0_gather 74 = .ok (.iload 6, 2) := by decide +kernel
theorem dX0_gather_76 : decode cX0_gather 76 = .ok (.iadd, 1) := by decide +kernel
theorem dX0_gather_77 : decode cX0_gather 77 = .ok (.iaload, 1) := by decide +kernel
theorem dX0_gather_78 : decode cX0_gather 78 = .ok (.iload 7, 2) := by decide +kernel
theorem dX0_gather_80 : decode cX0_gather 80 = .ok (.iadd, 1) := by decide +kernel
theorem dX0_gather_81 : decode cX0_gather 81 = .ok (.istore 11, 2) := by decide +kernel
theorem dX0_gather_83 : decode cX0_gather 83 = .ok (.aload_n 0, 1) := by decide +kernel
theorem dX0_gather_84 : decode cX0_gather 84 = .ok (.getfield 34, 3) := by decide +kernel
theorem dX0_gather_87 : decode cX0_gather 87 = .ok (.iload 10, 2) := by decide +kernel
theorem dX0_gather_89 : decode cX0_gather 89 = .ok (.iaload, 1) := by decide +kernel
theorem dX0_gather_90 : decode cX0_gather 90 = .ok (.istore 12, 2) := by decide +kernel
theorem dX0_gather_92 : decode cX0_gather 92 = .ok (.iload 12, 2) := by decide +kernel
theorem dX0_gather_94 : decode cX0_gather 94 = .ok (.aload_n 0, 1) := by decide +kernel
theorem dX0_gather_95 : decode cX0_gather 95 = .ok (.getfield 34, 3) := by decide +kernel
theorem dX0_gather_98 : decode cX0_gather 98 = .ok (.iload 10, 2) := by decide +kernel
theorem dX0_gather_100 : decode cX0_gather 100 = .ok (.iconst 1, 1) := by decide +kernel
theorem dX0_gather_101 : decode cX0_gather 101 = .ok (.iadd, 1) := by decide +kernel
theorem dX0_gather_102 : decode cX0_gather 102 = .ok (.iaload, 1) := by decide +kernel
theorem dX0_gather_103 : decode cX0_gather 103 = .ok (.if_icmp .ge 51, 3) := by decide +kernel
theorem dX0_gather_106 : decode cX0_gather 106 = .ok (.aload_n 2, 1) := by decide +kernel
theorem dX0_gather_107 : decode cX0_gather 107 = .ok (.iload 12, 2) := by decide +kernel
theorem dX0_gather_109 : decode cX0_gather 109 = .ok (.iaload, 1) := by decide +kernel
theorem dX0_gather_110 : decode cX0_gather 110 = .ok (.ifCond .eq 26, 3) := by decide +kernel
theorem dX0_gather_113 : decode cX0_gather 113 = .ok (.aload_n 1, 1) := by decide +kernel
theorem dX0_gather_114 : decode cX0_gather 114 = .ok (.iload 11, 2) := by decide +kernel
theorem dX0_gather_116 : decode cX0_gather 116 = .ok (.aload_n 1, 1) := by decide +kernel
theorem dX0_gather_117 : decode cX0_gather 117 = .ok (.iload 11, 2) := by decide +kernel
theorem dX0_gather_119 : decode cX0_gather 119 = .ok (.iaload, 1) := by decide +kernel
theorem dX0_gather_120 : decode cX0_gather 120 = .ok (.i2l, 1) := by decide +kernel
theorem dX0_gather_121 : decode cX0_gather 121 = .ok (.aload_n 2, 1) := by decide +kernel
theorem dX0_gather_122 : decode cX0_gather 122 = .ok (.iload 12, 2) := by decide +kernel
theorem dX0_gather_124 : decode cX0_gather 124 = .ok (.iaload, 1) := by decide +kernel
theorem dX0_gather_125 : decode cX0_gather 125 = .ok (.i2l, 1) := by decide +kernel
theorem dX0_gather_126 : decode cX0_gather 126 = .ok (.lload 8, 2) := by decide +kernel
theorem dX0_gather_128 : decode cX0_gather 128 = .ok (.lmul, 1) := by decide +kernel
theorem dX0_gather_129 : decode cX0_gather 129 = .ok (.ladd, 1) := by decide +kernel
theorem dX0_gather_130 : decode cX0_gather 130 = .ok (.ldc2_w 98, 3) := by decide +kernel
theorem dX0_gather_133 : decode cX0_gather 133 = .ok (.lrem, 1) := by decide +kernel
theorem dX0_gather_134 : decode cX0_gather 134 = .ok (.l2i, 1) := by decide +kernel
theorem dX0_gather_135 : decode cX0_gather 135 = .ok (.iastore, 1) := by decide +kernel
theorem dX0_gather_136 : decode cX0_gather 136 = .ok (.iload 11, 2) := by decide +kernel
theorem dX0_gather_138 : decode cX0_gather 138 = .ok (.aload_n 0, 1) := by decide +kernel
theorem dX0_gather_139 : decode cX0_gather 139 = .ok (.getfield 30, 3) := by decide +kernel
theorem dX0_gather_142 : decode cX0_gather 142 = .ok (.iload 6, 2) := by decide +kernel
theorem dX0_gather_144 : decode cX0_gather 144 = .ok (.iaload, 1) := by decide +kernel
theorem dX0_gather_145 : decode cX0_gather 145 = .ok (.iadd, 1) := by decide +kernel
theorem dX0_gather_146 : decode cX0_gather 146 = .ok (.istore 11, 2) := by decide +kernel
theorem dX0_gather_148 : decode cX0_gather 148 = .ok (.iinc 12 1, 3) := by decide +kernel
theorem dX0_gather_151 : decode cX0_gather 151 = .ok (.goto (-59), 3) := by decide +kernel
theorem dX0_gather_154 : decode cX0_gather 154 = .ok (.iinc 10 1, 3) := by decide +kernel
theorem dX0_gather_157 : decode cX0_gather 157 = .ok (.goto (-106), 3) := by decide +kernel
theorem dX0_gather_160 : decode cX0_gather 160 = .ok (.iinc 7 1, 3) := by decide +kernel
theorem dX0_gather_163 : decode cX0_gather 163 = .ok (.goto (-150), 3) := by decide +kernel
theorem dX0_gather_166 : decode cX0_gather 166 = .ok (.iinc 6 1, 3) := by decide +kernel
theorem dX0_gather_169 : decode cX0_gather 169 = .ok (.goto (-166), 3) := by decide +kernel
theorem dX0_gather_172 : decode cX0_gather 172 = .ok (.return_, 1) := by decide +kernel
set_option maxRecDepth 20000 in
theorem ggX0_gatherAhead_X3_plus : GoodIn wsX0_gatherAhead wsX3_plus := by
  refine goodIn_sub ?_ gd_X3_plus
  unfold wsX3_plus
  refine wm_c ⟨(wm_1 (wm_l (wm_4 (wm_1 wm_h)))), ?_⟩
  refine wm_c ⟨(wm_1 (wm_l (wm_4 (wm_2 wm_h)))), ?_⟩
  exact wm_n
set_option maxRecDepth 20000 in
theorem gX0_gatherAhead_X3_plus : GoodIn wsX0_gatherAhead (va_wsS RX0 100 yX3_plus wsX3_plus) := goodIn_app (goodIn_of _ (by decide +kernel)) ggX0_gatherAhead_X3_plus
theorem dX0_gatherAhead_0 : decode cX0_gatherAhead 0 = .ok (.iconst 0, 1) := by decide +kernel
theorem dX0_gatherAhead_1 : decode cX0_gatherAhead 1 = .ok (.istore 5, 2) := by decide +kernel
theorem dX0_gatherAhead_3 : decode cX0_gatherAhead 3 = .ok (.iload 5, 2) := by decide +kernel
theorem dX0_gatherAhead_5 : decode cX0_gatherAhead 5 = .ok (.iload 4, 2) := by decide +kernel
theorem dX0_gatherAhead_7 : decode cX0_gatherAhead 7 = .ok (.if_icmp .gt 77, 3) := by decide +kernel
theorem dX0_gatherAhead_10 : decode cX0_gatherAhead 10 = .ok (.aload_n 0, 1) := by decide +kernel
theorem dX0_gatherAhead_11 : decode cX0_gatherAhead 11 = .ok (.getfield 34, 3) := by decide +kernel
theorem dX0_gatherAhead_14 : decode cX0_gatherAhead 14 = .ok (.iload 5, 2) := by decide +kernel
theorem dX0_gatherAhead_16 : decode cX0_gatherAhead 16 = .ok (.iconst 1, 1) := by decide +kernel
theorem dX0_gatherAhead_17 : decode cX0_gatherAhead 17 = .ok (.iadd, 1) := by decide +kernel
theorem dX0_gatherAhead_18 : decode cX0_gatherAhead 18 = .ok (.iaload, 1) := by decide +kernel
theorem dX0_gatherAhead_19 : decode cX0_gatherAhead 19 = .ok (.iload_n 3, 1) := by decide +kernel
theorem dX0_gatherAhead_20 : decode cX0_gatherAhead 20 = .ok (.aload_n 0, 1) := by decide +kernel
theorem dX0_gatherAhead_21 : decode cX0_gatherAhead 21 = .ok (.getfield 30, 3) := by decide +kernel
theorem dX0_gatherAhead_24 : decode cX0_gatherAhead 24 = .ok (.iload 5, 2) := by decide +kernel
theorem dX0_gatherAhead_26 : decode cX0_gatherAhead 26 = .ok (.iaload, 1) := by decide +kernel
theorem dX0_gatherAhead_27 : decode cX0_gatherAhead 27 = .ok (.imul, 1) := by decide +kernel
theorem dX0_gatherAhead_28 : decode cX0_gatherAhead 28 = .ok (.iadd, 1) := by decide +kernel
theorem dX0_gatherAhead_29 : decode cX0_gatherAhead 29 = .ok (.istore 6, 2) := by decide +kernel
theorem dX0_gatherAhead_31 : decode cX0_gatherAhead 31 = .ok (.aload_n 0, 1) := by decide +kernel
theorem dX0_gatherAhead_32 : decode cX0_gatherAhead 32 = .ok (.getfield 34, 3) := by decide +kernel
theorem dX0_gatherAhead_35 : decode cX0_gatherAhead 35 = .ok (.iload 5, 2) := by decide +kernel
theorem dX0_gatherAhead_37 : decode cX0_gatherAhead 37 = .ok (.iaload, 1) := by decide +kernel
theorem dX0_gatherAhead_38 : decode cX0_gatherAhead 38 = .ok (.istore 7, 2) := by decide +kernel
theorem dX0_gatherAhead_40 : decode cX0_gatherAhead 40 = .ok (.iload 7, 2) := by decide +kernel
theorem dX0_gatherAhead_42 : decode cX0_gatherAhead 42 = .ok (.aload_n 0, 1) := by decide +kernel
theorem dX0_gatherAhead_43 : decode cX0_gatherAhead 43 = .ok (.getfield 34, 3) := by decide +kernel
theorem dX0_gatherAhead_46 : decode cX0_gatherAhead 46 = .ok (.iload 5, 2) := by decide +kernel
theorem dX0_gatherAhead_48 : decode cX0_gatherAhead 48 = .ok (.iconst 1, 1) := by decide +kernel
theorem dX0_gatherAhead_49 : decode cX0_gatherAhead 49 = .ok (.iadd, 1) := by decide +kernel
theorem dX0_gatherAhead_50 : decode cX0_gatherAhead 50 = .ok (.iaload, 1) := by decide +kernel
theorem dX0_gatherAhead_51 : decode cX0_gatherAhead 51 = .ok (.if_icmp .ge 27, 3) := by decide +kernel
theorem dX0_gatherAhead_54 : decode cX0_gatherAhead 54 = .ok (.aload_n 1, 1) := by decide +kernel
theorem dX0_gatherAhead_55 : decode cX0_gatherAhead 55 = .ok (.iload 6, 2) := by decide +kernel
theorem dX0_gatherAhead_57 : decode cX0_gatherAhead 57 = .ok (.aload_n 1, 1) := by decide +kernel
theorem dX0_gatherAhead_58 : decode cX0_gatherAhead 58 = .ok (.iload 6, 2) := by decide +kernel
theorem dX0_gatherAhead_60 : decode cX0_gatherAhead 60 = .ok (.iaload, 1) := by decide +kernel
theorem dX0_gatherAhead_61 : decode cX0_gatherAhead 61 = .ok (.aload_n 2, 1) := by decide +kernel
theorem dX0_gatherAhead_62 : decode cX0_gatherAhead 62 = .ok (.iload 7, 2) := by decide +kernel
theorem dX0_gatherAhead_64 : decode cX0_gatherAhead 64 = .ok (.iaload, 1) := by decide +kernel
theorem dX0_gatherAhead_65 : decode cX0_gatherAhead 65 = .ok (.invokestatic 100, 3) := by decide +kernel
theorem dX0_gatherAhead_68 : decode cX0_gatherAhead 68 = .ok (.iastore, 1) := by decide +kernel
theorem dX0_gatherAhead_69 : decode cX0_gatherAhead 69 = .ok (.iinc 6 1, 3) := by decide +kernel
theorem dX0_gatherAhead_72 : decode cX0_gatherAhead 72 = .ok (.iinc 7 1, 3) := by decide +kernel
theorem dX0_gatherAhead_75 : decode cX0_gatherAhead 75 = .ok (.goto (-35), 3) := by decide +kernel
theorem dX0_gatherAhead_78 : decode cX0_gatherAhead 78 = .ok (.iinc 5 1, 3) := by decide +kernel
theorem dX0_gatherAhead_81 : decode cX0_gatherAhead 81 = .ok (.goto (-78), 3) := by decide +kernel
theorem dX0_gatherAhead_84 : decode cX0_gatherAhead 84 = .ok (.return_, 1) := by decide +kernel
set_option maxRecDepth 20000 in
theorem ggX0_mingle_J7_fill_53178 : GoodIn wsX0_mingle wsJ7_fill_53178 := by
  refine goodIn_sub ?_ gd_J7_fill_53178
  unfold wsJ7_fill_53178
  refine wm_c ⟨(wk_X0_mingle_X0_mingle_r1 _ (wm_4 (wm_2 (wm_1 wm_h)))), ?_⟩
  exact wm_n
set_option maxRecDepth 20000 in
theorem gX0_mingle_J7_fill_53178 : GoodIn wsX0_mingle (va_wsS RX0 71 yJ7_fill_53178 wsJ7_fill_53178) := goodIn_app (goodIn_of _ (by decide +kernel)) ggX0_mingle_J7_fill_53178
set_option maxRecDepth 20000 in
theorem ggX0_mingle_X0_mingleWord : GoodIn wsX0_mingle wsX0_mingleWord := by
  refine goodIn_sub ?_ gd_X0_mingleWord
  unfold wsX0_mingleWord
  refine wm_c ⟨(wk_X0_mingle_X0_mingle_r1 _ (wm_8 (wm_4 wm_h))), ?_⟩
  refine wm_a ⟨?_, ?_⟩
  · refine wm_c ⟨(wk_X0_mingle_X0_mingle_r1 _ (wm_1 wm_h)), ?_⟩
    refine wm_c ⟨(wk_X0_mingle_X0_mingle_r1 _ (wm_2 wm_h)), ?_⟩
    refine wm_c ⟨(wk_X0_mingle_X0_mingle_r1 _ (wm_2 (wm_1 wm_h))), ?_⟩
    refine wm_c ⟨(wk_X0_mingle_X0_mingle_r1 _ (wm_8 (wm_4 (wm_1 wm_h)))), ?_⟩
    refine wm_c ⟨(wk_X0_mingle_X0_mingle_r1 _ (wm_8 (wm_4 (wm_2 wm_h)))), ?_⟩
    refine wm_c ⟨(wk_X0_mingle_X0_mingle_r1 _ (wm_8 (wm_4 (wm_2 (wm_1 wm_h))))), ?_⟩
    refine wm_c ⟨(wk_X0_mingle_X0_mingle_r1 _ (wm_16 wm_h)), ?_⟩
    refine wm_c ⟨(wk_X0_mingle_X0_mingle_r1 _ (wm_16 (wm_1 wm_h))), ?_⟩
    refine wm_c ⟨(wk_X0_mingle_X0_mingle_r1 _ (wm_16 (wm_2 wm_h))), ?_⟩
    refine wm_c ⟨(wk_X0_mingle_X0_mingle_r1 _ (wm_16 (wm_2 (wm_1 wm_h)))), ?_⟩
    refine wm_c ⟨(wk_X0_mingle_X0_mingle_r1 _ (wm_16 (wm_4 wm_h))), ?_⟩
    refine wm_c ⟨(wk_X0_mingle_X0_mingle_r1 _ (wm_8 (wm_2 (wm_1 wm_h)))), ?_⟩
    refine wm_c ⟨(wk_X0_mingle_X0_mingle_r1 _ (wm_16 (wm_4 (wm_1 wm_h)))), ?_⟩
    refine wm_c ⟨(wk_X0_mingle_X0_mingle_r1 _ wm_h), ?_⟩
    refine wm_c ⟨(wk_X0_mingle_X0_mingle_r1 _ (wm_16 (wm_4 (wm_2 wm_h)))), ?_⟩
    refine wm_c ⟨(wk_X0_mingle_X0_mingle_r1 _ (wm_16 (wm_4 (wm_2 (wm_1 wm_h))))), ?_⟩
    refine wm_c ⟨(wk_X0_mingle_X0_mingle_r2 _ wm_h), ?_⟩
    refine wm_c ⟨(wk_X0_mingle_X0_mingle_r2 _ (wm_1 wm_h)), ?_⟩
    refine wm_c ⟨(wk_X0_mingle_X0_mingle_r2 _ (wm_2 wm_h)), ?_⟩
    exact wm_n
  · exact wk_X0_mingle_X00
set_option maxRecDepth 20000 in
theorem gX0_mingle_X0_mingleWord : GoodIn wsX0_mingle (wsV RX0 103 RX0 yX0_mingleWord wsX0_mingleWord) := by
  refine goodIn_app (goodIn_sub ?_ ?_) ggX0_mingle_X0_mingleWord
  · exact wm_c ⟨(wk_X0_mingle_X0_mingle_r1 _ (wm_8 wm_h)), wm_c ⟨(wk_X0_mingle_X0_mingle_r1 _ (wm_8 (wm_1 wm_h))), wm_c ⟨(wk_X0_mingle_X0_mingle_r1 _ (wm_8 (wm_2 wm_h))), wm_c ⟨(wk_X0_mingle_X0_mingle_r1 _ (wm_8 (wm_2 (wm_1 wm_h)))), wm_n⟩⟩⟩⟩
  · decide +kernel
set_option maxRecDepth 20000 in
theorem ggX0_mingle_X0_copy : GoodIn wsX0_mingle wsX0_copy := by
  refine goodIn_sub ?_ gd_X0_copy
  unfold wsX0_copy
  refine wm_c ⟨(wk_X0_mingle_X0_mingle_r2 _ (wm_4 (wm_2 wm_h))), ?_⟩
  refine wm_c ⟨(wk_X0_mingle_X0_mingle_r2 _ (wm_4 (wm_2 (wm_1 wm_h)))), ?_⟩
  refine wm_c ⟨(wk_X0_mingle_X0_mingle_r2 _ (wm_8 wm_h)), ?_⟩
  refine wm_c ⟨(wk_X0_mingle_X0_mingle_r2 _ (wm_8 (wm_1 wm_h))), ?_⟩
  refine wm_c ⟨(wk_X0_mingle_X0_mingle_r2 _ (wm_8 (wm_2 wm_h))), ?_⟩
  exact wm_n
set_option maxRecDepth 20000 in
theorem gX0_mingle_X0_copy : GoodIn wsX0_mingle (wsV RX0 93 RX0 yX0_copy wsX0_copy) := by
  refine goodIn_app (goodIn_sub ?_ ?_) ggX0_mingle_X0_copy
  · exact wm_c ⟨(wk_X0_mingle_X0_mingle_r2 _ (wm_2 (wm_1 wm_h))), wm_c ⟨(wk_X0_mingle_X0_mingle_r2 _ (wm_4 wm_h)), wm_c ⟨(wk_X0_mingle_X0_mingle_r2 _ (wm_4 (wm_1 wm_h))), wm_c ⟨(wk_X0_mingle_X0_mingle_r1 _ (wm_8 (wm_2 (wm_1 wm_h)))), wm_n⟩⟩⟩⟩
  · decide +kernel
theorem dX0_mingle_0 : decode cX0_mingle 0 = .ok (.aload_n 0, 1) := by decide +kernel
theorem dX0_mingle_1 : decode cX0_mingle 1 = .ok (.getfield 53, 3) := by decide +kernel
theorem dX0_mingle_4 : decode cX0_mingle 4 = .ok (.iconst 0, 1) := by decide +kernel
theorem dX0_mingle_5 : decode cX0_mingle 5 = .ok (.invokestatic 71, 3) := by decide +kernel
theorem dX0_mingle_8 : decode cX0_mingle 8 = .ok (.iconst 0, 1) := by decide +kernel
theorem dX0_mingle_9 : decode cX0_mingle 9 = .ok (.istore 4, 2) := by decide +kernel
theorem dX0_mingle_11 : decode cX0_mingle 11 = .ok (.iload 4, 2) := by decide +kernel
theorem dX0_mingle_13 : decode cX0_mingle 13 = .ok (.aload_n 0, 1) := by decide +kernel
theorem dX0_mingle_14 : decode cX0_mingle 14 = .ok (.getfield 21, 3) := by decide +kernel
theorem dX0_mingle_17 : decode cX0_mingle 17 = .ok (.if_icmp .gt 60, 3) := by decide +kernel
theorem dX0_mingle_20 : decode cX0_mingle 20 = .ok (.iconst 0, 1) := by decide +kernel
theorem dX0_mingle_21 : decode cX0_mingle 21 = .ok (.istore 5, 2) := by decide +kernel
theorem dX0_mingle_23 : decode cX0_mingle 23 = .ok (.iload 5, 2) := by decide +kernel
theorem dX0_mingle_25 : decode cX0_mingle 25 = .ok (.aload_n 0, 1) := by decide +kernel
theorem dX0_mingle_26 : decode cX0_mingle 26 = .ok (.getfield 30, 3) := by decide +kernel
theorem dX0_mingle_29 : decode cX0_mingle 29 = .ok (.iload 4, 2) := by decide +kernel
theorem dX0_mingle_31 : decode cX0_mingle 31 = .ok (.iaload, 1) := by decide +kernel
theorem dX0_mingle_32 : decode cX0_mingle 32 = .ok (.if_icmp .ge 39, 3) := by decide +kernel
theorem dX0_mingle_35 : decode cX0_mingle 35 = .ok (.aload_n 2, 1) := by decide +kernel
theorem dX0_mingle_36 : decode cX0_mingle 36 = .ok (.aload_n 0, 1) := by decide +kernel
theorem dX0_mingle_37 : decode cX0_mingle 37 = .ok (.getfield 34, 3) := by decide +kernel
theorem dX0_mingle_40 : decode cX0_mingle 40 = .ok (.iload 4, 2) := by decide +kernel
theorem dX0_mingle_42 : decode cX0_mingle 42 = .ok (.iaload, 1) := by decide +kernel
theorem dX0_mingle_43 : decode cX0_mingle 43 = .ok (.iload 5, 2) := by decide +kernel
theorem dX0_mingle_45 : decode cX0_mingle 45 = .ok (.iadd, 1) := by decide +kernel
theorem dX0_mingle_46 : decode cX0_mingle 46 = .ok (.iaload, 1) := by decide +kernel
theorem dX0_mingle_47 : decode cX0_mingle 47 = .ok (.istore 6, 2) := by decide +kernel
theorem dX0_mingle_49 : decode cX0_mingle 49 = .ok (.iload 6, 2) := by decide +kernel
theorem dX0_mingle_51 : decode cX0_mingle 51 = .ok (.ifCond .eq 14, 3) := by decide +kernel
theorem dX0_mingle_54 : decode cX0_mingle 54 = .ok (.aload_n 0, 1) := by decide +kernel
theorem dX0_mingle_55 : decode cX0_mingle 55 = .ok (.iload 4, 2) := by decide +kernel
theorem dX0_mingle_57 : decode cX0_mingle 57 = .ok (.iload 5, 2) := by decide +kernel
theorem dX0_mingle_59 : decode cX0_mingle 59 = .ok (.iload 6, 2) := by decide +kernel
theorem dX0_mingle_61 : decode cX0_mingle 61 = .ok (.aload_n 3, 1) := by decide +kernel
theorem dX0_mingle_62 : decode cX0_mingle 62 = .ok (.invokevirtual 103, 3) := by decide +kernel
theorem dX0_mingle_65 : decode cX0_mingle 65 = .ok (.iinc 5 1, 3) := by decide +kernel
theorem dX0_mingle_68 : decode cX0_mingle 68 = .ok (.goto (-45), 3) := by decide +kernel
theorem dX0_mingle_71 : decode cX0_mingle 71 = .ok (.iinc 4 1, 3) := by decide +kernel
theorem dX0_mingle_74 : decode cX0_mingle 74 = .ok (.goto (-63), 3) := by decide +kernel
theorem dX0_mingle_77 : decode cX0_mingle 77 = .ok (.aload_n 0, 1) := by decide +kernel
theorem dX0_mingle_78 : decode cX0_mingle 78 = .ok (.aload_n 1, 1) := by decide +kernel
theorem dX0_mingle_79 : decode cX0_mingle 79 = .ok (.aload_n 0, 1) := by decide +kernel
theorem dX0_mingle_80 : decode cX0_mingle 80 = .ok (.getfield 53, 3) := by decide +kernel
theorem dX0_mingle_83 : decode cX0_mingle 83 = .ok (.invokevirtual 93, 3) := by decide +kernel
theorem dX0_mingle_86 : decode cX0_mingle 86 = .ok (.return_, 1) := by decide +kernel
set_option maxRecDepth 20000 in
theorem ggX0_mingleWord_X3_product : GoodIn wsX0_mingleWord wsX3_product := by
  refine goodIn_sub ?_ gd_X3_product
  unfold wsX3_product
  refine wm_c ⟨(wm_1 (wm_l (wm_4 (wm_2 wm_h)))), ?_⟩
  refine wm_c ⟨(wm_1 (wm_l (wm_4 (wm_2 (wm_1 wm_h))))), ?_⟩
  exact wm_n
set_option maxRecDepth 20000 in
theorem gX0_mingleWord_X3_product : GoodIn wsX0_mingleWord (va_wsS RX0 81 yX3_product wsX3_product) := goodIn_app (goodIn_of _ (by decide +kernel)) ggX0_mingleWord_X3_product
set_option maxRecDepth 20000 in
theorem ggX0_mingleWord_X0_interleave : GoodIn wsX0_mingleWord wsX0_interleave := by
  refine goodIn_sub ?_ gd_X0_interleave
  unfold wsX0_interleave
  refine wm_c ⟨(wm_1 (wm_l (wm_8 (wm_4 wm_h)))), ?_⟩
  refine wm_a ⟨?_, ?_⟩
  · refine wm_c ⟨(wm_1 (wm_l (wm_2 wm_h))), ?_⟩
    refine wm_c ⟨(wm_1 (wm_l (wm_1 wm_h))), ?_⟩
    refine wm_c ⟨(wm_1 (wm_l (wm_8 (wm_4 (wm_1 wm_h))))), ?_⟩
    refine wm_c ⟨(wm_1 (wm_l (wm_8 (wm_4 (wm_2 wm_h))))), ?_⟩
    refine wm_c ⟨(wm_1 (wm_l (wm_8 (wm_4 (wm_2 (wm_1 wm_h)))))), ?_⟩
    refine wm_c ⟨(wm_1 (wm_l (wm_16 wm_h))), ?_⟩
    refine wm_c ⟨(wm_1 (wm_l (wm_4 (wm_1 wm_h)))), ?_⟩
    refine wm_c ⟨(wm_1 (wm_l (wm_16 (wm_1 wm_h)))), ?_⟩
    refine wm_c ⟨(wm_1 (wm_l (wm_16 (wm_2 wm_h)))), ?_⟩
    refine wm_c ⟨(wm_1 (wm_l (wm_8 wm_h))), ?_⟩
    refine wm_c ⟨(wm_1 (wm_l (wm_8 (wm_1 wm_h)))), ?_⟩
    refine wm_c ⟨(wm_1 (wm_l (wm_8 (wm_2 wm_h)))), ?_⟩
    refine wm_c ⟨(wm_1 (wm_l (wm_8 (wm_2 (wm_1 wm_h))))), ?_⟩
    exact wm_n
  · exact wk_X0_mingleWord_X00
set_option maxRecDepth 20000 in
theorem gX0_mingleWord_X0_interleave : GoodIn wsX0_mingleWord (wsV RX0 107 RX0 yX0_interleave wsX0_interleave) := by
  refine goodIn_app (goodIn_sub ?_ ?_) ggX0_mingleWord_X0_interleave
  · exact wm_c ⟨(wm_1 (wm_l (wm_8 wm_h))), wm_c ⟨(wm_1 (wm_l (wm_8 (wm_1 wm_h)))), wm_c ⟨(wm_1 (wm_l (wm_8 (wm_2 wm_h)))), wm_c ⟨(wm_1 (wm_l (wm_8 (wm_2 (wm_1 wm_h))))), wm_n⟩⟩⟩⟩
  · decide +kernel
theorem dX0_mingleWord_0 : decode cX0_mingleWord 0 = .ok (.iconst 0, 1) := by decide +kernel
theorem dX0_mingleWord_1 : decode cX0_mingleWord 1 = .ok (.istore 5, 2) := by decide +kernel
theorem dX0_mingleWord_3 : decode cX0_mingleWord 3 = .ok (.iload 5, 2) := by decide +kernel
theorem dX0_mingleWord_5 : decode cX0_mingleWord 5 = .ok (.aload_n 0, 1) := by decide +kernel
theorem dX0_mingleWord_6 : decode cX0_mingleWord 6 = .ok (.getfield 21, 3) := by decide +kernel
theorem dX0_mingleWord_9 : decode cX0_mingleWord 9 = .ok (.iload_n 1, 1) := by decide +kernel
theorem dX0_mingleWord_10 : decode cX0_mingleWord 10 = .ok (.isub, 1) := by decide +kernel
theorem dX0_mingleWord_11 : decode cX0_mingleWord 11 = .ok (.if_icmp .gt 68, 3) := by decide +kernel
theorem dX0_mingleWord_14 : decode cX0_mingleWord 14 = .ok (.iconst 0, 1) := by decide +kernel
theorem dX0_mingleWord_15 : decode cX0_mingleWord 15 = .ok (.istore 6, 2) := by decide +kernel
theorem dX0_mingleWord_17 : decode cX0_mingleWord 17 = .ok (.iload 6, 2) := by decide +kernel
theorem dX0_mingleWord_19 : decode cX0_mingleWord 19 = .ok (.aload_n 0, 1) := by decide +kernel
theorem dX0_mingleWord_20 : decode cX0_mingleWord 20 = .ok (.getfield 30, 3) := by decide +kernel
theorem dX0_mingleWord_23 : decode cX0_mingleWord 23 = .ok (.iload 5, 2) := by decide +kernel
theorem dX0_mingleWord_25 : decode cX0_mingleWord 25 = .ok (.iaload, 1) := by decide +kernel
theorem dX0_mingleWord_26 : decode cX0_mingleWord 26 = .ok (.if_icmp .ge 47, 3) := by decide +kernel
theorem dX0_mingleWord_29 : decode cX0_mingleWord 29 = .ok (.aload 4, 2) := by decide +kernel
theorem dX0_mingleWord_31 : decode cX0_mingleWord 31 = .ok (.aload_n 0, 1) := by decide +kernel
theorem dX0_mingleWord_32 : decode cX0_mingleWord 32 = .ok (.getfield 34, 3) := by decide +kernel
theorem dX0_mingleWord_35 : decode cX0_mingleWord 35 = .ok (.iload 5, 2) := by decide +kernel
theorem dX0_mingleWord_37 : decode cX0_mingleWord 37 = .ok (.iaload, 1) := by decide +kernel
theorem dX0_mingleWord_38 : decode cX0_mingleWord 38 = .ok (.iload 6, 2) := by decide +kernel
theorem dX0_mingleWord_40 : decode cX0_mingleWord 40 = .ok (.iadd, 1) := by decide +kernel
theorem dX0_mingleWord_41 : decode cX0_mingleWord 41 = .ok (.iaload, 1) := by decide +kernel
theorem dX0_mingleWord_42 : decode cX0_mingleWord 42 = .ok (.istore 7, 2) := by decide +kernel
theorem dX0_mingleWord_44 : decode cX0_mingleWord 44 = .ok (.iload 7, 2) := by decide +kernel
theorem dX0_mingleWord_46 : decode cX0_mingleWord 46 = .ok (.ifCond .eq 21, 3) := by decide +kernel
theorem dX0_mingleWord_49 : decode cX0_mingleWord 49 = .ok (.aload_n 0, 1) := by decide +kernel
theorem dX0_mingleWord_50 : decode cX0_mingleWord 50 = .ok (.iload_n 1, 1) := by decide +kernel
theorem dX0_mingleWord_51 : decode cX0_mingleWord 51 = .ok (.iload_n 2, 1) := by decide +kernel
theorem dX0_mingleWord_52 : decode cX0_mingleWord 52 = .ok (.iload 5, 2) := by decide +kernel
theorem dX0_mingleWord_54 : decode cX0_mingleWord 54 = .ok (.iload 6, 2) := by decide +kernel
theorem dX0_mingleWord_56 : decode cX0_mingleWord 56 = .ok (.iconst 0, 1) := by decide +kernel
theorem dX0_mingleWord_57 : decode cX0_mingleWord 57 = .ok (.iconst 0, 1) := by decide +kernel
theorem dX0_mingleWord_58 : decode cX0_mingleWord 58 = .ok (.iload_n 3, 1) := by decide +kernel
theorem dX0_mingleWord_59 : decode cX0_mingleWord 59 = .ok (.iload 7, 2) := by decide +kernel
theorem dX0_mingleWord_61 : decode cX0_mingleWord 61 = .ok (.invokestatic 81, 3) := by decide +kernel
theorem dX0_mingleWord_64 : decode cX0_mingleWord 64 = .ok (.invokevirtual 107, 3) := by decide +kernel
theorem dX0_mingleWord_67 : decode cX0_mingleWord 67 = .ok (.iinc 6 1, 3) := by decide +kernel
theorem dX0_mingleWord_70 : decode cX0_mingleWord 70 = .ok (.goto (-53), 3) := by decide +kernel
theorem dX0_mingleWord_73 : decode cX0_mingleWord 73 = .ok (.iinc 5 1, 3) := by decide +kernel
theorem dX0_mingleWord_76 : decode cX0_mingleWord 76 = .ok (.goto (-73), 3) := by decide +kernel
theorem dX0_mingleWord_79 : decode cX0_mingleWord 79 = .ok (.return_, 1) := by decide +kernel
set_option maxRecDepth 20000 in
theorem ggX0_interleave_X3_plus : GoodIn wsX0_interleave wsX3_plus := by
  refine goodIn_sub ?_ gd_X3_plus
  unfold wsX3_plus
  refine wm_c ⟨(wm_1 (wm_l (wm_4 (wm_2 (wm_1 wm_h))))), ?_⟩
  refine wm_c ⟨(wm_1 (wm_l (wm_8 wm_h))), ?_⟩
  exact wm_n
set_option maxRecDepth 20000 in
theorem gX0_interleave_X3_plus : GoodIn wsX0_interleave (va_wsS RX0 100 yX3_plus wsX3_plus) := goodIn_app (goodIn_of _ (by decide +kernel)) ggX0_interleave_X3_plus
set_option maxRecDepth 20000 in
theorem ggX0_interleave_X0_interleave : GoodIn wsX0_interleave wsX0_interleave := by
  refine goodIn_sub ?_ gd_X0_interleave
  unfold wsX0_interleave
  refine wm_c ⟨wm_h, ?_⟩
  refine wm_a ⟨?_, ?_⟩
  · refine wm_c ⟨(wm_1 (wm_l wm_h)), ?_⟩
    refine wm_c ⟨(wm_1 (wm_l (wm_1 wm_h))), ?_⟩
    refine wm_c ⟨(wm_1 (wm_l (wm_2 wm_h))), ?_⟩
    refine wm_c ⟨(wm_1 (wm_l (wm_2 (wm_1 wm_h)))), ?_⟩
    refine wm_c ⟨(wm_1 (wm_l (wm_4 wm_h))), ?_⟩
    refine wm_c ⟨(wm_1 (wm_l (wm_4 (wm_1 wm_h)))), ?_⟩
    refine wm_c ⟨(wm_1 (wm_l (wm_4 (wm_2 wm_h)))), ?_⟩
    refine wm_c ⟨(wm_1 (wm_l (wm_4 (wm_2 (wm_1 wm_h))))), ?_⟩
    refine wm_c ⟨(wm_1 (wm_l (wm_8 wm_h))), ?_⟩
    refine wm_c ⟨(wm_1 (wm_l (wm_8 (wm_1 wm_h)))), ?_⟩
    refine wm_c ⟨(wm_1 (wm_l (wm_8 (wm_2 wm_h)))), ?_⟩
    refine wm_c ⟨(wm_1 (wm_l (wm_8 (wm_2 (wm_1 wm_h))))), ?_⟩
    refine wm_c ⟨(wm_1 (wm_l (wm_8 (wm_4 wm_h)))), ?_⟩
    exact wm_n
  · exact wk_X0_interleave_X00
set_option maxRecDepth 20000 in
theorem gX0_interleave_X0_interleave : GoodIn wsX0_interleave (wsV RX0 107 RX0 yX0_interleave wsX0_interleave) := by
  refine goodIn_app (goodIn_sub ?_ ?_) ggX0_interleave_X0_interleave
  · exact wm_c ⟨(wm_1 (wm_l (wm_8 (wm_1 wm_h)))), wm_c ⟨(wm_1 (wm_l (wm_8 (wm_2 wm_h)))), wm_c ⟨(wm_1 (wm_l (wm_8 (wm_2 (wm_1 wm_h))))), wm_c ⟨(wm_1 (wm_l (wm_8 (wm_4 wm_h)))), wm_n⟩⟩⟩⟩
  · decide +kernel
theorem dX0_interleave_0 : decode cX0_interleave 0 = .ok (.iload_n 1, 1) := by decide +kernel
theorem dX0_interleave_1 : decode cX0_interleave 1 = .ok (.ifCond .le 7, 3) := by decide +kernel
theorem dX0_interleave_4 : decode cX0_interleave 4 = .ok (.iload_n 3, 1) := by decide +kernel
theorem dX0_interleave_5 : decode cX0_interleave 5 = .ok (.ifCond .gt 62, 3) := by decide +kernel
theorem dX0_interleave_8 : decode cX0_interleave 8 = .ok (.iload_n 1, 1) := by decide +kernel
theorem dX0_interleave_9 : decode cX0_interleave 9 = .ok (.ifCond .gt 8, 3) := by decide +kernel
theorem dX0_interleave_12 : decode cX0_interleave 12 = .ok (.iload 4, 2) := by decide +kernel
theorem dX0_interleave_14 : decode cX0_interleave 14 = .ok (.goto 4, 3) := by decide +kernel
theorem dX0_interleave_17 : decode cX0_interleave 17 = .ok (.iload_n 2, 1) := by decide +kernel
theorem dX0_interleave_18 : decode cX0_interleave 18 = .ok (.istore 8, 2) := by decide +kernel
theorem dX0_interleave_20 : decode cX0_interleave 20 = .ok (.aload_n 0, 1) := by decide +kernel
theorem dX0_interleave_21 : decode cX0_interleave 21 = .ok (.getfield 34, 3) := by decide +kernel
theorem dX0_interleave_24 : decode cX0_interleave 24 = .ok (.iload_n 1, 1) := by decide +kernel
theorem dX0_interleave_25 : decode cX0_interleave 25 = .ok (.iload_n 3, 1) := by decide +kernel
theorem dX0_interleave_26 : decode cX0_interleave 26 = .ok (.iadd, 1) := by decide +kernel
theorem dX0_interleave_27 : decode cX0_interleave 27 = .ok (.iload 5, 2) := by decide +kernel
theorem dX0_interleave_29 : decode cX0_interleave 29 = .ok (.iadd, 1) := by decide +kernel
theorem dX0_interleave_30 : decode cX0_interleave 30 = .ok (.iaload, 1) := by decide +kernel
theorem dX0_interleave_31 : decode cX0_interleave 31 = .ok (.iload 8, 2) := by decide +kernel
theorem dX0_interleave_33 : decode cX0_interleave 33 = .ok (.aload_n 0, 1) := by decide +kernel
theorem dX0_interleave_34 : decode cX0_interleave 34 = .ok (.getfield 30, 3) := by decide +kernel
theorem dX0_interleave_37 : decode cX0_interleave 37 = .ok (.iload 5, 2) := by decide +kernel
theorem dX0_interleave_39 : decode cX0_interleave 39 = .ok (.iaload, 1) := by decide +kernel
theorem dX0_interleave_40 : decode cX0_interleave 40 = .ok (.imul, 1) := by decide +kernel
theorem dX0_interleave_41 : decode cX0_interleave 41 = .ok (.iadd, 1) := by decide +kernel
theorem dX0_interleave_42 : decode cX0_interleave 42 = .ok (.iload 6, 2) := by decide +kernel
theorem dX0_interleave_44 : decode cX0_interleave 44 = .ok (.iadd, 1) := by decide +kernel
theorem dX0_interleave_45 : decode cX0_interleave 45 = .ok (.istore 9, 2) := by decide +kernel
theorem dX0_interleave_47 : decode cX0_interleave 47 = .ok (.aload_n 0, 1) := by decide +kernel
theorem dX0_interleave_48 : decode cX0_interleave 48 = .ok (.getfield 53, 3) := by decide +kernel
theorem dX0_interleave_51 : decode cX0_interleave 51 = .ok (.iload 9, 2) := by decide +kernel
theorem dX0_interleave_53 : decode cX0_interleave 53 = .ok (.aload_n 0, 1) := by decide +kernel
theorem dX0_interleave_54 : decode cX0_interleave 54 = .ok (.getfield 53, 3) := by decide +kernel
theorem dX0_interleave_57 : decode cX0_interleave 57 = .ok (.iload 9, 2) := by decide +kernel
theorem dX0_interleave_59 : decode cX0_interleave 59 = .ok (.iaload, 1) := by decide +kernel
theorem dX0_interleave_60 : decode cX0_interleave 60 = .ok (.iload 7, 2) := by decide +kernel
theorem dX0_interleave_62 : decode cX0_interleave 62 = .ok (.invokestatic 100, 3) := by decide +kernel
theorem dX0_interleave_65 : decode cX0_interleave 65 = .ok (.iastore, 1) := by decide +kernel
theorem dX0_interleave_66 : decode cX0_interleave 66 = .ok (.return_, 1) := by decide +kernel
theorem dX0_interleave_67 : decode cX0_interleave 67 = .ok (.iload 6, 2) := by decide +kernel
theorem dX0_interleave_69 : decode cX0_interleave 69 = .ok (.iload_n 2, 1) := by decide +kernel
theorem dX0_interleave_70 : decode cX0_interleave 70 = .ok (.aload_n 0, 1) := by decide +kernel
theorem dX0_interleave_71 : decode cX0_interleave 71 = .ok (.getfield 25, 3) := by decide +kernel
theorem dX0_interleave_74 : decode cX0_interleave 74 = .ok (.irem, 1) := by decide +kernel
theorem dX0_interleave_75 : decode cX0_interleave 75 = .ok (.aload_n 0, 1) := by decide +kernel
theorem dX0_interleave_76 : decode cX0_interleave 76 = .ok (.getfield 30, 3) := by decide +kernel
theorem dX0_interleave_79 : decode cX0_interleave 79 = .ok (.iload 5, 2) := by decide +kernel
theorem dX0_interleave_81 : decode cX0_interleave 81 = .ok (.iaload, 1) := by decide +kernel
theorem dX0_interleave_82 : decode cX0_interleave 82 = .ok (.imul, 1) := by decide +kernel
theorem dX0_interleave_83 : decode cX0_interleave 83 = .ok (.iadd, 1) := by decide +kernel
theorem dX0_interleave_84 : decode cX0_interleave 84 = .ok (.istore 8, 2) := by decide +kernel
theorem dX0_interleave_86 : decode cX0_interleave 86 = .ok (.iload 6, 2) := by decide +kernel
theorem dX0_interleave_88 : decode cX0_interleave 88 = .ok (.iload 4, 2) := by decide +kernel
theorem dX0_interleave_90 : decode cX0_interleave 90 = .ok (.aload_n 0, 1) := by decide +kernel
theorem dX0_interleave_91 : decode cX0_interleave 91 = .ok (.getfield 25, 3) := by decide +kernel
theorem dX0_interleave_94 : decode cX0_interleave 94 = .ok (.irem, 1) := by decide +kernel
theorem dX0_interleave_95 : decode cX0_interleave 95 = .ok (.aload_n 0, 1) := by decide +kernel
theorem dX0_interleave_96 : decode cX0_interleave 96 = .ok (.getfield 30, 3) := by decide +kernel
theorem dX0_interleave_99 : decode cX0_interleave 99 = .ok (.iload 5, 2) := by decide +kernel
theorem dX0_interleave_101 : decode cX0_interleave 101 = .ok (.iaload, 1) := by decide +kernel
theorem dX0_interleave_102 : decode cX0_interleave 102 = .ok (.imul, 1) := by decide +kernel
theorem dX0_interleave_103 : decode cX0_interleave 103 = .ok (.iadd, 1) := by decide +kernel
theorem dX0_interleave_104 : decode cX0_interleave 104 = .ok (.istore 9, 2) := by decide +kernel
theorem dX0_interleave_106 : decode cX0_interleave 106 = .ok (.aload_n 0, 1) := by decide +kernel
theorem dX0_interleave_107 : decode cX0_interleave 107 = .ok (.iload_n 1, 1) := by decide +kernel
theorem dX0_interleave_108 : decode cX0_interleave 108 = .ok (.iconst 1, 1) := by decide +kernel
theorem dX0_interleave_109 : decode cX0_interleave 109 = .ok (.isub, 1) := by decide +kernel
theorem dX0_interleave_110 : decode cX0_interleave 110 = .ok (.iload_n 2, 1) := by decide +kernel
theorem dX0_interleave_111 : decode cX0_interleave 111 = .ok (.aload_n 0, 1) := by decide +kernel
theorem dX0_interleave_112 : decode cX0_interleave 112 = .ok (.getfield 25, 3) := by decide +kernel
theorem dX0_interleave_115 : decode cX0_interleave 115 = .ok (.idiv, 1) := by decide +kernel
theorem dX0_interleave_116 : decode cX0_interleave 116 = .ok (.iload_n 3, 1) := by decide +kernel
theorem dX0_interleave_117 : decode cX0_interleave 117 = .ok (.iload 4, 2) := by decide +kernel
theorem dX0_interleave_119 : decode cX0_interleave 119 = .ok (.iload 5, 2) := by decide +kernel
theorem dX0_interleave_121 : decode cX0_interleave 121 = .ok (.iconst 1, 1) := by decide +kernel
theorem dX0_interleave_122 : decode cX0_interleave 122 = .ok (.iadd, 1) := by decide +kernel
theorem dX0_interleave_123 : decode cX0_interleave 123 = .ok (.iload 8, 2) := by decide +kernel
theorem dX0_interleave_125 : decode cX0_interleave 125 = .ok (.iload 7, 2) := by decide +kernel
theorem dX0_interleave_127 : decode cX0_interleave 127 = .ok (.invokevirtual 107, 3) := by decide +kernel
theorem dX0_interleave_130 : decode cX0_interleave 130 = .ok (.aload_n 0, 1) := by decide +kernel
theorem dX0_interleave_131 : decode cX0_interleave 131 = .ok (.iload_n 1, 1) := by decide +kernel
theorem dX0_interleave_132 : decode cX0_interleave 132 = .ok (.iload_n 2, 1) := by decide +kernel
theorem dX0_interleave_133 : decode cX0_interleave 133 = .ok (.iload_n 3, 1) := by decide +kernel
theorem dX0_interleave_134 : decode cX0_interleave 134 = .ok (.iconst 1, 1) := by decide +kernel
theorem dX0_interleave_135 : decode cX0_interleave 135 = .ok (.isub, 1) := by decide +kernel
theorem dX0_interleave_136 : decode cX0_interleave 136 = .ok (.iload 4, 2) := by decide +kernel
theorem dX0_interleave_138 : decode cX0_interleave 138 = .ok (.aload_n 0, 1) := by decide +kernel
theorem dX0_interleave_139 : decode cX0_interleave 139 = .ok (.getfield 25, 3) := by decide +kernel
theorem dX0_interleave_142 : decode cX0_interleave 142 = .ok (.idiv, 1) := by decide +kernel
theorem dX0_interleave_143 : decode cX0_interleave 143 = .ok (.iload 5, 2) := by decide +kernel
theorem dX0_interleave_145 : decode cX0_interleave 145 = .ok (.iconst 1, 1) := by decide +kernel
theorem dX0_interleave_146 : decode cX0_interleave 146 = .ok (.iadd, 1) := by decide +kernel
theorem dX0_interleave_147 : decode cX0_interleave 147 = .ok (.iload 9, 2) := by decide +kernel
theorem dX0_interleave_149 : decode cX0_interleave 149 = .ok (.iload 7, 2) := by decide +kernel
theorem dX0_interleave_151 : decode cX0_interleave 151 = .ok (.invokevirtual 107, 3) := by decide +kernel
theorem dX0_interleave_154 : decode cX0_interleave 154 = .ok (.return_, 1) := by decide +kernel
set_option maxRecDepth 20000 in
theorem ggX0_turnAbout_X6_backward : GoodIn wsX0_turnAbout wsX6_backward := by
  refine goodIn_sub ?_ gd_X6_backward
  unfold wsX6_backward
  refine wm_c ⟨(wk_X0_turnAbout_X0_turnAbout_r1 _ (wm_8 (wm_1 wm_h))), ?_⟩
  refine wm_a ⟨?_, ?_⟩
  · refine wm_c ⟨(wk_X0_turnAbout_X0_turnAbout_r1 _ (wm_8 (wm_2 wm_h))), ?_⟩
    exact wm_n
  · exact wk_X0_turnAbout_X60
set_option maxRecDepth 20000 in
theorem gX0_turnAbout_X6_backward : GoodIn wsX0_turnAbout (wsV RX0 111 RX6 yX6_backward wsX6_backward) := by
  refine goodIn_app (goodIn_sub ?_ ?_) ggX0_turnAbout_X6_backward
  · exact wm_c ⟨(wk_X0_turnAbout_X0_turnAbout_r1 _ (wm_4 (wm_1 wm_h))), wm_c ⟨(wk_X0_turnAbout_X0_turnAbout_r1 _ (wm_4 (wm_2 wm_h))), wm_c ⟨(wk_X0_turnAbout_X0_turnAbout_r1 _ (wm_4 (wm_2 (wm_1 wm_h)))), wm_c ⟨(wk_X0_turnAbout_X0_turnAbout_r1 _ (wm_8 wm_h)), wm_n⟩⟩⟩⟩
  · decide +kernel
set_option maxRecDepth 20000 in
theorem ggX0_turnAbout_X3_minus : GoodIn wsX0_turnAbout wsX3_minus := by
  refine goodIn_sub ?_ gd_X3_minus
  unfold wsX3_minus
  refine wm_c ⟨(wk_X0_turnAbout_X0_turnAbout_r1 _ (wm_8 (wm_4 (wm_2 wm_h)))), ?_⟩
  refine wm_c ⟨(wk_X0_turnAbout_X0_turnAbout_r1 _ (wm_8 (wm_4 (wm_2 (wm_1 wm_h))))), ?_⟩
  exact wm_n
set_option maxRecDepth 20000 in
theorem gX0_turnAbout_X3_minus : GoodIn wsX0_turnAbout (va_wsS RX0 114 yX3_minus wsX3_minus) := goodIn_app (goodIn_of _ (by decide +kernel)) ggX0_turnAbout_X3_minus
set_option maxRecDepth 20000 in
theorem ggX0_turnAbout_X0_copy : GoodIn wsX0_turnAbout wsX0_copy := by
  refine goodIn_sub ?_ gd_X0_copy
  unfold wsX0_copy
  refine wm_c ⟨(wk_X0_turnAbout_X0_turnAbout_r1 _ (wm_16 (wm_4 wm_h))), ?_⟩
  refine wm_c ⟨(wk_X0_turnAbout_X0_turnAbout_r1 _ (wm_16 (wm_4 (wm_1 wm_h)))), ?_⟩
  refine wm_c ⟨(wk_X0_turnAbout_X0_turnAbout_r1 _ (wm_16 (wm_4 (wm_2 wm_h)))), ?_⟩
  refine wm_c ⟨(wk_X0_turnAbout_X0_turnAbout_r1 _ (wm_16 (wm_4 (wm_2 (wm_1 wm_h))))), ?_⟩
  refine wm_c ⟨(wk_X0_turnAbout_X0_turnAbout_r2 _ wm_h), ?_⟩
  exact wm_n
set_option maxRecDepth 20000 in
theorem gX0_turnAbout_X0_copy : GoodIn wsX0_turnAbout (wsV RX0 93 RX0 yX0_copy wsX0_copy) := by
  refine goodIn_app (goodIn_sub ?_ ?_) ggX0_turnAbout_X0_copy
  · exact wm_c ⟨(wk_X0_turnAbout_X0_turnAbout_r1 _ (wm_16 wm_h)), wm_c ⟨(wk_X0_turnAbout_X0_turnAbout_r1 _ (wm_16 (wm_1 wm_h))), wm_c ⟨(wk_X0_turnAbout_X0_turnAbout_r1 _ (wm_16 (wm_2 wm_h))), wm_c ⟨(wk_X0_turnAbout_X0_turnAbout_r1 _ (wm_16 (wm_2 (wm_1 wm_h)))), wm_n⟩⟩⟩⟩
  · decide +kernel
theorem dX0_turnAbout_0 : decode cX0_turnAbout 0 = .ok (.iconst 0, 1) := by decide +kernel
theorem dX0_turnAbout_1 : decode cX0_turnAbout 1 = .ok (.istore_n 3, 1) := by decide +kernel
theorem dX0_turnAbout_2 : decode cX0_turnAbout 2 = .ok (.iload_n 3, 1) := by decide +kernel
theorem dX0_turnAbout_3 : decode cX0_turnAbout 3 = .ok (.aload_n 0, 1) := by decide +kernel
theorem dX0_turnAbout_4 : decode cX0_turnAbout 4 = .ok (.getfield 21, 3) := by decide +kernel
theorem dX0_turnAbout_7 : decode cX0_turnAbout 7 = .ok (.if_icmp .gt 85, 3) := by decide +kernel
theorem dX0_turnAbout_10 : decode cX0_turnAbout 10 = .ok (.iconst 0, 1) := by decide +kernel
theorem dX0_turnAbout_11 : decode cX0_turnAbout 11 = .ok (.istore 4, 2) := by decide +kernel
theorem dX0_turnAbout_13 : decode cX0_turnAbout 13 = .ok (.iload 4, 2) := by decide +kernel
theorem dX0_turnAbout_15 : decode cX0_turnAbout 15 = .ok (.aload_n 0, 1) := by decide +kernel
theorem dX0_turnAbout_16 : decode cX0_turnAbout 16 = .ok (.getfield 30, 3) := by decide +kernel
theorem dX0_turnAbout_19 : decode cX0_turnAbout 19 = .ok (.iload_n 3, 1) := by decide +kernel
theorem dX0_turnAbout_20 : decode cX0_turnAbout 20 = .ok (.iaload, 1) := by decide +kernel
theorem dX0_turnAbout_21 : decode cX0_turnAbout 21 = .ok (.if_icmp .ge 65, 3) := by decide +kernel
theorem dX0_turnAbout_24 : decode cX0_turnAbout 24 = .ok (.aload_n 2, 1) := by decide +kernel
theorem dX0_turnAbout_25 : decode cX0_turnAbout 25 = .ok (.aload_n 0, 1) := by decide +kernel
theorem dX0_turnAbout_26 : decode cX0_turnAbout 26 = .ok (.getfield 34, 3) := by decide +kernel
theorem dX0_turnAbout_29 : decode cX0_turnAbout 29 = .ok (.iload_n 3, 1) := by decide +kernel
theorem dX0_turnAbout_30 : decode cX0_turnAbout 30 = .ok (.iaload, 1) := by decide +kernel
theorem dX0_turnAbout_31 : decode cX0_turnAbout 31 = .ok (.iload 4, 2) := by decide +kernel
theorem dX0_turnAbout_33 : decode cX0_turnAbout 33 = .ok (.iadd, 1) := by decide +kernel
theorem dX0_turnAbout_34 : decode cX0_turnAbout 34 = .ok (.iaload, 1) := by decide +kernel
theorem dX0_turnAbout_35 : decode cX0_turnAbout 35 = .ok (.istore 5, 2) := by decide +kernel
theorem dX0_turnAbout_37 : decode cX0_turnAbout 37 = .ok (.aload_n 0, 1) := by decide +kernel
theorem dX0_turnAbout_38 : decode cX0_turnAbout 38 = .ok (.getfield 34, 3) := by decide +kernel
theorem dX0_turnAbout_41 : decode cX0_turnAbout 41 = .ok (.iload_n 3, 1) := by decide +kernel
theorem dX0_turnAbout_42 : decode cX0_turnAbout 42 = .ok (.iaload, 1) := by decide +kernel
theorem dX0_turnAbout_43 : decode cX0_turnAbout 43 = .ok (.aload_n 0, 1) := by decide +kernel
theorem dX0_turnAbout_44 : decode cX0_turnAbout 44 = .ok (.getfield 9, 3) := by decide +kernel
theorem dX0_turnAbout_47 : decode cX0_turnAbout 47 = .ok (.iload 4, 2) := by decide +kernel
theorem dX0_turnAbout_49 : decode cX0_turnAbout 49 = .ok (.iload_n 3, 1) := by decide +kernel
theorem dX0_turnAbout_50 : decode cX0_turnAbout 50 = .ok (.invokevirtual 111, 3) := by decide +kernel
theorem dX0_turnAbout_53 : decode cX0_turnAbout 53 = .ok (.iadd, 1) := by decide +kernel
theorem dX0_turnAbout_54 : decode cX0_turnAbout 54 = .ok (.istore 6, 2) := by decide +kernel
theorem dX0_turnAbout_56 : decode cX0_turnAbout 56 = .ok (.aload_n 0, 1) := by decide +kernel
theorem dX0_turnAbout_57 : decode cX0_turnAbout 57 = .ok (.getfield 53, 3) := by decide +kernel
theorem dX0_turnAbout_60 : decode cX0_turnAbout 60 = .ok (.iload 6, 2) := by decide +kernel
theorem dX0_turnAbout_62 : decode cX0_turnAbout 62 = .ok (.iload_n 3, 1) := by decide +kernel
theorem dX0_turnAbout_63 : decode cX0_turnAbout 63 = .ok (.iconst 2, 1) := by decide +kernel
theorem dX0_turnAbout_64 : decode cX0_turnAbout 64 = .ok (.irem, 1) := by decide +kernel
theorem dX0_turnAbout_65 : decode cX0_turnAbout 65 = .ok (.ifCond .ne 8, 3) := by decide +kernel
theorem dX0_turnAbout_68 : decode cX0_turnAbout 68 = .ok (.iload 5, 2) := by decide +kernel
theorem dX0_turnAbout_70 : decode cX0_turnAbout 70 = .ok (.goto 9, 3) := by decide +kernel
theorem dX0_turnAbout_73 : decode cX0_turnAbout 73 = .ok (.iconst 0, 1) := by decide +kernel
theorem dX0_turnAbout_74 : decode cX0_turnAbout 74 = .ok (.iload 5, 2) := by decide +kernel
theorem dX0_turnAbout_76 : decode cX0_turnAbout 76 = .ok (.invokestatic 114, 3) := by decide +kernel
theorem dX0_turnAbout_79 : decode cX0_turnAbout 79 = .ok (.iastore, 1) := by decide +kernel
theorem dX0_turnAbout_80 : decode cX0_turnAbout 80 = .ok (.iinc 4 1, 3) := by decide +kernel
theorem dX0_turnAbout_83 : decode cX0_turnAbout 83 = .ok (.goto (-70), 3) := by decide +kernel
theorem dX0_turnAbout_86 : decode cX0_turnAbout 86 = .ok (.iinc 3 1, 3) := by decide +kernel
theorem dX0_turnAbout_89 : decode cX0_turnAbout 89 = .ok (.goto (-87), 3) := by decide +kernel
theorem dX0_turnAbout_92 : decode cX0_turnAbout 92 = .ok (.aload_n 0, 1) := by decide +kernel
theorem dX0_turnAbout_93 : decode cX0_turnAbout 93 = .ok (.aload_n 1, 1) := by decide +kernel
theorem dX0_turnAbout_94 : decode cX0_turnAbout 94 = .ok (.aload_n 0, 1) := by decide +kernel
theorem dX0_turnAbout_95 : decode cX0_turnAbout 95 = .ok (.getfield 53, 3) := by decide +kernel
theorem dX0_turnAbout_98 : decode cX0_turnAbout 98 = .ok (.invokevirtual 93, 3) := by decide +kernel
theorem dX0_turnAbout_101 : decode cX0_turnAbout 101 = .ok (.return_, 1) := by decide +kernel
set_option maxRecDepth 20000 in
theorem ggX0_raise_X0_setToUnit : GoodIn wsX0_raise wsX0_setToUnit := by
  refine goodIn_sub ?_ gd_X0_setToUnit
  unfold wsX0_setToUnit
  refine wm_c ⟨(wk_X0_raise_X0_raise_r1 _ (wm_8 wm_h)), ?_⟩
  refine wm_c ⟨(wk_X0_raise_X0_raise_r1 _ (wm_8 (wm_1 wm_h))), ?_⟩
  refine wm_c ⟨(wk_X0_raise_X0_raise_r1 _ (wm_8 (wm_2 wm_h))), ?_⟩
  refine wm_c ⟨(wk_X0_raise_X0_raise_r1 _ (wm_8 (wm_2 (wm_1 wm_h)))), ?_⟩
  refine wm_c ⟨(wk_X0_raise_X0_raise_r1 _ (wm_8 (wm_4 wm_h))), ?_⟩
  exact wm_n
set_option maxRecDepth 20000 in
theorem gX0_raise_X0_setToUnit : GoodIn wsX0_raise (wsV RX0 117 RX0 yX0_setToUnit wsX0_setToUnit) := by
  refine goodIn_app (goodIn_sub ?_ ?_) ggX0_raise_X0_setToUnit
  · exact wm_c ⟨(wk_X0_raise_X0_raise_r1 _ (wm_4 wm_h)), wm_c ⟨(wk_X0_raise_X0_raise_r1 _ (wm_4 (wm_1 wm_h))), wm_c ⟨(wk_X0_raise_X0_raise_r1 _ (wm_4 (wm_2 wm_h))), wm_c ⟨(wk_X0_raise_X0_raise_r1 _ (wm_4 (wm_2 (wm_1 wm_h)))), wm_n⟩⟩⟩⟩
  · decide +kernel
set_option maxRecDepth 20000 in
theorem ggX0_raise_X0_gather : GoodIn wsX0_raise wsX0_gather := by
  refine goodIn_sub ?_ gd_X0_gather
  unfold wsX0_gather
  refine wm_c ⟨(wk_X0_raise_X0_raise_r1 _ (wm_16 wm_h)), ?_⟩
  refine wm_a ⟨?_, ?_⟩
  · refine wm_c ⟨(wk_X0_raise_X0_raise_r1 _ (wm_16 (wm_1 wm_h))), ?_⟩
    refine wm_c ⟨(wk_X0_raise_X0_raise_r1 _ (wm_16 (wm_2 wm_h))), ?_⟩
    refine wm_c ⟨(wk_X0_raise_X0_raise_r1 _ (wm_16 (wm_2 (wm_1 wm_h)))), ?_⟩
    exact wm_n
  · exact wk_X0_raise_X00
set_option maxRecDepth 20000 in
theorem gX0_raise_X0_gather : GoodIn wsX0_raise (wsV RX0 89 RX0 yX0_gather wsX0_gather) := by
  refine goodIn_app (goodIn_sub ?_ ?_) ggX0_raise_X0_gather
  · exact wm_c ⟨(wk_X0_raise_X0_raise_r1 _ (wm_8 (wm_4 (wm_1 wm_h)))), wm_c ⟨(wk_X0_raise_X0_raise_r1 _ (wm_8 (wm_4 (wm_2 wm_h)))), wm_c ⟨(wk_X0_raise_X0_raise_r1 _ (wm_8 (wm_4 (wm_2 (wm_1 wm_h))))), wm_c ⟨(wk_X0_raise_X0_raise_r1 _ (wm_4 (wm_2 (wm_1 wm_h)))), wm_n⟩⟩⟩⟩
  · decide +kernel
set_option maxRecDepth 20000 in
theorem ggX0_raise_X0_copy : GoodIn wsX0_raise wsX0_copy := by
  refine goodIn_sub ?_ gd_X0_copy
  unfold wsX0_copy
  refine wm_c ⟨(wk_X0_raise_X0_raise_r1 _ (wm_16 (wm_4 (wm_2 (wm_1 wm_h))))), ?_⟩
  refine wm_c ⟨(wk_X0_raise_X0_raise_r2 _ wm_h), ?_⟩
  refine wm_c ⟨(wk_X0_raise_X0_raise_r2 _ (wm_1 wm_h)), ?_⟩
  refine wm_c ⟨(wk_X0_raise_X0_raise_r2 _ (wm_2 wm_h)), ?_⟩
  refine wm_c ⟨(wk_X0_raise_X0_raise_r2 _ (wm_2 (wm_1 wm_h))), ?_⟩
  exact wm_n
set_option maxRecDepth 20000 in
theorem gX0_raise_X0_copy : GoodIn wsX0_raise (wsV RX0 93 RX0 yX0_copy wsX0_copy) := by
  refine goodIn_app (goodIn_sub ?_ ?_) ggX0_raise_X0_copy
  · exact wm_c ⟨(wk_X0_raise_X0_raise_r1 _ (wm_16 (wm_4 wm_h))), wm_c ⟨(wk_X0_raise_X0_raise_r1 _ (wm_16 (wm_4 (wm_1 wm_h)))), wm_c ⟨(wk_X0_raise_X0_raise_r1 _ (wm_16 (wm_4 (wm_2 wm_h)))), wm_c ⟨(wk_X0_raise_X0_raise_r1 _ (wm_4 (wm_2 (wm_1 wm_h)))), wm_n⟩⟩⟩⟩
  · decide +kernel
theorem dX0_raise_0 : decode cX0_raise 0 = .ok (.aload_n 0, 1) := by decide +kernel
theorem dX0_raise_1 : decode cX0_raise 1 = .ok (.getfield 59, 3) := by decide +kernel
theorem dX0_raise_4 : decode cX0_raise 4 = .ok (.astore_n 3, 1) := by decide +kernel
theorem dX0_raise_5 : decode cX0_raise 5 = .ok (.aload_n 0, 1) := by decide +kernel
theorem dX0_raise_6 : decode cX0_raise 6 = .ok (.getfield 62, 3) := by decide +kernel
theorem dX0_raise_9 : decode cX0_raise 9 = .ok (.astore 4, 2) := by decide +kernel
theorem dX0_raise_11 : decode cX0_raise 11 = .ok (.aload_n 0, 1) := by decide +kernel
theorem dX0_raise_12 : decode cX0_raise 12 = .ok (.aload_n 3, 1) := by decide +kernel
theorem dX0_raise_13 : decode cX0_raise 13 = .ok (.iconst 1, 1) := by decide +kernel
theorem dX0_raise_14 : decode cX0_raise 14 = .ok (.invokevirtual 117, 3) := by decide +kernel
theorem dX0_raise_17 : decode cX0_raise 17 = .ok (.aload_n 0, 1) := by decide +kernel
theorem dX0_raise_18 : decode cX0_raise 18 = .ok (.getfield 21, 3) := by decide +kernel
theorem dX0_raise_21 : decode cX0_raise 21 = .ok (.istore 5, 2) := by decide +kernel
theorem dX0_raise_23 : decode cX0_raise 23 = .ok (.iload 5, 2) := by decide +kernel
theorem dX0_raise_25 : decode cX0_raise 25 = .ok (.iconst 1, 1) := by decide +kernel
theorem dX0_raise_26 : decode cX0_raise 26 = .ok (.if_icmp .lt 45, 3) := by decide +kernel
theorem dX0_raise_29 : decode cX0_raise 29 = .ok (.aload_n 0, 1) := by decide +kernel
theorem dX0_raise_30 : decode cX0_raise 30 = .ok (.aload 4, 2) := by decide +kernel
theorem dX0_raise_32 : decode cX0_raise 32 = .ok (.iconst 1, 1) := by decide +kernel
theorem dX0_raise_33 : decode cX0_raise 33 = .ok (.invokevirtual 117, 3) := by decide +kernel
theorem dX0_raise_36 : decode cX0_raise 36 = .ok (.aload_n 0, 1) := by decide +kernel
theorem dX0_raise_37 : decode cX0_raise 37 = .ok (.aload 4, 2) := by decide +kernel
theorem dX0_raise_39 : decode cX0_raise 39 = .ok (.aload_n 3, 1) := by decide +kernel
theorem dX0_raise_40 : decode cX0_raise 40 = .ok (.aload_n 2, 1) := by decide +kernel
theorem dX0_raise_41 : decode cX0_raise 41 = .ok (.aload_n 0, 1) := by decide +kernel
theorem dX0_raise_42 : decode cX0_raise 42 = .ok (.getfield 35, 3) := by decide +kernel
theorem dX0_raise_45 : decode cX0_raise 45 = .ok (.iload 5, 2) := by decide +kernel
theorem dX0_raise_47 : decode cX0_raise 47 = .ok (.iaload, 1) := by decide +kernel
theorem dX0_raise_48 : decode cX0_raise 48 = .ok (.aload_n 0, 1) := by decide +kernel
theorem dX0_raise_49 : decode cX0_raise 49 = .ok (.getfield 21, 3) := by decide +kernel
theorem dX0_raise_52 : decode cX0_raise 52 = .ok (.invokevirtual 89, 3) := by decide +kernel
theorem dX0_raise_55 : decode cX0_raise 55 = .ok (.aload_n 3, 1) := by decide +kernel
theorem dX0_raise_56 : decode cX0_raise 56 = .ok (.astore 6, 2) := by decide +kernel
theorem dX0_raise_58 : decode cX0_raise 58 = .ok (.aload 4, 2) := by decide +kernel
theorem dX0_raise_60 : decode cX0_raise 60 = .ok (.astore_n 3, 1) := by decide +kernel
theorem dX0_raise_61 : decode cX0_raise 61 = .ok (.aload 6, 2) := by decide +kernel
theorem dX0_raise_63 : decode cX0_raise 63 = .ok (.astore 4, 2) := by decide +kernel
theorem dX0_raise_65 : decode cX0_raise 65 = .ok (.iinc 5 (-1), 3) := by decide +kernel
theorem dX0_raise_68 : decode cX0_raise 68 = .ok (.goto (-45), 3) := by decide +kernel
theorem dX0_raise_71 : decode cX0_raise 71 = .ok (.aload_n 0, 1) := by decide +kernel
theorem dX0_raise_72 : decode cX0_raise 72 = .ok (.aload_n 1, 1) := by decide +kernel
theorem dX0_raise_73 : decode cX0_raise 73 = .ok (.aload_n 3, 1) := by decide +kernel
theorem dX0_raise_74 : decode cX0_raise 74 = .ok (.invokevirtual 93, 3) := by decide +kernel
theorem dX0_raise_77 : decode cX0_raise 77 = .ok (.return_, 1) := by decide +kernel
set_option maxRecDepth 20000 in
theorem ggX0_unraise_X0_copy : GoodIn wsX0_unraise wsX0_copy := by
  refine goodIn_sub ?_ gd_X0_copy
  unfold wsX0_copy
  refine wm_c ⟨(wk_X0_unraise_X0_unraise_r1 _ (wm_8 (wm_2 wm_h))), ?_⟩
  refine wm_c ⟨(wk_X0_unraise_X0_unraise_r1 _ (wm_8 (wm_2 (wm_1 wm_h)))), ?_⟩
  refine wm_c ⟨(wk_X0_unraise_X0_unraise_r1 _ (wm_8 (wm_4 wm_h))), ?_⟩
  refine wm_c ⟨(wk_X0_unraise_X0_unraise_r1 _ (wm_8 (wm_4 (wm_1 wm_h)))), ?_⟩
  refine wm_c ⟨(wk_X0_unraise_X0_unraise_r1 _ (wm_8 (wm_4 (wm_2 wm_h)))), ?_⟩
  exact wm_n
set_option maxRecDepth 20000 in
theorem gX0_unraise_X0_copy : GoodIn wsX0_unraise (wsV RX0 93 RX0 yX0_copy wsX0_copy) := by
  refine goodIn_app (goodIn_sub ?_ ?_) ggX0_unraise_X0_copy
  · exact wm_c ⟨(wk_X0_unraise_X0_unraise_r1 _ (wm_4 (wm_2 wm_h))), wm_c ⟨(wk_X0_unraise_X0_unraise_r1 _ (wm_4 (wm_2 (wm_1 wm_h)))), wm_c ⟨(wk_X0_unraise_X0_unraise_r1 _ (wm_8 wm_h)), wm_c ⟨(wk_X0_unraise_X0_unraise_r1 _ (wm_8 (wm_1 wm_h))), wm_n⟩⟩⟩⟩
  · decide +kernel
set_option maxRecDepth 20000 in
theorem ggX0_unraise_X0_setToUnit : GoodIn wsX0_unraise wsX0_setToUnit := by
  refine goodIn_sub ?_ gd_X0_setToUnit
  unfold wsX0_setToUnit
  refine wm_c ⟨(wk_X0_unraise_X0_unraise_r1 _ (wm_16 (wm_2 wm_h))), ?_⟩
  refine wm_c ⟨(wk_X0_unraise_X0_unraise_r1 _ (wm_16 (wm_2 (wm_1 wm_h)))), ?_⟩
  refine wm_c ⟨(wk_X0_unraise_X0_unraise_r1 _ (wm_16 (wm_4 wm_h))), ?_⟩
  refine wm_c ⟨(wk_X0_unraise_X0_unraise_r1 _ (wm_16 (wm_4 (wm_1 wm_h)))), ?_⟩
  refine wm_c ⟨(wk_X0_unraise_X0_unraise_r1 _ (wm_16 (wm_4 (wm_2 wm_h)))), ?_⟩
  exact wm_n
set_option maxRecDepth 20000 in
theorem gX0_unraise_X0_setToUnit : GoodIn wsX0_unraise (wsV RX0 117 RX0 yX0_setToUnit wsX0_setToUnit) := by
  refine goodIn_app (goodIn_sub ?_ ?_) ggX0_unraise_X0_setToUnit
  · exact wm_c ⟨(wk_X0_unraise_X0_unraise_r1 _ (wm_8 (wm_4 (wm_2 (wm_1 wm_h))))), wm_c ⟨(wk_X0_unraise_X0_unraise_r1 _ (wm_16 wm_h)), wm_c ⟨(wk_X0_unraise_X0_unraise_r1 _ (wm_16 (wm_1 wm_h))), wm_c ⟨(wk_X0_unraise_X0_unraise_r1 _ (wm_8 (wm_1 wm_h))), wm_n⟩⟩⟩⟩
  · decide +kernel
set_option maxRecDepth 20000 in
theorem ggX0_unraise_X0_gather : GoodIn wsX0_unraise wsX0_gather := by
  refine goodIn_sub ?_ gd_X0_gather
  unfold wsX0_gather
  refine wm_c ⟨(wk_X0_unraise_X0_unraise_r2 _ (wm_2 wm_h)), ?_⟩
  refine wm_a ⟨?_, ?_⟩
  · refine wm_c ⟨(wk_X0_unraise_X0_unraise_r2 _ (wm_2 (wm_1 wm_h))), ?_⟩
    refine wm_c ⟨(wk_X0_unraise_X0_unraise_r2 _ (wm_4 wm_h)), ?_⟩
    refine wm_c ⟨(wk_X0_unraise_X0_unraise_r2 _ (wm_4 (wm_1 wm_h))), ?_⟩
    exact wm_n
  · exact wk_X0_unraise_X00
set_option maxRecDepth 20000 in
theorem gX0_unraise_X0_gather : GoodIn wsX0_unraise (wsV RX0 89 RX0 yX0_gather wsX0_gather) := by
  refine goodIn_app (goodIn_sub ?_ ?_) ggX0_unraise_X0_gather
  · exact wm_c ⟨(wk_X0_unraise_X0_unraise_r1 _ (wm_16 (wm_4 (wm_2 (wm_1 wm_h))))), wm_c ⟨(wk_X0_unraise_X0_unraise_r2 _ wm_h), wm_c ⟨(wk_X0_unraise_X0_unraise_r2 _ (wm_1 wm_h)), wm_c ⟨(wk_X0_unraise_X0_unraise_r1 _ (wm_8 (wm_1 wm_h))), wm_n⟩⟩⟩⟩
  · decide +kernel
set_option maxRecDepth 20000 in
theorem ggX0_unraise_J7_fill_53178 : GoodIn wsX0_unraise wsJ7_fill_53178 := by
  refine goodIn_sub ?_ gd_J7_fill_53178
  unfold wsJ7_fill_53178
  refine wm_c ⟨(wk_X0_unraise_X0_unraise_r1 _ (wm_16 (wm_4 (wm_2 wm_h)))), ?_⟩
  exact wm_n
set_option maxRecDepth 20000 in
theorem gX0_unraise_J7_fill_53178 : GoodIn wsX0_unraise (va_wsS RX0 71 yJ7_fill_53178 wsJ7_fill_53178) := goodIn_app (goodIn_of _ (by decide +kernel)) ggX0_unraise_J7_fill_53178
theorem dX0_unraise_0 : decode cX0_unraise 0 = .ok (.aload_n 0, 1) := by decide +kernel
theorem dX0_unraise_1 : decode cX0_unraise 1 = .ok (.aload_n 0, 1) := by decide +kernel
theorem dX0_unraise_2 : decode cX0_unraise 2 = .ok (.getfield 56, 3) := by decide +kernel
theorem dX0_unraise_5 : decode cX0_unraise 5 = .ok (.aload_n 2, 1) := by decide +kernel
theorem dX0_unraise_6 : decode cX0_unraise 6 = .ok (.invokevirtual 93, 3) := by decide +kernel
theorem dX0_unraise_9 : decode cX0_unraise 9 = .ok (.aload_n 0, 1) := by decide +kernel
theorem dX0_unraise_10 : decode cX0_unraise 10 = .ok (.getfield 56, 3) := by decide +kernel
theorem dX0_unraise_13 : decode cX0_unraise 13 = .ok (.iconst 0, 1) := by decide +kernel
theorem dX0_unraise_14 : decode cX0_unraise 14 = .ok (.iconst 0, 1) := by decide +kernel
theorem dX0_unraise_15 : decode cX0_unraise 15 = .ok (.iastore, 1) := by decide +kernel
theorem dX0_unraise_16 : decode cX0_unraise 16 = .ok (.aload_n 0, 1) := by decide +kernel
theorem dX0_unraise_17 : decode cX0_unraise 17 = .ok (.getfield 59, 3) := by decide +kernel
theorem dX0_unraise_20 : decode cX0_unraise 20 = .ok (.astore_n 3, 1) := by decide +kernel
theorem dX0_unraise_21 : decode cX0_unraise 21 = .ok (.aload_n 0, 1) := by decide +kernel
theorem dX0_unraise_22 : decode cX0_unraise 22 = .ok (.getfield 62, 3) := by decide +kernel
theorem dX0_unraise_25 : decode cX0_unraise 25 = .ok (.astore 4, 2) := by decide +kernel
theorem dX0_unraise_27 : decode cX0_unraise 27 = .ok (.aload_n 0, 1) := by decide +kernel
theorem dX0_unraise_28 : decode cX0_unraise 28 = .ok (.aload_n 3, 1) := by decide +kernel
theorem dX0_unraise_29 : decode cX0_unraise 29 = .ok (.aload_n 0, 1) := by decide +kernel
theorem dX0_unraise_30 : decode cX0_unraise 30 = .ok (.getfield 35, 3) := by decide +kernel
theorem dX0_unraise_33 : decode cX0_unraise 33 = .ok (.aload_n 0, 1) := by decide +kernel
theorem dX0_unraise_34 : decode cX0_unraise 34 = .ok (.getfield 21, 3) := by decide +kernel
theorem dX0_unraise_37 : decode cX0_unraise 37 = .ok (.iaload, 1) := by decide +kernel
theorem dX0_unraise_38 : decode cX0_unraise 38 = .ok (.invokevirtual 117, 3) := by decide +kernel
theorem dX0_unraise_41 : decode cX0_unraise 41 = .ok (.aload_n 0, 1) := by decide +kernel
theorem dX0_unraise_42 : decode cX0_unraise 42 = .ok (.getfield 21, 3) := by decide +kernel
theorem dX0_unraise_45 : decode cX0_unraise 45 = .ok (.iconst 1, 1) := by decide +kernel
theorem dX0_unraise_46 : decode cX0_unraise 46 = .ok (.isub, 1) := by decide +kernel
theorem dX0_unraise_47 : decode cX0_unraise 47 = .ok (.istore 5, 2) := by decide +kernel
theorem dX0_unraise_49 : decode cX0_unraise 49 = .ok (.iload 5, 2) := by decide +kernel
theorem dX0_unraise_51 : decode cX0_unraise 51 = .ok (.iconst 1, 1) := by decide +kernel
theorem dX0_unraise_52 : decode cX0_unraise 52 = .ok (.if_icmp .lt 49, 3) := by decide +kernel
theorem dX0_unraise_55 : decode cX0_unraise 55 = .ok (.aload_n 0, 1) := by decide +kernel
theorem dX0_unraise_56 : decode cX0_unraise 56 = .ok (.aload 4, 2) := by decide +kernel
theorem dX0_unraise_58 : decode cX0_unraise 58 = .ok (.aload_n 0, 1) := by decide +kernel
theorem dX0_unraise_59 : decode cX0_unraise 59 = .ok (.getfield 35, 3) := by decide +kernel
theorem dX0_unraise_62 : decode cX0_unraise 62 = .ok (.iload 5, 2) := by decide +kernel
theorem dX0_unraise_64 : decode cX0_unraise 64 = .ok (.iaload, 1) := by decide +kernel
theorem dX0_unraise_65 : decode cX0_unraise 65 = .ok (.invokevirtual 117, 3) := by decide +kernel
theorem dX0_unraise_68 : decode cX0_unraise 68 = .ok (.aload_n 0, 1) := by decide +kernel
theorem dX0_unraise_69 : decode cX0_unraise 69 = .ok (.aload 4, 2) := by decide +kernel
theorem dX0_unraise_71 : decode cX0_unraise 71 = .ok (.aload_n 3, 1) := by decide +kernel
theorem dX0_unraise_72 : decode cX0_unraise 72 = .ok (.aload_n 0, 1) := by decide +kernel
theorem dX0_unraise_73 : decode cX0_unraise 73 = .ok (.getfield 56, 3) := by decide +kernel
theorem dX0_unraise_76 : decode cX0_unraise 76 = .ok (.ldc 97, 2) := by decide +kernel
theorem dX0_unraise_78 : decode cX0_unraise 78 = .ok (.aload_n 0, 1) := by decide +kernel
theorem dX0_unraise_79 : decode cX0_unraise 79 = .ok (.getfield 21, 3) := by decide +kernel
theorem dX0_unraise_82 : decode cX0_unraise 82 = .ok (.invokevirtual 89, 3) := by decide +kernel
theorem dX0_unraise_85 : decode cX0_unraise 85 = .ok (.aload_n 3, 1) := by decide +kernel
theorem dX0_unraise_86 : decode cX0_unraise 86 = .ok (.astore 6, 2) := by decide +kernel
theorem dX0_unraise_88 : decode cX0_unraise 88 = .ok (.aload 4, 2) := by decide +kernel
theorem dX0_unraise_90 : decode cX0_unraise 90 = .ok (.astore_n 3, 1) := by decide +kernel
theorem dX0_unraise_91 : decode cX0_unraise 91 = .ok (.aload 6, 2) := by decide +kernel
theorem dX0_unraise_93 : decode cX0_unraise 93 = .ok (.astore 4, 2) := by decide +kernel
theorem dX0_unraise_95 : decode cX0_unraise 95 = .ok (.iinc 5 (-1), 3) := by decide +kernel
theorem dX0_unraise_98 : decode cX0_unraise 98 = .ok (.goto (-49), 3) := by decide +kernel
theorem dX0_unraise_101 : decode cX0_unraise 101 = .ok (.aload 4, 2) := by decide +kernel
theorem dX0_unraise_103 : decode cX0_unraise 103 = .ok (.iconst 0, 1) := by decide +kernel
theorem dX0_unraise_104 : decode cX0_unraise 104 = .ok (.invokestatic 71, 3) := by decide +kernel
theorem dX0_unraise_107 : decode cX0_unraise 107 = .ok (.aload_n 0, 1) := by decide +kernel
theorem dX0_unraise_108 : decode cX0_unraise 108 = .ok (.aload 4, 2) := by decide +kernel
theorem dX0_unraise_110 : decode cX0_unraise 110 = .ok (.aload_n 3, 1) := by decide +kernel
theorem dX0_unraise_111 : decode cX0_unraise 111 = .ok (.aload_n 0, 1) := by decide +kernel
theorem dX0_unraise_112 : decode cX0_unraise 112 = .ok (.getfield 56, 3) := by decide +kernel
theorem dX0_unraise_115 : decode cX0_unraise 115 = .ok (.iconst 1, 1) := by decide +kernel
theorem dX0_unraise_116 : decode cX0_unraise 116 = .ok (.aload_n 0, 1) := by decide +kernel
theorem dX0_unraise_117 : decode cX0_unraise 117 = .ok (.getfield 21, 3) := by decide +kernel
theorem dX0_unraise_120 : decode cX0_unraise 120 = .ok (.invokevirtual 89, 3) := by decide +kernel
theorem dX0_unraise_123 : decode cX0_unraise 123 = .ok (.aload_n 0, 1) := by decide +kernel
theorem dX0_unraise_124 : decode cX0_unraise 124 = .ok (.aload_n 1, 1) := by decide +kernel
theorem dX0_unraise_125 : decode cX0_unraise 125 = .ok (.aload 4, 2) := by decide +kernel
theorem dX0_unraise_127 : decode cX0_unraise 127 = .ok (.invokevirtual 93, 3) := by decide +kernel
theorem dX0_unraise_130 : decode cX0_unraise 130 = .ok (.return_, 1) := by decide +kernel
set_option maxRecDepth 20000 in
theorem ggX0_invert_X0_copy : GoodIn wsX0_invert wsX0_copy := by
  refine goodIn_sub ?_ gd_X0_copy
  unfold wsX0_copy
  refine wm_c ⟨(wk_X0_invert_X0_invert_r1 _ (wm_8 (wm_1 wm_h))), ?_⟩
  refine wm_c ⟨(wk_X0_invert_X0_invert_r1 _ (wm_8 (wm_2 wm_h))), ?_⟩
  refine wm_c ⟨(wk_X0_invert_X0_invert_r1 _ (wm_8 (wm_2 (wm_1 wm_h)))), ?_⟩
  refine wm_c ⟨(wk_X0_invert_X0_invert_r1 _ (wm_8 (wm_4 wm_h))), ?_⟩
  refine wm_c ⟨(wk_X0_invert_X0_invert_r1 _ (wm_8 (wm_4 (wm_1 wm_h)))), ?_⟩
  exact wm_n
set_option maxRecDepth 20000 in
theorem gX0_invert_X0_copy : GoodIn wsX0_invert (wsV RX0 93 RX0 yX0_copy wsX0_copy) := by
  refine goodIn_app (goodIn_sub ?_ ?_) ggX0_invert_X0_copy
  · exact wm_c ⟨(wk_X0_invert_X0_invert_r1 _ (wm_4 (wm_1 wm_h))), wm_c ⟨(wk_X0_invert_X0_invert_r1 _ (wm_4 (wm_2 wm_h))), wm_c ⟨(wk_X0_invert_X0_invert_r1 _ (wm_4 (wm_2 (wm_1 wm_h)))), wm_c ⟨(wk_X0_invert_X0_invert_r1 _ (wm_8 wm_h)), wm_n⟩⟩⟩⟩
  · decide +kernel
set_option maxRecDepth 20000 in
theorem ggX0_invert_X0_setToUnit : GoodIn wsX0_invert wsX0_setToUnit := by
  refine goodIn_sub ?_ gd_X0_setToUnit
  unfold wsX0_setToUnit
  refine wm_c ⟨(wk_X0_invert_X0_invert_r1 _ (wm_16 (wm_1 wm_h))), ?_⟩
  refine wm_c ⟨(wk_X0_invert_X0_invert_r1 _ (wm_16 (wm_2 wm_h))), ?_⟩
  refine wm_c ⟨(wk_X0_invert_X0_invert_r1 _ (wm_16 (wm_2 (wm_1 wm_h)))), ?_⟩
  refine wm_c ⟨(wk_X0_invert_X0_invert_r1 _ (wm_16 (wm_4 wm_h))), ?_⟩
  refine wm_c ⟨(wk_X0_invert_X0_invert_r1 _ (wm_16 (wm_4 (wm_1 wm_h)))), ?_⟩
  exact wm_n
set_option maxRecDepth 20000 in
theorem gX0_invert_X0_setToUnit : GoodIn wsX0_invert (wsV RX0 117 RX0 yX0_setToUnit wsX0_setToUnit) := by
  refine goodIn_app (goodIn_sub ?_ ?_) ggX0_invert_X0_setToUnit
  · exact wm_c ⟨(wk_X0_invert_X0_invert_r1 _ (wm_8 (wm_4 (wm_2 wm_h)))), wm_c ⟨(wk_X0_invert_X0_invert_r1 _ (wm_8 (wm_4 (wm_2 (wm_1 wm_h))))), wm_c ⟨(wk_X0_invert_X0_invert_r1 _ (wm_16 wm_h)), wm_c ⟨(wk_X0_invert_X0_invert_r1 _ (wm_8 wm_h)), wm_n⟩⟩⟩⟩
  · decide +kernel
set_option maxRecDepth 20000 in
theorem ggX0_invert_X0_gather : GoodIn wsX0_invert wsX0_gather := by
  refine goodIn_sub ?_ gd_X0_gather
  unfold wsX0_gather
  refine wm_c ⟨(wk_X0_invert_X0_invert_r2 _ (wm_1 wm_h)), ?_⟩
  refine wm_a ⟨?_, ?_⟩
  · refine wm_c ⟨(wk_X0_invert_X0_invert_r2 _ (wm_2 wm_h)), ?_⟩
    refine wm_c ⟨(wk_X0_invert_X0_invert_r2 _ (wm_2 (wm_1 wm_h))), ?_⟩
    refine wm_c ⟨(wk_X0_invert_X0_invert_r2 _ (wm_4 wm_h)), ?_⟩
    exact wm_n
  · exact wk_X0_invert_X00
set_option maxRecDepth 20000 in
theorem gX0_invert_X0_gather : GoodIn wsX0_invert (wsV RX0 89 RX0 yX0_gather wsX0_gather) := by
  refine goodIn_app (goodIn_sub ?_ ?_) ggX0_invert_X0_gather
  · exact wm_c ⟨(wk_X0_invert_X0_invert_r1 _ (wm_16 (wm_4 (wm_2 wm_h)))), wm_c ⟨(wk_X0_invert_X0_invert_r1 _ (wm_16 (wm_4 (wm_2 (wm_1 wm_h))))), wm_c ⟨(wk_X0_invert_X0_invert_r2 _ wm_h), wm_c ⟨(wk_X0_invert_X0_invert_r1 _ (wm_8 wm_h)), wm_n⟩⟩⟩⟩
  · decide +kernel
theorem dX0_invert_0 : decode cX0_invert 0 = .ok (.aload_n 0, 1) := by decide +kernel
theorem dX0_invert_1 : decode cX0_invert 1 = .ok (.aload_n 0, 1) := by decide +kernel
theorem dX0_invert_2 : decode cX0_invert 2 = .ok (.getfield 56, 3) := by decide +kernel
theorem dX0_invert_5 : decode cX0_invert 5 = .ok (.aload_n 2, 1) := by decide +kernel
theorem dX0_invert_6 : decode cX0_invert 6 = .ok (.invokevirtual 93, 3) := by decide +kernel
theorem dX0_invert_9 : decode cX0_invert 9 = .ok (.aload_n 0, 1) := by decide +kernel
theorem dX0_invert_10 : decode cX0_invert 10 = .ok (.getfield 56, 3) := by decide +kernel
theorem dX0_invert_13 : decode cX0_invert 13 = .ok (.iconst 0, 1) := by decide +kernel
theorem dX0_invert_14 : decode cX0_invert 14 = .ok (.iconst 0, 1) := by decide +kernel
theorem dX0_invert_15 : decode cX0_invert 15 = .ok (.iastore, 1) := by decide +kernel
theorem dX0_invert_16 : decode cX0_invert 16 = .ok (.aload_n 0, 1) := by decide +kernel
theorem dX0_invert_17 : decode cX0_invert 17 = .ok (.getfield 59, 3) := by decide +kernel
theorem dX0_invert_20 : decode cX0_invert 20 = .ok (.astore_n 3, 1) := by decide +kernel
theorem dX0_invert_21 : decode cX0_invert 21 = .ok (.aload_n 0, 1) := by decide +kernel
theorem dX0_invert_22 : decode cX0_invert 22 = .ok (.getfield 62, 3) := by decide +kernel
theorem dX0_invert_25 : decode cX0_invert 25 = .ok (.astore 4, 2) := by decide +kernel
theorem dX0_invert_27 : decode cX0_invert 27 = .ok (.aload_n 0, 1) := by decide +kernel
theorem dX0_invert_28 : decode cX0_invert 28 = .ok (.aload_n 3, 1) := by decide +kernel
theorem dX0_invert_29 : decode cX0_invert 29 = .ok (.iconst 1, 1) := by decide +kernel
theorem dX0_invert_30 : decode cX0_invert 30 = .ok (.invokevirtual 117, 3) := by decide +kernel
theorem dX0_invert_33 : decode cX0_invert 33 = .ok (.iconst 1, 1) := by decide +kernel
theorem dX0_invert_34 : decode cX0_invert 34 = .ok (.istore 5, 2) := by decide +kernel
theorem dX0_invert_36 : decode cX0_invert 36 = .ok (.iload 5, 2) := by decide +kernel
theorem dX0_invert_38 : decode cX0_invert 38 = .ok (.aload_n 0, 1) := by decide +kernel
theorem dX0_invert_39 : decode cX0_invert 39 = .ok (.getfield 21, 3) := by decide +kernel
theorem dX0_invert_42 : decode cX0_invert 42 = .ok (.if_icmp .gt 43, 3) := by decide +kernel
theorem dX0_invert_45 : decode cX0_invert 45 = .ok (.aload_n 0, 1) := by decide +kernel
theorem dX0_invert_46 : decode cX0_invert 46 = .ok (.aload 4, 2) := by decide +kernel
theorem dX0_invert_48 : decode cX0_invert 48 = .ok (.iconst 1, 1) := by decide +kernel
theorem dX0_invert_49 : decode cX0_invert 49 = .ok (.invokevirtual 117, 3) := by decide +kernel
theorem dX0_invert_52 : decode cX0_invert 52 = .ok (.aload_n 0, 1) := by decide +kernel
theorem dX0_invert_53 : decode cX0_invert 53 = .ok (.aload 4, 2) := by decide +kernel
theorem dX0_invert_55 : decode cX0_invert 55 = .ok (.aload_n 3, 1) := by decide +kernel
theorem dX0_invert_56 : decode cX0_invert 56 = .ok (.aload_n 0, 1) := by decide +kernel
theorem dX0_invert_57 : decode cX0_invert 57 = .ok (.getfield 56, 3) := by decide +kernel
theorem dX0_invert_60 : decode cX0_invert 60 = .ok (.ldc 97, 2) := by decide +kernel
theorem dX0_invert_62 : decode cX0_invert 62 = .ok (.aload_n 0, 1) := by decide +kernel
theorem dX0_invert_63 : decode cX0_invert 63 = .ok (.getfield 21, 3) := by decide +kernel
theorem dX0_invert_66 : decode cX0_invert 66 = .ok (.invokevirtual 89, 3) := by decide +kernel
theorem dX0_invert_69 : decode cX0_invert 69 = .ok (.aload_n 3, 1) := by decide +kernel
theorem dX0_invert_70 : decode cX0_invert 70 = .ok (.astore 6, 2) := by decide +kernel
theorem dX0_invert_72 : decode cX0_invert 72 = .ok (.aload 4, 2) := by decide +kernel
theorem dX0_invert_74 : decode cX0_invert 74 = .ok (.astore_n 3, 1) := by decide +kernel
theorem dX0_invert_75 : decode cX0_invert 75 = .ok (.aload 6, 2) := by decide +kernel
theorem dX0_invert_77 : decode cX0_invert 77 = .ok (.astore 4, 2) := by decide +kernel
theorem dX0_invert_79 : decode cX0_invert 79 = .ok (.iinc 5 1, 3) := by decide +kernel
theorem dX0_invert_82 : decode cX0_invert 82 = .ok (.goto (-46), 3) := by decide +kernel
theorem dX0_invert_85 : decode cX0_invert 85 = .ok (.aload_n 0, 1) := by decide +kernel
theorem dX0_invert_86 : decode cX0_invert 86 = .ok (.aload_n 1, 1) := by decide +kernel
theorem dX0_invert_87 : decode cX0_invert 87 = .ok (.aload_n 3, 1) := by decide +kernel
theorem dX0_invert_88 : decode cX0_invert 88 = .ok (.invokevirtual 93, 3) := by decide +kernel
theorem dX0_invert_91 : decode cX0_invert 91 = .ok (.return_, 1) := by decide +kernel
set_option maxRecDepth 20000 in
theorem ggX0_compose_X0_raise : GoodIn wsX0_compose wsX0_raise := by
  refine goodIn_sub ?_ gd_X0_raise
  unfold wsX0_raise
  refine wm_c ⟨(wk_X0_compose_X0_compose_r1 _ (wm_4 (wm_1 wm_h))), ?_⟩
  refine wm_a ⟨?_, ?_⟩
  · refine wm_a ⟨?_, ?_⟩
    · unfold wsX0_raise_r1
      refine wm_c ⟨(wk_X0_compose_X0_compose_r1 _ (wm_4 (wm_2 wm_h))), ?_⟩
      refine wm_c ⟨(wk_X0_compose_X0_compose_r1 _ (wm_4 (wm_2 (wm_1 wm_h)))), ?_⟩
      refine wm_c ⟨(wk_X0_compose_X0_compose_r1 _ (wm_8 wm_h)), ?_⟩
      refine wm_c ⟨(wk_X0_compose_X0_compose_r1 _ (wm_8 (wm_1 wm_h))), ?_⟩
      refine wm_c ⟨(wk_X0_compose_X0_compose_r1 _ (wm_8 (wm_2 wm_h))), ?_⟩
      refine wm_c ⟨(wk_X0_compose_X0_compose_r1 _ (wm_8 (wm_2 (wm_1 wm_h)))), ?_⟩
      refine wm_c ⟨(wk_X0_compose_X0_compose_r1 _ (wm_8 (wm_4 wm_h))), ?_⟩
      refine wm_c ⟨(wk_X0_compose_X0_compose_r1 _ (wm_4 wm_h)), ?_⟩
      refine wm_c ⟨(wk_X0_compose_X0_compose_r1 _ (wm_8 (wm_4 (wm_1 wm_h)))), ?_⟩
      refine wm_c ⟨(wk_X0_compose_X0_compose_r1 _ (wm_8 (wm_4 (wm_2 wm_h)))), ?_⟩
      refine wm_c ⟨(wk_X0_compose_X0_compose_r1 _ (wm_8 (wm_4 (wm_2 (wm_1 wm_h))))), ?_⟩
      refine wm_c ⟨(wk_X0_compose_X0_compose_r1 _ (wm_16 wm_h)), ?_⟩
      refine wm_c ⟨(wk_X0_compose_X0_compose_r1 _ (wm_16 (wm_1 wm_h))), ?_⟩
      refine wm_c ⟨(wk_X0_compose_X0_compose_r1 _ (wm_16 (wm_2 wm_h))), ?_⟩
      refine wm_c ⟨(wk_X0_compose_X0_compose_r1 _ (wm_16 (wm_2 (wm_1 wm_h)))), ?_⟩
      refine wm_c ⟨(wk_X0_compose_X0_compose_r1 _ (wm_16 (wm_4 wm_h))), ?_⟩
      refine wm_c ⟨(wk_X0_compose_X0_compose_r1 _ (wm_16 (wm_4 (wm_1 wm_h)))), ?_⟩
      refine wm_c ⟨(wk_X0_compose_X0_compose_r1 _ (wm_16 (wm_4 (wm_2 wm_h)))), ?_⟩
      refine wm_c ⟨(wk_X0_compose_X0_compose_r1 _ (wm_16 (wm_4 (wm_2 (wm_1 wm_h))))), ?_⟩
      refine wm_c ⟨(wk_X0_compose_X0_compose_r2 _ wm_h), ?_⟩
      refine wm_c ⟨(wk_X0_compose_X0_compose_r2 _ (wm_1 wm_h)), ?_⟩
      refine wm_c ⟨(wk_X0_compose_X0_compose_r2 _ (wm_2 wm_h)), ?_⟩
      refine wm_c ⟨(wk_X0_compose_X0_compose_r2 _ (wm_2 (wm_1 wm_h))), ?_⟩
      refine wm_c ⟨(wk_X0_compose_X0_compose_r2 _ (wm_4 wm_h)), ?_⟩
      exact wm_n
    · unfold wsX0_raise_r2
      refine wm_c ⟨(wk_X0_compose_X0_compose_r2 _ (wm_4 (wm_1 wm_h))), ?_⟩
      refine wm_c ⟨(wk_X0_compose_X0_compose_r2 _ (wm_4 (wm_2 wm_h))), ?_⟩
      refine wm_c ⟨(wk_X0_compose_X0_compose_r2 _ (wm_4 (wm_2 (wm_1 wm_h)))), ?_⟩
      refine wm_c ⟨(wk_X0_compose_X0_compose_r2 _ (wm_8 wm_h)), ?_⟩
      exact wm_n
  · exact wk_X0_compose_X00
set_option maxRecDepth 20000 in
theorem gX0_compose_X0_raise : GoodIn wsX0_compose (wsV RX0 120 RX0 yX0_raise wsX0_raise) := by
  refine goodIn_app (goodIn_sub ?_ ?_) ggX0_compose_X0_raise
  · exact wm_c ⟨(wk_X0_compose_X0_compose_r1 _ (wm_1 wm_h)), wm_c ⟨(wk_X0_compose_X0_compose_r1 _ (wm_2 wm_h)), wm_c ⟨(wk_X0_compose_X0_compose_r1 _ (wm_2 (wm_1 wm_h))), wm_c ⟨(wk_X0_compose_X0_compose_r1 _ (wm_4 wm_h)), wm_n⟩⟩⟩⟩
  · decide +kernel
set_option maxRecDepth 20000 in
theorem ggX0_compose_X0_multiply : GoodIn wsX0_compose wsX0_multiply := by
  refine goodIn_sub ?_ gd_X0_multiply
  unfold wsX0_multiply
  refine wm_c ⟨(wk_X0_compose_X0_compose_r2 _ (wm_8 (wm_4 wm_h))), ?_⟩
  refine wm_a ⟨?_, ?_⟩
  · refine wm_c ⟨(wk_X0_compose_X0_compose_r2 _ (wm_8 (wm_4 (wm_1 wm_h)))), ?_⟩
    refine wm_c ⟨(wk_X0_compose_X0_compose_r1 _ (wm_8 wm_h)), ?_⟩
    refine wm_c ⟨(wk_X0_compose_X0_compose_r1 _ (wm_8 (wm_4 (wm_2 wm_h)))), ?_⟩
    refine wm_c ⟨(wk_X0_compose_X0_compose_r1 _ (wm_8 (wm_4 (wm_2 (wm_1 wm_h))))), ?_⟩
    refine wm_c ⟨(wk_X0_compose_X0_compose_r1 _ (wm_16 wm_h)), ?_⟩
    refine wm_c ⟨(wk_X0_compose_X0_compose_r1 _ (wm_16 (wm_1 wm_h))), ?_⟩
    refine wm_c ⟨(wk_X0_compose_X0_compose_r1 _ (wm_16 (wm_2 wm_h))), ?_⟩
    refine wm_c ⟨(wk_X0_compose_X0_compose_r1 _ (wm_16 (wm_2 (wm_1 wm_h)))), ?_⟩
    refine wm_c ⟨(wk_X0_compose_X0_compose_r1 _ (wm_16 (wm_4 wm_h))), ?_⟩
    refine wm_c ⟨(wk_X0_compose_X0_compose_r1 _ (wm_4 wm_h)), ?_⟩
    refine wm_c ⟨(wk_X0_compose_X0_compose_r1 _ (wm_16 (wm_4 (wm_1 wm_h)))), ?_⟩
    refine wm_c ⟨(wk_X0_compose_X0_compose_r1 _ (wm_16 (wm_4 (wm_2 wm_h)))), ?_⟩
    refine wm_c ⟨(wk_X0_compose_X0_compose_r1 _ (wm_16 (wm_4 (wm_2 (wm_1 wm_h))))), ?_⟩
    refine wm_c ⟨(wk_X0_compose_X0_compose_r2 _ wm_h), ?_⟩
    refine wm_c ⟨(wk_X0_compose_X0_compose_r2 _ (wm_1 wm_h)), ?_⟩
    refine wm_c ⟨(wk_X0_compose_X0_compose_r2 _ (wm_2 wm_h)), ?_⟩
    refine wm_c ⟨(wk_X0_compose_X0_compose_r2 _ (wm_2 (wm_1 wm_h))), ?_⟩
    refine wm_c ⟨(wk_X0_compose_X0_compose_r2 _ (wm_4 wm_h)), ?_⟩
    refine wm_c ⟨(wk_X0_compose_X0_compose_r2 _ (wm_4 (wm_1 wm_h))), ?_⟩
    refine wm_c ⟨(wk_X0_compose_X0_compose_r2 _ (wm_4 (wm_2 wm_h))), ?_⟩
    refine wm_c ⟨(wk_X0_compose_X0_compose_r2 _ (wm_4 (wm_2 (wm_1 wm_h)))), ?_⟩
    refine wm_c ⟨(wk_X0_compose_X0_compose_r2 _ (wm_8 wm_h)), ?_⟩
    exact wm_n
  · exact wk_X0_compose_X00
set_option maxRecDepth 20000 in
theorem gX0_compose_X0_multiply : GoodIn wsX0_compose (wsV RX0 123 RX0 yX0_multiply wsX0_multiply) := by
  refine goodIn_app (goodIn_sub ?_ ?_) ggX0_compose_X0_multiply
  · exact wm_c ⟨(wk_X0_compose_X0_compose_r2 _ (wm_8 (wm_1 wm_h))), wm_c ⟨(wk_X0_compose_X0_compose_r2 _ (wm_8 (wm_2 wm_h))), wm_c ⟨(wk_X0_compose_X0_compose_r2 _ (wm_8 (wm_2 (wm_1 wm_h)))), wm_c ⟨(wk_X0_compose_X0_compose_r1 _ (wm_4 wm_h)), wm_n⟩⟩⟩⟩
  · decide +kernel
set_option maxRecDepth 20000 in
theorem ggX0_compose_X0_unraise : GoodIn wsX0_compose wsX0_unraise := by
  refine goodIn_sub ?_ gd_X0_unraise
  unfold wsX0_unraise
  refine wm_c ⟨(wk_X0_compose_X0_compose_r2 _ (wm_16 (wm_1 wm_h))), ?_⟩
  refine wm_a ⟨?_, ?_⟩
  · refine wm_a ⟨?_, ?_⟩
    · unfold wsX0_unraise_r1
      refine wm_c ⟨(wk_X0_compose_X0_compose_r2 _ (wm_16 (wm_2 wm_h))), ?_⟩
      refine wm_c ⟨(wk_X0_compose_X0_compose_r1 _ (wm_4 (wm_2 wm_h))), ?_⟩
      refine wm_c ⟨(wk_X0_compose_X0_compose_r1 _ (wm_4 (wm_2 (wm_1 wm_h)))), ?_⟩
      refine wm_c ⟨(wk_X0_compose_X0_compose_r1 _ (wm_8 (wm_1 wm_h))), ?_⟩
      refine wm_c ⟨(wk_X0_compose_X0_compose_r1 _ (wm_8 wm_h)), ?_⟩
      refine wm_c ⟨(wk_X0_compose_X0_compose_r2 _ (wm_16 (wm_2 (wm_1 wm_h)))), ?_⟩
      refine wm_c ⟨(wk_X0_compose_X0_compose_r2 _ (wm_1 wm_h)), ?_⟩
      refine wm_c ⟨(wk_X0_compose_X0_compose_r2 _ (wm_2 wm_h)), ?_⟩
      refine wm_c ⟨(wk_X0_compose_X0_compose_r2 _ (wm_2 (wm_1 wm_h))), ?_⟩
      refine wm_c ⟨(wk_X0_compose_X0_compose_r1 _ (wm_4 wm_h)), ?_⟩
      refine wm_c ⟨(wk_X0_compose_X0_compose_r2 _ (wm_4 wm_h)), ?_⟩
      refine wm_c ⟨(wk_X0_compose_X0_compose_r2 _ (wm_4 (wm_1 wm_h))), ?_⟩
      refine wm_c ⟨(wk_X0_compose_X0_compose_r2 _ (wm_4 (wm_2 wm_h))), ?_⟩
      refine wm_c ⟨(wk_X0_compose_X0_compose_r2 _ (wm_4 (wm_2 (wm_1 wm_h)))), ?_⟩
      refine wm_c ⟨(wk_X0_compose_X0_compose_r2 _ (wm_8 wm_h)), ?_⟩
      refine wm_c ⟨(wk_X0_compose_X0_compose_r1 _ (wm_8 (wm_2 wm_h))), ?_⟩
      refine wm_c ⟨(wk_X0_compose_X0_compose_r1 _ (wm_8 (wm_2 (wm_1 wm_h)))), ?_⟩
      refine wm_c ⟨(wk_X0_compose_X0_compose_r1 _ (wm_8 (wm_4 wm_h))), ?_⟩
      refine wm_c ⟨(wk_X0_compose_X0_compose_r1 _ (wm_8 (wm_4 (wm_1 wm_h)))), ?_⟩
      refine wm_c ⟨(wk_X0_compose_X0_compose_r1 _ (wm_8 (wm_4 (wm_2 wm_h)))), ?_⟩
      refine wm_c ⟨(wk_X0_compose_X0_compose_r1 _ (wm_8 (wm_4 (wm_2 (wm_1 wm_h))))), ?_⟩
      refine wm_c ⟨(wk_X0_compose_X0_compose_r1 _ (wm_16 wm_h)), ?_⟩
      refine wm_c ⟨(wk_X0_compose_X0_compose_r1 _ (wm_16 (wm_1 wm_h))), ?_⟩
      refine wm_c ⟨(wk_X0_compose_X0_compose_r1 _ (wm_16 (wm_2 wm_h))), ?_⟩
      exact wm_n
    · unfold wsX0_unraise_r2
      refine wm_c ⟨(wk_X0_compose_X0_compose_r1 _ (wm_16 (wm_2 (wm_1 wm_h)))), ?_⟩
      refine wm_c ⟨(wk_X0_compose_X0_compose_r1 _ (wm_16 (wm_4 wm_h))), ?_⟩
      refine wm_c ⟨(wk_X0_compose_X0_compose_r1 _ (wm_16 (wm_4 (wm_1 wm_h)))), ?_⟩
      refine wm_c ⟨(wk_X0_compose_X0_compose_r1 _ (wm_16 (wm_4 (wm_2 wm_h)))), ?_⟩
      refine wm_c ⟨(wk_X0_compose_X0_compose_r1 _ (wm_16 (wm_4 (wm_2 (wm_1 wm_h))))), ?_⟩
      refine wm_c ⟨(wk_X0_compose_X0_compose_r2 _ wm_h), ?_⟩
      exact wm_n
  · exact wk_X0_compose_X00
set_option maxRecDepth 20000 in
theorem gX0_compose_X0_unraise : GoodIn wsX0_compose (wsV RX0 127 RX0 yX0_unraise wsX0_unraise) := by
  refine goodIn_app (goodIn_sub ?_ ?_) ggX0_compose_X0_unraise
  · exact wm_c ⟨(wk_X0_compose_X0_compose_r2 _ (wm_8 (wm_4 (wm_2 wm_h)))), wm_c ⟨(wk_X0_compose_X0_compose_r2 _ (wm_8 (wm_4 (wm_2 (wm_1 wm_h))))), wm_c ⟨(wk_X0_compose_X0_compose_r2 _ (wm_16 wm_h)), wm_c ⟨(wk_X0_compose_X0_compose_r1 _ (wm_4 wm_h)), wm_n⟩⟩⟩⟩
  · decide +kernel
theorem dX0_compose_0 : decode cX0_compose 0 = .ok (.aload_n 0, 1) := by decide +kernel
theorem dX0_compose_1 : decode cX0_compose 1 = .ok (.aload_n 0, 1) := by decide +kernel
theorem dX0_compose_2 : decode cX0_compose 2 = .ok (.getfield 50, 3) := by decide +kernel
theorem dX0_compose_5 : decode cX0_compose 5 = .ok (.iconst 0, 1) := by decide +kernel
theorem dX0_compose_6 : decode cX0_compose 6 = .ok (.aaload, 1) := by decide +kernel
theorem dX0_compose_7 : decode cX0_compose 7 = .ok (.aload_n 2, 1) := by decide +kernel
theorem dX0_compose_8 : decode cX0_compose 8 = .ok (.invokevirtual 120, 3) := by decide +kernel
theorem dX0_compose_11 : decode cX0_compose 11 = .ok (.aload_n 0, 1) := by decide +kernel
theorem dX0_compose_12 : decode cX0_compose 12 = .ok (.aload_n 0, 1) := by decide +kernel
theorem dX0_compose_13 : decode cX0_compose 13 = .ok (.getfield 50, 3) := by decide +kernel
theorem dX0_compose_16 : decode cX0_compose 16 = .ok (.iconst 1, 1) := by decide +kernel
theorem dX0_compose_17 : decode cX0_compose 17 = .ok (.aaload, 1) := by decide +kernel
theorem dX0_compose_18 : decode cX0_compose 18 = .ok (.aload_n 3, 1) := by decide +kernel
theorem dX0_compose_19 : decode cX0_compose 19 = .ok (.invokevirtual 120, 3) := by decide +kernel
theorem dX0_compose_22 : decode cX0_compose 22 = .ok (.aload_n 0, 1) := by decide +kernel
theorem dX0_compose_23 : decode cX0_compose 23 = .ok (.aload_n 0, 1) := by decide +kernel
theorem dX0_compose_24 : decode cX0_compose 24 = .ok (.getfield 50, 3) := by decide +kernel
theorem dX0_compose_27 : decode cX0_compose 27 = .ok (.iconst 0, 1) := by decide +kernel
theorem dX0_compose_28 : decode cX0_compose 28 = .ok (.aaload, 1) := by decide +kernel
theorem dX0_compose_29 : decode cX0_compose 29 = .ok (.aload_n 0, 1) := by decide +kernel
theorem dX0_compose_30 : decode cX0_compose 30 = .ok (.getfield 50, 3) := by decide +kernel
theorem dX0_compose_33 : decode cX0_compose 33 = .ok (.iconst 0, 1) := by decide +kernel
theorem dX0_compose_34 : decode cX0_compose 34 = .ok (.aaload, 1) := by decide +kernel
theorem dX0_compose_35 : decode cX0_compose 35 = .ok (.aload_n 0, 1) := by decide +kernel
theorem dX0_compose_36 : decode cX0_compose 36 = .ok (.getfield 50, 3) := by decide +kernel
theorem dX0_compose_39 : decode cX0_compose 39 = .ok (.iconst 1, 1) := by decide +kernel
theorem dX0_compose_40 : decode cX0_compose 40 = .ok (.aaload, 1) := by decide +kernel
theorem dX0_compose_41 : decode cX0_compose 41 = .ok (.invokevirtual 123, 3) := by decide +kernel
theorem dX0_compose_44 : decode cX0_compose 44 = .ok (.aload_n 0, 1) := by decide +kernel
theorem dX0_compose_45 : decode cX0_compose 45 = .ok (.aload_n 1, 1) := by decide +kernel
theorem dX0_compose_46 : decode cX0_compose 46 = .ok (.aload_n 0, 1) := by decide +kernel
theorem dX0_compose_47 : decode cX0_compose 47 = .ok (.getfield 50, 3) := by decide +kernel
theorem dX0_compose_50 : decode cX0_compose 50 = .ok (.iconst 0, 1) := by decide +kernel
theorem dX0_compose_51 : decode cX0_compose 51 = .ok (.aaload, 1) := by decide +kernel
theorem dX0_compose_52 : decode cX0_compose 52 = .ok (.invokevirtual 127, 3) := by decide +kernel
theorem dX0_compose_55 : decode cX0_compose 55 = .ok (.return_, 1) := by decide +kernel
set_option maxRecDepth 20000 in
theorem ggX0_setInEach_J7_fill_53178 : GoodIn wsX0_setInEach wsJ7_fill_53178 := by
  refine goodIn_sub ?_ gd_J7_fill_53178
  unfold wsJ7_fill_53178
  refine wm_c ⟨(wk_X0_setInEach_X0_setInEach_r1 _ (wm_8 wm_h)), ?_⟩
  exact wm_n
set_option maxRecDepth 20000 in
theorem gX0_setInEach_J7_fill_53178 : GoodIn wsX0_setInEach (va_wsS RX0 71 yJ7_fill_53178 wsJ7_fill_53178) := goodIn_app (goodIn_of _ (by decide +kernel)) ggX0_setInEach_J7_fill_53178
set_option maxRecDepth 20000 in
theorem ggX0_setInEach_X0_setInOne : GoodIn wsX0_setInEach wsX0_setInOne := by
  refine goodIn_sub ?_ gd_X0_setInOne
  unfold wsX0_setInOne
  refine wm_c ⟨(wk_X0_setInEach_X0_setInEach_r1 _ (wm_8 (wm_4 (wm_1 wm_h)))), ?_⟩
  refine wm_a ⟨?_, ?_⟩
  · refine wm_c ⟨(wk_X0_setInEach_X0_setInEach_r1 _ (wm_2 wm_h)), ?_⟩
    refine wm_c ⟨(wk_X0_setInEach_X0_setInEach_r1 _ (wm_1 wm_h)), ?_⟩
    refine wm_c ⟨(wk_X0_setInEach_X0_setInEach_r1 _ (wm_2 (wm_1 wm_h))), ?_⟩
    refine wm_c ⟨(wk_X0_setInEach_X0_setInEach_r1 _ wm_h), ?_⟩
    refine wm_c ⟨(wk_X0_setInEach_X0_setInEach_r1 _ (wm_8 (wm_4 (wm_2 wm_h)))), ?_⟩
    refine wm_c ⟨(wk_X0_setInEach_X0_setInEach_r1 _ (wm_8 (wm_4 (wm_2 (wm_1 wm_h))))), ?_⟩
    refine wm_c ⟨(wk_X0_setInEach_X0_setInEach_r1 _ (wm_16 wm_h)), ?_⟩
    refine wm_c ⟨(wk_X0_setInEach_X0_setInEach_r1 _ (wm_16 (wm_1 wm_h))), ?_⟩
    refine wm_c ⟨(wk_X0_setInEach_X0_setInEach_r1 _ (wm_16 (wm_2 wm_h))), ?_⟩
    exact wm_n
  · exact wk_X0_setInEach_X00
set_option maxRecDepth 20000 in
theorem gX0_setInEach_X0_setInOne : GoodIn wsX0_setInEach (wsV RX0 130 RX0 yX0_setInOne wsX0_setInOne) := by
  refine goodIn_app (goodIn_sub ?_ ?_) ggX0_setInEach_X0_setInOne
  · exact wm_c ⟨(wk_X0_setInEach_X0_setInEach_r1 _ (wm_8 (wm_1 wm_h))), wm_c ⟨(wk_X0_setInEach_X0_setInEach_r1 _ (wm_8 (wm_2 wm_h))), wm_c ⟨(wk_X0_setInEach_X0_setInEach_r1 _ (wm_8 (wm_2 (wm_1 wm_h)))), wm_c ⟨(wk_X0_setInEach_X0_setInEach_r1 _ (wm_8 (wm_4 wm_h))), wm_n⟩⟩⟩⟩
  · decide +kernel
set_option maxRecDepth 20000 in
theorem ggX0_setInEach_X0_copy : GoodIn wsX0_setInEach wsX0_copy := by
  refine goodIn_sub ?_ gd_X0_copy
  unfold wsX0_copy
  refine wm_c ⟨(wk_X0_setInEach_X0_setInEach_r1 _ (wm_16 (wm_4 (wm_2 wm_h)))), ?_⟩
  refine wm_c ⟨(wk_X0_setInEach_X0_setInEach_r1 _ (wm_16 (wm_4 (wm_2 (wm_1 wm_h))))), ?_⟩
  refine wm_c ⟨(wk_X0_setInEach_X0_setInEach_r2 _ wm_h), ?_⟩
  refine wm_c ⟨(wk_X0_setInEach_X0_setInEach_r2 _ (wm_1 wm_h)), ?_⟩
  refine wm_c ⟨(wk_X0_setInEach_X0_setInEach_r2 _ (wm_2 wm_h)), ?_⟩
  exact wm_n
set_option maxRecDepth 20000 in
theorem gX0_setInEach_X0_copy : GoodIn wsX0_setInEach (wsV RX0 93 RX0 yX0_copy wsX0_copy) := by
  refine goodIn_app (goodIn_sub ?_ ?_) ggX0_setInEach_X0_copy
  · exact wm_c ⟨(wk_X0_setInEach_X0_setInEach_r1 _ (wm_16 (wm_2 (wm_1 wm_h)))), wm_c ⟨(wk_X0_setInEach_X0_setInEach_r1 _ (wm_16 (wm_4 wm_h))), wm_c ⟨(wk_X0_setInEach_X0_setInEach_r1 _ (wm_16 (wm_4 (wm_1 wm_h)))), wm_c ⟨(wk_X0_setInEach_X0_setInEach_r1 _ (wm_8 (wm_4 wm_h))), wm_n⟩⟩⟩⟩
  · decide +kernel
theorem dX0_setInEach_0 : decode cX0_setInEach 0 = .ok (.aload_n 0, 1) := by decide +kernel
theorem dX0_setInEach_1 : decode cX0_setInEach 1 = .ok (.getfield 53, 3) := by decide +kernel
theorem dX0_setInEach_4 : decode cX0_setInEach 4 = .ok (.iconst 0, 1) := by decide +kernel
theorem dX0_setInEach_5 : decode cX0_setInEach 5 = .ok (.invokestatic 71, 3) := by decide +kernel
theorem dX0_setInEach_8 : decode cX0_setInEach 8 = .ok (.iconst 1, 1) := by decide +kernel
theorem dX0_setInEach_9 : decode cX0_setInEach 9 = .ok (.istore 5, 2) := by decide +kernel
theorem dX0_setInEach_11 : decode cX0_setInEach 11 = .ok (.iload 5, 2) := by decide +kernel
theorem dX0_setInEach_13 : decode cX0_setInEach 13 = .ok (.aload_n 0, 1) := by decide +kernel
theorem dX0_setInEach_14 : decode cX0_setInEach 14 = .ok (.getfield 21, 3) := by decide +kernel
theorem dX0_setInEach_17 : decode cX0_setInEach 17 = .ok (.if_icmp .gt 98, 3) := by decide +kernel
theorem dX0_setInEach_20 : decode cX0_setInEach 20 = .ok (.iconst 0, 1) := by decide +kernel
theorem dX0_setInEach_21 : decode cX0_setInEach 21 = .ok (.istore 6, 2) := by decide +kernel
theorem dX0_setInEach_23 : decode cX0_setInEach 23 = .ok (.iload 6, 2) := by decide +kernel
theorem dX0_setInEach_25 : decode cX0_setInEach 25 = .ok (.aload_n 0, 1) := by decide +kernel
theorem dX0_setInEach_26 : decode cX0_setInEach 26 = .ok (.getfield 30, 3) := by decide +kernel
theorem dX0_setInEach_29 : decode cX0_setInEach 29 = .ok (.iload 5, 2) := by decide +kernel
theorem dX0_setInEach_31 : decode cX0_setInEach 31 = .ok (.iaload, 1) := by decide +kernel
theorem dX0_setInEach_32 : decode cX0_setInEach 32 = .ok (.if_icmp .ge 77, 3) := by decide +kernel
theorem dX0_setInEach_35 : decode cX0_setInEach 35 = .ok (.aload_n 2, 1) := by decide +kernel
theorem dX0_setInEach_36 : decode cX0_setInEach 36 = .ok (.aload_n 0, 1) := by decide +kernel
theorem dX0_setInEach_37 : decode cX0_setInEach 37 = .ok (.getfield 34, 3) := by decide +kernel
theorem dX0_setInEach_40 : decode cX0_setInEach 40 = .ok (.iload 5, 2) := by decide +kernel
theorem dX0_setInEach_42 : decode cX0_setInEach 42 = .ok (.iaload, 1) := by decide +kernel
theorem dX0_setInEach_43 : decode cX0_setInEach 43 = .ok (.iload 6, 2) := by decide +kernel
theorem dX0_setInEach_45 : decode cX0_setInEach 45 = .ok (.iadd, 1) := by decide +kernel
theorem dX0_setInEach_46 : decode cX0_setInEach 46 = .ok (.iaload, 1) := by decide +kernel
theorem dX0_setInEach_47 : decode cX0_setInEach 47 = .ok (.istore 7, 2) := by decide +kernel
theorem dX0_setInEach_49 : decode cX0_setInEach 49 = .ok (.iconst 0, 1) := by decide +kernel
theorem dX0_setInEach_50 : decode cX0_setInEach 50 = .ok (.istore 8, 2) := by decide +kernel
theorem dX0_setInEach_52 : decode cX0_setInEach 52 = .ok (.iload 8, 2) := by decide +kernel
theorem dX0_setInEach_54 : decode cX0_setInEach 54 = .ok (.iload 5, 2) := by decide +kernel
theorem dX0_setInEach_56 : decode cX0_setInEach 56 = .ok (.if_icmp .ge 47, 3) := by decide +kernel
theorem dX0_setInEach_59 : decode cX0_setInEach 59 = .ok (.iload 7, 2) := by decide +kernel
theorem dX0_setInEach_61 : decode cX0_setInEach 61 = .ok (.ifCond .eq 42, 3) := by decide +kernel
theorem dX0_setInEach_64 : decode cX0_setInEach 64 = .ok (.iload 6, 2) := by decide +kernel
theorem dX0_setInEach_66 : decode cX0_setInEach 66 = .ok (.aload_n 0, 1) := by decide +kernel
theorem dX0_setInEach_67 : decode cX0_setInEach 67 = .ok (.getfield 30, 3) := by decide +kernel
theorem dX0_setInEach_70 : decode cX0_setInEach 70 = .ok (.iload 8, 2) := by decide +kernel
theorem dX0_setInEach_72 : decode cX0_setInEach 72 = .ok (.iaload, 1) := by decide +kernel
theorem dX0_setInEach_73 : decode cX0_setInEach 73 = .ok (.idiv, 1) := by decide +kernel
theorem dX0_setInEach_74 : decode cX0_setInEach 74 = .ok (.aload_n 0, 1) := by decide +kernel
theorem dX0_setInEach_75 : decode cX0_setInEach 75 = .ok (.getfield 25, 3) := by decide +kernel
theorem dX0_setInEach_78 : decode cX0_setInEach 78 = .ok (.irem, 1) := by decide +kernel
theorem dX0_setInEach_79 : decode cX0_setInEach 79 = .ok (.iload_n 3, 1) := by decide +kernel
theorem dX0_setInEach_80 : decode cX0_setInEach 80 = .ok (.if_icmp .ne 17, 3) := by decide +kernel
theorem dX0_setInEach_83 : decode cX0_setInEach 83 = .ok (.aload_n 0, 1) := by decide +kernel
theorem dX0_setInEach_84 : decode cX0_setInEach 84 = .ok (.iload 5, 2) := by decide +kernel
theorem dX0_setInEach_86 : decode cX0_setInEach 86 = .ok (.iload 6, 2) := by decide +kernel
theorem dX0_setInEach_88 : decode cX0_setInEach 88 = .ok (.iload 8, 2) := by decide +kernel
theorem dX0_setInEach_90 : decode cX0_setInEach 90 = .ok (.iload 7, 2) := by decide +kernel
theorem dX0_setInEach_92 : decode cX0_setInEach 92 = .ok (.aload 4, 2) := by decide +kernel
theorem dX0_setInEach_94 : decode cX0_setInEach 94 = .ok (.invokevirtual 130, 3) := by decide +kernel
theorem dX0_setInEach_97 : decode cX0_setInEach 97 = .ok (.iinc 8 1, 3) := by decide +kernel
theorem dX0_setInEach_100 : decode cX0_setInEach 100 = .ok (.goto (-48), 3) := by decide +kernel
theorem dX0_setInEach_103 : decode cX0_setInEach 103 = .ok (.iinc 6 1, 3) := by decide +kernel
theorem dX0_setInEach_106 : decode cX0_setInEach 106 = .ok (.goto (-83), 3) := by decide +kernel
theorem dX0_setInEach_109 : decode cX0_setInEach 109 = .ok (.iinc 5 1, 3) := by decide +kernel
theorem dX0_setInEach_112 : decode cX0_setInEach 112 = .ok (.goto (-101), 3) := by decide +kernel
theorem dX0_setInEach_115 : decode cX0_setInEach 115 = .ok (.aload_n 0, 1) := by decide +kernel
theorem dX0_setInEach_116 : decode cX0_setInEach 116 = .ok (.aload_n 1, 1) := by decide +kernel
theorem dX0_setInEach_117 : decode cX0_setInEach 117 = .ok (.aload_n 0, 1) := by decide +kernel
theorem dX0_setInEach_118 : decode cX0_setInEach 118 = .ok (.getfield 53, 3) := by decide +kernel
theorem dX0_setInEach_121 : decode cX0_setInEach 121 = .ok (.invokevirtual 93, 3) := by decide +kernel
theorem dX0_setInEach_124 : decode cX0_setInEach 124 = .ok (.return_, 1) := by decide +kernel
set_option maxRecDepth 20000 in
theorem ggX0_setInOne_X3_productMore : GoodIn wsX0_setInOne wsX3_productMore := by
  refine goodIn_sub ?_ gd_X3_productMore
  unfold wsX3_productMore
  refine wm_c ⟨(wm_1 (wm_l (wm_4 (wm_2 (wm_1 wm_h))))), ?_⟩
  refine wm_c ⟨(wm_1 (wm_l (wm_8 wm_h))), ?_⟩
  exact wm_n
set_option maxRecDepth 20000 in
theorem gX0_setInOne_X3_productMore : GoodIn wsX0_setInOne (va_wsS RX0 77 yX3_productMore wsX3_productMore) := goodIn_app (goodIn_of _ (by decide +kernel)) ggX0_setInOne_X3_productMore
theorem dX0_setInOne_0 : decode cX0_setInOne 0 = .ok (.iload_n 2, 1) := by decide +kernel
theorem dX0_setInOne_1 : decode cX0_setInOne 1 = .ok (.aload_n 0, 1) := by decide +kernel
theorem dX0_setInOne_2 : decode cX0_setInOne 2 = .ok (.getfield 30, 3) := by decide +kernel
theorem dX0_setInOne_5 : decode cX0_setInOne 5 = .ok (.iload_n 3, 1) := by decide +kernel
theorem dX0_setInOne_6 : decode cX0_setInOne 6 = .ok (.iconst 1, 1) := by decide +kernel
theorem dX0_setInOne_7 : decode cX0_setInOne 7 = .ok (.iadd, 1) := by decide +kernel
theorem dX0_setInOne_8 : decode cX0_setInOne 8 = .ok (.iaload, 1) := by decide +kernel
theorem dX0_setInOne_9 : decode cX0_setInOne 9 = .ok (.idiv, 1) := by decide +kernel
theorem dX0_setInOne_10 : decode cX0_setInOne 10 = .ok (.istore 6, 2) := by decide +kernel
theorem dX0_setInOne_12 : decode cX0_setInOne 12 = .ok (.iload_n 2, 1) := by decide +kernel
theorem dX0_setInOne_13 : decode cX0_setInOne 13 = .ok (.aload_n 0, 1) := by decide +kernel
theorem dX0_setInOne_14 : decode cX0_setInOne 14 = .ok (.getfield 30, 3) := by decide +kernel
theorem dX0_setInOne_17 : decode cX0_setInOne 17 = .ok (.iload_n 3, 1) := by decide +kernel
theorem dX0_setInOne_18 : decode cX0_setInOne 18 = .ok (.iaload, 1) := by decide +kernel
theorem dX0_setInOne_19 : decode cX0_setInOne 19 = .ok (.irem, 1) := by decide +kernel
theorem dX0_setInOne_20 : decode cX0_setInOne 20 = .ok (.istore 7, 2) := by decide +kernel
theorem dX0_setInOne_22 : decode cX0_setInOne 22 = .ok (.iconst 0, 1) := by decide +kernel
theorem dX0_setInOne_23 : decode cX0_setInOne 23 = .ok (.istore 8, 2) := by decide +kernel
theorem dX0_setInOne_25 : decode cX0_setInOne 25 = .ok (.iload 8, 2) := by decide +kernel
theorem dX0_setInOne_27 : decode cX0_setInOne 27 = .ok (.aload_n 0, 1) := by decide +kernel
theorem dX0_setInOne_28 : decode cX0_setInOne 28 = .ok (.getfield 21, 3) := by decide +kernel
theorem dX0_setInOne_31 : decode cX0_setInOne 31 = .ok (.iload_n 1, 1) := by decide +kernel
theorem dX0_setInOne_32 : decode cX0_setInOne 32 = .ok (.isub, 1) := by decide +kernel
theorem dX0_setInOne_33 : decode cX0_setInOne 33 = .ok (.iconst 1, 1) := by decide +kernel
theorem dX0_setInOne_34 : decode cX0_setInOne 34 = .ok (.iadd, 1) := by decide +kernel
theorem dX0_setInOne_35 : decode cX0_setInOne 35 = .ok (.if_icmp .gt 108, 3) := by decide +kernel
theorem dX0_setInOne_38 : decode cX0_setInOne 38 = .ok (.iconst 0, 1) := by decide +kernel
theorem dX0_setInOne_39 : decode cX0_setInOne 39 = .ok (.istore 9, 2) := by decide +kernel
theorem dX0_setInOne_41 : decode cX0_setInOne 41 = .ok (.iload 9, 2) := by decide +kernel
theorem dX0_setInOne_43 : decode cX0_setInOne 43 = .ok (.aload_n 0, 1) := by decide +kernel
theorem dX0_setInOne_44 : decode cX0_setInOne 44 = .ok (.getfield 30, 3) := by decide +kernel
theorem dX0_setInOne_47 : decode cX0_setInOne 47 = .ok (.iload 8, 2) := by decide +kernel
theorem dX0_setInOne_49 : decode cX0_setInOne 49 = .ok (.iaload, 1) := by decide +kernel
theorem dX0_setInOne_50 : decode cX0_setInOne 50 = .ok (.if_icmp .ge 87, 3) := by decide +kernel
theorem dX0_setInOne_53 : decode cX0_setInOne 53 = .ok (.aload 5, 2) := by decide +kernel
theorem dX0_setInOne_55 : decode cX0_setInOne 55 = .ok (.aload_n 0, 1) := by decide +kernel
theorem dX0_setInOne_56 : decode cX0_setInOne 56 = .ok (.getfield 34, 3) := by decide +kernel
theorem dX0_setInOne_59 : decode cX0_setInOne 59 = .ok (.iload 8, 2) := by decide +kernel
theorem dX0_setInOne_61 : decode cX0_setInOne 61 = .ok (.iaload, 1) := by decide +kernel
theorem dX0_setInOne_62 : decode cX0_setInOne 62 = .ok (.iload 9, 2) := by decide +kernel
theorem dX0_setInOne_64 : decode cX0_setInOne 64 = .ok (.iadd, 1) := by decide +kernel
theorem dX0_setInOne_65 : decode cX0_setInOne 65 = .ok (.iaload, 1) := by decide +kernel
theorem dX0_setInOne_66 : decode cX0_setInOne 66 = .ok (.istore 10, 2) := by decide +kernel
theorem dX0_setInOne_68 : decode cX0_setInOne 68 = .ok (.iload 10, 2) := by decide +kernel
theorem dX0_setInOne_70 : decode cX0_setInOne 70 = .ok (.ifCond .eq 61, 3) := by decide +kernel
theorem dX0_setInOne_73 : decode cX0_setInOne 73 = .ok (.aload_n 0, 1) := by decide +kernel
theorem dX0_setInOne_74 : decode cX0_setInOne 74 = .ok (.getfield 34, 3) := by decide +kernel
theorem dX0_setInOne_77 : decode cX0_setInOne 77 = .ok (.iload_n 1, 1) := by decide +kernel
theorem dX0_setInOne_78 : decode cX0_setInOne 78 = .ok (.iconst 1, 1) := by decide +kernel
theorem dX0_setInOne_79 : decode cX0_setInOne 79 = .ok (.isub, 1) := by decide +kernel
theorem dX0_setInOne_80 : decode cX0_setInOne 80 = .ok (.iload 8, 2) := by decide +kernel
theorem dX0_setInOne_82 : decode cX0_setInOne 82 = .ok (.iadd, 1) := by decide +kernel
theorem dX0_setInOne_83 : decode cX0_setInOne 83 = .ok (.iaload, 1) := by decide +kernel
theorem dX0_setInOne_84 : decode cX0_setInOne 84 = .ok (.iload 6, 2) := by decide +kernel
theorem dX0_setInOne_86 : decode cX0_setInOne 86 = .ok (.aload_n 0, 1) := by decide +kernel
theorem dX0_setInOne_87 : decode cX0_setInOne 87 = .ok (.getfield 30, 3) := by decide +kernel
theorem dX0_setInOne_90 : decode cX0_setInOne 90 = .ok (.iload 8, 2) := by decide +kernel
theorem dX0_setInOne_92 : decode cX0_setInOne 92 = .ok (.iaload, 1) := by decide +kernel
theorem dX0_setInOne_93 : decode cX0_setInOne 93 = .ok (.imul, 1) := by decide +kernel
theorem dX0_setInOne_94 : decode cX0_setInOne 94 = .ok (.iload 9, 2) := by decide +kernel
theorem dX0_setInOne_96 : decode cX0_setInOne 96 = .ok (.iadd, 1) := by decide +kernel
theorem dX0_setInOne_97 : decode cX0_setInOne 97 = .ok (.aload_n 0, 1) := by decide +kernel
theorem dX0_setInOne_98 : decode cX0_setInOne 98 = .ok (.getfield 30, 3) := by decide +kernel
theorem dX0_setInOne_101 : decode cX0_setInOne 101 = .ok (.iload_n 3, 1) := by decide +kernel
theorem dX0_setInOne_102 : decode cX0_setInOne 102 = .ok (.iaload, 1) := by decide +kernel
theorem dX0_setInOne_103 : decode cX0_setInOne 103 = .ok (.imul, 1) := by decide +kernel
theorem dX0_setInOne_104 : decode cX0_setInOne 104 = .ok (.iadd, 1) := by decide +kernel
theorem dX0_setInOne_105 : decode cX0_setInOne 105 = .ok (.iload 7, 2) := by decide +kernel
theorem dX0_setInOne_107 : decode cX0_setInOne 107 = .ok (.iadd, 1) := by decide +kernel
theorem dX0_setInOne_108 : decode cX0_setInOne 108 = .ok (.istore 11, 2) := by decide +kernel
theorem dX0_setInOne_110 : decode cX0_setInOne 110 = .ok (.aload_n 0, 1) := by decide +kernel
theorem dX0_setInOne_111 : decode cX0_setInOne 111 = .ok (.getfield 53, 3) := by decide +kernel
theorem dX0_setInOne_114 : decode cX0_setInOne 114 = .ok (.iload 11, 2) := by decide +kernel
theorem dX0_setInOne_116 : decode cX0_setInOne 116 = .ok (.aload_n 0, 1) := by decide +kernel
theorem dX0_setInOne_117 : decode cX0_setInOne 117 = .ok (.getfield 53, 3) := by decide +kernel
theorem dX0_setInOne_120 : decode cX0_setInOne 120 = .ok (.iload 11, 2) := by decide +kernel
theorem dX0_setInOne_122 : decode cX0_setInOne 122 = .ok (.iaload, 1) := by decide +kernel
theorem dX0_setInOne_123 : decode cX0_setInOne 123 = .ok (.iload 4, 2) := by decide +kernel
theorem dX0_setInOne_125 : decode cX0_setInOne 125 = .ok (.iload 10, 2) := by decide +kernel
theorem dX0_setInOne_127 : decode cX0_setInOne 127 = .ok (.invokestatic 77, 3) := by decide +kernel
theorem dX0_setInOne_130 : decode cX0_setInOne 130 = .ok (.iastore, 1) := by decide +kernel
theorem dX0_setInOne_131 : decode cX0_setInOne 131 = .ok (.iinc 9 1, 3) := by decide +kernel
theorem dX0_setInOne_134 : decode cX0_setInOne 134 = .ok (.goto (-93), 3) := by decide +kernel
theorem dX0_setInOne_137 : decode cX0_setInOne 137 = .ok (.iinc 8 1, 3) := by decide +kernel
theorem dX0_setInOne_140 : decode cX0_setInOne 140 = .ok (.goto (-115), 3) := by decide +kernel
theorem dX0_setInOne_143 : decode cX0_setInOne 143 = .ok (.return_, 1) := by decide +kernel
set_option maxRecDepth 20000 in
theorem ggX0_setInAll_X0_setBehind : GoodIn wsX0_setInAll wsX0_setBehind := by
  refine goodIn_sub ?_ gd_X0_setBehind
  unfold wsX0_setBehind
  refine wm_c ⟨(wk_X0_setInAll_X0_setInAll_r1 _ (wm_4 (wm_1 wm_h))), ?_⟩
  refine wm_a ⟨?_, ?_⟩
  · refine wm_a ⟨?_, ?_⟩
    · unfold wsX0_setBehind_r1
      refine wm_c ⟨(wk_X0_setInAll_X0_setInAll_r1 _ wm_h), ?_⟩
      refine wm_c ⟨(wk_X0_setInAll_X0_setInAll_r1 _ (wm_4 (wm_2 wm_h))), ?_⟩
      refine wm_c ⟨(wk_X0_setInAll_X0_setInAll_r1 _ (wm_4 (wm_2 (wm_1 wm_h)))), ?_⟩
      refine wm_c ⟨(wk_X0_setInAll_X0_setInAll_r1 _ (wm_8 wm_h)), ?_⟩
      refine wm_c ⟨(wk_X0_setInAll_X0_setInAll_r1 _ (wm_8 (wm_1 wm_h))), ?_⟩
      refine wm_c ⟨(wk_X0_setInAll_X0_setInAll_r1 _ (wm_8 (wm_2 wm_h))), ?_⟩
      refine wm_c ⟨(wk_X0_setInAll_X0_setInAll_r1 _ (wm_8 (wm_2 (wm_1 wm_h)))), ?_⟩
      refine wm_c ⟨(wk_X0_setInAll_X0_setInAll_r1 _ (wm_8 (wm_4 wm_h))), ?_⟩
      refine wm_c ⟨(wk_X0_setInAll_X0_setInAll_r1 _ (wm_8 (wm_4 (wm_1 wm_h)))), ?_⟩
      refine wm_c ⟨(wk_X0_setInAll_X0_setInAll_r1 _ (wm_8 (wm_4 (wm_2 wm_h)))), ?_⟩
      refine wm_c ⟨(wk_X0_setInAll_X0_setInAll_r1 _ (wm_8 (wm_4 (wm_2 (wm_1 wm_h))))), ?_⟩
      refine wm_c ⟨(wk_X0_setInAll_X0_setInAll_r1 _ (wm_16 wm_h)), ?_⟩
      refine wm_c ⟨(wk_X0_setInAll_X0_setInAll_r1 _ (wm_16 (wm_1 wm_h))), ?_⟩
      refine wm_c ⟨(wk_X0_setInAll_X0_setInAll_r1 _ (wm_16 (wm_2 wm_h))), ?_⟩
      refine wm_c ⟨(wk_X0_setInAll_X0_setInAll_r1 _ (wm_16 (wm_2 (wm_1 wm_h)))), ?_⟩
      refine wm_c ⟨(wk_X0_setInAll_X0_setInAll_r1 _ (wm_1 wm_h)), ?_⟩
      refine wm_c ⟨(wk_X0_setInAll_X0_setInAll_r1 _ (wm_2 wm_h)), ?_⟩
      refine wm_c ⟨(wk_X0_setInAll_X0_setInAll_r1 _ (wm_2 (wm_1 wm_h))), ?_⟩
      refine wm_c ⟨(wk_X0_setInAll_X0_setInAll_r1 _ (wm_4 wm_h)), ?_⟩
      refine wm_c ⟨(wk_X0_setInAll_X0_setInAll_r1 _ (wm_16 (wm_4 wm_h))), ?_⟩
      refine wm_c ⟨(wk_X0_setInAll_X0_setInAll_r1 _ (wm_16 (wm_4 (wm_1 wm_h)))), ?_⟩
      refine wm_c ⟨(wk_X0_setInAll_X0_setInAll_r1 _ (wm_16 (wm_4 (wm_2 wm_h)))), ?_⟩
      refine wm_c ⟨(wk_X0_setInAll_X0_setInAll_r1 _ (wm_16 (wm_4 (wm_2 (wm_1 wm_h))))), ?_⟩
      refine wm_c ⟨(wk_X0_setInAll_X0_setInAll_r2 _ wm_h), ?_⟩
      exact wm_n
    · unfold wsX0_setBehind_r2
      refine wm_c ⟨(wk_X0_setInAll_X0_setInAll_r2 _ (wm_1 wm_h)), ?_⟩
      refine wm_c ⟨(wk_X0_setInAll_X0_setInAll_r2 _ (wm_2 wm_h)), ?_⟩
      refine wm_c ⟨(wk_X0_setInAll_X0_setInAll_r2 _ (wm_2 (wm_1 wm_h))), ?_⟩
      refine wm_c ⟨(wk_X0_setInAll_X0_setInAll_r2 _ (wm_4 wm_h)), ?_⟩
      refine wm_c ⟨(wk_X0_setInAll_X0_setInAll_r2 _ (wm_4 (wm_1 wm_h))), ?_⟩
      refine wm_c ⟨(wk_X0_setInAll_X0_setInAll_r2 _ (wm_4 (wm_2 wm_h))), ?_⟩
      refine wm_c ⟨(wk_X0_setInAll_X0_setInAll_r2 _ (wm_4 (wm_2 (wm_1 wm_h)))), ?_⟩
      refine wm_c ⟨(wk_X0_setInAll_X0_setInAll_r2 _ (wm_8 wm_h)), ?_⟩
      refine wm_c ⟨(wk_X0_setInAll_X0_setInAll_r2 _ (wm_8 (wm_1 wm_h))), ?_⟩
      refine wm_c ⟨(wk_X0_setInAll_X0_setInAll_r2 _ (wm_8 (wm_2 wm_h))), ?_⟩
      exact wm_n
  · exact wk_X0_setInAll_X00
set_option maxRecDepth 20000 in
theorem gX0_setInAll_X0_setBehind : GoodIn wsX0_setInAll (wsV RX0 134 RX0 yX0_setBehind wsX0_setBehind) := by
  refine goodIn_app (goodIn_sub ?_ ?_) ggX0_setInAll_X0_setBehind
  · exact wm_c ⟨(wk_X0_setInAll_X0_setInAll_r1 _ (wm_1 wm_h)), wm_c ⟨(wk_X0_setInAll_X0_setInAll_r1 _ (wm_2 wm_h)), wm_c ⟨(wk_X0_setInAll_X0_setInAll_r1 _ (wm_2 (wm_1 wm_h))), wm_c ⟨(wk_X0_setInAll_X0_setInAll_r1 _ (wm_4 wm_h)), wm_n⟩⟩⟩⟩
  · decide +kernel
set_option maxRecDepth 20000 in
theorem ggX0_setInAll_X0_copy : GoodIn wsX0_setInAll wsX0_copy := by
  refine goodIn_sub ?_ gd_X0_copy
  unfold wsX0_copy
  refine wm_c ⟨(wk_X0_setInAll_X0_setInAll_r2 _ (wm_8 (wm_4 (wm_2 wm_h)))), ?_⟩
  refine wm_c ⟨(wk_X0_setInAll_X0_setInAll_r2 _ (wm_8 (wm_4 (wm_2 (wm_1 wm_h))))), ?_⟩
  refine wm_c ⟨(wk_X0_setInAll_X0_setInAll_r2 _ (wm_16 wm_h)), ?_⟩
  refine wm_c ⟨(wk_X0_setInAll_X0_setInAll_r2 _ (wm_16 (wm_1 wm_h))), ?_⟩
  refine wm_c ⟨(wk_X0_setInAll_X0_setInAll_r2 _ (wm_16 (wm_2 wm_h))), ?_⟩
  exact wm_n
set_option maxRecDepth 20000 in
theorem gX0_setInAll_X0_copy : GoodIn wsX0_setInAll (wsV RX0 93 RX0 yX0_copy wsX0_copy) := by
  refine goodIn_app (goodIn_sub ?_ ?_) ggX0_setInAll_X0_copy
  · exact wm_c ⟨(wk_X0_setInAll_X0_setInAll_r2 _ (wm_8 (wm_2 (wm_1 wm_h)))), wm_c ⟨(wk_X0_setInAll_X0_setInAll_r2 _ (wm_8 (wm_4 wm_h))), wm_c ⟨(wk_X0_setInAll_X0_setInAll_r2 _ (wm_8 (wm_4 (wm_1 wm_h)))), wm_c ⟨(wk_X0_setInAll_X0_setInAll_r1 _ (wm_4 wm_h)), wm_n⟩⟩⟩⟩
  · decide +kernel
theorem dX0_setInAll_0 : decode cX0_setInAll 0 = .ok (.aload_n 0, 1) := by decide +kernel
theorem dX0_setInAll_1 : decode cX0_setInAll 1 = .ok (.aload_n 2, 1) := by decide +kernel
theorem dX0_setInAll_2 : decode cX0_setInAll 2 = .ok (.iconst 0, 1) := by decide +kernel
theorem dX0_setInAll_3 : decode cX0_setInAll 3 = .ok (.iconst 0, 1) := by decide +kernel
theorem dX0_setInAll_4 : decode cX0_setInAll 4 = .ok (.iload_n 3, 1) := by decide +kernel
theorem dX0_setInAll_5 : decode cX0_setInAll 5 = .ok (.aload 4, 2) := by decide +kernel
theorem dX0_setInAll_7 : decode cX0_setInAll 7 = .ok (.invokevirtual 134, 3) := by decide +kernel
theorem dX0_setInAll_10 : decode cX0_setInAll 10 = .ok (.aload_n 0, 1) := by decide +kernel
theorem dX0_setInAll_11 : decode cX0_setInAll 11 = .ok (.aload_n 1, 1) := by decide +kernel
theorem dX0_setInAll_12 : decode cX0_setInAll 12 = .ok (.aload_n 0, 1) := by decide +kernel
theorem dX0_setInAll_13 : decode cX0_setInAll 13 = .ok (.getfield 50, 3) := by decide +kernel
theorem dX0_setInAll_16 : decode cX0_setInAll 16 = .ok (.iconst 0, 1) := by decide +kernel
theorem dX0_setInAll_17 : decode cX0_setInAll 17 = .ok (.aaload, 1) := by decide +kernel
theorem dX0_setInAll_18 : decode cX0_setInAll 18 = .ok (.invokevirtual 93, 3) := by decide +kernel
theorem dX0_setInAll_21 : decode cX0_setInAll 21 = .ok (.return_, 1) := by decide +kernel
set_option maxRecDepth 20000 in
theorem ggX0_setBehind_J7_fill_fda19 : GoodIn wsX0_setBehind wsJ7_fill_fda19 := by
  refine goodIn_sub ?_ gd_J7_fill_fda19
  unfold wsJ7_fill_fda19
  refine wm_c ⟨(wk_X0_setBehind_X0_setBehind_r1 _ (wm_8 (wm_2 (wm_1 wm_h)))), ?_⟩
  refine wm_c ⟨(wk_X0_setBehind_X0_setBehind_r1 _ (wm_8 (wm_4 wm_h))), ?_⟩
  refine wm_c ⟨(wk_X0_setBehind_X0_setBehind_r1 _ (wm_8 (wm_4 (wm_1 wm_h)))), ?_⟩
  refine wm_c ⟨(wk_X0_setBehind_X0_setBehind_r1 _ (wm_8 (wm_2 wm_h))), ?_⟩
  refine wm_c ⟨(wk_X0_setBehind_X0_setBehind_r1 _ (wm_8 (wm_4 (wm_2 wm_h)))), ?_⟩
  exact wm_n
set_option maxRecDepth 20000 in
theorem gX0_setBehind_J7_fill_fda19 : GoodIn wsX0_setBehind (va_wsS RX0 143 yJ7_fill_fda19 wsJ7_fill_fda19) := goodIn_app (goodIn_of _ (by decide +kernel)) ggX0_setBehind_J7_fill_fda19
set_option maxRecDepth 20000 in
theorem ggX0_setBehind_X0_setBehind : GoodIn wsX0_setBehind wsX0_setBehind := by
  refine goodIn_sub ?_ gd_X0_setBehind
  unfold wsX0_setBehind
  refine wm_c ⟨wm_h, ?_⟩
  refine wm_a ⟨?_, ?_⟩
  · refine wm_a ⟨?_, ?_⟩
    · exact wk_X0_setBehind_X0_setBehind_r1
    · exact wk_X0_setBehind_X0_setBehind_r2
  · exact wk_X0_setBehind_X00
set_option maxRecDepth 20000 in
theorem gX0_setBehind_X0_setBehind : GoodIn wsX0_setBehind (wsV RX0 134 RX0 yX0_setBehind wsX0_setBehind) := by
  refine goodIn_app (goodIn_sub ?_ ?_) ggX0_setBehind_X0_setBehind
  · exact wm_c ⟨(wk_X0_setBehind_X0_setBehind_r1 _ (wm_8 (wm_4 (wm_2 (wm_1 wm_h))))), wm_c ⟨(wk_X0_setBehind_X0_setBehind_r1 _ (wm_16 wm_h)), wm_c ⟨(wk_X0_setBehind_X0_setBehind_r1 _ (wm_16 (wm_1 wm_h))), wm_c ⟨(wk_X0_setBehind_X0_setBehind_r1 _ (wm_16 (wm_2 wm_h))), wm_n⟩⟩⟩⟩
  · decide +kernel
set_option maxRecDepth 20000 in
theorem ggX0_setBehind_X0_gather : GoodIn wsX0_setBehind wsX0_gather := by
  refine goodIn_sub ?_ gd_X0_gather
  unfold wsX0_gather
  refine wm_c ⟨(wk_X0_setBehind_X0_setBehind_r1 _ (wm_16 (wm_4 (wm_2 wm_h)))), ?_⟩
  refine wm_a ⟨?_, ?_⟩
  · refine wm_c ⟨(wk_X0_setBehind_X0_setBehind_r1 _ (wm_16 (wm_4 (wm_2 (wm_1 wm_h))))), ?_⟩
    refine wm_c ⟨(wk_X0_setBehind_X0_setBehind_r1 _ (wm_2 wm_h)), ?_⟩
    refine wm_c ⟨(wk_X0_setBehind_X0_setBehind_r2 _ wm_h), ?_⟩
    exact wm_n
  · exact wk_X0_setBehind_X00
set_option maxRecDepth 20000 in
theorem gX0_setBehind_X0_gather : GoodIn wsX0_setBehind (wsV RX0 89 RX0 yX0_gather wsX0_gather) := by
  refine goodIn_app (goodIn_sub ?_ ?_) ggX0_setBehind_X0_gather
  · exact wm_c ⟨(wk_X0_setBehind_X0_setBehind_r1 _ (wm_16 (wm_2 (wm_1 wm_h)))), wm_c ⟨(wk_X0_setBehind_X0_setBehind_r1 _ (wm_16 (wm_4 wm_h))), wm_c ⟨(wk_X0_setBehind_X0_setBehind_r1 _ (wm_16 (wm_4 (wm_1 wm_h)))), wm_c ⟨(wk_X0_setBehind_X0_setBehind_r1 _ (wm_16 (wm_2 wm_h))), wm_n⟩⟩⟩⟩
  · decide +kernel
set_option maxRecDepth 20000 in
theorem ggX0_setBehind_X0_gatherAhead : GoodIn wsX0_setBehind wsX0_gatherAhead := by
  refine goodIn_sub ?_ gd_X0_gatherAhead
  unfold wsX0_gatherAhead
  refine wm_c ⟨(wk_X0_setBehind_X0_setBehind_r2 _ (wm_4 wm_h)), ?_⟩
  refine wm_a ⟨?_, ?_⟩
  · refine wm_c ⟨(wk_X0_setBehind_X0_setBehind_r1 _ (wm_2 wm_h)), ?_⟩
    refine wm_c ⟨(wk_X0_setBehind_X0_setBehind_r1 _ (wm_16 (wm_4 (wm_2 (wm_1 wm_h))))), ?_⟩
    refine wm_c ⟨(wk_X0_setBehind_X0_setBehind_r2 _ (wm_4 (wm_1 wm_h))), ?_⟩
    refine wm_c ⟨(wk_X0_setBehind_X0_setBehind_r2 _ (wm_4 (wm_2 wm_h))), ?_⟩
    refine wm_c ⟨(wk_X0_setBehind_X0_setBehind_r2 _ (wm_4 (wm_2 (wm_1 wm_h)))), ?_⟩
    refine wm_c ⟨(wk_X0_setBehind_X0_setBehind_r2 _ (wm_8 wm_h)), ?_⟩
    refine wm_c ⟨(wk_X0_setBehind_X0_setBehind_r2 _ (wm_8 (wm_1 wm_h))), ?_⟩
    exact wm_n
  · exact wk_X0_setBehind_X00
set_option maxRecDepth 20000 in
theorem gX0_setBehind_X0_gatherAhead : GoodIn wsX0_setBehind (wsV RX0 146 RX0 yX0_gatherAhead wsX0_gatherAhead) := by
  refine goodIn_app (goodIn_sub ?_ ?_) ggX0_setBehind_X0_gatherAhead
  · exact wm_c ⟨(wk_X0_setBehind_X0_setBehind_r2 _ (wm_1 wm_h)), wm_c ⟨(wk_X0_setBehind_X0_setBehind_r2 _ (wm_2 wm_h)), wm_c ⟨(wk_X0_setBehind_X0_setBehind_r2 _ (wm_2 (wm_1 wm_h))), wm_c ⟨(wk_X0_setBehind_X0_setBehind_r1 _ (wm_16 (wm_2 wm_h))), wm_n⟩⟩⟩⟩
  · decide +kernel
theorem dX0_setBehind_0 : decode cX0_setBehind 0 = .ok (.aload_n 0, 1) := by decide +kernel
theorem dX0_setBehind_1 : decode cX0_setBehind 1 = .ok (.getfield 50, 3) := by decide +kernel
theorem dX0_setBehind_4 : decode cX0_setBehind 4 = .ok (.iload_n 2, 1) := by decide +kernel
theorem dX0_setBehind_5 : decode cX0_setBehind 5 = .ok (.aaload, 1) := by decide +kernel
theorem dX0_setBehind_6 : decode cX0_setBehind 6 = .ok (.astore 6, 2) := by decide +kernel
theorem dX0_setBehind_8 : decode cX0_setBehind 8 = .ok (.aload_n 0, 1) := by decide +kernel
theorem dX0_setBehind_9 : decode cX0_setBehind 9 = .ok (.getfield 21, 3) := by decide +kernel
theorem dX0_setBehind_12 : decode cX0_setBehind 12 = .ok (.iload_n 2, 1) := by decide +kernel
theorem dX0_setBehind_13 : decode cX0_setBehind 13 = .ok (.isub, 1) := by decide +kernel
theorem dX0_setBehind_14 : decode cX0_setBehind 14 = .ok (.istore 7, 2) := by decide +kernel
theorem dX0_setBehind_16 : decode cX0_setBehind 16 = .ok (.aload 6, 2) := by decide +kernel
theorem dX0_setBehind_18 : decode cX0_setBehind 18 = .ok (.iconst 0, 1) := by decide +kernel
theorem dX0_setBehind_19 : decode cX0_setBehind 19 = .ok (.aload_n 0, 1) := by decide +kernel
theorem dX0_setBehind_20 : decode cX0_setBehind 20 = .ok (.getfield 34, 3) := by decide +kernel
theorem dX0_setBehind_23 : decode cX0_setBehind 23 = .ok (.iload 7, 2) := by decide +kernel
theorem dX0_setBehind_25 : decode cX0_setBehind 25 = .ok (.iconst 2, 1) := by decide +kernel
theorem dX0_setBehind_26 : decode cX0_setBehind 26 = .ok (.iadd, 1) := by decide +kernel
theorem dX0_setBehind_27 : decode cX0_setBehind 27 = .ok (.aload_n 0, 1) := by decide +kernel
theorem dX0_setBehind_28 : decode cX0_setBehind 28 = .ok (.getfield 21, 3) := by decide +kernel
theorem dX0_setBehind_31 : decode cX0_setBehind 31 = .ok (.iconst 1, 1) := by decide +kernel
theorem dX0_setBehind_32 : decode cX0_setBehind 32 = .ok (.iadd, 1) := by decide +kernel
theorem dX0_setBehind_33 : decode cX0_setBehind 33 = .ok (.invokestatic 138, 3) := by decide +kernel
theorem dX0_setBehind_36 : decode cX0_setBehind 36 = .ok (.iaload, 1) := by decide +kernel
theorem dX0_setBehind_37 : decode cX0_setBehind 37 = .ok (.iconst 0, 1) := by decide +kernel
theorem dX0_setBehind_38 : decode cX0_setBehind 38 = .ok (.invokestatic 143, 3) := by decide +kernel
theorem dX0_setBehind_41 : decode cX0_setBehind 41 = .ok (.aload 6, 2) := by decide +kernel
theorem dX0_setBehind_43 : decode cX0_setBehind 43 = .ok (.iconst 0, 1) := by decide +kernel
theorem dX0_setBehind_44 : decode cX0_setBehind 44 = .ok (.aload_n 1, 1) := by decide +kernel
theorem dX0_setBehind_45 : decode cX0_setBehind 45 = .ok (.aload_n 0, 1) := by decide +kernel
theorem dX0_setBehind_46 : decode cX0_setBehind 46 = .ok (.getfield 34, 3) := by decide +kernel
theorem dX0_setBehind_49 : decode cX0_setBehind 49 = .ok (.iload_n 2, 1) := by decide +kernel
theorem dX0_setBehind_50 : decode cX0_setBehind 50 = .ok (.iaload, 1) := by decide +kernel
theorem dX0_setBehind_51 : decode cX0_setBehind 51 = .ok (.iload_n 3, 1) := by decide +kernel
theorem dX0_setBehind_52 : decode cX0_setBehind 52 = .ok (.iadd, 1) := by decide +kernel
theorem dX0_setBehind_53 : decode cX0_setBehind 53 = .ok (.iaload, 1) := by decide +kernel
theorem dX0_setBehind_54 : decode cX0_setBehind 54 = .ok (.iastore, 1) := by decide +kernel
theorem dX0_setBehind_55 : decode cX0_setBehind 55 = .ok (.iload_n 2, 1) := by decide +kernel
theorem dX0_setBehind_56 : decode cX0_setBehind 56 = .ok (.aload_n 0, 1) := by decide +kernel
theorem dX0_setBehind_57 : decode cX0_setBehind 57 = .ok (.getfield 21, 3) := by decide +kernel
theorem dX0_setBehind_60 : decode cX0_setBehind 60 = .ok (.if_icmp .lt 4, 3) := by decide +kernel
theorem dX0_setBehind_63 : decode cX0_setBehind 63 = .ok (.return_, 1) := by decide +kernel
theorem dX0_setBehind_64 : decode cX0_setBehind 64 = .ok (.aload_n 0, 1) := by decide +kernel
theorem dX0_setBehind_65 : decode cX0_setBehind 65 = .ok (.getfield 50, 3) := by decide +kernel
theorem dX0_setBehind_68 : decode cX0_setBehind 68 = .ok (.iload_n 2, 1) := by decide +kernel
theorem dX0_setBehind_69 : decode cX0_setBehind 69 = .ok (.iconst 1, 1) := by decide +kernel
theorem dX0_setBehind_70 : decode cX0_setBehind 70 = .ok (.iadd, 1) := by decide +kernel
theorem dX0_setBehind_71 : decode cX0_setBehind 71 = .ok (.aaload, 1) := by decide +kernel
theorem dX0_setBehind_72 : decode cX0_setBehind 72 = .ok (.astore 8, 2) := by decide +kernel
theorem dX0_setBehind_74 : decode cX0_setBehind 74 = .ok (.iconst 0, 1) := by decide +kernel
theorem dX0_setBehind_75 : decode cX0_setBehind 75 = .ok (.istore 9, 2) := by decide +kernel
theorem dX0_setBehind_77 : decode cX0_setBehind 77 = .ok (.iload 9, 2) := by decide +kernel
theorem dX0_setBehind_79 : decode cX0_setBehind 79 = .ok (.aload_n 0, 1) := by decide +kernel
theorem dX0_setBehind_80 : decode cX0_setBehind 80 = .ok (.getfield 25, 3) := by decide +kernel
theorem dX0_setBehind_83 : decode cX0_setBehind 83 = .ok (.if_icmp .ge 67, 3) := by decide +kernel
theorem dX0_setBehind_86 : decode cX0_setBehind 86 = .ok (.aload_n 0, 1) := by decide +kernel
theorem dX0_setBehind_87 : decode cX0_setBehind 87 = .ok (.aload_n 1, 1) := by decide +kernel
theorem dX0_setBehind_88 : decode cX0_setBehind 88 = .ok (.iload_n 2, 1) := by decide +kernel
theorem dX0_setBehind_89 : decode cX0_setBehind 89 = .ok (.iconst 1, 1) := by decide +kernel
theorem dX0_setBehind_90 : decode cX0_setBehind 90 = .ok (.iadd, 1) := by decide +kernel
theorem dX0_setBehind_91 : decode cX0_setBehind 91 = .ok (.iload_n 3, 1) := by decide +kernel
theorem dX0_setBehind_92 : decode cX0_setBehind 92 = .ok (.aload_n 0, 1) := by decide +kernel
theorem dX0_setBehind_93 : decode cX0_setBehind 93 = .ok (.getfield 25, 3) := by decide +kernel
theorem dX0_setBehind_96 : decode cX0_setBehind 96 = .ok (.imul, 1) := by decide +kernel
theorem dX0_setBehind_97 : decode cX0_setBehind 97 = .ok (.iload 9, 2) := by decide +kernel
theorem dX0_setBehind_99 : decode cX0_setBehind 99 = .ok (.iadd, 1) := by decide +kernel
theorem dX0_setBehind_100 : decode cX0_setBehind 100 = .ok (.iload 4, 2) := by decide +kernel
theorem dX0_setBehind_102 : decode cX0_setBehind 102 = .ok (.aload 5, 2) := by decide +kernel
theorem dX0_setBehind_104 : decode cX0_setBehind 104 = .ok (.invokevirtual 134, 3) := by decide +kernel
theorem dX0_setBehind_107 : decode cX0_setBehind 107 = .ok (.iload 9, 2) := by decide +kernel
theorem dX0_setBehind_109 : decode cX0_setBehind 109 = .ok (.iload 4, 2) := by decide +kernel
theorem dX0_setBehind_111 : decode cX0_setBehind 111 = .ok (.if_icmp .ne 19, 3) := by decide +kernel
theorem dX0_setBehind_114 : decode cX0_setBehind 114 = .ok (.aload_n 0, 1) := by decide +kernel
theorem dX0_setBehind_115 : decode cX0_setBehind 115 = .ok (.aload 6, 2) := by decide +kernel
theorem dX0_setBehind_117 : decode cX0_setBehind 117 = .ok (.aload 5, 2) := by decide +kernel
theorem dX0_setBehind_119 : decode cX0_setBehind 119 = .ok (.aload 8, 2) := by decide +kernel
theorem dX0_setBehind_121 : decode cX0_setBehind 121 = .ok (.iconst 1, 1) := by decide +kernel
theorem dX0_setBehind_122 : decode cX0_setBehind 122 = .ok (.iload 7, 2) := by decide +kernel
theorem dX0_setBehind_124 : decode cX0_setBehind 124 = .ok (.invokevirtual 89, 3) := by decide +kernel
theorem dX0_setBehind_127 : decode cX0_setBehind 127 = .ok (.goto 17, 3) := by decide +kernel
theorem dX0_setBehind_130 : decode cX0_setBehind 130 = .ok (.aload_n 0, 1) := by decide +kernel
theorem dX0_setBehind_131 : decode cX0_setBehind 131 = .ok (.aload 6, 2) := by decide +kernel
theorem dX0_setBehind_133 : decode cX0_setBehind 133 = .ok (.aload 8, 2) := by decide +kernel
theorem dX0_setBehind_135 : decode cX0_setBehind 135 = .ok (.iload 9, 2) := by decide +kernel
theorem dX0_setBehind_137 : decode cX0_setBehind 137 = .ok (.iload 7, 2) := by decide +kernel
theorem dX0_setBehind_139 : decode cX0_setBehind 139 = .ok (.iconst 1, 1) := by decide +kernel
theorem dX0_setBehind_140 : decode cX0_setBehind 140 = .ok (.isub, 1) := by decide +kernel
theorem dX0_setBehind_141 : decode cX0_setBehind 141 = .ok (.invokevirtual 146, 3) := by decide +kernel
theorem dX0_setBehind_144 : decode cX0_setBehind 144 = .ok (.iinc 9 1, 3) := by decide +kernel
theorem dX0_setBehind_147 : decode cX0_setBehind 147 = .ok (.goto (-70), 3) := by decide +kernel
theorem dX0_setBehind_150 : decode cX0_setBehind 150 = .ok (.return_, 1) := by decide +kernel
set_option maxRecDepth 20000 in
theorem ggX0_isLie_X0_isNought : GoodIn wsX0_isLie wsX0_isNought := by
  refine goodIn_sub ?_ gd_X0_isNought
  unfold wsX0_isNought
  refine wm_c ⟨(wk_X0_isLie_X0_isLie_r1 _ (wm_4 (wm_1 wm_h))), ?_⟩
  refine wm_a ⟨?_, ?_⟩
  · refine wm_c ⟨(wk_X0_isLie_X0_isLie_r1 _ (wm_4 (wm_2 wm_h))), ?_⟩
    exact wm_n
  · exact wk_X0_isLie_X00
set_option maxRecDepth 20000 in
theorem gX0_isLie_X0_isNought : GoodIn wsX0_isLie (wsV RX0 85 RX0 yX0_isNought wsX0_isNought) := by
  refine goodIn_app (goodIn_sub ?_ ?_) ggX0_isLie_X0_isNought
  · exact wm_c ⟨(wk_X0_isLie_X0_isLie_r1 _ (wm_1 wm_h)), wm_c ⟨(wk_X0_isLie_X0_isLie_r1 _ (wm_2 wm_h)), wm_c ⟨(wk_X0_isLie_X0_isLie_r1 _ (wm_2 (wm_1 wm_h))), wm_c ⟨(wk_X0_isLie_X0_isLie_r1 _ (wm_4 wm_h)), wm_n⟩⟩⟩⟩
  · decide +kernel
set_option maxRecDepth 20000 in
theorem ggX0_isLie_X0_isLieAt : GoodIn wsX0_isLie wsX0_isLieAt := by
  refine goodIn_sub ?_ gd_X0_isLieAt
  unfold wsX0_isLieAt
  refine wm_c ⟨(wk_X0_isLie_X0_isLie_r1 _ (wm_8 (wm_2 wm_h))), ?_⟩
  refine wm_a ⟨?_, ?_⟩
  · refine wm_c ⟨(wk_X0_isLie_X0_isLie_r1 _ (wm_8 (wm_2 (wm_1 wm_h)))), ?_⟩
    refine wm_c ⟨(wk_X0_isLie_X0_isLie_r1 _ (wm_8 (wm_4 wm_h))), ?_⟩
    refine wm_c ⟨(wk_X0_isLie_X0_isLie_r1 _ (wm_4 (wm_2 wm_h))), ?_⟩
    refine wm_c ⟨(wk_X0_isLie_X0_isLie_r1 _ (wm_8 (wm_4 (wm_1 wm_h)))), ?_⟩
    refine wm_c ⟨(wk_X0_isLie_X0_isLie_r1 _ (wm_8 (wm_4 (wm_2 wm_h)))), ?_⟩
    refine wm_c ⟨(wk_X0_isLie_X0_isLie_r1 _ (wm_8 (wm_4 (wm_2 (wm_1 wm_h))))), ?_⟩
    refine wm_c ⟨(wk_X0_isLie_X0_isLie_r1 _ (wm_16 wm_h)), ?_⟩
    refine wm_c ⟨(wk_X0_isLie_X0_isLie_r1 _ (wm_16 (wm_1 wm_h))), ?_⟩
    refine wm_c ⟨(wk_X0_isLie_X0_isLie_r1 _ (wm_16 (wm_2 wm_h))), ?_⟩
    refine wm_c ⟨(wk_X0_isLie_X0_isLie_r1 _ (wm_16 (wm_2 (wm_1 wm_h)))), ?_⟩
    refine wm_c ⟨(wk_X0_isLie_X0_isLie_r1 _ (wm_16 (wm_4 wm_h))), ?_⟩
    refine wm_c ⟨(wk_X0_isLie_X0_isLie_r1 _ (wm_4 wm_h)), ?_⟩
    refine wm_c ⟨(wk_X0_isLie_X0_isLie_r1 _ (wm_16 (wm_4 (wm_1 wm_h)))), ?_⟩
    refine wm_c ⟨(wk_X0_isLie_X0_isLie_r1 _ (wm_16 (wm_4 (wm_2 wm_h)))), ?_⟩
    refine wm_c ⟨(wk_X0_isLie_X0_isLie_r1 _ (wm_16 (wm_4 (wm_2 (wm_1 wm_h))))), ?_⟩
    refine wm_c ⟨(wk_X0_isLie_X0_isLie_r2 _ wm_h), ?_⟩
    refine wm_c ⟨(wk_X0_isLie_X0_isLie_r2 _ (wm_1 wm_h)), ?_⟩
    refine wm_c ⟨(wk_X0_isLie_X0_isLie_r2 _ (wm_2 wm_h)), ?_⟩
    refine wm_c ⟨(wk_X0_isLie_X0_isLie_r2 _ (wm_2 (wm_1 wm_h))), ?_⟩
    refine wm_c ⟨(wk_X0_isLie_X0_isLie_r2 _ (wm_4 wm_h)), ?_⟩
    refine wm_c ⟨(wk_X0_isLie_X0_isLie_r2 _ (wm_4 (wm_1 wm_h))), ?_⟩
    refine wm_c ⟨(wk_X0_isLie_X0_isLie_r2 _ (wm_4 (wm_2 wm_h))), ?_⟩
    refine wm_c ⟨(wk_X0_isLie_X0_isLie_r2 _ (wm_4 (wm_2 (wm_1 wm_h)))), ?_⟩
    exact wm_n
  · exact wk_X0_isLie_X00
set_option maxRecDepth 20000 in
theorem gX0_isLie_X0_isLieAt : GoodIn wsX0_isLie (wsV RX0 150 RX0 yX0_isLieAt wsX0_isLieAt) := by
  refine goodIn_app (goodIn_sub ?_ ?_) ggX0_isLie_X0_isLieAt
  · exact wm_c ⟨(wk_X0_isLie_X0_isLie_r1 _ (wm_4 (wm_2 (wm_1 wm_h)))), wm_c ⟨(wk_X0_isLie_X0_isLie_r1 _ (wm_8 wm_h)), wm_c ⟨(wk_X0_isLie_X0_isLie_r1 _ (wm_8 (wm_1 wm_h))), wm_c ⟨(wk_X0_isLie_X0_isLie_r1 _ (wm_4 wm_h)), wm_n⟩⟩⟩⟩
  · decide +kernel
theorem dX0_isLie_0 : decode cX0_isLie 0 = .ok (.aload_n 1, 1) := by decide +kernel
theorem dX0_isLie_1 : decode cX0_isLie 1 = .ok (.iconst 0, 1) := by decide +kernel
theorem dX0_isLie_2 : decode cX0_isLie 2 = .ok (.iaload, 1) := by decide +kernel
theorem dX0_isLie_3 : decode cX0_isLie 3 = .ok (.ifCond .eq 5, 3) := by decide +kernel
theorem dX0_isLie_6 : decode cX0_isLie 6 = .ok (.iconst 0, 1) := by decide +kernel
theorem dX0_isLie_7 : decode cX0_isLie 7 = .ok (.ireturn, 1) := by decide +kernel
theorem dX0_isLie_8 : decode cX0_isLie 8 = .ok (.iconst 2, 1) := by decide +kernel
theorem dX0_isLie_9 : decode cX0_isLie 9 = .ok (.istore_n 2, 1) := by decide +kernel
theorem dX0_isLie_10 : decode cX0_isLie 10 = .ok (.iload_n 2, 1) := by decide +kernel
theorem dX0_isLie_11 : decode cX0_isLie 11 = .ok (.aload_n 0, 1) := by decide +kernel
theorem dX0_isLie_12 : decode cX0_isLie 12 = .ok (.getfield 21, 3) := by decide +kernel
theorem dX0_isLie_15 : decode cX0_isLie 15 = .ok (.if_icmp .gt 29, 3) := by decide +kernel
theorem dX0_isLie_18 : decode cX0_isLie 18 = .ok (.aload_n 0, 1) := by decide +kernel
theorem dX0_isLie_19 : decode cX0_isLie 19 = .ok (.aload_n 1, 1) := by decide +kernel
theorem dX0_isLie_20 : decode cX0_isLie 20 = .ok (.iload_n 2, 1) := by decide +kernel
theorem dX0_isLie_21 : decode cX0_isLie 21 = .ok (.invokevirtual 85, 3) := by decide +kernel
theorem dX0_isLie_24 : decode cX0_isLie 24 = .ok (.ifCond .ne 14, 3) := by decide +kernel
