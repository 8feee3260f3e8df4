theorem dX2_strip_80 : decode cX2_strip 80 = .ok (.iaload, 1) := by decide +kernel
theorem dX2_strip_81 : decode cX2_strip 81 = .ok (.aload_n 0, 1) := by decide +kernel
theorem dX2_strip_82 : decode cX2_strip 82 = .ok (.getfield 55, 3) := by decide +kernel
theorem dX2_strip_85 : decode cX2_strip 85 = .ok (.iload 5, 2) := by decide +kernel
theorem dX2_strip_87 : decode cX2_strip 87 = .ok (.iload 6, 2) := by decide +kernel
theorem dX2_strip_89 : decode cX2_strip 89 = .ok (.iadd, 1) := by decide +kernel
theorem dX2_strip_90 : decode cX2_strip 90 = .ok (.iaload, 1) := by decide +kernel
theorem dX2_strip_91 : decode cX2_strip 91 = .ok (.iload 4, 2) := by decide +kernel
theorem dX2_strip_93 : decode cX2_strip 93 = .ok (.invokestatic 103, 3) := by decide +kernel
theorem dX2_strip_96 : decode cX2_strip 96 = .ok (.iastore, 1) := by decide +kernel
theorem dX2_strip_97 : decode cX2_strip 97 = .ok (.iinc 6 1, 3) := by decide +kernel
theorem dX2_strip_100 : decode cX2_strip 100 = .ok (.goto (-51), 3) := by decide +kernel
theorem dX2_strip_103 : decode cX2_strip 103 = .ok (.return_, 1) := by decide +kernel
set_option maxRecDepth 20000 in
theorem ggX2_keep_X3_reciprocal : GoodIn wsX2_keep wsX3_reciprocal := by
  refine goodIn_sub ?_ gd_X3_reciprocal
  unfold wsX3_reciprocal
  refine wm_c ⟨(wm_1 (wm_l (wm_l (wm_8 (wm_2 (wm_1 wm_h)))))), ?_⟩
  refine wm_c ⟨(wm_1 (wm_l (wm_l (wm_8 (wm_4 wm_h))))), ?_⟩
  refine wm_c ⟨(wm_1 (wm_l (wm_l (wm_8 (wm_4 (wm_1 wm_h)))))), ?_⟩
  refine wm_c ⟨(wm_1 (wm_l (wm_l (wm_8 (wm_4 (wm_2 wm_h)))))), ?_⟩
  refine wm_c ⟨(wm_1 (wm_l (wm_l (wm_8 (wm_2 wm_h))))), ?_⟩
  refine wm_c ⟨(wm_1 (wm_l (wm_l (wm_8 (wm_4 (wm_2 (wm_1 wm_h))))))), ?_⟩
  refine wm_c ⟨(wm_1 (wm_l (wm_l (wm_16 wm_h)))), ?_⟩
  exact wm_n
set_option maxRecDepth 20000 in
theorem gX2_keep_X3_reciprocal : GoodIn wsX2_keep (va_wsS RX2 107 yX3_reciprocal wsX3_reciprocal) := goodIn_app (goodIn_of _ (by decide +kernel)) ggX2_keep_X3_reciprocal
set_option maxRecDepth 20000 in
theorem ggX2_keep_X3_product : GoodIn wsX2_keep wsX3_product := by
  refine goodIn_sub ?_ gd_X3_product
  unfold wsX3_product
  refine wm_c ⟨(wm_1 (wm_l (wm_l (wm_8 (wm_4 (wm_2 (wm_1 wm_h))))))), ?_⟩
  refine wm_c ⟨(wm_1 (wm_l (wm_l (wm_16 wm_h)))), ?_⟩
  exact wm_n
set_option maxRecDepth 20000 in
theorem gX2_keep_X3_product : GoodIn wsX2_keep (va_wsS RX2 110 yX3_product wsX3_product) := goodIn_app (goodIn_of _ (by decide +kernel)) ggX2_keep_X3_product
theorem dX2_keep_0 : decode cX2_keep 0 = .ok (.aload_n 0, 1) := by decide +kernel
theorem dX2_keep_1 : decode cX2_keep 1 = .ok (.getfield 52, 3) := by decide +kernel
theorem dX2_keep_4 : decode cX2_keep 4 = .ok (.iload_n 2, 1) := by decide +kernel
theorem dX2_keep_5 : decode cX2_keep 5 = .ok (.iaload, 1) := by decide +kernel
theorem dX2_keep_6 : decode cX2_keep 6 = .ok (.invokestatic 107, 3) := by decide +kernel
theorem dX2_keep_9 : decode cX2_keep 9 = .ok (.istore_n 3, 1) := by decide +kernel
theorem dX2_keep_10 : decode cX2_keep 10 = .ok (.aload_n 0, 1) := by decide +kernel
theorem dX2_keep_11 : decode cX2_keep 11 = .ok (.getfield 30, 3) := by decide +kernel
theorem dX2_keep_14 : decode cX2_keep 14 = .ok (.iload_n 1, 1) := by decide +kernel
theorem dX2_keep_15 : decode cX2_keep 15 = .ok (.iaload, 1) := by decide +kernel
theorem dX2_keep_16 : decode cX2_keep 16 = .ok (.aload_n 0, 1) := by decide +kernel
theorem dX2_keep_17 : decode cX2_keep 17 = .ok (.getfield 23, 3) := by decide +kernel
theorem dX2_keep_20 : decode cX2_keep 20 = .ok (.iload_n 1, 1) := by decide +kernel
theorem dX2_keep_21 : decode cX2_keep 21 = .ok (.iaload, 1) := by decide +kernel
theorem dX2_keep_22 : decode cX2_keep 22 = .ok (.aload_n 0, 1) := by decide +kernel
theorem dX2_keep_23 : decode cX2_keep 23 = .ok (.getfield 7, 3) := by decide +kernel
theorem dX2_keep_26 : decode cX2_keep 26 = .ok (.getfield 42, 3) := by decide +kernel
theorem dX2_keep_29 : decode cX2_keep 29 = .ok (.iload_n 1, 1) := by decide +kernel
theorem dX2_keep_30 : decode cX2_keep 30 = .ok (.iaload, 1) := by decide +kernel
theorem dX2_keep_31 : decode cX2_keep 31 = .ok (.imul, 1) := by decide +kernel
theorem dX2_keep_32 : decode cX2_keep 32 = .ok (.iadd, 1) := by decide +kernel
theorem dX2_keep_33 : decode cX2_keep 33 = .ok (.istore 4, 2) := by decide +kernel
theorem dX2_keep_35 : decode cX2_keep 35 = .ok (.iconst 0, 1) := by decide +kernel
theorem dX2_keep_36 : decode cX2_keep 36 = .ok (.istore 5, 2) := by decide +kernel
theorem dX2_keep_38 : decode cX2_keep 38 = .ok (.iload 5, 2) := by decide +kernel
theorem dX2_keep_40 : decode cX2_keep 40 = .ok (.aload_n 0, 1) := by decide +kernel
theorem dX2_keep_41 : decode cX2_keep 41 = .ok (.getfield 7, 3) := by decide +kernel
theorem dX2_keep_44 : decode cX2_keep 44 = .ok (.getfield 42, 3) := by decide +kernel
theorem dX2_keep_47 : decode cX2_keep 47 = .ok (.iload_n 1, 1) := by decide +kernel
theorem dX2_keep_48 : decode cX2_keep 48 = .ok (.iaload, 1) := by decide +kernel
theorem dX2_keep_49 : decode cX2_keep 49 = .ok (.if_icmp .ge 30, 3) := by decide +kernel
theorem dX2_keep_52 : decode cX2_keep 52 = .ok (.aload_n 0, 1) := by decide +kernel
theorem dX2_keep_53 : decode cX2_keep 53 = .ok (.getfield 55, 3) := by decide +kernel
theorem dX2_keep_56 : decode cX2_keep 56 = .ok (.iload 4, 2) := by decide +kernel
theorem dX2_keep_58 : decode cX2_keep 58 = .ok (.iload 5, 2) := by decide +kernel
theorem dX2_keep_60 : decode cX2_keep 60 = .ok (.iadd, 1) := by decide +kernel
theorem dX2_keep_61 : decode cX2_keep 61 = .ok (.aload_n 0, 1) := by decide +kernel
theorem dX2_keep_62 : decode cX2_keep 62 = .ok (.getfield 52, 3) := by decide +kernel
theorem dX2_keep_65 : decode cX2_keep 65 = .ok (.iload 5, 2) := by decide +kernel
theorem dX2_keep_67 : decode cX2_keep 67 = .ok (.iaload, 1) := by decide +kernel
theorem dX2_keep_68 : decode cX2_keep 68 = .ok (.iload_n 3, 1) := by decide +kernel
theorem dX2_keep_69 : decode cX2_keep 69 = .ok (.invokestatic 110, 3) := by decide +kernel
theorem dX2_keep_72 : decode cX2_keep 72 = .ok (.iastore, 1) := by decide +kernel
theorem dX2_keep_73 : decode cX2_keep 73 = .ok (.iinc 5 1, 3) := by decide +kernel
theorem dX2_keep_76 : decode cX2_keep 76 = .ok (.goto (-38), 3) := by decide +kernel
theorem dX2_keep_79 : decode cX2_keep 79 = .ok (.aload_n 0, 1) := by decide +kernel
theorem dX2_keep_80 : decode cX2_keep 80 = .ok (.getfield 49, 3) := by decide +kernel
theorem dX2_keep_83 : decode cX2_keep 83 = .ok (.aload_n 0, 1) := by decide +kernel
theorem dX2_keep_84 : decode cX2_keep 84 = .ok (.getfield 33, 3) := by decide +kernel
theorem dX2_keep_87 : decode cX2_keep 87 = .ok (.iload_n 1, 1) := by decide +kernel
theorem dX2_keep_88 : decode cX2_keep 88 = .ok (.iaload, 1) := by decide +kernel
theorem dX2_keep_89 : decode cX2_keep 89 = .ok (.aload_n 0, 1) := by decide +kernel
theorem dX2_keep_90 : decode cX2_keep 90 = .ok (.getfield 23, 3) := by decide +kernel
theorem dX2_keep_93 : decode cX2_keep 93 = .ok (.iload_n 1, 1) := by decide +kernel
theorem dX2_keep_94 : decode cX2_keep 94 = .ok (.iaload, 1) := by decide +kernel
theorem dX2_keep_95 : decode cX2_keep 95 = .ok (.iadd, 1) := by decide +kernel
theorem dX2_keep_96 : decode cX2_keep 96 = .ok (.iload_n 2, 1) := by decide +kernel
theorem dX2_keep_97 : decode cX2_keep 97 = .ok (.iastore, 1) := by decide +kernel
theorem dX2_keep_98 : decode cX2_keep 98 = .ok (.aload_n 0, 1) := by decide +kernel
theorem dX2_keep_99 : decode cX2_keep 99 = .ok (.getfield 23, 3) := by decide +kernel
theorem dX2_keep_102 : decode cX2_keep 102 = .ok (.iload_n 1, 1) := by decide +kernel
theorem dX2_keep_103 : decode cX2_keep 103 = .ok (.dup2, 1) := by decide +kernel
theorem dX2_keep_104 : decode cX2_keep 104 = .ok (.iaload, 1) := by decide +kernel
theorem dX2_keep_105 : decode cX2_keep 105 = .ok (.iconst 1, 1) := by decide +kernel
theorem dX2_keep_106 : decode cX2_keep 106 = .ok (.iadd, 1) := by decide +kernel
theorem dX2_keep_107 : decode cX2_keep 107 = .ok (.iastore, 1) := by decide +kernel
theorem dX2_keep_108 : decode cX2_keep 108 = .ok (.return_, 1) := by decide +kernel
theorem dX4_init_0 : decode cX4_init 0 = .ok (.aload_n 0, 1) := by decide +kernel
theorem dX4_init_1 : decode cX4_init 1 = .ok (.invokespecial 3, 3) := by decide +kernel
theorem dX4_init_4 : decode cX4_init 4 = .ok (.aload_n 0, 1) := by decide +kernel
theorem dX4_init_5 : decode cX4_init 5 = .ok (.aload_n 1, 1) := by decide +kernel
theorem dX4_init_6 : decode cX4_init 6 = .ok (.putfield 9, 3) := by decide +kernel
theorem dX4_init_9 : decode cX4_init 9 = .ok (.aload_n 0, 1) := by decide +kernel
theorem dX4_init_10 : decode cX4_init 10 = .ok (.aload_n 2, 1) := by decide +kernel
theorem dX4_init_11 : decode cX4_init 11 = .ok (.putfield 15, 3) := by decide +kernel
theorem dX4_init_14 : decode cX4_init 14 = .ok (.aload_n 0, 1) := by decide +kernel
theorem dX4_init_15 : decode cX4_init 15 = .ok (.aload_n 3, 1) := by decide +kernel
theorem dX4_init_16 : decode cX4_init 16 = .ok (.putfield 19, 3) := by decide +kernel
theorem dX4_init_19 : decode cX4_init 19 = .ok (.aload_n 0, 1) := by decide +kernel
theorem dX4_init_20 : decode cX4_init 20 = .ok (.aload_n 2, 1) := by decide +kernel
theorem dX4_init_21 : decode cX4_init 21 = .ok (.getfield 23, 3) := by decide +kernel
theorem dX4_init_24 : decode cX4_init 24 = .ok (.putfield 28, 3) := by decide +kernel
theorem dX4_init_27 : decode cX4_init 27 = .ok (.aload_n 0, 1) := by decide +kernel
theorem dX4_init_28 : decode cX4_init 28 = .ok (.bipush 100, 2) := by decide +kernel
theorem dX4_init_30 : decode cX4_init 30 = .ok (.newarray .int, 2) := by decide +kernel
theorem dX4_init_32 : decode cX4_init 32 = .ok (.putfield 29, 3) := by decide +kernel
theorem dX4_init_35 : decode cX4_init 35 = .ok (.return_, 1) := by decide +kernel
theorem dX4_append_0 : decode cX4_append 0 = .ok (.iload_n 3, 1) := by decide +kernel
theorem dX4_append_1 : decode cX4_append 1 = .ok (.iconst 1, 1) := by decide +kernel
theorem dX4_append_2 : decode cX4_append 2 = .ok (.isub, 1) := by decide +kernel
theorem dX4_append_3 : decode cX4_append 3 = .ok (.istore 4, 2) := by decide +kernel
theorem dX4_append_5 : decode cX4_append 5 = .ok (.iload 4, 2) := by decide +kernel
theorem dX4_append_7 : decode cX4_append 7 = .ok (.ifCond .lt 49, 3) := by decide +kernel
theorem dX4_append_10 : decode cX4_append 10 = .ok (.aload_n 0, 1) := by decide +kernel
theorem dX4_append_11 : decode cX4_append 11 = .ok (.getfield 33, 3) := by decide +kernel
theorem dX4_append_14 : decode cX4_append 14 = .ok (.bipush 100, 2) := by decide +kernel
theorem dX4_append_16 : decode cX4_append 16 = .ok (.if_icmp .ge 40, 3) := by decide +kernel
theorem dX4_append_19 : decode cX4_append 19 = .ok (.aload_n 0, 1) := by decide +kernel
theorem dX4_append_20 : decode cX4_append 20 = .ok (.getfield 29, 3) := by decide +kernel
theorem dX4_append_23 : decode cX4_append 23 = .ok (.aload_n 0, 1) := by decide +kernel
theorem dX4_append_24 : decode cX4_append 24 = .ok (.getfield 33, 3) := by decide +kernel
theorem dX4_append_27 : decode cX4_append 27 = .ok (.lload_n 1, 1) := by decide +kernel
theorem dX4_append_28 : decode cX4_append 28 = .ok (.bipush 8, 2) := by decide +kernel
theorem dX4_append_30 : decode cX4_append 30 = .ok (.iload 4, 2) := by decide +kernel
theorem dX4_append_32 : decode cX4_append 32 = .ok (.imul, 1) := by decide +kernel
theorem dX4_append_33 : decode cX4_append 33 = .ok (.lushr, 1) := by decide +kernel
theorem dX4_append_34 : decode cX4_append 34 = .ok (.ldc2_w 37, 3) := by decide +kernel
theorem dX4_append_37 : decode cX4_append 37 = .ok (.land, 1) := by decide +kernel
theorem dX4_append_38 : decode cX4_append 38 = .ok (.l2i, 1) := by decide +kernel
theorem dX4_append_39 : decode cX4_append 39 = .ok (.iastore, 1) := by decide +kernel
theorem dX4_append_40 : decode cX4_append 40 = .ok (.aload_n 0, 1) := by decide +kernel
theorem dX4_append_41 : decode cX4_append 41 = .ok (.dup, 1) := by decide +kernel
theorem dX4_append_42 : decode cX4_append 42 = .ok (.getfield 33, 3) := by decide +kernel
theorem dX4_append_45 : decode cX4_append 45 = .ok (.iconst 1, 1) := by decide +kernel
theorem dX4_append_46 : decode cX4_append 46 = .ok (.iadd, 1) := by decide +kernel
theorem dX4_append_47 : decode cX4_append 47 = .ok (.putfield 33, 3) := by decide +kernel
theorem dX4_append_50 : decode cX4_append 50 = .ok (.iinc 4 (-1), 3) := by decide +kernel
theorem dX4_append_53 : decode cX4_append 53 = .ok (.goto (-48), 3) := by decide +kernel
theorem dX4_append_56 : decode cX4_append 56 = .ok (.aload_n 0, 1) := by decide +kernel
theorem dX4_append_57 : decode cX4_append 57 = .ok (.getfield 33, 3) := by decide +kernel
theorem dX4_append_60 : decode cX4_append 60 = .ok (.ireturn, 1) := by decide +kernel
set_option maxRecDepth 20000 in
theorem ggX4_tell_X4_readText : GoodIn wsX4_tell wsX4_readText := by
  refine goodIn_sub ?_ gd_X4_readText
  unfold wsX4_readText
  refine wm_c ⟨(wk_X4_tell_X4_tell_r1 _ (wm_8 (wm_1 wm_h))), ?_⟩
  refine wm_a ⟨?_, ?_⟩
  · refine wm_a ⟨?_, ?_⟩
    · refine wm_a ⟨?_, ?_⟩
      · refine wm_a ⟨?_, ?_⟩
        · unfold wsX4_readText_r1
          refine wm_c ⟨(wk_X4_tell_X4_tell_r1 _ (wm_1 wm_h)), ?_⟩
          refine wm_c ⟨(wk_X4_tell_X4_tell_r1 _ (wm_4 wm_h)), ?_⟩
          refine wm_c ⟨(wk_X4_tell_X4_tell_r1 _ (wm_8 (wm_2 wm_h))), ?_⟩
          refine wm_c ⟨(wk_X4_tell_X4_tell_r1 _ wm_h), ?_⟩
          refine wm_c ⟨(wk_X4_tell_X4_tell_r1 _ (wm_8 (wm_2 (wm_1 wm_h)))), ?_⟩
          refine wm_c ⟨(wk_X4_tell_X4_tell_r1 _ (wm_8 (wm_4 wm_h))), ?_⟩
          refine wm_c ⟨(wk_X4_tell_X4_tell_r1 _ (wm_8 (wm_4 (wm_1 wm_h)))), ?_⟩
          refine wm_c ⟨(wk_X4_tell_X4_tell_r1 _ (wm_8 wm_h)), ?_⟩
          refine wm_c ⟨(wk_X4_tell_X4_tell_r1 _ (wm_8 (wm_4 (wm_2 wm_h)))), ?_⟩
          refine wm_c ⟨(wk_X4_tell_X4_tell_r1 _ (wm_8 (wm_4 (wm_2 (wm_1 wm_h))))), ?_⟩
          refine wm_c ⟨(wk_X4_tell_X4_tell_r1 _ (wm_16 wm_h)), ?_⟩
          refine wm_c ⟨(wk_X4_tell_X4_tell_r1 _ (wm_16 (wm_1 wm_h))), ?_⟩
          refine wm_c ⟨(wk_X4_tell_X4_tell_r1 _ (wm_16 (wm_2 wm_h))), ?_⟩
          refine wm_c ⟨(wk_X4_tell_X4_tell_r1 _ (wm_16 (wm_2 (wm_1 wm_h)))), ?_⟩
          refine wm_c ⟨(wk_X4_tell_X4_tell_r1 _ (wm_16 (wm_4 wm_h))), ?_⟩
          refine wm_c ⟨(wk_X4_tell_X4_tell_r1 _ (wm_16 (wm_4 (wm_1 wm_h)))), ?_⟩
          refine wm_c ⟨(wk_X4_tell_X4_tell_r1 _ (wm_16 (wm_4 (wm_2 wm_h)))), ?_⟩
          refine wm_c ⟨(wk_X4_tell_X4_tell_r1 _ (wm_16 (wm_4 (wm_2 (wm_1 wm_h))))), ?_⟩
          refine wm_c ⟨(wk_X4_tell_X4_tell_r2 _ wm_h), ?_⟩
          refine wm_c ⟨(wk_X4_tell_X4_tell_r2 _ (wm_1 wm_h)), ?_⟩
          refine wm_c ⟨(wk_X4_tell_X4_tell_r2 _ (wm_2 wm_h)), ?_⟩
          refine wm_c ⟨(wk_X4_tell_X4_tell_r2 _ (wm_2 (wm_1 wm_h))), ?_⟩
          refine wm_c ⟨(wk_X4_tell_X4_tell_r2 _ (wm_4 wm_h)), ?_⟩
          refine wm_c ⟨(wk_X4_tell_X4_tell_r2 _ (wm_4 (wm_1 wm_h))), ?_⟩
          exact wm_n
        · refine wm_a ⟨?_, ?_⟩
          · unfold wsX4_readText_r2
            refine wm_c ⟨(wk_X4_tell_X4_tell_r2 _ (wm_4 (wm_2 wm_h))), ?_⟩
            refine wm_c ⟨(wk_X4_tell_X4_tell_r2 _ (wm_4 (wm_2 (wm_1 wm_h)))), ?_⟩
            refine wm_c ⟨(wk_X4_tell_X4_tell_r2 _ (wm_8 wm_h)), ?_⟩
            refine wm_c ⟨(wk_X4_tell_X4_tell_r2 _ (wm_8 (wm_1 wm_h))), ?_⟩
            refine wm_c ⟨(wk_X4_tell_X4_tell_r2 _ (wm_8 (wm_2 wm_h))), ?_⟩
            refine wm_c ⟨(wk_X4_tell_X4_tell_r2 _ (wm_8 (wm_2 (wm_1 wm_h)))), ?_⟩
            refine wm_c ⟨(wk_X4_tell_X4_tell_r2 _ (wm_8 (wm_4 wm_h))), ?_⟩
            refine wm_c ⟨(wk_X4_tell_X4_tell_r2 _ (wm_8 (wm_4 (wm_1 wm_h)))), ?_⟩
            refine wm_c ⟨(wk_X4_tell_X4_tell_r2 _ (wm_8 (wm_4 (wm_2 wm_h)))), ?_⟩
            refine wm_c ⟨(wk_X4_tell_X4_tell_r2 _ (wm_8 (wm_4 (wm_2 (wm_1 wm_h))))), ?_⟩
            refine wm_c ⟨(wk_X4_tell_X4_tell_r2 _ (wm_16 wm_h)), ?_⟩
            refine wm_c ⟨(wk_X4_tell_X4_tell_r1 _ (wm_2 (wm_1 wm_h))), ?_⟩
            refine wm_c ⟨(wk_X4_tell_X4_tell_r2 _ (wm_16 (wm_1 wm_h))), ?_⟩
            refine wm_c ⟨(wk_X4_tell_X4_tell_r2 _ (wm_16 (wm_2 wm_h))), ?_⟩
            refine wm_c ⟨(wk_X4_tell_X4_tell_r2 _ (wm_16 (wm_2 (wm_1 wm_h)))), ?_⟩
            refine wm_c ⟨(wk_X4_tell_X4_tell_r2 _ (wm_16 (wm_4 wm_h))), ?_⟩
            refine wm_c ⟨(wk_X4_tell_X4_tell_r2 _ (wm_16 (wm_4 (wm_1 wm_h)))), ?_⟩
            refine wm_c ⟨(wk_X4_tell_X4_tell_r2 _ (wm_16 (wm_4 (wm_2 wm_h)))), ?_⟩
            refine wm_c ⟨(wk_X4_tell_X4_tell_r1 _ (wm_4 (wm_1 wm_h))), ?_⟩
            refine wm_c ⟨(wk_X4_tell_X4_tell_r1 _ (wm_4 (wm_2 wm_h))), ?_⟩
            refine wm_c ⟨(wk_X4_tell_X4_tell_r1 _ (wm_4 (wm_2 (wm_1 wm_h)))), ?_⟩
            refine wm_c ⟨(wk_X4_tell_X4_tell_r2 _ (wm_16 (wm_4 (wm_2 (wm_1 wm_h))))), ?_⟩
            refine wm_c ⟨(wk_X4_tell_X4_tell_r3 _ wm_h), ?_⟩
            refine wm_c ⟨(wk_X4_tell_X4_tell_r3 _ (wm_1 wm_h)), ?_⟩
            exact wm_n
          · refine wm_a ⟨?_, ?_⟩
            · unfold wsX4_readText_r3
              refine wm_c ⟨(wk_X4_tell_X4_tell_r3 _ (wm_2 wm_h)), ?_⟩
              refine wm_c ⟨(wk_X4_tell_X4_tell_r3 _ (wm_2 (wm_1 wm_h))), ?_⟩
              refine wm_c ⟨(wk_X4_tell_X4_tell_r3 _ (wm_4 wm_h)), ?_⟩
              refine wm_c ⟨(wk_X4_tell_X4_tell_r3 _ (wm_4 (wm_1 wm_h))), ?_⟩
              refine wm_c ⟨(wk_X4_tell_X4_tell_r3 _ (wm_4 (wm_2 wm_h))), ?_⟩
              refine wm_c ⟨(wk_X4_tell_X4_tell_r3 _ (wm_4 (wm_2 (wm_1 wm_h)))), ?_⟩
              refine wm_c ⟨(wk_X4_tell_X4_tell_r3 _ (wm_8 wm_h)), ?_⟩
              refine wm_c ⟨(wk_X4_tell_X4_tell_r3 _ (wm_8 (wm_1 wm_h))), ?_⟩
              refine wm_c ⟨(wk_X4_tell_X4_tell_r3 _ (wm_8 (wm_2 wm_h))), ?_⟩
              refine wm_c ⟨(wk_X4_tell_X4_tell_r3 _ (wm_8 (wm_2 (wm_1 wm_h)))), ?_⟩
              refine wm_c ⟨(wk_X4_tell_X4_tell_r3 _ (wm_8 (wm_4 wm_h))), ?_⟩
              refine wm_c ⟨(wk_X4_tell_X4_tell_r3 _ (wm_8 (wm_4 (wm_1 wm_h)))), ?_⟩
              refine wm_c ⟨(wk_X4_tell_X4_tell_r3 _ (wm_8 (wm_4 (wm_2 wm_h)))), ?_⟩
              refine wm_c ⟨(wk_X4_tell_X4_tell_r3 _ (wm_8 (wm_4 (wm_2 (wm_1 wm_h))))), ?_⟩
              refine wm_c ⟨(wk_X4_tell_X4_tell_r3 _ (wm_16 wm_h)), ?_⟩
              refine wm_c ⟨(wk_X4_tell_X4_tell_r3 _ (wm_16 (wm_1 wm_h))), ?_⟩
              refine wm_c ⟨(wk_X4_tell_X4_tell_r3 _ (wm_16 (wm_2 wm_h))), ?_⟩
              refine wm_c ⟨(wk_X4_tell_X4_tell_r3 _ (wm_16 (wm_2 (wm_1 wm_h)))), ?_⟩
              refine wm_c ⟨(wk_X4_tell_X4_tell_r3 _ (wm_16 (wm_4 wm_h))), ?_⟩
              refine wm_c ⟨(wk_X4_tell_X4_tell_r3 _ (wm_16 (wm_4 (wm_1 wm_h)))), ?_⟩
              refine wm_c ⟨(wk_X4_tell_X4_tell_r3 _ (wm_16 (wm_4 (wm_2 wm_h)))), ?_⟩
              refine wm_c ⟨(wk_X4_tell_X4_tell_r3 _ (wm_16 (wm_4 (wm_2 (wm_1 wm_h))))), ?_⟩
              refine wm_c ⟨(wk_X4_tell_X4_tell_r4 _ wm_h), ?_⟩
              refine wm_c ⟨(wk_X4_tell_X4_tell_r4 _ (wm_1 wm_h)), ?_⟩
              exact wm_n
            · refine wm_a ⟨?_, ?_⟩
              · unfold wsX4_readText_r4
                refine wm_c ⟨(wk_X4_tell_X4_tell_r4 _ (wm_2 wm_h)), ?_⟩
                refine wm_c ⟨(wk_X4_tell_X4_tell_r4 _ (wm_2 (wm_1 wm_h))), ?_⟩
                refine wm_c ⟨(wk_X4_tell_X4_tell_r4 _ (wm_4 wm_h)), ?_⟩
                refine wm_c ⟨(wk_X4_tell_X4_tell_r4 _ (wm_4 (wm_1 wm_h))), ?_⟩
                refine wm_c ⟨(wk_X4_tell_X4_tell_r4 _ (wm_4 (wm_2 wm_h))), ?_⟩
                refine wm_c ⟨(wk_X4_tell_X4_tell_r4 _ (wm_4 (wm_2 (wm_1 wm_h)))), ?_⟩
                refine wm_c ⟨(wk_X4_tell_X4_tell_r4 _ (wm_8 wm_h)), ?_⟩
                refine wm_c ⟨(wk_X4_tell_X4_tell_r4 _ (wm_8 (wm_1 wm_h))), ?_⟩
                refine wm_c ⟨(wk_X4_tell_X4_tell_r4 _ (wm_8 (wm_2 wm_h))), ?_⟩
                refine wm_c ⟨(wk_X4_tell_X4_tell_r4 _ (wm_8 (wm_2 (wm_1 wm_h)))), ?_⟩
                refine wm_c ⟨(wk_X4_tell_X4_tell_r4 _ (wm_8 (wm_4 wm_h))), ?_⟩
                refine wm_c ⟨(wk_X4_tell_X4_tell_r4 _ (wm_8 (wm_4 (wm_1 wm_h)))), ?_⟩
                refine wm_c ⟨(wk_X4_tell_X4_tell_r4 _ (wm_8 (wm_4 (wm_2 wm_h)))), ?_⟩
                refine wm_c ⟨(wk_X4_tell_X4_tell_r4 _ (wm_8 (wm_4 (wm_2 (wm_1 wm_h))))), ?_⟩
                refine wm_c ⟨(wk_X4_tell_X4_tell_r4 _ (wm_16 wm_h)), ?_⟩
                refine wm_c ⟨(wk_X4_tell_X4_tell_r4 _ (wm_16 (wm_1 wm_h))), ?_⟩
                refine wm_c ⟨(wk_X4_tell_X4_tell_r4 _ (wm_16 (wm_2 wm_h))), ?_⟩
                refine wm_c ⟨(wk_X4_tell_X4_tell_r4 _ (wm_16 (wm_2 (wm_1 wm_h)))), ?_⟩
                refine wm_c ⟨(wk_X4_tell_X4_tell_r4 _ (wm_16 (wm_4 wm_h))), ?_⟩
                refine wm_c ⟨(wk_X4_tell_X4_tell_r4 _ (wm_16 (wm_4 (wm_1 wm_h)))), ?_⟩
                refine wm_c ⟨(wk_X4_tell_X4_tell_r4 _ (wm_16 (wm_4 (wm_2 wm_h)))), ?_⟩
                refine wm_c ⟨(wk_X4_tell_X4_tell_r4 _ (wm_16 (wm_4 (wm_2 (wm_1 wm_h))))), ?_⟩
                refine wm_c ⟨(wk_X4_tell_X4_tell_r5 _ wm_h), ?_⟩
                refine wm_c ⟨(wk_X4_tell_X4_tell_r5 _ (wm_1 wm_h)), ?_⟩
                exact wm_n
              · refine wm_a ⟨?_, ?_⟩
                · unfold wsX4_readText_r5
                  refine wm_c ⟨(wk_X4_tell_X4_tell_r5 _ (wm_2 wm_h)), ?_⟩
                  refine wm_c ⟨(wk_X4_tell_X4_tell_r5 _ (wm_2 (wm_1 wm_h))), ?_⟩
                  refine wm_c ⟨(wk_X4_tell_X4_tell_r5 _ (wm_4 wm_h)), ?_⟩
                  refine wm_c ⟨(wk_X4_tell_X4_tell_r5 _ (wm_4 (wm_1 wm_h))), ?_⟩
                  refine wm_c ⟨(wk_X4_tell_X4_tell_r5 _ (wm_4 (wm_2 wm_h))), ?_⟩
                  refine wm_c ⟨(wk_X4_tell_X4_tell_r5 _ (wm_4 (wm_2 (wm_1 wm_h)))), ?_⟩
                  refine wm_c ⟨(wk_X4_tell_X4_tell_r5 _ (wm_8 wm_h)), ?_⟩
                  refine wm_c ⟨(wk_X4_tell_X4_tell_r5 _ (wm_8 (wm_1 wm_h))), ?_⟩
                  refine wm_c ⟨(wk_X4_tell_X4_tell_r5 _ (wm_8 (wm_2 wm_h))), ?_⟩
                  refine wm_c ⟨(wk_X4_tell_X4_tell_r5 _ (wm_8 (wm_2 (wm_1 wm_h)))), ?_⟩
                  refine wm_c ⟨(wk_X4_tell_X4_tell_r5 _ (wm_8 (wm_4 wm_h))), ?_⟩
                  refine wm_c ⟨(wk_X4_tell_X4_tell_r5 _ (wm_8 (wm_4 (wm_1 wm_h)))), ?_⟩
                  refine wm_c ⟨(wk_X4_tell_X4_tell_r5 _ (wm_8 (wm_4 (wm_2 wm_h)))), ?_⟩
                  refine wm_c ⟨(wk_X4_tell_X4_tell_r5 _ (wm_8 (wm_4 (wm_2 (wm_1 wm_h))))), ?_⟩
                  refine wm_c ⟨(wk_X4_tell_X4_tell_r5 _ (wm_16 wm_h)), ?_⟩
                  refine wm_c ⟨(wk_X4_tell_X4_tell_r5 _ (wm_16 (wm_1 wm_h))), ?_⟩
                  refine wm_c ⟨(wk_X4_tell_X4_tell_r5 _ (wm_16 (wm_2 wm_h))), ?_⟩
                  refine wm_c ⟨(wk_X4_tell_X4_tell_r5 _ (wm_16 (wm_2 (wm_1 wm_h)))), ?_⟩
                  refine wm_c ⟨(wk_X4_tell_X4_tell_r5 _ (wm_16 (wm_4 wm_h))), ?_⟩
                  refine wm_c ⟨(wk_X4_tell_X4_tell_r5 _ (wm_16 (wm_4 (wm_1 wm_h)))), ?_⟩
                  refine wm_c ⟨(wk_X4_tell_X4_tell_r5 _ (wm_16 (wm_4 (wm_2 wm_h)))), ?_⟩
                  refine wm_c ⟨(wk_X4_tell_X4_tell_r5 _ (wm_16 (wm_4 (wm_2 (wm_1 wm_h))))), ?_⟩
                  refine wm_c ⟨(wk_X4_tell_X4_tell_r6 _ wm_h), ?_⟩
                  refine wm_c ⟨(wk_X4_tell_X4_tell_r6 _ (wm_1 wm_h)), ?_⟩
                  exact wm_n
                · refine wm_a ⟨?_, ?_⟩
                  · unfold wsX4_readText_r6
                    refine wm_c ⟨(wk_X4_tell_X4_tell_r6 _ (wm_2 wm_h)), ?_⟩
                    refine wm_c ⟨(wk_X4_tell_X4_tell_r6 _ (wm_2 (wm_1 wm_h))), ?_⟩
                    refine wm_c ⟨(wk_X4_tell_X4_tell_r6 _ (wm_4 wm_h)), ?_⟩
                    refine wm_c ⟨(wk_X4_tell_X4_tell_r1 _ (wm_2 wm_h)), ?_⟩
                    refine wm_c ⟨(wk_X4_tell_X4_tell_r6 _ (wm_4 (wm_1 wm_h))), ?_⟩
                    refine wm_c ⟨(wk_X4_tell_X4_tell_r6 _ (wm_4 (wm_2 wm_h))), ?_⟩
                    refine wm_c ⟨(wk_X4_tell_X4_tell_r6 _ (wm_4 (wm_2 (wm_1 wm_h)))), ?_⟩
                    refine wm_c ⟨(wk_X4_tell_X4_tell_r6 _ (wm_8 wm_h)), ?_⟩
                    refine wm_c ⟨(wk_X4_tell_X4_tell_r6 _ (wm_8 (wm_1 wm_h))), ?_⟩
                    refine wm_c ⟨(wk_X4_tell_X4_tell_r6 _ (wm_8 (wm_2 wm_h))), ?_⟩
                    refine wm_c ⟨(wk_X4_tell_X4_tell_r6 _ (wm_8 (wm_2 (wm_1 wm_h)))), ?_⟩
                    refine wm_c ⟨(wk_X4_tell_X4_tell_r6 _ (wm_8 (wm_4 wm_h))), ?_⟩
                    refine wm_c ⟨(wk_X4_tell_X4_tell_r6 _ (wm_8 (wm_4 (wm_1 wm_h)))), ?_⟩
                    refine wm_c ⟨(wk_X4_tell_X4_tell_r6 _ (wm_8 (wm_4 (wm_2 wm_h)))), ?_⟩
                    refine wm_c ⟨(wk_X4_tell_X4_tell_r6 _ (wm_8 (wm_4 (wm_2 (wm_1 wm_h))))), ?_⟩
                    refine wm_c ⟨(wk_X4_tell_X4_tell_r6 _ (wm_16 wm_h)), ?_⟩
                    refine wm_c ⟨(wk_X4_tell_X4_tell_r6 _ (wm_16 (wm_1 wm_h))), ?_⟩
                    refine wm_c ⟨(wk_X4_tell_X4_tell_r6 _ (wm_16 (wm_2 wm_h))), ?_⟩
                    refine wm_c ⟨(wk_X4_tell_X4_tell_r6 _ (wm_16 (wm_2 (wm_1 wm_h)))), ?_⟩
                    refine wm_c ⟨(wk_X4_tell_X4_tell_r6 _ (wm_16 (wm_4 wm_h))), ?_⟩
                    refine wm_c ⟨(wk_X4_tell_X4_tell_r6 _ (wm_16 (wm_4 (wm_1 wm_h)))), ?_⟩
                    refine wm_c ⟨(wk_X4_tell_X4_tell_r6 _ (wm_16 (wm_4 (wm_2 wm_h)))), ?_⟩
                    refine wm_c ⟨(wk_X4_tell_X4_tell_r6 _ (wm_16 (wm_4 (wm_2 (wm_1 wm_h))))), ?_⟩
                    refine wm_c ⟨(wk_X4_tell_X4_tell_r7 _ wm_h), ?_⟩
                    exact wm_n
                  · unfold wsX4_readText_r7
                    refine wm_c ⟨(wk_X4_tell_X4_tell_r7 _ (wm_1 wm_h)), ?_⟩
                    refine wm_c ⟨(wk_X4_tell_X4_tell_r7 _ (wm_2 wm_h)), ?_⟩
                    refine wm_c ⟨(wk_X4_tell_X4_tell_r7 _ (wm_2 (wm_1 wm_h))), ?_⟩
                    refine wm_c ⟨(wk_X4_tell_X4_tell_r7 _ (wm_4 wm_h)), ?_⟩
                    refine wm_c ⟨(wk_X4_tell_X4_tell_r7 _ (wm_4 (wm_1 wm_h))), ?_⟩
                    refine wm_c ⟨(wk_X4_tell_X4_tell_r7 _ (wm_4 (wm_2 wm_h))), ?_⟩
                    refine wm_c ⟨(wk_X4_tell_X4_tell_r7 _ (wm_4 (wm_2 (wm_1 wm_h)))), ?_⟩
                    refine wm_c ⟨(wk_X4_tell_X4_tell_r7 _ (wm_8 wm_h)), ?_⟩
                    refine wm_c ⟨(wk_X4_tell_X4_tell_r7 _ (wm_8 (wm_1 wm_h))), ?_⟩
                    refine wm_c ⟨(wk_X4_tell_X4_tell_r7 _ (wm_8 (wm_2 wm_h))), ?_⟩
                    refine wm_c ⟨(wk_X4_tell_X4_tell_r7 _ (wm_8 (wm_2 (wm_1 wm_h)))), ?_⟩
                    refine wm_c ⟨(wk_X4_tell_X4_tell_r7 _ (wm_8 (wm_4 wm_h))), ?_⟩
                    refine wm_c ⟨(wk_X4_tell_X4_tell_r7 _ (wm_8 (wm_4 (wm_1 wm_h)))), ?_⟩
                    refine wm_c ⟨(wk_X4_tell_X4_tell_r7 _ (wm_8 (wm_4 (wm_2 wm_h)))), ?_⟩
                    exact wm_n
      · exact wk_X4_tell_X40
    · exact wk_X4_tell_X00
  · exact wk_X4_tell_X60
set_option maxRecDepth 20000 in
theorem gX4_tell_X4_readText : GoodIn wsX4_tell (wsV RX4 49 RX4 yX4_readText wsX4_readText) := by
  refine goodIn_app (goodIn_sub ?_ ?_) ggX4_tell_X4_readText
  · exact wm_c ⟨(wk_X4_tell_X4_tell_r1 _ (wm_4 (wm_1 wm_h))), wm_c ⟨(wk_X4_tell_X4_tell_r1 _ (wm_4 (wm_2 wm_h))), wm_c ⟨(wk_X4_tell_X4_tell_r1 _ (wm_4 (wm_2 (wm_1 wm_h)))), wm_c ⟨(wk_X4_tell_X4_tell_r1 _ (wm_8 wm_h)), wm_n⟩⟩⟩⟩
  · decide +kernel
set_option maxRecDepth 20000 in
theorem ggX4_tell_X4_wholeOf : GoodIn wsX4_tell wsX4_wholeOf := by
  refine goodIn_sub ?_ gd_X4_wholeOf
  unfold wsX4_wholeOf
  refine wm_c ⟨(wk_X4_tell_X4_tell_r1 _ (wm_8 (wm_4 (wm_2 wm_h)))), ?_⟩
  refine wm_a ⟨?_, ?_⟩
  · refine wm_c ⟨(wk_X4_tell_X4_tell_r1 _ (wm_8 (wm_4 (wm_2 (wm_1 wm_h))))), ?_⟩
    exact wm_n
  · exact wk_X4_tell_X40
set_option maxRecDepth 20000 in
theorem gX4_tell_X4_wholeOf : GoodIn wsX4_tell (wsV RX4 53 RX4 yX4_wholeOf wsX4_wholeOf) := by
  refine goodIn_app (goodIn_sub ?_ ?_) ggX4_tell_X4_wholeOf
  · exact wm_c ⟨(wk_X4_tell_X4_tell_r1 _ (wm_8 (wm_2 (wm_1 wm_h)))), wm_c ⟨(wk_X4_tell_X4_tell_r1 _ (wm_8 (wm_4 wm_h))), wm_c ⟨(wk_X4_tell_X4_tell_r1 _ (wm_8 (wm_4 (wm_1 wm_h)))), wm_c ⟨(wk_X4_tell_X4_tell_r1 _ (wm_8 wm_h)), wm_n⟩⟩⟩⟩
  · decide +kernel
set_option maxRecDepth 20000 in
theorem ggX4_tell_X0_copy : GoodIn wsX4_tell wsX0_copy := by
  refine goodIn_sub ?_ gd_X0_copy
  unfold wsX0_copy
  refine wm_c ⟨(wk_X4_tell_X4_tell_r3 _ (wm_8 (wm_2 wm_h))), ?_⟩
  refine wm_c ⟨(wk_X4_tell_X4_tell_r3 _ (wm_8 (wm_2 (wm_1 wm_h)))), ?_⟩
  refine wm_c ⟨(wk_X4_tell_X4_tell_r3 _ (wm_8 (wm_4 wm_h))), ?_⟩
  refine wm_c ⟨(wk_X4_tell_X4_tell_r3 _ (wm_8 (wm_4 (wm_1 wm_h)))), ?_⟩
  refine wm_c ⟨(wk_X4_tell_X4_tell_r3 _ (wm_8 (wm_4 (wm_2 wm_h)))), ?_⟩
  exact wm_n
set_option maxRecDepth 20000 in
theorem gX4_tell_X0_copy : GoodIn wsX4_tell (wsV RX4 57 RX0 yX0_copy wsX0_copy) := by
  refine goodIn_app (goodIn_sub ?_ ?_) ggX4_tell_X0_copy
  · exact wm_c ⟨(wk_X4_tell_X4_tell_r3 _ (wm_4 (wm_2 (wm_1 wm_h)))), wm_c ⟨(wk_X4_tell_X4_tell_r3 _ (wm_8 wm_h)), wm_c ⟨(wk_X4_tell_X4_tell_r3 _ (wm_8 (wm_1 wm_h))), wm_c ⟨(wk_X4_tell_X4_tell_r2 _ (wm_4 (wm_2 wm_h))), wm_n⟩⟩⟩⟩
  · decide +kernel
theorem dX4_tell_0 : decode cX4_tell 0 = .ok (.aload_n 0, 1) := by decide +kernel
theorem dX4_tell_1 : decode cX4_tell 1 = .ok (.iconst 0, 1) := by decide +kernel
theorem dX4_tell_2 : decode cX4_tell 2 = .ok (.putfield 39, 3) := by decide +kernel
theorem dX4_tell_5 : decode cX4_tell 5 = .ok (.aload_n 0, 1) := by decide +kernel
theorem dX4_tell_6 : decode cX4_tell 6 = .ok (.iconst (-1), 1) := by decide +kernel
theorem dX4_tell_7 : decode cX4_tell 7 = .ok (.putfield 42, 3) := by decide +kernel
theorem dX4_tell_10 : decode cX4_tell 10 = .ok (.aload_n 0, 1) := by decide +kernel
theorem dX4_tell_11 : decode cX4_tell 11 = .ok (.iconst 0, 1) := by decide +kernel
theorem dX4_tell_12 : decode cX4_tell 12 = .ok (.putfield 45, 3) := by decide +kernel
theorem dX4_tell_15 : decode cX4_tell 15 = .ok (.aload_n 0, 1) := by decide +kernel
theorem dX4_tell_16 : decode cX4_tell 16 = .ok (.iconst 0, 1) := by decide +kernel
theorem dX4_tell_17 : decode cX4_tell 17 = .ok (.invokevirtual 49, 3) := by decide +kernel
theorem dX4_tell_20 : decode cX4_tell 20 = .ok (.aload_n 0, 1) := by decide +kernel
theorem dX4_tell_21 : decode cX4_tell 21 = .ok (.getfield 42, 3) := by decide +kernel
theorem dX4_tell_24 : decode cX4_tell 24 = .ok (.ifCond .ge 22, 3) := by decide +kernel
theorem dX4_tell_27 : decode cX4_tell 27 = .ok (.aload_n 0, 1) := by decide +kernel
theorem dX4_tell_28 : decode cX4_tell 28 = .ok (.getfield 39, 3) := by decide +kernel
theorem dX4_tell_31 : decode cX4_tell 31 = .ok (.aload_n 0, 1) := by decide +kernel
theorem dX4_tell_32 : decode cX4_tell 32 = .ok (.getfield 33, 3) := by decide +kernel
theorem dX4_tell_35 : decode cX4_tell 35 = .ok (.if_icmp .ge 11, 3) := by decide +kernel
theorem dX4_tell_38 : decode cX4_tell 38 = .ok (.aload_n 0, 1) := by decide +kernel
theorem dX4_tell_39 : decode cX4_tell 39 = .ok (.aload_n 0, 1) := by decide +kernel
theorem dX4_tell_40 : decode cX4_tell 40 = .ok (.getfield 39, 3) := by decide +kernel
theorem dX4_tell_43 : decode cX4_tell 43 = .ok (.putfield 42, 3) := by decide +kernel
theorem dX4_tell_46 : decode cX4_tell 46 = .ok (.aload_n 0, 1) := by decide +kernel
theorem dX4_tell_47 : decode cX4_tell 47 = .ok (.iconst 0, 1) := by decide +kernel
theorem dX4_tell_48 : decode cX4_tell 48 = .ok (.putfield 33, 3) := by decide +kernel
theorem dX4_tell_51 : decode cX4_tell 51 = .ok (.aload_n 0, 1) := by decide +kernel
theorem dX4_tell_52 : decode cX4_tell 52 = .ok (.getfield 42, 3) := by decide +kernel
theorem dX4_tell_55 : decode cX4_tell 55 = .ok (.ifCond .lt 11, 3) := by decide +kernel
theorem dX4_tell_58 : decode cX4_tell 58 = .ok (.bipush (-10), 2) := by decide +kernel
theorem dX4_tell_60 : decode cX4_tell 60 = .ok (.aload_n 0, 1) := by decide +kernel
theorem dX4_tell_61 : decode cX4_tell 61 = .ok (.getfield 42, 3) := by decide +kernel
theorem dX4_tell_64 : decode cX4_tell 64 = .ok (.isub, 1) := by decide +kernel
theorem dX4_tell_65 : decode cX4_tell 65 = .ok (.ireturn, 1) := by decide +kernel
theorem dX4_tell_66 : decode cX4_tell 66 = .ok (.aload_n 0, 1) := by decide +kernel
theorem dX4_tell_67 : decode cX4_tell 67 = .ok (.getfield 45, 3) := by decide +kernel
theorem dX4_tell_70 : decode cX4_tell 70 = .ok (.ifCond .eq 6, 3) := by decide +kernel
theorem dX4_tell_73 : decode cX4_tell 73 = .ok (.bipush (-9), 2) := by decide +kernel
theorem dX4_tell_75 : decode cX4_tell 75 = .ok (.ireturn, 1) := by decide +kernel
theorem dX4_tell_76 : decode cX4_tell 76 = .ok (.aload_n 0, 1) := by decide +kernel
theorem dX4_tell_77 : decode cX4_tell 77 = .ok (.getfield 15, 3) := by decide +kernel
theorem dX4_tell_80 : decode cX4_tell 80 = .ok (.aload_n 1, 1) := by decide +kernel
theorem dX4_tell_81 : decode cX4_tell 81 = .ok (.aload_n 0, 1) := by decide +kernel
theorem dX4_tell_82 : decode cX4_tell 82 = .ok (.iconst 0, 1) := by decide +kernel
theorem dX4_tell_83 : decode cX4_tell 83 = .ok (.invokevirtual 53, 3) := by decide +kernel
theorem dX4_tell_86 : decode cX4_tell 86 = .ok (.invokevirtual 57, 3) := by decide +kernel
theorem dX4_tell_89 : decode cX4_tell 89 = .ok (.iconst 0, 1) := by decide +kernel
theorem dX4_tell_90 : decode cX4_tell 90 = .ok (.ireturn, 1) := by decide +kernel
theorem dX4_wholeOf_0 : decode cX4_wholeOf 0 = .ok (.aload_n 0, 1) := by decide +kernel
theorem dX4_wholeOf_1 : decode cX4_wholeOf 1 = .ok (.getfield 28, 3) := by decide +kernel
theorem dX4_wholeOf_4 : decode cX4_wholeOf 4 = .ok (.iconst 3, 1) := by decide +kernel
theorem dX4_wholeOf_5 : decode cX4_wholeOf 5 = .ok (.iload_n 1, 1) := by decide +kernel
theorem dX4_wholeOf_6 : decode cX4_wholeOf 6 = .ok (.imul, 1) := by decide +kernel
theorem dX4_wholeOf_7 : decode cX4_wholeOf 7 = .ok (.aaload, 1) := by decide +kernel
theorem dX4_wholeOf_8 : decode cX4_wholeOf 8 = .ok (.areturn, 1) := by decide +kernel
theorem dX4_termOf_0 : decode cX4_termOf 0 = .ok (.aload_n 0, 1) := by decide +kernel
theorem dX4_termOf_1 : decode cX4_termOf 1 = .ok (.getfield 28, 3) := by decide +kernel
theorem dX4_termOf_4 : decode cX4_termOf 4 = .ok (.iconst 3, 1) := by decide +kernel
theorem dX4_termOf_5 : decode cX4_termOf 5 = .ok (.iload_n 1, 1) := by decide +kernel
theorem dX4_termOf_6 : decode cX4_termOf 6 = .ok (.imul, 1) := by decide +kernel
theorem dX4_termOf_7 : decode cX4_termOf 7 = .ok (.iconst 1, 1) := by decide +kernel
theorem dX4_termOf_8 : decode cX4_termOf 8 = .ok (.iadd, 1) := by decide +kernel
theorem dX4_termOf_9 : decode cX4_termOf 9 = .ok (.aaload, 1) := by decide +kernel
theorem dX4_termOf_10 : decode cX4_termOf 10 = .ok (.areturn, 1) := by decide +kernel
theorem dX4_leftOf_0 : decode cX4_leftOf 0 = .ok (.aload_n 0, 1) := by decide +kernel
theorem dX4_leftOf_1 : decode cX4_leftOf 1 = .ok (.getfield 28, 3) := by decide +kernel
theorem dX4_leftOf_4 : decode cX4_leftOf 4 = .ok (.iconst 3, 1) := by decide +kernel
theorem dX4_leftOf_5 : decode cX4_leftOf 5 = .ok (.iload_n 1, 1) := by decide +kernel
theorem dX4_leftOf_6 : decode cX4_leftOf 6 = .ok (.imul, 1) := by decide +kernel
theorem dX4_leftOf_7 : decode cX4_leftOf 7 = .ok (.iconst 2, 1) := by decide +kernel
theorem dX4_leftOf_8 : decode cX4_leftOf 8 = .ok (.iadd, 1) := by decide +kernel
theorem dX4_leftOf_9 : decode cX4_leftOf 9 = .ok (.aaload, 1) := by decide +kernel
theorem dX4_leftOf_10 : decode cX4_leftOf 10 = .ok (.areturn, 1) := by decide +kernel
theorem dX4_hand_0 : decode cX4_hand 0 = .ok (.aload_n 0, 1) := by decide +kernel
theorem dX4_hand_1 : decode cX4_hand 1 = .ok (.getfield 39, 3) := by decide +kernel
theorem dX4_hand_4 : decode cX4_hand 4 = .ok (.aload_n 0, 1) := by decide +kernel
theorem dX4_hand_5 : decode cX4_hand 5 = .ok (.getfield 33, 3) := by decide +kernel
theorem dX4_hand_8 : decode cX4_hand 8 = .ok (.if_icmp .ge 15, 3) := by decide +kernel
theorem dX4_hand_11 : decode cX4_hand 11 = .ok (.aload_n 0, 1) := by decide +kernel
theorem dX4_hand_12 : decode cX4_hand 12 = .ok (.getfield 29, 3) := by decide +kernel
theorem dX4_hand_15 : decode cX4_hand 15 = .ok (.aload_n 0, 1) := by decide +kernel
theorem dX4_hand_16 : decode cX4_hand 16 = .ok (.getfield 39, 3) := by decide +kernel
theorem dX4_hand_19 : decode cX4_hand 19 = .ok (.iaload, 1) := by decide +kernel
theorem dX4_hand_20 : decode cX4_hand 20 = .ok (.goto 4, 3) := by decide +kernel
theorem dX4_hand_23 : decode cX4_hand 23 = .ok (.iconst (-1), 1) := by decide +kernel
theorem dX4_hand_24 : decode cX4_hand 24 = .ok (.ireturn, 1) := by decide +kernel
set_option maxRecDepth 20000 in
theorem ggX4_readText_X4_wholeOf : GoodIn wsX4_readText wsX4_wholeOf := by
  refine goodIn_sub ?_ gd_X4_wholeOf
  unfold wsX4_wholeOf
  refine wm_c ⟨(wk_X4_readText_X4_readText_r1 _ (wm_8 wm_h)), ?_⟩
  refine wm_a ⟨?_, ?_⟩
  · refine wm_c ⟨(wk_X4_readText_X4_readText_r1 _ (wm_8 (wm_1 wm_h))), ?_⟩
    exact wm_n
  · exact wk_X4_readText_X40
set_option maxRecDepth 20000 in
theorem gX4_readText_X4_wholeOf : GoodIn wsX4_readText (wsV RX4 53 RX4 yX4_wholeOf wsX4_wholeOf) := by
  refine goodIn_app (goodIn_sub ?_ ?_) ggX4_readText_X4_wholeOf
  · exact wm_c ⟨(wk_X4_readText_X4_readText_r1 _ (wm_4 wm_h)), wm_c ⟨(wk_X4_readText_X4_readText_r1 _ (wm_4 (wm_1 wm_h))), wm_c ⟨(wk_X4_readText_X4_readText_r1 _ (wm_4 (wm_2 wm_h))), wm_c ⟨(wk_X4_readText_X4_readText_r1 _ (wm_4 (wm_2 (wm_1 wm_h)))), wm_n⟩⟩⟩⟩
  · decide +kernel
set_option maxRecDepth 20000 in
theorem ggX4_readText_J7_fill_53178 : GoodIn wsX4_readText wsJ7_fill_53178 := by
  refine goodIn_sub ?_ gd_J7_fill_53178
  unfold wsJ7_fill_53178
  refine wm_c ⟨(wk_X4_readText_X4_readText_r1 _ (wm_8 (wm_4 (wm_1 wm_h)))), ?_⟩
  exact wm_n
set_option maxRecDepth 20000 in
theorem gX4_readText_J7_fill_53178 : GoodIn wsX4_readText (va_wsS RX4 61 yJ7_fill_53178 wsJ7_fill_53178) := goodIn_app (goodIn_of _ (by decide +kernel)) ggX4_readText_J7_fill_53178
set_option maxRecDepth 20000 in
theorem ggX4_readText_X4_readTerm : GoodIn wsX4_readText wsX4_readTerm := by
  refine goodIn_sub ?_ gd_X4_readTerm
  unfold wsX4_readTerm
  refine wm_c ⟨(wk_X4_readText_X4_readText_r6 _ (wm_16 (wm_4 wm_h))), ?_⟩
  refine wm_a ⟨?_, ?_⟩
  · refine wm_a ⟨?_, ?_⟩
    · refine wm_a ⟨?_, ?_⟩
      · refine wm_a ⟨?_, ?_⟩
        · unfold wsX4_readTerm_r1
          refine wm_c ⟨(wk_X4_readText_X4_readText_r1 _ (wm_1 wm_h)), ?_⟩
          refine wm_c ⟨(wk_X4_readText_X4_readText_r1 _ (wm_2 (wm_1 wm_h))), ?_⟩
          refine wm_c ⟨(wk_X4_readText_X4_readText_r1 _ wm_h), ?_⟩
          refine wm_c ⟨(wk_X4_readText_X4_readText_r1 _ (wm_16 (wm_1 wm_h))), ?_⟩
          refine wm_c ⟨(wk_X4_readText_X4_readText_r1 _ (wm_16 (wm_2 wm_h))), ?_⟩
          refine wm_c ⟨(wk_X4_readText_X4_readText_r1 _ (wm_16 (wm_2 (wm_1 wm_h)))), ?_⟩
          refine wm_c ⟨(wk_X4_readText_X4_readText_r1 _ (wm_4 (wm_2 (wm_1 wm_h)))), ?_⟩
          refine wm_c ⟨(wk_X4_readText_X4_readText_r1 _ (wm_16 (wm_4 wm_h))), ?_⟩
          refine wm_c ⟨(wk_X4_readText_X4_readText_r1 _ (wm_8 (wm_1 wm_h))), ?_⟩
          refine wm_c ⟨(wk_X4_readText_X4_readText_r6 _ (wm_16 (wm_4 (wm_1 wm_h)))), ?_⟩
          refine wm_c ⟨(wk_X4_readText_X4_readText_r6 _ (wm_8 (wm_4 wm_h))), ?_⟩
          refine wm_c ⟨(wk_X4_readText_X4_readText_r6 _ (wm_8 (wm_4 (wm_1 wm_h)))), ?_⟩
          refine wm_c ⟨(wk_X4_readText_X4_readText_r2 _ wm_h), ?_⟩
          refine wm_c ⟨(wk_X4_readText_X4_readText_r6 _ (wm_8 (wm_4 (wm_2 wm_h)))), ?_⟩
          refine wm_c ⟨(wk_X4_readText_X4_readText_r3 _ (wm_16 (wm_4 wm_h))), ?_⟩
          refine wm_c ⟨(wk_X4_readText_X4_readText_r1 _ (wm_8 (wm_2 (wm_1 wm_h)))), ?_⟩
          refine wm_c ⟨(wk_X4_readText_X4_readText_r1 _ (wm_8 (wm_4 wm_h))), ?_⟩
          refine wm_c ⟨(wk_X4_readText_X4_readText_r1 _ (wm_8 (wm_4 (wm_1 wm_h)))), ?_⟩
          refine wm_c ⟨(wk_X4_readText_X4_readText_r2 _ (wm_4 (wm_2 (wm_1 wm_h)))), ?_⟩
          refine wm_c ⟨(wk_X4_readText_X4_readText_r2 _ (wm_8 wm_h)), ?_⟩
          refine wm_c ⟨(wk_X4_readText_X4_readText_r2 _ (wm_8 (wm_1 wm_h))), ?_⟩
          refine wm_c ⟨(wk_X4_readText_X4_readText_r2 _ (wm_8 (wm_2 wm_h))), ?_⟩
          refine wm_c ⟨(wk_X4_readText_X4_readText_r2 _ (wm_8 (wm_2 (wm_1 wm_h)))), ?_⟩
          refine wm_c ⟨(wk_X4_readText_X4_readText_r2 _ (wm_8 (wm_4 wm_h))), ?_⟩
          exact wm_n
        · refine wm_a ⟨?_, ?_⟩
          · unfold wsX4_readTerm_r2
            refine wm_c ⟨(wk_X4_readText_X4_readText_r6 _ (wm_16 (wm_4 (wm_2 wm_h)))), ?_⟩
            refine wm_c ⟨(wk_X4_readText_X4_readText_r6 _ (wm_16 (wm_4 (wm_2 (wm_1 wm_h))))), ?_⟩
            refine wm_c ⟨(wk_X4_readText_X4_readText_r7 _ wm_h), ?_⟩
            refine wm_c ⟨(wk_X4_readText_X4_readText_r7 _ (wm_1 wm_h)), ?_⟩
            refine wm_c ⟨(wk_X4_readText_X4_readText_r4 _ (wm_8 (wm_2 wm_h))), ?_⟩
            refine wm_c ⟨(wk_X4_readText_X4_readText_r4 _ (wm_8 (wm_2 (wm_1 wm_h)))), ?_⟩
            refine wm_c ⟨(wk_X4_readText_X4_readText_r4 _ (wm_8 (wm_4 wm_h))), ?_⟩
            refine wm_c ⟨(wk_X4_readText_X4_readText_r4 _ (wm_8 (wm_4 (wm_1 wm_h)))), ?_⟩
            refine wm_c ⟨(wk_X4_readText_X4_readText_r5 _ (wm_1 wm_h)), ?_⟩
            refine wm_c ⟨(wk_X4_readText_X4_readText_r5 _ (wm_2 wm_h)), ?_⟩
            refine wm_c ⟨(wk_X4_readText_X4_readText_r5 _ (wm_2 (wm_1 wm_h))), ?_⟩
            refine wm_c ⟨(wk_X4_readText_X4_readText_r5 _ (wm_4 wm_h)), ?_⟩
            refine wm_c ⟨(wk_X4_readText_X4_readText_r5 _ (wm_4 (wm_1 wm_h))), ?_⟩
            refine wm_c ⟨(wk_X4_readText_X4_readText_r5 _ (wm_4 (wm_2 wm_h))), ?_⟩
            refine wm_c ⟨(wk_X4_readText_X4_readText_r7 _ (wm_2 wm_h)), ?_⟩
            refine wm_c ⟨(wk_X4_readText_X4_readText_r7 _ (wm_2 (wm_1 wm_h))), ?_⟩
            refine wm_c ⟨(wk_X4_readText_X4_readText_r7 _ (wm_4 wm_h)), ?_⟩
            refine wm_c ⟨(wk_X4_readText_X4_readText_r7 _ (wm_4 (wm_1 wm_h))), ?_⟩
            refine wm_c ⟨(wk_X4_readText_X4_readText_r7 _ (wm_4 (wm_2 wm_h))), ?_⟩
            refine wm_c ⟨(wk_X4_readText_X4_readText_r7 _ (wm_4 (wm_2 (wm_1 wm_h)))), ?_⟩
            refine wm_c ⟨(wk_X4_readText_X4_readText_r7 _ (wm_8 wm_h)), ?_⟩
            refine wm_c ⟨(wk_X4_readText_X4_readText_r4 _ (wm_8 (wm_4 (wm_2 wm_h)))), ?_⟩
            refine wm_c ⟨(wk_X4_readText_X4_readText_r4 _ (wm_8 (wm_4 (wm_2 (wm_1 wm_h))))), ?_⟩
            refine wm_c ⟨(wk_X4_readText_X4_readText_r4 _ (wm_16 wm_h)), ?_⟩
            exact wm_n
          · refine wm_a ⟨?_, ?_⟩
            · unfold wsX4_readTerm_r3
              refine wm_c ⟨(wk_X4_readText_X4_readText_r4 _ (wm_16 (wm_1 wm_h))), ?_⟩
              refine wm_c ⟨(wk_X4_readText_X4_readText_r7 _ (wm_8 (wm_1 wm_h))), ?_⟩
              refine wm_c ⟨(wk_X4_readText_X4_readText_r7 _ (wm_8 (wm_2 wm_h))), ?_⟩
              refine wm_c ⟨(wk_X4_readText_X4_readText_r2 _ (wm_4 wm_h)), ?_⟩
              refine wm_c ⟨(wk_X4_readText_X4_readText_r7 _ (wm_8 (wm_2 (wm_1 wm_h)))), ?_⟩
              refine wm_c ⟨(wk_X4_readText_X4_readText_r7 _ (wm_8 (wm_4 wm_h))), ?_⟩
              refine wm_c ⟨(wk_X4_readText_X4_readText_r7 _ (wm_8 (wm_4 (wm_1 wm_h)))), ?_⟩
              refine wm_c ⟨(wk_X4_readText_X4_readText_r4 _ (wm_16 (wm_4 (wm_2 (wm_1 wm_h))))), ?_⟩
              refine wm_c ⟨(wk_X4_readText_X4_readText_r5 _ wm_h), ?_⟩
              refine wm_c ⟨(wk_X4_readText_X4_readText_r2 _ (wm_4 (wm_2 wm_h))), ?_⟩
              refine wm_c ⟨(wk_X4_readText_X4_readText_r4 _ (wm_16 (wm_2 wm_h))), ?_⟩
              refine wm_c ⟨(wk_X4_readText_X4_readText_r4 _ (wm_16 (wm_2 (wm_1 wm_h)))), ?_⟩
              refine wm_c ⟨(wk_X4_readText_X4_readText_r4 _ (wm_16 (wm_4 wm_h))), ?_⟩
              refine wm_c ⟨(wk_X4_readText_X4_readText_r4 _ (wm_16 (wm_4 (wm_1 wm_h)))), ?_⟩
              refine wm_c ⟨(wk_X4_readText_X4_readText_r4 _ (wm_16 (wm_4 (wm_2 wm_h)))), ?_⟩
              refine wm_c ⟨(wk_X4_readText_X4_readText_r2 _ (wm_8 (wm_4 (wm_1 wm_h)))), ?_⟩
              refine wm_c ⟨(wk_X4_readText_X4_readText_r2 _ (wm_8 (wm_4 (wm_2 wm_h)))), ?_⟩
              refine wm_c ⟨(wk_X4_readText_X4_readText_r2 _ (wm_8 (wm_4 (wm_2 (wm_1 wm_h))))), ?_⟩
              refine wm_c ⟨(wk_X4_readText_X4_readText_r2 _ (wm_16 wm_h)), ?_⟩
              refine wm_c ⟨(wk_X4_readText_X4_readText_r2 _ (wm_16 (wm_1 wm_h))), ?_⟩
              refine wm_c ⟨(wk_X4_readText_X4_readText_r1 _ (wm_4 wm_h)), ?_⟩
              refine wm_c ⟨(wk_X4_readText_X4_readText_r1 _ (wm_4 (wm_1 wm_h))), ?_⟩
              refine wm_c ⟨(wk_X4_readText_X4_readText_r1 _ (wm_4 (wm_2 wm_h))), ?_⟩
              refine wm_c ⟨(wk_X4_readText_X4_readText_r1 _ (wm_8 wm_h)), ?_⟩
              exact wm_n
            · refine wm_a ⟨?_, ?_⟩
              · unfold wsX4_readTerm_r4
                refine wm_c ⟨(wk_X4_readText_X4_readText_r2 _ (wm_16 (wm_2 wm_h))), ?_⟩
                refine wm_c ⟨(wk_X4_readText_X4_readText_r2 _ (wm_16 (wm_2 (wm_1 wm_h)))), ?_⟩
                refine wm_c ⟨(wk_X4_readText_X4_readText_r2 _ (wm_16 (wm_4 wm_h))), ?_⟩
                refine wm_c ⟨(wk_X4_readText_X4_readText_r2 _ (wm_16 (wm_4 (wm_1 wm_h)))), ?_⟩
                refine wm_c ⟨(wk_X4_readText_X4_readText_r2 _ (wm_16 (wm_4 (wm_2 wm_h)))), ?_⟩
                refine wm_c ⟨(wk_X4_readText_X4_readText_r2 _ (wm_16 (wm_4 (wm_2 (wm_1 wm_h))))), ?_⟩
                refine wm_c ⟨(wk_X4_readText_X4_readText_r3 _ wm_h), ?_⟩
                refine wm_c ⟨(wk_X4_readText_X4_readText_r3 _ (wm_1 wm_h)), ?_⟩
                refine wm_c ⟨(wk_X4_readText_X4_readText_r3 _ (wm_2 wm_h)), ?_⟩
                refine wm_c ⟨(wk_X4_readText_X4_readText_r3 _ (wm_2 (wm_1 wm_h))), ?_⟩
                refine wm_c ⟨(wk_X4_readText_X4_readText_r3 _ (wm_4 wm_h)), ?_⟩
                refine wm_c ⟨(wk_X4_readText_X4_readText_r3 _ (wm_4 (wm_1 wm_h))), ?_⟩
                refine wm_c ⟨(wk_X4_readText_X4_readText_r3 _ (wm_4 (wm_2 wm_h))), ?_⟩
                refine wm_c ⟨(wk_X4_readText_X4_readText_r3 _ (wm_4 (wm_2 (wm_1 wm_h)))), ?_⟩
                refine wm_c ⟨(wk_X4_readText_X4_readText_r3 _ (wm_8 wm_h)), ?_⟩
                refine wm_c ⟨(wk_X4_readText_X4_readText_r3 _ (wm_8 (wm_1 wm_h))), ?_⟩
                refine wm_c ⟨(wk_X4_readText_X4_readText_r3 _ (wm_8 (wm_2 wm_h))), ?_⟩
                refine wm_c ⟨(wk_X4_readText_X4_readText_r3 _ (wm_8 (wm_2 (wm_1 wm_h)))), ?_⟩
                refine wm_c ⟨(wk_X4_readText_X4_readText_r3 _ (wm_8 (wm_4 wm_h))), ?_⟩
                refine wm_c ⟨(wk_X4_readText_X4_readText_r3 _ (wm_8 (wm_4 (wm_1 wm_h)))), ?_⟩
                refine wm_c ⟨(wk_X4_readText_X4_readText_r3 _ (wm_8 (wm_4 (wm_2 wm_h)))), ?_⟩
                refine wm_c ⟨(wk_X4_readText_X4_readText_r3 _ (wm_8 (wm_4 (wm_2 (wm_1 wm_h))))), ?_⟩
                refine wm_c ⟨(wk_X4_readText_X4_readText_r3 _ (wm_16 wm_h)), ?_⟩
                refine wm_c ⟨(wk_X4_readText_X4_readText_r3 _ (wm_16 (wm_1 wm_h))), ?_⟩
                exact wm_n
              · refine wm_a ⟨?_, ?_⟩
                · unfold wsX4_readTerm_r5
                  refine wm_c ⟨(wk_X4_readText_X4_readText_r3 _ (wm_16 (wm_2 wm_h))), ?_⟩
                  refine wm_c ⟨(wk_X4_readText_X4_readText_r3 _ (wm_16 (wm_2 (wm_1 wm_h)))), ?_⟩
                  refine wm_c ⟨(wk_X4_readText_X4_readText_r3 _ (wm_16 (wm_4 (wm_1 wm_h)))), ?_⟩
                  refine wm_c ⟨(wk_X4_readText_X4_readText_r3 _ (wm_16 (wm_4 (wm_2 wm_h)))), ?_⟩
                  refine wm_c ⟨(wk_X4_readText_X4_readText_r3 _ (wm_16 (wm_4 (wm_2 (wm_1 wm_h))))), ?_⟩
                  refine wm_c ⟨(wk_X4_readText_X4_readText_r4 _ wm_h), ?_⟩
                  refine wm_c ⟨(wk_X4_readText_X4_readText_r4 _ (wm_1 wm_h)), ?_⟩
                  refine wm_c ⟨(wk_X4_readText_X4_readText_r4 _ (wm_2 wm_h)), ?_⟩
                  refine wm_c ⟨(wk_X4_readText_X4_readText_r4 _ (wm_2 (wm_1 wm_h))), ?_⟩
                  refine wm_c ⟨(wk_X4_readText_X4_readText_r4 _ (wm_4 wm_h)), ?_⟩
                  refine wm_c ⟨(wk_X4_readText_X4_readText_r4 _ (wm_4 (wm_1 wm_h))), ?_⟩
                  refine wm_c ⟨(wk_X4_readText_X4_readText_r4 _ (wm_4 (wm_2 wm_h))), ?_⟩
                  refine wm_c ⟨(wk_X4_readText_X4_readText_r4 _ (wm_4 (wm_2 (wm_1 wm_h)))), ?_⟩
                  refine wm_c ⟨(wk_X4_readText_X4_readText_r4 _ (wm_8 wm_h)), ?_⟩
                  refine wm_c ⟨(wk_X4_readText_X4_readText_r4 _ (wm_8 (wm_1 wm_h))), ?_⟩
                  refine wm_c ⟨(wk_X4_readText_X4_readText_r5 _ (wm_4 (wm_2 (wm_1 wm_h)))), ?_⟩
                  refine wm_c ⟨(wk_X4_readText_X4_readText_r5 _ (wm_8 wm_h)), ?_⟩
                  refine wm_c ⟨(wk_X4_readText_X4_readText_r5 _ (wm_8 (wm_1 wm_h))), ?_⟩
                  refine wm_c ⟨(wk_X4_readText_X4_readText_r5 _ (wm_8 (wm_2 wm_h))), ?_⟩
                  refine wm_c ⟨(wk_X4_readText_X4_readText_r5 _ (wm_8 (wm_2 (wm_1 wm_h)))), ?_⟩
                  refine wm_c ⟨(wk_X4_readText_X4_readText_r5 _ (wm_8 (wm_4 wm_h))), ?_⟩
                  refine wm_c ⟨(wk_X4_readText_X4_readText_r5 _ (wm_8 (wm_4 (wm_1 wm_h)))), ?_⟩
                  refine wm_c ⟨(wk_X4_readText_X4_readText_r5 _ (wm_8 (wm_4 (wm_2 wm_h)))), ?_⟩
                  refine wm_c ⟨(wk_X4_readText_X4_readText_r5 _ (wm_8 (wm_4 (wm_2 (wm_1 wm_h))))), ?_⟩
                  exact wm_n
                · refine wm_a ⟨?_, ?_⟩
                  · unfold wsX4_readTerm_r6
                    refine wm_c ⟨(wk_X4_readText_X4_readText_r5 _ (wm_16 wm_h)), ?_⟩
                    refine wm_c ⟨(wk_X4_readText_X4_readText_r5 _ (wm_16 (wm_1 wm_h))), ?_⟩
                    refine wm_c ⟨(wk_X4_readText_X4_readText_r5 _ (wm_16 (wm_2 wm_h))), ?_⟩
                    refine wm_c ⟨(wk_X4_readText_X4_readText_r5 _ (wm_16 (wm_2 (wm_1 wm_h)))), ?_⟩
                    refine wm_c ⟨(wk_X4_readText_X4_readText_r5 _ (wm_16 (wm_4 wm_h))), ?_⟩
                    refine wm_c ⟨(wk_X4_readText_X4_readText_r5 _ (wm_16 (wm_4 (wm_1 wm_h)))), ?_⟩
                    refine wm_c ⟨(wk_X4_readText_X4_readText_r5 _ (wm_16 (wm_4 (wm_2 wm_h)))), ?_⟩
                    refine wm_c ⟨(wk_X4_readText_X4_readText_r5 _ (wm_16 (wm_4 (wm_2 (wm_1 wm_h))))), ?_⟩
                    refine wm_c ⟨(wk_X4_readText_X4_readText_r6 _ wm_h), ?_⟩
                    refine wm_c ⟨(wk_X4_readText_X4_readText_r6 _ (wm_1 wm_h)), ?_⟩
                    refine wm_c ⟨(wk_X4_readText_X4_readText_r6 _ (wm_2 wm_h)), ?_⟩
                    refine wm_c ⟨(wk_X4_readText_X4_readText_r6 _ (wm_2 (wm_1 wm_h))), ?_⟩
                    refine wm_c ⟨(wk_X4_readText_X4_readText_r6 _ (wm_4 wm_h)), ?_⟩
                    refine wm_c ⟨(wk_X4_readText_X4_readText_r6 _ (wm_4 (wm_1 wm_h))), ?_⟩
                    refine wm_c ⟨(wk_X4_readText_X4_readText_r6 _ (wm_4 (wm_2 wm_h))), ?_⟩
                    refine wm_c ⟨(wk_X4_readText_X4_readText_r6 _ (wm_4 (wm_2 (wm_1 wm_h)))), ?_⟩
                    refine wm_c ⟨(wk_X4_readText_X4_readText_r6 _ (wm_8 wm_h)), ?_⟩
                    refine wm_c ⟨(wk_X4_readText_X4_readText_r6 _ (wm_8 (wm_1 wm_h))), ?_⟩
                    refine wm_c ⟨(wk_X4_readText_X4_readText_r6 _ (wm_8 (wm_2 wm_h))), ?_⟩
                    refine wm_c ⟨(wk_X4_readText_X4_readText_r6 _ (wm_8 (wm_2 (wm_1 wm_h)))), ?_⟩
                    refine wm_c ⟨(wk_X4_readText_X4_readText_r6 _ (wm_8 (wm_4 (wm_2 (wm_1 wm_h))))), ?_⟩
                    refine wm_c ⟨(wk_X4_readText_X4_readText_r6 _ (wm_16 wm_h)), ?_⟩
                    refine wm_c ⟨(wk_X4_readText_X4_readText_r6 _ (wm_16 (wm_1 wm_h))), ?_⟩
                    refine wm_c ⟨(wk_X4_readText_X4_readText_r6 _ (wm_16 (wm_2 wm_h))), ?_⟩
                    exact wm_n
                  · unfold wsX4_readTerm_r7
                    refine wm_c ⟨(wk_X4_readText_X4_readText_r6 _ (wm_16 (wm_2 (wm_1 wm_h)))), ?_⟩
                    refine wm_c ⟨wm_h, ?_⟩
                    refine wm_c ⟨(wk_X4_readText_X4_readText_r1 _ (wm_2 wm_h)), ?_⟩
                    refine wm_c ⟨(wk_X4_readText_X4_readText_r1 _ (wm_8 (wm_2 wm_h))), ?_⟩
                    refine wm_c ⟨(wk_X4_readText_X4_readText_r1 _ (wm_8 (wm_4 (wm_2 wm_h)))), ?_⟩
                    refine wm_c ⟨(wk_X4_readText_X4_readText_r1 _ (wm_8 (wm_4 (wm_2 (wm_1 wm_h))))), ?_⟩
                    refine wm_c ⟨(wk_X4_readText_X4_readText_r1 _ (wm_16 wm_h)), ?_⟩
                    refine wm_c ⟨(wk_X4_readText_X4_readText_r1 _ (wm_16 (wm_4 (wm_1 wm_h)))), ?_⟩
                    refine wm_c ⟨(wk_X4_readText_X4_readText_r1 _ (wm_16 (wm_4 (wm_2 wm_h)))), ?_⟩
                    refine wm_c ⟨(wk_X4_readText_X4_readText_r1 _ (wm_16 (wm_4 (wm_2 (wm_1 wm_h))))), ?_⟩
                    refine wm_c ⟨(wk_X4_readText_X4_readText_r2 _ (wm_1 wm_h)), ?_⟩
                    refine wm_c ⟨(wk_X4_readText_X4_readText_r2 _ (wm_2 wm_h)), ?_⟩
                    refine wm_c ⟨(wk_X4_readText_X4_readText_r2 _ (wm_2 (wm_1 wm_h))), ?_⟩
                    refine wm_c ⟨(wk_X4_readText_X4_readText_r2 _ (wm_4 (wm_1 wm_h))), ?_⟩
                    exact wm_n
      · exact wk_X4_readText_X40
    · exact wk_X4_readText_X00
  · exact wk_X4_readText_X60
set_option maxRecDepth 20000 in
theorem gX4_readText_X4_readTerm : GoodIn wsX4_readText (wsV RX4 67 RX4 yX4_readTerm wsX4_readTerm) := by
  refine goodIn_app (goodIn_sub ?_ ?_) ggX4_readText_X4_readTerm
  · exact wm_c ⟨(wk_X4_readText_X4_readText_r1 _ (wm_8 (wm_4 (wm_2 wm_h)))), wm_c ⟨(wk_X4_readText_X4_readText_r1 _ (wm_8 (wm_4 (wm_2 (wm_1 wm_h))))), wm_c ⟨(wk_X4_readText_X4_readText_r1 _ (wm_16 wm_h)), wm_c ⟨(wk_X4_readText_X4_readText_r1 _ (wm_4 (wm_2 (wm_1 wm_h)))), wm_n⟩⟩⟩⟩
  · decide +kernel
set_option maxRecDepth 20000 in
theorem ggX4_readText_X4_termOf : GoodIn wsX4_readText wsX4_termOf := by
  refine goodIn_sub ?_ gd_X4_termOf
  unfold wsX4_termOf
  refine wm_c ⟨(wk_X4_readText_X4_readText_r1 _ (wm_16 (wm_4 wm_h))), ?_⟩
  refine wm_a ⟨?_, ?_⟩
  · refine wm_c ⟨(wk_X4_readText_X4_readText_r1 _ (wm_8 (wm_1 wm_h))), ?_⟩
    exact wm_n
  · exact wk_X4_readText_X40
set_option maxRecDepth 20000 in
theorem gX4_readText_X4_termOf : GoodIn wsX4_readText (wsV RX4 70 RX4 yX4_termOf wsX4_termOf) := by
  refine goodIn_app (goodIn_sub ?_ ?_) ggX4_readText_X4_termOf
  · exact wm_c ⟨(wk_X4_readText_X4_readText_r1 _ (wm_16 (wm_1 wm_h))), wm_c ⟨(wk_X4_readText_X4_readText_r1 _ (wm_16 (wm_2 wm_h))), wm_c ⟨(wk_X4_readText_X4_readText_r1 _ (wm_16 (wm_2 (wm_1 wm_h)))), wm_c ⟨(wk_X4_readText_X4_readText_r1 _ (wm_4 (wm_2 (wm_1 wm_h)))), wm_n⟩⟩⟩⟩
  · decide +kernel
set_option maxRecDepth 20000 in
theorem ggX4_readText_X0_amass : GoodIn wsX4_readText wsX0_amass := by
  refine goodIn_sub ?_ gd_X0_amass
  unfold wsX0_amass
  refine wm_c ⟨(wk_X4_readText_X4_readText_r2 _ (wm_1 wm_h)), ?_⟩
  refine wm_c ⟨(wk_X4_readText_X4_readText_r2 _ (wm_2 wm_h)), ?_⟩
  refine wm_c ⟨(wk_X4_readText_X4_readText_r2 _ (wm_2 (wm_1 wm_h))), ?_⟩
  refine wm_c ⟨(wk_X4_readText_X4_readText_r2 _ (wm_4 wm_h)), ?_⟩
  refine wm_c ⟨(wk_X4_readText_X4_readText_r2 _ (wm_4 (wm_1 wm_h))), ?_⟩
  refine wm_c ⟨(wk_X4_readText_X4_readText_r2 _ (wm_4 (wm_2 wm_h))), ?_⟩
  exact wm_n
set_option maxRecDepth 20000 in
theorem gX4_readText_X0_amass : GoodIn wsX4_readText (wsV RX4 73 RX0 yX0_amass wsX0_amass) := by
  refine goodIn_app (goodIn_sub ?_ ?_) ggX4_readText_X0_amass
  · exact wm_c ⟨(wk_X4_readText_X4_readText_r1 _ (wm_16 (wm_4 (wm_1 wm_h)))), wm_c ⟨(wk_X4_readText_X4_readText_r1 _ (wm_16 (wm_4 (wm_2 wm_h)))), wm_c ⟨(wk_X4_readText_X4_readText_r1 _ (wm_16 (wm_4 (wm_2 (wm_1 wm_h))))), wm_c ⟨(wk_X4_readText_X4_readText_r2 _ wm_h), wm_n⟩⟩⟩⟩
  · decide +kernel
set_option maxRecDepth 20000 in
theorem ggX4_readText_X4_hand : GoodIn wsX4_readText wsX4_hand := by
  refine goodIn_sub ?_ gd_X4_hand
  unfold wsX4_hand
  refine wm_c ⟨(wk_X4_readText_X4_readText_r2 _ (wm_8 (wm_2 wm_h))), ?_⟩
  refine wm_a ⟨?_, ?_⟩
  · refine wm_c ⟨(wk_X4_readText_X4_readText_r1 _ (wm_2 (wm_1 wm_h))), ?_⟩
    refine wm_c ⟨(wk_X4_readText_X4_readText_r2 _ (wm_8 (wm_2 (wm_1 wm_h)))), ?_⟩
    refine wm_c ⟨(wk_X4_readText_X4_readText_r2 _ (wm_8 (wm_4 wm_h))), ?_⟩
    exact wm_n
  · exact wk_X4_readText_X40
set_option maxRecDepth 20000 in
theorem gX4_readText_X4_hand : GoodIn wsX4_readText (wsV RX4 77 RX4 yX4_hand wsX4_hand) := by
  refine goodIn_app (goodIn_sub ?_ ?_) ggX4_readText_X4_hand
  · exact wm_c ⟨(wk_X4_readText_X4_readText_r2 _ (wm_4 (wm_2 (wm_1 wm_h)))), wm_c ⟨(wk_X4_readText_X4_readText_r2 _ (wm_8 wm_h)), wm_c ⟨(wk_X4_readText_X4_readText_r2 _ (wm_8 (wm_1 wm_h))), wm_c ⟨(wk_X4_readText_X4_readText_r1 _ (wm_4 (wm_2 (wm_1 wm_h)))), wm_n⟩⟩⟩⟩
  · decide +kernel
theorem dX4_readText_0 : decode cX4_readText 0 = .ok (.aload_n 0, 1) := by decide +kernel
theorem dX4_readText_1 : decode cX4_readText 1 = .ok (.iload_n 1, 1) := by decide +kernel
theorem dX4_readText_2 : decode cX4_readText 2 = .ok (.invokevirtual 53, 3) := by decide +kernel
theorem dX4_readText_5 : decode cX4_readText 5 = .ok (.astore_n 2, 1) := by decide +kernel
theorem dX4_readText_6 : decode cX4_readText 6 = .ok (.aload_n 2, 1) := by decide +kernel
theorem dX4_readText_7 : decode cX4_readText 7 = .ok (.iconst 0, 1) := by decide +kernel
theorem dX4_readText_8 : decode cX4_readText 8 = .ok (.invokestatic 61, 3) := by decide +kernel
theorem dX4_readText_11 : decode cX4_readText 11 = .ok (.iconst 1, 1) := by decide +kernel
theorem dX4_readText_12 : decode cX4_readText 12 = .ok (.istore_n 3, 1) := by decide +kernel
theorem dX4_readText_13 : decode cX4_readText 13 = .ok (.iconst 0, 1) := by decide +kernel
theorem dX4_readText_14 : decode cX4_readText 14 = .ok (.istore 4, 2) := by decide +kernel
theorem dX4_readText_16 : decode cX4_readText 16 = .ok (.iload 4, 2) := by decide +kernel
theorem dX4_readText_18 : decode cX4_readText 18 = .ok (.bipush 100, 2) := by decide +kernel
theorem dX4_readText_20 : decode cX4_readText 20 = .ok (.if_icmp .ge 81, 3) := by decide +kernel
theorem dX4_readText_23 : decode cX4_readText 23 = .ok (.aload_n 0, 1) := by decide +kernel
theorem dX4_readText_24 : decode cX4_readText 24 = .ok (.iload_n 1, 1) := by decide +kernel
theorem dX4_readText_25 : decode cX4_readText 25 = .ok (.invokevirtual 67, 3) := by decide +kernel
theorem dX4_readText_28 : decode cX4_readText 28 = .ok (.aload_n 0, 1) := by decide +kernel
theorem dX4_readText_29 : decode cX4_readText 29 = .ok (.getfield 42, 3) := by decide +kernel
theorem dX4_readText_32 : decode cX4_readText 32 = .ok (.ifCond .lt 4, 3) := by decide +kernel
theorem dX4_readText_35 : decode cX4_readText 35 = .ok (.return_, 1) := by decide +kernel
theorem dX4_readText_36 : decode cX4_readText 36 = .ok (.aload_n 0, 1) := by decide +kernel
theorem dX4_readText_37 : decode cX4_readText 37 = .ok (.getfield 15, 3) := by decide +kernel
theorem dX4_readText_40 : decode cX4_readText 40 = .ok (.aload_n 2, 1) := by decide +kernel
theorem dX4_readText_41 : decode cX4_readText 41 = .ok (.aload_n 0, 1) := by decide +kernel
theorem dX4_readText_42 : decode cX4_readText 42 = .ok (.iload_n 1, 1) := by decide +kernel
theorem dX4_readText_43 : decode cX4_readText 43 = .ok (.invokevirtual 70, 3) := by decide +kernel
theorem dX4_readText_46 : decode cX4_readText 46 = .ok (.iload_n 3, 1) := by decide +kernel
theorem dX4_readText_47 : decode cX4_readText 47 = .ok (.invokevirtual 73, 3) := by decide +kernel
theorem dX4_readText_50 : decode cX4_readText 50 = .ok (.aload_n 0, 1) := by decide +kernel
theorem dX4_readText_51 : decode cX4_readText 51 = .ok (.invokevirtual 77, 3) := by decide +kernel
theorem dX4_readText_54 : decode cX4_readText 54 = .ok (.istore 5, 2) := by decide +kernel
theorem dX4_readText_56 : decode cX4_readText 56 = .ok (.iload 5, 2) := by decide +kernel
theorem dX4_readText_58 : decode cX4_readText 58 = .ok (.bipush 43, 2) := by decide +kernel
theorem dX4_readText_60 : decode cX4_readText 60 = .ok (.if_icmp .eq 11, 3) := by decide +kernel
theorem dX4_readText_63 : decode cX4_readText 63 = .ok (.iload 5, 2) := by decide +kernel
theorem dX4_readText_65 : decode cX4_readText 65 = .ok (.bipush 45, 2) := by decide +kernel
theorem dX4_readText_67 : decode cX4_readText 67 = .ok (.if_icmp .eq 4, 3) := by decide +kernel
theorem dX4_readText_70 : decode cX4_readText 70 = .ok (.return_, 1) := by decide +kernel
theorem dX4_readText_71 : decode cX4_readText 71 = .ok (.iload 5, 2) := by decide +kernel
theorem dX4_readText_73 : decode cX4_readText 73 = .ok (.bipush 43, 2) := by decide +kernel
theorem dX4_readText_75 : decode cX4_readText 75 = .ok (.if_icmp .ne 7, 3) := by decide +kernel
theorem dX4_readText_78 : decode cX4_readText 78 = .ok (.iconst 1, 1) := by decide +kernel
theorem dX4_readText_79 : decode cX4_readText 79 = .ok (.goto 5, 3) := by decide +kernel
theorem dX4_readText_82 : decode cX4_readText 82 = .ok (.ldc 81, 2) := by decide +kernel
theorem dX4_readText_84 : decode cX4_readText 84 = .ok (.istore_n 3, 1) := by decide +kernel
theorem dX4_readText_85 : decode cX4_readText 85 = .ok (.aload_n 0, 1) := by decide +kernel
theorem dX4_readText_86 : decode cX4_readText 86 = .ok (.dup, 1) := by decide +kernel
theorem dX4_readText_87 : decode cX4_readText 87 = .ok (.getfield 39, 3) := by decide +kernel
theorem dX4_readText_90 : decode cX4_readText 90 = .ok (.iconst 1, 1) := by decide +kernel
theorem dX4_readText_91 : decode cX4_readText 91 = .ok (.iadd, 1) := by decide +kernel
theorem dX4_readText_92 : decode cX4_readText 92 = .ok (.putfield 39, 3) := by decide +kernel
theorem dX4_readText_95 : decode cX4_readText 95 = .ok (.iinc 4 1, 3) := by decide +kernel
theorem dX4_readText_98 : decode cX4_readText 98 = .ok (.goto (-82), 3) := by decide +kernel
theorem dX4_readText_101 : decode cX4_readText 101 = .ok (.return_, 1) := by decide +kernel
set_option maxRecDepth 20000 in
theorem ggX4_readTerm_X4_termOf : GoodIn wsX4_readTerm wsX4_termOf := by
  refine goodIn_sub ?_ gd_X4_termOf
  unfold wsX4_termOf
  refine wm_c ⟨(wk_X4_readTerm_X4_readTerm_r1 _ (wm_4 (wm_2 (wm_1 wm_h)))), ?_⟩
  refine wm_a ⟨?_, ?_⟩
  · refine wm_c ⟨(wk_X4_readTerm_X4_readTerm_r1 _ (wm_8 wm_h)), ?_⟩
    exact wm_n
  · exact wk_X4_readTerm_X40
set_option maxRecDepth 20000 in
theorem gX4_readTerm_X4_termOf : GoodIn wsX4_readTerm (wsV RX4 70 RX4 yX4_termOf wsX4_termOf) := by
  refine goodIn_app (goodIn_sub ?_ ?_) ggX4_readTerm_X4_termOf
  · exact wm_c ⟨(wk_X4_readTerm_X4_readTerm_r1 _ (wm_2 (wm_1 wm_h))), wm_c ⟨(wk_X4_readTerm_X4_readTerm_r1 _ (wm_4 wm_h)), wm_c ⟨(wk_X4_readTerm_X4_readTerm_r1 _ (wm_4 (wm_1 wm_h))), wm_c ⟨(wk_X4_readTerm_X4_readTerm_r1 _ (wm_4 (wm_2 wm_h))), wm_n⟩⟩⟩⟩
  · decide +kernel
set_option maxRecDepth 20000 in
theorem ggX4_readTerm_X0_setToUnit : GoodIn wsX4_readTerm wsX0_setToUnit := by
  refine goodIn_sub ?_ gd_X0_setToUnit
  unfold wsX0_setToUnit
  refine wm_c ⟨(wk_X4_readTerm_X4_readTerm_r1 _ (wm_8 (wm_4 (wm_1 wm_h)))), ?_⟩
  refine wm_c ⟨(wk_X4_readTerm_X4_readTerm_r1 _ (wm_8 (wm_4 (wm_2 wm_h)))), ?_⟩
  refine wm_c ⟨(wk_X4_readTerm_X4_readTerm_r1 _ (wm_8 (wm_4 (wm_2 (wm_1 wm_h))))), ?_⟩
  refine wm_c ⟨(wk_X4_readTerm_X4_readTerm_r1 _ (wm_16 wm_h)), ?_⟩
  refine wm_c ⟨(wk_X4_readTerm_X4_readTerm_r1 _ (wm_16 (wm_1 wm_h))), ?_⟩
  exact wm_n
set_option maxRecDepth 20000 in
theorem gX4_readTerm_X0_setToUnit : GoodIn wsX4_readTerm (wsV RX4 82 RX0 yX0_setToUnit wsX0_setToUnit) := by
  refine goodIn_app (goodIn_sub ?_ ?_) ggX4_readTerm_X0_setToUnit
  · exact wm_c ⟨(wk_X4_readTerm_X4_readTerm_r1 _ (wm_8 (wm_1 wm_h))), wm_c ⟨(wk_X4_readTerm_X4_readTerm_r1 _ (wm_8 (wm_2 wm_h))), wm_c ⟨(wk_X4_readTerm_X4_readTerm_r1 _ (wm_8 (wm_2 (wm_1 wm_h)))), wm_c ⟨(wk_X4_readTerm_X4_readTerm_r1 _ (wm_8 (wm_4 wm_h))), wm_n⟩⟩⟩⟩
  · decide +kernel
set_option maxRecDepth 20000 in
theorem ggX4_readTerm_X4_hand : GoodIn wsX4_readTerm wsX4_hand := by
  refine goodIn_sub ?_ gd_X4_hand
  unfold wsX4_hand
  refine wm_c ⟨(wk_X4_readTerm_X4_readTerm_r1 _ (wm_16 (wm_4 (wm_1 wm_h)))), ?_⟩
  refine wm_a ⟨?_, ?_⟩
  · refine wm_c ⟨(wk_X4_readTerm_X4_readTerm_r1 _ (wm_1 wm_h)), ?_⟩
    refine wm_c ⟨(wk_X4_readTerm_X4_readTerm_r1 _ (wm_16 (wm_4 (wm_2 wm_h)))), ?_⟩
    refine wm_c ⟨(wk_X4_readTerm_X4_readTerm_r1 _ (wm_16 (wm_4 (wm_2 (wm_1 wm_h))))), ?_⟩
    exact wm_n
  · exact wk_X4_readTerm_X40
set_option maxRecDepth 20000 in
theorem gX4_readTerm_X4_hand : GoodIn wsX4_readTerm (wsV RX4 77 RX4 yX4_hand wsX4_hand) := by
  refine goodIn_app (goodIn_sub ?_ ?_) ggX4_readTerm_X4_hand
  · exact wm_c ⟨(wk_X4_readTerm_X4_readTerm_r1 _ (wm_16 (wm_2 wm_h))), wm_c ⟨(wk_X4_readTerm_X4_readTerm_r1 _ (wm_16 (wm_2 (wm_1 wm_h)))), wm_c ⟨(wk_X4_readTerm_X4_readTerm_r1 _ (wm_16 (wm_4 wm_h))), wm_c ⟨(wk_X4_readTerm_X4_readTerm_r1 _ (wm_4 (wm_2 wm_h))), wm_n⟩⟩⟩⟩
  · decide +kernel
set_option maxRecDepth 20000 in
theorem ggX4_readTerm_X4_beginsFactor : GoodIn wsX4_readTerm wsX4_beginsFactor := by
  refine goodIn_sub ?_ gd_X4_beginsFactor
  unfold wsX4_beginsFactor
  refine wm_c ⟨(wk_X4_readTerm_X4_readTerm_r2 _ (wm_2 (wm_1 wm_h))), ?_⟩
  refine wm_a ⟨?_, ?_⟩
  · refine wm_a ⟨?_, ?_⟩
    · refine wm_c ⟨(wk_X4_readTerm_X4_readTerm_r2 _ (wm_4 wm_h)), ?_⟩
      refine wm_c ⟨(wk_X4_readTerm_X4_readTerm_r2 _ (wm_4 (wm_1 wm_h))), ?_⟩
      refine wm_c ⟨(wk_X4_readTerm_X4_readTerm_r2 _ (wm_4 (wm_2 wm_h))), ?_⟩
      refine wm_c ⟨(wk_X4_readTerm_X4_readTerm_r1 _ (wm_4 (wm_2 wm_h))), ?_⟩
      refine wm_c ⟨(wk_X4_readTerm_X4_readTerm_r2 _ (wm_4 (wm_2 (wm_1 wm_h)))), ?_⟩
      refine wm_c ⟨(wk_X4_readTerm_X4_readTerm_r2 _ (wm_8 wm_h)), ?_⟩
      refine wm_c ⟨(wk_X4_readTerm_X4_readTerm_r2 _ (wm_8 (wm_1 wm_h))), ?_⟩
      refine wm_c ⟨(wk_X4_readTerm_X4_readTerm_r2 _ (wm_8 (wm_2 wm_h))), ?_⟩
      refine wm_c ⟨(wk_X4_readTerm_X4_readTerm_r2 _ (wm_8 (wm_2 (wm_1 wm_h)))), ?_⟩
      refine wm_c ⟨(wk_X4_readTerm_X4_readTerm_r2 _ (wm_8 (wm_4 wm_h))), ?_⟩
      refine wm_c ⟨(wk_X4_readTerm_X4_readTerm_r2 _ (wm_8 (wm_4 (wm_1 wm_h)))), ?_⟩
      exact wm_n
    · exact wk_X4_readTerm_X40
  · exact wk_X4_readTerm_X60
set_option maxRecDepth 20000 in
theorem gX4_readTerm_X4_beginsFactor : GoodIn wsX4_readTerm (wsV RX4 85 RX4 yX4_beginsFactor wsX4_beginsFactor) := by
  refine goodIn_app (goodIn_sub ?_ ?_) ggX4_readTerm_X4_beginsFactor
  · exact wm_c ⟨(wk_X4_readTerm_X4_readTerm_r2 _ wm_h), wm_c ⟨(wk_X4_readTerm_X4_readTerm_r2 _ (wm_1 wm_h)), wm_c ⟨(wk_X4_readTerm_X4_readTerm_r2 _ (wm_2 wm_h)), wm_c ⟨(wk_X4_readTerm_X4_readTerm_r1 _ (wm_4 (wm_2 wm_h))), wm_n⟩⟩⟩⟩
  · decide +kernel
set_option maxRecDepth 20000 in
theorem ggX4_readTerm_X4_readFactor : GoodIn wsX4_readTerm wsX4_readFactor := by
  refine goodIn_sub ?_ gd_X4_readFactor
  unfold wsX4_readFactor
  refine wm_c ⟨(wk_X4_readTerm_X4_readTerm_r5 _ (wm_8 (wm_4 (wm_2 wm_h)))), ?_⟩
  refine wm_a ⟨?_, ?_⟩
  · refine wm_a ⟨?_, ?_⟩
    · refine wm_a ⟨?_, ?_⟩
      · refine wm_a ⟨?_, ?_⟩
        · unfold wsX4_readFactor_r1
          refine wm_c ⟨(wk_X4_readTerm_X4_readTerm_r1 _ wm_h), ?_⟩
          refine wm_c ⟨(wk_X4_readTerm_X4_readTerm_r1 _ (wm_1 wm_h)), ?_⟩
          refine wm_c ⟨(wk_X4_readTerm_X4_readTerm_r1 _ (wm_16 (wm_2 wm_h))), ?_⟩
          refine wm_c ⟨(wk_X4_readTerm_X4_readTerm_r1 _ (wm_16 (wm_2 (wm_1 wm_h)))), ?_⟩
          refine wm_c ⟨(wk_X4_readTerm_X4_readTerm_r1 _ (wm_16 (wm_4 wm_h))), ?_⟩
          refine wm_c ⟨(wk_X4_readTerm_X4_readTerm_r1 _ (wm_4 (wm_2 wm_h))), ?_⟩
          refine wm_c ⟨(wk_X4_readTerm_X4_readTerm_r1 _ (wm_16 (wm_4 (wm_1 wm_h)))), ?_⟩
          refine wm_c ⟨(wk_X4_readTerm_X4_readTerm_r1 _ (wm_16 (wm_4 (wm_2 wm_h)))), ?_⟩
          refine wm_c ⟨(wk_X4_readTerm_X4_readTerm_r1 _ (wm_16 (wm_4 (wm_2 (wm_1 wm_h))))), ?_⟩
          refine wm_c ⟨(wk_X4_readTerm_X4_readTerm_r2 _ (wm_4 wm_h)), ?_⟩
          refine wm_c ⟨(wk_X4_readTerm_X4_readTerm_r2 _ (wm_4 (wm_1 wm_h))), ?_⟩
          refine wm_c ⟨(wk_X4_readTerm_X4_readTerm_r2 _ (wm_4 (wm_2 wm_h))), ?_⟩
          refine wm_c ⟨(wk_X4_readTerm_X4_readTerm_r2 _ (wm_4 (wm_2 (wm_1 wm_h)))), ?_⟩
          refine wm_c ⟨(wk_X4_readTerm_X4_readTerm_r1 _ (wm_2 (wm_1 wm_h))), ?_⟩
          refine wm_c ⟨(wk_X4_readTerm_X4_readTerm_r1 _ (wm_4 wm_h)), ?_⟩
          refine wm_c ⟨(wk_X4_readTerm_X4_readTerm_r1 _ (wm_4 (wm_1 wm_h))), ?_⟩
          refine wm_c ⟨(wk_X4_readTerm_X4_readTerm_r1 _ (wm_4 (wm_2 (wm_1 wm_h)))), ?_⟩
          refine wm_c ⟨(wk_X4_readTerm_X4_readTerm_r1 _ (wm_8 wm_h)), ?_⟩
          refine wm_c ⟨(wk_X4_readTerm_X4_readTerm_r2 _ (wm_16 (wm_4 (wm_1 wm_h)))), ?_⟩
          refine wm_c ⟨(wk_X4_readTerm_X4_readTerm_r2 _ (wm_16 (wm_4 (wm_2 wm_h)))), ?_⟩
          refine wm_c ⟨(wk_X4_readTerm_X4_readTerm_r2 _ (wm_16 (wm_4 (wm_2 (wm_1 wm_h))))), ?_⟩
          refine wm_c ⟨(wk_X4_readTerm_X4_readTerm_r3 _ wm_h), ?_⟩
          refine wm_c ⟨(wk_X4_readTerm_X4_readTerm_r3 _ (wm_8 (wm_2 wm_h))), ?_⟩
          refine wm_c ⟨(wk_X4_readTerm_X4_readTerm_r3 _ (wm_8 (wm_2 (wm_1 wm_h)))), ?_⟩
          exact wm_n
        · refine wm_a ⟨?_, ?_⟩
          · unfold wsX4_readFactor_r2
            refine wm_c ⟨(wk_X4_readTerm_X4_readTerm_r3 _ (wm_8 (wm_4 wm_h))), ?_⟩
            refine wm_c ⟨(wk_X4_readTerm_X4_readTerm_r1 _ (wm_8 (wm_4 wm_h))), ?_⟩
            refine wm_c ⟨(wk_X4_readTerm_X4_readTerm_r3 _ (wm_8 (wm_4 (wm_1 wm_h)))), ?_⟩
            refine wm_c ⟨(wk_X4_readTerm_X4_readTerm_r3 _ (wm_8 (wm_4 (wm_2 wm_h)))), ?_⟩
            refine wm_c ⟨(wk_X4_readTerm_X4_readTerm_r3 _ (wm_4 (wm_2 (wm_1 wm_h)))), ?_⟩
            refine wm_c ⟨(wk_X4_readTerm_X4_readTerm_r3 _ (wm_2 (wm_1 wm_h))), ?_⟩
            refine wm_c ⟨(wk_X4_readTerm_X4_readTerm_r3 _ (wm_8 wm_h)), ?_⟩
            refine wm_c ⟨(wk_X4_readTerm_X4_readTerm_r3 _ (wm_8 (wm_1 wm_h))), ?_⟩
            refine wm_c ⟨(wk_X4_readTerm_X4_readTerm_r2 _ (wm_8 wm_h)), ?_⟩
            refine wm_c ⟨(wk_X4_readTerm_X4_readTerm_r2 _ (wm_8 (wm_1 wm_h))), ?_⟩
            refine wm_c ⟨(wk_X4_readTerm_X4_readTerm_r2 _ (wm_8 (wm_2 wm_h))), ?_⟩
            refine wm_c ⟨(wk_X4_readTerm_X4_readTerm_r2 _ (wm_8 (wm_2 (wm_1 wm_h)))), ?_⟩
            refine wm_c ⟨(wk_X4_readTerm_X4_readTerm_r2 _ (wm_8 (wm_4 wm_h))), ?_⟩
            refine wm_c ⟨(wk_X4_readTerm_X4_readTerm_r2 _ (wm_8 (wm_4 (wm_1 wm_h)))), ?_⟩
            refine wm_c ⟨(wk_X4_readTerm_X4_readTerm_r5 _ (wm_8 (wm_4 (wm_2 (wm_1 wm_h))))), ?_⟩
            refine wm_c ⟨(wk_X4_readTerm_X4_readTerm_r5 _ (wm_16 wm_h)), ?_⟩
            refine wm_c ⟨(wk_X4_readTerm_X4_readTerm_r5 _ (wm_16 (wm_1 wm_h))), ?_⟩
            refine wm_c ⟨(wk_X4_readTerm_X4_readTerm_r5 _ (wm_16 (wm_2 wm_h))), ?_⟩
            refine wm_c ⟨(wk_X4_readTerm_X4_readTerm_r4 _ (wm_16 (wm_4 (wm_2 (wm_1 wm_h))))), ?_⟩
            refine wm_c ⟨(wk_X4_readTerm_X4_readTerm_r5 _ wm_h), ?_⟩
            refine wm_c ⟨(wk_X4_readTerm_X4_readTerm_r5 _ (wm_4 (wm_2 (wm_1 wm_h)))), ?_⟩
            refine wm_c ⟨(wk_X4_readTerm_X4_readTerm_r5 _ (wm_16 (wm_2 (wm_1 wm_h)))), ?_⟩
            refine wm_c ⟨(wk_X4_readTerm_X4_readTerm_r1 _ (wm_8 (wm_4 (wm_2 wm_h)))), ?_⟩
            refine wm_c ⟨(wk_X4_readTerm_X4_readTerm_r1 _ (wm_8 (wm_4 (wm_2 (wm_1 wm_h))))), ?_⟩
            exact wm_n
          · refine wm_a ⟨?_, ?_⟩
            · unfold wsX4_readFactor_r3
              refine wm_c ⟨(wk_X4_readTerm_X4_readTerm_r1 _ (wm_16 wm_h)), ?_⟩
              refine wm_c ⟨(wk_X4_readTerm_X4_readTerm_r1 _ (wm_16 (wm_1 wm_h))), ?_⟩
              refine wm_c ⟨(wk_X4_readTerm_X4_readTerm_r5 _ (wm_8 (wm_1 wm_h))), ?_⟩
              refine wm_c ⟨(wk_X4_readTerm_X4_readTerm_r4 _ (wm_8 (wm_4 wm_h))), ?_⟩
              refine wm_c ⟨(wk_X4_readTerm_X4_readTerm_r4 _ (wm_8 (wm_4 (wm_1 wm_h)))), ?_⟩
              refine wm_c ⟨(wk_X4_readTerm_X4_readTerm_r4 _ (wm_8 (wm_4 (wm_2 wm_h)))), ?_⟩
              refine wm_c ⟨(wk_X4_readTerm_X4_readTerm_r4 _ (wm_8 (wm_4 (wm_2 (wm_1 wm_h))))), ?_⟩
              refine wm_c ⟨(wk_X4_readTerm_X4_readTerm_r4 _ (wm_16 wm_h)), ?_⟩
              refine wm_c ⟨(wk_X4_readTerm_X4_readTerm_r4 _ (wm_16 (wm_1 wm_h))), ?_⟩
              refine wm_c ⟨(wk_X4_readTerm_X4_readTerm_r4 _ (wm_16 (wm_2 wm_h))), ?_⟩
              refine wm_c ⟨(wk_X4_readTerm_X4_readTerm_r5 _ (wm_16 (wm_4 wm_h))), ?_⟩
              refine wm_c ⟨(wk_X4_readTerm_X4_readTerm_r5 _ (wm_16 (wm_4 (wm_1 wm_h)))), ?_⟩
              refine wm_c ⟨(wk_X4_readTerm_X4_readTerm_r5 _ (wm_16 (wm_4 (wm_2 wm_h)))), ?_⟩
              refine wm_c ⟨(wk_X4_readTerm_X4_readTerm_r5 _ (wm_16 (wm_4 (wm_2 (wm_1 wm_h))))), ?_⟩
              refine wm_c ⟨(wk_X4_readTerm_X4_readTerm_r1 _ (wm_2 wm_h)), ?_⟩
              refine wm_c ⟨(wk_X4_readTerm_X4_readTerm_r6 _ wm_h), ?_⟩
              refine wm_c ⟨(wk_X4_readTerm_X4_readTerm_r6 _ (wm_1 wm_h)), ?_⟩
              refine wm_c ⟨(wk_X4_readTerm_X4_readTerm_r6 _ (wm_2 wm_h)), ?_⟩
              refine wm_c ⟨(wk_X4_readTerm_X4_readTerm_r6 _ (wm_2 (wm_1 wm_h))), ?_⟩
              refine wm_c ⟨(wk_X4_readTerm_X4_readTerm_r5 _ (wm_8 (wm_2 wm_h))), ?_⟩
              refine wm_c ⟨(wk_X4_readTerm_X4_readTerm_r5 _ (wm_8 (wm_2 (wm_1 wm_h)))), ?_⟩
              refine wm_c ⟨(wk_X4_readTerm_X4_readTerm_r5 _ (wm_8 (wm_4 wm_h))), ?_⟩
              refine wm_c ⟨(wk_X4_readTerm_X4_readTerm_r5 _ (wm_8 (wm_4 (wm_1 wm_h)))), ?_⟩
              refine wm_c ⟨(wk_X4_readTerm_X4_readTerm_r5 _ (wm_2 wm_h)), ?_⟩
              exact wm_n
            · refine wm_a ⟨?_, ?_⟩
              · unfold wsX4_readFactor_r4
                refine wm_c ⟨(wk_X4_readTerm_X4_readTerm_r5 _ (wm_2 (wm_1 wm_h))), ?_⟩
                refine wm_c ⟨(wk_X4_readTerm_X4_readTerm_r5 _ (wm_4 wm_h)), ?_⟩
                refine wm_c ⟨(wk_X4_readTerm_X4_readTerm_r5 _ (wm_4 (wm_1 wm_h))), ?_⟩
                refine wm_c ⟨(wk_X4_readTerm_X4_readTerm_r5 _ (wm_4 (wm_2 wm_h))), ?_⟩
                refine wm_c ⟨(wk_X4_readTerm_X4_readTerm_r5 _ (wm_8 wm_h)), ?_⟩
                refine wm_c ⟨(wk_X4_readTerm_X4_readTerm_r6 _ (wm_4 wm_h)), ?_⟩
                refine wm_c ⟨(wk_X4_readTerm_X4_readTerm_r6 _ (wm_4 (wm_1 wm_h))), ?_⟩
                refine wm_c ⟨(wk_X4_readTerm_X4_readTerm_r6 _ (wm_4 (wm_2 wm_h))), ?_⟩
                refine wm_c ⟨(wk_X4_readTerm_X4_readTerm_r6 _ (wm_4 (wm_2 (wm_1 wm_h)))), ?_⟩
                refine wm_c ⟨(wk_X4_readTerm_X4_readTerm_r6 _ (wm_8 wm_h)), ?_⟩
                refine wm_c ⟨(wk_X4_readTerm_X4_readTerm_r6 _ (wm_8 (wm_1 wm_h))), ?_⟩
                refine wm_c ⟨(wk_X4_readTerm_X4_readTerm_r3 _ (wm_8 (wm_4 (wm_2 (wm_1 wm_h))))), ?_⟩
                refine wm_c ⟨(wk_X4_readTerm_X4_readTerm_r3 _ (wm_16 wm_h)), ?_⟩
                refine wm_c ⟨(wk_X4_readTerm_X4_readTerm_r3 _ (wm_16 (wm_1 wm_h))), ?_⟩
                refine wm_c ⟨(wk_X4_readTerm_X4_readTerm_r3 _ (wm_16 (wm_2 wm_h))), ?_⟩
                refine wm_c ⟨(wk_X4_readTerm_X4_readTerm_r3 _ (wm_16 (wm_2 (wm_1 wm_h)))), ?_⟩
                refine wm_c ⟨(wk_X4_readTerm_X4_readTerm_r3 _ (wm_16 (wm_4 wm_h))), ?_⟩
                refine wm_c ⟨(wk_X4_readTerm_X4_readTerm_r3 _ (wm_16 (wm_4 (wm_1 wm_h)))), ?_⟩
                refine wm_c ⟨(wk_X4_readTerm_X4_readTerm_r3 _ (wm_16 (wm_4 (wm_2 wm_h)))), ?_⟩
                refine wm_c ⟨(wk_X4_readTerm_X4_readTerm_r3 _ (wm_16 (wm_4 (wm_2 (wm_1 wm_h))))), ?_⟩
                refine wm_c ⟨(wk_X4_readTerm_X4_readTerm_r4 _ wm_h), ?_⟩
                refine wm_c ⟨(wk_X4_readTerm_X4_readTerm_r4 _ (wm_1 wm_h)), ?_⟩
                refine wm_c ⟨(wk_X4_readTerm_X4_readTerm_r4 _ (wm_2 wm_h)), ?_⟩
                refine wm_c ⟨(wk_X4_readTerm_X4_readTerm_r4 _ (wm_2 (wm_1 wm_h))), ?_⟩
                exact wm_n
              · refine wm_a ⟨?_, ?_⟩
                · unfold wsX4_readFactor_r5
                  refine wm_c ⟨(wk_X4_readTerm_X4_readTerm_r4 _ (wm_4 wm_h)), ?_⟩
                  refine wm_c ⟨(wk_X4_readTerm_X4_readTerm_r4 _ (wm_4 (wm_1 wm_h))), ?_⟩
                  refine wm_c ⟨(wk_X4_readTerm_X4_readTerm_r4 _ (wm_4 (wm_2 wm_h))), ?_⟩
                  refine wm_c ⟨(wk_X4_readTerm_X4_readTerm_r4 _ (wm_4 (wm_2 (wm_1 wm_h)))), ?_⟩
                  refine wm_c ⟨(wk_X4_readTerm_X4_readTerm_r4 _ (wm_8 wm_h)), ?_⟩
                  refine wm_c ⟨(wk_X4_readTerm_X4_readTerm_r4 _ (wm_8 (wm_1 wm_h))), ?_⟩
                  refine wm_c ⟨(wk_X4_readTerm_X4_readTerm_r4 _ (wm_8 (wm_2 wm_h))), ?_⟩
                  refine wm_c ⟨(wk_X4_readTerm_X4_readTerm_r4 _ (wm_8 (wm_2 (wm_1 wm_h)))), ?_⟩
                  refine wm_c ⟨(wk_X4_readTerm_X4_readTerm_r4 _ (wm_16 (wm_2 (wm_1 wm_h)))), ?_⟩
                  refine wm_c ⟨(wk_X4_readTerm_X4_readTerm_r4 _ (wm_16 (wm_4 wm_h))), ?_⟩
                  refine wm_c ⟨(wk_X4_readTerm_X4_readTerm_r4 _ (wm_16 (wm_4 (wm_1 wm_h)))), ?_⟩
                  refine wm_c ⟨(wk_X4_readTerm_X4_readTerm_r4 _ (wm_16 (wm_4 (wm_2 wm_h)))), ?_⟩
                  refine wm_c ⟨(wk_X4_readTerm_X4_readTerm_r5 _ (wm_1 wm_h)), ?_⟩
                  refine wm_c ⟨(wk_X4_readTerm_X4_readTerm_r6 _ (wm_8 (wm_2 wm_h))), ?_⟩
                  refine wm_c ⟨(wk_X4_readTerm_X4_readTerm_r6 _ (wm_8 (wm_2 (wm_1 wm_h)))), ?_⟩
                  refine wm_c ⟨(wk_X4_readTerm_X4_readTerm_r6 _ (wm_8 (wm_4 wm_h))), ?_⟩
                  refine wm_c ⟨(wk_X4_readTerm_X4_readTerm_r6 _ (wm_8 (wm_4 (wm_1 wm_h)))), ?_⟩
                  refine wm_c ⟨(wk_X4_readTerm_X4_readTerm_r6 _ (wm_8 (wm_4 (wm_2 wm_h)))), ?_⟩
                  refine wm_c ⟨(wk_X4_readTerm_X4_readTerm_r6 _ (wm_8 (wm_4 (wm_2 (wm_1 wm_h))))), ?_⟩
                  refine wm_c ⟨(wk_X4_readTerm_X4_readTerm_r6 _ (wm_16 wm_h)), ?_⟩
                  refine wm_c ⟨(wk_X4_readTerm_X4_readTerm_r6 _ (wm_16 (wm_1 wm_h))), ?_⟩
                  refine wm_c ⟨(wk_X4_readTerm_X4_readTerm_r6 _ (wm_16 (wm_2 wm_h))), ?_⟩
                  refine wm_c ⟨(wk_X4_readTerm_X4_readTerm_r6 _ (wm_16 (wm_2 (wm_1 wm_h)))), ?_⟩
                  refine wm_c ⟨(wk_X4_readTerm_X4_readTerm_r1 _ (wm_8 (wm_2 wm_h))), ?_⟩
                  exact wm_n
                · refine wm_a ⟨?_, ?_⟩
                  · unfold wsX4_readFactor_r6
                    refine wm_c ⟨(wk_X4_readTerm_X4_readTerm_r1 _ (wm_8 (wm_2 (wm_1 wm_h)))), ?_⟩
                    refine wm_c ⟨(wk_X4_readTerm_X4_readTerm_r1 _ (wm_8 (wm_4 (wm_1 wm_h)))), ?_⟩
                    refine wm_c ⟨(wk_X4_readTerm_X4_readTerm_r6 _ (wm_16 (wm_4 wm_h))), ?_⟩
                    refine wm_c ⟨(wk_X4_readTerm_X4_readTerm_r6 _ (wm_16 (wm_4 (wm_1 wm_h)))), ?_⟩
                    refine wm_c ⟨(wk_X4_readTerm_X4_readTerm_r6 _ (wm_16 (wm_4 (wm_2 wm_h)))), ?_⟩
                    refine wm_c ⟨(wk_X4_readTerm_X4_readTerm_r6 _ (wm_16 (wm_4 (wm_2 (wm_1 wm_h))))), ?_⟩
                    refine wm_c ⟨(wk_X4_readTerm_X4_readTerm_r7 _ wm_h), ?_⟩
                    refine wm_c ⟨wm_h, ?_⟩
                    refine wm_c ⟨(wk_X4_readTerm_X4_readTerm_r1 _ (wm_8 (wm_1 wm_h))), ?_⟩
                    refine wm_c ⟨(wk_X4_readTerm_X4_readTerm_r2 _ wm_h), ?_⟩
                    refine wm_c ⟨(wk_X4_readTerm_X4_readTerm_r2 _ (wm_1 wm_h)), ?_⟩
                    refine wm_c ⟨(wk_X4_readTerm_X4_readTerm_r2 _ (wm_2 wm_h)), ?_⟩
                    refine wm_c ⟨(wk_X4_readTerm_X4_readTerm_r2 _ (wm_2 (wm_1 wm_h))), ?_⟩
                    refine wm_c ⟨(wk_X4_readTerm_X4_readTerm_r2 _ (wm_8 (wm_4 (wm_2 wm_h)))), ?_⟩
                    refine wm_c ⟨(wk_X4_readTerm_X4_readTerm_r2 _ (wm_8 (wm_4 (wm_2 (wm_1 wm_h))))), ?_⟩
                    refine wm_c ⟨(wk_X4_readTerm_X4_readTerm_r2 _ (wm_16 wm_h)), ?_⟩
                    refine wm_c ⟨(wk_X4_readTerm_X4_readTerm_r2 _ (wm_16 (wm_1 wm_h))), ?_⟩
                    refine wm_c ⟨(wk_X4_readTerm_X4_readTerm_r2 _ (wm_16 (wm_2 wm_h))), ?_⟩
                    refine wm_c ⟨(wk_X4_readTerm_X4_readTerm_r2 _ (wm_16 (wm_2 (wm_1 wm_h)))), ?_⟩
                    refine wm_c ⟨(wk_X4_readTerm_X4_readTerm_r2 _ (wm_16 (wm_4 wm_h))), ?_⟩
                    refine wm_c ⟨(wk_X4_readTerm_X4_readTerm_r3 _ (wm_1 wm_h)), ?_⟩
                    refine wm_c ⟨(wk_X4_readTerm_X4_readTerm_r3 _ (wm_2 wm_h)), ?_⟩
                    refine wm_c ⟨(wk_X4_readTerm_X4_readTerm_r3 _ (wm_4 wm_h)), ?_⟩
                    refine wm_c ⟨(wk_X4_readTerm_X4_readTerm_r3 _ (wm_4 (wm_1 wm_h))), ?_⟩
                    exact wm_n
                  · unfold wsX4_readFactor_r7
                    refine wm_c ⟨(wk_X4_readTerm_X4_readTerm_r3 _ (wm_4 (wm_2 wm_h))), ?_⟩
                    refine wm_c ⟨(wk_X4_readTerm_X4_readTerm_r7 _ (wm_1 wm_h)), ?_⟩
                    refine wm_c ⟨(wk_X4_readTerm_X4_readTerm_r7 _ (wm_2 wm_h)), ?_⟩
                    refine wm_c ⟨(wk_X4_readTerm_X4_readTerm_r7 _ (wm_2 (wm_1 wm_h))), ?_⟩
                    refine wm_c ⟨(wk_X4_readTerm_X4_readTerm_r7 _ (wm_4 wm_h)), ?_⟩
                    refine wm_c ⟨(wk_X4_readTerm_X4_readTerm_r7 _ (wm_4 (wm_1 wm_h))), ?_⟩
                    refine wm_c ⟨(wk_X4_readTerm_X4_readTerm_r7 _ (wm_4 (wm_2 wm_h))), ?_⟩
                    refine wm_c ⟨(wk_X4_readTerm_X4_readTerm_r7 _ (wm_4 (wm_2 (wm_1 wm_h)))), ?_⟩
                    refine wm_c ⟨(wk_X4_readTerm_X4_readTerm_r7 _ (wm_8 wm_h)), ?_⟩
                    refine wm_c ⟨(wk_X4_readTerm_X4_readTerm_r7 _ (wm_8 (wm_1 wm_h))), ?_⟩
                    refine wm_c ⟨(wk_X4_readTerm_X4_readTerm_r7 _ (wm_8 (wm_2 wm_h))), ?_⟩
                    refine wm_c ⟨(wk_X4_readTerm_X4_readTerm_r7 _ (wm_8 (wm_2 (wm_1 wm_h)))), ?_⟩
                    refine wm_c ⟨(wk_X4_readTerm_X4_readTerm_r7 _ (wm_8 (wm_4 wm_h))), ?_⟩
                    refine wm_c ⟨(wk_X4_readTerm_X4_readTerm_r7 _ (wm_8 (wm_4 (wm_1 wm_h)))), ?_⟩
                    exact wm_n
      · exact wk_X4_readTerm_X40
    · exact wk_X4_readTerm_X00
  · exact wk_X4_readTerm_X60
set_option maxRecDepth 20000 in
theorem gX4_readTerm_X4_readFactor : GoodIn wsX4_readTerm (wsV RX4 89 RX4 yX4_readFactor wsX4_readFactor) := by
  refine goodIn_app (goodIn_sub ?_ ?_) ggX4_readTerm_X4_readFactor
  · exact wm_c ⟨(wk_X4_readTerm_X4_readTerm_r2 _ (wm_8 (wm_4 (wm_2 wm_h)))), wm_c ⟨(wk_X4_readTerm_X4_readTerm_r2 _ (wm_8 (wm_4 (wm_2 (wm_1 wm_h))))), wm_c ⟨(wk_X4_readTerm_X4_readTerm_r2 _ (wm_16 wm_h)), wm_c ⟨(wk_X4_readTerm_X4_readTerm_r1 _ (wm_4 (wm_2 wm_h))), wm_n⟩⟩⟩⟩
  · decide +kernel
set_option maxRecDepth 20000 in
theorem ggX4_readTerm_X4_readDivisor : GoodIn wsX4_readTerm wsX4_readDivisor := by
  refine goodIn_sub ?_ gd_X4_readDivisor
  unfold wsX4_readDivisor
  refine wm_c ⟨(wk_X4_readTerm_X4_readTerm_r2 _ (wm_16 (wm_4 wm_h))), ?_⟩
  refine wm_a ⟨?_, ?_⟩
  · refine wm_a ⟨?_, ?_⟩
    · unfold wsX4_readDivisor_r1
      refine wm_c ⟨(wk_X4_readTerm_X4_readTerm_r1 _ (wm_1 wm_h)), ?_⟩
      refine wm_c ⟨(wk_X4_readTerm_X4_readTerm_r1 _ (wm_2 wm_h)), ?_⟩
      refine wm_c ⟨(wk_X4_readTerm_X4_readTerm_r1 _ wm_h), ?_⟩
      refine wm_c ⟨(wk_X4_readTerm_X4_readTerm_r1 _ (wm_16 (wm_2 wm_h))), ?_⟩
      refine wm_c ⟨(wk_X4_readTerm_X4_readTerm_r1 _ (wm_16 (wm_2 (wm_1 wm_h)))), ?_⟩
      refine wm_c ⟨(wk_X4_readTerm_X4_readTerm_r1 _ (wm_16 (wm_4 wm_h))), ?_⟩
      refine wm_c ⟨(wk_X4_readTerm_X4_readTerm_r1 _ (wm_4 (wm_2 wm_h))), ?_⟩
      refine wm_c ⟨(wk_X4_readTerm_X4_readTerm_r1 _ (wm_16 (wm_4 (wm_1 wm_h)))), ?_⟩
      refine wm_c ⟨(wk_X4_readTerm_X4_readTerm_r1 _ (wm_16 (wm_4 (wm_2 wm_h)))), ?_⟩
      refine wm_c ⟨(wk_X4_readTerm_X4_readTerm_r1 _ (wm_16 (wm_4 (wm_2 (wm_1 wm_h))))), ?_⟩
      refine wm_c ⟨(wk_X4_readTerm_X4_readTerm_r2 _ (wm_4 wm_h)), ?_⟩
      refine wm_c ⟨(wk_X4_readTerm_X4_readTerm_r2 _ (wm_4 (wm_1 wm_h))), ?_⟩
      refine wm_c ⟨(wk_X4_readTerm_X4_readTerm_r2 _ (wm_4 (wm_2 wm_h))), ?_⟩
      refine wm_c ⟨(wk_X4_readTerm_X4_readTerm_r2 _ (wm_4 (wm_2 (wm_1 wm_h)))), ?_⟩
      refine wm_c ⟨(wk_X4_readTerm_X4_readTerm_r1 _ (wm_2 (wm_1 wm_h))), ?_⟩
      refine wm_c ⟨(wk_X4_readTerm_X4_readTerm_r1 _ (wm_4 wm_h)), ?_⟩
      refine wm_c ⟨(wk_X4_readTerm_X4_readTerm_r1 _ (wm_4 (wm_1 wm_h))), ?_⟩
      refine wm_c ⟨(wk_X4_readTerm_X4_readTerm_r1 _ (wm_4 (wm_2 (wm_1 wm_h)))), ?_⟩
      refine wm_c ⟨(wk_X4_readTerm_X4_readTerm_r1 _ (wm_8 wm_h)), ?_⟩
      refine wm_c ⟨(wk_X4_readTerm_X4_readTerm_r2 _ (wm_16 (wm_4 (wm_1 wm_h)))), ?_⟩
      refine wm_c ⟨(wk_X4_readTerm_X4_readTerm_r2 _ (wm_16 (wm_4 (wm_2 wm_h)))), ?_⟩
      refine wm_c ⟨(wk_X4_readTerm_X4_readTerm_r2 _ (wm_16 (wm_4 (wm_2 (wm_1 wm_h))))), ?_⟩
      refine wm_c ⟨(wk_X4_readTerm_X4_readTerm_r3 _ wm_h), ?_⟩
      refine wm_c ⟨(wk_X4_readTerm_X4_readTerm_r3 _ (wm_1 wm_h)), ?_⟩
      exact wm_n
    · unfold wsX4_readDivisor_r2
      refine wm_c ⟨(wk_X4_readTerm_X4_readTerm_r3 _ (wm_2 wm_h)), ?_⟩
      refine wm_c ⟨(wk_X4_readTerm_X4_readTerm_r3 _ (wm_2 (wm_1 wm_h))), ?_⟩
      refine wm_c ⟨(wk_X4_readTerm_X4_readTerm_r3 _ (wm_4 wm_h)), ?_⟩
      refine wm_c ⟨(wk_X4_readTerm_X4_readTerm_r3 _ (wm_4 (wm_1 wm_h))), ?_⟩
      refine wm_c ⟨(wk_X4_readTerm_X4_readTerm_r3 _ (wm_4 (wm_2 wm_h))), ?_⟩
      refine wm_c ⟨(wk_X4_readTerm_X4_readTerm_r3 _ (wm_4 (wm_2 (wm_1 wm_h)))), ?_⟩
      refine wm_c ⟨(wk_X4_readTerm_X4_readTerm_r3 _ (wm_8 wm_h)), ?_⟩
      refine wm_c ⟨(wk_X4_readTerm_X4_readTerm_r3 _ (wm_8 (wm_1 wm_h))), ?_⟩
      refine wm_c ⟨(wk_X4_readTerm_X4_readTerm_r3 _ (wm_8 (wm_2 wm_h))), ?_⟩
      refine wm_c ⟨(wk_X4_readTerm_X4_readTerm_r3 _ (wm_8 (wm_2 (wm_1 wm_h)))), ?_⟩
      refine wm_c ⟨(wk_X4_readTerm_X4_readTerm_r3 _ (wm_8 (wm_4 wm_h))), ?_⟩
      refine wm_c ⟨(wk_X4_readTerm_X4_readTerm_r1 _ (wm_8 (wm_4 wm_h))), ?_⟩
      refine wm_c ⟨(wk_X4_readTerm_X4_readTerm_r3 _ (wm_8 (wm_4 (wm_1 wm_h)))), ?_⟩
      refine wm_c ⟨(wk_X4_readTerm_X4_readTerm_r3 _ (wm_8 (wm_4 (wm_2 wm_h)))), ?_⟩
      exact wm_n
  · exact wk_X4_readTerm_X40
set_option maxRecDepth 20000 in
theorem gX4_readTerm_X4_readDivisor : GoodIn wsX4_readTerm (wsV RX4 92 RX4 yX4_readDivisor wsX4_readDivisor) := by
  refine goodIn_app (goodIn_sub ?_ ?_) ggX4_readTerm_X4_readDivisor
  · exact wm_c ⟨(wk_X4_readTerm_X4_readTerm_r2 _ (wm_16 (wm_1 wm_h))), wm_c ⟨(wk_X4_readTerm_X4_readTerm_r2 _ (wm_16 (wm_2 wm_h))), wm_c ⟨(wk_X4_readTerm_X4_readTerm_r2 _ (wm_16 (wm_2 (wm_1 wm_h)))), wm_c ⟨(wk_X4_readTerm_X4_readTerm_r1 _ (wm_4 (wm_2 wm_h))), wm_n⟩⟩⟩⟩
  · decide +kernel
theorem dX4_readTerm_0 : decode cX4_readTerm 0 = .ok (.aload_n 0, 1) := by decide +kernel
theorem dX4_readTerm_1 : decode cX4_readTerm 1 = .ok (.getfield 15, 3) := by decide +kernel
theorem dX4_readTerm_4 : decode cX4_readTerm 4 = .ok (.aload_n 0, 1) := by decide +kernel
theorem dX4_readTerm_5 : decode cX4_readTerm 5 = .ok (.iload_n 1, 1) := by decide +kernel
theorem dX4_readTerm_6 : decode cX4_readTerm 6 = .ok (.invokevirtual 70, 3) := by decide +kernel
theorem dX4_readTerm_9 : decode cX4_readTerm 9 = .ok (.iconst 1, 1) := by decide +kernel
theorem dX4_readTerm_10 : decode cX4_readTerm 10 = .ok (.invokevirtual 82, 3) := by decide +kernel
theorem dX4_readTerm_13 : decode cX4_readTerm 13 = .ok (.aload_n 0, 1) := by decide +kernel
theorem dX4_readTerm_14 : decode cX4_readTerm 14 = .ok (.aload_n 0, 1) := by decide +kernel
theorem dX4_readTerm_15 : decode cX4_readTerm 15 = .ok (.invokevirtual 77, 3) := by decide +kernel
theorem dX4_readTerm_18 : decode cX4_readTerm 18 = .ok (.invokevirtual 85, 3) := by decide +kernel
theorem dX4_readTerm_21 : decode cX4_readTerm 21 = .ok (.ifCond .ne 12, 3) := by decide +kernel
theorem dX4_readTerm_24 : decode cX4_readTerm 24 = .ok (.aload_n 0, 1) := by decide +kernel
theorem dX4_readTerm_25 : decode cX4_readTerm 25 = .ok (.aload_n 0, 1) := by decide +kernel
theorem dX4_readTerm_26 : decode cX4_readTerm 26 = .ok (.getfield 39, 3) := by decide +kernel
theorem dX4_readTerm_29 : decode cX4_readTerm 29 = .ok (.putfield 42, 3) := by decide +kernel
theorem dX4_readTerm_32 : decode cX4_readTerm 32 = .ok (.return_, 1) := by decide +kernel
theorem dX4_readTerm_33 : decode cX4_readTerm 33 = .ok (.iconst 0, 1) := by decide +kernel
theorem dX4_readTerm_34 : decode cX4_readTerm 34 = .ok (.istore_n 2, 1) := by decide +kernel
theorem dX4_readTerm_35 : decode cX4_readTerm 35 = .ok (.iload_n 2, 1) := by decide +kernel
theorem dX4_readTerm_36 : decode cX4_readTerm 36 = .ok (.bipush 100, 2) := by decide +kernel
theorem dX4_readTerm_38 : decode cX4_readTerm 38 = .ok (.if_icmp .ge 33, 3) := by decide +kernel
theorem dX4_readTerm_41 : decode cX4_readTerm 41 = .ok (.aload_n 0, 1) := by decide +kernel
theorem dX4_readTerm_42 : decode cX4_readTerm 42 = .ok (.aload_n 0, 1) := by decide +kernel
theorem dX4_readTerm_43 : decode cX4_readTerm 43 = .ok (.invokevirtual 77, 3) := by decide +kernel
theorem dX4_readTerm_46 : decode cX4_readTerm 46 = .ok (.invokevirtual 85, 3) := by decide +kernel
theorem dX4_readTerm_49 : decode cX4_readTerm 49 = .ok (.ifCond .eq 22, 3) := by decide +kernel
theorem dX4_readTerm_52 : decode cX4_readTerm 52 = .ok (.aload_n 0, 1) := by decide +kernel
theorem dX4_readTerm_53 : decode cX4_readTerm 53 = .ok (.iload_n 1, 1) := by decide +kernel
theorem dX4_readTerm_54 : decode cX4_readTerm 54 = .ok (.invokevirtual 89, 3) := by decide +kernel
theorem dX4_readTerm_57 : decode cX4_readTerm 57 = .ok (.aload_n 0, 1) := by decide +kernel
theorem dX4_readTerm_58 : decode cX4_readTerm 58 = .ok (.getfield 42, 3) := by decide +kernel
theorem dX4_readTerm_61 : decode cX4_readTerm 61 = .ok (.ifCond .lt 4, 3) := by decide +kernel
theorem dX4_readTerm_64 : decode cX4_readTerm 64 = .ok (.return_, 1) := by decide +kernel
theorem dX4_readTerm_65 : decode cX4_readTerm 65 = .ok (.iinc 2 1, 3) := by decide +kernel
theorem dX4_readTerm_68 : decode cX4_readTerm 68 = .ok (.goto (-33), 3) := by decide +kernel
theorem dX4_readTerm_71 : decode cX4_readTerm 71 = .ok (.aload_n 0, 1) := by decide +kernel
theorem dX4_readTerm_72 : decode cX4_readTerm 72 = .ok (.invokevirtual 77, 3) := by decide +kernel
theorem dX4_readTerm_75 : decode cX4_readTerm 75 = .ok (.bipush 47, 2) := by decide +kernel
theorem dX4_readTerm_77 : decode cX4_readTerm 77 = .ok (.if_icmp .ne 18, 3) := by decide +kernel
theorem dX4_readTerm_80 : decode cX4_readTerm 80 = .ok (.aload_n 0, 1) := by decide +kernel
theorem dX4_readTerm_81 : decode cX4_readTerm 81 = .ok (.dup, 1) := by decide +kernel
theorem dX4_readTerm_82 : decode cX4_readTerm 82 = .ok (.getfield 39, 3) := by decide +kernel
theorem dX4_readTerm_85 : decode cX4_readTerm 85 = .ok (.iconst 1, 1) := by decide +kernel
theorem dX4_readTerm_86 : decode cX4_readTerm 86 = .ok (.iadd, 1) := by decide +kernel
theorem dX4_readTerm_87 : decode cX4_readTerm 87 = .ok (.putfield 39, 3) := by decide +kernel
theorem dX4_readTerm_90 : decode cX4_readTerm 90 = .ok (.aload_n 0, 1) := by decide +kernel
theorem dX4_readTerm_91 : decode cX4_readTerm 91 = .ok (.iload_n 1, 1) := by decide +kernel
theorem dX4_readTerm_92 : decode cX4_readTerm 92 = .ok (.invokevirtual 92, 3) := by decide +kernel
theorem dX4_readTerm_95 : decode cX4_readTerm 95 = .ok (.return_, 1) := by decide +kernel
set_option maxRecDepth 20000 in
theorem ggX4_readDivisor_X4_hand : GoodIn wsX4_readDivisor wsX4_hand := by
  refine goodIn_sub ?_ gd_X4_hand
  unfold wsX4_hand
  refine wm_c ⟨(wk_X4_readDivisor_X4_readDivisor_r1 _ (wm_4 (wm_2 (wm_1 wm_h)))), ?_⟩
  refine wm_a ⟨?_, ?_⟩
  · refine wm_c ⟨(wk_X4_readDivisor_X4_readDivisor_r1 _ wm_h), ?_⟩
    refine wm_c ⟨(wk_X4_readDivisor_X4_readDivisor_r1 _ (wm_8 wm_h)), ?_⟩
    refine wm_c ⟨(wk_X4_readDivisor_X4_readDivisor_r1 _ (wm_8 (wm_1 wm_h))), ?_⟩
    exact wm_n
  · exact wk_X4_readDivisor_X40
set_option maxRecDepth 20000 in
theorem gX4_readDivisor_X4_hand : GoodIn wsX4_readDivisor (wsV RX4 77 RX4 yX4_hand wsX4_hand) := by
  refine goodIn_app (goodIn_sub ?_ ?_) ggX4_readDivisor_X4_hand
  · exact wm_c ⟨(wk_X4_readDivisor_X4_readDivisor_r1 _ (wm_2 (wm_1 wm_h))), wm_c ⟨(wk_X4_readDivisor_X4_readDivisor_r1 _ (wm_4 wm_h)), wm_c ⟨(wk_X4_readDivisor_X4_readDivisor_r1 _ (wm_4 (wm_1 wm_h))), wm_c ⟨(wk_X4_readDivisor_X4_readDivisor_r1 _ (wm_4 (wm_2 wm_h))), wm_n⟩⟩⟩⟩
  · decide +kernel
set_option maxRecDepth 20000 in
theorem ggX4_readDivisor_X4_isDigit : GoodIn wsX4_readDivisor wsX4_isDigit := by
  refine goodIn_sub ?_ gd_X4_isDigit
  unfold wsX4_isDigit
  refine wm_c ⟨(wk_X4_readDivisor_X4_readDivisor_r1 _ (wm_8 (wm_4 (wm_1 wm_h)))), ?_⟩
  exact wm_n
set_option maxRecDepth 20000 in
theorem gX4_readDivisor_X4_isDigit : GoodIn wsX4_readDivisor (wsV RX4 95 RX4 yX4_isDigit wsX4_isDigit) := by
  refine goodIn_app (goodIn_sub ?_ ?_) ggX4_readDivisor_X4_isDigit
  · exact wm_c ⟨(wk_X4_readDivisor_X4_readDivisor_r1 _ (wm_8 (wm_2 wm_h))), wm_c ⟨(wk_X4_readDivisor_X4_readDivisor_r1 _ (wm_8 (wm_2 (wm_1 wm_h)))), wm_c ⟨(wk_X4_readDivisor_X4_readDivisor_r1 _ (wm_8 (wm_4 wm_h))), wm_c ⟨(wk_X4_readDivisor_X4_readDivisor_r1 _ (wm_4 (wm_2 wm_h))), wm_n⟩⟩⟩⟩
  · decide +kernel
set_option maxRecDepth 20000 in
theorem ggX4_readDivisor_X4_termOf : GoodIn wsX4_readDivisor wsX4_termOf := by
  refine goodIn_sub ?_ gd_X4_termOf
  unfold wsX4_termOf
  refine wm_c ⟨(wk_X4_readDivisor_X4_readDivisor_r1 _ (wm_16 (wm_1 wm_h))), ?_⟩
  refine wm_a ⟨?_, ?_⟩
  · refine wm_c ⟨(wk_X4_readDivisor_X4_readDivisor_r1 _ (wm_16 (wm_2 wm_h))), ?_⟩
    exact wm_n
  · exact wk_X4_readDivisor_X40
set_option maxRecDepth 20000 in
theorem gX4_readDivisor_X4_termOf : GoodIn wsX4_readDivisor (wsV RX4 70 RX4 yX4_termOf wsX4_termOf) := by
  refine goodIn_app (goodIn_sub ?_ ?_) ggX4_readDivisor_X4_termOf
  · exact wm_c ⟨(wk_X4_readDivisor_X4_readDivisor_r1 _ (wm_8 (wm_4 (wm_2 wm_h)))), wm_c ⟨(wk_X4_readDivisor_X4_readDivisor_r1 _ (wm_8 (wm_4 (wm_2 (wm_1 wm_h))))), wm_c ⟨(wk_X4_readDivisor_X4_readDivisor_r1 _ (wm_16 wm_h)), wm_c ⟨(wk_X4_readDivisor_X4_readDivisor_r1 _ (wm_4 (wm_2 wm_h))), wm_n⟩⟩⟩⟩
  · decide +kernel
set_option maxRecDepth 20000 in
theorem ggX4_readDivisor_X4_readNumber : GoodIn wsX4_readDivisor wsX4_readNumber := by
  refine goodIn_sub ?_ gd_X4_readNumber
  unfold wsX4_readNumber
  refine wm_c ⟨(wk_X4_readDivisor_X4_readDivisor_r1 _ (wm_16 (wm_4 (wm_2 wm_h)))), ?_⟩
  refine wm_a ⟨?_, ?_⟩
  · refine wm_c ⟨(wk_X4_readDivisor_X4_readDivisor_r1 _ wm_h), ?_⟩
    refine wm_c ⟨(wk_X4_readDivisor_X4_readDivisor_r1 _ (wm_2 (wm_1 wm_h))), ?_⟩
    refine wm_c ⟨(wk_X4_readDivisor_X4_readDivisor_r1 _ (wm_4 wm_h)), ?_⟩
    refine wm_c ⟨(wk_X4_readDivisor_X4_readDivisor_r1 _ (wm_4 (wm_1 wm_h))), ?_⟩
    refine wm_c ⟨(wk_X4_readDivisor_X4_readDivisor_r1 _ (wm_4 (wm_2 wm_h))), ?_⟩
    refine wm_c ⟨(wk_X4_readDivisor_X4_readDivisor_r1 _ (wm_4 (wm_2 (wm_1 wm_h)))), ?_⟩
    refine wm_c ⟨(wk_X4_readDivisor_X4_readDivisor_r1 _ (wm_8 wm_h)), ?_⟩
    refine wm_c ⟨(wk_X4_readDivisor_X4_readDivisor_r1 _ (wm_8 (wm_1 wm_h))), ?_⟩
    refine wm_c ⟨(wk_X4_readDivisor_X4_readDivisor_r1 _ (wm_8 (wm_2 wm_h))), ?_⟩
    refine wm_c ⟨(wk_X4_readDivisor_X4_readDivisor_r1 _ (wm_8 (wm_2 (wm_1 wm_h)))), ?_⟩
    refine wm_c ⟨(wk_X4_readDivisor_X4_readDivisor_r1 _ (wm_8 (wm_4 wm_h))), ?_⟩
    refine wm_c ⟨(wk_X4_readDivisor_X4_readDivisor_r1 _ (wm_8 (wm_4 (wm_1 wm_h)))), ?_⟩
    exact wm_n
  · exact wk_X4_readDivisor_X40
set_option maxRecDepth 20000 in
theorem gX4_readDivisor_X4_readNumber : GoodIn wsX4_readDivisor (wsV RX4 98 RX4 yX4_readNumber wsX4_readNumber) := by
  refine goodIn_app (goodIn_sub ?_ ?_) ggX4_readDivisor_X4_readNumber
  · exact wm_c ⟨(wk_X4_readDivisor_X4_readDivisor_r1 _ (wm_16 (wm_2 (wm_1 wm_h)))), wm_c ⟨(wk_X4_readDivisor_X4_readDivisor_r1 _ (wm_16 (wm_4 wm_h))), wm_c ⟨(wk_X4_readDivisor_X4_readDivisor_r1 _ (wm_16 (wm_4 (wm_1 wm_h)))), wm_c ⟨(wk_X4_readDivisor_X4_readDivisor_r1 _ (wm_4 (wm_2 wm_h))), wm_n⟩⟩⟩⟩
  · decide +kernel
set_option maxRecDepth 20000 in
theorem ggX4_readDivisor_X3_reciprocal : GoodIn wsX4_readDivisor wsX3_reciprocal := by
  refine goodIn_sub ?_ gd_X3_reciprocal
  unfold wsX3_reciprocal
  refine wm_c ⟨(wk_X4_readDivisor_X4_readDivisor_r2 _ (wm_2 wm_h)), ?_⟩
  refine wm_c ⟨(wk_X4_readDivisor_X4_readDivisor_r2 _ (wm_2 (wm_1 wm_h))), ?_⟩
  refine wm_c ⟨(wk_X4_readDivisor_X4_readDivisor_r2 _ (wm_4 wm_h)), ?_⟩
  refine wm_c ⟨(wk_X4_readDivisor_X4_readDivisor_r2 _ (wm_4 (wm_1 wm_h))), ?_⟩
  refine wm_c ⟨(wk_X4_readDivisor_X4_readDivisor_r2 _ (wm_1 wm_h)), ?_⟩
  refine wm_c ⟨(wk_X4_readDivisor_X4_readDivisor_r2 _ (wm_4 (wm_2 wm_h))), ?_⟩
  refine wm_c ⟨(wk_X4_readDivisor_X4_readDivisor_r2 _ (wm_4 (wm_2 (wm_1 wm_h)))), ?_⟩
  exact wm_n
set_option maxRecDepth 20000 in
theorem gX4_readDivisor_X3_reciprocal : GoodIn wsX4_readDivisor (va_wsS RX4 101 yX3_reciprocal wsX3_reciprocal) := goodIn_app (goodIn_of _ (by decide +kernel)) ggX4_readDivisor_X3_reciprocal
set_option maxRecDepth 20000 in
theorem ggX4_readDivisor_X0_scale : GoodIn wsX4_readDivisor wsX0_scale := by
  refine goodIn_sub ?_ gd_X0_scale
  unfold wsX0_scale
  refine wm_c ⟨(wk_X4_readDivisor_X4_readDivisor_r2 _ (wm_8 (wm_4 wm_h))), ?_⟩
  refine wm_c ⟨(wk_X4_readDivisor_X4_readDivisor_r2 _ (wm_8 (wm_4 (wm_1 wm_h)))), ?_⟩
  refine wm_c ⟨(wk_X4_readDivisor_X4_readDivisor_r2 _ (wm_4 (wm_1 wm_h))), ?_⟩
  refine wm_c ⟨(wk_X4_readDivisor_X4_readDivisor_r2 _ (wm_1 wm_h)), ?_⟩
  refine wm_c ⟨(wk_X4_readDivisor_X4_readDivisor_r2 _ (wm_4 (wm_2 wm_h))), ?_⟩
  refine wm_c ⟨(wk_X4_readDivisor_X4_readDivisor_r2 _ (wm_4 (wm_2 (wm_1 wm_h)))), ?_⟩
  exact wm_n
set_option maxRecDepth 20000 in
theorem gX4_readDivisor_X0_scale : GoodIn wsX4_readDivisor (wsV RX4 107 RX0 yX0_scale wsX0_scale) := by
  refine goodIn_app (goodIn_sub ?_ ?_) ggX4_readDivisor_X0_scale
  · exact wm_c ⟨(wk_X4_readDivisor_X4_readDivisor_r2 _ (wm_8 wm_h)), wm_c ⟨(wk_X4_readDivisor_X4_readDivisor_r2 _ (wm_8 (wm_1 wm_h))), wm_c ⟨(wk_X4_readDivisor_X4_readDivisor_r2 _ (wm_8 (wm_2 wm_h))), wm_c ⟨(wk_X4_readDivisor_X4_readDivisor_r2 _ (wm_8 (wm_2 (wm_1 wm_h)))), wm_n⟩⟩⟩⟩
  · decide +kernel
theorem dX4_readDivisor_0 : decode cX4_readDivisor 0 = .ok (.aload_n 0, 1) := by decide +kernel
theorem dX4_readDivisor_1 : decode cX4_readDivisor 1 = .ok (.aload_n 0, 1) := by decide +kernel
theorem dX4_readDivisor_2 : decode cX4_readDivisor 2 = .ok (.invokevirtual 77, 3) := by decide +kernel
theorem dX4_readDivisor_5 : decode cX4_readDivisor 5 = .ok (.invokevirtual 95, 3) := by decide +kernel
theorem dX4_readDivisor_8 : decode cX4_readDivisor 8 = .ok (.ifCond .eq 12, 3) := by decide +kernel
theorem dX4_readDivisor_11 : decode cX4_readDivisor 11 = .ok (.aload_n 0, 1) := by decide +kernel
theorem dX4_readDivisor_12 : decode cX4_readDivisor 12 = .ok (.invokevirtual 77, 3) := by decide +kernel
theorem dX4_readDivisor_15 : decode cX4_readDivisor 15 = .ok (.bipush 48, 2) := by decide +kernel
theorem dX4_readDivisor_17 : decode cX4_readDivisor 17 = .ok (.if_icmp .ne 12, 3) := by decide +kernel
theorem dX4_readDivisor_20 : decode cX4_readDivisor 20 = .ok (.aload_n 0, 1) := by decide +kernel
theorem dX4_readDivisor_21 : decode cX4_readDivisor 21 = .ok (.aload_n 0, 1) := by decide +kernel
theorem dX4_readDivisor_22 : decode cX4_readDivisor 22 = .ok (.getfield 39, 3) := by decide +kernel
theorem dX4_readDivisor_25 : decode cX4_readDivisor 25 = .ok (.putfield 42, 3) := by decide +kernel
theorem dX4_readDivisor_28 : decode cX4_readDivisor 28 = .ok (.return_, 1) := by decide +kernel
theorem dX4_readDivisor_29 : decode cX4_readDivisor 29 = .ok (.aload_n 0, 1) := by decide +kernel
theorem dX4_readDivisor_30 : decode cX4_readDivisor 30 = .ok (.getfield 15, 3) := by decide +kernel
theorem dX4_readDivisor_33 : decode cX4_readDivisor 33 = .ok (.aload_n 0, 1) := by decide +kernel
theorem dX4_readDivisor_34 : decode cX4_readDivisor 34 = .ok (.iload_n 1, 1) := by decide +kernel
theorem dX4_readDivisor_35 : decode cX4_readDivisor 35 = .ok (.invokevirtual 70, 3) := by decide +kernel
theorem dX4_readDivisor_38 : decode cX4_readDivisor 38 = .ok (.aload_n 0, 1) := by decide +kernel
theorem dX4_readDivisor_39 : decode cX4_readDivisor 39 = .ok (.invokevirtual 98, 3) := by decide +kernel
theorem dX4_readDivisor_42 : decode cX4_readDivisor 42 = .ok (.invokestatic 101, 3) := by decide +kernel
theorem dX4_readDivisor_45 : decode cX4_readDivisor 45 = .ok (.invokevirtual 107, 3) := by decide +kernel
theorem dX4_readDivisor_48 : decode cX4_readDivisor 48 = .ok (.return_, 1) := by decide +kernel
set_option maxRecDepth 20000 in
theorem ggX4_beginsFactor_X4_isDigit : GoodIn wsX4_beginsFactor wsX4_isDigit := by
  refine goodIn_sub ?_ gd_X4_isDigit
  unfold wsX4_isDigit
  refine wm_c ⟨(wm_1 (wm_l (wm_l (wm_4 wm_h)))), ?_⟩
  exact wm_n
set_option maxRecDepth 20000 in
theorem gX4_beginsFactor_X4_isDigit : GoodIn wsX4_beginsFactor (wsV RX4 95 RX4 yX4_isDigit wsX4_isDigit) := by
  refine goodIn_app (goodIn_sub ?_ ?_) ggX4_beginsFactor_X4_isDigit
  · exact wm_c ⟨(wm_1 (wm_l (wm_l wm_h))), wm_c ⟨(wm_1 (wm_l (wm_l (wm_1 wm_h)))), wm_c ⟨(wm_1 (wm_l (wm_l (wm_2 wm_h)))), wm_c ⟨(wm_1 (wm_l (wm_l (wm_2 (wm_1 wm_h))))), wm_n⟩⟩⟩⟩
  · decide +kernel
set_option maxRecDepth 20000 in
theorem ggX4_beginsFactor_X4_isLetter : GoodIn wsX4_beginsFactor wsX4_isLetter := by
  refine goodIn_sub ?_ gd_X4_isLetter
  unfold wsX4_isLetter
  refine wm_c ⟨(wm_1 (wm_l (wm_l (wm_8 wm_h)))), ?_⟩
  refine wm_a ⟨?_, ?_⟩
  · refine wm_a ⟨?_, ?_⟩
    · refine wm_c ⟨(wm_1 (wm_l (wm_l (wm_8 (wm_1 wm_h))))), ?_⟩
      refine wm_c ⟨(wm_1 (wm_l (wm_l (wm_8 (wm_2 wm_h))))), ?_⟩
      exact wm_n
    · exact wk_X4_beginsFactor_X40
  · exact wk_X4_beginsFactor_X60
set_option maxRecDepth 20000 in
theorem gX4_beginsFactor_X4_isLetter : GoodIn wsX4_beginsFactor (wsV RX4 110 RX4 yX4_isLetter wsX4_isLetter) := by
  refine goodIn_app (goodIn_sub ?_ ?_) ggX4_beginsFactor_X4_isLetter
  · exact wm_c ⟨(wm_1 (wm_l (wm_l (wm_4 (wm_1 wm_h))))), wm_c ⟨(wm_1 (wm_l (wm_l (wm_4 (wm_2 wm_h))))), wm_c ⟨(wm_1 (wm_l (wm_l (wm_4 (wm_2 (wm_1 wm_h)))))), wm_c ⟨(wm_1 (wm_l (wm_l (wm_2 (wm_1 wm_h))))), wm_n⟩⟩⟩⟩
  · decide +kernel
theorem dX4_beginsFactor_0 : decode cX4_beginsFactor 0 = .ok (.aload_n 0, 1) := by decide +kernel
theorem dX4_beginsFactor_1 : decode cX4_beginsFactor 1 = .ok (.iload_n 1, 1) := by decide +kernel
theorem dX4_beginsFactor_2 : decode cX4_beginsFactor 2 = .ok (.invokevirtual 95, 3) := by decide +kernel
theorem dX4_beginsFactor_5 : decode cX4_beginsFactor 5 = .ok (.ifCond .ne 41, 3) := by decide +kernel
theorem dX4_beginsFactor_8 : decode cX4_beginsFactor 8 = .ok (.aload_n 0, 1) := by decide +kernel
theorem dX4_beginsFactor_9 : decode cX4_beginsFactor 9 = .ok (.iload_n 1, 1) := by decide +kernel
theorem dX4_beginsFactor_10 : decode cX4_beginsFactor 10 = .ok (.invokevirtual 110, 3) := by decide +kernel
theorem dX4_beginsFactor_13 : decode cX4_beginsFactor 13 = .ok (.ifCond .ne 33, 3) := by decide +kernel
theorem dX4_beginsFactor_16 : decode cX4_beginsFactor 16 = .ok (.iload_n 1, 1) := by decide +kernel
theorem dX4_beginsFactor_17 : decode cX4_beginsFactor 17 = .ok (.bipush 114, 2) := by decide +kernel
theorem dX4_beginsFactor_19 : decode cX4_beginsFactor 19 = .ok (.if_icmp .eq 27, 3) := by decide +kernel
theorem dX4_beginsFactor_22 : decode cX4_beginsFactor 22 = .ok (.iload_n 1, 1) := by decide +kernel
theorem dX4_beginsFactor_23 : decode cX4_beginsFactor 23 = .ok (.bipush 91, 2) := by decide +kernel
theorem dX4_beginsFactor_25 : decode cX4_beginsFactor 25 = .ok (.if_icmp .eq 21, 3) := by decide +kernel
theorem dX4_beginsFactor_28 : decode cX4_beginsFactor 28 = .ok (.iload_n 1, 1) := by decide +kernel
theorem dX4_beginsFactor_29 : decode cX4_beginsFactor 29 = .ok (.bipush 40, 2) := by decide +kernel
theorem dX4_beginsFactor_31 : decode cX4_beginsFactor 31 = .ok (.if_icmp .eq 15, 3) := by decide +kernel
theorem dX4_beginsFactor_34 : decode cX4_beginsFactor 34 = .ok (.iload_n 1, 1) := by decide +kernel
theorem dX4_beginsFactor_35 : decode cX4_beginsFactor 35 = .ok (.bipush 69, 2) := by decide +kernel
theorem dX4_beginsFactor_37 : decode cX4_beginsFactor 37 = .ok (.if_icmp .eq 9, 3) := by decide +kernel
theorem dX4_beginsFactor_40 : decode cX4_beginsFactor 40 = .ok (.iload_n 1, 1) := by decide +kernel
theorem dX4_beginsFactor_41 : decode cX4_beginsFactor 41 = .ok (.bipush 76, 2) := by decide +kernel
theorem dX4_beginsFactor_43 : decode cX4_beginsFactor 43 = .ok (.if_icmp .ne 7, 3) := by decide +kernel
theorem dX4_beginsFactor_46 : decode cX4_beginsFactor 46 = .ok (.iconst 1, 1) := by decide +kernel
theorem dX4_beginsFactor_47 : decode cX4_beginsFactor 47 = .ok (.goto 4, 3) := by decide +kernel
theorem dX4_beginsFactor_50 : decode cX4_beginsFactor 50 = .ok (.iconst 0, 1) := by decide +kernel
theorem dX4_beginsFactor_51 : decode cX4_beginsFactor 51 = .ok (.ireturn, 1) := by decide +kernel
theorem dX4_isDigit_0 : decode cX4_isDigit 0 = .ok (.iload_n 1, 1) := by decide +kernel
theorem dX4_isDigit_1 : decode cX4_isDigit 1 = .ok (.bipush 48, 2) := by decide +kernel
theorem dX4_isDigit_3 : decode cX4_isDigit 3 = .ok (.if_icmp .lt 13, 3) := by decide +kernel
theorem dX4_isDigit_6 : decode cX4_isDigit 6 = .ok (.iload_n 1, 1) := by decide +kernel
theorem dX4_isDigit_7 : decode cX4_isDigit 7 = .ok (.bipush 57, 2) := by decide +kernel
theorem dX4_isDigit_9 : decode cX4_isDigit 9 = .ok (.if_icmp .gt 7, 3) := by decide +kernel
theorem dX4_isDigit_12 : decode cX4_isDigit 12 = .ok (.iconst 1, 1) := by decide +kernel
theorem dX4_isDigit_13 : decode cX4_isDigit 13 = .ok (.goto 4, 3) := by decide +kernel
theorem dX4_isDigit_16 : decode cX4_isDigit 16 = .ok (.iconst 0, 1) := by decide +kernel
theorem dX4_isDigit_17 : decode cX4_isDigit 17 = .ok (.ireturn, 1) := by decide +kernel
theorem dX4_isLetter_0 : decode cX4_isLetter 0 = .ok (.iload_n 1, 1) := by decide +kernel
theorem dX4_isLetter_1 : decode cX4_isLetter 1 = .ok (.bipush 97, 2) := by decide +kernel
theorem dX4_isLetter_3 : decode cX4_isLetter 3 = .ok (.if_icmp .lt 21, 3) := by decide +kernel
theorem dX4_isLetter_6 : decode cX4_isLetter 6 = .ok (.iload_n 1, 1) := by decide +kernel
theorem dX4_isLetter_7 : decode cX4_isLetter 7 = .ok (.bipush 97, 2) := by decide +kernel
theorem dX4_isLetter_9 : decode cX4_isLetter 9 = .ok (.aload_n 0, 1) := by decide +kernel
theorem dX4_isLetter_10 : decode cX4_isLetter 10 = .ok (.getfield 9, 3) := by decide +kernel
theorem dX4_isLetter_13 : decode cX4_isLetter 13 = .ok (.getfield 113, 3) := by decide +kernel
theorem dX4_isLetter_16 : decode cX4_isLetter 16 = .ok (.iadd, 1) := by decide +kernel
theorem dX4_isLetter_17 : decode cX4_isLetter 17 = .ok (.if_icmp .ge 7, 3) := by decide +kernel
theorem dX4_isLetter_20 : decode cX4_isLetter 20 = .ok (.iconst 1, 1) := by decide +kernel
theorem dX4_isLetter_21 : decode cX4_isLetter 21 = .ok (.goto 4, 3) := by decide +kernel
theorem dX4_isLetter_24 : decode cX4_isLetter 24 = .ok (.iconst 0, 1) := by decide +kernel
theorem dX4_isLetter_25 : decode cX4_isLetter 25 = .ok (.ireturn, 1) := by decide +kernel
set_option maxRecDepth 20000 in
theorem ggX4_readFactor_X4_hand : GoodIn wsX4_readFactor wsX4_hand := by
  refine goodIn_sub ?_ gd_X4_hand
  unfold wsX4_hand
  refine wm_c ⟨(wk_X4_readFactor_X4_readFactor_r1 _ (wm_4 (wm_2 wm_h))), ?_⟩
  refine wm_a ⟨?_, ?_⟩
  · refine wm_c ⟨(wk_X4_readFactor_X4_readFactor_r1 _ (wm_1 wm_h)), ?_⟩
    refine wm_c ⟨(wk_X4_readFactor_X4_readFactor_r1 _ (wm_4 (wm_2 (wm_1 wm_h)))), ?_⟩
    refine wm_c ⟨(wk_X4_readFactor_X4_readFactor_r1 _ (wm_8 wm_h)), ?_⟩
    exact wm_n
  · exact wk_X4_readFactor_X40
set_option maxRecDepth 20000 in
theorem gX4_readFactor_X4_hand : GoodIn wsX4_readFactor (wsV RX4 77 RX4 yX4_hand wsX4_hand) := by
  refine goodIn_app (goodIn_sub ?_ ?_) ggX4_readFactor_X4_hand
  · exact wm_c ⟨(wk_X4_readFactor_X4_readFactor_r1 _ (wm_2 wm_h)), wm_c ⟨(wk_X4_readFactor_X4_readFactor_r1 _ (wm_2 (wm_1 wm_h))), wm_c ⟨(wk_X4_readFactor_X4_readFactor_r1 _ (wm_4 wm_h)), wm_c ⟨(wk_X4_readFactor_X4_readFactor_r1 _ (wm_4 (wm_1 wm_h))), wm_n⟩⟩⟩⟩
  · decide +kernel
set_option maxRecDepth 20000 in
theorem ggX4_readFactor_X4_isDigit : GoodIn wsX4_readFactor wsX4_isDigit := by
  refine goodIn_sub ?_ gd_X4_isDigit
  unfold wsX4_isDigit
  refine wm_c ⟨(wk_X4_readFactor_X4_readFactor_r1 _ (wm_8 (wm_4 wm_h))), ?_⟩
  exact wm_n
set_option maxRecDepth 20000 in
theorem gX4_readFactor_X4_isDigit : GoodIn wsX4_readFactor (wsV RX4 95 RX4 yX4_isDigit wsX4_isDigit) := by
  refine goodIn_app (goodIn_sub ?_ ?_) ggX4_readFactor_X4_isDigit
  · exact wm_c ⟨(wk_X4_readFactor_X4_readFactor_r1 _ (wm_8 (wm_1 wm_h))), wm_c ⟨(wk_X4_readFactor_X4_readFactor_r1 _ (wm_8 (wm_2 wm_h))), wm_c ⟨(wk_X4_readFactor_X4_readFactor_r1 _ (wm_8 (wm_2 (wm_1 wm_h)))), wm_c ⟨(wk_X4_readFactor_X4_readFactor_r1 _ (wm_4 (wm_1 wm_h))), wm_n⟩⟩⟩⟩
  · decide +kernel
set_option maxRecDepth 20000 in
theorem ggX4_readFactor_X4_termOf : GoodIn wsX4_readFactor wsX4_termOf := by
  refine goodIn_sub ?_ gd_X4_termOf
  unfold wsX4_termOf
  refine wm_c ⟨(wk_X4_readFactor_X4_readFactor_r1 _ (wm_16 wm_h)), ?_⟩
  refine wm_a ⟨?_, ?_⟩
  · refine wm_c ⟨(wk_X4_readFactor_X4_readFactor_r1 _ (wm_16 (wm_1 wm_h))), ?_⟩
    exact wm_n
  · exact wk_X4_readFactor_X40
set_option maxRecDepth 20000 in
theorem gX4_readFactor_X4_termOf : GoodIn wsX4_readFactor (wsV RX4 70 RX4 yX4_termOf wsX4_termOf) := by
  refine goodIn_app (goodIn_sub ?_ ?_) ggX4_readFactor_X4_termOf
  · exact wm_c ⟨(wk_X4_readFactor_X4_readFactor_r1 _ (wm_8 (wm_4 (wm_1 wm_h)))), wm_c ⟨(wk_X4_readFactor_X4_readFactor_r1 _ (wm_8 (wm_4 (wm_2 wm_h)))), wm_c ⟨(wk_X4_readFactor_X4_readFactor_r1 _ (wm_8 (wm_4 (wm_2 (wm_1 wm_h))))), wm_c ⟨(wk_X4_readFactor_X4_readFactor_r1 _ (wm_4 (wm_1 wm_h))), wm_n⟩⟩⟩⟩
  · decide +kernel
set_option maxRecDepth 20000 in
theorem ggX4_readFactor_X4_readNumber : GoodIn wsX4_readFactor wsX4_readNumber := by
  refine goodIn_sub ?_ gd_X4_readNumber
  unfold wsX4_readNumber
  refine wm_c ⟨(wk_X4_readFactor_X4_readFactor_r1 _ (wm_16 (wm_4 (wm_1 wm_h)))), ?_⟩
  refine wm_a ⟨?_, ?_⟩
  · refine wm_c ⟨(wk_X4_readFactor_X4_readFactor_r1 _ (wm_1 wm_h)), ?_⟩
    refine wm_c ⟨(wk_X4_readFactor_X4_readFactor_r1 _ (wm_2 wm_h)), ?_⟩
    refine wm_c ⟨(wk_X4_readFactor_X4_readFactor_r1 _ (wm_2 (wm_1 wm_h))), ?_⟩
    refine wm_c ⟨(wk_X4_readFactor_X4_readFactor_r1 _ (wm_4 wm_h)), ?_⟩
    refine wm_c ⟨(wk_X4_readFactor_X4_readFactor_r1 _ (wm_4 (wm_1 wm_h))), ?_⟩
    refine wm_c ⟨(wk_X4_readFactor_X4_readFactor_r1 _ (wm_4 (wm_2 wm_h))), ?_⟩
    refine wm_c ⟨(wk_X4_readFactor_X4_readFactor_r1 _ (wm_4 (wm_2 (wm_1 wm_h)))), ?_⟩
    refine wm_c ⟨(wk_X4_readFactor_X4_readFactor_r1 _ (wm_8 wm_h)), ?_⟩
    refine wm_c ⟨(wk_X4_readFactor_X4_readFactor_r1 _ (wm_8 (wm_1 wm_h))), ?_⟩
    refine wm_c ⟨(wk_X4_readFactor_X4_readFactor_r1 _ (wm_8 (wm_2 wm_h))), ?_⟩
    refine wm_c ⟨(wk_X4_readFactor_X4_readFactor_r1 _ (wm_8 (wm_2 (wm_1 wm_h)))), ?_⟩
    refine wm_c ⟨(wk_X4_readFactor_X4_readFactor_r1 _ (wm_8 (wm_4 wm_h))), ?_⟩
    exact wm_n
  · exact wk_X4_readFactor_X40
set_option maxRecDepth 20000 in
theorem gX4_readFactor_X4_readNumber : GoodIn wsX4_readFactor (wsV RX4 98 RX4 yX4_readNumber wsX4_readNumber) := by
  refine goodIn_app (goodIn_sub ?_ ?_) ggX4_readFactor_X4_readNumber
  · exact wm_c ⟨(wk_X4_readFactor_X4_readFactor_r1 _ (wm_16 (wm_2 wm_h))), wm_c ⟨(wk_X4_readFactor_X4_readFactor_r1 _ (wm_16 (wm_2 (wm_1 wm_h)))), wm_c ⟨(wk_X4_readFactor_X4_readFactor_r1 _ (wm_16 (wm_4 wm_h))), wm_c ⟨(wk_X4_readFactor_X4_readFactor_r1 _ (wm_4 (wm_1 wm_h))), wm_n⟩⟩⟩⟩
  · decide +kernel
set_option maxRecDepth 20000 in
theorem ggX4_readFactor_X0_scale : GoodIn wsX4_readFactor wsX0_scale := by
  refine goodIn_sub ?_ gd_X0_scale
  unfold wsX0_scale
  refine wm_c ⟨(wk_X4_readFactor_X4_readFactor_r2 _ (wm_2 wm_h)), ?_⟩
  refine wm_c ⟨(wk_X4_readFactor_X4_readFactor_r2 _ (wm_2 (wm_1 wm_h))), ?_⟩
  refine wm_c ⟨(wk_X4_readFactor_X4_readFactor_r2 _ (wm_4 wm_h)), ?_⟩
  refine wm_c ⟨(wk_X4_readFactor_X4_readFactor_r2 _ (wm_4 (wm_1 wm_h))), ?_⟩
  refine wm_c ⟨(wk_X4_readFactor_X4_readFactor_r2 _ (wm_4 (wm_2 wm_h))), ?_⟩
  refine wm_c ⟨(wk_X4_readFactor_X4_readFactor_r2 _ (wm_4 (wm_2 (wm_1 wm_h)))), ?_⟩
  exact wm_n
set_option maxRecDepth 20000 in
theorem gX4_readFactor_X0_scale : GoodIn wsX4_readFactor (wsV RX4 107 RX0 yX0_scale wsX0_scale) := by
  refine goodIn_app (goodIn_sub ?_ ?_) ggX4_readFactor_X0_scale
  · exact wm_c ⟨(wk_X4_readFactor_X4_readFactor_r1 _ (wm_16 (wm_4 (wm_2 wm_h)))), wm_c ⟨(wk_X4_readFactor_X4_readFactor_r1 _ (wm_16 (wm_4 (wm_2 (wm_1 wm_h))))), wm_c ⟨(wk_X4_readFactor_X4_readFactor_r2 _ wm_h), wm_c ⟨(wk_X4_readFactor_X4_readFactor_r2 _ (wm_1 wm_h)), wm_n⟩⟩⟩⟩
  · decide +kernel
set_option maxRecDepth 20000 in
theorem ggX4_readFactor_X4_isLetter : GoodIn wsX4_readFactor wsX4_isLetter := by
  refine goodIn_sub ?_ gd_X4_isLetter
  unfold wsX4_isLetter
  refine wm_c ⟨(wk_X4_readFactor_X4_readFactor_r2 _ (wm_8 (wm_2 (wm_1 wm_h)))), ?_⟩
  refine wm_a ⟨?_, ?_⟩
  · refine wm_a ⟨?_, ?_⟩
    · refine wm_c ⟨(wk_X4_readFactor_X4_readFactor_r2 _ (wm_8 (wm_4 wm_h))), ?_⟩
      refine wm_c ⟨(wk_X4_readFactor_X4_readFactor_r2 _ (wm_8 (wm_4 (wm_1 wm_h)))), ?_⟩
      exact wm_n
    · exact wk_X4_readFactor_X40
  · exact wk_X4_readFactor_X60
set_option maxRecDepth 20000 in
theorem gX4_readFactor_X4_isLetter : GoodIn wsX4_readFactor (wsV RX4 110 RX4 yX4_isLetter wsX4_isLetter) := by
  refine goodIn_app (goodIn_sub ?_ ?_) ggX4_readFactor_X4_isLetter
  · exact wm_c ⟨(wk_X4_readFactor_X4_readFactor_r2 _ (wm_8 wm_h)), wm_c ⟨(wk_X4_readFactor_X4_readFactor_r2 _ (wm_8 (wm_1 wm_h))), wm_c ⟨(wk_X4_readFactor_X4_readFactor_r2 _ (wm_8 (wm_2 wm_h))), wm_c ⟨(wk_X4_readFactor_X4_readFactor_r1 _ (wm_4 (wm_1 wm_h))), wm_n⟩⟩⟩⟩
  · decide +kernel
set_option maxRecDepth 20000 in
theorem ggX4_readFactor_X0_multiplyByLetter : GoodIn wsX4_readFactor wsX0_multiplyByLetter := by
  refine goodIn_sub ?_ gd_X0_multiplyByLetter
  unfold wsX0_multiplyByLetter
  refine wm_c ⟨(wk_X4_readFactor_X4_readFactor_r2 _ (wm_16 (wm_1 wm_h))), ?_⟩
  refine wm_a ⟨?_, ?_⟩
  · refine wm_c ⟨(wk_X4_readFactor_X4_readFactor_r2 _ (wm_16 (wm_2 wm_h))), ?_⟩
    refine wm_c ⟨(wk_X4_readFactor_X4_readFactor_r2 _ (wm_16 (wm_2 (wm_1 wm_h)))), ?_⟩
    refine wm_c ⟨(wk_X4_readFactor_X4_readFactor_r2 _ (wm_16 (wm_4 wm_h))), ?_⟩
    refine wm_c ⟨(wk_X4_readFactor_X4_readFactor_r2 _ (wm_16 (wm_4 (wm_1 wm_h)))), ?_⟩
    refine wm_c ⟨(wk_X4_readFactor_X4_readFactor_r2 _ (wm_16 (wm_4 (wm_2 wm_h)))), ?_⟩
    refine wm_c ⟨(wk_X4_readFactor_X4_readFactor_r2 _ (wm_16 (wm_4 (wm_2 (wm_1 wm_h))))), ?_⟩
    refine wm_c ⟨(wk_X4_readFactor_X4_readFactor_r3 _ wm_h), ?_⟩
    refine wm_c ⟨(wk_X4_readFactor_X4_readFactor_r3 _ (wm_1 wm_h)), ?_⟩
    refine wm_c ⟨(wk_X4_readFactor_X4_readFactor_r3 _ (wm_2 wm_h)), ?_⟩
    refine wm_c ⟨(wk_X4_readFactor_X4_readFactor_r3 _ (wm_2 (wm_1 wm_h))), ?_⟩
    refine wm_c ⟨(wk_X4_readFactor_X4_readFactor_r3 _ (wm_4 wm_h)), ?_⟩
    refine wm_c ⟨(wk_X4_readFactor_X4_readFactor_r2 _ (wm_1 wm_h)), ?_⟩
    refine wm_c ⟨(wk_X4_readFactor_X4_readFactor_r3 _ (wm_4 (wm_1 wm_h))), ?_⟩
    refine wm_c ⟨(wk_X4_readFactor_X4_readFactor_r3 _ (wm_4 (wm_2 wm_h))), ?_⟩
    refine wm_c ⟨(wk_X4_readFactor_X4_readFactor_r3 _ (wm_4 (wm_2 (wm_1 wm_h)))), ?_⟩
    refine wm_c ⟨(wk_X4_readFactor_X4_readFactor_r3 _ (wm_8 wm_h)), ?_⟩
    refine wm_c ⟨(wk_X4_readFactor_X4_readFactor_r3 _ (wm_8 (wm_1 wm_h))), ?_⟩
    exact wm_n
  · exact wk_X4_readFactor_X00
set_option maxRecDepth 20000 in
theorem gX4_readFactor_X0_multiplyByLetter : GoodIn wsX4_readFactor (wsV RX4 118 RX0 yX0_multiplyByLetter wsX0_multiplyByLetter) := by
  refine goodIn_app (goodIn_sub ?_ ?_) ggX4_readFactor_X0_multiplyByLetter
  · exact wm_c ⟨(wk_X4_readFactor_X4_readFactor_r2 _ (wm_8 (wm_4 (wm_2 wm_h)))), wm_c ⟨(wk_X4_readFactor_X4_readFactor_r2 _ (wm_8 (wm_4 (wm_2 (wm_1 wm_h))))), wm_c ⟨(wk_X4_readFactor_X4_readFactor_r2 _ (wm_16 wm_h)), wm_c ⟨(wk_X4_readFactor_X4_readFactor_r2 _ (wm_1 wm_h)), wm_n⟩⟩⟩⟩
  · decide +kernel
set_option maxRecDepth 20000 in
theorem ggX4_readFactor_X4_readSum : GoodIn wsX4_readFactor wsX4_readSum := by
  refine goodIn_sub ?_ gd_X4_readSum
  unfold wsX4_readSum
  refine wm_c ⟨(wk_X4_readFactor_X4_readFactor_r3 _ (wm_8 (wm_4 (wm_1 wm_h)))), ?_⟩
  refine wm_a ⟨?_, ?_⟩
  · refine wm_a ⟨?_, ?_⟩
    · refine wm_a ⟨?_, ?_⟩
      · unfold wsX4_readSum_r1
        refine wm_c ⟨(wk_X4_readFactor_X4_readFactor_r1 _ (wm_1 wm_h)), ?_⟩
        refine wm_c ⟨(wk_X4_readFactor_X4_readFactor_r3 _ (wm_8 (wm_4 (wm_2 wm_h)))), ?_⟩
        refine wm_c ⟨(wk_X4_readFactor_X4_readFactor_r1 _ wm_h), ?_⟩
        refine wm_c ⟨(wk_X4_readFactor_X4_readFactor_r3 _ (wm_8 (wm_4 (wm_2 (wm_1 wm_h))))), ?_⟩
        refine wm_c ⟨(wk_X4_readFactor_X4_readFactor_r1 _ (wm_2 wm_h)), ?_⟩
        refine wm_c ⟨(wk_X4_readFactor_X4_readFactor_r1 _ (wm_2 (wm_1 wm_h))), ?_⟩
        refine wm_c ⟨(wk_X4_readFactor_X4_readFactor_r1 _ (wm_4 wm_h)), ?_⟩
        refine wm_c ⟨(wk_X4_readFactor_X4_readFactor_r1 _ (wm_4 (wm_1 wm_h))), ?_⟩
        refine wm_c ⟨(wk_X4_readFactor_X4_readFactor_r1 _ (wm_4 (wm_2 wm_h))), ?_⟩
        refine wm_c ⟨(wk_X4_readFactor_X4_readFactor_r1 _ (wm_4 (wm_2 (wm_1 wm_h)))), ?_⟩
        refine wm_c ⟨(wk_X4_readFactor_X4_readFactor_r1 _ (wm_8 wm_h)), ?_⟩
        refine wm_c ⟨(wk_X4_readFactor_X4_readFactor_r3 _ (wm_16 wm_h)), ?_⟩
        refine wm_c ⟨(wk_X4_readFactor_X4_readFactor_r3 _ (wm_16 (wm_1 wm_h))), ?_⟩
        refine wm_c ⟨(wk_X4_readFactor_X4_readFactor_r3 _ (wm_16 (wm_2 wm_h))), ?_⟩
        refine wm_c ⟨(wk_X4_readFactor_X4_readFactor_r1 _ (wm_8 (wm_4 (wm_1 wm_h)))), ?_⟩
        refine wm_c ⟨(wk_X4_readFactor_X4_readFactor_r1 _ (wm_8 (wm_4 (wm_2 wm_h)))), ?_⟩
        refine wm_c ⟨(wk_X4_readFactor_X4_readFactor_r1 _ (wm_8 (wm_4 (wm_2 (wm_1 wm_h))))), ?_⟩
        refine wm_c ⟨(wk_X4_readFactor_X4_readFactor_r1 _ (wm_16 wm_h)), ?_⟩
        refine wm_c ⟨(wk_X4_readFactor_X4_readFactor_r1 _ (wm_16 (wm_1 wm_h))), ?_⟩
        refine wm_c ⟨(wk_X4_readFactor_X4_readFactor_r3 _ (wm_16 (wm_2 (wm_1 wm_h)))), ?_⟩
        refine wm_c ⟨(wk_X4_readFactor_X4_readFactor_r3 _ (wm_16 (wm_4 wm_h))), ?_⟩
        refine wm_c ⟨(wk_X4_readFactor_X4_readFactor_r3 _ (wm_16 (wm_4 (wm_1 wm_h)))), ?_⟩
        refine wm_c ⟨(wk_X4_readFactor_X4_readFactor_r2 _ (wm_1 wm_h)), ?_⟩
        refine wm_c ⟨(wk_X4_readFactor_X4_readFactor_r3 _ (wm_16 (wm_4 (wm_2 wm_h)))), ?_⟩
        exact wm_n
      · unfold wsX4_readSum_r2
        refine wm_c ⟨(wk_X4_readFactor_X4_readFactor_r2 _ (wm_16 (wm_2 wm_h))), ?_⟩
        refine wm_c ⟨(wk_X4_readFactor_X4_readFactor_r2 _ (wm_16 (wm_2 (wm_1 wm_h)))), ?_⟩
        refine wm_c ⟨(wk_X4_readFactor_X4_readFactor_r2 _ (wm_16 (wm_4 (wm_2 wm_h)))), ?_⟩
        refine wm_c ⟨(wk_X4_readFactor_X4_readFactor_r2 _ (wm_16 (wm_4 (wm_2 (wm_1 wm_h))))), ?_⟩
        refine wm_c ⟨(wk_X4_readFactor_X4_readFactor_r3 _ wm_h), ?_⟩
        refine wm_c ⟨(wk_X4_readFactor_X4_readFactor_r3 _ (wm_1 wm_h)), ?_⟩
        refine wm_c ⟨(wk_X4_readFactor_X4_readFactor_r3 _ (wm_16 (wm_4 (wm_2 (wm_1 wm_h))))), ?_⟩
        refine wm_c ⟨(wk_X4_readFactor_X4_readFactor_r4 _ wm_h), ?_⟩
        refine wm_c ⟨(wk_X4_readFactor_X4_readFactor_r4 _ (wm_1 wm_h)), ?_⟩
        refine wm_c ⟨(wk_X4_readFactor_X4_readFactor_r4 _ (wm_2 wm_h)), ?_⟩
        refine wm_c ⟨(wk_X4_readFactor_X4_readFactor_r4 _ (wm_2 (wm_1 wm_h))), ?_⟩
        refine wm_c ⟨(wk_X4_readFactor_X4_readFactor_r2 _ (wm_16 (wm_4 wm_h))), ?_⟩
        refine wm_c ⟨(wk_X4_readFactor_X4_readFactor_r4 _ (wm_4 wm_h)), ?_⟩
        refine wm_c ⟨(wk_X4_readFactor_X4_readFactor_r3 _ (wm_2 wm_h)), ?_⟩
        refine wm_c ⟨(wk_X4_readFactor_X4_readFactor_r3 _ (wm_2 (wm_1 wm_h))), ?_⟩
        refine wm_c ⟨(wk_X4_readFactor_X4_readFactor_r3 _ (wm_4 wm_h)), ?_⟩
        refine wm_c ⟨(wk_X4_readFactor_X4_readFactor_r3 _ (wm_4 (wm_1 wm_h))), ?_⟩
        refine wm_c ⟨(wk_X4_readFactor_X4_readFactor_r3 _ (wm_4 (wm_2 wm_h))), ?_⟩
        refine wm_c ⟨(wk_X4_readFactor_X4_readFactor_r3 _ (wm_4 (wm_2 (wm_1 wm_h)))), ?_⟩
        refine wm_c ⟨(wk_X4_readFactor_X4_readFactor_r3 _ (wm_8 wm_h)), ?_⟩
        refine wm_c ⟨(wk_X4_readFactor_X4_readFactor_r3 _ (wm_8 (wm_1 wm_h))), ?_⟩
        exact wm_n
    · exact wk_X4_readFactor_X40
  · exact wk_X4_readFactor_X00
set_option maxRecDepth 20000 in
theorem gX4_readFactor_X4_readSum : GoodIn wsX4_readFactor (wsV RX4 121 RX4 yX4_readSum wsX4_readSum) := by
  refine goodIn_app (goodIn_sub ?_ ?_) ggX4_readFactor_X4_readSum
  · exact wm_c ⟨(wk_X4_readFactor_X4_readFactor_r3 _ (wm_8 (wm_2 wm_h))), wm_c ⟨(wk_X4_readFactor_X4_readFactor_r3 _ (wm_8 (wm_2 (wm_1 wm_h)))), wm_c ⟨(wk_X4_readFactor_X4_readFactor_r3 _ (wm_8 (wm_4 wm_h))), wm_c ⟨(wk_X4_readFactor_X4_readFactor_r1 _ (wm_4 (wm_1 wm_h))), wm_n⟩⟩⟩⟩
  · decide +kernel
set_option maxRecDepth 20000 in
theorem ggX4_readFactor_X4_readBracket : GoodIn wsX4_readFactor wsX4_readBracket := by
  refine goodIn_sub ?_ gd_X4_readBracket
  unfold wsX4_readBracket
  refine wm_c ⟨(wk_X4_readFactor_X4_readFactor_r4 _ (wm_8 (wm_2 (wm_1 wm_h)))), ?_⟩
  refine wm_a ⟨?_, ?_⟩
  · refine wm_a ⟨?_, ?_⟩
    · refine wm_a ⟨?_, ?_⟩
      · refine wm_a ⟨?_, ?_⟩
        · unfold wsX4_readBracket_r1
          refine wm_c ⟨(wk_X4_readFactor_X4_readFactor_r1 _ wm_h), ?_⟩
          refine wm_c ⟨(wk_X4_readFactor_X4_readFactor_r4 _ (wm_8 (wm_4 wm_h))), ?_⟩
          refine wm_c ⟨(wk_X4_readFactor_X4_readFactor_r4 _ (wm_8 (wm_4 (wm_1 wm_h)))), ?_⟩
          refine wm_c ⟨(wk_X4_readFactor_X4_readFactor_r4 _ (wm_8 (wm_4 (wm_2 wm_h)))), ?_⟩
          refine wm_c ⟨(wk_X4_readFactor_X4_readFactor_r1 _ (wm_4 (wm_1 wm_h))), ?_⟩
          refine wm_c ⟨(wk_X4_readFactor_X4_readFactor_r4 _ (wm_8 (wm_4 (wm_2 (wm_1 wm_h))))), ?_⟩
          refine wm_c ⟨(wk_X4_readFactor_X4_readFactor_r1 _ (wm_1 wm_h)), ?_⟩
          refine wm_c ⟨(wk_X4_readFactor_X4_readFactor_r3 _ (wm_8 (wm_4 (wm_2 wm_h)))), ?_⟩
          refine wm_c ⟨(wk_X4_readFactor_X4_readFactor_r1 _ (wm_2 wm_h)), ?_⟩
          refine wm_c ⟨(wk_X4_readFactor_X4_readFactor_r1 _ (wm_2 (wm_1 wm_h))), ?_⟩
          refine wm_c ⟨(wk_X4_readFactor_X4_readFactor_r1 _ (wm_4 wm_h)), ?_⟩
          refine wm_c ⟨(wk_X4_readFactor_X4_readFactor_r1 _ (wm_4 (wm_2 wm_h))), ?_⟩
          refine wm_c ⟨(wk_X4_readFactor_X4_readFactor_r1 _ (wm_4 (wm_2 (wm_1 wm_h)))), ?_⟩
          refine wm_c ⟨(wk_X4_readFactor_X4_readFactor_r1 _ (wm_8 wm_h)), ?_⟩
          refine wm_c ⟨(wk_X4_readFactor_X4_readFactor_r4 _ (wm_16 wm_h)), ?_⟩
          refine wm_c ⟨(wk_X4_readFactor_X4_readFactor_r4 _ (wm_16 (wm_1 wm_h))), ?_⟩
          refine wm_c ⟨(wk_X4_readFactor_X4_readFactor_r4 _ (wm_16 (wm_2 wm_h))), ?_⟩
          refine wm_c ⟨(wk_X4_readFactor_X4_readFactor_r4 _ (wm_16 (wm_2 (wm_1 wm_h)))), ?_⟩
          refine wm_c ⟨(wk_X4_readFactor_X4_readFactor_r1 _ (wm_16 (wm_1 wm_h))), ?_⟩
          refine wm_c ⟨(wk_X4_readFactor_X4_readFactor_r4 _ (wm_16 (wm_4 wm_h))), ?_⟩
          refine wm_c ⟨(wk_X4_readFactor_X4_readFactor_r4 _ (wm_16 (wm_4 (wm_1 wm_h)))), ?_⟩
          refine wm_c ⟨(wk_X4_readFactor_X4_readFactor_r4 _ (wm_16 (wm_4 (wm_2 wm_h)))), ?_⟩
          refine wm_c ⟨(wk_X4_readFactor_X4_readFactor_r4 _ (wm_16 (wm_4 (wm_2 (wm_1 wm_h))))), ?_⟩
          refine wm_c ⟨(wk_X4_readFactor_X4_readFactor_r5 _ wm_h), ?_⟩
          exact wm_n
        · refine wm_a ⟨?_, ?_⟩
          · unfold wsX4_readBracket_r2
            refine wm_c ⟨(wk_X4_readFactor_X4_readFactor_r5 _ (wm_1 wm_h)), ?_⟩
            refine wm_c ⟨(wk_X4_readFactor_X4_readFactor_r5 _ (wm_2 wm_h)), ?_⟩
            refine wm_c ⟨(wk_X4_readFactor_X4_readFactor_r5 _ (wm_2 (wm_1 wm_h))), ?_⟩
            refine wm_c ⟨(wk_X4_readFactor_X4_readFactor_r5 _ (wm_4 wm_h)), ?_⟩
            refine wm_c ⟨(wk_X4_readFactor_X4_readFactor_r5 _ (wm_4 (wm_1 wm_h))), ?_⟩
            refine wm_c ⟨(wk_X4_readFactor_X4_readFactor_r5 _ (wm_4 (wm_2 wm_h))), ?_⟩
            refine wm_c ⟨(wk_X4_readFactor_X4_readFactor_r5 _ (wm_4 (wm_2 (wm_1 wm_h)))), ?_⟩
            refine wm_c ⟨(wk_X4_readFactor_X4_readFactor_r3 _ (wm_2 (wm_1 wm_h))), ?_⟩
            refine wm_c ⟨(wk_X4_readFactor_X4_readFactor_r3 _ (wm_4 wm_h)), ?_⟩
            refine wm_c ⟨(wk_X4_readFactor_X4_readFactor_r2 _ (wm_1 wm_h)), ?_⟩
            refine wm_c ⟨(wk_X4_readFactor_X4_readFactor_r3 _ (wm_4 (wm_1 wm_h))), ?_⟩
            refine wm_c ⟨(wk_X4_readFactor_X4_readFactor_r3 _ (wm_4 (wm_2 wm_h))), ?_⟩
            refine wm_c ⟨(wk_X4_readFactor_X4_readFactor_r3 _ (wm_4 (wm_2 (wm_1 wm_h)))), ?_⟩
            refine wm_c ⟨(wk_X4_readFactor_X4_readFactor_r3 _ (wm_8 wm_h)), ?_⟩
            refine wm_c ⟨(wk_X4_readFactor_X4_readFactor_r3 _ (wm_8 (wm_1 wm_h))), ?_⟩
            refine wm_c ⟨(wk_X4_readFactor_X4_readFactor_r5 _ (wm_8 wm_h)), ?_⟩
            refine wm_c ⟨(wk_X4_readFactor_X4_readFactor_r5 _ (wm_8 (wm_1 wm_h))), ?_⟩
            refine wm_c ⟨(wk_X4_readFactor_X4_readFactor_r5 _ (wm_8 (wm_2 wm_h))), ?_⟩
            refine wm_c ⟨(wk_X4_readFactor_X4_readFactor_r5 _ (wm_8 (wm_2 (wm_1 wm_h)))), ?_⟩
            refine wm_c ⟨(wk_X4_readFactor_X4_readFactor_r2 _ (wm_16 (wm_2 wm_h))), ?_⟩
            refine wm_c ⟨(wk_X4_readFactor_X4_readFactor_r2 _ (wm_16 (wm_2 (wm_1 wm_h)))), ?_⟩
            refine wm_c ⟨(wk_X4_readFactor_X4_readFactor_r5 _ (wm_8 (wm_4 wm_h))), ?_⟩
            refine wm_c ⟨(wk_X4_readFactor_X4_readFactor_r2 _ (wm_16 (wm_4 (wm_2 wm_h)))), ?_⟩
            refine wm_c ⟨(wk_X4_readFactor_X4_readFactor_r2 _ (wm_16 (wm_4 (wm_2 (wm_1 wm_h))))), ?_⟩
            exact wm_n
          · refine wm_a ⟨?_, ?_⟩
            · unfold wsX4_readBracket_r3
              refine wm_c ⟨(wk_X4_readFactor_X4_readFactor_r3 _ wm_h), ?_⟩
              refine wm_c ⟨(wk_X4_readFactor_X4_readFactor_r3 _ (wm_1 wm_h)), ?_⟩
              refine wm_c ⟨(wk_X4_readFactor_X4_readFactor_r3 _ (wm_16 (wm_4 (wm_2 (wm_1 wm_h))))), ?_⟩
              refine wm_c ⟨(wk_X4_readFactor_X4_readFactor_r4 _ wm_h), ?_⟩
              refine wm_c ⟨(wk_X4_readFactor_X4_readFactor_r4 _ (wm_1 wm_h)), ?_⟩
              refine wm_c ⟨(wk_X4_readFactor_X4_readFactor_r4 _ (wm_2 wm_h)), ?_⟩
              refine wm_c ⟨(wk_X4_readFactor_X4_readFactor_r4 _ (wm_2 (wm_1 wm_h))), ?_⟩
              refine wm_c ⟨(wk_X4_readFactor_X4_readFactor_r2 _ (wm_16 (wm_4 wm_h))), ?_⟩
              refine wm_c ⟨(wk_X4_readFactor_X4_readFactor_r4 _ (wm_4 wm_h)), ?_⟩
              refine wm_c ⟨(wk_X4_readFactor_X4_readFactor_r3 _ (wm_2 wm_h)), ?_⟩
              refine wm_c ⟨(wk_X4_readFactor_X4_readFactor_r1 _ (wm_8 (wm_4 (wm_1 wm_h)))), ?_⟩
              refine wm_c ⟨(wk_X4_readFactor_X4_readFactor_r1 _ (wm_8 (wm_4 (wm_2 wm_h)))), ?_⟩
              refine wm_c ⟨(wk_X4_readFactor_X4_readFactor_r1 _ (wm_8 (wm_4 (wm_2 (wm_1 wm_h))))), ?_⟩
              refine wm_c ⟨(wk_X4_readFactor_X4_readFactor_r1 _ (wm_16 wm_h)), ?_⟩
              refine wm_c ⟨(wk_X4_readFactor_X4_readFactor_r3 _ (wm_16 (wm_2 (wm_1 wm_h)))), ?_⟩
              refine wm_c ⟨(wk_X4_readFactor_X4_readFactor_r3 _ (wm_16 (wm_4 wm_h))), ?_⟩
              refine wm_c ⟨(wk_X4_readFactor_X4_readFactor_r3 _ (wm_16 (wm_4 (wm_1 wm_h)))), ?_⟩
              refine wm_c ⟨(wk_X4_readFactor_X4_readFactor_r3 _ (wm_16 (wm_4 (wm_2 wm_h)))), ?_⟩
              refine wm_c ⟨wm_h, ?_⟩
              refine wm_c ⟨(wk_X4_readFactor_X4_readFactor_r1 _ (wm_8 (wm_1 wm_h))), ?_⟩
              refine wm_c ⟨(wk_X4_readFactor_X4_readFactor_r1 _ (wm_8 (wm_2 wm_h))), ?_⟩
              refine wm_c ⟨(wk_X4_readFactor_X4_readFactor_r1 _ (wm_8 (wm_2 (wm_1 wm_h)))), ?_⟩
              refine wm_c ⟨(wk_X4_readFactor_X4_readFactor_r1 _ (wm_8 (wm_4 wm_h))), ?_⟩
              refine wm_c ⟨(wk_X4_readFactor_X4_readFactor_r1 _ (wm_16 (wm_2 wm_h))), ?_⟩
              exact wm_n
            · refine wm_a ⟨?_, ?_⟩
              · unfold wsX4_readBracket_r4
                refine wm_c ⟨(wk_X4_readFactor_X4_readFactor_r1 _ (wm_16 (wm_2 (wm_1 wm_h)))), ?_⟩
                refine wm_c ⟨(wk_X4_readFactor_X4_readFactor_r1 _ (wm_16 (wm_4 wm_h))), ?_⟩
                refine wm_c ⟨(wk_X4_readFactor_X4_readFactor_r1 _ (wm_16 (wm_4 (wm_1 wm_h)))), ?_⟩
                refine wm_c ⟨(wk_X4_readFactor_X4_readFactor_r1 _ (wm_16 (wm_4 (wm_2 wm_h)))), ?_⟩
                refine wm_c ⟨(wk_X4_readFactor_X4_readFactor_r1 _ (wm_16 (wm_4 (wm_2 (wm_1 wm_h))))), ?_⟩
                refine wm_c ⟨(wk_X4_readFactor_X4_readFactor_r2 _ wm_h), ?_⟩
                refine wm_c ⟨(wk_X4_readFactor_X4_readFactor_r2 _ (wm_2 wm_h)), ?_⟩
                refine wm_c ⟨(wk_X4_readFactor_X4_readFactor_r2 _ (wm_2 (wm_1 wm_h))), ?_⟩
                refine wm_c ⟨(wk_X4_readFactor_X4_readFactor_r2 _ (wm_4 wm_h)), ?_⟩
                refine wm_c ⟨(wk_X4_readFactor_X4_readFactor_r2 _ (wm_4 (wm_1 wm_h))), ?_⟩
                refine wm_c ⟨(wk_X4_readFactor_X4_readFactor_r2 _ (wm_4 (wm_2 wm_h))), ?_⟩
                refine wm_c ⟨(wk_X4_readFactor_X4_readFactor_r2 _ (wm_4 (wm_2 (wm_1 wm_h)))), ?_⟩
                refine wm_c ⟨(wk_X4_readFactor_X4_readFactor_r2 _ (wm_8 wm_h)), ?_⟩
                refine wm_c ⟨(wk_X4_readFactor_X4_readFactor_r2 _ (wm_8 (wm_1 wm_h))), ?_⟩
                refine wm_c ⟨(wk_X4_readFactor_X4_readFactor_r2 _ (wm_8 (wm_2 wm_h))), ?_⟩
                refine wm_c ⟨(wk_X4_readFactor_X4_readFactor_r2 _ (wm_8 (wm_2 (wm_1 wm_h)))), ?_⟩
                refine wm_c ⟨(wk_X4_readFactor_X4_readFactor_r2 _ (wm_8 (wm_4 wm_h))), ?_⟩
                refine wm_c ⟨(wk_X4_readFactor_X4_readFactor_r2 _ (wm_8 (wm_4 (wm_1 wm_h)))), ?_⟩
                refine wm_c ⟨(wk_X4_readFactor_X4_readFactor_r2 _ (wm_8 (wm_4 (wm_2 wm_h)))), ?_⟩
                refine wm_c ⟨(wk_X4_readFactor_X4_readFactor_r2 _ (wm_8 (wm_4 (wm_2 (wm_1 wm_h))))), ?_⟩
                refine wm_c ⟨(wk_X4_readFactor_X4_readFactor_r2 _ (wm_16 wm_h)), ?_⟩
                refine wm_c ⟨(wk_X4_readFactor_X4_readFactor_r2 _ (wm_16 (wm_1 wm_h))), ?_⟩
                refine wm_c ⟨(wk_X4_readFactor_X4_readFactor_r2 _ (wm_16 (wm_4 (wm_1 wm_h)))), ?_⟩
                refine wm_c ⟨(wk_X4_readFactor_X4_readFactor_r3 _ (wm_8 (wm_2 wm_h))), ?_⟩
                exact wm_n
              · refine wm_a ⟨?_, ?_⟩
                · unfold wsX4_readBracket_r5
                  refine wm_c ⟨(wk_X4_readFactor_X4_readFactor_r3 _ (wm_8 (wm_2 (wm_1 wm_h)))), ?_⟩
                  refine wm_c ⟨(wk_X4_readFactor_X4_readFactor_r3 _ (wm_8 (wm_4 wm_h))), ?_⟩
                  refine wm_c ⟨(wk_X4_readFactor_X4_readFactor_r3 _ (wm_8 (wm_4 (wm_1 wm_h)))), ?_⟩
                  refine wm_c ⟨(wk_X4_readFactor_X4_readFactor_r3 _ (wm_8 (wm_4 (wm_2 (wm_1 wm_h))))), ?_⟩
                  refine wm_c ⟨(wk_X4_readFactor_X4_readFactor_r3 _ (wm_16 wm_h)), ?_⟩
                  refine wm_c ⟨(wk_X4_readFactor_X4_readFactor_r3 _ (wm_16 (wm_1 wm_h))), ?_⟩
                  refine wm_c ⟨(wk_X4_readFactor_X4_readFactor_r3 _ (wm_16 (wm_2 wm_h))), ?_⟩
                  refine wm_c ⟨(wk_X4_readFactor_X4_readFactor_r4 _ (wm_4 (wm_1 wm_h))), ?_⟩
                  refine wm_c ⟨(wk_X4_readFactor_X4_readFactor_r4 _ (wm_4 (wm_2 wm_h))), ?_⟩
                  refine wm_c ⟨(wk_X4_readFactor_X4_readFactor_r4 _ (wm_4 (wm_2 (wm_1 wm_h)))), ?_⟩
                  refine wm_c ⟨(wk_X4_readFactor_X4_readFactor_r4 _ (wm_8 wm_h)), ?_⟩
                  refine wm_c ⟨(wk_X4_readFactor_X4_readFactor_r4 _ (wm_8 (wm_1 wm_h))), ?_⟩
                  refine wm_c ⟨(wk_X4_readFactor_X4_readFactor_r4 _ (wm_8 (wm_2 wm_h))), ?_⟩
                  refine wm_c ⟨(wk_X4_readFactor_X4_readFactor_r5 _ (wm_8 (wm_4 (wm_1 wm_h)))), ?_⟩
                  refine wm_c ⟨(wk_X4_readFactor_X4_readFactor_r5 _ (wm_8 (wm_4 (wm_2 wm_h)))), ?_⟩
                  refine wm_c ⟨(wk_X4_readFactor_X4_readFactor_r5 _ (wm_8 (wm_4 (wm_2 (wm_1 wm_h))))), ?_⟩
                  refine wm_c ⟨(wk_X4_readFactor_X4_readFactor_r5 _ (wm_16 wm_h)), ?_⟩
                  refine wm_c ⟨(wk_X4_readFactor_X4_readFactor_r5 _ (wm_16 (wm_1 wm_h))), ?_⟩
                  refine wm_c ⟨(wk_X4_readFactor_X4_readFactor_r5 _ (wm_16 (wm_2 wm_h))), ?_⟩
                  refine wm_c ⟨(wk_X4_readFactor_X4_readFactor_r5 _ (wm_16 (wm_2 (wm_1 wm_h)))), ?_⟩
                  refine wm_c ⟨(wk_X4_readFactor_X4_readFactor_r5 _ (wm_16 (wm_4 wm_h))), ?_⟩
                  refine wm_c ⟨(wk_X4_readFactor_X4_readFactor_r5 _ (wm_16 (wm_4 (wm_1 wm_h)))), ?_⟩
                  refine wm_c ⟨(wk_X4_readFactor_X4_readFactor_r5 _ (wm_16 (wm_4 (wm_2 wm_h)))), ?_⟩
                  refine wm_c ⟨(wk_X4_readFactor_X4_readFactor_r5 _ (wm_16 (wm_4 (wm_2 (wm_1 wm_h))))), ?_⟩
                  exact wm_n
                · refine wm_a ⟨?_, ?_⟩
                  · unfold wsX4_readBracket_r6
                    refine wm_c ⟨(wk_X4_readFactor_X4_readFactor_r6 _ wm_h), ?_⟩
                    refine wm_c ⟨(wk_X4_readFactor_X4_readFactor_r6 _ (wm_1 wm_h)), ?_⟩
                    refine wm_c ⟨(wk_X4_readFactor_X4_readFactor_r6 _ (wm_2 wm_h)), ?_⟩
                    refine wm_c ⟨(wk_X4_readFactor_X4_readFactor_r6 _ (wm_2 (wm_1 wm_h))), ?_⟩
                    refine wm_c ⟨(wk_X4_readFactor_X4_readFactor_r6 _ (wm_4 wm_h)), ?_⟩
                    refine wm_c ⟨(wk_X4_readFactor_X4_readFactor_r6 _ (wm_4 (wm_1 wm_h))), ?_⟩
                    refine wm_c ⟨(wk_X4_readFactor_X4_readFactor_r6 _ (wm_4 (wm_2 wm_h))), ?_⟩
                    refine wm_c ⟨(wk_X4_readFactor_X4_readFactor_r6 _ (wm_4 (wm_2 (wm_1 wm_h)))), ?_⟩
                    refine wm_c ⟨(wk_X4_readFactor_X4_readFactor_r6 _ (wm_8 wm_h)), ?_⟩
                    refine wm_c ⟨(wk_X4_readFactor_X4_readFactor_r6 _ (wm_8 (wm_1 wm_h))), ?_⟩
                    refine wm_c ⟨(wk_X4_readFactor_X4_readFactor_r6 _ (wm_8 (wm_2 wm_h))), ?_⟩
                    refine wm_c ⟨(wk_X4_readFactor_X4_readFactor_r6 _ (wm_8 (wm_2 (wm_1 wm_h)))), ?_⟩
                    refine wm_c ⟨(wk_X4_readFactor_X4_readFactor_r6 _ (wm_8 (wm_4 wm_h))), ?_⟩
                    refine wm_c ⟨(wk_X4_readFactor_X4_readFactor_r6 _ (wm_8 (wm_4 (wm_1 wm_h)))), ?_⟩
                    refine wm_c ⟨(wk_X4_readFactor_X4_readFactor_r6 _ (wm_8 (wm_4 (wm_2 wm_h)))), ?_⟩
                    refine wm_c ⟨(wk_X4_readFactor_X4_readFactor_r6 _ (wm_8 (wm_4 (wm_2 (wm_1 wm_h))))), ?_⟩
                    refine wm_c ⟨(wk_X4_readFactor_X4_readFactor_r6 _ (wm_16 wm_h)), ?_⟩
                    refine wm_c ⟨(wk_X4_readFactor_X4_readFactor_r6 _ (wm_16 (wm_1 wm_h))), ?_⟩
                    refine wm_c ⟨(wk_X4_readFactor_X4_readFactor_r6 _ (wm_16 (wm_2 wm_h))), ?_⟩
                    refine wm_c ⟨(wk_X4_readFactor_X4_readFactor_r6 _ (wm_16 (wm_2 (wm_1 wm_h)))), ?_⟩
                    refine wm_c ⟨(wk_X4_readFactor_X4_readFactor_r6 _ (wm_16 (wm_4 wm_h))), ?_⟩
                    refine wm_c ⟨(wk_X4_readFactor_X4_readFactor_r6 _ (wm_16 (wm_4 (wm_1 wm_h)))), ?_⟩
                    refine wm_c ⟨(wk_X4_readFactor_X4_readFactor_r6 _ (wm_16 (wm_4 (wm_2 wm_h)))), ?_⟩
                    refine wm_c ⟨(wk_X4_readFactor_X4_readFactor_r6 _ (wm_16 (wm_4 (wm_2 (wm_1 wm_h))))), ?_⟩
                    exact wm_n
                  · unfold wsX4_readBracket_r7
                    refine wm_c ⟨(wk_X4_readFactor_X4_readFactor_r7 _ wm_h), ?_⟩
                    refine wm_c ⟨(wk_X4_readFactor_X4_readFactor_r7 _ (wm_1 wm_h)), ?_⟩
                    refine wm_c ⟨(wk_X4_readFactor_X4_readFactor_r7 _ (wm_2 wm_h)), ?_⟩
                    refine wm_c ⟨(wk_X4_readFactor_X4_readFactor_r7 _ (wm_2 (wm_1 wm_h))), ?_⟩
                    refine wm_c ⟨(wk_X4_readFactor_X4_readFactor_r7 _ (wm_4 wm_h)), ?_⟩
                    refine wm_c ⟨(wk_X4_readFactor_X4_readFactor_r7 _ (wm_4 (wm_1 wm_h))), ?_⟩
                    refine wm_c ⟨(wk_X4_readFactor_X4_readFactor_r7 _ (wm_4 (wm_2 wm_h))), ?_⟩
                    refine wm_c ⟨(wk_X4_readFactor_X4_readFactor_r7 _ (wm_4 (wm_2 (wm_1 wm_h)))), ?_⟩
                    refine wm_c ⟨(wk_X4_readFactor_X4_readFactor_r7 _ (wm_8 wm_h)), ?_⟩
                    refine wm_c ⟨(wk_X4_readFactor_X4_readFactor_r7 _ (wm_8 (wm_1 wm_h))), ?_⟩
                    refine wm_c ⟨(wk_X4_readFactor_X4_readFactor_r7 _ (wm_8 (wm_2 wm_h))), ?_⟩
                    refine wm_c ⟨(wk_X4_readFactor_X4_readFactor_r7 _ (wm_8 (wm_2 (wm_1 wm_h)))), ?_⟩
                    refine wm_c ⟨(wk_X4_readFactor_X4_readFactor_r7 _ (wm_8 (wm_4 wm_h))), ?_⟩
                    refine wm_c ⟨(wk_X4_readFactor_X4_readFactor_r7 _ (wm_8 (wm_4 (wm_1 wm_h)))), ?_⟩
                    exact wm_n
      · exact wk_X4_readFactor_X40
    · exact wk_X4_readFactor_X00
  · exact wk_X4_readFactor_X60
set_option maxRecDepth 20000 in
theorem gX4_readFactor_X4_readBracket : GoodIn wsX4_readFactor (wsV RX4 124 RX4 yX4_readBracket wsX4_readBracket) := by
  refine goodIn_app (goodIn_sub ?_ ?_) ggX4_readFactor_X4_readBracket
  · exact wm_c ⟨(wk_X4_readFactor_X4_readFactor_r4 _ (wm_4 (wm_1 wm_h))), wm_c ⟨(wk_X4_readFactor_X4_readFactor_r4 _ (wm_4 (wm_2 wm_h))), wm_c ⟨(wk_X4_readFactor_X4_readFactor_r4 _ (wm_4 (wm_2 (wm_1 wm_h)))), wm_c ⟨(wk_X4_readFactor_X4_readFactor_r1 _ (wm_4 (wm_1 wm_h))), wm_n⟩⟩⟩⟩
  · decide +kernel
set_option maxRecDepth 20000 in
theorem ggX4_readFactor_X4_readRound : GoodIn wsX4_readFactor wsX4_readRound := by
  refine goodIn_sub ?_ gd_X4_readRound
  unfold wsX4_readRound
  refine wm_c ⟨(wk_X4_readFactor_X4_readFactor_r5 _ (wm_8 (wm_4 (wm_1 wm_h)))), ?_⟩
  refine wm_a ⟨?_, ?_⟩
  · refine wm_a ⟨?_, ?_⟩
    · refine wm_a ⟨?_, ?_⟩
      · refine wm_a ⟨?_, ?_⟩
        · unfold wsX4_readRound_r1
          refine wm_c ⟨(wk_X4_readFactor_X4_readFactor_r1 _ (wm_1 wm_h)), ?_⟩
          refine wm_c ⟨(wk_X4_readFactor_X4_readFactor_r1 _ wm_h), ?_⟩
          refine wm_c ⟨(wk_X4_readFactor_X4_readFactor_r5 _ (wm_8 (wm_4 (wm_2 wm_h)))), ?_⟩
          refine wm_c ⟨(wk_X4_readFactor_X4_readFactor_r1 _ (wm_2 wm_h)), ?_⟩
          refine wm_c ⟨(wk_X4_readFactor_X4_readFactor_r1 _ (wm_2 (wm_1 wm_h))), ?_⟩
          refine wm_c ⟨(wk_X4_readFactor_X4_readFactor_r1 _ (wm_4 wm_h)), ?_⟩
          refine wm_c ⟨(wk_X4_readFactor_X4_readFactor_r1 _ (wm_4 (wm_1 wm_h))), ?_⟩
          refine wm_c ⟨(wk_X4_readFactor_X4_readFactor_r1 _ (wm_4 (wm_2 wm_h))), ?_⟩
          refine wm_c ⟨(wk_X4_readFactor_X4_readFactor_r1 _ (wm_4 (wm_2 (wm_1 wm_h)))), ?_⟩
          refine wm_c ⟨(wk_X4_readFactor_X4_readFactor_r1 _ (wm_8 wm_h)), ?_⟩
          refine wm_c ⟨(wk_X4_readFactor_X4_readFactor_r4 _ (wm_8 (wm_4 wm_h))), ?_⟩
          refine wm_c ⟨(wk_X4_readFactor_X4_readFactor_r4 _ (wm_8 (wm_4 (wm_1 wm_h)))), ?_⟩
          refine wm_c ⟨(wk_X4_readFactor_X4_readFactor_r4 _ (wm_8 (wm_4 (wm_2 wm_h)))), ?_⟩
          refine wm_c ⟨(wk_X4_readFactor_X4_readFactor_r4 _ (wm_8 (wm_4 (wm_2 (wm_1 wm_h))))), ?_⟩
          refine wm_c ⟨(wk_X4_readFactor_X4_readFactor_r3 _ (wm_8 (wm_4 (wm_2 wm_h)))), ?_⟩
          refine wm_c ⟨(wk_X4_readFactor_X4_readFactor_r4 _ (wm_16 wm_h)), ?_⟩
          refine wm_c ⟨(wk_X4_readFactor_X4_readFactor_r4 _ (wm_16 (wm_1 wm_h))), ?_⟩
          refine wm_c ⟨(wk_X4_readFactor_X4_readFactor_r4 _ (wm_16 (wm_2 wm_h))), ?_⟩
          refine wm_c ⟨(wk_X4_readFactor_X4_readFactor_r4 _ (wm_16 (wm_2 (wm_1 wm_h)))), ?_⟩
          refine wm_c ⟨(wk_X4_readFactor_X4_readFactor_r1 _ (wm_16 (wm_1 wm_h))), ?_⟩
          refine wm_c ⟨(wk_X4_readFactor_X4_readFactor_r4 _ (wm_16 (wm_4 wm_h))), ?_⟩
          refine wm_c ⟨(wk_X4_readFactor_X4_readFactor_r4 _ (wm_16 (wm_4 (wm_1 wm_h)))), ?_⟩
          refine wm_c ⟨(wk_X4_readFactor_X4_readFactor_r4 _ (wm_16 (wm_4 (wm_2 wm_h)))), ?_⟩
          refine wm_c ⟨(wk_X4_readFactor_X4_readFactor_r4 _ (wm_16 (wm_4 (wm_2 (wm_1 wm_h))))), ?_⟩
          exact wm_n
        · refine wm_a ⟨?_, ?_⟩
          · unfold wsX4_readRound_r2
            refine wm_c ⟨(wk_X4_readFactor_X4_readFactor_r5 _ wm_h), ?_⟩
            refine wm_c ⟨(wk_X4_readFactor_X4_readFactor_r5 _ (wm_1 wm_h)), ?_⟩
            refine wm_c ⟨(wk_X4_readFactor_X4_readFactor_r5 _ (wm_2 wm_h)), ?_⟩
            refine wm_c ⟨(wk_X4_readFactor_X4_readFactor_r5 _ (wm_8 (wm_4 (wm_2 (wm_1 wm_h))))), ?_⟩
            refine wm_c ⟨(wk_X4_readFactor_X4_readFactor_r5 _ (wm_16 wm_h)), ?_⟩
            refine wm_c ⟨(wk_X4_readFactor_X4_readFactor_r5 _ (wm_16 (wm_1 wm_h))), ?_⟩
            refine wm_c ⟨(wk_X4_readFactor_X4_readFactor_r2 _ (wm_1 wm_h)), ?_⟩
            refine wm_c ⟨(wk_X4_readFactor_X4_readFactor_r5 _ (wm_16 (wm_2 wm_h))), ?_⟩
            refine wm_c ⟨(wk_X4_readFactor_X4_readFactor_r5 _ (wm_16 (wm_2 (wm_1 wm_h)))), ?_⟩
            refine wm_c ⟨(wk_X4_readFactor_X4_readFactor_r5 _ (wm_16 (wm_4 wm_h))), ?_⟩
            refine wm_c ⟨(wk_X4_readFactor_X4_readFactor_r2 _ (wm_16 (wm_2 (wm_1 wm_h)))), ?_⟩
            refine wm_c ⟨(wk_X4_readFactor_X4_readFactor_r5 _ (wm_16 (wm_4 (wm_1 wm_h)))), ?_⟩
            refine wm_c ⟨(wk_X4_readFactor_X4_readFactor_r5 _ (wm_16 (wm_4 (wm_2 wm_h)))), ?_⟩
            refine wm_c ⟨(wk_X4_readFactor_X4_readFactor_r5 _ (wm_16 (wm_4 (wm_2 (wm_1 wm_h))))), ?_⟩
            refine wm_c ⟨(wk_X4_readFactor_X4_readFactor_r6 _ wm_h), ?_⟩
            refine wm_c ⟨(wk_X4_readFactor_X4_readFactor_r6 _ (wm_1 wm_h)), ?_⟩
            refine wm_c ⟨(wk_X4_readFactor_X4_readFactor_r2 _ (wm_16 (wm_4 (wm_2 wm_h)))), ?_⟩
            refine wm_c ⟨(wk_X4_readFactor_X4_readFactor_r2 _ (wm_16 (wm_4 (wm_2 (wm_1 wm_h))))), ?_⟩
            refine wm_c ⟨(wk_X4_readFactor_X4_readFactor_r3 _ wm_h), ?_⟩
            refine wm_c ⟨(wk_X4_readFactor_X4_readFactor_r3 _ (wm_1 wm_h)), ?_⟩
            refine wm_c ⟨(wk_X4_readFactor_X4_readFactor_r3 _ (wm_16 (wm_4 (wm_2 (wm_1 wm_h))))), ?_⟩
            refine wm_c ⟨(wk_X4_readFactor_X4_readFactor_r4 _ wm_h), ?_⟩
            refine wm_c ⟨(wk_X4_readFactor_X4_readFactor_r4 _ (wm_1 wm_h)), ?_⟩
            refine wm_c ⟨(wk_X4_readFactor_X4_readFactor_r4 _ (wm_2 wm_h)), ?_⟩
            exact wm_n
          · refine wm_a ⟨?_, ?_⟩
            · unfold wsX4_readRound_r3
              refine wm_c ⟨(wk_X4_readFactor_X4_readFactor_r4 _ (wm_2 (wm_1 wm_h))), ?_⟩
              refine wm_c ⟨(wk_X4_readFactor_X4_readFactor_r2 _ (wm_16 (wm_4 wm_h))), ?_⟩
              refine wm_c ⟨(wk_X4_readFactor_X4_readFactor_r4 _ (wm_4 wm_h)), ?_⟩
              refine wm_c ⟨(wk_X4_readFactor_X4_readFactor_r3 _ (wm_2 wm_h)), ?_⟩
              refine wm_c ⟨(wk_X4_readFactor_X4_readFactor_r3 _ (wm_2 (wm_1 wm_h))), ?_⟩
              refine wm_c ⟨(wk_X4_readFactor_X4_readFactor_r3 _ (wm_4 wm_h)), ?_⟩
              refine wm_c ⟨(wk_X4_readFactor_X4_readFactor_r3 _ (wm_4 (wm_1 wm_h))), ?_⟩
              refine wm_c ⟨(wk_X4_readFactor_X4_readFactor_r3 _ (wm_4 (wm_2 wm_h))), ?_⟩
              refine wm_c ⟨(wk_X4_readFactor_X4_readFactor_r3 _ (wm_4 (wm_2 (wm_1 wm_h)))), ?_⟩
              refine wm_c ⟨(wk_X4_readFactor_X4_readFactor_r3 _ (wm_8 wm_h)), ?_⟩
              refine wm_c ⟨(wk_X4_readFactor_X4_readFactor_r3 _ (wm_8 (wm_1 wm_h))), ?_⟩
              refine wm_c ⟨(wk_X4_readFactor_X4_readFactor_r6 _ (wm_2 wm_h)), ?_⟩
              refine wm_c ⟨(wk_X4_readFactor_X4_readFactor_r6 _ (wm_2 (wm_1 wm_h))), ?_⟩
              refine wm_c ⟨(wk_X4_readFactor_X4_readFactor_r6 _ (wm_4 wm_h)), ?_⟩
              refine wm_c ⟨(wk_X4_readFactor_X4_readFactor_r6 _ (wm_4 (wm_1 wm_h))), ?_⟩
              refine wm_c ⟨(wk_X4_readFactor_X4_readFactor_r6 _ (wm_4 (wm_2 wm_h))), ?_⟩
              refine wm_c ⟨(wk_X4_readFactor_X4_readFactor_r5 _ (wm_8 (wm_4 wm_h))), ?_⟩
              refine wm_c ⟨(wk_X4_readFactor_X4_readFactor_r1 _ (wm_8 (wm_4 (wm_1 wm_h)))), ?_⟩
              refine wm_c ⟨(wk_X4_readFactor_X4_readFactor_r1 _ (wm_8 (wm_4 (wm_2 wm_h)))), ?_⟩
              refine wm_c ⟨(wk_X4_readFactor_X4_readFactor_r1 _ (wm_8 (wm_4 (wm_2 (wm_1 wm_h))))), ?_⟩
              refine wm_c ⟨(wk_X4_readFactor_X4_readFactor_r1 _ (wm_16 wm_h)), ?_⟩
              refine wm_c ⟨(wk_X4_readFactor_X4_readFactor_r3 _ (wm_16 (wm_2 (wm_1 wm_h)))), ?_⟩
              refine wm_c ⟨(wk_X4_readFactor_X4_readFactor_r3 _ (wm_16 (wm_4 wm_h))), ?_⟩
              refine wm_c ⟨(wk_X4_readFactor_X4_readFactor_r3 _ (wm_16 (wm_4 (wm_1 wm_h)))), ?_⟩
              exact wm_n
            · refine wm_a ⟨?_, ?_⟩
              · unfold wsX4_readRound_r4
                refine wm_c ⟨(wk_X4_readFactor_X4_readFactor_r3 _ (wm_16 (wm_4 (wm_2 wm_h)))), ?_⟩
                refine wm_c ⟨(wk_X4_readFactor_X4_readFactor_r2 _ (wm_16 (wm_2 wm_h))), ?_⟩
                refine wm_c ⟨(wk_X4_readFactor_X4_readFactor_r4 _ (wm_8 (wm_2 (wm_1 wm_h)))), ?_⟩
                refine wm_c ⟨(wk_X4_readFactor_X4_readFactor_r5 _ (wm_2 (wm_1 wm_h))), ?_⟩
                refine wm_c ⟨(wk_X4_readFactor_X4_readFactor_r5 _ (wm_4 wm_h)), ?_⟩
                refine wm_c ⟨(wk_X4_readFactor_X4_readFactor_r5 _ (wm_4 (wm_1 wm_h))), ?_⟩
                refine wm_c ⟨(wk_X4_readFactor_X4_readFactor_r5 _ (wm_4 (wm_2 wm_h))), ?_⟩
                refine wm_c ⟨(wk_X4_readFactor_X4_readFactor_r5 _ (wm_4 (wm_2 (wm_1 wm_h)))), ?_⟩
                refine wm_c ⟨(wk_X4_readFactor_X4_readFactor_r5 _ (wm_8 wm_h)), ?_⟩
                refine wm_c ⟨(wk_X4_readFactor_X4_readFactor_r5 _ (wm_8 (wm_1 wm_h))), ?_⟩
                refine wm_c ⟨(wk_X4_readFactor_X4_readFactor_r5 _ (wm_8 (wm_2 wm_h))), ?_⟩
                refine wm_c ⟨(wk_X4_readFactor_X4_readFactor_r5 _ (wm_8 (wm_2 (wm_1 wm_h)))), ?_⟩
                refine wm_c ⟨wm_h, ?_⟩
                refine wm_c ⟨(wk_X4_readFactor_X4_readFactor_r1 _ (wm_8 (wm_1 wm_h))), ?_⟩
                refine wm_c ⟨(wk_X4_readFactor_X4_readFactor_r1 _ (wm_8 (wm_2 wm_h))), ?_⟩
                refine wm_c ⟨(wk_X4_readFactor_X4_readFactor_r1 _ (wm_8 (wm_2 (wm_1 wm_h)))), ?_⟩
                refine wm_c ⟨(wk_X4_readFactor_X4_readFactor_r1 _ (wm_8 (wm_4 wm_h))), ?_⟩
                refine wm_c ⟨(wk_X4_readFactor_X4_readFactor_r1 _ (wm_16 (wm_2 wm_h))), ?_⟩
                refine wm_c ⟨(wk_X4_readFactor_X4_readFactor_r1 _ (wm_16 (wm_2 (wm_1 wm_h)))), ?_⟩
                refine wm_c ⟨(wk_X4_readFactor_X4_readFactor_r1 _ (wm_16 (wm_4 wm_h))), ?_⟩
                refine wm_c ⟨(wk_X4_readFactor_X4_readFactor_r1 _ (wm_16 (wm_4 (wm_1 wm_h)))), ?_⟩
                refine wm_c ⟨(wk_X4_readFactor_X4_readFactor_r1 _ (wm_16 (wm_4 (wm_2 wm_h)))), ?_⟩
                refine wm_c ⟨(wk_X4_readFactor_X4_readFactor_r1 _ (wm_16 (wm_4 (wm_2 (wm_1 wm_h))))), ?_⟩
                refine wm_c ⟨(wk_X4_readFactor_X4_readFactor_r2 _ wm_h), ?_⟩
                exact wm_n
              · refine wm_a ⟨?_, ?_⟩
                · unfold wsX4_readRound_r5
                  refine wm_c ⟨(wk_X4_readFactor_X4_readFactor_r2 _ (wm_2 wm_h)), ?_⟩
                  refine wm_c ⟨(wk_X4_readFactor_X4_readFactor_r2 _ (wm_2 (wm_1 wm_h))), ?_⟩
                  refine wm_c ⟨(wk_X4_readFactor_X4_readFactor_r2 _ (wm_4 wm_h)), ?_⟩
                  refine wm_c ⟨(wk_X4_readFactor_X4_readFactor_r2 _ (wm_4 (wm_1 wm_h))), ?_⟩
                  refine wm_c ⟨(wk_X4_readFactor_X4_readFactor_r2 _ (wm_4 (wm_2 wm_h))), ?_⟩
                  refine wm_c ⟨(wk_X4_readFactor_X4_readFactor_r2 _ (wm_4 (wm_2 (wm_1 wm_h)))), ?_⟩
                  refine wm_c ⟨(wk_X4_readFactor_X4_readFactor_r2 _ (wm_8 wm_h)), ?_⟩
                  refine wm_c ⟨(wk_X4_readFactor_X4_readFactor_r2 _ (wm_8 (wm_1 wm_h))), ?_⟩
                  refine wm_c ⟨(wk_X4_readFactor_X4_readFactor_r2 _ (wm_8 (wm_2 wm_h))), ?_⟩
                  refine wm_c ⟨(wk_X4_readFactor_X4_readFactor_r2 _ (wm_8 (wm_2 (wm_1 wm_h)))), ?_⟩
                  refine wm_c ⟨(wk_X4_readFactor_X4_readFactor_r2 _ (wm_8 (wm_4 wm_h))), ?_⟩
                  refine wm_c ⟨(wk_X4_readFactor_X4_readFactor_r2 _ (wm_8 (wm_4 (wm_1 wm_h)))), ?_⟩
                  refine wm_c ⟨(wk_X4_readFactor_X4_readFactor_r2 _ (wm_8 (wm_4 (wm_2 wm_h)))), ?_⟩
                  refine wm_c ⟨(wk_X4_readFactor_X4_readFactor_r2 _ (wm_8 (wm_4 (wm_2 (wm_1 wm_h))))), ?_⟩
                  refine wm_c ⟨(wk_X4_readFactor_X4_readFactor_r2 _ (wm_16 wm_h)), ?_⟩
                  refine wm_c ⟨(wk_X4_readFactor_X4_readFactor_r2 _ (wm_16 (wm_1 wm_h))), ?_⟩
                  refine wm_c ⟨(wk_X4_readFactor_X4_readFactor_r2 _ (wm_16 (wm_4 (wm_1 wm_h)))), ?_⟩
                  refine wm_c ⟨(wk_X4_readFactor_X4_readFactor_r3 _ (wm_8 (wm_2 wm_h))), ?_⟩
                  refine wm_c ⟨(wk_X4_readFactor_X4_readFactor_r3 _ (wm_8 (wm_2 (wm_1 wm_h)))), ?_⟩
                  refine wm_c ⟨(wk_X4_readFactor_X4_readFactor_r3 _ (wm_8 (wm_4 wm_h))), ?_⟩
                  refine wm_c ⟨(wk_X4_readFactor_X4_readFactor_r3 _ (wm_8 (wm_4 (wm_1 wm_h)))), ?_⟩
                  refine wm_c ⟨(wk_X4_readFactor_X4_readFactor_r3 _ (wm_8 (wm_4 (wm_2 (wm_1 wm_h))))), ?_⟩
                  refine wm_c ⟨(wk_X4_readFactor_X4_readFactor_r3 _ (wm_16 wm_h)), ?_⟩
                  refine wm_c ⟨(wk_X4_readFactor_X4_readFactor_r3 _ (wm_16 (wm_1 wm_h))), ?_⟩
                  exact wm_n
                · refine wm_a ⟨?_, ?_⟩
                  · unfold wsX4_readRound_r6
                    refine wm_c ⟨(wk_X4_readFactor_X4_readFactor_r3 _ (wm_16 (wm_2 wm_h))), ?_⟩
                    refine wm_c ⟨(wk_X4_readFactor_X4_readFactor_r4 _ (wm_4 (wm_1 wm_h))), ?_⟩
                    refine wm_c ⟨(wk_X4_readFactor_X4_readFactor_r4 _ (wm_4 (wm_2 wm_h))), ?_⟩
                    refine wm_c ⟨(wk_X4_readFactor_X4_readFactor_r4 _ (wm_4 (wm_2 (wm_1 wm_h)))), ?_⟩
                    refine wm_c ⟨(wk_X4_readFactor_X4_readFactor_r4 _ (wm_8 wm_h)), ?_⟩
                    refine wm_c ⟨(wk_X4_readFactor_X4_readFactor_r4 _ (wm_8 (wm_1 wm_h))), ?_⟩
                    refine wm_c ⟨(wk_X4_readFactor_X4_readFactor_r4 _ (wm_8 (wm_2 wm_h))), ?_⟩
                    refine wm_c ⟨(wk_X4_readFactor_X4_readFactor_r6 _ (wm_4 (wm_2 (wm_1 wm_h)))), ?_⟩
                    refine wm_c ⟨(wk_X4_readFactor_X4_readFactor_r6 _ (wm_8 wm_h)), ?_⟩
                    refine wm_c ⟨(wk_X4_readFactor_X4_readFactor_r6 _ (wm_8 (wm_1 wm_h))), ?_⟩
                    refine wm_c ⟨(wk_X4_readFactor_X4_readFactor_r6 _ (wm_8 (wm_2 wm_h))), ?_⟩
                    refine wm_c ⟨(wk_X4_readFactor_X4_readFactor_r6 _ (wm_8 (wm_2 (wm_1 wm_h)))), ?_⟩
                    refine wm_c ⟨(wk_X4_readFactor_X4_readFactor_r6 _ (wm_8 (wm_4 wm_h))), ?_⟩
                    refine wm_c ⟨(wk_X4_readFactor_X4_readFactor_r6 _ (wm_8 (wm_4 (wm_1 wm_h)))), ?_⟩
                    refine wm_c ⟨(wk_X4_readFactor_X4_readFactor_r6 _ (wm_8 (wm_4 (wm_2 wm_h)))), ?_⟩
                    refine wm_c ⟨(wk_X4_readFactor_X4_readFactor_r6 _ (wm_8 (wm_4 (wm_2 (wm_1 wm_h))))), ?_⟩
                    refine wm_c ⟨(wk_X4_readFactor_X4_readFactor_r6 _ (wm_16 wm_h)), ?_⟩
                    refine wm_c ⟨(wk_X4_readFactor_X4_readFactor_r6 _ (wm_16 (wm_1 wm_h))), ?_⟩
                    refine wm_c ⟨(wk_X4_readFactor_X4_readFactor_r6 _ (wm_16 (wm_2 wm_h))), ?_⟩
                    refine wm_c ⟨(wk_X4_readFactor_X4_readFactor_r6 _ (wm_16 (wm_2 (wm_1 wm_h)))), ?_⟩
                    refine wm_c ⟨(wk_X4_readFactor_X4_readFactor_r6 _ (wm_16 (wm_4 wm_h))), ?_⟩
                    refine wm_c ⟨(wk_X4_readFactor_X4_readFactor_r6 _ (wm_16 (wm_4 (wm_1 wm_h)))), ?_⟩
                    refine wm_c ⟨(wk_X4_readFactor_X4_readFactor_r6 _ (wm_16 (wm_4 (wm_2 wm_h)))), ?_⟩
                    refine wm_c ⟨(wk_X4_readFactor_X4_readFactor_r6 _ (wm_16 (wm_4 (wm_2 (wm_1 wm_h))))), ?_⟩
                    exact wm_n
                  · unfold wsX4_readRound_r7
                    refine wm_c ⟨(wk_X4_readFactor_X4_readFactor_r7 _ wm_h), ?_⟩
                    refine wm_c ⟨(wk_X4_readFactor_X4_readFactor_r7 _ (wm_1 wm_h)), ?_⟩
                    refine wm_c ⟨(wk_X4_readFactor_X4_readFactor_r7 _ (wm_2 wm_h)), ?_⟩
                    refine wm_c ⟨(wk_X4_readFactor_X4_readFactor_r7 _ (wm_2 (wm_1 wm_h))), ?_⟩
                    refine wm_c ⟨(wk_X4_readFactor_X4_readFactor_r7 _ (wm_4 wm_h)), ?_⟩
                    refine wm_c ⟨(wk_X4_readFactor_X4_readFactor_r7 _ (wm_4 (wm_1 wm_h))), ?_⟩
                    refine wm_c ⟨(wk_X4_readFactor_X4_readFactor_r7 _ (wm_4 (wm_2 wm_h))), ?_⟩
                    refine wm_c ⟨(wk_X4_readFactor_X4_readFactor_r7 _ (wm_4 (wm_2 (wm_1 wm_h)))), ?_⟩
                    refine wm_c ⟨(wk_X4_readFactor_X4_readFactor_r7 _ (wm_8 wm_h)), ?_⟩
                    refine wm_c ⟨(wk_X4_readFactor_X4_readFactor_r7 _ (wm_8 (wm_1 wm_h))), ?_⟩
                    refine wm_c ⟨(wk_X4_readFactor_X4_readFactor_r7 _ (wm_8 (wm_2 wm_h))), ?_⟩
                    refine wm_c ⟨(wk_X4_readFactor_X4_readFactor_r7 _ (wm_8 (wm_2 (wm_1 wm_h)))), ?_⟩
                    refine wm_c ⟨(wk_X4_readFactor_X4_readFactor_r7 _ (wm_8 (wm_4 wm_h))), ?_⟩
                    refine wm_c ⟨(wk_X4_readFactor_X4_readFactor_r7 _ (wm_8 (wm_4 (wm_1 wm_h)))), ?_⟩
                    exact wm_n
      · exact wk_X4_readFactor_X40
    · exact wk_X4_readFactor_X00
  · exact wk_X4_readFactor_X60
set_option maxRecDepth 20000 in
theorem gX4_readFactor_X4_readRound : GoodIn wsX4_readFactor (wsV RX4 127 RX4 yX4_readRound wsX4_readRound) := by
  refine goodIn_app (goodIn_sub ?_ ?_) ggX4_readFactor_X4_readRound
  · exact wm_c ⟨(wk_X4_readFactor_X4_readFactor_r4 _ (wm_8 wm_h)), wm_c ⟨(wk_X4_readFactor_X4_readFactor_r4 _ (wm_8 (wm_1 wm_h))), wm_c ⟨(wk_X4_readFactor_X4_readFactor_r4 _ (wm_8 (wm_2 wm_h))), wm_c ⟨(wk_X4_readFactor_X4_readFactor_r1 _ (wm_4 (wm_1 wm_h))), wm_n⟩⟩⟩⟩
  · decide +kernel
theorem dX4_readFactor_0 : decode cX4_readFactor 0 = .ok (.aload_n 0, 1) := by decide +kernel
theorem dX4_readFactor_1 : decode cX4_readFactor 1 = .ok (.invokevirtual 77, 3) := by decide +kernel
theorem dX4_readFactor_4 : decode cX4_readFactor 4 = .ok (.istore_n 2, 1) := by decide +kernel
theorem dX4_readFactor_5 : decode cX4_readFactor 5 = .ok (.aload_n 0, 1) := by decide +kernel
theorem dX4_readFactor_6 : decode cX4_readFactor 6 = .ok (.iload_n 2, 1) := by decide +kernel
theorem dX4_readFactor_7 : decode cX4_readFactor 7 = .ok (.invokevirtual 95, 3) := by decide +kernel
theorem dX4_readFactor_10 : decode cX4_readFactor 10 = .ok (.ifCond .eq 22, 3) := by decide +kernel
theorem dX4_readFactor_13 : decode cX4_readFactor 13 = .ok (.aload_n 0, 1) := by decide +kernel
theorem dX4_readFactor_14 : decode cX4_readFactor 14 = .ok (.getfield 15, 3) := by decide +kernel
theorem dX4_readFactor_17 : decode cX4_readFactor 17 = .ok (.aload_n 0, 1) := by decide +kernel
theorem dX4_readFactor_18 : decode cX4_readFactor 18 = .ok (.iload_n 1, 1) := by decide +kernel
theorem dX4_readFactor_19 : decode cX4_readFactor 19 = .ok (.invokevirtual 70, 3) := by decide +kernel
theorem dX4_readFactor_22 : decode cX4_readFactor 22 = .ok (.aload_n 0, 1) := by decide +kernel
theorem dX4_readFactor_23 : decode cX4_readFactor 23 = .ok (.invokevirtual 98, 3) := by decide +kernel
theorem dX4_readFactor_26 : decode cX4_readFactor 26 = .ok (.invokevirtual 107, 3) := by decide +kernel
theorem dX4_readFactor_29 : decode cX4_readFactor 29 = .ok (.goto 83, 3) := by decide +kernel
theorem dX4_readFactor_32 : decode cX4_readFactor 32 = .ok (.aload_n 0, 1) := by decide +kernel
theorem dX4_readFactor_33 : decode cX4_readFactor 33 = .ok (.iload_n 2, 1) := by decide +kernel
theorem dX4_readFactor_34 : decode cX4_readFactor 34 = .ok (.invokevirtual 110, 3) := by decide +kernel
theorem dX4_readFactor_37 : decode cX4_readFactor 37 = .ok (.ifCond .eq 32, 3) := by decide +kernel
theorem dX4_readFactor_40 : decode cX4_readFactor 40 = .ok (.aload_n 0, 1) := by decide +kernel
theorem dX4_readFactor_41 : decode cX4_readFactor 41 = .ok (.dup, 1) := by decide +kernel
theorem dX4_readFactor_42 : decode cX4_readFactor 42 = .ok (.getfield 39, 3) := by decide +kernel
theorem dX4_readFactor_45 : decode cX4_readFactor 45 = .ok (.iconst 1, 1) := by decide +kernel
theorem dX4_readFactor_46 : decode cX4_readFactor 46 = .ok (.iadd, 1) := by decide +kernel
theorem dX4_readFactor_47 : decode cX4_readFactor 47 = .ok (.putfield 39, 3) := by decide +kernel
theorem dX4_readFactor_50 : decode cX4_readFactor 50 = .ok (.aload_n 0, 1) := by decide +kernel
theorem dX4_readFactor_51 : decode cX4_readFactor 51 = .ok (.getfield 15, 3) := by decide +kernel
theorem dX4_readFactor_54 : decode cX4_readFactor 54 = .ok (.aload_n 0, 1) := by decide +kernel
theorem dX4_readFactor_55 : decode cX4_readFactor 55 = .ok (.iload_n 1, 1) := by decide +kernel
theorem dX4_readFactor_56 : decode cX4_readFactor 56 = .ok (.invokevirtual 70, 3) := by decide +kernel
theorem dX4_readFactor_59 : decode cX4_readFactor 59 = .ok (.iload_n 2, 1) := by decide +kernel
theorem dX4_readFactor_60 : decode cX4_readFactor 60 = .ok (.bipush 97, 2) := by decide +kernel
theorem dX4_readFactor_62 : decode cX4_readFactor 62 = .ok (.isub, 1) := by decide +kernel
theorem dX4_readFactor_63 : decode cX4_readFactor 63 = .ok (.invokevirtual 118, 3) := by decide +kernel
theorem dX4_readFactor_66 : decode cX4_readFactor 66 = .ok (.goto 46, 3) := by decide +kernel
theorem dX4_readFactor_69 : decode cX4_readFactor 69 = .ok (.iload_n 2, 1) := by decide +kernel
theorem dX4_readFactor_70 : decode cX4_readFactor 70 = .ok (.bipush 114, 2) := by decide +kernel
theorem dX4_readFactor_72 : decode cX4_readFactor 72 = .ok (.if_icmp .ne 21, 3) := by decide +kernel
theorem dX4_readFactor_75 : decode cX4_readFactor 75 = .ok (.aload_n 0, 1) := by decide +kernel
theorem dX4_readFactor_76 : decode cX4_readFactor 76 = .ok (.dup, 1) := by decide +kernel
theorem dX4_readFactor_77 : decode cX4_readFactor 77 = .ok (.getfield 39, 3) := by decide +kernel
theorem dX4_readFactor_80 : decode cX4_readFactor 80 = .ok (.iconst 1, 1) := by decide +kernel
theorem dX4_readFactor_81 : decode cX4_readFactor 81 = .ok (.iadd, 1) := by decide +kernel
theorem dX4_readFactor_82 : decode cX4_readFactor 82 = .ok (.putfield 39, 3) := by decide +kernel
theorem dX4_readFactor_85 : decode cX4_readFactor 85 = .ok (.aload_n 0, 1) := by decide +kernel
theorem dX4_readFactor_86 : decode cX4_readFactor 86 = .ok (.iload_n 1, 1) := by decide +kernel
theorem dX4_readFactor_87 : decode cX4_readFactor 87 = .ok (.invokevirtual 121, 3) := by decide +kernel
theorem dX4_readFactor_90 : decode cX4_readFactor 90 = .ok (.goto 22, 3) := by decide +kernel
theorem dX4_readFactor_93 : decode cX4_readFactor 93 = .ok (.iload_n 2, 1) := by decide +kernel
theorem dX4_readFactor_94 : decode cX4_readFactor 94 = .ok (.bipush 91, 2) := by decide +kernel
theorem dX4_readFactor_96 : decode cX4_readFactor 96 = .ok (.if_icmp .ne 11, 3) := by decide +kernel
theorem dX4_readFactor_99 : decode cX4_readFactor 99 = .ok (.aload_n 0, 1) := by decide +kernel
theorem dX4_readFactor_100 : decode cX4_readFactor 100 = .ok (.iload_n 1, 1) := by decide +kernel
theorem dX4_readFactor_101 : decode cX4_readFactor 101 = .ok (.invokevirtual 124, 3) := by decide +kernel
theorem dX4_readFactor_104 : decode cX4_readFactor 104 = .ok (.goto 8, 3) := by decide +kernel
theorem dX4_readFactor_107 : decode cX4_readFactor 107 = .ok (.aload_n 0, 1) := by decide +kernel
theorem dX4_readFactor_108 : decode cX4_readFactor 108 = .ok (.iload_n 1, 1) := by decide +kernel
theorem dX4_readFactor_109 : decode cX4_readFactor 109 = .ok (.invokevirtual 127, 3) := by decide +kernel
theorem dX4_readFactor_112 : decode cX4_readFactor 112 = .ok (.return_, 1) := by decide +kernel
set_option maxRecDepth 20000 in
theorem ggX4_readNumber_X4_hand : GoodIn wsX4_readNumber wsX4_hand := by
  refine goodIn_sub ?_ gd_X4_hand
  unfold wsX4_hand
  refine wm_c ⟨(wm_1 (wm_l (wm_4 (wm_1 wm_h)))), ?_⟩
  refine wm_a ⟨?_, ?_⟩
  · refine wm_c ⟨(wm_1 (wm_l wm_h)), ?_⟩
    refine wm_c ⟨(wm_1 (wm_l (wm_4 (wm_2 wm_h)))), ?_⟩
    refine wm_c ⟨(wm_1 (wm_l (wm_4 (wm_2 (wm_1 wm_h))))), ?_⟩
    exact wm_n
  · exact wk_X4_readNumber_X40
set_option maxRecDepth 20000 in
theorem gX4_readNumber_X4_hand : GoodIn wsX4_readNumber (wsV RX4 77 RX4 yX4_hand wsX4_hand) := by
  refine goodIn_app (goodIn_sub ?_ ?_) ggX4_readNumber_X4_hand
  · exact wm_c ⟨(wm_1 (wm_l (wm_1 wm_h))), wm_c ⟨(wm_1 (wm_l (wm_2 wm_h))), wm_c ⟨(wm_1 (wm_l (wm_2 (wm_1 wm_h)))), wm_c ⟨(wm_1 (wm_l (wm_4 wm_h))), wm_n⟩⟩⟩⟩
  · decide +kernel
set_option maxRecDepth 20000 in
theorem ggX4_readNumber_X4_isDigit : GoodIn wsX4_readNumber wsX4_isDigit := by
  refine goodIn_sub ?_ gd_X4_isDigit
  unfold wsX4_isDigit
  refine wm_c ⟨(wm_1 (wm_l (wm_8 (wm_2 (wm_1 wm_h))))), ?_⟩
  exact wm_n
set_option maxRecDepth 20000 in
theorem gX4_readNumber_X4_isDigit : GoodIn wsX4_readNumber (wsV RX4 95 RX4 yX4_isDigit wsX4_isDigit) := by
  refine goodIn_app (goodIn_sub ?_ ?_) ggX4_readNumber_X4_isDigit
  · exact wm_c ⟨(wm_1 (wm_l (wm_8 wm_h))), wm_c ⟨(wm_1 (wm_l (wm_8 (wm_1 wm_h)))), wm_c ⟨(wm_1 (wm_l (wm_8 (wm_2 wm_h)))), wm_c ⟨(wm_1 (wm_l (wm_4 wm_h))), wm_n⟩⟩⟩⟩
  · decide +kernel
theorem dX4_readNumber_0 : decode cX4_readNumber 0 = .ok (.iconst 0, 1) := by decide +kernel
theorem dX4_readNumber_1 : decode cX4_readNumber 1 = .ok (.istore_n 1, 1) := by decide +kernel
theorem dX4_readNumber_2 : decode cX4_readNumber 2 = .ok (.iconst 0, 1) := by decide +kernel
theorem dX4_readNumber_3 : decode cX4_readNumber 3 = .ok (.istore_n 2, 1) := by decide +kernel
theorem dX4_readNumber_4 : decode cX4_readNumber 4 = .ok (.iload_n 2, 1) := by decide +kernel
theorem dX4_readNumber_5 : decode cX4_readNumber 5 = .ok (.iconst 4, 1) := by decide +kernel
theorem dX4_readNumber_6 : decode cX4_readNumber 6 = .ok (.if_icmp .ge 43, 3) := by decide +kernel
theorem dX4_readNumber_9 : decode cX4_readNumber 9 = .ok (.aload_n 0, 1) := by decide +kernel
theorem dX4_readNumber_10 : decode cX4_readNumber 10 = .ok (.aload_n 0, 1) := by decide +kernel
theorem dX4_readNumber_11 : decode cX4_readNumber 11 = .ok (.invokevirtual 77, 3) := by decide +kernel
theorem dX4_readNumber_14 : decode cX4_readNumber 14 = .ok (.invokevirtual 95, 3) := by decide +kernel
theorem dX4_readNumber_17 : decode cX4_readNumber 17 = .ok (.ifCond .eq 32, 3) := by decide +kernel
theorem dX4_readNumber_20 : decode cX4_readNumber 20 = .ok (.iload_n 1, 1) := by decide +kernel
theorem dX4_readNumber_21 : decode cX4_readNumber 21 = .ok (.bipush 10, 2) := by decide +kernel
theorem dX4_readNumber_23 : decode cX4_readNumber 23 = .ok (.imul, 1) := by decide +kernel
theorem dX4_readNumber_24 : decode cX4_readNumber 24 = .ok (.aload_n 0, 1) := by decide +kernel
theorem dX4_readNumber_25 : decode cX4_readNumber 25 = .ok (.invokevirtual 77, 3) := by decide +kernel
theorem dX4_readNumber_28 : decode cX4_readNumber 28 = .ok (.iadd, 1) := by decide +kernel
theorem dX4_readNumber_29 : decode cX4_readNumber 29 = .ok (.bipush 48, 2) := by decide +kernel
theorem dX4_readNumber_31 : decode cX4_readNumber 31 = .ok (.isub, 1) := by decide +kernel
theorem dX4_readNumber_32 : decode cX4_readNumber 32 = .ok (.istore_n 1, 1) := by decide +kernel
theorem dX4_readNumber_33 : decode cX4_readNumber 33 = .ok (.aload_n 0, 1) := by decide +kernel
theorem dX4_readNumber_34 : decode cX4_readNumber 34 = .ok (.dup, 1) := by decide +kernel
theorem dX4_readNumber_35 : decode cX4_readNumber 35 = .ok (.getfield 39, 3) := by decide +kernel
theorem dX4_readNumber_38 : decode cX4_readNumber 38 = .ok (.iconst 1, 1) := by decide +kernel
theorem dX4_readNumber_39 : decode cX4_readNumber 39 = .ok (.iadd, 1) := by decide +kernel
theorem dX4_readNumber_40 : decode cX4_readNumber 40 = .ok (.putfield 39, 3) := by decide +kernel
theorem dX4_readNumber_43 : decode cX4_readNumber 43 = .ok (.iinc 2 1, 3) := by decide +kernel
theorem dX4_readNumber_46 : decode cX4_readNumber 46 = .ok (.goto (-42), 3) := by decide +kernel
theorem dX4_readNumber_49 : decode cX4_readNumber 49 = .ok (.iload_n 1, 1) := by decide +kernel
theorem dX4_readNumber_50 : decode cX4_readNumber 50 = .ok (.ireturn, 1) := by decide +kernel
set_option maxRecDepth 20000 in
theorem ggX4_readSum_X4_hand : GoodIn wsX4_readSum wsX4_hand := by
  refine goodIn_sub ?_ gd_X4_hand
  unfold wsX4_hand
  refine wm_c ⟨(wk_X4_readSum_X4_readSum_r1 _ (wm_8 wm_h)), ?_⟩
  refine wm_a ⟨?_, ?_⟩
  · refine wm_c ⟨(wk_X4_readSum_X4_readSum_r1 _ wm_h), ?_⟩
    refine wm_c ⟨(wk_X4_readSum_X4_readSum_r1 _ (wm_8 (wm_1 wm_h))), ?_⟩
    refine wm_c ⟨(wk_X4_readSum_X4_readSum_r1 _ (wm_8 (wm_2 wm_h))), ?_⟩
    exact wm_n
  · exact wk_X4_readSum_X40
set_option maxRecDepth 20000 in
theorem gX4_readSum_X4_hand : GoodIn wsX4_readSum (wsV RX4 77 RX4 yX4_hand wsX4_hand) := by
  refine goodIn_app (goodIn_sub ?_ ?_) ggX4_readSum_X4_hand
  · exact wm_c ⟨(wk_X4_readSum_X4_readSum_r1 _ (wm_4 wm_h)), wm_c ⟨(wk_X4_readSum_X4_readSum_r1 _ (wm_4 (wm_1 wm_h))), wm_c ⟨(wk_X4_readSum_X4_readSum_r1 _ (wm_4 (wm_2 wm_h))), wm_c ⟨(wk_X4_readSum_X4_readSum_r1 _ (wm_4 (wm_2 (wm_1 wm_h)))), wm_n⟩⟩⟩⟩
  · decide +kernel
set_option maxRecDepth 20000 in
theorem ggX4_readSum_X7_noSum : GoodIn wsX4_readSum wsX7_noSum := by
  refine goodIn_sub ?_ gd_X7_noSum
  unfold wsX7_noSum
  refine wm_c ⟨(wk_X4_readSum_X4_readSum_r1 _ (wm_8 (wm_4 (wm_1 wm_h)))), ?_⟩
  exact wm_n
set_option maxRecDepth 20000 in
theorem gX4_readSum_X7_noSum_n130 : GoodIn wsX4_readSum (wsX7_noSum) := ggX4_readSum_X7_noSum
set_option maxRecDepth 20000 in
theorem ggX4_readSum_X4_termOf : GoodIn wsX4_readSum wsX4_termOf := by
  refine goodIn_sub ?_ gd_X4_termOf
  unfold wsX4_termOf
  refine wm_c ⟨(wk_X4_readSum_X4_readSum_r1 _ (wm_16 (wm_1 wm_h))), ?_⟩
  refine wm_a ⟨?_, ?_⟩
  · refine wm_c ⟨(wk_X4_readSum_X4_readSum_r1 _ (wm_16 (wm_2 wm_h))), ?_⟩
    exact wm_n
  · exact wk_X4_readSum_X40
set_option maxRecDepth 20000 in
theorem gX4_readSum_X4_termOf : GoodIn wsX4_readSum (wsV RX4 70 RX4 yX4_termOf wsX4_termOf) := by
  refine goodIn_app (goodIn_sub ?_ ?_) ggX4_readSum_X4_termOf
  · exact wm_c ⟨(wk_X4_readSum_X4_readSum_r1 _ (wm_8 (wm_4 (wm_2 wm_h)))), wm_c ⟨(wk_X4_readSum_X4_readSum_r1 _ (wm_8 (wm_4 (wm_2 (wm_1 wm_h))))), wm_c ⟨(wk_X4_readSum_X4_readSum_r1 _ (wm_16 wm_h)), wm_c ⟨(wk_X4_readSum_X4_readSum_r1 _ (wm_4 (wm_2 (wm_1 wm_h)))), wm_n⟩⟩⟩⟩
  · decide +kernel
set_option maxRecDepth 20000 in
theorem ggX4_readSum_X0_multiply : GoodIn wsX4_readSum wsX0_multiply := by
  refine goodIn_sub ?_ gd_X0_multiply
  unfold wsX0_multiply
  refine wm_c ⟨(wk_X4_readSum_X4_readSum_r1 _ (wm_16 (wm_4 (wm_2 (wm_1 wm_h))))), ?_⟩
  refine wm_a ⟨?_, ?_⟩
  · refine wm_c ⟨(wk_X4_readSum_X4_readSum_r2 _ wm_h), ?_⟩
    refine wm_c ⟨(wk_X4_readSum_X4_readSum_r2 _ (wm_1 wm_h)), ?_⟩
    refine wm_c ⟨(wk_X4_readSum_X4_readSum_r2 _ (wm_2 wm_h)), ?_⟩
    refine wm_c ⟨(wk_X4_readSum_X4_readSum_r2 _ (wm_2 (wm_1 wm_h))), ?_⟩
    refine wm_c ⟨(wk_X4_readSum_X4_readSum_r2 _ (wm_4 wm_h)), ?_⟩
    refine wm_c ⟨(wk_X4_readSum_X4_readSum_r2 _ (wm_4 (wm_1 wm_h))), ?_⟩
    refine wm_c ⟨(wk_X4_readSum_X4_readSum_r2 _ (wm_4 (wm_2 wm_h))), ?_⟩
    refine wm_c ⟨(wk_X4_readSum_X4_readSum_r2 _ (wm_4 (wm_2 (wm_1 wm_h)))), ?_⟩
    refine wm_c ⟨(wk_X4_readSum_X4_readSum_r2 _ (wm_8 wm_h)), ?_⟩
    refine wm_c ⟨(wk_X4_readSum_X4_readSum_r1 _ (wm_16 (wm_4 (wm_2 wm_h)))), ?_⟩
    refine wm_c ⟨(wk_X4_readSum_X4_readSum_r2 _ (wm_8 (wm_1 wm_h))), ?_⟩
    refine wm_c ⟨(wk_X4_readSum_X4_readSum_r2 _ (wm_8 (wm_2 wm_h))), ?_⟩
    refine wm_c ⟨(wk_X4_readSum_X4_readSum_r2 _ (wm_8 (wm_2 (wm_1 wm_h)))), ?_⟩
    refine wm_c ⟨(wk_X4_readSum_X4_readSum_r2 _ (wm_8 (wm_4 wm_h))), ?_⟩
    refine wm_c ⟨(wk_X4_readSum_X4_readSum_r2 _ (wm_8 (wm_4 (wm_1 wm_h)))), ?_⟩
    refine wm_c ⟨(wk_X4_readSum_X4_readSum_r2 _ (wm_8 (wm_4 (wm_2 wm_h)))), ?_⟩
    refine wm_c ⟨(wk_X4_readSum_X4_readSum_r2 _ (wm_8 (wm_4 (wm_2 (wm_1 wm_h))))), ?_⟩
    refine wm_c ⟨(wk_X4_readSum_X4_readSum_r2 _ (wm_16 wm_h)), ?_⟩
    refine wm_c ⟨(wk_X4_readSum_X4_readSum_r2 _ (wm_16 (wm_1 wm_h))), ?_⟩
    refine wm_c ⟨(wk_X4_readSum_X4_readSum_r2 _ (wm_16 (wm_2 wm_h))), ?_⟩
    refine wm_c ⟨(wk_X4_readSum_X4_readSum_r2 _ (wm_16 (wm_2 (wm_1 wm_h)))), ?_⟩
    refine wm_c ⟨(wk_X4_readSum_X4_readSum_r2 _ (wm_16 (wm_4 wm_h))), ?_⟩
    exact wm_n
  · exact wk_X4_readSum_X00
set_option maxRecDepth 20000 in
theorem gX4_readSum_X0_multiply : GoodIn wsX4_readSum (wsV RX4 133 RX0 yX0_multiply wsX0_multiply) := by
  refine goodIn_app (goodIn_sub ?_ ?_) ggX4_readSum_X0_multiply
  · exact wm_c ⟨(wk_X4_readSum_X4_readSum_r1 _ (wm_16 (wm_2 (wm_1 wm_h)))), wm_c ⟨(wk_X4_readSum_X4_readSum_r1 _ (wm_16 (wm_4 wm_h))), wm_c ⟨(wk_X4_readSum_X4_readSum_r1 _ (wm_16 (wm_4 (wm_1 wm_h)))), wm_c ⟨(wk_X4_readSum_X4_readSum_r1 _ (wm_16 (wm_4 (wm_2 wm_h)))), wm_n⟩⟩⟩⟩
  · decide +kernel
theorem dX4_readSum_0 : decode cX4_readSum 0 = .ok (.aload_n 0, 1) := by decide +kernel
theorem dX4_readSum_1 : decode cX4_readSum 1 = .ok (.invokevirtual 77, 3) := by decide +kernel
theorem dX4_readSum_4 : decode cX4_readSum 4 = .ok (.bipush 48, 2) := by decide +kernel
theorem dX4_readSum_6 : decode cX4_readSum 6 = .ok (.isub, 1) := by decide +kernel
theorem dX4_readSum_7 : decode cX4_readSum 7 = .ok (.istore_n 2, 1) := by decide +kernel
theorem dX4_readSum_8 : decode cX4_readSum 8 = .ok (.iload_n 2, 1) := by decide +kernel
theorem dX4_readSum_9 : decode cX4_readSum 9 = .ok (.invokestatic 130, 3) := by decide +kernel
theorem dX4_readSum_12 : decode cX4_readSum 12 = .ok (.ifCond .eq 12, 3) := by decide +kernel
theorem dX4_readSum_15 : decode cX4_readSum 15 = .ok (.aload_n 0, 1) := by decide +kernel
theorem dX4_readSum_16 : decode cX4_readSum 16 = .ok (.aload_n 0, 1) := by decide +kernel
theorem dX4_readSum_17 : decode cX4_readSum 17 = .ok (.getfield 39, 3) := by decide +kernel
theorem dX4_readSum_20 : decode cX4_readSum 20 = .ok (.putfield 42, 3) := by decide +kernel
theorem dX4_readSum_23 : decode cX4_readSum 23 = .ok (.return_, 1) := by decide +kernel
theorem dX4_readSum_24 : decode cX4_readSum 24 = .ok (.aload_n 0, 1) := by decide +kernel
theorem dX4_readSum_25 : decode cX4_readSum 25 = .ok (.dup, 1) := by decide +kernel
theorem dX4_readSum_26 : decode cX4_readSum 26 = .ok (.getfield 39, 3) := by decide +kernel
theorem dX4_readSum_29 : decode cX4_readSum 29 = .ok (.iconst 1, 1) := by decide +kernel
theorem dX4_readSum_30 : decode cX4_readSum 30 = .ok (.iadd, 1) := by decide +kernel
theorem dX4_readSum_31 : decode cX4_readSum 31 = .ok (.putfield 39, 3) := by decide +kernel
theorem dX4_readSum_34 : decode cX4_readSum 34 = .ok (.aload_n 0, 1) := by decide +kernel
theorem dX4_readSum_35 : decode cX4_readSum 35 = .ok (.getfield 15, 3) := by decide +kernel
theorem dX4_readSum_38 : decode cX4_readSum 38 = .ok (.aload_n 0, 1) := by decide +kernel
theorem dX4_readSum_39 : decode cX4_readSum 39 = .ok (.iload_n 1, 1) := by decide +kernel
theorem dX4_readSum_40 : decode cX4_readSum 40 = .ok (.invokevirtual 70, 3) := by decide +kernel
theorem dX4_readSum_43 : decode cX4_readSum 43 = .ok (.aload_n 0, 1) := by decide +kernel
theorem dX4_readSum_44 : decode cX4_readSum 44 = .ok (.iload_n 1, 1) := by decide +kernel
theorem dX4_readSum_45 : decode cX4_readSum 45 = .ok (.invokevirtual 70, 3) := by decide +kernel
theorem dX4_readSum_48 : decode cX4_readSum 48 = .ok (.aload_n 0, 1) := by decide +kernel
theorem dX4_readSum_49 : decode cX4_readSum 49 = .ok (.getfield 19, 3) := by decide +kernel
theorem dX4_readSum_52 : decode cX4_readSum 52 = .ok (.iload_n 2, 1) := by decide +kernel
theorem dX4_readSum_53 : decode cX4_readSum 53 = .ok (.aaload, 1) := by decide +kernel
theorem dX4_readSum_54 : decode cX4_readSum 54 = .ok (.invokevirtual 133, 3) := by decide +kernel
theorem dX4_readSum_57 : decode cX4_readSum 57 = .ok (.return_, 1) := by decide +kernel
set_option maxRecDepth 20000 in
theorem ggX4_readBracket_X4_opens : GoodIn wsX4_readBracket wsX4_opens := by
  refine goodIn_sub ?_ gd_X4_opens
  unfold wsX4_opens
  refine wm_c ⟨(wk_X4_readBracket_X4_readBracket_r1 _ (wm_4 (wm_1 wm_h))), ?_⟩
  refine wm_a ⟨?_, ?_⟩
  · refine wm_c ⟨(wk_X4_readBracket_X4_readBracket_r1 _ (wm_4 (wm_2 wm_h))), ?_⟩
    refine wm_c ⟨(wk_X4_readBracket_X4_readBracket_r1 _ (wm_4 (wm_2 (wm_1 wm_h)))), ?_⟩
    refine wm_c ⟨(wk_X4_readBracket_X4_readBracket_r1 _ (wm_8 wm_h)), ?_⟩
    refine wm_c ⟨(wk_X4_readBracket_X4_readBracket_r1 _ (wm_8 (wm_1 wm_h))), ?_⟩
    refine wm_c ⟨(wk_X4_readBracket_X4_readBracket_r1 _ (wm_8 (wm_2 wm_h))), ?_⟩
    refine wm_c ⟨(wk_X4_readBracket_X4_readBracket_r1 _ (wm_4 wm_h)), ?_⟩
    refine wm_c ⟨(wk_X4_readBracket_X4_readBracket_r1 _ (wm_8 (wm_2 (wm_1 wm_h)))), ?_⟩
    refine wm_c ⟨(wk_X4_readBracket_X4_readBracket_r1 _ (wm_8 (wm_4 wm_h))), ?_⟩
    refine wm_c ⟨(wk_X4_readBracket_X4_readBracket_r1 _ (wm_8 (wm_4 (wm_1 wm_h)))), ?_⟩
    exact wm_n
  · exact wk_X4_readBracket_X40
set_option maxRecDepth 20000 in
theorem gX4_readBracket_X4_opens : GoodIn wsX4_readBracket (wsV RX4 137 RX4 yX4_opens wsX4_opens) := by
  refine goodIn_app (goodIn_sub ?_ ?_) ggX4_readBracket_X4_opens
  · exact wm_c ⟨(wk_X4_readBracket_X4_readBracket_r1 _ (wm_1 wm_h)), wm_c ⟨(wk_X4_readBracket_X4_readBracket_r1 _ (wm_2 wm_h)), wm_c ⟨(wk_X4_readBracket_X4_readBracket_r1 _ (wm_2 (wm_1 wm_h))), wm_c ⟨(wk_X4_readBracket_X4_readBracket_r1 _ (wm_4 wm_h)), wm_n⟩⟩⟩⟩
  · decide +kernel
set_option maxRecDepth 20000 in
theorem ggX4_readBracket_X4_wholeOf : GoodIn wsX4_readBracket wsX4_wholeOf := by
  refine goodIn_sub ?_ gd_X4_wholeOf
  unfold wsX4_wholeOf
  refine wm_c ⟨(wk_X4_readBracket_X4_readBracket_r1 _ (wm_16 (wm_1 wm_h))), ?_⟩
  refine wm_a ⟨?_, ?_⟩
  · refine wm_c ⟨(wk_X4_readBracket_X4_readBracket_r1 _ (wm_16 (wm_2 wm_h))), ?_⟩
    exact wm_n
  · exact wk_X4_readBracket_X40
set_option maxRecDepth 20000 in
theorem gX4_readBracket_X4_wholeOf : GoodIn wsX4_readBracket (wsV RX4 53 RX4 yX4_wholeOf wsX4_wholeOf) := by
  refine goodIn_app (goodIn_sub ?_ ?_) ggX4_readBracket_X4_wholeOf
  · exact wm_c ⟨(wk_X4_readBracket_X4_readBracket_r1 _ (wm_8 (wm_4 (wm_2 wm_h)))), wm_c ⟨(wk_X4_readBracket_X4_readBracket_r1 _ (wm_8 (wm_4 (wm_2 (wm_1 wm_h))))), wm_c ⟨(wk_X4_readBracket_X4_readBracket_r1 _ (wm_16 wm_h)), wm_c ⟨(wk_X4_readBracket_X4_readBracket_r1 _ (wm_4 wm_h)), wm_n⟩⟩⟩⟩
  · decide +kernel
set_option maxRecDepth 20000 in
theorem ggX4_readBracket_X4_readText : GoodIn wsX4_readBracket wsX4_readText := by
  refine goodIn_sub ?_ gd_X4_readText
  unfold wsX4_readText
  refine wm_c ⟨(wk_X4_readBracket_X4_readBracket_r7 _ (wm_1 wm_h)), ?_⟩
  refine wm_a ⟨?_, ?_⟩
  · refine wm_a ⟨?_, ?_⟩
    · refine wm_a ⟨?_, ?_⟩
      · refine wm_a ⟨?_, ?_⟩
        · unfold wsX4_readText_r1
          refine wm_c ⟨(wk_X4_readBracket_X4_readBracket_r1 _ (wm_4 (wm_2 (wm_1 wm_h)))), ?_⟩
          refine wm_c ⟨(wk_X4_readBracket_X4_readBracket_r1 _ wm_h), ?_⟩
          refine wm_c ⟨(wk_X4_readBracket_X4_readBracket_r7 _ (wm_2 wm_h)), ?_⟩
          refine wm_c ⟨(wk_X4_readBracket_X4_readBracket_r1 _ (wm_4 (wm_2 wm_h))), ?_⟩
          refine wm_c ⟨(wk_X4_readBracket_X4_readBracket_r1 _ (wm_8 (wm_4 (wm_2 wm_h)))), ?_⟩
          refine wm_c ⟨(wk_X4_readBracket_X4_readBracket_r1 _ (wm_8 (wm_4 (wm_2 (wm_1 wm_h))))), ?_⟩
          refine wm_c ⟨(wk_X4_readBracket_X4_readBracket_r1 _ (wm_16 wm_h)), ?_⟩
          refine wm_c ⟨(wk_X4_readBracket_X4_readBracket_r1 _ (wm_4 wm_h)), ?_⟩
          refine wm_c ⟨(wk_X4_readBracket_X4_readBracket_r1 _ (wm_16 (wm_1 wm_h))), ?_⟩
          refine wm_c ⟨(wk_X4_readBracket_X4_readBracket_r1 _ (wm_16 (wm_2 wm_h))), ?_⟩
          refine wm_c ⟨(wk_X4_readBracket_X4_readBracket_r7 _ (wm_2 (wm_1 wm_h))), ?_⟩
          refine wm_c ⟨(wk_X4_readBracket_X4_readBracket_r2 _ (wm_16 (wm_4 (wm_2 (wm_1 wm_h))))), ?_⟩
          refine wm_c ⟨(wk_X4_readBracket_X4_readBracket_r3 _ wm_h), ?_⟩
          refine wm_c ⟨(wk_X4_readBracket_X4_readBracket_r3 _ (wm_1 wm_h)), ?_⟩
          refine wm_c ⟨(wk_X4_readBracket_X4_readBracket_r7 _ (wm_4 wm_h)), ?_⟩
          refine wm_c ⟨(wk_X4_readBracket_X4_readBracket_r7 _ (wm_4 (wm_1 wm_h))), ?_⟩
          refine wm_c ⟨(wk_X4_readBracket_X4_readBracket_r7 _ (wm_4 (wm_2 wm_h))), ?_⟩
          refine wm_c ⟨(wk_X4_readBracket_X4_readBracket_r3 _ (wm_8 (wm_2 wm_h))), ?_⟩
          refine wm_c ⟨(wk_X4_readBracket_X4_readBracket_r3 _ (wm_8 (wm_2 (wm_1 wm_h)))), ?_⟩
          refine wm_c ⟨(wk_X4_readBracket_X4_readBracket_r3 _ (wm_8 (wm_4 wm_h))), ?_⟩
          refine wm_c ⟨(wk_X4_readBracket_X4_readBracket_r3 _ (wm_8 (wm_4 (wm_1 wm_h)))), ?_⟩
          refine wm_c ⟨(wk_X4_readBracket_X4_readBracket_r7 _ (wm_4 (wm_2 (wm_1 wm_h)))), ?_⟩
          refine wm_c ⟨(wk_X4_readBracket_X4_readBracket_r7 _ (wm_8 wm_h)), ?_⟩
          refine wm_c ⟨(wk_X4_readBracket_X4_readBracket_r7 _ (wm_8 (wm_1 wm_h))), ?_⟩
          exact wm_n
        · refine wm_a ⟨?_, ?_⟩
          · unfold wsX4_readText_r2
            refine wm_c ⟨(wk_X4_readBracket_X4_readBracket_r2 _ (wm_8 (wm_1 wm_h))), ?_⟩
            refine wm_c ⟨(wk_X4_readBracket_X4_readBracket_r7 _ (wm_8 (wm_2 wm_h))), ?_⟩
            refine wm_c ⟨(wk_X4_readBracket_X4_readBracket_r7 _ (wm_8 (wm_2 (wm_1 wm_h)))), ?_⟩
            refine wm_c ⟨(wk_X4_readBracket_X4_readBracket_r7 _ (wm_8 (wm_4 wm_h))), ?_⟩
            refine wm_c ⟨(wk_X4_readBracket_X4_readBracket_r4 _ (wm_8 (wm_1 wm_h))), ?_⟩
            refine wm_c ⟨(wk_X4_readBracket_X4_readBracket_r7 _ (wm_8 (wm_4 (wm_1 wm_h)))), ?_⟩
            refine wm_c ⟨(wk_X4_readBracket_X4_readBracket_r4 _ (wm_8 (wm_2 (wm_1 wm_h)))), ?_⟩
            refine wm_c ⟨(wk_X4_readBracket_X4_readBracket_r1 _ (wm_8 wm_h)), ?_⟩
            refine wm_c ⟨(wk_X4_readBracket_X4_readBracket_r1 _ (wm_8 (wm_1 wm_h))), ?_⟩
            refine wm_c ⟨(wk_X4_readBracket_X4_readBracket_r1 _ (wm_8 (wm_2 wm_h))), ?_⟩
            refine wm_c ⟨(wk_X4_readBracket_X4_readBracket_r1 _ (wm_8 (wm_2 (wm_1 wm_h)))), ?_⟩
            refine wm_c ⟨(wk_X4_readBracket_X4_readBracket_r1 _ (wm_8 (wm_4 wm_h))), ?_⟩
            refine wm_c ⟨(wk_X4_readBracket_X4_readBracket_r1 _ (wm_8 (wm_4 (wm_1 wm_h)))), ?_⟩
            refine wm_c ⟨wm_h, ?_⟩
            refine wm_c ⟨(wk_X4_readBracket_X4_readBracket_r1 _ (wm_1 wm_h)), ?_⟩
            refine wm_c ⟨(wk_X4_readBracket_X4_readBracket_r1 _ (wm_2 wm_h)), ?_⟩
            refine wm_c ⟨(wk_X4_readBracket_X4_readBracket_r1 _ (wm_2 (wm_1 wm_h))), ?_⟩
            refine wm_c ⟨(wk_X4_readBracket_X4_readBracket_r1 _ (wm_4 (wm_1 wm_h))), ?_⟩
            refine wm_c ⟨(wk_X4_readBracket_X4_readBracket_r1 _ (wm_16 (wm_2 (wm_1 wm_h)))), ?_⟩
            refine wm_c ⟨(wk_X4_readBracket_X4_readBracket_r1 _ (wm_16 (wm_4 wm_h))), ?_⟩
            refine wm_c ⟨(wk_X4_readBracket_X4_readBracket_r1 _ (wm_16 (wm_4 (wm_1 wm_h)))), ?_⟩
            refine wm_c ⟨(wk_X4_readBracket_X4_readBracket_r1 _ (wm_16 (wm_4 (wm_2 wm_h)))), ?_⟩
            refine wm_c ⟨(wk_X4_readBracket_X4_readBracket_r1 _ (wm_16 (wm_4 (wm_2 (wm_1 wm_h))))), ?_⟩
            refine wm_c ⟨(wk_X4_readBracket_X4_readBracket_r2 _ wm_h), ?_⟩
            exact wm_n
          · refine wm_a ⟨?_, ?_⟩
            · unfold wsX4_readText_r3
              refine wm_c ⟨(wk_X4_readBracket_X4_readBracket_r2 _ (wm_1 wm_h)), ?_⟩
              refine wm_c ⟨(wk_X4_readBracket_X4_readBracket_r2 _ (wm_2 wm_h)), ?_⟩
              refine wm_c ⟨(wk_X4_readBracket_X4_readBracket_r2 _ (wm_2 (wm_1 wm_h))), ?_⟩
              refine wm_c ⟨(wk_X4_readBracket_X4_readBracket_r2 _ (wm_4 wm_h)), ?_⟩
              refine wm_c ⟨(wk_X4_readBracket_X4_readBracket_r2 _ (wm_4 (wm_1 wm_h))), ?_⟩
              refine wm_c ⟨(wk_X4_readBracket_X4_readBracket_r2 _ (wm_4 (wm_2 wm_h))), ?_⟩
              refine wm_c ⟨(wk_X4_readBracket_X4_readBracket_r2 _ (wm_4 (wm_2 (wm_1 wm_h)))), ?_⟩
              refine wm_c ⟨(wk_X4_readBracket_X4_readBracket_r2 _ (wm_8 wm_h)), ?_⟩
              refine wm_c ⟨(wk_X4_readBracket_X4_readBracket_r2 _ (wm_8 (wm_2 wm_h))), ?_⟩
              refine wm_c ⟨(wk_X4_readBracket_X4_readBracket_r2 _ (wm_8 (wm_2 (wm_1 wm_h)))), ?_⟩
              refine wm_c ⟨(wk_X4_readBracket_X4_readBracket_r2 _ (wm_8 (wm_4 wm_h))), ?_⟩
              refine wm_c ⟨(wk_X4_readBracket_X4_readBracket_r2 _ (wm_8 (wm_4 (wm_1 wm_h)))), ?_⟩
              refine wm_c ⟨(wk_X4_readBracket_X4_readBracket_r2 _ (wm_8 (wm_4 (wm_2 wm_h)))), ?_⟩
              refine wm_c ⟨(wk_X4_readBracket_X4_readBracket_r2 _ (wm_8 (wm_4 (wm_2 (wm_1 wm_h))))), ?_⟩
              refine wm_c ⟨(wk_X4_readBracket_X4_readBracket_r2 _ (wm_16 wm_h)), ?_⟩
              refine wm_c ⟨(wk_X4_readBracket_X4_readBracket_r2 _ (wm_16 (wm_1 wm_h))), ?_⟩
              refine wm_c ⟨(wk_X4_readBracket_X4_readBracket_r2 _ (wm_16 (wm_2 wm_h))), ?_⟩
              refine wm_c ⟨(wk_X4_readBracket_X4_readBracket_r2 _ (wm_16 (wm_2 (wm_1 wm_h)))), ?_⟩
              refine wm_c ⟨(wk_X4_readBracket_X4_readBracket_r2 _ (wm_16 (wm_4 wm_h))), ?_⟩
              refine wm_c ⟨(wk_X4_readBracket_X4_readBracket_r2 _ (wm_16 (wm_4 (wm_1 wm_h)))), ?_⟩
              refine wm_c ⟨(wk_X4_readBracket_X4_readBracket_r2 _ (wm_16 (wm_4 (wm_2 wm_h)))), ?_⟩
              refine wm_c ⟨(wk_X4_readBracket_X4_readBracket_r3 _ (wm_2 wm_h)), ?_⟩
              refine wm_c ⟨(wk_X4_readBracket_X4_readBracket_r3 _ (wm_2 (wm_1 wm_h))), ?_⟩
              refine wm_c ⟨(wk_X4_readBracket_X4_readBracket_r3 _ (wm_4 wm_h)), ?_⟩
              exact wm_n
            · refine wm_a ⟨?_, ?_⟩
              · unfold wsX4_readText_r4
                refine wm_c ⟨(wk_X4_readBracket_X4_readBracket_r3 _ (wm_4 (wm_1 wm_h))), ?_⟩
                refine wm_c ⟨(wk_X4_readBracket_X4_readBracket_r3 _ (wm_4 (wm_2 wm_h))), ?_⟩
                refine wm_c ⟨(wk_X4_readBracket_X4_readBracket_r3 _ (wm_4 (wm_2 (wm_1 wm_h)))), ?_⟩
                refine wm_c ⟨(wk_X4_readBracket_X4_readBracket_r3 _ (wm_8 wm_h)), ?_⟩
                refine wm_c ⟨(wk_X4_readBracket_X4_readBracket_r3 _ (wm_8 (wm_1 wm_h))), ?_⟩
                refine wm_c ⟨(wk_X4_readBracket_X4_readBracket_r3 _ (wm_8 (wm_4 (wm_2 wm_h)))), ?_⟩
                refine wm_c ⟨(wk_X4_readBracket_X4_readBracket_r3 _ (wm_8 (wm_4 (wm_2 (wm_1 wm_h))))), ?_⟩
                refine wm_c ⟨(wk_X4_readBracket_X4_readBracket_r3 _ (wm_16 wm_h)), ?_⟩
                refine wm_c ⟨(wk_X4_readBracket_X4_readBracket_r3 _ (wm_16 (wm_1 wm_h))), ?_⟩
                refine wm_c ⟨(wk_X4_readBracket_X4_readBracket_r3 _ (wm_16 (wm_2 wm_h))), ?_⟩
                refine wm_c ⟨(wk_X4_readBracket_X4_readBracket_r3 _ (wm_16 (wm_2 (wm_1 wm_h)))), ?_⟩
                refine wm_c ⟨(wk_X4_readBracket_X4_readBracket_r3 _ (wm_16 (wm_4 wm_h))), ?_⟩
                refine wm_c ⟨(wk_X4_readBracket_X4_readBracket_r3 _ (wm_16 (wm_4 (wm_1 wm_h)))), ?_⟩
                refine wm_c ⟨(wk_X4_readBracket_X4_readBracket_r3 _ (wm_16 (wm_4 (wm_2 wm_h)))), ?_⟩
                refine wm_c ⟨(wk_X4_readBracket_X4_readBracket_r3 _ (wm_16 (wm_4 (wm_2 (wm_1 wm_h))))), ?_⟩
                refine wm_c ⟨(wk_X4_readBracket_X4_readBracket_r4 _ wm_h), ?_⟩
                refine wm_c ⟨(wk_X4_readBracket_X4_readBracket_r4 _ (wm_1 wm_h)), ?_⟩
                refine wm_c ⟨(wk_X4_readBracket_X4_readBracket_r4 _ (wm_2 wm_h)), ?_⟩
                refine wm_c ⟨(wk_X4_readBracket_X4_readBracket_r4 _ (wm_2 (wm_1 wm_h))), ?_⟩
                refine wm_c ⟨(wk_X4_readBracket_X4_readBracket_r4 _ (wm_4 wm_h)), ?_⟩
                refine wm_c ⟨(wk_X4_readBracket_X4_readBracket_r4 _ (wm_4 (wm_1 wm_h))), ?_⟩
                refine wm_c ⟨(wk_X4_readBracket_X4_readBracket_r4 _ (wm_4 (wm_2 wm_h))), ?_⟩
                refine wm_c ⟨(wk_X4_readBracket_X4_readBracket_r4 _ (wm_4 (wm_2 (wm_1 wm_h)))), ?_⟩
                refine wm_c ⟨(wk_X4_readBracket_X4_readBracket_r4 _ (wm_8 wm_h)), ?_⟩
                exact wm_n
              · refine wm_a ⟨?_, ?_⟩
                · unfold wsX4_readText_r5
                  refine wm_c ⟨(wk_X4_readBracket_X4_readBracket_r4 _ (wm_8 (wm_2 wm_h))), ?_⟩
                  refine wm_c ⟨(wk_X4_readBracket_X4_readBracket_r4 _ (wm_8 (wm_4 wm_h))), ?_⟩
                  refine wm_c ⟨(wk_X4_readBracket_X4_readBracket_r4 _ (wm_8 (wm_4 (wm_1 wm_h)))), ?_⟩
                  refine wm_c ⟨(wk_X4_readBracket_X4_readBracket_r4 _ (wm_8 (wm_4 (wm_2 wm_h)))), ?_⟩
                  refine wm_c ⟨(wk_X4_readBracket_X4_readBracket_r4 _ (wm_8 (wm_4 (wm_2 (wm_1 wm_h))))), ?_⟩
                  refine wm_c ⟨(wk_X4_readBracket_X4_readBracket_r4 _ (wm_16 wm_h)), ?_⟩
                  refine wm_c ⟨(wk_X4_readBracket_X4_readBracket_r4 _ (wm_16 (wm_1 wm_h))), ?_⟩
                  refine wm_c ⟨(wk_X4_readBracket_X4_readBracket_r4 _ (wm_16 (wm_2 wm_h))), ?_⟩
                  refine wm_c ⟨(wk_X4_readBracket_X4_readBracket_r4 _ (wm_16 (wm_2 (wm_1 wm_h)))), ?_⟩
                  refine wm_c ⟨(wk_X4_readBracket_X4_readBracket_r4 _ (wm_16 (wm_4 wm_h))), ?_⟩
                  refine wm_c ⟨(wk_X4_readBracket_X4_readBracket_r4 _ (wm_16 (wm_4 (wm_1 wm_h)))), ?_⟩
                  refine wm_c ⟨(wk_X4_readBracket_X4_readBracket_r4 _ (wm_16 (wm_4 (wm_2 wm_h)))), ?_⟩
                  refine wm_c ⟨(wk_X4_readBracket_X4_readBracket_r4 _ (wm_16 (wm_4 (wm_2 (wm_1 wm_h))))), ?_⟩
                  refine wm_c ⟨(wk_X4_readBracket_X4_readBracket_r5 _ wm_h), ?_⟩
                  refine wm_c ⟨(wk_X4_readBracket_X4_readBracket_r5 _ (wm_1 wm_h)), ?_⟩
                  refine wm_c ⟨(wk_X4_readBracket_X4_readBracket_r5 _ (wm_2 wm_h)), ?_⟩
                  refine wm_c ⟨(wk_X4_readBracket_X4_readBracket_r5 _ (wm_2 (wm_1 wm_h))), ?_⟩
                  refine wm_c ⟨(wk_X4_readBracket_X4_readBracket_r5 _ (wm_4 wm_h)), ?_⟩
                  refine wm_c ⟨(wk_X4_readBracket_X4_readBracket_r5 _ (wm_4 (wm_1 wm_h))), ?_⟩
                  refine wm_c ⟨(wk_X4_readBracket_X4_readBracket_r5 _ (wm_4 (wm_2 wm_h))), ?_⟩
                  refine wm_c ⟨(wk_X4_readBracket_X4_readBracket_r5 _ (wm_4 (wm_2 (wm_1 wm_h)))), ?_⟩
                  refine wm_c ⟨(wk_X4_readBracket_X4_readBracket_r5 _ (wm_8 wm_h)), ?_⟩
                  refine wm_c ⟨(wk_X4_readBracket_X4_readBracket_r5 _ (wm_8 (wm_1 wm_h))), ?_⟩
                  refine wm_c ⟨(wk_X4_readBracket_X4_readBracket_r5 _ (wm_8 (wm_2 wm_h))), ?_⟩
                  exact wm_n
                · refine wm_a ⟨?_, ?_⟩
                  · unfold wsX4_readText_r6
                    refine wm_c ⟨(wk_X4_readBracket_X4_readBracket_r5 _ (wm_8 (wm_2 (wm_1 wm_h)))), ?_⟩
                    refine wm_c ⟨(wk_X4_readBracket_X4_readBracket_r5 _ (wm_8 (wm_4 wm_h))), ?_⟩
                    refine wm_c ⟨(wk_X4_readBracket_X4_readBracket_r5 _ (wm_8 (wm_4 (wm_1 wm_h)))), ?_⟩
                    refine wm_c ⟨(wk_X4_readBracket_X4_readBracket_r5 _ (wm_8 (wm_4 (wm_2 wm_h)))), ?_⟩
                    refine wm_c ⟨(wk_X4_readBracket_X4_readBracket_r5 _ (wm_8 (wm_4 (wm_2 (wm_1 wm_h))))), ?_⟩
                    refine wm_c ⟨(wk_X4_readBracket_X4_readBracket_r5 _ (wm_16 wm_h)), ?_⟩
                    refine wm_c ⟨(wk_X4_readBracket_X4_readBracket_r5 _ (wm_16 (wm_1 wm_h))), ?_⟩
                    refine wm_c ⟨(wk_X4_readBracket_X4_readBracket_r5 _ (wm_16 (wm_2 wm_h))), ?_⟩
                    refine wm_c ⟨(wk_X4_readBracket_X4_readBracket_r5 _ (wm_16 (wm_2 (wm_1 wm_h)))), ?_⟩
                    refine wm_c ⟨(wk_X4_readBracket_X4_readBracket_r5 _ (wm_16 (wm_4 wm_h))), ?_⟩
                    refine wm_c ⟨(wk_X4_readBracket_X4_readBracket_r5 _ (wm_16 (wm_4 (wm_1 wm_h)))), ?_⟩
                    refine wm_c ⟨(wk_X4_readBracket_X4_readBracket_r5 _ (wm_16 (wm_4 (wm_2 wm_h)))), ?_⟩
                    refine wm_c ⟨(wk_X4_readBracket_X4_readBracket_r5 _ (wm_16 (wm_4 (wm_2 (wm_1 wm_h))))), ?_⟩
                    refine wm_c ⟨(wk_X4_readBracket_X4_readBracket_r6 _ wm_h), ?_⟩
                    refine wm_c ⟨(wk_X4_readBracket_X4_readBracket_r6 _ (wm_1 wm_h)), ?_⟩
                    refine wm_c ⟨(wk_X4_readBracket_X4_readBracket_r6 _ (wm_2 wm_h)), ?_⟩
                    refine wm_c ⟨(wk_X4_readBracket_X4_readBracket_r6 _ (wm_2 (wm_1 wm_h))), ?_⟩
                    refine wm_c ⟨(wk_X4_readBracket_X4_readBracket_r6 _ (wm_4 wm_h)), ?_⟩
                    refine wm_c ⟨(wk_X4_readBracket_X4_readBracket_r6 _ (wm_4 (wm_1 wm_h))), ?_⟩
                    refine wm_c ⟨(wk_X4_readBracket_X4_readBracket_r6 _ (wm_4 (wm_2 wm_h))), ?_⟩
                    refine wm_c ⟨(wk_X4_readBracket_X4_readBracket_r6 _ (wm_4 (wm_2 (wm_1 wm_h)))), ?_⟩
                    refine wm_c ⟨(wk_X4_readBracket_X4_readBracket_r6 _ (wm_8 wm_h)), ?_⟩
                    refine wm_c ⟨(wk_X4_readBracket_X4_readBracket_r6 _ (wm_8 (wm_1 wm_h))), ?_⟩
                    refine wm_c ⟨(wk_X4_readBracket_X4_readBracket_r6 _ (wm_8 (wm_2 wm_h))), ?_⟩
                    exact wm_n
                  · unfold wsX4_readText_r7
                    refine wm_c ⟨(wk_X4_readBracket_X4_readBracket_r6 _ (wm_8 (wm_2 (wm_1 wm_h)))), ?_⟩
                    refine wm_c ⟨(wk_X4_readBracket_X4_readBracket_r6 _ (wm_8 (wm_4 wm_h))), ?_⟩
                    refine wm_c ⟨(wk_X4_readBracket_X4_readBracket_r6 _ (wm_8 (wm_4 (wm_1 wm_h)))), ?_⟩
                    refine wm_c ⟨(wk_X4_readBracket_X4_readBracket_r6 _ (wm_8 (wm_4 (wm_2 wm_h)))), ?_⟩
                    refine wm_c ⟨(wk_X4_readBracket_X4_readBracket_r6 _ (wm_8 (wm_4 (wm_2 (wm_1 wm_h))))), ?_⟩
                    refine wm_c ⟨(wk_X4_readBracket_X4_readBracket_r6 _ (wm_16 wm_h)), ?_⟩
                    refine wm_c ⟨(wk_X4_readBracket_X4_readBracket_r6 _ (wm_16 (wm_1 wm_h))), ?_⟩
                    refine wm_c ⟨(wk_X4_readBracket_X4_readBracket_r6 _ (wm_16 (wm_2 wm_h))), ?_⟩
                    refine wm_c ⟨(wk_X4_readBracket_X4_readBracket_r6 _ (wm_16 (wm_2 (wm_1 wm_h)))), ?_⟩
                    refine wm_c ⟨(wk_X4_readBracket_X4_readBracket_r6 _ (wm_16 (wm_4 wm_h))), ?_⟩
                    refine wm_c ⟨(wk_X4_readBracket_X4_readBracket_r6 _ (wm_16 (wm_4 (wm_1 wm_h)))), ?_⟩
                    refine wm_c ⟨(wk_X4_readBracket_X4_readBracket_r6 _ (wm_16 (wm_4 (wm_2 wm_h)))), ?_⟩
                    refine wm_c ⟨(wk_X4_readBracket_X4_readBracket_r6 _ (wm_16 (wm_4 (wm_2 (wm_1 wm_h))))), ?_⟩
                    refine wm_c ⟨(wk_X4_readBracket_X4_readBracket_r7 _ wm_h), ?_⟩
                    exact wm_n
      · exact wk_X4_readBracket_X40
    · exact wk_X4_readBracket_X00
  · exact wk_X4_readBracket_X60
set_option maxRecDepth 20000 in
theorem gX4_readBracket_X4_readText : GoodIn wsX4_readBracket (wsV RX4 49 RX4 yX4_readText wsX4_readText) := by
  refine goodIn_app (goodIn_sub ?_ ?_) ggX4_readBracket_X4_readText
  · exact wm_c ⟨(wk_X4_readBracket_X4_readBracket_r1 _ (wm_16 (wm_2 (wm_1 wm_h)))), wm_c ⟨(wk_X4_readBracket_X4_readBracket_r1 _ (wm_16 (wm_4 wm_h))), wm_c ⟨(wk_X4_readBracket_X4_readBracket_r1 _ (wm_16 (wm_4 (wm_1 wm_h)))), wm_c ⟨(wk_X4_readBracket_X4_readBracket_r1 _ (wm_4 wm_h)), wm_n⟩⟩⟩⟩
  · decide +kernel
set_option maxRecDepth 20000 in
theorem ggX4_readBracket_X4_goesOn : GoodIn wsX4_readBracket wsX4_goesOn := by
  refine goodIn_sub ?_ gd_X4_goesOn
  unfold wsX4_goesOn
  refine wm_c ⟨(wk_X4_readBracket_X4_readBracket_r2 _ (wm_1 wm_h)), ?_⟩
  refine wm_a ⟨?_, ?_⟩
  · refine wm_c ⟨(wk_X4_readBracket_X4_readBracket_r1 _ (wm_4 (wm_2 (wm_1 wm_h)))), ?_⟩
    refine wm_c ⟨(wk_X4_readBracket_X4_readBracket_r1 _ (wm_4 (wm_2 wm_h))), ?_⟩
    refine wm_c ⟨(wk_X4_readBracket_X4_readBracket_r1 _ (wm_8 wm_h)), ?_⟩
    refine wm_c ⟨(wk_X4_readBracket_X4_readBracket_r1 _ (wm_8 (wm_1 wm_h))), ?_⟩
    refine wm_c ⟨(wk_X4_readBracket_X4_readBracket_r1 _ (wm_8 (wm_2 wm_h))), ?_⟩
    refine wm_c ⟨(wk_X4_readBracket_X4_readBracket_r1 _ (wm_4 wm_h)), ?_⟩
    refine wm_c ⟨(wk_X4_readBracket_X4_readBracket_r1 _ (wm_8 (wm_2 (wm_1 wm_h)))), ?_⟩
    refine wm_c ⟨(wk_X4_readBracket_X4_readBracket_r1 _ (wm_8 (wm_4 wm_h))), ?_⟩
    refine wm_c ⟨(wk_X4_readBracket_X4_readBracket_r1 _ (wm_8 (wm_4 (wm_1 wm_h)))), ?_⟩
    exact wm_n
  · exact wk_X4_readBracket_X40
set_option maxRecDepth 20000 in
theorem gX4_readBracket_X4_goesOn : GoodIn wsX4_readBracket (wsV RX4 141 RX4 yX4_goesOn wsX4_goesOn) := by
  refine goodIn_app (goodIn_sub ?_ ?_) ggX4_readBracket_X4_goesOn
  · exact wm_c ⟨(wk_X4_readBracket_X4_readBracket_r1 _ (wm_16 (wm_4 (wm_2 wm_h)))), wm_c ⟨(wk_X4_readBracket_X4_readBracket_r1 _ (wm_16 (wm_4 (wm_2 (wm_1 wm_h))))), wm_c ⟨(wk_X4_readBracket_X4_readBracket_r2 _ wm_h), wm_c ⟨(wk_X4_readBracket_X4_readBracket_r1 _ (wm_4 wm_h)), wm_n⟩⟩⟩⟩
  · decide +kernel
set_option maxRecDepth 20000 in
theorem ggX4_readBracket_X4_leftOf : GoodIn wsX4_readBracket wsX4_leftOf := by
  refine goodIn_sub ?_ gd_X4_leftOf
  unfold wsX4_leftOf
  refine wm_c ⟨(wk_X4_readBracket_X4_readBracket_r2 _ (wm_4 (wm_1 wm_h))), ?_⟩
  refine wm_a ⟨?_, ?_⟩
  · refine wm_c ⟨(wk_X4_readBracket_X4_readBracket_r1 _ (wm_16 (wm_2 wm_h))), ?_⟩
    exact wm_n
  · exact wk_X4_readBracket_X40
set_option maxRecDepth 20000 in
theorem gX4_readBracket_X4_leftOf : GoodIn wsX4_readBracket (wsV RX4 144 RX4 yX4_leftOf wsX4_leftOf) := by
  refine goodIn_app (goodIn_sub ?_ ?_) ggX4_readBracket_X4_leftOf
  · exact wm_c ⟨(wk_X4_readBracket_X4_readBracket_r2 _ (wm_2 wm_h)), wm_c ⟨(wk_X4_readBracket_X4_readBracket_r2 _ (wm_2 (wm_1 wm_h))), wm_c ⟨(wk_X4_readBracket_X4_readBracket_r2 _ (wm_4 wm_h)), wm_c ⟨(wk_X4_readBracket_X4_readBracket_r1 _ (wm_4 wm_h)), wm_n⟩⟩⟩⟩
  · decide +kernel
set_option maxRecDepth 20000 in
theorem ggX4_readBracket_X0_copy : GoodIn wsX4_readBracket wsX0_copy := by
  refine goodIn_sub ?_ gd_X0_copy
  unfold wsX0_copy
  refine wm_c ⟨(wk_X4_readBracket_X4_readBracket_r2 _ (wm_8 (wm_2 wm_h))), ?_⟩
  refine wm_c ⟨(wk_X4_readBracket_X4_readBracket_r2 _ (wm_8 (wm_2 (wm_1 wm_h)))), ?_⟩
  refine wm_c ⟨(wk_X4_readBracket_X4_readBracket_r2 _ (wm_8 (wm_4 wm_h))), ?_⟩
  refine wm_c ⟨(wk_X4_readBracket_X4_readBracket_r2 _ (wm_8 (wm_4 (wm_1 wm_h)))), ?_⟩
  refine wm_c ⟨(wk_X4_readBracket_X4_readBracket_r2 _ (wm_8 (wm_4 (wm_2 wm_h)))), ?_⟩
  exact wm_n
set_option maxRecDepth 20000 in
theorem gX4_readBracket_X0_copy : GoodIn wsX4_readBracket (wsV RX4 57 RX0 yX0_copy wsX0_copy) := by
  refine goodIn_app (goodIn_sub ?_ ?_) ggX4_readBracket_X0_copy
  · exact wm_c ⟨(wk_X4_readBracket_X4_readBracket_r2 _ (wm_4 (wm_2 wm_h))), wm_c ⟨(wk_X4_readBracket_X4_readBracket_r2 _ (wm_4 (wm_2 (wm_1 wm_h)))), wm_c ⟨(wk_X4_readBracket_X4_readBracket_r2 _ (wm_8 wm_h)), wm_c ⟨(wk_X4_readBracket_X4_readBracket_r2 _ (wm_8 (wm_1 wm_h))), wm_n⟩⟩⟩⟩
  · decide +kernel
set_option maxRecDepth 20000 in
theorem ggX4_readBracket_X0_commute : GoodIn wsX4_readBracket wsX0_commute := by
  refine goodIn_sub ?_ gd_X0_commute
  unfold wsX0_commute
  refine wm_c ⟨(wk_X4_readBracket_X4_readBracket_r2 _ (wm_16 (wm_2 wm_h))), ?_⟩
  refine wm_a ⟨?_, ?_⟩
  · refine wm_c ⟨(wk_X4_readBracket_X4_readBracket_r2 _ (wm_16 (wm_2 (wm_1 wm_h)))), ?_⟩
    refine wm_c ⟨(wk_X4_readBracket_X4_readBracket_r2 _ (wm_16 (wm_4 wm_h))), ?_⟩
    refine wm_c ⟨(wk_X4_readBracket_X4_readBracket_r2 _ (wm_16 (wm_4 (wm_1 wm_h)))), ?_⟩
    refine wm_c ⟨(wk_X4_readBracket_X4_readBracket_r2 _ (wm_16 (wm_4 (wm_2 wm_h)))), ?_⟩
    refine wm_c ⟨(wk_X4_readBracket_X4_readBracket_r2 _ (wm_16 (wm_4 (wm_2 (wm_1 wm_h))))), ?_⟩
    refine wm_c ⟨(wk_X4_readBracket_X4_readBracket_r3 _ wm_h), ?_⟩
    refine wm_c ⟨(wk_X4_readBracket_X4_readBracket_r3 _ (wm_1 wm_h)), ?_⟩
    refine wm_c ⟨(wk_X4_readBracket_X4_readBracket_r3 _ (wm_2 wm_h)), ?_⟩
    refine wm_c ⟨(wk_X4_readBracket_X4_readBracket_r3 _ (wm_2 (wm_1 wm_h))), ?_⟩
    refine wm_c ⟨(wk_X4_readBracket_X4_readBracket_r3 _ (wm_4 wm_h)), ?_⟩
    refine wm_c ⟨(wk_X4_readBracket_X4_readBracket_r2 _ (wm_8 (wm_1 wm_h))), ?_⟩
    refine wm_c ⟨(wk_X4_readBracket_X4_readBracket_r3 _ (wm_4 (wm_1 wm_h))), ?_⟩
    refine wm_c ⟨(wk_X4_readBracket_X4_readBracket_r3 _ (wm_4 (wm_2 wm_h))), ?_⟩
    refine wm_c ⟨(wk_X4_readBracket_X4_readBracket_r3 _ (wm_4 (wm_2 (wm_1 wm_h)))), ?_⟩
    refine wm_c ⟨(wk_X4_readBracket_X4_readBracket_r3 _ (wm_8 wm_h)), ?_⟩
    refine wm_c ⟨(wk_X4_readBracket_X4_readBracket_r3 _ (wm_8 (wm_1 wm_h))), ?_⟩
    refine wm_c ⟨(wk_X4_readBracket_X4_readBracket_r2 _ (wm_4 (wm_2 (wm_1 wm_h)))), ?_⟩
    refine wm_c ⟨(wk_X4_readBracket_X4_readBracket_r2 _ (wm_8 wm_h)), ?_⟩
    refine wm_c ⟨(wk_X4_readBracket_X4_readBracket_r2 _ (wm_8 (wm_2 wm_h))), ?_⟩
    refine wm_c ⟨(wk_X4_readBracket_X4_readBracket_r2 _ (wm_8 (wm_2 (wm_1 wm_h)))), ?_⟩
    refine wm_c ⟨(wk_X4_readBracket_X4_readBracket_r2 _ (wm_8 (wm_4 wm_h))), ?_⟩
    refine wm_c ⟨(wk_X4_readBracket_X4_readBracket_r2 _ (wm_8 (wm_4 (wm_1 wm_h)))), ?_⟩
    refine wm_c ⟨(wk_X4_readBracket_X4_readBracket_r2 _ (wm_8 (wm_4 (wm_2 wm_h)))), ?_⟩
    exact wm_n
  · exact wk_X4_readBracket_X00
set_option maxRecDepth 20000 in
theorem gX4_readBracket_X0_commute : GoodIn wsX4_readBracket (wsV RX4 147 RX0 yX0_commute wsX0_commute) := by
  refine goodIn_app (goodIn_sub ?_ ?_) ggX4_readBracket_X0_commute
  · exact wm_c ⟨(wk_X4_readBracket_X4_readBracket_r2 _ (wm_8 (wm_4 (wm_2 (wm_1 wm_h))))), wm_c ⟨(wk_X4_readBracket_X4_readBracket_r2 _ (wm_16 wm_h)), wm_c ⟨(wk_X4_readBracket_X4_readBracket_r2 _ (wm_16 (wm_1 wm_h))), wm_c ⟨(wk_X4_readBracket_X4_readBracket_r2 _ (wm_8 (wm_1 wm_h))), wm_n⟩⟩⟩⟩
  · decide +kernel
set_option maxRecDepth 20000 in
theorem ggX4_readBracket_X4_termOf : GoodIn wsX4_readBracket wsX4_termOf := by
  refine goodIn_sub ?_ gd_X4_termOf
  unfold wsX4_termOf
  refine wm_c ⟨(wk_X4_readBracket_X4_readBracket_r3 _ (wm_8 (wm_4 (wm_1 wm_h)))), ?_⟩
  refine wm_a ⟨?_, ?_⟩
  · refine wm_c ⟨(wk_X4_readBracket_X4_readBracket_r1 _ (wm_16 (wm_2 wm_h))), ?_⟩
    exact wm_n
  · exact wk_X4_readBracket_X40
set_option maxRecDepth 20000 in
theorem gX4_readBracket_X4_termOf : GoodIn wsX4_readBracket (wsV RX4 70 RX4 yX4_termOf wsX4_termOf) := by
  refine goodIn_app (goodIn_sub ?_ ?_) ggX4_readBracket_X4_termOf
  · exact wm_c ⟨(wk_X4_readBracket_X4_readBracket_r3 _ (wm_8 (wm_2 wm_h))), wm_c ⟨(wk_X4_readBracket_X4_readBracket_r3 _ (wm_8 (wm_2 (wm_1 wm_h)))), wm_c ⟨(wk_X4_readBracket_X4_readBracket_r3 _ (wm_8 (wm_4 wm_h))), wm_c ⟨(wk_X4_readBracket_X4_readBracket_r1 _ (wm_4 wm_h)), wm_n⟩⟩⟩⟩
  · decide +kernel
set_option maxRecDepth 20000 in
theorem ggX4_readBracket_X0_multiply : GoodIn wsX4_readBracket wsX0_multiply := by
  refine goodIn_sub ?_ gd_X0_multiply
  unfold wsX0_multiply
  refine wm_c ⟨(wk_X4_readBracket_X4_readBracket_r3 _ (wm_16 (wm_1 wm_h))), ?_⟩
  refine wm_a ⟨?_, ?_⟩
  · refine wm_c ⟨(wk_X4_readBracket_X4_readBracket_r2 _ (wm_16 (wm_2 (wm_1 wm_h)))), ?_⟩
    refine wm_c ⟨(wk_X4_readBracket_X4_readBracket_r2 _ (wm_16 (wm_4 wm_h))), ?_⟩
    refine wm_c ⟨(wk_X4_readBracket_X4_readBracket_r2 _ (wm_16 (wm_4 (wm_2 wm_h)))), ?_⟩
    refine wm_c ⟨(wk_X4_readBracket_X4_readBracket_r2 _ (wm_16 (wm_4 (wm_2 (wm_1 wm_h))))), ?_⟩
    refine wm_c ⟨(wk_X4_readBracket_X4_readBracket_r3 _ wm_h), ?_⟩
    refine wm_c ⟨(wk_X4_readBracket_X4_readBracket_r3 _ (wm_1 wm_h)), ?_⟩
    refine wm_c ⟨(wk_X4_readBracket_X4_readBracket_r3 _ (wm_2 wm_h)), ?_⟩
    refine wm_c ⟨(wk_X4_readBracket_X4_readBracket_r3 _ (wm_2 (wm_1 wm_h))), ?_⟩
    refine wm_c ⟨(wk_X4_readBracket_X4_readBracket_r3 _ (wm_4 wm_h)), ?_⟩
    refine wm_c ⟨(wk_X4_readBracket_X4_readBracket_r2 _ (wm_8 (wm_1 wm_h))), ?_⟩
    refine wm_c ⟨(wk_X4_readBracket_X4_readBracket_r3 _ (wm_4 (wm_1 wm_h))), ?_⟩
    refine wm_c ⟨(wk_X4_readBracket_X4_readBracket_r3 _ (wm_4 (wm_2 wm_h))), ?_⟩
    refine wm_c ⟨(wk_X4_readBracket_X4_readBracket_r3 _ (wm_4 (wm_2 (wm_1 wm_h)))), ?_⟩
    refine wm_c ⟨(wk_X4_readBracket_X4_readBracket_r3 _ (wm_8 wm_h)), ?_⟩
    refine wm_c ⟨(wk_X4_readBracket_X4_readBracket_r3 _ (wm_8 (wm_1 wm_h))), ?_⟩
    refine wm_c ⟨(wk_X4_readBracket_X4_readBracket_r2 _ (wm_4 (wm_2 (wm_1 wm_h)))), ?_⟩
    refine wm_c ⟨(wk_X4_readBracket_X4_readBracket_r2 _ (wm_8 wm_h)), ?_⟩
    refine wm_c ⟨(wk_X4_readBracket_X4_readBracket_r2 _ (wm_8 (wm_2 wm_h))), ?_⟩
    refine wm_c ⟨(wk_X4_readBracket_X4_readBracket_r2 _ (wm_8 (wm_2 (wm_1 wm_h)))), ?_⟩
    refine wm_c ⟨(wk_X4_readBracket_X4_readBracket_r2 _ (wm_8 (wm_4 wm_h))), ?_⟩
    refine wm_c ⟨(wk_X4_readBracket_X4_readBracket_r2 _ (wm_8 (wm_4 (wm_1 wm_h)))), ?_⟩
    refine wm_c ⟨(wk_X4_readBracket_X4_readBracket_r2 _ (wm_8 (wm_4 (wm_2 wm_h)))), ?_⟩
    exact wm_n
  · exact wk_X4_readBracket_X00
set_option maxRecDepth 20000 in
theorem gX4_readBracket_X0_multiply : GoodIn wsX4_readBracket (wsV RX4 133 RX0 yX0_multiply wsX0_multiply) := by
  refine goodIn_app (goodIn_sub ?_ ?_) ggX4_readBracket_X0_multiply
  · exact wm_c ⟨(wk_X4_readBracket_X4_readBracket_r3 _ (wm_8 (wm_4 (wm_2 wm_h)))), wm_c ⟨(wk_X4_readBracket_X4_readBracket_r3 _ (wm_8 (wm_4 (wm_2 (wm_1 wm_h))))), wm_c ⟨(wk_X4_readBracket_X4_readBracket_r3 _ (wm_16 wm_h)), wm_c ⟨(wk_X4_readBracket_X4_readBracket_r2 _ (wm_8 (wm_1 wm_h))), wm_n⟩⟩⟩⟩
  · decide +kernel
theorem dX4_readBracket_0 : decode cX4_readBracket 0 = .ok (.aload_n 0, 1) := by decide +kernel
theorem dX4_readBracket_1 : decode cX4_readBracket 1 = .ok (.bipush 91, 2) := by decide +kernel
theorem dX4_readBracket_3 : decode cX4_readBracket 3 = .ok (.iload_n 1, 1) := by decide +kernel
theorem dX4_readBracket_4 : decode cX4_readBracket 4 = .ok (.invokevirtual 137, 3) := by decide +kernel
theorem dX4_readBracket_7 : decode cX4_readBracket 7 = .ok (.ifCond .ne 4, 3) := by decide +kernel
theorem dX4_readBracket_10 : decode cX4_readBracket 10 = .ok (.return_, 1) := by decide +kernel
theorem dX4_readBracket_11 : decode cX4_readBracket 11 = .ok (.aload_n 0, 1) := by decide +kernel
theorem dX4_readBracket_12 : decode cX4_readBracket 12 = .ok (.iload_n 1, 1) := by decide +kernel
theorem dX4_readBracket_13 : decode cX4_readBracket 13 = .ok (.iconst 1, 1) := by decide +kernel
theorem dX4_readBracket_14 : decode cX4_readBracket 14 = .ok (.iadd, 1) := by decide +kernel
theorem dX4_readBracket_15 : decode cX4_readBracket 15 = .ok (.invokevirtual 53, 3) := by decide +kernel
theorem dX4_readBracket_18 : decode cX4_readBracket 18 = .ok (.astore_n 2, 1) := by decide +kernel
theorem dX4_readBracket_19 : decode cX4_readBracket 19 = .ok (.aload_n 0, 1) := by decide +kernel
theorem dX4_readBracket_20 : decode cX4_readBracket 20 = .ok (.iload_n 1, 1) := by decide +kernel
theorem dX4_readBracket_21 : decode cX4_readBracket 21 = .ok (.iconst 1, 1) := by decide +kernel
theorem dX4_readBracket_22 : decode cX4_readBracket 22 = .ok (.iadd, 1) := by decide +kernel
theorem dX4_readBracket_23 : decode cX4_readBracket 23 = .ok (.invokevirtual 49, 3) := by decide +kernel
theorem dX4_readBracket_26 : decode cX4_readBracket 26 = .ok (.aload_n 0, 1) := by decide +kernel
theorem dX4_readBracket_27 : decode cX4_readBracket 27 = .ok (.bipush 44, 2) := by decide +kernel
theorem dX4_readBracket_29 : decode cX4_readBracket 29 = .ok (.invokevirtual 141, 3) := by decide +kernel
theorem dX4_readBracket_32 : decode cX4_readBracket 32 = .ok (.ifCond .ne 4, 3) := by decide +kernel
theorem dX4_readBracket_35 : decode cX4_readBracket 35 = .ok (.return_, 1) := by decide +kernel
theorem dX4_readBracket_36 : decode cX4_readBracket 36 = .ok (.aload_n 0, 1) := by decide +kernel
theorem dX4_readBracket_37 : decode cX4_readBracket 37 = .ok (.getfield 15, 3) := by decide +kernel
theorem dX4_readBracket_40 : decode cX4_readBracket 40 = .ok (.aload_n 0, 1) := by decide +kernel
theorem dX4_readBracket_41 : decode cX4_readBracket 41 = .ok (.iload_n 1, 1) := by decide +kernel
theorem dX4_readBracket_42 : decode cX4_readBracket 42 = .ok (.invokevirtual 144, 3) := by decide +kernel
theorem dX4_readBracket_45 : decode cX4_readBracket 45 = .ok (.aload_n 2, 1) := by decide +kernel
theorem dX4_readBracket_46 : decode cX4_readBracket 46 = .ok (.invokevirtual 57, 3) := by decide +kernel
theorem dX4_readBracket_49 : decode cX4_readBracket 49 = .ok (.aload_n 0, 1) := by decide +kernel
theorem dX4_readBracket_50 : decode cX4_readBracket 50 = .ok (.iload_n 1, 1) := by decide +kernel
theorem dX4_readBracket_51 : decode cX4_readBracket 51 = .ok (.iconst 1, 1) := by decide +kernel
theorem dX4_readBracket_52 : decode cX4_readBracket 52 = .ok (.iadd, 1) := by decide +kernel
theorem dX4_readBracket_53 : decode cX4_readBracket 53 = .ok (.invokevirtual 49, 3) := by decide +kernel
theorem dX4_readBracket_56 : decode cX4_readBracket 56 = .ok (.aload_n 0, 1) := by decide +kernel
theorem dX4_readBracket_57 : decode cX4_readBracket 57 = .ok (.bipush 93, 2) := by decide +kernel
theorem dX4_readBracket_59 : decode cX4_readBracket 59 = .ok (.invokevirtual 141, 3) := by decide +kernel
theorem dX4_readBracket_62 : decode cX4_readBracket 62 = .ok (.ifCond .ne 4, 3) := by decide +kernel
theorem dX4_readBracket_65 : decode cX4_readBracket 65 = .ok (.return_, 1) := by decide +kernel
theorem dX4_readBracket_66 : decode cX4_readBracket 66 = .ok (.aload_n 0, 1) := by decide +kernel
theorem dX4_readBracket_67 : decode cX4_readBracket 67 = .ok (.getfield 15, 3) := by decide +kernel
theorem dX4_readBracket_70 : decode cX4_readBracket 70 = .ok (.aload_n 2, 1) := by decide +kernel
theorem dX4_readBracket_71 : decode cX4_readBracket 71 = .ok (.aload_n 0, 1) := by decide +kernel
theorem dX4_readBracket_72 : decode cX4_readBracket 72 = .ok (.iload_n 1, 1) := by decide +kernel
theorem dX4_readBracket_73 : decode cX4_readBracket 73 = .ok (.invokevirtual 144, 3) := by decide +kernel
theorem dX4_readBracket_76 : decode cX4_readBracket 76 = .ok (.aload_n 2, 1) := by decide +kernel
theorem dX4_readBracket_77 : decode cX4_readBracket 77 = .ok (.invokevirtual 147, 3) := by decide +kernel
theorem dX4_readBracket_80 : decode cX4_readBracket 80 = .ok (.aload_n 0, 1) := by decide +kernel
theorem dX4_readBracket_81 : decode cX4_readBracket 81 = .ok (.getfield 15, 3) := by decide +kernel
theorem dX4_readBracket_84 : decode cX4_readBracket 84 = .ok (.aload_n 0, 1) := by decide +kernel
theorem dX4_readBracket_85 : decode cX4_readBracket 85 = .ok (.iload_n 1, 1) := by decide +kernel
theorem dX4_readBracket_86 : decode cX4_readBracket 86 = .ok (.invokevirtual 70, 3) := by decide +kernel
theorem dX4_readBracket_89 : decode cX4_readBracket 89 = .ok (.aload_n 0, 1) := by decide +kernel
theorem dX4_readBracket_90 : decode cX4_readBracket 90 = .ok (.iload_n 1, 1) := by decide +kernel
theorem dX4_readBracket_91 : decode cX4_readBracket 91 = .ok (.invokevirtual 70, 3) := by decide +kernel
theorem dX4_readBracket_94 : decode cX4_readBracket 94 = .ok (.aload_n 2, 1) := by decide +kernel
theorem dX4_readBracket_95 : decode cX4_readBracket 95 = .ok (.invokevirtual 133, 3) := by decide +kernel
theorem dX4_readBracket_98 : decode cX4_readBracket 98 = .ok (.return_, 1) := by decide +kernel
set_option maxRecDepth 20000 in
theorem ggX4_readRound_X4_hand : GoodIn wsX4_readRound wsX4_hand := by
  refine goodIn_sub ?_ gd_X4_hand
  unfold wsX4_hand
  refine wm_c ⟨(wk_X4_readRound_X4_readRound_r1 _ (wm_4 (wm_2 (wm_1 wm_h)))), ?_⟩
  refine wm_a ⟨?_, ?_⟩
  · refine wm_c ⟨(wk_X4_readRound_X4_readRound_r1 _ wm_h), ?_⟩
    refine wm_c ⟨(wk_X4_readRound_X4_readRound_r1 _ (wm_8 wm_h)), ?_⟩
    refine wm_c ⟨(wk_X4_readRound_X4_readRound_r1 _ (wm_8 (wm_1 wm_h))), ?_⟩
    exact wm_n
  · exact wk_X4_readRound_X40
set_option maxRecDepth 20000 in
theorem gX4_readRound_X4_hand : GoodIn wsX4_readRound (wsV RX4 77 RX4 yX4_hand wsX4_hand) := by
  refine goodIn_app (goodIn_sub ?_ ?_) ggX4_readRound_X4_hand
  · exact wm_c ⟨(wk_X4_readRound_X4_readRound_r1 _ (wm_2 (wm_1 wm_h))), wm_c ⟨(wk_X4_readRound_X4_readRound_r1 _ (wm_4 wm_h)), wm_c ⟨(wk_X4_readRound_X4_readRound_r1 _ (wm_4 (wm_1 wm_h))), wm_c ⟨(wk_X4_readRound_X4_readRound_r1 _ (wm_4 (wm_2 wm_h))), wm_n⟩⟩⟩⟩
  · decide +kernel
set_option maxRecDepth 20000 in
theorem ggX4_readRound_X4_opens : GoodIn wsX4_readRound wsX4_opens := by
  refine goodIn_sub ?_ gd_X4_opens
  unfold wsX4_opens
  refine wm_c ⟨(wk_X4_readRound_X4_readRound_r1 _ (wm_8 (wm_4 (wm_1 wm_h)))), ?_⟩
  refine wm_a ⟨?_, ?_⟩
  · refine wm_c ⟨(wk_X4_readRound_X4_readRound_r1 _ wm_h), ?_⟩
    refine wm_c ⟨(wk_X4_readRound_X4_readRound_r1 _ (wm_8 (wm_4 (wm_2 wm_h)))), ?_⟩
    refine wm_c ⟨(wk_X4_readRound_X4_readRound_r1 _ (wm_2 (wm_1 wm_h))), ?_⟩
    refine wm_c ⟨(wk_X4_readRound_X4_readRound_r1 _ (wm_4 wm_h)), ?_⟩
    refine wm_c ⟨(wk_X4_readRound_X4_readRound_r1 _ (wm_4 (wm_1 wm_h))), ?_⟩
    refine wm_c ⟨(wk_X4_readRound_X4_readRound_r1 _ (wm_4 (wm_2 wm_h))), ?_⟩
    refine wm_c ⟨(wk_X4_readRound_X4_readRound_r1 _ (wm_4 (wm_2 (wm_1 wm_h)))), ?_⟩
    refine wm_c ⟨(wk_X4_readRound_X4_readRound_r1 _ (wm_8 wm_h)), ?_⟩
    refine wm_c ⟨(wk_X4_readRound_X4_readRound_r1 _ (wm_8 (wm_1 wm_h))), ?_⟩
    exact wm_n
  · exact wk_X4_readRound_X40
set_option maxRecDepth 20000 in
theorem gX4_readRound_X4_opens : GoodIn wsX4_readRound (wsV RX4 137 RX4 yX4_opens wsX4_opens) := by
  refine goodIn_app (goodIn_sub ?_ ?_) ggX4_readRound_X4_opens
  · exact wm_c ⟨(wk_X4_readRound_X4_readRound_r1 _ (wm_8 (wm_2 wm_h))), wm_c ⟨(wk_X4_readRound_X4_readRound_r1 _ (wm_8 (wm_2 (wm_1 wm_h)))), wm_c ⟨(wk_X4_readRound_X4_readRound_r1 _ (wm_8 (wm_4 wm_h))), wm_c ⟨(wk_X4_readRound_X4_readRound_r1 _ (wm_4 (wm_2 wm_h))), wm_n⟩⟩⟩⟩
  · decide +kernel
set_option maxRecDepth 20000 in
theorem ggX4_readRound_X4_wholeOf : GoodIn wsX4_readRound wsX4_wholeOf := by
  refine goodIn_sub ?_ gd_X4_wholeOf
  unfold wsX4_wholeOf
  refine wm_c ⟨(wk_X4_readRound_X4_readRound_r1 _ (wm_16 (wm_2 wm_h))), ?_⟩
  refine wm_a ⟨?_, ?_⟩
  · refine wm_c ⟨(wk_X4_readRound_X4_readRound_r1 _ (wm_16 (wm_2 (wm_1 wm_h)))), ?_⟩
    exact wm_n
  · exact wk_X4_readRound_X40
set_option maxRecDepth 20000 in
theorem gX4_readRound_X4_wholeOf : GoodIn wsX4_readRound (wsV RX4 53 RX4 yX4_wholeOf wsX4_wholeOf) := by
  refine goodIn_app (goodIn_sub ?_ ?_) ggX4_readRound_X4_wholeOf
  · exact wm_c ⟨(wk_X4_readRound_X4_readRound_r1 _ (wm_8 (wm_4 (wm_2 (wm_1 wm_h))))), wm_c ⟨(wk_X4_readRound_X4_readRound_r1 _ (wm_16 wm_h)), wm_c ⟨(wk_X4_readRound_X4_readRound_r1 _ (wm_16 (wm_1 wm_h))), wm_c ⟨(wk_X4_readRound_X4_readRound_r1 _ (wm_4 (wm_2 wm_h))), wm_n⟩⟩⟩⟩
  · decide +kernel
set_option maxRecDepth 20000 in
theorem ggX4_readRound_X4_readText : GoodIn wsX4_readRound wsX4_readText := by
  refine goodIn_sub ?_ gd_X4_readText
  unfold wsX4_readText
  refine wm_c ⟨(wk_X4_readRound_X4_readRound_r7 _ (wm_1 wm_h)), ?_⟩
  refine wm_a ⟨?_, ?_⟩
  · refine wm_a ⟨?_, ?_⟩
    · refine wm_a ⟨?_, ?_⟩
      · refine wm_a ⟨?_, ?_⟩
        · unfold wsX4_readText_r1
          refine wm_c ⟨(wk_X4_readRound_X4_readRound_r1 _ (wm_8 (wm_4 (wm_2 wm_h)))), ?_⟩
          refine wm_c ⟨(wk_X4_readRound_X4_readRound_r1 _ (wm_1 wm_h)), ?_⟩
          refine wm_c ⟨(wk_X4_readRound_X4_readRound_r7 _ (wm_2 wm_h)), ?_⟩
          refine wm_c ⟨(wk_X4_readRound_X4_readRound_r1 _ wm_h), ?_⟩
          refine wm_c ⟨(wk_X4_readRound_X4_readRound_r1 _ (wm_8 (wm_4 (wm_2 (wm_1 wm_h))))), ?_⟩
          refine wm_c ⟨(wk_X4_readRound_X4_readRound_r1 _ (wm_16 wm_h)), ?_⟩
          refine wm_c ⟨(wk_X4_readRound_X4_readRound_r1 _ (wm_16 (wm_1 wm_h))), ?_⟩
          refine wm_c ⟨(wk_X4_readRound_X4_readRound_r1 _ (wm_4 (wm_2 wm_h))), ?_⟩
          refine wm_c ⟨(wk_X4_readRound_X4_readRound_r1 _ (wm_16 (wm_2 wm_h))), ?_⟩
          refine wm_c ⟨(wk_X4_readRound_X4_readRound_r1 _ (wm_16 (wm_2 (wm_1 wm_h)))), ?_⟩
          refine wm_c ⟨(wk_X4_readRound_X4_readRound_r7 _ (wm_2 (wm_1 wm_h))), ?_⟩
          refine wm_c ⟨(wk_X4_readRound_X4_readRound_r2 _ (wm_16 (wm_1 wm_h))), ?_⟩
          refine wm_c ⟨(wk_X4_readRound_X4_readRound_r2 _ (wm_16 (wm_2 wm_h))), ?_⟩
          refine wm_c ⟨(wk_X4_readRound_X4_readRound_r2 _ (wm_16 (wm_2 (wm_1 wm_h)))), ?_⟩
          refine wm_c ⟨(wk_X4_readRound_X4_readRound_r7 _ (wm_4 wm_h)), ?_⟩
          refine wm_c ⟨(wk_X4_readRound_X4_readRound_r7 _ (wm_4 (wm_1 wm_h))), ?_⟩
          refine wm_c ⟨(wk_X4_readRound_X4_readRound_r7 _ (wm_4 (wm_2 wm_h))), ?_⟩
          refine wm_c ⟨(wk_X4_readRound_X4_readRound_r3 _ (wm_16 (wm_1 wm_h))), ?_⟩
          refine wm_c ⟨(wk_X4_readRound_X4_readRound_r3 _ (wm_16 (wm_2 wm_h))), ?_⟩
          refine wm_c ⟨(wk_X4_readRound_X4_readRound_r3 _ (wm_16 (wm_2 (wm_1 wm_h)))), ?_⟩
          refine wm_c ⟨(wk_X4_readRound_X4_readRound_r3 _ (wm_16 (wm_4 wm_h))), ?_⟩
          refine wm_c ⟨(wk_X4_readRound_X4_readRound_r7 _ (wm_4 (wm_2 (wm_1 wm_h)))), ?_⟩
          refine wm_c ⟨(wk_X4_readRound_X4_readRound_r7 _ (wm_8 wm_h)), ?_⟩
          refine wm_c ⟨(wk_X4_readRound_X4_readRound_r7 _ (wm_8 (wm_1 wm_h))), ?_⟩
          exact wm_n
        · refine wm_a ⟨?_, ?_⟩
          · unfold wsX4_readText_r2
            refine wm_c ⟨(wk_X4_readRound_X4_readRound_r2 _ (wm_4 (wm_2 wm_h))), ?_⟩
            refine wm_c ⟨(wk_X4_readRound_X4_readRound_r7 _ (wm_8 (wm_2 wm_h))), ?_⟩
            refine wm_c ⟨(wk_X4_readRound_X4_readRound_r7 _ (wm_8 (wm_2 (wm_1 wm_h)))), ?_⟩
            refine wm_c ⟨(wk_X4_readRound_X4_readRound_r7 _ (wm_8 (wm_4 wm_h))), ?_⟩
            refine wm_c ⟨(wk_X4_readRound_X4_readRound_r5 _ (wm_2 (wm_1 wm_h))), ?_⟩
            refine wm_c ⟨(wk_X4_readRound_X4_readRound_r7 _ (wm_8 (wm_4 (wm_1 wm_h)))), ?_⟩
            refine wm_c ⟨(wk_X4_readRound_X4_readRound_r5 _ (wm_4 (wm_1 wm_h))), ?_⟩
            refine wm_c ⟨(wk_X4_readRound_X4_readRound_r1 _ (wm_2 (wm_1 wm_h))), ?_⟩
            refine wm_c ⟨(wk_X4_readRound_X4_readRound_r1 _ (wm_4 wm_h)), ?_⟩
            refine wm_c ⟨(wk_X4_readRound_X4_readRound_r1 _ (wm_4 (wm_1 wm_h))), ?_⟩
            refine wm_c ⟨(wk_X4_readRound_X4_readRound_r1 _ (wm_4 (wm_2 (wm_1 wm_h)))), ?_⟩
            refine wm_c ⟨(wk_X4_readRound_X4_readRound_r1 _ (wm_8 wm_h)), ?_⟩
            refine wm_c ⟨(wk_X4_readRound_X4_readRound_r1 _ (wm_8 (wm_1 wm_h))), ?_⟩
            refine wm_c ⟨(wk_X4_readRound_X4_readRound_r4 _ (wm_2 wm_h)), ?_⟩
            refine wm_c ⟨(wk_X4_readRound_X4_readRound_r1 _ (wm_8 (wm_2 wm_h))), ?_⟩
            refine wm_c ⟨(wk_X4_readRound_X4_readRound_r1 _ (wm_8 (wm_2 (wm_1 wm_h)))), ?_⟩
            refine wm_c ⟨(wk_X4_readRound_X4_readRound_r1 _ (wm_8 (wm_4 wm_h))), ?_⟩
            refine wm_c ⟨(wk_X4_readRound_X4_readRound_r1 _ (wm_8 (wm_4 (wm_1 wm_h)))), ?_⟩
            refine wm_c ⟨(wk_X4_readRound_X4_readRound_r1 _ (wm_16 (wm_4 wm_h))), ?_⟩
            refine wm_c ⟨(wk_X4_readRound_X4_readRound_r1 _ (wm_16 (wm_4 (wm_1 wm_h)))), ?_⟩
            refine wm_c ⟨(wk_X4_readRound_X4_readRound_r1 _ (wm_16 (wm_4 (wm_2 wm_h)))), ?_⟩
            refine wm_c ⟨(wk_X4_readRound_X4_readRound_r1 _ (wm_16 (wm_4 (wm_2 (wm_1 wm_h))))), ?_⟩
            refine wm_c ⟨(wk_X4_readRound_X4_readRound_r2 _ wm_h), ?_⟩
            refine wm_c ⟨(wk_X4_readRound_X4_readRound_r2 _ (wm_1 wm_h)), ?_⟩
            exact wm_n
          · refine wm_a ⟨?_, ?_⟩
            · unfold wsX4_readText_r3
              refine wm_c ⟨(wk_X4_readRound_X4_readRound_r2 _ (wm_2 wm_h)), ?_⟩
              refine wm_c ⟨(wk_X4_readRound_X4_readRound_r4 _ (wm_2 (wm_1 wm_h))), ?_⟩
              refine wm_c ⟨(wk_X4_readRound_X4_readRound_r4 _ (wm_4 wm_h)), ?_⟩
              refine wm_c ⟨(wk_X4_readRound_X4_readRound_r4 _ (wm_4 (wm_1 wm_h))), ?_⟩
              refine wm_c ⟨(wk_X4_readRound_X4_readRound_r4 _ (wm_4 (wm_2 wm_h))), ?_⟩
              refine wm_c ⟨(wk_X4_readRound_X4_readRound_r4 _ (wm_4 (wm_2 (wm_1 wm_h)))), ?_⟩
              refine wm_c ⟨(wk_X4_readRound_X4_readRound_r3 _ (wm_4 wm_h)), ?_⟩
              refine wm_c ⟨(wk_X4_readRound_X4_readRound_r3 _ (wm_4 (wm_1 wm_h))), ?_⟩
              refine wm_c ⟨(wk_X4_readRound_X4_readRound_r3 _ (wm_4 (wm_2 wm_h))), ?_⟩
              refine wm_c ⟨(wk_X4_readRound_X4_readRound_r3 _ (wm_4 (wm_2 (wm_1 wm_h)))), ?_⟩
              refine wm_c ⟨(wk_X4_readRound_X4_readRound_r3 _ (wm_8 wm_h)), ?_⟩
              refine wm_c ⟨(wk_X4_readRound_X4_readRound_r3 _ (wm_8 (wm_1 wm_h))), ?_⟩
              refine wm_c ⟨(wk_X4_readRound_X4_readRound_r3 _ (wm_8 (wm_2 wm_h))), ?_⟩
              refine wm_c ⟨(wk_X4_readRound_X4_readRound_r4 _ (wm_8 wm_h)), ?_⟩
              refine wm_c ⟨(wk_X4_readRound_X4_readRound_r4 _ (wm_8 (wm_1 wm_h))), ?_⟩
              refine wm_c ⟨(wk_X4_readRound_X4_readRound_r4 _ (wm_8 (wm_2 wm_h))), ?_⟩
              refine wm_c ⟨(wk_X4_readRound_X4_readRound_r4 _ (wm_8 (wm_2 (wm_1 wm_h)))), ?_⟩
              refine wm_c ⟨(wk_X4_readRound_X4_readRound_r4 _ (wm_1 wm_h)), ?_⟩
              refine wm_c ⟨(wk_X4_readRound_X4_readRound_r2 _ (wm_8 (wm_2 wm_h))), ?_⟩
              refine wm_c ⟨(wk_X4_readRound_X4_readRound_r3 _ (wm_16 wm_h)), ?_⟩
              refine wm_c ⟨(wk_X4_readRound_X4_readRound_r2 _ (wm_16 wm_h)), ?_⟩
              refine wm_c ⟨(wk_X4_readRound_X4_readRound_r2 _ (wm_16 (wm_4 wm_h))), ?_⟩
              refine wm_c ⟨(wk_X4_readRound_X4_readRound_r2 _ (wm_16 (wm_4 (wm_1 wm_h)))), ?_⟩
              refine wm_c ⟨(wk_X4_readRound_X4_readRound_r2 _ (wm_16 (wm_4 (wm_2 wm_h)))), ?_⟩
              exact wm_n
            · refine wm_a ⟨?_, ?_⟩
              · unfold wsX4_readText_r4
                refine wm_c ⟨(wk_X4_readRound_X4_readRound_r2 _ (wm_16 (wm_4 (wm_2 (wm_1 wm_h))))), ?_⟩
                refine wm_c ⟨(wk_X4_readRound_X4_readRound_r3 _ wm_h), ?_⟩
                refine wm_c ⟨(wk_X4_readRound_X4_readRound_r3 _ (wm_1 wm_h)), ?_⟩
                refine wm_c ⟨(wk_X4_readRound_X4_readRound_r3 _ (wm_2 wm_h)), ?_⟩
                refine wm_c ⟨(wk_X4_readRound_X4_readRound_r3 _ (wm_2 (wm_1 wm_h))), ?_⟩
                refine wm_c ⟨(wk_X4_readRound_X4_readRound_r3 _ (wm_16 (wm_4 (wm_1 wm_h)))), ?_⟩
                refine wm_c ⟨(wk_X4_readRound_X4_readRound_r3 _ (wm_16 (wm_4 (wm_2 wm_h)))), ?_⟩
                refine wm_c ⟨(wk_X4_readRound_X4_readRound_r3 _ (wm_16 (wm_4 (wm_2 (wm_1 wm_h))))), ?_⟩
                refine wm_c ⟨(wk_X4_readRound_X4_readRound_r4 _ wm_h), ?_⟩
                refine wm_c ⟨(wk_X4_readRound_X4_readRound_r4 _ (wm_8 (wm_4 wm_h))), ?_⟩
                refine wm_c ⟨(wk_X4_readRound_X4_readRound_r4 _ (wm_8 (wm_4 (wm_1 wm_h)))), ?_⟩
                refine wm_c ⟨(wk_X4_readRound_X4_readRound_r4 _ (wm_8 (wm_4 (wm_2 wm_h)))), ?_⟩
                refine wm_c ⟨(wk_X4_readRound_X4_readRound_r4 _ (wm_8 (wm_4 (wm_2 (wm_1 wm_h))))), ?_⟩
                refine wm_c ⟨(wk_X4_readRound_X4_readRound_r4 _ (wm_16 wm_h)), ?_⟩
                refine wm_c ⟨(wk_X4_readRound_X4_readRound_r4 _ (wm_16 (wm_1 wm_h))), ?_⟩
                refine wm_c ⟨(wk_X4_readRound_X4_readRound_r4 _ (wm_16 (wm_2 wm_h))), ?_⟩
                refine wm_c ⟨(wk_X4_readRound_X4_readRound_r4 _ (wm_16 (wm_2 (wm_1 wm_h)))), ?_⟩
                refine wm_c ⟨(wk_X4_readRound_X4_readRound_r4 _ (wm_16 (wm_4 wm_h))), ?_⟩
                refine wm_c ⟨(wk_X4_readRound_X4_readRound_r4 _ (wm_16 (wm_4 (wm_1 wm_h)))), ?_⟩
                refine wm_c ⟨(wk_X4_readRound_X4_readRound_r4 _ (wm_16 (wm_4 (wm_2 wm_h)))), ?_⟩
                refine wm_c ⟨(wk_X4_readRound_X4_readRound_r4 _ (wm_16 (wm_4 (wm_2 (wm_1 wm_h))))), ?_⟩
                refine wm_c ⟨(wk_X4_readRound_X4_readRound_r5 _ wm_h), ?_⟩
                refine wm_c ⟨(wk_X4_readRound_X4_readRound_r5 _ (wm_1 wm_h)), ?_⟩
                refine wm_c ⟨(wk_X4_readRound_X4_readRound_r5 _ (wm_2 wm_h)), ?_⟩
                exact wm_n
              · refine wm_a ⟨?_, ?_⟩
                · unfold wsX4_readText_r5
                  refine wm_c ⟨(wk_X4_readRound_X4_readRound_r5 _ (wm_4 wm_h)), ?_⟩
                  refine wm_c ⟨(wk_X4_readRound_X4_readRound_r5 _ (wm_4 (wm_2 wm_h))), ?_⟩
                  refine wm_c ⟨(wk_X4_readRound_X4_readRound_r5 _ (wm_4 (wm_2 (wm_1 wm_h)))), ?_⟩
                  refine wm_c ⟨(wk_X4_readRound_X4_readRound_r5 _ (wm_8 wm_h)), ?_⟩
                  refine wm_c ⟨(wk_X4_readRound_X4_readRound_r5 _ (wm_8 (wm_1 wm_h))), ?_⟩
                  refine wm_c ⟨(wk_X4_readRound_X4_readRound_r5 _ (wm_8 (wm_2 wm_h))), ?_⟩
                  refine wm_c ⟨(wk_X4_readRound_X4_readRound_r5 _ (wm_8 (wm_2 (wm_1 wm_h)))), ?_⟩
                  refine wm_c ⟨(wk_X4_readRound_X4_readRound_r5 _ (wm_8 (wm_4 wm_h))), ?_⟩
                  refine wm_c ⟨(wk_X4_readRound_X4_readRound_r5 _ (wm_8 (wm_4 (wm_1 wm_h)))), ?_⟩
                  refine wm_c ⟨(wk_X4_readRound_X4_readRound_r5 _ (wm_8 (wm_4 (wm_2 wm_h)))), ?_⟩
                  refine wm_c ⟨(wk_X4_readRound_X4_readRound_r5 _ (wm_8 (wm_4 (wm_2 (wm_1 wm_h))))), ?_⟩
                  refine wm_c ⟨(wk_X4_readRound_X4_readRound_r5 _ (wm_16 wm_h)), ?_⟩
                  refine wm_c ⟨(wk_X4_readRound_X4_readRound_r5 _ (wm_16 (wm_1 wm_h))), ?_⟩
                  refine wm_c ⟨(wk_X4_readRound_X4_readRound_r5 _ (wm_16 (wm_2 wm_h))), ?_⟩
                  refine wm_c ⟨(wk_X4_readRound_X4_readRound_r5 _ (wm_16 (wm_2 (wm_1 wm_h)))), ?_⟩
                  refine wm_c ⟨(wk_X4_readRound_X4_readRound_r5 _ (wm_16 (wm_4 wm_h))), ?_⟩
                  refine wm_c ⟨(wk_X4_readRound_X4_readRound_r5 _ (wm_16 (wm_4 (wm_1 wm_h)))), ?_⟩
                  refine wm_c ⟨(wk_X4_readRound_X4_readRound_r5 _ (wm_16 (wm_4 (wm_2 wm_h)))), ?_⟩
                  refine wm_c ⟨(wk_X4_readRound_X4_readRound_r5 _ (wm_16 (wm_4 (wm_2 (wm_1 wm_h))))), ?_⟩
                  refine wm_c ⟨(wk_X4_readRound_X4_readRound_r6 _ wm_h), ?_⟩
                  refine wm_c ⟨(wk_X4_readRound_X4_readRound_r6 _ (wm_1 wm_h)), ?_⟩
                  refine wm_c ⟨(wk_X4_readRound_X4_readRound_r6 _ (wm_2 wm_h)), ?_⟩
                  refine wm_c ⟨(wk_X4_readRound_X4_readRound_r6 _ (wm_2 (wm_1 wm_h))), ?_⟩
                  refine wm_c ⟨(wk_X4_readRound_X4_readRound_r6 _ (wm_4 wm_h)), ?_⟩
                  exact wm_n
                · refine wm_a ⟨?_, ?_⟩
                  · unfold wsX4_readText_r6
                    refine wm_c ⟨(wk_X4_readRound_X4_readRound_r6 _ (wm_4 (wm_1 wm_h))), ?_⟩
                    refine wm_c ⟨(wk_X4_readRound_X4_readRound_r6 _ (wm_4 (wm_2 wm_h))), ?_⟩
                    refine wm_c ⟨wm_h, ?_⟩
                    refine wm_c ⟨(wk_X4_readRound_X4_readRound_r1 _ (wm_2 wm_h)), ?_⟩
                    refine wm_c ⟨(wk_X4_readRound_X4_readRound_r2 _ (wm_2 (wm_1 wm_h))), ?_⟩
                    refine wm_c ⟨(wk_X4_readRound_X4_readRound_r2 _ (wm_4 wm_h)), ?_⟩
                    refine wm_c ⟨(wk_X4_readRound_X4_readRound_r2 _ (wm_4 (wm_1 wm_h))), ?_⟩
                    refine wm_c ⟨(wk_X4_readRound_X4_readRound_r2 _ (wm_4 (wm_2 (wm_1 wm_h)))), ?_⟩
                    refine wm_c ⟨(wk_X4_readRound_X4_readRound_r2 _ (wm_8 wm_h)), ?_⟩
                    refine wm_c ⟨(wk_X4_readRound_X4_readRound_r2 _ (wm_8 (wm_1 wm_h))), ?_⟩
                    refine wm_c ⟨(wk_X4_readRound_X4_readRound_r2 _ (wm_8 (wm_2 (wm_1 wm_h)))), ?_⟩
                    refine wm_c ⟨(wk_X4_readRound_X4_readRound_r2 _ (wm_8 (wm_4 wm_h))), ?_⟩
                    refine wm_c ⟨(wk_X4_readRound_X4_readRound_r2 _ (wm_8 (wm_4 (wm_1 wm_h)))), ?_⟩
                    refine wm_c ⟨(wk_X4_readRound_X4_readRound_r2 _ (wm_8 (wm_4 (wm_2 wm_h)))), ?_⟩
                    refine wm_c ⟨(wk_X4_readRound_X4_readRound_r2 _ (wm_8 (wm_4 (wm_2 (wm_1 wm_h))))), ?_⟩
                    refine wm_c ⟨(wk_X4_readRound_X4_readRound_r3 _ (wm_8 (wm_2 (wm_1 wm_h)))), ?_⟩
                    refine wm_c ⟨(wk_X4_readRound_X4_readRound_r3 _ (wm_8 (wm_4 wm_h))), ?_⟩
                    refine wm_c ⟨(wk_X4_readRound_X4_readRound_r3 _ (wm_8 (wm_4 (wm_1 wm_h)))), ?_⟩
                    refine wm_c ⟨(wk_X4_readRound_X4_readRound_r3 _ (wm_8 (wm_4 (wm_2 wm_h)))), ?_⟩
                    refine wm_c ⟨(wk_X4_readRound_X4_readRound_r3 _ (wm_8 (wm_4 (wm_2 (wm_1 wm_h))))), ?_⟩
                    refine wm_c ⟨(wk_X4_readRound_X4_readRound_r6 _ (wm_4 (wm_2 (wm_1 wm_h)))), ?_⟩
                    refine wm_c ⟨(wk_X4_readRound_X4_readRound_r6 _ (wm_8 wm_h)), ?_⟩
                    refine wm_c ⟨(wk_X4_readRound_X4_readRound_r6 _ (wm_8 (wm_1 wm_h))), ?_⟩
                    refine wm_c ⟨(wk_X4_readRound_X4_readRound_r6 _ (wm_8 (wm_2 wm_h))), ?_⟩
                    exact wm_n
                  · unfold wsX4_readText_r7
                    refine wm_c ⟨(wk_X4_readRound_X4_readRound_r6 _ (wm_8 (wm_2 (wm_1 wm_h)))), ?_⟩
                    refine wm_c ⟨(wk_X4_readRound_X4_readRound_r6 _ (wm_8 (wm_4 wm_h))), ?_⟩
                    refine wm_c ⟨(wk_X4_readRound_X4_readRound_r6 _ (wm_8 (wm_4 (wm_1 wm_h)))), ?_⟩
                    refine wm_c ⟨(wk_X4_readRound_X4_readRound_r6 _ (wm_8 (wm_4 (wm_2 wm_h)))), ?_⟩
                    refine wm_c ⟨(wk_X4_readRound_X4_readRound_r6 _ (wm_8 (wm_4 (wm_2 (wm_1 wm_h))))), ?_⟩
                    refine wm_c ⟨(wk_X4_readRound_X4_readRound_r6 _ (wm_16 wm_h)), ?_⟩
                    refine wm_c ⟨(wk_X4_readRound_X4_readRound_r6 _ (wm_16 (wm_1 wm_h))), ?_⟩
                    refine wm_c ⟨(wk_X4_readRound_X4_readRound_r6 _ (wm_16 (wm_2 wm_h))), ?_⟩
                    refine wm_c ⟨(wk_X4_readRound_X4_readRound_r6 _ (wm_16 (wm_2 (wm_1 wm_h)))), ?_⟩
                    refine wm_c ⟨(wk_X4_readRound_X4_readRound_r6 _ (wm_16 (wm_4 wm_h))), ?_⟩
                    refine wm_c ⟨(wk_X4_readRound_X4_readRound_r6 _ (wm_16 (wm_4 (wm_1 wm_h)))), ?_⟩
                    refine wm_c ⟨(wk_X4_readRound_X4_readRound_r6 _ (wm_16 (wm_4 (wm_2 wm_h)))), ?_⟩
                    refine wm_c ⟨(wk_X4_readRound_X4_readRound_r6 _ (wm_16 (wm_4 (wm_2 (wm_1 wm_h))))), ?_⟩
                    refine wm_c ⟨(wk_X4_readRound_X4_readRound_r7 _ wm_h), ?_⟩
                    exact wm_n
      · exact wk_X4_readRound_X40
    · exact wk_X4_readRound_X00
  · exact wk_X4_readRound_X60
set_option maxRecDepth 20000 in
theorem gX4_readRound_X4_readText : GoodIn wsX4_readRound (wsV RX4 49 RX4 yX4_readText wsX4_readText) := by
  refine goodIn_app (goodIn_sub ?_ ?_) ggX4_readRound_X4_readText
  · exact wm_c ⟨(wk_X4_readRound_X4_readRound_r1 _ (wm_16 (wm_4 wm_h))), wm_c ⟨(wk_X4_readRound_X4_readRound_r1 _ (wm_16 (wm_4 (wm_1 wm_h)))), wm_c ⟨(wk_X4_readRound_X4_readRound_r1 _ (wm_16 (wm_4 (wm_2 wm_h)))), wm_c ⟨(wk_X4_readRound_X4_readRound_r1 _ (wm_4 (wm_2 wm_h))), wm_n⟩⟩⟩⟩
  · decide +kernel
set_option maxRecDepth 20000 in
theorem ggX4_readRound_X4_goesOn : GoodIn wsX4_readRound wsX4_goesOn := by
  refine goodIn_sub ?_ gd_X4_goesOn
  unfold wsX4_goesOn
  refine wm_c ⟨(wk_X4_readRound_X4_readRound_r2 _ (wm_2 wm_h)), ?_⟩
  refine wm_a ⟨?_, ?_⟩
  · refine wm_c ⟨(wk_X4_readRound_X4_readRound_r1 _ (wm_8 (wm_4 (wm_2 wm_h)))), ?_⟩
    refine wm_c ⟨(wk_X4_readRound_X4_readRound_r1 _ wm_h), ?_⟩
    refine wm_c ⟨(wk_X4_readRound_X4_readRound_r1 _ (wm_2 (wm_1 wm_h))), ?_⟩
    refine wm_c ⟨(wk_X4_readRound_X4_readRound_r1 _ (wm_4 wm_h)), ?_⟩
    refine wm_c ⟨(wk_X4_readRound_X4_readRound_r1 _ (wm_4 (wm_1 wm_h))), ?_⟩
    refine wm_c ⟨(wk_X4_readRound_X4_readRound_r1 _ (wm_4 (wm_2 wm_h))), ?_⟩
    refine wm_c ⟨(wk_X4_readRound_X4_readRound_r1 _ (wm_4 (wm_2 (wm_1 wm_h)))), ?_⟩
    refine wm_c ⟨(wk_X4_readRound_X4_readRound_r1 _ (wm_8 wm_h)), ?_⟩
    refine wm_c ⟨(wk_X4_readRound_X4_readRound_r1 _ (wm_8 (wm_1 wm_h))), ?_⟩
    exact wm_n
  · exact wk_X4_readRound_X40
set_option maxRecDepth 20000 in
theorem gX4_readRound_X4_goesOn : GoodIn wsX4_readRound (wsV RX4 141 RX4 yX4_goesOn wsX4_goesOn) := by
  refine goodIn_app (goodIn_sub ?_ ?_) ggX4_readRound_X4_goesOn
  · exact wm_c ⟨(wk_X4_readRound_X4_readRound_r1 _ (wm_16 (wm_4 (wm_2 (wm_1 wm_h))))), wm_c ⟨(wk_X4_readRound_X4_readRound_r2 _ wm_h), wm_c ⟨(wk_X4_readRound_X4_readRound_r2 _ (wm_1 wm_h)), wm_c ⟨(wk_X4_readRound_X4_readRound_r1 _ (wm_4 (wm_2 wm_h))), wm_n⟩⟩⟩⟩
  · decide +kernel
set_option maxRecDepth 20000 in
theorem ggX4_readRound_X0_raise : GoodIn wsX4_readRound wsX0_raise := by
  refine goodIn_sub ?_ gd_X0_raise
  unfold wsX0_raise
  refine wm_c ⟨(wk_X4_readRound_X4_readRound_r2 _ (wm_4 (wm_2 (wm_1 wm_h)))), ?_⟩
  refine wm_a ⟨?_, ?_⟩
  · refine wm_a ⟨?_, ?_⟩
    · unfold wsX0_raise_r1
      refine wm_c ⟨(wk_X4_readRound_X4_readRound_r2 _ (wm_8 wm_h)), ?_⟩
      refine wm_c ⟨(wk_X4_readRound_X4_readRound_r2 _ (wm_8 (wm_1 wm_h))), ?_⟩
      refine wm_c ⟨(wk_X4_readRound_X4_readRound_r2 _ (wm_8 (wm_2 wm_h))), ?_⟩
      refine wm_c ⟨(wk_X4_readRound_X4_readRound_r2 _ (wm_8 (wm_2 (wm_1 wm_h)))), ?_⟩
      refine wm_c ⟨(wk_X4_readRound_X4_readRound_r2 _ (wm_8 (wm_4 wm_h))), ?_⟩
      refine wm_c ⟨(wk_X4_readRound_X4_readRound_r2 _ (wm_8 (wm_4 (wm_1 wm_h)))), ?_⟩
      refine wm_c ⟨(wk_X4_readRound_X4_readRound_r2 _ (wm_8 (wm_4 (wm_2 wm_h)))), ?_⟩
      refine wm_c ⟨(wk_X4_readRound_X4_readRound_r2 _ (wm_4 (wm_2 wm_h))), ?_⟩
      refine wm_c ⟨(wk_X4_readRound_X4_readRound_r2 _ (wm_8 (wm_4 (wm_2 (wm_1 wm_h))))), ?_⟩
      refine wm_c ⟨(wk_X4_readRound_X4_readRound_r2 _ (wm_16 wm_h)), ?_⟩
      refine wm_c ⟨(wk_X4_readRound_X4_readRound_r2 _ (wm_16 (wm_1 wm_h))), ?_⟩
      refine wm_c ⟨(wk_X4_readRound_X4_readRound_r2 _ (wm_16 (wm_2 wm_h))), ?_⟩
      refine wm_c ⟨(wk_X4_readRound_X4_readRound_r2 _ (wm_16 (wm_2 (wm_1 wm_h)))), ?_⟩
      refine wm_c ⟨(wk_X4_readRound_X4_readRound_r2 _ (wm_16 (wm_4 wm_h))), ?_⟩
      refine wm_c ⟨(wk_X4_readRound_X4_readRound_r2 _ (wm_16 (wm_4 (wm_1 wm_h)))), ?_⟩
      refine wm_c ⟨(wk_X4_readRound_X4_readRound_r2 _ (wm_16 (wm_4 (wm_2 wm_h)))), ?_⟩
      refine wm_c ⟨(wk_X4_readRound_X4_readRound_r2 _ (wm_16 (wm_4 (wm_2 (wm_1 wm_h))))), ?_⟩
      refine wm_c ⟨(wk_X4_readRound_X4_readRound_r3 _ wm_h), ?_⟩
      refine wm_c ⟨(wk_X4_readRound_X4_readRound_r3 _ (wm_1 wm_h)), ?_⟩
      refine wm_c ⟨(wk_X4_readRound_X4_readRound_r3 _ (wm_2 wm_h)), ?_⟩
      refine wm_c ⟨(wk_X4_readRound_X4_readRound_r3 _ (wm_2 (wm_1 wm_h))), ?_⟩
      refine wm_c ⟨(wk_X4_readRound_X4_readRound_r3 _ (wm_4 wm_h)), ?_⟩
      refine wm_c ⟨(wk_X4_readRound_X4_readRound_r3 _ (wm_4 (wm_1 wm_h))), ?_⟩
      refine wm_c ⟨(wk_X4_readRound_X4_readRound_r3 _ (wm_4 (wm_2 wm_h))), ?_⟩
      exact wm_n
    · unfold wsX0_raise_r2
      refine wm_c ⟨(wk_X4_readRound_X4_readRound_r3 _ (wm_4 (wm_2 (wm_1 wm_h)))), ?_⟩
      refine wm_c ⟨(wk_X4_readRound_X4_readRound_r3 _ (wm_8 wm_h)), ?_⟩
      refine wm_c ⟨(wk_X4_readRound_X4_readRound_r3 _ (wm_8 (wm_1 wm_h))), ?_⟩
      refine wm_c ⟨(wk_X4_readRound_X4_readRound_r3 _ (wm_8 (wm_2 wm_h))), ?_⟩
      exact wm_n
  · exact wk_X4_readRound_X00
set_option maxRecDepth 20000 in
theorem gX4_readRound_X0_raise : GoodIn wsX4_readRound (wsV RX4 150 RX0 yX0_raise wsX0_raise) := by
  refine goodIn_app (goodIn_sub ?_ ?_) ggX4_readRound_X0_raise
  · exact wm_c ⟨(wk_X4_readRound_X4_readRound_r2 _ (wm_2 (wm_1 wm_h))), wm_c ⟨(wk_X4_readRound_X4_readRound_r2 _ (wm_4 wm_h)), wm_c ⟨(wk_X4_readRound_X4_readRound_r2 _ (wm_4 (wm_1 wm_h))), wm_c ⟨(wk_X4_readRound_X4_readRound_r2 _ (wm_4 (wm_2 wm_h))), wm_n⟩⟩⟩⟩
  · decide +kernel
set_option maxRecDepth 20000 in
theorem ggX4_readRound_X0_unraise : GoodIn wsX4_readRound wsX0_unraise := by
  refine goodIn_sub ?_ gd_X0_unraise
  unfold wsX0_unraise
  refine wm_c ⟨(wk_X4_readRound_X4_readRound_r3 _ (wm_8 (wm_4 (wm_2 wm_h)))), ?_⟩
  refine wm_a ⟨?_, ?_⟩
  · refine wm_a ⟨?_, ?_⟩
    · unfold wsX0_unraise_r1
      refine wm_c ⟨(wk_X4_readRound_X4_readRound_r3 _ (wm_8 (wm_4 (wm_2 (wm_1 wm_h))))), ?_⟩
      refine wm_c ⟨(wk_X4_readRound_X4_readRound_r2 _ (wm_8 wm_h)), ?_⟩
      refine wm_c ⟨(wk_X4_readRound_X4_readRound_r2 _ (wm_8 (wm_1 wm_h))), ?_⟩
      refine wm_c ⟨(wk_X4_readRound_X4_readRound_r2 _ (wm_8 (wm_2 (wm_1 wm_h)))), ?_⟩
      refine wm_c ⟨(wk_X4_readRound_X4_readRound_r2 _ (wm_8 (wm_2 wm_h))), ?_⟩
      refine wm_c ⟨(wk_X4_readRound_X4_readRound_r3 _ (wm_16 wm_h)), ?_⟩
      refine wm_c ⟨(wk_X4_readRound_X4_readRound_r3 _ (wm_2 (wm_1 wm_h))), ?_⟩
      refine wm_c ⟨(wk_X4_readRound_X4_readRound_r3 _ (wm_4 wm_h)), ?_⟩
      refine wm_c ⟨(wk_X4_readRound_X4_readRound_r3 _ (wm_4 (wm_1 wm_h))), ?_⟩
      refine wm_c ⟨(wk_X4_readRound_X4_readRound_r2 _ (wm_4 (wm_2 wm_h))), ?_⟩
      refine wm_c ⟨(wk_X4_readRound_X4_readRound_r3 _ (wm_4 (wm_2 wm_h))), ?_⟩
      refine wm_c ⟨(wk_X4_readRound_X4_readRound_r3 _ (wm_4 (wm_2 (wm_1 wm_h)))), ?_⟩
      refine wm_c ⟨(wk_X4_readRound_X4_readRound_r3 _ (wm_8 wm_h)), ?_⟩
      refine wm_c ⟨(wk_X4_readRound_X4_readRound_r3 _ (wm_8 (wm_1 wm_h))), ?_⟩
      refine wm_c ⟨(wk_X4_readRound_X4_readRound_r3 _ (wm_8 (wm_2 wm_h))), ?_⟩
      refine wm_c ⟨(wk_X4_readRound_X4_readRound_r2 _ (wm_8 (wm_4 wm_h))), ?_⟩
      refine wm_c ⟨(wk_X4_readRound_X4_readRound_r2 _ (wm_8 (wm_4 (wm_1 wm_h)))), ?_⟩
      refine wm_c ⟨(wk_X4_readRound_X4_readRound_r2 _ (wm_8 (wm_4 (wm_2 wm_h)))), ?_⟩
      refine wm_c ⟨(wk_X4_readRound_X4_readRound_r2 _ (wm_8 (wm_4 (wm_2 (wm_1 wm_h))))), ?_⟩
      refine wm_c ⟨(wk_X4_readRound_X4_readRound_r2 _ (wm_16 wm_h)), ?_⟩
      refine wm_c ⟨(wk_X4_readRound_X4_readRound_r2 _ (wm_16 (wm_1 wm_h))), ?_⟩
      refine wm_c ⟨(wk_X4_readRound_X4_readRound_r2 _ (wm_16 (wm_2 wm_h))), ?_⟩
      refine wm_c ⟨(wk_X4_readRound_X4_readRound_r2 _ (wm_16 (wm_2 (wm_1 wm_h)))), ?_⟩
      refine wm_c ⟨(wk_X4_readRound_X4_readRound_r2 _ (wm_16 (wm_4 wm_h))), ?_⟩
      exact wm_n
    · unfold wsX0_unraise_r2
      refine wm_c ⟨(wk_X4_readRound_X4_readRound_r2 _ (wm_16 (wm_4 (wm_1 wm_h)))), ?_⟩
      refine wm_c ⟨(wk_X4_readRound_X4_readRound_r2 _ (wm_16 (wm_4 (wm_2 wm_h)))), ?_⟩
      refine wm_c ⟨(wk_X4_readRound_X4_readRound_r2 _ (wm_16 (wm_4 (wm_2 (wm_1 wm_h))))), ?_⟩
      refine wm_c ⟨(wk_X4_readRound_X4_readRound_r3 _ wm_h), ?_⟩
      refine wm_c ⟨(wk_X4_readRound_X4_readRound_r3 _ (wm_1 wm_h)), ?_⟩
      refine wm_c ⟨(wk_X4_readRound_X4_readRound_r3 _ (wm_2 wm_h)), ?_⟩
      exact wm_n
  · exact wk_X4_readRound_X00
set_option maxRecDepth 20000 in
theorem gX4_readRound_X0_unraise : GoodIn wsX4_readRound (wsV RX4 153 RX0 yX0_unraise wsX0_unraise) := by
  refine goodIn_app (goodIn_sub ?_ ?_) ggX4_readRound_X0_unraise
  · exact wm_c ⟨(wk_X4_readRound_X4_readRound_r3 _ (wm_8 (wm_2 (wm_1 wm_h)))), wm_c ⟨(wk_X4_readRound_X4_readRound_r3 _ (wm_8 (wm_4 wm_h))), wm_c ⟨(wk_X4_readRound_X4_readRound_r3 _ (wm_8 (wm_4 (wm_1 wm_h)))), wm_c ⟨(wk_X4_readRound_X4_readRound_r2 _ (wm_4 (wm_2 wm_h))), wm_n⟩⟩⟩⟩
  · decide +kernel
set_option maxRecDepth 20000 in
theorem ggX4_readRound_X4_termOf : GoodIn wsX4_readRound wsX4_termOf := by
  refine goodIn_sub ?_ gd_X4_termOf
  unfold wsX4_termOf
  refine wm_c ⟨(wk_X4_readRound_X4_readRound_r3 _ (wm_16 (wm_4 wm_h))), ?_⟩
  refine wm_a ⟨?_, ?_⟩
  · refine wm_c ⟨(wk_X4_readRound_X4_readRound_r1 _ (wm_16 (wm_2 (wm_1 wm_h)))), ?_⟩
    exact wm_n
  · exact wk_X4_readRound_X40
set_option maxRecDepth 20000 in
theorem gX4_readRound_X4_termOf : GoodIn wsX4_readRound (wsV RX4 70 RX4 yX4_termOf wsX4_termOf) := by
  refine goodIn_app (goodIn_sub ?_ ?_) ggX4_readRound_X4_termOf
  · exact wm_c ⟨(wk_X4_readRound_X4_readRound_r3 _ (wm_16 (wm_1 wm_h))), wm_c ⟨(wk_X4_readRound_X4_readRound_r3 _ (wm_16 (wm_2 wm_h))), wm_c ⟨(wk_X4_readRound_X4_readRound_r3 _ (wm_16 (wm_2 (wm_1 wm_h)))), wm_c ⟨(wk_X4_readRound_X4_readRound_r1 _ (wm_4 (wm_2 wm_h))), wm_n⟩⟩⟩⟩
  · decide +kernel
set_option maxRecDepth 20000 in
theorem ggX4_readRound_X0_multiply : GoodIn wsX4_readRound wsX0_multiply := by
  refine goodIn_sub ?_ gd_X0_multiply
  unfold wsX0_multiply
  refine wm_c ⟨(wk_X4_readRound_X4_readRound_r4 _ wm_h), ?_⟩
  refine wm_a ⟨?_, ?_⟩
  · refine wm_c ⟨(wk_X4_readRound_X4_readRound_r4 _ (wm_1 wm_h)), ?_⟩
    refine wm_c ⟨(wk_X4_readRound_X4_readRound_r2 _ (wm_8 (wm_2 wm_h))), ?_⟩
    refine wm_c ⟨(wk_X4_readRound_X4_readRound_r2 _ (wm_16 wm_h)), ?_⟩
    refine wm_c ⟨(wk_X4_readRound_X4_readRound_r2 _ (wm_16 (wm_1 wm_h))), ?_⟩
    refine wm_c ⟨(wk_X4_readRound_X4_readRound_r2 _ (wm_16 (wm_2 wm_h))), ?_⟩
    refine wm_c ⟨(wk_X4_readRound_X4_readRound_r2 _ (wm_16 (wm_2 (wm_1 wm_h)))), ?_⟩
    refine wm_c ⟨(wk_X4_readRound_X4_readRound_r2 _ (wm_16 (wm_4 wm_h))), ?_⟩
    refine wm_c ⟨(wk_X4_readRound_X4_readRound_r2 _ (wm_16 (wm_4 (wm_1 wm_h)))), ?_⟩
    refine wm_c ⟨(wk_X4_readRound_X4_readRound_r2 _ (wm_16 (wm_4 (wm_2 wm_h)))), ?_⟩
    refine wm_c ⟨(wk_X4_readRound_X4_readRound_r2 _ (wm_4 (wm_2 wm_h))), ?_⟩
    refine wm_c ⟨(wk_X4_readRound_X4_readRound_r2 _ (wm_16 (wm_4 (wm_2 (wm_1 wm_h))))), ?_⟩
    refine wm_c ⟨(wk_X4_readRound_X4_readRound_r3 _ wm_h), ?_⟩
    refine wm_c ⟨(wk_X4_readRound_X4_readRound_r3 _ (wm_1 wm_h)), ?_⟩
    refine wm_c ⟨(wk_X4_readRound_X4_readRound_r3 _ (wm_2 wm_h)), ?_⟩
    refine wm_c ⟨(wk_X4_readRound_X4_readRound_r3 _ (wm_2 (wm_1 wm_h))), ?_⟩
    refine wm_c ⟨(wk_X4_readRound_X4_readRound_r3 _ (wm_4 wm_h)), ?_⟩
    refine wm_c ⟨(wk_X4_readRound_X4_readRound_r3 _ (wm_4 (wm_1 wm_h))), ?_⟩
    refine wm_c ⟨(wk_X4_readRound_X4_readRound_r3 _ (wm_4 (wm_2 wm_h))), ?_⟩
    refine wm_c ⟨(wk_X4_readRound_X4_readRound_r3 _ (wm_4 (wm_2 (wm_1 wm_h)))), ?_⟩
    refine wm_c ⟨(wk_X4_readRound_X4_readRound_r3 _ (wm_8 wm_h)), ?_⟩
    refine wm_c ⟨(wk_X4_readRound_X4_readRound_r3 _ (wm_8 (wm_1 wm_h))), ?_⟩
    refine wm_c ⟨(wk_X4_readRound_X4_readRound_r3 _ (wm_8 (wm_2 wm_h))), ?_⟩
    exact wm_n
  · exact wk_X4_readRound_X00
set_option maxRecDepth 20000 in
theorem gX4_readRound_X0_multiply : GoodIn wsX4_readRound (wsV RX4 133 RX0 yX0_multiply wsX0_multiply) := by
  refine goodIn_app (goodIn_sub ?_ ?_) ggX4_readRound_X0_multiply
  · exact wm_c ⟨(wk_X4_readRound_X4_readRound_r3 _ (wm_16 (wm_4 (wm_1 wm_h)))), wm_c ⟨(wk_X4_readRound_X4_readRound_r3 _ (wm_16 (wm_4 (wm_2 wm_h)))), wm_c ⟨(wk_X4_readRound_X4_readRound_r3 _ (wm_16 (wm_4 (wm_2 (wm_1 wm_h))))), wm_c ⟨(wk_X4_readRound_X4_readRound_r2 _ (wm_4 (wm_2 wm_h))), wm_n⟩⟩⟩⟩
  · decide +kernel
theorem dX4_readRound_0 : decode cX4_readRound 0 = .ok (.aload_n 0, 1) := by decide +kernel
theorem dX4_readRound_1 : decode cX4_readRound 1 = .ok (.invokevirtual 77, 3) := by decide +kernel
theorem dX4_readRound_4 : decode cX4_readRound 4 = .ok (.istore_n 2, 1) := by decide +kernel
theorem dX4_readRound_5 : decode cX4_readRound 5 = .ok (.iload_n 2, 1) := by decide +kernel
theorem dX4_readRound_6 : decode cX4_readRound 6 = .ok (.bipush 40, 2) := by decide +kernel
theorem dX4_readRound_8 : decode cX4_readRound 8 = .ok (.if_icmp .eq 13, 3) := by decide +kernel
theorem dX4_readRound_11 : decode cX4_readRound 11 = .ok (.aload_n 0, 1) := by decide +kernel
theorem dX4_readRound_12 : decode cX4_readRound 12 = .ok (.dup, 1) := by decide +kernel
theorem dX4_readRound_13 : decode cX4_readRound 13 = .ok (.getfield 39, 3) := by decide +kernel
theorem dX4_readRound_16 : decode cX4_readRound 16 = .ok (.iconst 1, 1) := by decide +kernel
theorem dX4_readRound_17 : decode cX4_readRound 17 = .ok (.iadd, 1) := by decide +kernel
theorem dX4_readRound_18 : decode cX4_readRound 18 = .ok (.putfield 39, 3) := by decide +kernel
theorem dX4_readRound_21 : decode cX4_readRound 21 = .ok (.aload_n 0, 1) := by decide +kernel
theorem dX4_readRound_22 : decode cX4_readRound 22 = .ok (.bipush 40, 2) := by decide +kernel
theorem dX4_readRound_24 : decode cX4_readRound 24 = .ok (.iload_n 1, 1) := by decide +kernel
theorem dX4_readRound_25 : decode cX4_readRound 25 = .ok (.invokevirtual 137, 3) := by decide +kernel
theorem dX4_readRound_28 : decode cX4_readRound 28 = .ok (.ifCond .ne 4, 3) := by decide +kernel
theorem dX4_readRound_31 : decode cX4_readRound 31 = .ok (.return_, 1) := by decide +kernel
theorem dX4_readRound_32 : decode cX4_readRound 32 = .ok (.aload_n 0, 1) := by decide +kernel
theorem dX4_readRound_33 : decode cX4_readRound 33 = .ok (.iload_n 1, 1) := by decide +kernel
theorem dX4_readRound_34 : decode cX4_readRound 34 = .ok (.iconst 1, 1) := by decide +kernel
theorem dX4_readRound_35 : decode cX4_readRound 35 = .ok (.iadd, 1) := by decide +kernel
theorem dX4_readRound_36 : decode cX4_readRound 36 = .ok (.invokevirtual 53, 3) := by decide +kernel
theorem dX4_readRound_39 : decode cX4_readRound 39 = .ok (.astore_n 3, 1) := by decide +kernel
theorem dX4_readRound_40 : decode cX4_readRound 40 = .ok (.aload_n 0, 1) := by decide +kernel
theorem dX4_readRound_41 : decode cX4_readRound 41 = .ok (.iload_n 1, 1) := by decide +kernel
theorem dX4_readRound_42 : decode cX4_readRound 42 = .ok (.iconst 1, 1) := by decide +kernel
theorem dX4_readRound_43 : decode cX4_readRound 43 = .ok (.iadd, 1) := by decide +kernel
theorem dX4_readRound_44 : decode cX4_readRound 44 = .ok (.invokevirtual 49, 3) := by decide +kernel
theorem dX4_readRound_47 : decode cX4_readRound 47 = .ok (.aload_n 0, 1) := by decide +kernel
theorem dX4_readRound_48 : decode cX4_readRound 48 = .ok (.bipush 41, 2) := by decide +kernel
theorem dX4_readRound_50 : decode cX4_readRound 50 = .ok (.invokevirtual 141, 3) := by decide +kernel
theorem dX4_readRound_53 : decode cX4_readRound 53 = .ok (.ifCond .ne 4, 3) := by decide +kernel
theorem dX4_readRound_56 : decode cX4_readRound 56 = .ok (.return_, 1) := by decide +kernel
theorem dX4_readRound_57 : decode cX4_readRound 57 = .ok (.iload_n 2, 1) := by decide +kernel
theorem dX4_readRound_58 : decode cX4_readRound 58 = .ok (.bipush 69, 2) := by decide +kernel
theorem dX4_readRound_60 : decode cX4_readRound 60 = .ok (.if_icmp .ne 21, 3) := by decide +kernel
theorem dX4_readRound_63 : decode cX4_readRound 63 = .ok (.aload_n 3, 1) := by decide +kernel
theorem dX4_readRound_64 : decode cX4_readRound 64 = .ok (.iconst 0, 1) := by decide +kernel
theorem dX4_readRound_65 : decode cX4_readRound 65 = .ok (.iaload, 1) := by decide +kernel
theorem dX4_readRound_66 : decode cX4_readRound 66 = .ok (.ifCond .ne 15, 3) := by decide +kernel
theorem dX4_readRound_69 : decode cX4_readRound 69 = .ok (.aload_n 0, 1) := by decide +kernel
theorem dX4_readRound_70 : decode cX4_readRound 70 = .ok (.getfield 15, 3) := by decide +kernel
theorem dX4_readRound_73 : decode cX4_readRound 73 = .ok (.aload_n 3, 1) := by decide +kernel
theorem dX4_readRound_74 : decode cX4_readRound 74 = .ok (.aload_n 3, 1) := by decide +kernel
theorem dX4_readRound_75 : decode cX4_readRound 75 = .ok (.invokevirtual 150, 3) := by decide +kernel
theorem dX4_readRound_78 : decode cX4_readRound 78 = .ok (.goto 39, 3) := by decide +kernel
theorem dX4_readRound_81 : decode cX4_readRound 81 = .ok (.iload_n 2, 1) := by decide +kernel
theorem dX4_readRound_82 : decode cX4_readRound 82 = .ok (.bipush 76, 2) := by decide +kernel
theorem dX4_readRound_84 : decode cX4_readRound 84 = .ok (.if_icmp .ne 22, 3) := by decide +kernel
theorem dX4_readRound_87 : decode cX4_readRound 87 = .ok (.aload_n 3, 1) := by decide +kernel
theorem dX4_readRound_88 : decode cX4_readRound 88 = .ok (.iconst 0, 1) := by decide +kernel
theorem dX4_readRound_89 : decode cX4_readRound 89 = .ok (.iaload, 1) := by decide +kernel
theorem dX4_readRound_90 : decode cX4_readRound 90 = .ok (.iconst 1, 1) := by decide +kernel
theorem dX4_readRound_91 : decode cX4_readRound 91 = .ok (.if_icmp .ne 15, 3) := by decide +kernel
theorem dX4_readRound_94 : decode cX4_readRound 94 = .ok (.aload_n 0, 1) := by decide +kernel
theorem dX4_readRound_95 : decode cX4_readRound 95 = .ok (.getfield 15, 3) := by decide +kernel
theorem dX4_readRound_98 : decode cX4_readRound 98 = .ok (.aload_n 3, 1) := by decide +kernel
theorem dX4_readRound_99 : decode cX4_readRound 99 = .ok (.aload_n 3, 1) := by decide +kernel
theorem dX4_readRound_100 : decode cX4_readRound 100 = .ok (.invokevirtual 153, 3) := by decide +kernel
theorem dX4_readRound_103 : decode cX4_readRound 103 = .ok (.goto 14, 3) := by decide +kernel
theorem dX4_readRound_106 : decode cX4_readRound 106 = .ok (.iload_n 2, 1) := by decide +kernel
theorem dX4_readRound_107 : decode cX4_readRound 107 = .ok (.bipush 40, 2) := by decide +kernel
theorem dX4_readRound_109 : decode cX4_readRound 109 = .ok (.if_icmp .eq 8, 3) := by decide +kernel
theorem dX4_readRound_112 : decode cX4_readRound 112 = .ok (.aload_n 0, 1) := by decide +kernel
theorem dX4_readRound_113 : decode cX4_readRound 113 = .ok (.iconst 1, 1) := by decide +kernel
theorem dX4_readRound_114 : decode cX4_readRound 114 = .ok (.putfield 45, 3) := by decide +kernel
theorem dX4_readRound_117 : decode cX4_readRound 117 = .ok (.aload_n 0, 1) := by decide +kernel
theorem dX4_readRound_118 : decode cX4_readRound 118 = .ok (.getfield 15, 3) := by decide +kernel
theorem dX4_readRound_121 : decode cX4_readRound 121 = .ok (.aload_n 0, 1) := by decide +kernel
theorem dX4_readRound_122 : decode cX4_readRound 122 = .ok (.iload_n 1, 1) := by decide +kernel
theorem dX4_readRound_123 : decode cX4_readRound 123 = .ok (.invokevirtual 70, 3) := by decide +kernel
theorem dX4_readRound_126 : decode cX4_readRound 126 = .ok (.aload_n 0, 1) := by decide +kernel
theorem dX4_readRound_127 : decode cX4_readRound 127 = .ok (.iload_n 1, 1) := by decide +kernel
theorem dX4_readRound_128 : decode cX4_readRound 128 = .ok (.invokevirtual 70, 3) := by decide +kernel
theorem dX4_readRound_131 : decode cX4_readRound 131 = .ok (.aload_n 3, 1) := by decide +kernel
theorem dX4_readRound_132 : decode cX4_readRound 132 = .ok (.invokevirtual 133, 3) := by decide +kernel
theorem dX4_readRound_135 : decode cX4_readRound 135 = .ok (.return_, 1) := by decide +kernel
set_option maxRecDepth 20000 in
theorem ggX4_opens_X4_hand : GoodIn wsX4_opens wsX4_hand := by
  refine goodIn_sub ?_ gd_X4_hand
  unfold wsX4_hand
  refine wm_c ⟨(wm_1 (wm_l (wm_4 (wm_2 wm_h)))), ?_⟩
  refine wm_a ⟨?_, ?_⟩
  · refine wm_c ⟨(wm_1 (wm_l wm_h)), ?_⟩
    refine wm_c ⟨(wm_1 (wm_l (wm_4 (wm_2 (wm_1 wm_h))))), ?_⟩
    refine wm_c ⟨(wm_1 (wm_l (wm_8 wm_h))), ?_⟩
    exact wm_n
  · exact wk_X4_opens_X40
set_option maxRecDepth 20000 in
theorem gX4_opens_X4_hand : GoodIn wsX4_opens (wsV RX4 77 RX4 yX4_hand wsX4_hand) := by
  refine goodIn_app (goodIn_sub ?_ ?_) ggX4_opens_X4_hand
  · exact wm_c ⟨(wm_1 (wm_l (wm_2 wm_h))), wm_c ⟨(wm_1 (wm_l (wm_2 (wm_1 wm_h)))), wm_c ⟨(wm_1 (wm_l (wm_4 wm_h))), wm_c ⟨(wm_1 (wm_l (wm_4 (wm_1 wm_h)))), wm_n⟩⟩⟩⟩
  · decide +kernel
theorem dX4_opens_0 : decode cX4_opens 0 = .ok (.aload_n 0, 1) := by decide +kernel
theorem dX4_opens_1 : decode cX4_opens 1 = .ok (.invokevirtual 77, 3) := by decide +kernel
theorem dX4_opens_4 : decode cX4_opens 4 = .ok (.iload_n 1, 1) := by decide +kernel
theorem dX4_opens_5 : decode cX4_opens 5 = .ok (.if_icmp .ne 8, 3) := by decide +kernel
theorem dX4_opens_8 : decode cX4_opens 8 = .ok (.iload_n 2, 1) := by decide +kernel
theorem dX4_opens_9 : decode cX4_opens 9 = .ok (.iconst 5, 1) := by decide +kernel
theorem dX4_opens_10 : decode cX4_opens 10 = .ok (.if_icmp .lt 13, 3) := by decide +kernel
theorem dX4_opens_13 : decode cX4_opens 13 = .ok (.aload_n 0, 1) := by decide +kernel
theorem dX4_opens_14 : decode cX4_opens 14 = .ok (.aload_n 0, 1) := by decide +kernel
theorem dX4_opens_15 : decode cX4_opens 15 = .ok (.getfield 39, 3) := by decide +kernel
theorem dX4_opens_18 : decode cX4_opens 18 = .ok (.putfield 42, 3) := by decide +kernel
theorem dX4_opens_21 : decode cX4_opens 21 = .ok (.iconst 0, 1) := by decide +kernel
theorem dX4_opens_22 : decode cX4_opens 22 = .ok (.ireturn, 1) := by decide +kernel
theorem dX4_opens_23 : decode cX4_opens 23 = .ok (.aload_n 0, 1) := by decide +kernel
theorem dX4_opens_24 : decode cX4_opens 24 = .ok (.dup, 1) := by decide +kernel
theorem dX4_opens_25 : decode cX4_opens 25 = .ok (.getfield 39, 3) := by decide +kernel
theorem dX4_opens_28 : decode cX4_opens 28 = .ok (.iconst 1, 1) := by decide +kernel
theorem dX4_opens_29 : decode cX4_opens 29 = .ok (.iadd, 1) := by decide +kernel
theorem dX4_opens_30 : decode cX4_opens 30 = .ok (.putfield 39, 3) := by decide +kernel
theorem dX4_opens_33 : decode cX4_opens 33 = .ok (.iconst 1, 1) := by decide +kernel
theorem dX4_opens_34 : decode cX4_opens 34 = .ok (.ireturn, 1) := by decide +kernel
set_option maxRecDepth 20000 in
theorem ggX4_goesOn_X4_hand : GoodIn wsX4_goesOn wsX4_hand := by
  refine goodIn_sub ?_ gd_X4_hand
  unfold wsX4_hand
  refine wm_c ⟨(wm_1 (wm_l (wm_4 (wm_2 wm_h)))), ?_⟩
  refine wm_a ⟨?_, ?_⟩
  · refine wm_c ⟨(wm_1 (wm_l (wm_1 wm_h))), ?_⟩
    refine wm_c ⟨(wm_1 (wm_l (wm_4 (wm_2 (wm_1 wm_h))))), ?_⟩
    refine wm_c ⟨(wm_1 (wm_l (wm_8 wm_h))), ?_⟩
    exact wm_n
  · exact wk_X4_goesOn_X40
set_option maxRecDepth 20000 in
theorem gX4_goesOn_X4_hand : GoodIn wsX4_goesOn (wsV RX4 77 RX4 yX4_hand wsX4_hand) := by
  refine goodIn_app (goodIn_sub ?_ ?_) ggX4_goesOn_X4_hand
  · exact wm_c ⟨(wm_1 (wm_l (wm_2 wm_h))), wm_c ⟨(wm_1 (wm_l (wm_2 (wm_1 wm_h)))), wm_c ⟨(wm_1 (wm_l (wm_4 wm_h))), wm_c ⟨(wm_1 (wm_l (wm_4 (wm_1 wm_h)))), wm_n⟩⟩⟩⟩
  · decide +kernel
theorem dX4_goesOn_0 : decode cX4_goesOn 0 = .ok (.aload_n 0, 1) := by decide +kernel
theorem dX4_goesOn_1 : decode cX4_goesOn 1 = .ok (.getfield 42, 3) := by decide +kernel
theorem dX4_goesOn_4 : decode cX4_goesOn 4 = .ok (.ifCond .ge 23, 3) := by decide +kernel
theorem dX4_goesOn_7 : decode cX4_goesOn 7 = .ok (.aload_n 0, 1) := by decide +kernel
theorem dX4_goesOn_8 : decode cX4_goesOn 8 = .ok (.invokevirtual 77, 3) := by decide +kernel
theorem dX4_goesOn_11 : decode cX4_goesOn 11 = .ok (.iload_n 1, 1) := by decide +kernel
theorem dX4_goesOn_12 : decode cX4_goesOn 12 = .ok (.if_icmp .ne 15, 3) := by decide +kernel
theorem dX4_goesOn_15 : decode cX4_goesOn 15 = .ok (.aload_n 0, 1) := by decide +kernel
theorem dX4_goesOn_16 : decode cX4_goesOn 16 = .ok (.dup, 1) := by decide +kernel
theorem dX4_goesOn_17 : decode cX4_goesOn 17 = .ok (.getfield 39, 3) := by decide +kernel
theorem dX4_goesOn_20 : decode cX4_goesOn 20 = .ok (.iconst 1, 1) := by decide +kernel
theorem dX4_goesOn_21 : decode cX4_goesOn 21 = .ok (.iadd, 1) := by decide +kernel
theorem dX4_goesOn_22 : decode cX4_goesOn 22 = .ok (.putfield 39, 3) := by decide +kernel
theorem dX4_goesOn_25 : decode cX4_goesOn 25 = .ok (.iconst 1, 1) := by decide +kernel
theorem dX4_goesOn_26 : decode cX4_goesOn 26 = .ok (.ireturn, 1) := by decide +kernel
theorem dX4_goesOn_27 : decode cX4_goesOn 27 = .ok (.aload_n 0, 1) := by decide +kernel
theorem dX4_goesOn_28 : decode cX4_goesOn 28 = .ok (.getfield 42, 3) := by decide +kernel
theorem dX4_goesOn_31 : decode cX4_goesOn 31 = .ok (.ifCond .ge 11, 3) := by decide +kernel
theorem dX4_goesOn_34 : decode cX4_goesOn 34 = .ok (.aload_n 0, 1) := by decide +kernel
theorem dX4_goesOn_35 : decode cX4_goesOn 35 = .ok (.aload_n 0, 1) := by decide +kernel
theorem dX4_goesOn_36 : decode cX4_goesOn 36 = .ok (.getfield 39, 3) := by decide +kernel
theorem dX4_goesOn_39 : decode cX4_goesOn 39 = .ok (.putfield 42, 3) := by decide +kernel
theorem dX4_goesOn_42 : decode cX4_goesOn 42 = .ok (.iconst 0, 1) := by decide +kernel
theorem dX4_goesOn_43 : decode cX4_goesOn 43 = .ok (.ireturn, 1) := by decide +kernel
theorem dX5_init_0 : decode cX5_init 0 = .ok (.aload_n 0, 1) := by decide +kernel
theorem dX5_init_1 : decode cX5_init 1 = .ok (.invokespecial 3, 3) := by decide +kernel
theorem dX5_init_4 : decode cX5_init 4 = .ok (.aload_n 0, 1) := by decide +kernel
theorem dX5_init_5 : decode cX5_init 5 = .ok (.aload_n 1, 1) := by decide +kernel
theorem dX5_init_6 : decode cX5_init 6 = .ok (.putfield 9, 3) := by decide +kernel
theorem dX5_init_9 : decode cX5_init 9 = .ok (.aload_n 0, 1) := by decide +kernel
theorem dX5_init_10 : decode cX5_init 10 = .ok (.aload_n 2, 1) := by decide +kernel
theorem dX5_init_11 : decode cX5_init 11 = .ok (.putfield 15, 3) := by decide +kernel
theorem dX5_init_14 : decode cX5_init 14 = .ok (.aload_n 0, 1) := by decide +kernel
theorem dX5_init_15 : decode cX5_init 15 = .ok (.bipush 12, 2) := by decide +kernel
theorem dX5_init_17 : decode cX5_init 17 = .ok (.newarray .int, 2) := by decide +kernel
theorem dX5_init_19 : decode cX5_init 19 = .ok (.putfield 19, 3) := by decide +kernel
theorem dX5_init_22 : decode cX5_init 22 = .ok (.aload_n 0, 1) := by decide +kernel
theorem dX5_init_23 : decode cX5_init 23 = .ok (.bipush 12, 2) := by decide +kernel
theorem dX5_init_25 : decode cX5_init 25 = .ok (.newarray .int, 2) := by decide +kernel
theorem dX5_init_27 : decode cX5_init 27 = .ok (.putfield 23, 3) := by decide +kernel
theorem dX5_init_30 : decode cX5_init 30 = .ok (.return_, 1) := by decide +kernel
theorem dX5_append_0 : decode cX5_append 0 = .ok (.aload_n 0, 1) := by decide +kernel
theorem dX5_append_1 : decode cX5_append 1 = .ok (.getfield 26, 3) := by decide +kernel
theorem dX5_append_4 : decode cX5_append 4 = .ok (.bipush 12, 2) := by decide +kernel
theorem dX5_append_6 : decode cX5_append 6 = .ok (.if_icmp .ge 33, 3) := by decide +kernel
theorem dX5_append_9 : decode cX5_append 9 = .ok (.aload_n 0, 1) := by decide +kernel
theorem dX5_append_10 : decode cX5_append 10 = .ok (.getfield 19, 3) := by decide +kernel
theorem dX5_append_13 : decode cX5_append 13 = .ok (.aload_n 0, 1) := by decide +kernel
theorem dX5_append_14 : decode cX5_append 14 = .ok (.getfield 26, 3) := by decide +kernel
theorem dX5_append_17 : decode cX5_append 17 = .ok (.iload_n 1, 1) := by decide +kernel
theorem dX5_append_18 : decode cX5_append 18 = .ok (.iastore, 1) := by decide +kernel
theorem dX5_append_19 : decode cX5_append 19 = .ok (.aload_n 0, 1) := by decide +kernel
theorem dX5_append_20 : decode cX5_append 20 = .ok (.getfield 23, 3) := by decide +kernel
theorem dX5_append_23 : decode cX5_append 23 = .ok (.aload_n 0, 1) := by decide +kernel
theorem dX5_append_24 : decode cX5_append 24 = .ok (.getfield 26, 3) := by decide +kernel
theorem dX5_append_27 : decode cX5_append 27 = .ok (.iload_n 2, 1) := by decide +kernel
theorem dX5_append_28 : decode cX5_append 28 = .ok (.iastore, 1) := by decide +kernel
theorem dX5_append_29 : decode cX5_append 29 = .ok (.aload_n 0, 1) := by decide +kernel
theorem dX5_append_30 : decode cX5_append 30 = .ok (.dup, 1) := by decide +kernel
theorem dX5_append_31 : decode cX5_append 31 = .ok (.getfield 26, 3) := by decide +kernel
theorem dX5_append_34 : decode cX5_append 34 = .ok (.iconst 1, 1) := by decide +kernel
theorem dX5_append_35 : decode cX5_append 35 = .ok (.iadd, 1) := by decide +kernel
theorem dX5_append_36 : decode cX5_append 36 = .ok (.putfield 26, 3) := by decide +kernel
theorem dX5_append_39 : decode cX5_append 39 = .ok (.aload_n 0, 1) := by decide +kernel
theorem dX5_append_40 : decode cX5_append 40 = .ok (.getfield 26, 3) := by decide +kernel
theorem dX5_append_43 : decode cX5_append 43 = .ok (.ireturn, 1) := by decide +kernel
theorem dX5_forget_0 : decode cX5_forget 0 = .ok (.aload_n 0, 1) := by decide +kernel
theorem dX5_forget_1 : decode cX5_forget 1 = .ok (.getfield 26, 3) := by decide +kernel
theorem dX5_forget_4 : decode cX5_forget 4 = .ok (.istore_n 1, 1) := by decide +kernel
theorem dX5_forget_5 : decode cX5_forget 5 = .ok (.aload_n 0, 1) := by decide +kernel
theorem dX5_forget_6 : decode cX5_forget 6 = .ok (.iconst 0, 1) := by decide +kernel
theorem dX5_forget_7 : decode cX5_forget 7 = .ok (.putfield 26, 3) := by decide +kernel
theorem dX5_forget_10 : decode cX5_forget 10 = .ok (.iload_n 1, 1) := by decide +kernel
theorem dX5_forget_11 : decode cX5_forget 11 = .ok (.ireturn, 1) := by decide +kernel
set_option maxRecDepth 20000 in
theorem ggX5_make_X0_setToUnit : GoodIn wsX5_make wsX0_setToUnit := by
  refine goodIn_sub ?_ gd_X0_setToUnit
  unfold wsX0_setToUnit
  refine wm_c ⟨(wk_X5_make_X5_make_r1 _ (wm_8 (wm_1 wm_h))), ?_⟩
  refine wm_c ⟨(wk_X5_make_X5_make_r1 _ (wm_8 (wm_2 wm_h))), ?_⟩
  refine wm_c ⟨(wk_X5_make_X5_make_r1 _ (wm_8 (wm_2 (wm_1 wm_h)))), ?_⟩
  refine wm_c ⟨(wk_X5_make_X5_make_r1 _ (wm_8 (wm_4 wm_h))), ?_⟩
  refine wm_c ⟨(wk_X5_make_X5_make_r1 _ (wm_8 (wm_4 (wm_1 wm_h)))), ?_⟩
  exact wm_n
set_option maxRecDepth 20000 in
theorem gX5_make_X0_setToUnit : GoodIn wsX5_make (wsV RX5 36 RX0 yX0_setToUnit wsX0_setToUnit) := by
  refine goodIn_app (goodIn_sub ?_ ?_) ggX5_make_X0_setToUnit
  · exact wm_c ⟨(wk_X5_make_X5_make_r1 _ (wm_4 (wm_1 wm_h))), wm_c ⟨(wk_X5_make_X5_make_r1 _ (wm_4 (wm_2 wm_h))), wm_c ⟨(wk_X5_make_X5_make_r1 _ (wm_4 (wm_2 (wm_1 wm_h)))), wm_c ⟨(wk_X5_make_X5_make_r1 _ (wm_8 wm_h)), wm_n⟩⟩⟩⟩
  · decide +kernel
set_option maxRecDepth 20000 in
theorem ggX5_make_X5_raiseLetter : GoodIn wsX5_make wsX5_raiseLetter := by
  refine goodIn_sub ?_ gd_X5_raiseLetter
  unfold wsX5_raiseLetter
  refine wm_c ⟨(wk_X5_make_X5_make_r1 _ (wm_16 (wm_2 wm_h))), ?_⟩
  refine wm_a ⟨?_, ?_⟩
  · refine wm_a ⟨?_, ?_⟩
    · refine wm_c ⟨(wk_X5_make_X5_make_r1 _ wm_h), ?_⟩
      refine wm_c ⟨(wk_X5_make_X5_make_r1 _ (wm_16 (wm_2 (wm_1 wm_h)))), ?_⟩
      refine wm_c ⟨(wk_X5_make_X5_make_r1 _ (wm_16 (wm_4 wm_h))), ?_⟩
      refine wm_c ⟨(wk_X5_make_X5_make_r1 _ (wm_16 (wm_4 (wm_1 wm_h)))), ?_⟩
      refine wm_c ⟨(wk_X5_make_X5_make_r1 _ (wm_16 (wm_4 (wm_2 wm_h)))), ?_⟩
      refine wm_c ⟨(wk_X5_make_X5_make_r1 _ (wm_4 (wm_1 wm_h))), ?_⟩
      refine wm_c ⟨(wk_X5_make_X5_make_r1 _ (wm_4 (wm_2 wm_h))), ?_⟩
      refine wm_c ⟨(wk_X5_make_X5_make_r1 _ (wm_4 (wm_2 (wm_1 wm_h)))), ?_⟩
      refine wm_c ⟨(wk_X5_make_X5_make_r1 _ (wm_8 wm_h)), ?_⟩
      refine wm_c ⟨(wk_X5_make_X5_make_r1 _ (wm_8 (wm_1 wm_h))), ?_⟩
      refine wm_c ⟨(wk_X5_make_X5_make_r1 _ (wm_8 (wm_2 wm_h))), ?_⟩
      refine wm_c ⟨(wk_X5_make_X5_make_r1 _ (wm_8 (wm_2 (wm_1 wm_h)))), ?_⟩
      refine wm_c ⟨(wk_X5_make_X5_make_r1 _ (wm_8 (wm_4 wm_h))), ?_⟩
      refine wm_c ⟨(wk_X5_make_X5_make_r1 _ (wm_8 (wm_4 (wm_1 wm_h)))), ?_⟩
      refine wm_c ⟨(wk_X5_make_X5_make_r1 _ (wm_16 (wm_4 (wm_2 (wm_1 wm_h))))), ?_⟩
      refine wm_c ⟨(wk_X5_make_X5_make_r2 _ wm_h), ?_⟩
      refine wm_c ⟨(wk_X5_make_X5_make_r2 _ (wm_1 wm_h)), ?_⟩
      refine wm_c ⟨(wk_X5_make_X5_make_r2 _ (wm_2 wm_h)), ?_⟩
      refine wm_c ⟨(wk_X5_make_X5_make_r2 _ (wm_2 (wm_1 wm_h))), ?_⟩
      refine wm_c ⟨(wk_X5_make_X5_make_r2 _ (wm_4 wm_h)), ?_⟩
      refine wm_c ⟨(wk_X5_make_X5_make_r2 _ (wm_4 (wm_1 wm_h))), ?_⟩
      refine wm_c ⟨(wk_X5_make_X5_make_r2 _ (wm_4 (wm_2 wm_h))), ?_⟩
      refine wm_c ⟨(wk_X5_make_X5_make_r2 _ (wm_4 (wm_2 (wm_1 wm_h)))), ?_⟩
      refine wm_c ⟨(wk_X5_make_X5_make_r2 _ (wm_8 wm_h)), ?_⟩
      exact wm_n
    · exact wk_X5_make_X50
  · exact wk_X5_make_X60
set_option maxRecDepth 20000 in
theorem gX5_make_X5_raiseLetter : GoodIn wsX5_make (wsV RX5 40 RX5 yX5_raiseLetter wsX5_raiseLetter) := by
  refine goodIn_app (goodIn_sub ?_ ?_) ggX5_make_X5_raiseLetter
  · exact wm_c ⟨(wk_X5_make_X5_make_r1 _ (wm_8 (wm_4 (wm_2 wm_h)))), wm_c ⟨(wk_X5_make_X5_make_r1 _ (wm_8 (wm_4 (wm_2 (wm_1 wm_h))))), wm_c ⟨(wk_X5_make_X5_make_r1 _ (wm_16 wm_h)), wm_c ⟨(wk_X5_make_X5_make_r1 _ (wm_16 (wm_1 wm_h))), wm_n⟩⟩⟩⟩
  · decide +kernel
set_option maxRecDepth 20000 in
theorem ggX5_make_X0_multiply : GoodIn wsX5_make wsX0_multiply := by
  refine goodIn_sub ?_ gd_X0_multiply
  unfold wsX0_multiply
  refine wm_c ⟨(wk_X5_make_X5_make_r2 _ (wm_8 (wm_4 wm_h))), ?_⟩
  refine wm_a ⟨?_, ?_⟩
  · refine wm_c ⟨(wk_X5_make_X5_make_r2 _ (wm_8 (wm_4 (wm_1 wm_h)))), ?_⟩
    refine wm_c ⟨(wk_X5_make_X5_make_r2 _ (wm_8 (wm_4 (wm_2 wm_h)))), ?_⟩
    refine wm_c ⟨(wk_X5_make_X5_make_r1 _ (wm_8 (wm_2 wm_h))), ?_⟩
    refine wm_c ⟨(wk_X5_make_X5_make_r1 _ (wm_8 (wm_2 (wm_1 wm_h)))), ?_⟩
    refine wm_c ⟨(wk_X5_make_X5_make_r1 _ (wm_8 (wm_4 wm_h))), ?_⟩
    refine wm_c ⟨(wk_X5_make_X5_make_r1 _ (wm_8 (wm_4 (wm_1 wm_h)))), ?_⟩
    refine wm_c ⟨(wk_X5_make_X5_make_r2 _ (wm_8 (wm_4 (wm_2 (wm_1 wm_h))))), ?_⟩
    refine wm_c ⟨(wk_X5_make_X5_make_r2 _ (wm_16 wm_h)), ?_⟩
    refine wm_c ⟨(wk_X5_make_X5_make_r2 _ (wm_16 (wm_1 wm_h))), ?_⟩
    refine wm_c ⟨(wk_X5_make_X5_make_r1 _ (wm_8 wm_h)), ?_⟩
    refine wm_c ⟨(wk_X5_make_X5_make_r2 _ (wm_16 (wm_2 wm_h))), ?_⟩
    refine wm_c ⟨(wk_X5_make_X5_make_r2 _ (wm_16 (wm_2 (wm_1 wm_h)))), ?_⟩
    refine wm_c ⟨(wk_X5_make_X5_make_r2 _ (wm_16 (wm_4 wm_h))), ?_⟩
    refine wm_c ⟨(wk_X5_make_X5_make_r2 _ (wm_16 (wm_4 (wm_1 wm_h)))), ?_⟩
    refine wm_c ⟨(wk_X5_make_X5_make_r2 _ (wm_16 (wm_4 (wm_2 wm_h)))), ?_⟩
    refine wm_c ⟨(wk_X5_make_X5_make_r2 _ (wm_16 (wm_4 (wm_2 (wm_1 wm_h))))), ?_⟩
    refine wm_c ⟨(wk_X5_make_X5_make_r3 _ wm_h), ?_⟩
    refine wm_c ⟨(wk_X5_make_X5_make_r3 _ (wm_1 wm_h)), ?_⟩
    refine wm_c ⟨(wk_X5_make_X5_make_r3 _ (wm_2 wm_h)), ?_⟩
    refine wm_c ⟨(wk_X5_make_X5_make_r3 _ (wm_2 (wm_1 wm_h))), ?_⟩
    refine wm_c ⟨(wk_X5_make_X5_make_r3 _ (wm_4 wm_h)), ?_⟩
    refine wm_c ⟨(wk_X5_make_X5_make_r3 _ (wm_4 (wm_1 wm_h))), ?_⟩
    exact wm_n
  · exact wk_X5_make_X00
set_option maxRecDepth 20000 in
theorem gX5_make_X0_multiply : GoodIn wsX5_make (wsV RX5 44 RX0 yX0_multiply wsX0_multiply) := by
  refine goodIn_app (goodIn_sub ?_ ?_) ggX5_make_X0_multiply
  · exact wm_c ⟨(wk_X5_make_X5_make_r2 _ (wm_8 (wm_1 wm_h))), wm_c ⟨(wk_X5_make_X5_make_r2 _ (wm_8 (wm_2 wm_h))), wm_c ⟨(wk_X5_make_X5_make_r2 _ (wm_8 (wm_2 (wm_1 wm_h)))), wm_c ⟨(wk_X5_make_X5_make_r1 _ (wm_8 wm_h)), wm_n⟩⟩⟩⟩
  · decide +kernel
set_option maxRecDepth 20000 in
theorem ggX5_make_X0_unraise : GoodIn wsX5_make wsX0_unraise := by
  refine goodIn_sub ?_ gd_X0_unraise
  unfold wsX0_unraise
  refine wm_c ⟨(wk_X5_make_X5_make_r3 _ (wm_8 (wm_1 wm_h))), ?_⟩
  refine wm_a ⟨?_, ?_⟩
  · refine wm_a ⟨?_, ?_⟩
    · unfold wsX0_unraise_r1
      refine wm_c ⟨(wk_X5_make_X5_make_r3 _ (wm_8 (wm_2 wm_h))), ?_⟩
      refine wm_c ⟨(wk_X5_make_X5_make_r3 _ (wm_8 (wm_2 (wm_1 wm_h)))), ?_⟩
      refine wm_c ⟨(wk_X5_make_X5_make_r3 _ (wm_8 (wm_4 wm_h))), ?_⟩
      refine wm_c ⟨(wk_X5_make_X5_make_r3 _ (wm_8 (wm_4 (wm_1 wm_h)))), ?_⟩
      refine wm_c ⟨(wk_X5_make_X5_make_r2 _ (wm_8 (wm_4 (wm_2 wm_h)))), ?_⟩
      refine wm_c ⟨(wk_X5_make_X5_make_r3 _ (wm_8 (wm_4 (wm_2 wm_h)))), ?_⟩
      refine wm_c ⟨(wk_X5_make_X5_make_r2 _ (wm_16 (wm_4 (wm_2 wm_h)))), ?_⟩
      refine wm_c ⟨(wk_X5_make_X5_make_r2 _ (wm_16 (wm_4 (wm_2 (wm_1 wm_h))))), ?_⟩
      refine wm_c ⟨(wk_X5_make_X5_make_r3 _ wm_h), ?_⟩
      refine wm_c ⟨(wk_X5_make_X5_make_r1 _ (wm_8 wm_h)), ?_⟩
      refine wm_c ⟨(wk_X5_make_X5_make_r3 _ (wm_1 wm_h)), ?_⟩
      refine wm_c ⟨(wk_X5_make_X5_make_r3 _ (wm_2 wm_h)), ?_⟩
      refine wm_c ⟨(wk_X5_make_X5_make_r3 _ (wm_2 (wm_1 wm_h))), ?_⟩
      refine wm_c ⟨(wk_X5_make_X5_make_r3 _ (wm_4 wm_h)), ?_⟩
      refine wm_c ⟨(wk_X5_make_X5_make_r3 _ (wm_4 (wm_1 wm_h))), ?_⟩
      refine wm_c ⟨(wk_X5_make_X5_make_r3 _ (wm_8 (wm_4 (wm_2 (wm_1 wm_h))))), ?_⟩
      refine wm_c ⟨(wk_X5_make_X5_make_r1 _ (wm_4 (wm_2 wm_h))), ?_⟩
      refine wm_c ⟨(wk_X5_make_X5_make_r1 _ (wm_4 (wm_2 (wm_1 wm_h)))), ?_⟩
      refine wm_c ⟨(wk_X5_make_X5_make_r1 _ (wm_8 (wm_1 wm_h))), ?_⟩
      refine wm_c ⟨(wk_X5_make_X5_make_r1 _ (wm_8 (wm_2 wm_h))), ?_⟩
      refine wm_c ⟨(wk_X5_make_X5_make_r1 _ (wm_8 (wm_2 (wm_1 wm_h)))), ?_⟩
      refine wm_c ⟨(wk_X5_make_X5_make_r1 _ (wm_8 (wm_4 wm_h))), ?_⟩
      refine wm_c ⟨(wk_X5_make_X5_make_r1 _ (wm_8 (wm_4 (wm_1 wm_h)))), ?_⟩
      refine wm_c ⟨(wk_X5_make_X5_make_r2 _ (wm_8 (wm_4 (wm_2 (wm_1 wm_h))))), ?_⟩
      exact wm_n
    · unfold wsX0_unraise_r2
      refine wm_c ⟨(wk_X5_make_X5_make_r2 _ (wm_16 wm_h)), ?_⟩
      refine wm_c ⟨(wk_X5_make_X5_make_r2 _ (wm_16 (wm_1 wm_h))), ?_⟩
      refine wm_c ⟨(wk_X5_make_X5_make_r2 _ (wm_16 (wm_2 wm_h))), ?_⟩
      refine wm_c ⟨(wk_X5_make_X5_make_r2 _ (wm_16 (wm_2 (wm_1 wm_h)))), ?_⟩
      refine wm_c ⟨(wk_X5_make_X5_make_r2 _ (wm_16 (wm_4 wm_h))), ?_⟩
      refine wm_c ⟨(wk_X5_make_X5_make_r2 _ (wm_16 (wm_4 (wm_1 wm_h)))), ?_⟩
      exact wm_n
  · exact wk_X5_make_X00
set_option maxRecDepth 20000 in
theorem gX5_make_X0_unraise : GoodIn wsX5_make (wsV RX5 48 RX0 yX0_unraise wsX0_unraise) := by
  refine goodIn_app (goodIn_sub ?_ ?_) ggX5_make_X0_unraise
  · exact wm_c ⟨(wk_X5_make_X5_make_r3 _ (wm_4 (wm_2 wm_h))), wm_c ⟨(wk_X5_make_X5_make_r3 _ (wm_4 (wm_2 (wm_1 wm_h)))), wm_c ⟨(wk_X5_make_X5_make_r3 _ (wm_8 wm_h)), wm_c ⟨(wk_X5_make_X5_make_r1 _ (wm_8 wm_h)), wm_n⟩⟩⟩⟩
  · decide +kernel
theorem dX5_make_0 : decode cX5_make 0 = .ok (.aload_n 0, 1) := by decide +kernel
theorem dX5_make_1 : decode cX5_make 1 = .ok (.getfield 15, 3) := by decide +kernel
theorem dX5_make_4 : decode cX5_make 4 = .ok (.getfield 30, 3) := by decide +kernel
theorem dX5_make_7 : decode cX5_make 7 = .ok (.iconst 0, 1) := by decide +kernel
theorem dX5_make_8 : decode cX5_make 8 = .ok (.aaload, 1) := by decide +kernel
theorem dX5_make_9 : decode cX5_make 9 = .ok (.astore_n 2, 1) := by decide +kernel
theorem dX5_make_10 : decode cX5_make 10 = .ok (.aload_n 0, 1) := by decide +kernel
theorem dX5_make_11 : decode cX5_make 11 = .ok (.getfield 15, 3) := by decide +kernel
theorem dX5_make_14 : decode cX5_make 14 = .ok (.getfield 30, 3) := by decide +kernel
theorem dX5_make_17 : decode cX5_make 17 = .ok (.iconst 1, 1) := by decide +kernel
theorem dX5_make_18 : decode cX5_make 18 = .ok (.aaload, 1) := by decide +kernel
theorem dX5_make_19 : decode cX5_make 19 = .ok (.astore_n 3, 1) := by decide +kernel
theorem dX5_make_20 : decode cX5_make 20 = .ok (.aload_n 0, 1) := by decide +kernel
theorem dX5_make_21 : decode cX5_make 21 = .ok (.getfield 15, 3) := by decide +kernel
theorem dX5_make_24 : decode cX5_make 24 = .ok (.aload_n 2, 1) := by decide +kernel
theorem dX5_make_25 : decode cX5_make 25 = .ok (.iconst 1, 1) := by decide +kernel
theorem dX5_make_26 : decode cX5_make 26 = .ok (.invokevirtual 36, 3) := by decide +kernel
theorem dX5_make_29 : decode cX5_make 29 = .ok (.iconst 0, 1) := by decide +kernel
theorem dX5_make_30 : decode cX5_make 30 = .ok (.istore 4, 2) := by decide +kernel
theorem dX5_make_32 : decode cX5_make 32 = .ok (.iload 4, 2) := by decide +kernel
theorem dX5_make_34 : decode cX5_make 34 = .ok (.aload_n 0, 1) := by decide +kernel
theorem dX5_make_35 : decode cX5_make 35 = .ok (.getfield 26, 3) := by decide +kernel
theorem dX5_make_38 : decode cX5_make 38 = .ok (.if_icmp .ge 38, 3) := by decide +kernel
theorem dX5_make_41 : decode cX5_make 41 = .ok (.aload_n 0, 1) := by decide +kernel
theorem dX5_make_42 : decode cX5_make 42 = .ok (.aload_n 3, 1) := by decide +kernel
theorem dX5_make_43 : decode cX5_make 43 = .ok (.aload_n 0, 1) := by decide +kernel
theorem dX5_make_44 : decode cX5_make 44 = .ok (.getfield 19, 3) := by decide +kernel
theorem dX5_make_47 : decode cX5_make 47 = .ok (.iload 4, 2) := by decide +kernel
theorem dX5_make_49 : decode cX5_make 49 = .ok (.iaload, 1) := by decide +kernel
theorem dX5_make_50 : decode cX5_make 50 = .ok (.aload_n 0, 1) := by decide +kernel
theorem dX5_make_51 : decode cX5_make 51 = .ok (.getfield 23, 3) := by decide +kernel
theorem dX5_make_54 : decode cX5_make 54 = .ok (.iload 4, 2) := by decide +kernel
theorem dX5_make_56 : decode cX5_make 56 = .ok (.iaload, 1) := by decide +kernel
theorem dX5_make_57 : decode cX5_make 57 = .ok (.invokevirtual 40, 3) := by decide +kernel
theorem dX5_make_60 : decode cX5_make 60 = .ok (.aload_n 0, 1) := by decide +kernel
theorem dX5_make_61 : decode cX5_make 61 = .ok (.getfield 15, 3) := by decide +kernel
theorem dX5_make_64 : decode cX5_make 64 = .ok (.aload_n 2, 1) := by decide +kernel
theorem dX5_make_65 : decode cX5_make 65 = .ok (.aload_n 2, 1) := by decide +kernel
theorem dX5_make_66 : decode cX5_make 66 = .ok (.aload_n 3, 1) := by decide +kernel
theorem dX5_make_67 : decode cX5_make 67 = .ok (.invokevirtual 44, 3) := by decide +kernel
theorem dX5_make_70 : decode cX5_make 70 = .ok (.iinc 4 1, 3) := by decide +kernel
theorem dX5_make_73 : decode cX5_make 73 = .ok (.goto (-41), 3) := by decide +kernel
theorem dX5_make_76 : decode cX5_make 76 = .ok (.aload_n 0, 1) := by decide +kernel
theorem dX5_make_77 : decode cX5_make 77 = .ok (.getfield 15, 3) := by decide +kernel
theorem dX5_make_80 : decode cX5_make 80 = .ok (.aload_n 1, 1) := by decide +kernel
theorem dX5_make_81 : decode cX5_make 81 = .ok (.aload_n 2, 1) := by decide +kernel
theorem dX5_make_82 : decode cX5_make 82 = .ok (.invokevirtual 48, 3) := by decide +kernel
theorem dX5_make_85 : decode cX5_make 85 = .ok (.return_, 1) := by decide +kernel
set_option maxRecDepth 20000 in
theorem ggX5_raiseLetter_X0_setToUnit : GoodIn wsX5_raiseLetter wsX0_setToUnit := by
  refine goodIn_sub ?_ gd_X0_setToUnit
  unfold wsX0_setToUnit
  refine wm_c ⟨(wm_1 (wm_l (wm_l (wm_8 (wm_1 wm_h))))), ?_⟩
  refine wm_c ⟨(wm_1 (wm_l (wm_l (wm_8 (wm_2 wm_h))))), ?_⟩
  refine wm_c ⟨(wm_1 (wm_l (wm_l (wm_8 (wm_2 (wm_1 wm_h)))))), ?_⟩
  refine wm_c ⟨(wm_1 (wm_l (wm_l (wm_8 (wm_4 wm_h))))), ?_⟩
  refine wm_c ⟨(wm_1 (wm_l (wm_l (wm_8 (wm_4 (wm_1 wm_h)))))), ?_⟩
  exact wm_n
set_option maxRecDepth 20000 in
theorem gX5_raiseLetter_X0_setToUnit : GoodIn wsX5_raiseLetter (wsV RX5 36 RX0 yX0_setToUnit wsX0_setToUnit) := by
  refine goodIn_app (goodIn_sub ?_ ?_) ggX5_raiseLetter_X0_setToUnit
  · exact wm_c ⟨(wm_1 (wm_l (wm_l (wm_4 (wm_1 wm_h))))), wm_c ⟨(wm_1 (wm_l (wm_l (wm_4 (wm_2 wm_h))))), wm_c ⟨(wm_1 (wm_l (wm_l (wm_4 (wm_2 (wm_1 wm_h)))))), wm_c ⟨(wm_1 (wm_l (wm_l (wm_8 wm_h)))), wm_n⟩⟩⟩⟩
  · decide +kernel
set_option maxRecDepth 20000 in
theorem ggX5_raiseLetter_X3_product : GoodIn wsX5_raiseLetter wsX3_product := by
  refine goodIn_sub ?_ gd_X3_product
  unfold wsX3_product
  refine wm_c ⟨(wm_1 (wm_l (wm_l (wm_16 (wm_1 wm_h))))), ?_⟩
  refine wm_c ⟨(wm_1 (wm_l (wm_l (wm_16 (wm_2 wm_h))))), ?_⟩
  exact wm_n
set_option maxRecDepth 20000 in
theorem gX5_raiseLetter_X3_product : GoodIn wsX5_raiseLetter (va_wsS RX5 57 yX3_product wsX3_product) := goodIn_app (goodIn_of _ (by decide +kernel)) ggX5_raiseLetter_X3_product
set_option maxRecDepth 20000 in
theorem ggX5_raiseLetter_X3_reciprocal : GoodIn wsX5_raiseLetter wsX3_reciprocal := by
  refine goodIn_sub ?_ gd_X3_reciprocal
  unfold wsX3_reciprocal
  refine wm_c ⟨(wm_1 (wm_l (wm_l (wm_16 (wm_4 (wm_1 wm_h)))))), ?_⟩
  refine wm_c ⟨(wm_1 (wm_l (wm_l (wm_16 (wm_4 (wm_2 wm_h)))))), ?_⟩
  refine wm_c ⟨(wm_1 (wm_l (wm_l (wm_16 (wm_4 (wm_2 (wm_1 wm_h))))))), ?_⟩
  refine wm_c ⟨(wm_1 (wm_l (wm_l (wm_8 (wm_4 (wm_2 (wm_1 wm_h))))))), ?_⟩
  refine wm_c ⟨(wm_1 (wm_l (wm_l (wm_16 wm_h)))), ?_⟩
  refine wm_c ⟨(wm_1 (wm_l (wm_l (wm_16 (wm_1 wm_h))))), ?_⟩
  refine wm_c ⟨(wm_1 (wm_l (wm_l (wm_16 (wm_2 wm_h))))), ?_⟩
  exact wm_n
set_option maxRecDepth 20000 in
theorem gX5_raiseLetter_X3_reciprocal : GoodIn wsX5_raiseLetter (va_wsS RX5 63 yX3_reciprocal wsX3_reciprocal) := goodIn_app (goodIn_of _ (by decide +kernel)) ggX5_raiseLetter_X3_reciprocal
theorem dX5_raiseLetter_0 : decode cX5_raiseLetter 0 = .ok (.aload_n 0, 1) := by decide +kernel
theorem dX5_raiseLetter_1 : decode cX5_raiseLetter 1 = .ok (.getfield 15, 3) := by decide +kernel
theorem dX5_raiseLetter_4 : decode cX5_raiseLetter 4 = .ok (.aload_n 1, 1) := by decide +kernel
theorem dX5_raiseLetter_5 : decode cX5_raiseLetter 5 = .ok (.iconst 1, 1) := by decide +kernel
theorem dX5_raiseLetter_6 : decode cX5_raiseLetter 6 = .ok (.invokevirtual 36, 3) := by decide +kernel
theorem dX5_raiseLetter_9 : decode cX5_raiseLetter 9 = .ok (.iconst 1, 1) := by decide +kernel
theorem dX5_raiseLetter_10 : decode cX5_raiseLetter 10 = .ok (.istore 4, 2) := by decide +kernel
theorem dX5_raiseLetter_12 : decode cX5_raiseLetter 12 = .ok (.iconst 0, 1) := by decide +kernel
theorem dX5_raiseLetter_13 : decode cX5_raiseLetter 13 = .ok (.istore 5, 2) := by decide +kernel
theorem dX5_raiseLetter_15 : decode cX5_raiseLetter 15 = .ok (.iconst 1, 1) := by decide +kernel
theorem dX5_raiseLetter_16 : decode cX5_raiseLetter 16 = .ok (.istore 6, 2) := by decide +kernel
theorem dX5_raiseLetter_18 : decode cX5_raiseLetter 18 = .ok (.iload 6, 2) := by decide +kernel
theorem dX5_raiseLetter_20 : decode cX5_raiseLetter 20 = .ok (.aload_n 0, 1) := by decide +kernel
theorem dX5_raiseLetter_21 : decode cX5_raiseLetter 21 = .ok (.getfield 9, 3) := by decide +kernel
theorem dX5_raiseLetter_24 : decode cX5_raiseLetter 24 = .ok (.getfield 52, 3) := by decide +kernel
theorem dX5_raiseLetter_27 : decode cX5_raiseLetter 27 = .ok (.if_icmp .gt 56, 3) := by decide +kernel
theorem dX5_raiseLetter_30 : decode cX5_raiseLetter 30 = .ok (.iload 4, 2) := by decide +kernel
theorem dX5_raiseLetter_32 : decode cX5_raiseLetter 32 = .ok (.iload_n 3, 1) := by decide +kernel
theorem dX5_raiseLetter_33 : decode cX5_raiseLetter 33 = .ok (.invokestatic 57, 3) := by decide +kernel
theorem dX5_raiseLetter_36 : decode cX5_raiseLetter 36 = .ok (.iload 6, 2) := by decide +kernel
theorem dX5_raiseLetter_38 : decode cX5_raiseLetter 38 = .ok (.invokestatic 63, 3) := by decide +kernel
theorem dX5_raiseLetter_41 : decode cX5_raiseLetter 41 = .ok (.invokestatic 57, 3) := by decide +kernel
theorem dX5_raiseLetter_44 : decode cX5_raiseLetter 44 = .ok (.istore 4, 2) := by decide +kernel
theorem dX5_raiseLetter_46 : decode cX5_raiseLetter 46 = .ok (.iload 5, 2) := by decide +kernel
theorem dX5_raiseLetter_48 : decode cX5_raiseLetter 48 = .ok (.aload_n 0, 1) := by decide +kernel
theorem dX5_raiseLetter_49 : decode cX5_raiseLetter 49 = .ok (.getfield 9, 3) := by decide +kernel
theorem dX5_raiseLetter_52 : decode cX5_raiseLetter 52 = .ok (.getfield 67, 3) := by decide +kernel
theorem dX5_raiseLetter_55 : decode cX5_raiseLetter 55 = .ok (.imul, 1) := by decide +kernel
theorem dX5_raiseLetter_56 : decode cX5_raiseLetter 56 = .ok (.iload_n 2, 1) := by decide +kernel
theorem dX5_raiseLetter_57 : decode cX5_raiseLetter 57 = .ok (.iadd, 1) := by decide +kernel
theorem dX5_raiseLetter_58 : decode cX5_raiseLetter 58 = .ok (.istore 5, 2) := by decide +kernel
theorem dX5_raiseLetter_60 : decode cX5_raiseLetter 60 = .ok (.aload_n 1, 1) := by decide +kernel
theorem dX5_raiseLetter_61 : decode cX5_raiseLetter 61 = .ok (.aload_n 0, 1) := by decide +kernel
theorem dX5_raiseLetter_62 : decode cX5_raiseLetter 62 = .ok (.getfield 9, 3) := by decide +kernel
theorem dX5_raiseLetter_65 : decode cX5_raiseLetter 65 = .ok (.getfield 70, 3) := by decide +kernel
theorem dX5_raiseLetter_68 : decode cX5_raiseLetter 68 = .ok (.iload 6, 2) := by decide +kernel
theorem dX5_raiseLetter_70 : decode cX5_raiseLetter 70 = .ok (.iaload, 1) := by decide +kernel
theorem dX5_raiseLetter_71 : decode cX5_raiseLetter 71 = .ok (.iload 5, 2) := by decide +kernel
theorem dX5_raiseLetter_73 : decode cX5_raiseLetter 73 = .ok (.iadd, 1) := by decide +kernel
theorem dX5_raiseLetter_74 : decode cX5_raiseLetter 74 = .ok (.iload 4, 2) := by decide +kernel
theorem dX5_raiseLetter_76 : decode cX5_raiseLetter 76 = .ok (.iastore, 1) := by decide +kernel
theorem dX5_raiseLetter_77 : decode cX5_raiseLetter 77 = .ok (.iinc 6 1, 3) := by decide +kernel
theorem dX5_raiseLetter_80 : decode cX5_raiseLetter 80 = .ok (.goto (-62), 3) := by decide +kernel
theorem dX5_raiseLetter_83 : decode cX5_raiseLetter 83 = .ok (.return_, 1) := by decide +kernel
set_option maxRecDepth 20000 in
theorem ggX5_goodLength_X5_make : GoodIn wsX5_goodLength wsX5_make := by
  refine goodIn_sub ?_ gd_X5_make
  unfold wsX5_make
  refine wm_c ⟨(wk_X5_goodLength_X5_goodLength_r1 _ (wm_8 (wm_1 wm_h))), ?_⟩
  refine wm_a ⟨?_, ?_⟩
  · refine wm_a ⟨?_, ?_⟩
    · refine wm_a ⟨?_, ?_⟩
      · refine wm_a ⟨?_, ?_⟩
        · unfold wsX5_make_r1
          refine wm_c ⟨(wk_X5_goodLength_X5_goodLength_r1 _ wm_h), ?_⟩
          refine wm_c ⟨(wk_X5_goodLength_X5_goodLength_r1 _ (wm_1 wm_h)), ?_⟩
          refine wm_c ⟨(wk_X5_goodLength_X5_goodLength_r1 _ (wm_8 (wm_2 wm_h))), ?_⟩
          refine wm_c ⟨(wk_X5_goodLength_X5_goodLength_r1 _ (wm_8 (wm_2 (wm_1 wm_h)))), ?_⟩
          refine wm_c ⟨(wk_X5_goodLength_X5_goodLength_r1 _ (wm_8 (wm_4 wm_h))), ?_⟩
          refine wm_c ⟨(wk_X5_goodLength_X5_goodLength_r1 _ (wm_8 (wm_4 (wm_1 wm_h)))), ?_⟩
          refine wm_c ⟨(wk_X5_goodLength_X5_goodLength_r1 _ (wm_8 (wm_4 (wm_2 wm_h)))), ?_⟩
          refine wm_c ⟨(wk_X5_goodLength_X5_goodLength_r1 _ (wm_8 (wm_4 (wm_2 (wm_1 wm_h))))), ?_⟩
          refine wm_c ⟨(wk_X5_goodLength_X5_goodLength_r1 _ (wm_16 wm_h)), ?_⟩
          refine wm_c ⟨(wk_X5_goodLength_X5_goodLength_r1 _ (wm_16 (wm_1 wm_h))), ?_⟩
          refine wm_c ⟨(wk_X5_goodLength_X5_goodLength_r1 _ (wm_16 (wm_2 wm_h))), ?_⟩
          refine wm_c ⟨(wk_X5_goodLength_X5_goodLength_r1 _ (wm_16 (wm_2 (wm_1 wm_h)))), ?_⟩
          refine wm_c ⟨(wk_X5_goodLength_X5_goodLength_r1 _ (wm_16 (wm_4 wm_h))), ?_⟩
          refine wm_c ⟨(wk_X5_goodLength_X5_goodLength_r1 _ (wm_16 (wm_4 (wm_1 wm_h)))), ?_⟩
          refine wm_c ⟨(wk_X5_goodLength_X5_goodLength_r1 _ (wm_16 (wm_4 (wm_2 wm_h)))), ?_⟩
          refine wm_c ⟨(wk_X5_goodLength_X5_goodLength_r1 _ (wm_16 (wm_4 (wm_2 (wm_1 wm_h))))), ?_⟩
          refine wm_c ⟨(wk_X5_goodLength_X5_goodLength_r2 _ wm_h), ?_⟩
          refine wm_c ⟨(wk_X5_goodLength_X5_goodLength_r1 _ (wm_8 wm_h)), ?_⟩
          refine wm_c ⟨(wk_X5_goodLength_X5_goodLength_r2 _ (wm_1 wm_h)), ?_⟩
          refine wm_c ⟨(wk_X5_goodLength_X5_goodLength_r1 _ (wm_2 wm_h)), ?_⟩
          refine wm_c ⟨(wk_X5_goodLength_X5_goodLength_r1 _ (wm_4 wm_h)), ?_⟩
          refine wm_c ⟨(wk_X5_goodLength_X5_goodLength_r2 _ (wm_2 wm_h)), ?_⟩
          refine wm_c ⟨(wk_X5_goodLength_X5_goodLength_r1 _ (wm_2 (wm_1 wm_h))), ?_⟩
          refine wm_c ⟨(wk_X5_goodLength_X5_goodLength_r2 _ (wm_2 (wm_1 wm_h))), ?_⟩
          exact wm_n
        · refine wm_a ⟨?_, ?_⟩
          · unfold wsX5_make_r2
            refine wm_c ⟨(wk_X5_goodLength_X5_goodLength_r2 _ (wm_4 wm_h)), ?_⟩
            refine wm_c ⟨(wk_X5_goodLength_X5_goodLength_r2 _ (wm_4 (wm_1 wm_h))), ?_⟩
            refine wm_c ⟨(wk_X5_goodLength_X5_goodLength_r2 _ (wm_4 (wm_2 wm_h))), ?_⟩
            refine wm_c ⟨(wk_X5_goodLength_X5_goodLength_r2 _ (wm_4 (wm_2 (wm_1 wm_h)))), ?_⟩
            refine wm_c ⟨(wk_X5_goodLength_X5_goodLength_r2 _ (wm_8 wm_h)), ?_⟩
            refine wm_c ⟨(wk_X5_goodLength_X5_goodLength_r2 _ (wm_8 (wm_1 wm_h))), ?_⟩
            refine wm_c ⟨(wk_X5_goodLength_X5_goodLength_r2 _ (wm_8 (wm_2 wm_h))), ?_⟩
            refine wm_c ⟨(wk_X5_goodLength_X5_goodLength_r2 _ (wm_8 (wm_2 (wm_1 wm_h)))), ?_⟩
            refine wm_c ⟨(wk_X5_goodLength_X5_goodLength_r2 _ (wm_8 (wm_4 wm_h))), ?_⟩
            refine wm_c ⟨(wk_X5_goodLength_X5_goodLength_r2 _ (wm_8 (wm_4 (wm_1 wm_h)))), ?_⟩
            refine wm_c ⟨(wk_X5_goodLength_X5_goodLength_r2 _ (wm_8 (wm_4 (wm_2 wm_h)))), ?_⟩
            refine wm_c ⟨(wk_X5_goodLength_X5_goodLength_r2 _ (wm_8 (wm_4 (wm_2 (wm_1 wm_h))))), ?_⟩
            refine wm_c ⟨(wk_X5_goodLength_X5_goodLength_r2 _ (wm_16 wm_h)), ?_⟩
            refine wm_c ⟨(wk_X5_goodLength_X5_goodLength_r2 _ (wm_16 (wm_1 wm_h))), ?_⟩
            refine wm_c ⟨(wk_X5_goodLength_X5_goodLength_r2 _ (wm_16 (wm_2 wm_h))), ?_⟩
            refine wm_c ⟨(wk_X5_goodLength_X5_goodLength_r2 _ (wm_16 (wm_2 (wm_1 wm_h)))), ?_⟩
            refine wm_c ⟨(wk_X5_goodLength_X5_goodLength_r2 _ (wm_16 (wm_4 wm_h))), ?_⟩
            refine wm_c ⟨(wk_X5_goodLength_X5_goodLength_r2 _ (wm_16 (wm_4 (wm_1 wm_h)))), ?_⟩
            refine wm_c ⟨(wk_X5_goodLength_X5_goodLength_r2 _ (wm_16 (wm_4 (wm_2 wm_h)))), ?_⟩
            refine wm_c ⟨(wk_X5_goodLength_X5_goodLength_r2 _ (wm_16 (wm_4 (wm_2 (wm_1 wm_h))))), ?_⟩
            refine wm_c ⟨(wk_X5_goodLength_X5_goodLength_r3 _ wm_h), ?_⟩
            refine wm_c ⟨(wk_X5_goodLength_X5_goodLength_r3 _ (wm_1 wm_h)), ?_⟩
            refine wm_c ⟨(wk_X5_goodLength_X5_goodLength_r3 _ (wm_2 wm_h)), ?_⟩
            refine wm_c ⟨(wk_X5_goodLength_X5_goodLength_r3 _ (wm_2 (wm_1 wm_h))), ?_⟩
            exact wm_n
          · unfold wsX5_make_r3
            refine wm_c ⟨(wk_X5_goodLength_X5_goodLength_r3 _ (wm_4 wm_h)), ?_⟩
            refine wm_c ⟨(wk_X5_goodLength_X5_goodLength_r3 _ (wm_4 (wm_1 wm_h))), ?_⟩
            refine wm_c ⟨(wk_X5_goodLength_X5_goodLength_r3 _ (wm_4 (wm_2 wm_h))), ?_⟩
            refine wm_c ⟨(wk_X5_goodLength_X5_goodLength_r3 _ (wm_4 (wm_2 (wm_1 wm_h)))), ?_⟩
            refine wm_c ⟨(wk_X5_goodLength_X5_goodLength_r3 _ (wm_8 wm_h)), ?_⟩
            refine wm_c ⟨(wk_X5_goodLength_X5_goodLength_r3 _ (wm_8 (wm_1 wm_h))), ?_⟩
            refine wm_c ⟨(wk_X5_goodLength_X5_goodLength_r3 _ (wm_8 (wm_2 wm_h))), ?_⟩
            refine wm_c ⟨(wk_X5_goodLength_X5_goodLength_r3 _ (wm_8 (wm_2 (wm_1 wm_h)))), ?_⟩
            refine wm_c ⟨(wk_X5_goodLength_X5_goodLength_r3 _ (wm_8 (wm_4 wm_h))), ?_⟩
            refine wm_c ⟨(wk_X5_goodLength_X5_goodLength_r3 _ (wm_8 (wm_4 (wm_1 wm_h)))), ?_⟩
            refine wm_c ⟨(wk_X5_goodLength_X5_goodLength_r3 _ (wm_8 (wm_4 (wm_2 wm_h)))), ?_⟩
            refine wm_c ⟨(wk_X5_goodLength_X5_goodLength_r3 _ (wm_8 (wm_4 (wm_2 (wm_1 wm_h))))), ?_⟩
            refine wm_c ⟨(wk_X5_goodLength_X5_goodLength_r3 _ (wm_16 wm_h)), ?_⟩
            refine wm_c ⟨(wk_X5_goodLength_X5_goodLength_r3 _ (wm_16 (wm_1 wm_h))), ?_⟩
            refine wm_c ⟨(wk_X5_goodLength_X5_goodLength_r3 _ (wm_16 (wm_2 wm_h))), ?_⟩
            refine wm_c ⟨(wk_X5_goodLength_X5_goodLength_r3 _ (wm_16 (wm_2 (wm_1 wm_h)))), ?_⟩
            exact wm_n
      · exact wk_X5_goodLength_X50
    · exact wk_X5_goodLength_X00
  · exact wk_X5_goodLength_X60
set_option maxRecDepth 20000 in
theorem gX5_goodLength_X5_make : GoodIn wsX5_goodLength (wsV RX5 73 RX5 yX5_make wsX5_make) := by
  refine goodIn_app (goodIn_sub ?_ ?_) ggX5_goodLength_X5_make
  · exact wm_c ⟨(wk_X5_goodLength_X5_goodLength_r1 _ (wm_4 (wm_1 wm_h))), wm_c ⟨(wk_X5_goodLength_X5_goodLength_r1 _ (wm_4 (wm_2 wm_h))), wm_c ⟨(wk_X5_goodLength_X5_goodLength_r1 _ (wm_4 (wm_2 (wm_1 wm_h)))), wm_c ⟨(wk_X5_goodLength_X5_goodLength_r1 _ (wm_8 wm_h)), wm_n⟩⟩⟩⟩
  · decide +kernel
set_option maxRecDepth 20000 in
theorem ggX5_goodLength_X0_isNought : GoodIn wsX5_goodLength wsX0_isNought := by
  refine goodIn_sub ?_ gd_X0_isNought
  unfold wsX0_isNought
  refine wm_c ⟨(wk_X5_goodLength_X5_goodLength_r3 _ (wm_16 (wm_4 (wm_2 (wm_1 wm_h))))), ?_⟩
  refine wm_a ⟨?_, ?_⟩
  · refine wm_c ⟨(wk_X5_goodLength_X5_goodLength_r3 _ wm_h), ?_⟩
    exact wm_n
  · exact wk_X5_goodLength_X00
set_option maxRecDepth 20000 in
theorem gX5_goodLength_X0_isNought : GoodIn wsX5_goodLength (wsV RX5 77 RX0 yX0_isNought wsX0_isNought) := by
  refine goodIn_app (goodIn_sub ?_ ?_) ggX5_goodLength_X0_isNought
  · exact wm_c ⟨(wk_X5_goodLength_X5_goodLength_r3 _ (wm_16 (wm_4 wm_h))), wm_c ⟨(wk_X5_goodLength_X5_goodLength_r3 _ (wm_16 (wm_4 (wm_1 wm_h)))), wm_c ⟨(wk_X5_goodLength_X5_goodLength_r3 _ (wm_16 (wm_4 (wm_2 wm_h)))), wm_c ⟨(wk_X5_goodLength_X5_goodLength_r1 _ (wm_16 wm_h)), wm_n⟩⟩⟩⟩
  · decide +kernel
theorem dX5_goodLength_0 : decode cX5_goodLength 0 = .ok (.aload_n 0, 1) := by decide +kernel
theorem dX5_goodLength_1 : decode cX5_goodLength 1 = .ok (.getfield 15, 3) := by decide +kernel
theorem dX5_goodLength_4 : decode cX5_goodLength 4 = .ok (.getfield 30, 3) := by decide +kernel
theorem dX5_goodLength_7 : decode cX5_goodLength 7 = .ok (.iconst 0, 1) := by decide +kernel
theorem dX5_goodLength_8 : decode cX5_goodLength 8 = .ok (.aaload, 1) := by decide +kernel
theorem dX5_goodLength_9 : decode cX5_goodLength 9 = .ok (.astore_n 1, 1) := by decide +kernel
theorem dX5_goodLength_10 : decode cX5_goodLength 10 = .ok (.aload_n 0, 1) := by decide +kernel
theorem dX5_goodLength_11 : decode cX5_goodLength 11 = .ok (.aload_n 1, 1) := by decide +kernel
theorem dX5_goodLength_12 : decode cX5_goodLength 12 = .ok (.invokevirtual 73, 3) := by decide +kernel
theorem dX5_goodLength_15 : decode cX5_goodLength 15 = .ok (.aload_n 0, 1) := by decide +kernel
theorem dX5_goodLength_16 : decode cX5_goodLength 16 = .ok (.getfield 9, 3) := by decide +kernel
theorem dX5_goodLength_19 : decode cX5_goodLength 19 = .ok (.getfield 70, 3) := by decide +kernel
theorem dX5_goodLength_22 : decode cX5_goodLength 22 = .ok (.iconst 1, 1) := by decide +kernel
theorem dX5_goodLength_23 : decode cX5_goodLength 23 = .ok (.iaload, 1) := by decide +kernel
theorem dX5_goodLength_24 : decode cX5_goodLength 24 = .ok (.istore_n 2, 1) := by decide +kernel
theorem dX5_goodLength_25 : decode cX5_goodLength 25 = .ok (.iload_n 2, 1) := by decide +kernel
theorem dX5_goodLength_26 : decode cX5_goodLength 26 = .ok (.aload_n 0, 1) := by decide +kernel
theorem dX5_goodLength_27 : decode cX5_goodLength 27 = .ok (.getfield 9, 3) := by decide +kernel
theorem dX5_goodLength_30 : decode cX5_goodLength 30 = .ok (.getfield 70, 3) := by decide +kernel
theorem dX5_goodLength_33 : decode cX5_goodLength 33 = .ok (.iconst 2, 1) := by decide +kernel
theorem dX5_goodLength_34 : decode cX5_goodLength 34 = .ok (.iaload, 1) := by decide +kernel
theorem dX5_goodLength_35 : decode cX5_goodLength 35 = .ok (.if_icmp .ge 18, 3) := by decide +kernel
theorem dX5_goodLength_38 : decode cX5_goodLength 38 = .ok (.aload_n 1, 1) := by decide +kernel
theorem dX5_goodLength_39 : decode cX5_goodLength 39 = .ok (.iload_n 2, 1) := by decide +kernel
theorem dX5_goodLength_40 : decode cX5_goodLength 40 = .ok (.iaload, 1) := by decide +kernel
theorem dX5_goodLength_41 : decode cX5_goodLength 41 = .ok (.iconst 1, 1) := by decide +kernel
theorem dX5_goodLength_42 : decode cX5_goodLength 42 = .ok (.if_icmp .eq 5, 3) := by decide +kernel
theorem dX5_goodLength_45 : decode cX5_goodLength 45 = .ok (.iconst 0, 1) := by decide +kernel
theorem dX5_goodLength_46 : decode cX5_goodLength 46 = .ok (.ireturn, 1) := by decide +kernel
theorem dX5_goodLength_47 : decode cX5_goodLength 47 = .ok (.iinc 2 1, 3) := by decide +kernel
theorem dX5_goodLength_50 : decode cX5_goodLength 50 = .ok (.goto (-25), 3) := by decide +kernel
theorem dX5_goodLength_53 : decode cX5_goodLength 53 = .ok (.iconst 1, 1) := by decide +kernel
theorem dX5_goodLength_54 : decode cX5_goodLength 54 = .ok (.istore_n 2, 1) := by decide +kernel
theorem dX5_goodLength_55 : decode cX5_goodLength 55 = .ok (.iload_n 2, 1) := by decide +kernel
theorem dX5_goodLength_56 : decode cX5_goodLength 56 = .ok (.aload_n 0, 1) := by decide +kernel
theorem dX5_goodLength_57 : decode cX5_goodLength 57 = .ok (.getfield 9, 3) := by decide +kernel
theorem dX5_goodLength_60 : decode cX5_goodLength 60 = .ok (.getfield 52, 3) := by decide +kernel
theorem dX5_goodLength_63 : decode cX5_goodLength 63 = .ok (.if_icmp .ge 23, 3) := by decide +kernel
theorem dX5_goodLength_66 : decode cX5_goodLength 66 = .ok (.aload_n 0, 1) := by decide +kernel
theorem dX5_goodLength_67 : decode cX5_goodLength 67 = .ok (.getfield 15, 3) := by decide +kernel
theorem dX5_goodLength_70 : decode cX5_goodLength 70 = .ok (.aload_n 1, 1) := by decide +kernel
theorem dX5_goodLength_71 : decode cX5_goodLength 71 = .ok (.iload_n 2, 1) := by decide +kernel
theorem dX5_goodLength_72 : decode cX5_goodLength 72 = .ok (.iconst 1, 1) := by decide +kernel
theorem dX5_goodLength_73 : decode cX5_goodLength 73 = .ok (.iadd, 1) := by decide +kernel
theorem dX5_goodLength_74 : decode cX5_goodLength 74 = .ok (.invokevirtual 77, 3) := by decide +kernel
theorem dX5_goodLength_77 : decode cX5_goodLength 77 = .ok (.ifCond .eq 9, 3) := by decide +kernel
theorem dX5_goodLength_80 : decode cX5_goodLength 80 = .ok (.iinc 2 1, 3) := by decide +kernel
theorem dX5_goodLength_83 : decode cX5_goodLength 83 = .ok (.goto (-28), 3) := by decide +kernel
theorem dX5_goodLength_86 : decode cX5_goodLength 86 = .ok (.iload_n 2, 1) := by decide +kernel
theorem dX5_goodLength_87 : decode cX5_goodLength 87 = .ok (.ireturn, 1) := by decide +kernel
theorem dX6_init_0 : decode cX6_init 0 = .ok (.aload_n 0, 1) := by decide +kernel
theorem dX6_init_1 : decode cX6_init 1 = .ok (.invokespecial 3, 3) := by decide +kernel
theorem dX6_init_4 : decode cX6_init 4 = .ok (.aload_n 0, 1) := by decide +kernel
theorem dX6_init_5 : decode cX6_init 5 = .ok (.iload_n 1, 1) := by decide +kernel
theorem dX6_init_6 : decode cX6_init 6 = .ok (.putfield 9, 3) := by decide +kernel
theorem dX6_init_9 : decode cX6_init 9 = .ok (.aload_n 0, 1) := by decide +kernel
theorem dX6_init_10 : decode cX6_init 10 = .ok (.iload_n 2, 1) := by decide +kernel
theorem dX6_init_11 : decode cX6_init 11 = .ok (.putfield 15, 3) := by decide +kernel
theorem dX6_init_14 : decode cX6_init 14 = .ok (.aload_n 0, 1) := by decide +kernel
theorem dX6_init_15 : decode cX6_init 15 = .ok (.iload_n 2, 1) := by decide +kernel
theorem dX6_init_16 : decode cX6_init 16 = .ok (.iconst 1, 1) := by decide +kernel
theorem dX6_init_17 : decode cX6_init 17 = .ok (.iadd, 1) := by decide +kernel
theorem dX6_init_18 : decode cX6_init 18 = .ok (.newarray .int, 2) := by decide +kernel
theorem dX6_init_20 : decode cX6_init 20 = .ok (.putfield 18, 3) := by decide +kernel
theorem dX6_init_23 : decode cX6_init 23 = .ok (.aload_n 0, 1) := by decide +kernel
theorem dX6_init_24 : decode cX6_init 24 = .ok (.iload_n 2, 1) := by decide +kernel
theorem dX6_init_25 : decode cX6_init 25 = .ok (.iconst 2, 1) := by decide +kernel
theorem dX6_init_26 : decode cX6_init 26 = .ok (.iadd, 1) := by decide +kernel
theorem dX6_init_27 : decode cX6_init 27 = .ok (.newarray .int, 2) := by decide +kernel
theorem dX6_init_29 : decode cX6_init 29 = .ok (.putfield 22, 3) := by decide +kernel
theorem dX6_init_32 : decode cX6_init 32 = .ok (.iconst 1, 1) := by decide +kernel
theorem dX6_init_33 : decode cX6_init 33 = .ok (.istore_n 3, 1) := by decide +kernel
theorem dX6_init_34 : decode cX6_init 34 = .ok (.iconst 0, 1) := by decide +kernel
theorem dX6_init_35 : decode cX6_init 35 = .ok (.istore 4, 2) := by decide +kernel
theorem dX6_init_37 : decode cX6_init 37 = .ok (.iload 4, 2) := by decide +kernel
theorem dX6_init_39 : decode cX6_init 39 = .ok (.iload_n 2, 1) := by decide +kernel
theorem dX6_init_40 : decode cX6_init 40 = .ok (.if_icmp .gt 39, 3) := by decide +kernel
theorem dX6_init_43 : decode cX6_init 43 = .ok (.aload_n 0, 1) := by decide +kernel
theorem dX6_init_44 : decode cX6_init 44 = .ok (.getfield 18, 3) := by decide +kernel
theorem dX6_init_47 : decode cX6_init 47 = .ok (.iload 4, 2) := by decide +kernel
theorem dX6_init_49 : decode cX6_init 49 = .ok (.iload_n 3, 1) := by decide +kernel
theorem dX6_init_50 : decode cX6_init 50 = .ok (.iastore, 1) := by decide +kernel
theorem dX6_init_51 : decode cX6_init 51 = .ok (.aload_n 0, 1) := by decide +kernel
theorem dX6_init_52 : decode cX6_init 52 = .ok (.getfield 22, 3) := by decide +kernel
theorem dX6_init_55 : decode cX6_init 55 = .ok (.iload 4, 2) := by decide +kernel
theorem dX6_init_57 : decode cX6_init 57 = .ok (.iconst 1, 1) := by decide +kernel
theorem dX6_init_58 : decode cX6_init 58 = .ok (.iadd, 1) := by decide +kernel
theorem dX6_init_59 : decode cX6_init 59 = .ok (.aload_n 0, 1) := by decide +kernel
theorem dX6_init_60 : decode cX6_init 60 = .ok (.getfield 22, 3) := by decide +kernel
theorem dX6_init_63 : decode cX6_init 63 = .ok (.iload 4, 2) := by decide +kernel
theorem dX6_init_65 : decode cX6_init 65 = .ok (.iaload, 1) := by decide +kernel
theorem dX6_init_66 : decode cX6_init 66 = .ok (.iload_n 3, 1) := by decide +kernel
theorem dX6_init_67 : decode cX6_init 67 = .ok (.iadd, 1) := by decide +kernel
theorem dX6_init_68 : decode cX6_init 68 = .ok (.iastore, 1) := by decide +kernel
theorem dX6_init_69 : decode cX6_init 69 = .ok (.iload_n 3, 1) := by decide +kernel
theorem dX6_init_70 : decode cX6_init 70 = .ok (.iload_n 1, 1) := by decide +kernel
theorem dX6_init_71 : decode cX6_init 71 = .ok (.imul, 1) := by decide +kernel
theorem dX6_init_72 : decode cX6_init 72 = .ok (.istore_n 3, 1) := by decide +kernel
theorem dX6_init_73 : decode cX6_init 73 = .ok (.iinc 4 1, 3) := by decide +kernel
theorem dX6_init_76 : decode cX6_init 76 = .ok (.goto (-39), 3) := by decide +kernel
theorem dX6_init_79 : decode cX6_init 79 = .ok (.return_, 1) := by decide +kernel
theorem dX6_all_0 : decode cX6_all 0 = .ok (.aload_n 0, 1) := by decide +kernel
theorem dX6_all_1 : decode cX6_all 1 = .ok (.getfield 22, 3) := by decide +kernel
theorem dX6_all_4 : decode cX6_all 4 = .ok (.aload_n 0, 1) := by decide +kernel
theorem dX6_all_5 : decode cX6_all 5 = .ok (.getfield 15, 3) := by decide +kernel
theorem dX6_all_8 : decode cX6_all 8 = .ok (.iconst 1, 1) := by decide +kernel
theorem dX6_all_9 : decode cX6_all 9 = .ok (.iadd, 1) := by decide +kernel
theorem dX6_all_10 : decode cX6_all 10 = .ok (.iaload, 1) := by decide +kernel
theorem dX6_all_11 : decode cX6_all 11 = .ok (.ireturn, 1) := by decide +kernel
theorem dX6_placeOf_0 : decode cX6_placeOf 0 = .ok (.iload_n 1, 1) := by decide +kernel
theorem dX6_placeOf_1 : decode cX6_placeOf 1 = .ok (.ifCond .ge 5, 3) := by decide +kernel
theorem dX6_placeOf_4 : decode cX6_placeOf 4 = .ok (.iconst (-1), 1) := by decide +kernel
theorem dX6_placeOf_5 : decode cX6_placeOf 5 = .ok (.ireturn, 1) := by decide +kernel
theorem dX6_placeOf_6 : decode cX6_placeOf 6 = .ok (.iload_n 1, 1) := by decide +kernel
theorem dX6_placeOf_7 : decode cX6_placeOf 7 = .ok (.istore_n 2, 1) := by decide +kernel
theorem dX6_placeOf_8 : decode cX6_placeOf 8 = .ok (.iconst 0, 1) := by decide +kernel
theorem dX6_placeOf_9 : decode cX6_placeOf 9 = .ok (.istore_n 3, 1) := by decide +kernel
theorem dX6_placeOf_10 : decode cX6_placeOf 10 = .ok (.iconst 0, 1) := by decide +kernel
theorem dX6_placeOf_11 : decode cX6_placeOf 11 = .ok (.istore 4, 2) := by decide +kernel
theorem dX6_placeOf_13 : decode cX6_placeOf 13 = .ok (.iconst 0, 1) := by decide +kernel
theorem dX6_placeOf_14 : decode cX6_placeOf 14 = .ok (.istore 5, 2) := by decide +kernel
theorem dX6_placeOf_16 : decode cX6_placeOf 16 = .ok (.iload 5, 2) := by decide +kernel
theorem dX6_placeOf_18 : decode cX6_placeOf 18 = .ok (.aload_n 0, 1) := by decide +kernel
theorem dX6_placeOf_19 : decode cX6_placeOf 19 = .ok (.getfield 15, 3) := by decide +kernel
theorem dX6_placeOf_22 : decode cX6_placeOf 22 = .ok (.if_icmp .ge 60, 3) := by decide +kernel
theorem dX6_placeOf_25 : decode cX6_placeOf 25 = .ok (.iload_n 2, 1) := by decide +kernel
theorem dX6_placeOf_26 : decode cX6_placeOf 26 = .ok (.ifCond .le 56, 3) := by decide +kernel
theorem dX6_placeOf_29 : decode cX6_placeOf 29 = .ok (.iload_n 2, 1) := by decide +kernel
theorem dX6_placeOf_30 : decode cX6_placeOf 30 = .ok (.bipush 7, 2) := by decide +kernel
theorem dX6_placeOf_32 : decode cX6_placeOf 32 = .ok (.iand, 1) := by decide +kernel
theorem dX6_placeOf_33 : decode cX6_placeOf 33 = .ok (.iconst 1, 1) := by decide +kernel
theorem dX6_placeOf_34 : decode cX6_placeOf 34 = .ok (.isub, 1) := by decide +kernel
theorem dX6_placeOf_35 : decode cX6_placeOf 35 = .ok (.istore 6, 2) := by decide +kernel
theorem dX6_placeOf_37 : decode cX6_placeOf 37 = .ok (.iload 6, 2) := by decide +kernel
theorem dX6_placeOf_39 : decode cX6_placeOf 39 = .ok (.ifCond .lt 12, 3) := by decide +kernel
theorem dX6_placeOf_42 : decode cX6_placeOf 42 = .ok (.iload 6, 2) := by decide +kernel
theorem dX6_placeOf_44 : decode cX6_placeOf 44 = .ok (.aload_n 0, 1) := by decide +kernel
theorem dX6_placeOf_45 : decode cX6_placeOf 45 = .ok (.getfield 9, 3) := by decide +kernel
theorem dX6_placeOf_48 : decode cX6_placeOf 48 = .ok (.if_icmp .lt 5, 3) := by decide +kernel
theorem dX6_placeOf_51 : decode cX6_placeOf 51 = .ok (.iconst (-1), 1) := by decide +kernel
theorem dX6_placeOf_52 : decode cX6_placeOf 52 = .ok (.ireturn, 1) := by decide +kernel
theorem dX6_placeOf_53 : decode cX6_placeOf 53 = .ok (.iload_n 3, 1) := by decide +kernel
theorem dX6_placeOf_54 : decode cX6_placeOf 54 = .ok (.iload 6, 2) := by decide +kernel
theorem dX6_placeOf_56 : decode cX6_placeOf 56 = .ok (.aload_n 0, 1) := by decide +kernel
theorem dX6_placeOf_57 : decode cX6_placeOf 57 = .ok (.getfield 18, 3) := by decide +kernel
theorem dX6_placeOf_60 : decode cX6_placeOf 60 = .ok (.iload 5, 2) := by decide +kernel
theorem dX6_placeOf_62 : decode cX6_placeOf 62 = .ok (.iaload, 1) := by decide +kernel
theorem dX6_placeOf_63 : decode cX6_placeOf 63 = .ok (.imul, 1) := by decide +kernel
theorem dX6_placeOf_64 : decode cX6_placeOf 64 = .ok (.iadd, 1) := by decide +kernel
theorem dX6_placeOf_65 : decode cX6_placeOf 65 = .ok (.istore_n 3, 1) := by decide +kernel
theorem dX6_placeOf_66 : decode cX6_placeOf 66 = .ok (.iload 5, 2) := by decide +kernel
theorem dX6_placeOf_68 : decode cX6_placeOf 68 = .ok (.iconst 1, 1) := by decide +kernel
theorem dX6_placeOf_69 : decode cX6_placeOf 69 = .ok (.iadd, 1) := by decide +kernel
theorem dX6_placeOf_70 : decode cX6_placeOf 70 = .ok (.istore 4, 2) := by decide +kernel
theorem dX6_placeOf_72 : decode cX6_placeOf 72 = .ok (.iload_n 2, 1) := by decide +kernel
theorem dX6_placeOf_73 : decode cX6_placeOf 73 = .ok (.iconst 3, 1) := by decide +kernel
theorem dX6_placeOf_74 : decode cX6_placeOf 74 = .ok (.ishr, 1) := by decide +kernel
theorem dX6_placeOf_75 : decode cX6_placeOf 75 = .ok (.istore_n 2, 1) := by decide +kernel
theorem dX6_placeOf_76 : decode cX6_placeOf 76 = .ok (.iinc 5 1, 3) := by decide +kernel
theorem dX6_placeOf_79 : decode cX6_placeOf 79 = .ok (.goto (-63), 3) := by decide +kernel
theorem dX6_placeOf_82 : decode cX6_placeOf 82 = .ok (.iload_n 2, 1) := by decide +kernel
theorem dX6_placeOf_83 : decode cX6_placeOf 83 = .ok (.ifCond .le 7, 3) := by decide +kernel
theorem dX6_placeOf_86 : decode cX6_placeOf 86 = .ok (.iconst (-1), 1) := by decide +kernel
theorem dX6_placeOf_87 : decode cX6_placeOf 87 = .ok (.goto 12, 3) := by decide +kernel
theorem dX6_placeOf_90 : decode cX6_placeOf 90 = .ok (.aload_n 0, 1) := by decide +kernel
theorem dX6_placeOf_91 : decode cX6_placeOf 91 = .ok (.getfield 22, 3) := by decide +kernel
theorem dX6_placeOf_94 : decode cX6_placeOf 94 = .ok (.iload 4, 2) := by decide +kernel
theorem dX6_placeOf_96 : decode cX6_placeOf 96 = .ok (.iaload, 1) := by decide +kernel
theorem dX6_placeOf_97 : decode cX6_placeOf 97 = .ok (.iload_n 3, 1) := by decide +kernel
theorem dX6_placeOf_98 : decode cX6_placeOf 98 = .ok (.iadd, 1) := by decide +kernel
theorem dX6_placeOf_99 : decode cX6_placeOf 99 = .ok (.ireturn, 1) := by decide +kernel
set_option maxRecDepth 20000 in
theorem ggX6_toldOf_X6_lengthOf : GoodIn wsX6_toldOf wsX6_lengthOf := by
  refine goodIn_sub ?_ gd_X6_lengthOf
  unfold wsX6_lengthOf
  refine wm_c ⟨(wm_1 (wm_l (wm_4 (wm_2 wm_h)))), ?_⟩
  refine wm_a ⟨?_, ?_⟩
  · refine wm_c ⟨(wm_1 (wm_l (wm_4 (wm_2 (wm_1 wm_h))))), ?_⟩
    refine wm_c ⟨(wm_1 (wm_l wm_h)), ?_⟩
    exact wm_n
  · exact wk_X6_toldOf_X60
set_option maxRecDepth 20000 in
theorem gX6_toldOf_X6_lengthOf : GoodIn wsX6_toldOf (wsV RX6 25 RX6 yX6_lengthOf wsX6_lengthOf) := by
  refine goodIn_app (goodIn_sub ?_ ?_) ggX6_toldOf_X6_lengthOf
  · exact wm_c ⟨(wm_1 (wm_l (wm_2 wm_h))), wm_c ⟨(wm_1 (wm_l (wm_2 (wm_1 wm_h)))), wm_c ⟨(wm_1 (wm_l (wm_4 wm_h))), wm_c ⟨(wm_1 (wm_l (wm_4 (wm_1 wm_h)))), wm_n⟩⟩⟩⟩
  · decide +kernel
theorem dX6_toldOf_0 : decode cX6_toldOf 0 = .ok (.aload_n 0, 1) := by decide +kernel
theorem dX6_toldOf_1 : decode cX6_toldOf 1 = .ok (.iload_n 1, 1) := by decide +kernel
theorem dX6_toldOf_2 : decode cX6_toldOf 2 = .ok (.invokevirtual 25, 3) := by decide +kernel
theorem dX6_toldOf_5 : decode cX6_toldOf 5 = .ok (.istore_n 2, 1) := by decide +kernel
theorem dX6_toldOf_6 : decode cX6_toldOf 6 = .ok (.iload_n 1, 1) := by decide +kernel
theorem dX6_toldOf_7 : decode cX6_toldOf 7 = .ok (.aload_n 0, 1) := by decide +kernel
theorem dX6_toldOf_8 : decode cX6_toldOf 8 = .ok (.getfield 22, 3) := by decide +kernel
theorem dX6_toldOf_11 : decode cX6_toldOf 11 = .ok (.iload_n 2, 1) := by decide +kernel
theorem dX6_toldOf_12 : decode cX6_toldOf 12 = .ok (.iaload, 1) := by decide +kernel
theorem dX6_toldOf_13 : decode cX6_toldOf 13 = .ok (.isub, 1) := by decide +kernel
theorem dX6_toldOf_14 : decode cX6_toldOf 14 = .ok (.istore_n 3, 1) := by decide +kernel
theorem dX6_toldOf_15 : decode cX6_toldOf 15 = .ok (.iconst 0, 1) := by decide +kernel
theorem dX6_toldOf_16 : decode cX6_toldOf 16 = .ok (.istore 4, 2) := by decide +kernel
theorem dX6_toldOf_18 : decode cX6_toldOf 18 = .ok (.iconst 0, 1) := by decide +kernel
theorem dX6_toldOf_19 : decode cX6_toldOf 19 = .ok (.istore 5, 2) := by decide +kernel
theorem dX6_toldOf_21 : decode cX6_toldOf 21 = .ok (.iload 5, 2) := by decide +kernel
theorem dX6_toldOf_23 : decode cX6_toldOf 23 = .ok (.iload_n 2, 1) := by decide +kernel
theorem dX6_toldOf_24 : decode cX6_toldOf 24 = .ok (.if_icmp .ge 34, 3) := by decide +kernel
theorem dX6_toldOf_27 : decode cX6_toldOf 27 = .ok (.iload 4, 2) := by decide +kernel
theorem dX6_toldOf_29 : decode cX6_toldOf 29 = .ok (.iload_n 3, 1) := by decide +kernel
theorem dX6_toldOf_30 : decode cX6_toldOf 30 = .ok (.aload_n 0, 1) := by decide +kernel
theorem dX6_toldOf_31 : decode cX6_toldOf 31 = .ok (.getfield 9, 3) := by decide +kernel
theorem dX6_toldOf_34 : decode cX6_toldOf 34 = .ok (.irem, 1) := by decide +kernel
theorem dX6_toldOf_35 : decode cX6_toldOf 35 = .ok (.iconst 1, 1) := by decide +kernel
theorem dX6_toldOf_36 : decode cX6_toldOf 36 = .ok (.iadd, 1) := by decide +kernel
theorem dX6_toldOf_37 : decode cX6_toldOf 37 = .ok (.iconst 3, 1) := by decide +kernel
theorem dX6_toldOf_38 : decode cX6_toldOf 38 = .ok (.iload 5, 2) := by decide +kernel
theorem dX6_toldOf_40 : decode cX6_toldOf 40 = .ok (.imul, 1) := by decide +kernel
theorem dX6_toldOf_41 : decode cX6_toldOf 41 = .ok (.ishl, 1) := by decide +kernel
theorem dX6_toldOf_42 : decode cX6_toldOf 42 = .ok (.ior, 1) := by decide +kernel
theorem dX6_toldOf_43 : decode cX6_toldOf 43 = .ok (.istore 4, 2) := by decide +kernel
theorem dX6_toldOf_45 : decode cX6_toldOf 45 = .ok (.iload_n 3, 1) := by decide +kernel
theorem dX6_toldOf_46 : decode cX6_toldOf 46 = .ok (.aload_n 0, 1) := by decide +kernel
theorem dX6_toldOf_47 : decode cX6_toldOf 47 = .ok (.getfield 9, 3) := by decide +kernel
theorem dX6_toldOf_50 : decode cX6_toldOf 50 = .ok (.idiv, 1) := by decide +kernel
theorem dX6_toldOf_51 : decode cX6_toldOf 51 = .ok (.istore_n 3, 1) := by decide +kernel
theorem dX6_toldOf_52 : decode cX6_toldOf 52 = .ok (.iinc 5 1, 3) := by decide +kernel
theorem dX6_toldOf_55 : decode cX6_toldOf 55 = .ok (.goto (-34), 3) := by decide +kernel
theorem dX6_toldOf_58 : decode cX6_toldOf 58 = .ok (.iload 4, 2) := by decide +kernel
theorem dX6_toldOf_60 : decode cX6_toldOf 60 = .ok (.ireturn, 1) := by decide +kernel
theorem dX6_lengthOf_0 : decode cX6_lengthOf 0 = .ok (.iconst 0, 1) := by decide +kernel
theorem dX6_lengthOf_1 : decode cX6_lengthOf 1 = .ok (.istore_n 2, 1) := by decide +kernel
theorem dX6_lengthOf_2 : decode cX6_lengthOf 2 = .ok (.iconst 1, 1) := by decide +kernel
theorem dX6_lengthOf_3 : decode cX6_lengthOf 3 = .ok (.istore_n 3, 1) := by decide +kernel
theorem dX6_lengthOf_4 : decode cX6_lengthOf 4 = .ok (.iload_n 3, 1) := by decide +kernel
theorem dX6_lengthOf_5 : decode cX6_lengthOf 5 = .ok (.aload_n 0, 1) := by decide +kernel
theorem dX6_lengthOf_6 : decode cX6_lengthOf 6 = .ok (.getfield 15, 3) := by decide +kernel
theorem dX6_lengthOf_9 : decode cX6_lengthOf 9 = .ok (.if_icmp .gt 21, 3) := by decide +kernel
theorem dX6_lengthOf_12 : decode cX6_lengthOf 12 = .ok (.iload_n 1, 1) := by decide +kernel
theorem dX6_lengthOf_13 : decode cX6_lengthOf 13 = .ok (.aload_n 0, 1) := by decide +kernel
theorem dX6_lengthOf_14 : decode cX6_lengthOf 14 = .ok (.getfield 22, 3) := by decide +kernel
theorem dX6_lengthOf_17 : decode cX6_lengthOf 17 = .ok (.iload_n 3, 1) := by decide +kernel
theorem dX6_lengthOf_18 : decode cX6_lengthOf 18 = .ok (.iaload, 1) := by decide +kernel
theorem dX6_lengthOf_19 : decode cX6_lengthOf 19 = .ok (.if_icmp .lt 5, 3) := by decide +kernel
theorem dX6_lengthOf_22 : decode cX6_lengthOf 22 = .ok (.iload_n 3, 1) := by decide +kernel
theorem dX6_lengthOf_23 : decode cX6_lengthOf 23 = .ok (.istore_n 2, 1) := by decide +kernel
theorem dX6_lengthOf_24 : decode cX6_lengthOf 24 = .ok (.iinc 3 1, 3) := by decide +kernel
theorem dX6_lengthOf_27 : decode cX6_lengthOf 27 = .ok (.goto (-23), 3) := by decide +kernel
theorem dX6_lengthOf_30 : decode cX6_lengthOf 30 = .ok (.iload_n 2, 1) := by decide +kernel
theorem dX6_lengthOf_31 : decode cX6_lengthOf 31 = .ok (.ireturn, 1) := by decide +kernel
theorem dX6_backward_0 : decode cX6_backward 0 = .ok (.iload_n 1, 1) := by decide +kernel
theorem dX6_backward_1 : decode cX6_backward 1 = .ok (.istore_n 3, 1) := by decide +kernel
theorem dX6_backward_2 : decode cX6_backward 2 = .ok (.iconst 0, 1) := by decide +kernel
theorem dX6_backward_3 : decode cX6_backward 3 = .ok (.istore 4, 2) := by decide +kernel
theorem dX6_backward_5 : decode cX6_backward 5 = .ok (.iconst 0, 1) := by decide +kernel
theorem dX6_backward_6 : decode cX6_backward 6 = .ok (.istore 5, 2) := by decide +kernel
theorem dX6_backward_8 : decode cX6_backward 8 = .ok (.iload 5, 2) := by decide +kernel
theorem dX6_backward_10 : decode cX6_backward 10 = .ok (.iload_n 2, 1) := by decide +kernel
theorem dX6_backward_11 : decode cX6_backward 11 = .ok (.if_icmp .ge 32, 3) := by decide +kernel
theorem dX6_backward_14 : decode cX6_backward 14 = .ok (.iload 4, 2) := by decide +kernel
theorem dX6_backward_16 : decode cX6_backward 16 = .ok (.aload_n 0, 1) := by decide +kernel
theorem dX6_backward_17 : decode cX6_backward 17 = .ok (.getfield 9, 3) := by decide +kernel
theorem dX6_backward_20 : decode cX6_backward 20 = .ok (.imul, 1) := by decide +kernel
theorem dX6_backward_21 : decode cX6_backward 21 = .ok (.iload_n 3, 1) := by decide +kernel
theorem dX6_backward_22 : decode cX6_backward 22 = .ok (.aload_n 0, 1) := by decide +kernel
theorem dX6_backward_23 : decode cX6_backward 23 = .ok (.getfield 9, 3) := by decide +kernel
theorem dX6_backward_26 : decode cX6_backward 26 = .ok (.irem, 1) := by decide +kernel
theorem dX6_backward_27 : decode cX6_backward 27 = .ok (.iadd, 1) := by decide +kernel
theorem dX6_backward_28 : decode cX6_backward 28 = .ok (.istore 4, 2) := by decide +kernel
theorem dX6_backward_30 : decode cX6_backward 30 = .ok (.iload_n 3, 1) := by decide +kernel
theorem dX6_backward_31 : decode cX6_backward 31 = .ok (.aload_n 0, 1) := by decide +kernel
theorem dX6_backward_32 : decode cX6_backward 32 = .ok (.getfield 9, 3) := by decide +kernel
theorem dX6_backward_35 : decode cX6_backward 35 = .ok (.idiv, 1) := by decide +kernel
theorem dX6_backward_36 : decode cX6_backward 36 = .ok (.istore_n 3, 1) := by decide +kernel
theorem dX6_backward_37 : decode cX6_backward 37 = .ok (.iinc 5 1, 3) := by decide +kernel
theorem dX6_backward_40 : decode cX6_backward 40 = .ok (.goto (-32), 3) := by decide +kernel
theorem dX6_backward_43 : decode cX6_backward 43 = .ok (.iload 4, 2) := by decide +kernel
theorem dX6_backward_45 : decode cX6_backward 45 = .ok (.ireturn, 1) := by decide +kernel
set_option maxRecDepth 20000 in
theorem ggX7_init_J9_floorMod_7cf53 : GoodIn wsX7_init wsJ9_floorMod_7cf53 := by
  refine goodIn_sub ?_ gd_J9_floorMod_7cf53
  unfold wsJ9_floorMod_7cf53
  refine wm_c ⟨(wk_X7_init_X7_init_r2 _ (wm_8 (wm_1 wm_h))), ?_⟩
  exact wm_n
set_option maxRecDepth 20000 in
theorem gX7_init_J9_floorMod_7cf53 : GoodIn wsX7_init (va_wsS RX7 9 yJ9_floorMod_7cf53 wsJ9_floorMod_7cf53) := goodIn_app (goodIn_of _ (by decide +kernel)) ggX7_init_J9_floorMod_7cf53
set_option maxRecDepth 20000 in
theorem ggX7_init_X6_init : GoodIn wsX7_init wsX6_init := by
  refine goodIn_sub ?_ gd_X6_init
  unfold wsX6_init
  refine wm_c ⟨(wk_X7_init_X7_init_r2 _ (wm_8 (wm_4 wm_h))), ?_⟩
  refine wm_a ⟨?_, ?_⟩
  · refine wm_c ⟨(wk_X7_init_X7_init_r2 _ (wm_8 (wm_4 (wm_1 wm_h)))), ?_⟩
    refine wm_c ⟨(wk_X7_init_X7_init_r1 _ (wm_1 wm_h)), ?_⟩
    refine wm_c ⟨(wk_X7_init_X7_init_r1 _ (wm_2 wm_h)), ?_⟩
    refine wm_c ⟨(wk_X7_init_X7_init_r2 _ (wm_8 (wm_4 (wm_2 wm_h)))), ?_⟩
    refine wm_c ⟨(wk_X7_init_X7_init_r2 _ (wm_8 (wm_4 (wm_2 (wm_1 wm_h))))), ?_⟩
    refine wm_c ⟨(wk_X7_init_X7_init_r1 _ (wm_8 wm_h)), ?_⟩
    refine wm_c ⟨(wk_X7_init_X7_init_r2 _ (wm_16 wm_h)), ?_⟩
    refine wm_c ⟨(wk_X7_init_X7_init_r2 _ (wm_16 (wm_1 wm_h))), ?_⟩
    exact wm_n
  · exact wk_X7_init_X60
set_option maxRecDepth 20000 in
theorem gX7_init_X6_init : GoodIn wsX7_init (wsX6_init) := ggX7_init_X6_init
set_option maxRecDepth 20000 in
theorem ggX7_init_X6_all : GoodIn wsX7_init wsX6_all := by
  refine goodIn_sub ?_ gd_X6_all
  unfold wsX6_all
  refine wm_c ⟨(wk_X7_init_X7_init_r2 _ (wm_16 (wm_4 (wm_1 wm_h)))), ?_⟩
  refine wm_a ⟨?_, ?_⟩
  · refine wm_c ⟨(wk_X7_init_X7_init_r2 _ (wm_16 (wm_1 wm_h))), ?_⟩
    refine wm_c ⟨(wk_X7_init_X7_init_r2 _ (wm_8 (wm_4 (wm_2 (wm_1 wm_h))))), ?_⟩
    exact wm_n
  · exact wk_X7_init_X60
set_option maxRecDepth 20000 in
theorem gX7_init_X6_all : GoodIn wsX7_init (wsV RX7 26 RX6 yX6_all wsX6_all) := by
  refine goodIn_app (goodIn_sub ?_ ?_) ggX7_init_X6_all
  · exact wm_c ⟨(wk_X7_init_X7_init_r2 _ (wm_16 (wm_2 wm_h))), wm_c ⟨(wk_X7_init_X7_init_r2 _ (wm_16 (wm_2 (wm_1 wm_h)))), wm_c ⟨(wk_X7_init_X7_init_r2 _ (wm_16 (wm_4 wm_h))), wm_c ⟨(wk_X7_init_X7_init_r1 _ (wm_4 (wm_1 wm_h))), wm_n⟩⟩⟩⟩
  · decide +kernel
set_option maxRecDepth 20000 in
theorem ggX7_init_X0_init : GoodIn wsX7_init wsX0_init := by
  refine goodIn_sub ?_ gd_X0_init
  unfold wsX0_init
  refine wm_c ⟨(wk_X7_init_X7_init_r3 _ wm_h), ?_⟩
  refine wm_a ⟨?_, ?_⟩
  · refine wm_a ⟨?_, ?_⟩
    · refine wm_a ⟨?_, ?_⟩
      · unfold wsX0_init_r1
        refine wm_c ⟨(wk_X7_init_X7_init_r3 _ (wm_1 wm_h)), ?_⟩
        refine wm_c ⟨(wk_X7_init_X7_init_r1 _ (wm_1 wm_h)), ?_⟩
        refine wm_c ⟨(wk_X7_init_X7_init_r1 _ (wm_2 wm_h)), ?_⟩
        refine wm_c ⟨(wk_X7_init_X7_init_r3 _ (wm_2 wm_h)), ?_⟩
        refine wm_c ⟨(wk_X7_init_X7_init_r3 _ (wm_2 (wm_1 wm_h))), ?_⟩
        refine wm_c ⟨(wk_X7_init_X7_init_r3 _ (wm_4 wm_h)), ?_⟩
        refine wm_c ⟨(wk_X7_init_X7_init_r3 _ (wm_4 (wm_1 wm_h))), ?_⟩
        refine wm_c ⟨(wk_X7_init_X7_init_r3 _ (wm_4 (wm_2 wm_h))), ?_⟩
        refine wm_c ⟨(wk_X7_init_X7_init_r3 _ (wm_4 (wm_2 (wm_1 wm_h)))), ?_⟩
        refine wm_c ⟨(wk_X7_init_X7_init_r3 _ (wm_8 wm_h)), ?_⟩
        refine wm_c ⟨(wk_X7_init_X7_init_r3 _ (wm_8 (wm_1 wm_h))), ?_⟩
        refine wm_c ⟨(wk_X7_init_X7_init_r3 _ (wm_8 (wm_2 wm_h))), ?_⟩
        refine wm_c ⟨(wk_X7_init_X7_init_r1 _ (wm_8 wm_h)), ?_⟩
        refine wm_c ⟨(wk_X7_init_X7_init_r3 _ (wm_8 (wm_2 (wm_1 wm_h)))), ?_⟩
        refine wm_c ⟨(wk_X7_init_X7_init_r3 _ (wm_8 (wm_4 wm_h))), ?_⟩
        refine wm_c ⟨(wk_X7_init_X7_init_r3 _ (wm_8 (wm_4 (wm_1 wm_h)))), ?_⟩
        refine wm_c ⟨(wk_X7_init_X7_init_r3 _ (wm_8 (wm_4 (wm_2 wm_h)))), ?_⟩
        refine wm_c ⟨(wk_X7_init_X7_init_r3 _ (wm_8 (wm_4 (wm_2 (wm_1 wm_h))))), ?_⟩
        refine wm_c ⟨(wk_X7_init_X7_init_r3 _ (wm_16 wm_h)), ?_⟩
        refine wm_c ⟨(wk_X7_init_X7_init_r3 _ (wm_16 (wm_1 wm_h))), ?_⟩
        refine wm_c ⟨(wk_X7_init_X7_init_r3 _ (wm_16 (wm_2 wm_h))), ?_⟩
        refine wm_c ⟨(wk_X7_init_X7_init_r3 _ (wm_16 (wm_2 (wm_1 wm_h)))), ?_⟩
        refine wm_c ⟨(wk_X7_init_X7_init_r3 _ (wm_16 (wm_4 wm_h))), ?_⟩
        refine wm_c ⟨(wk_X7_init_X7_init_r3 _ (wm_16 (wm_4 (wm_1 wm_h)))), ?_⟩
        exact wm_n
      · unfold wsX0_init_r2
        refine wm_c ⟨(wk_X7_init_X7_init_r3 _ (wm_16 (wm_4 (wm_2 wm_h)))), ?_⟩
        refine wm_c ⟨(wk_X7_init_X7_init_r3 _ (wm_16 (wm_4 (wm_2 (wm_1 wm_h))))), ?_⟩
        refine wm_c ⟨(wk_X7_init_X7_init_r4 _ wm_h), ?_⟩
        refine wm_c ⟨(wk_X7_init_X7_init_r4 _ (wm_1 wm_h)), ?_⟩
        refine wm_c ⟨(wk_X7_init_X7_init_r4 _ (wm_2 wm_h)), ?_⟩
        refine wm_c ⟨(wk_X7_init_X7_init_r4 _ (wm_2 (wm_1 wm_h))), ?_⟩
        refine wm_c ⟨(wk_X7_init_X7_init_r2 _ (wm_16 (wm_2 (wm_1 wm_h)))), ?_⟩
        refine wm_c ⟨(wk_X7_init_X7_init_r2 _ (wm_16 (wm_4 wm_h))), ?_⟩
        refine wm_c ⟨(wk_X7_init_X7_init_r1 _ (wm_4 (wm_1 wm_h))), ?_⟩
        refine wm_c ⟨(wk_X7_init_X7_init_r2 _ (wm_16 (wm_4 (wm_1 wm_h)))), ?_⟩
        refine wm_c ⟨(wk_X7_init_X7_init_r2 _ (wm_16 (wm_1 wm_h))), ?_⟩
        refine wm_c ⟨(wk_X7_init_X7_init_r2 _ (wm_8 (wm_4 (wm_2 (wm_1 wm_h))))), ?_⟩
        exact wm_n
    · exact wk_X7_init_X00
  · exact wk_X7_init_X60
set_option maxRecDepth 20000 in
theorem gX7_init_X0_init : GoodIn wsX7_init (wsX0_init) := ggX7_init_X0_init
set_option maxRecDepth 20000 in
theorem ggX7_init_X1_init : GoodIn wsX7_init wsX1_init := by
  refine goodIn_sub ?_ gd_X1_init
  unfold wsX1_init
  refine wm_c ⟨(wk_X7_init_X7_init_r4 _ (wm_4 (wm_2 wm_h))), ?_⟩
  refine wm_a ⟨?_, ?_⟩
  · refine wm_a ⟨?_, ?_⟩
    · refine wm_a ⟨?_, ?_⟩
      · refine wm_a ⟨?_, ?_⟩
        · unfold wsX1_init_r1
          refine wm_c ⟨(wk_X7_init_X7_init_r4 _ (wm_4 (wm_2 (wm_1 wm_h)))), ?_⟩
          refine wm_c ⟨(wk_X7_init_X7_init_r1 _ (wm_1 wm_h)), ?_⟩
          refine wm_c ⟨(wk_X7_init_X7_init_r1 _ (wm_2 wm_h)), ?_⟩
          refine wm_c ⟨(wk_X7_init_X7_init_r4 _ (wm_8 wm_h)), ?_⟩
          refine wm_c ⟨(wk_X7_init_X7_init_r4 _ (wm_8 (wm_1 wm_h))), ?_⟩
          refine wm_c ⟨(wk_X7_init_X7_init_r4 _ (wm_8 (wm_2 wm_h))), ?_⟩
          refine wm_c ⟨(wk_X7_init_X7_init_r4 _ (wm_8 (wm_2 (wm_1 wm_h)))), ?_⟩
          refine wm_c ⟨(wk_X7_init_X7_init_r4 _ (wm_8 (wm_4 wm_h))), ?_⟩
          refine wm_c ⟨(wk_X7_init_X7_init_r1 _ (wm_8 wm_h)), ?_⟩
          refine wm_c ⟨(wk_X7_init_X7_init_r4 _ (wm_8 (wm_4 (wm_1 wm_h)))), ?_⟩
          refine wm_c ⟨(wk_X7_init_X7_init_r4 _ (wm_8 (wm_4 (wm_2 wm_h)))), ?_⟩
          refine wm_c ⟨(wk_X7_init_X7_init_r4 _ (wm_8 (wm_4 (wm_2 (wm_1 wm_h))))), ?_⟩
          refine wm_c ⟨(wk_X7_init_X7_init_r4 _ (wm_16 wm_h)), ?_⟩
          refine wm_c ⟨(wk_X7_init_X7_init_r4 _ (wm_16 (wm_1 wm_h))), ?_⟩
          refine wm_c ⟨(wk_X7_init_X7_init_r4 _ (wm_16 (wm_2 wm_h))), ?_⟩
          refine wm_c ⟨(wk_X7_init_X7_init_r2 _ (wm_16 (wm_2 (wm_1 wm_h)))), ?_⟩
          refine wm_c ⟨(wk_X7_init_X7_init_r2 _ (wm_16 (wm_4 wm_h))), ?_⟩
          refine wm_c ⟨(wk_X7_init_X7_init_r1 _ (wm_4 (wm_1 wm_h))), ?_⟩
          refine wm_c ⟨(wk_X7_init_X7_init_r2 _ (wm_16 (wm_4 (wm_1 wm_h)))), ?_⟩
          refine wm_c ⟨(wk_X7_init_X7_init_r2 _ (wm_16 (wm_1 wm_h))), ?_⟩
          refine wm_c ⟨(wk_X7_init_X7_init_r2 _ (wm_8 (wm_4 (wm_2 (wm_1 wm_h))))), ?_⟩
          refine wm_c ⟨(wk_X7_init_X7_init_r4 _ (wm_16 (wm_2 (wm_1 wm_h)))), ?_⟩
          refine wm_c ⟨(wk_X7_init_X7_init_r4 _ (wm_16 (wm_4 wm_h))), ?_⟩
          refine wm_c ⟨(wk_X7_init_X7_init_r4 _ (wm_16 (wm_4 (wm_1 wm_h)))), ?_⟩
          exact wm_n
        · refine wm_a ⟨?_, ?_⟩
          · unfold wsX1_init_r2
            refine wm_c ⟨(wk_X7_init_X7_init_r1 _ (wm_16 wm_h)), ?_⟩
            refine wm_c ⟨(wk_X7_init_X7_init_r4 _ (wm_16 (wm_4 (wm_2 wm_h)))), ?_⟩
            refine wm_c ⟨(wk_X7_init_X7_init_r4 _ (wm_16 (wm_4 (wm_2 (wm_1 wm_h))))), ?_⟩
            refine wm_c ⟨(wk_X7_init_X7_init_r5 _ wm_h), ?_⟩
            refine wm_c ⟨(wk_X7_init_X7_init_r5 _ (wm_1 wm_h)), ?_⟩
            refine wm_c ⟨(wk_X7_init_X7_init_r5 _ (wm_2 wm_h)), ?_⟩
            refine wm_c ⟨(wk_X7_init_X7_init_r5 _ (wm_2 (wm_1 wm_h))), ?_⟩
            refine wm_c ⟨(wk_X7_init_X7_init_r5 _ (wm_4 wm_h)), ?_⟩
            refine wm_c ⟨(wk_X7_init_X7_init_r5 _ (wm_4 (wm_1 wm_h))), ?_⟩
            refine wm_c ⟨(wk_X7_init_X7_init_r5 _ (wm_4 (wm_2 wm_h))), ?_⟩
            refine wm_c ⟨(wk_X7_init_X7_init_r5 _ (wm_4 (wm_2 (wm_1 wm_h)))), ?_⟩
            refine wm_c ⟨(wk_X7_init_X7_init_r5 _ (wm_8 wm_h)), ?_⟩
            refine wm_c ⟨(wk_X7_init_X7_init_r5 _ (wm_8 (wm_1 wm_h))), ?_⟩
            refine wm_c ⟨(wk_X7_init_X7_init_r5 _ (wm_8 (wm_2 wm_h))), ?_⟩
            refine wm_c ⟨(wk_X7_init_X7_init_r5 _ (wm_8 (wm_2 (wm_1 wm_h)))), ?_⟩
            refine wm_c ⟨(wk_X7_init_X7_init_r5 _ (wm_8 (wm_4 wm_h))), ?_⟩
            refine wm_c ⟨(wk_X7_init_X7_init_r5 _ (wm_8 (wm_4 (wm_1 wm_h)))), ?_⟩
            refine wm_c ⟨(wk_X7_init_X7_init_r5 _ (wm_8 (wm_4 (wm_2 wm_h)))), ?_⟩
            refine wm_c ⟨(wk_X7_init_X7_init_r5 _ (wm_8 (wm_4 (wm_2 (wm_1 wm_h))))), ?_⟩
            refine wm_c ⟨(wk_X7_init_X7_init_r5 _ (wm_16 wm_h)), ?_⟩
            refine wm_c ⟨(wk_X7_init_X7_init_r5 _ (wm_16 (wm_1 wm_h))), ?_⟩
            refine wm_c ⟨(wk_X7_init_X7_init_r5 _ (wm_16 (wm_2 wm_h))), ?_⟩
            refine wm_c ⟨(wk_X7_init_X7_init_r5 _ (wm_16 (wm_2 (wm_1 wm_h)))), ?_⟩
            refine wm_c ⟨(wk_X7_init_X7_init_r5 _ (wm_16 (wm_4 wm_h))), ?_⟩
            exact wm_n
          · unfold wsX1_init_r3
            refine wm_c ⟨(wk_X7_init_X7_init_r5 _ (wm_16 (wm_4 (wm_1 wm_h)))), ?_⟩
            refine wm_c ⟨(wk_X7_init_X7_init_r5 _ (wm_16 (wm_4 (wm_2 wm_h)))), ?_⟩
            refine wm_c ⟨(wk_X7_init_X7_init_r5 _ (wm_16 (wm_4 (wm_2 (wm_1 wm_h))))), ?_⟩
            refine wm_c ⟨(wk_X7_init_X7_init_r6 _ wm_h), ?_⟩
            refine wm_c ⟨(wk_X7_init_X7_init_r6 _ (wm_1 wm_h)), ?_⟩
            refine wm_c ⟨(wk_X7_init_X7_init_r6 _ (wm_2 wm_h)), ?_⟩
            refine wm_c ⟨(wk_X7_init_X7_init_r6 _ (wm_2 (wm_1 wm_h))), ?_⟩
            refine wm_c ⟨(wk_X7_init_X7_init_r6 _ (wm_4 wm_h)), ?_⟩
            refine wm_c ⟨(wk_X7_init_X7_init_r6 _ (wm_4 (wm_1 wm_h))), ?_⟩
            refine wm_c ⟨(wk_X7_init_X7_init_r6 _ (wm_4 (wm_2 wm_h))), ?_⟩
            refine wm_c ⟨(wk_X7_init_X7_init_r6 _ (wm_4 (wm_2 (wm_1 wm_h)))), ?_⟩
            refine wm_c ⟨(wk_X7_init_X7_init_r6 _ (wm_8 wm_h)), ?_⟩
            refine wm_c ⟨(wk_X7_init_X7_init_r6 _ (wm_8 (wm_1 wm_h))), ?_⟩
            refine wm_c ⟨(wk_X7_init_X7_init_r6 _ (wm_8 (wm_2 wm_h))), ?_⟩
            refine wm_c ⟨(wk_X7_init_X7_init_r6 _ (wm_8 (wm_2 (wm_1 wm_h)))), ?_⟩
            exact wm_n
      · exact wk_X7_init_X10
    · exact wk_X7_init_X00
  · exact wk_X7_init_X60
set_option maxRecDepth 20000 in
theorem gX7_init_X1_init : GoodIn wsX7_init (wsX1_init) := ggX7_init_X1_init
set_option maxRecDepth 20000 in
theorem ggX7_init_X5_init : GoodIn wsX7_init wsX5_init := by
  refine goodIn_sub ?_ gd_X5_init
  unfold wsX5_init
  refine wm_c ⟨(wk_X7_init_X7_init_r6 _ (wm_8 (wm_4 (wm_2 wm_h)))), ?_⟩
  refine wm_a ⟨?_, ?_⟩
  · refine wm_c ⟨(wk_X7_init_X7_init_r6 _ (wm_8 (wm_4 (wm_2 (wm_1 wm_h))))), ?_⟩
    refine wm_c ⟨(wk_X7_init_X7_init_r1 _ (wm_1 wm_h)), ?_⟩
    refine wm_c ⟨(wk_X7_init_X7_init_r1 _ (wm_2 wm_h)), ?_⟩
    refine wm_c ⟨(wk_X7_init_X7_init_r6 _ (wm_16 wm_h)), ?_⟩
    refine wm_c ⟨(wk_X7_init_X7_init_r6 _ (wm_16 (wm_1 wm_h))), ?_⟩
    refine wm_c ⟨(wk_X7_init_X7_init_r1 _ (wm_8 wm_h)), ?_⟩
    refine wm_c ⟨(wk_X7_init_X7_init_r6 _ (wm_16 (wm_2 wm_h))), ?_⟩
    refine wm_c ⟨(wk_X7_init_X7_init_r6 _ (wm_16 (wm_2 (wm_1 wm_h)))), ?_⟩
    exact wm_n
  · exact wk_X7_init_X50
set_option maxRecDepth 20000 in
theorem gX7_init_X5_init : GoodIn wsX7_init (wsX5_init) := ggX7_init_X5_init
set_option maxRecDepth 20000 in
theorem ggX7_init_X2_init : GoodIn wsX7_init wsX2_init := by
  refine goodIn_sub ?_ gd_X2_init
  unfold wsX2_init
  refine wm_c ⟨(wk_X7_init_X7_init_r6 _ (wm_16 (wm_4 (wm_2 wm_h)))), ?_⟩
  refine wm_a ⟨?_, ?_⟩
  · refine wm_a ⟨?_, ?_⟩
    · refine wm_a ⟨?_, ?_⟩
      · refine wm_a ⟨?_, ?_⟩
        · unfold wsX2_init_r1
          refine wm_c ⟨(wk_X7_init_X7_init_r6 _ (wm_16 (wm_4 (wm_2 (wm_1 wm_h))))), ?_⟩
          refine wm_c ⟨(wk_X7_init_X7_init_r1 _ (wm_1 wm_h)), ?_⟩
          refine wm_c ⟨(wk_X7_init_X7_init_r1 _ (wm_2 wm_h)), ?_⟩
          refine wm_c ⟨(wk_X7_init_X7_init_r7 _ wm_h), ?_⟩
          refine wm_c ⟨(wk_X7_init_X7_init_r7 _ (wm_1 wm_h)), ?_⟩
          refine wm_c ⟨(wk_X7_init_X7_init_r7 _ (wm_2 wm_h)), ?_⟩
          refine wm_c ⟨(wk_X7_init_X7_init_r1 _ (wm_8 wm_h)), ?_⟩
          refine wm_c ⟨(wk_X7_init_X7_init_r7 _ (wm_2 (wm_1 wm_h))), ?_⟩
          refine wm_c ⟨(wk_X7_init_X7_init_r7 _ (wm_4 wm_h)), ?_⟩
          refine wm_c ⟨(wk_X7_init_X7_init_r7 _ (wm_4 (wm_1 wm_h))), ?_⟩
          refine wm_c ⟨(wk_X7_init_X7_init_r7 _ (wm_4 (wm_2 wm_h))), ?_⟩
          refine wm_c ⟨(wk_X7_init_X7_init_r7 _ (wm_4 (wm_2 (wm_1 wm_h)))), ?_⟩
          refine wm_c ⟨(wk_X7_init_X7_init_r7 _ (wm_8 wm_h)), ?_⟩
          refine wm_c ⟨(wk_X7_init_X7_init_r7 _ (wm_8 (wm_1 wm_h))), ?_⟩
          refine wm_c ⟨(wk_X7_init_X7_init_r7 _ (wm_8 (wm_2 wm_h))), ?_⟩
          refine wm_c ⟨(wk_X7_init_X7_init_r7 _ (wm_8 (wm_2 (wm_1 wm_h)))), ?_⟩
          refine wm_c ⟨(wk_X7_init_X7_init_r7 _ (wm_8 (wm_4 wm_h))), ?_⟩
          refine wm_c ⟨(wk_X7_init_X7_init_r1 _ (wm_16 wm_h)), ?_⟩
          refine wm_c ⟨(wk_X7_init_X7_init_r7 _ (wm_8 (wm_4 (wm_1 wm_h)))), ?_⟩
          refine wm_c ⟨(wk_X7_init_X7_init_r4 _ (wm_8 (wm_4 (wm_2 wm_h)))), ?_⟩
          refine wm_c ⟨(wk_X7_init_X7_init_r7 _ (wm_8 (wm_4 (wm_2 wm_h)))), ?_⟩
          refine wm_c ⟨(wk_X7_init_X7_init_r7 _ (wm_8 (wm_4 (wm_2 (wm_1 wm_h))))), ?_⟩
          refine wm_c ⟨(wk_X7_init_X7_init_r7 _ (wm_16 wm_h)), ?_⟩
          refine wm_c ⟨(wk_X7_init_X7_init_r7 _ (wm_16 (wm_1 wm_h))), ?_⟩
          exact wm_n
        · unfold wsX2_init_r2
          refine wm_c ⟨(wk_X7_init_X7_init_r4 _ (wm_8 wm_h)), ?_⟩
          refine wm_c ⟨(wk_X7_init_X7_init_r4 _ (wm_8 (wm_4 wm_h))), ?_⟩
          exact wm_n
      · exact wk_X7_init_X20
    · exact wk_X7_init_X60
  · exact wk_X7_init_X10
set_option maxRecDepth 20000 in
theorem gX7_init_X2_init : GoodIn wsX7_init (wsX2_init) := ggX7_init_X2_init
set_option maxRecDepth 20000 in
theorem ggX7_init_X4_init : GoodIn wsX7_init wsX4_init := by
  refine goodIn_sub ?_ gd_X4_init
  unfold wsX4_init
  refine wm_c ⟨(wk_X7_init_X7_init_r7 _ (wm_16 (wm_4 wm_h))), ?_⟩
  refine wm_a ⟨?_, ?_⟩
  · refine wm_a ⟨?_, ?_⟩
    · refine wm_c ⟨(wk_X7_init_X7_init_r7 _ (wm_16 (wm_4 (wm_1 wm_h)))), ?_⟩
      refine wm_c ⟨(wk_X7_init_X7_init_r1 _ (wm_1 wm_h)), ?_⟩
      refine wm_c ⟨(wk_X7_init_X7_init_r1 _ (wm_2 wm_h)), ?_⟩
      refine wm_c ⟨(wk_X7_init_X7_init_r7 _ (wm_16 (wm_4 (wm_2 wm_h)))), ?_⟩
      refine wm_c ⟨(wk_X7_init_X7_init_r7 _ (wm_16 (wm_4 (wm_2 (wm_1 wm_h))))), ?_⟩
      refine wm_c ⟨(wk_X7_init_X7_init_r8 _ wm_h), ?_⟩
      refine wm_c ⟨(wk_X7_init_X7_init_r8 _ (wm_1 wm_h)), ?_⟩
      refine wm_c ⟨(wk_X7_init_X7_init_r8 _ (wm_2 wm_h)), ?_⟩
      refine wm_c ⟨(wk_X7_init_X7_init_r1 _ (wm_8 wm_h)), ?_⟩
      refine wm_c ⟨(wk_X7_init_X7_init_r8 _ (wm_2 (wm_1 wm_h))), ?_⟩
      exact wm_n
    · exact wk_X7_init_X40
  · exact wk_X7_init_X00
set_option maxRecDepth 20000 in
theorem gX7_init_X4_init : GoodIn wsX7_init (wsX4_init) := ggX7_init_X4_init
theorem dX7_init_0 : decode cX7_init 0 = .ok (.aload_n 0, 1) := by decide +kernel
theorem dX7_init_1 : decode cX7_init 1 = .ok (.invokespecial 3, 3) := by decide +kernel
theorem dX7_init_4 : decode cX7_init 4 = .ok (.iconst 2, 1) := by decide +kernel
theorem dX7_init_5 : decode cX7_init 5 = .ok (.iload_n 1, 1) := by decide +kernel
theorem dX7_init_6 : decode cX7_init 6 = .ok (.iconst 3, 1) := by decide +kernel
theorem dX7_init_7 : decode cX7_init 7 = .ok (.invokestatic 9, 3) := by decide +kernel
theorem dX7_init_10 : decode cX7_init 10 = .ok (.iadd, 1) := by decide +kernel
theorem dX7_init_11 : decode cX7_init 11 = .ok (.istore_n 3, 1) := by decide +kernel
theorem dX7_init_12 : decode cX7_init 12 = .ok (.iconst 2, 1) := by decide +kernel
theorem dX7_init_13 : decode cX7_init 13 = .ok (.iload_n 2, 1) := by decide +kernel
theorem dX7_init_14 : decode cX7_init 14 = .ok (.bipush 7, 2) := by decide +kernel
theorem dX7_init_16 : decode cX7_init 16 = .ok (.iload_n 3, 1) := by decide +kernel
theorem dX7_init_17 : decode cX7_init 17 = .ok (.isub, 1) := by decide +kernel
theorem dX7_init_18 : decode cX7_init 18 = .ok (.invokestatic 9, 3) := by decide +kernel
theorem dX7_init_21 : decode cX7_init 21 = .ok (.iadd, 1) := by decide +kernel
theorem dX7_init_22 : decode cX7_init 22 = .ok (.istore 4, 2) := by decide +kernel
theorem dX7_init_24 : decode cX7_init 24 = .ok (.aload_n 0, 1) := by decide +kernel
theorem dX7_init_25 : decode cX7_init 25 = .ok (.new 15, 3) := by decide +kernel
theorem dX7_init_28 : decode cX7_init 28 = .ok (.dup, 1) := by decide +kernel
theorem dX7_init_29 : decode cX7_init 29 = .ok (.iload_n 3, 1) := by decide +kernel
theorem dX7_init_30 : decode cX7_init 30 = .ok (.iload 4, 2) := by decide +kernel
theorem dX7_init_32 : decode cX7_init 32 = .ok (.invokespecial 17, 3) := by decide +kernel
theorem dX7_init_35 : decode cX7_init 35 = .ok (.putfield 20, 3) := by decide +kernel
theorem dX7_init_38 : decode cX7_init 38 = .ok (.aload_n 0, 1) := by decide +kernel
theorem dX7_init_39 : decode cX7_init 39 = .ok (.bipush 8, 2) := by decide +kernel
theorem dX7_init_41 : decode cX7_init 41 = .ok (.aload_n 0, 1) := by decide +kernel
theorem dX7_init_42 : decode cX7_init 42 = .ok (.getfield 20, 3) := by decide +kernel
theorem dX7_init_45 : decode cX7_init 45 = .ok (.invokevirtual 26, 3) := by decide +kernel
theorem dX7_init_48 : decode cX7_init 48 = .ok (.multianewarray 30 2, 4) := by decide +kernel
theorem dX7_init_52 : decode cX7_init 52 = .ok (.putfield 32, 3) := by decide +kernel
theorem dX7_init_55 : decode cX7_init 55 = .ok (.aload_n 0, 1) := by decide +kernel
theorem dX7_init_56 : decode cX7_init 56 = .ok (.new 35, 3) := by decide +kernel
theorem dX7_init_59 : decode cX7_init 59 = .ok (.dup, 1) := by decide +kernel
theorem dX7_init_60 : decode cX7_init 60 = .ok (.aload_n 0, 1) := by decide +kernel
theorem dX7_init_61 : decode cX7_init 61 = .ok (.getfield 20, 3) := by decide +kernel
