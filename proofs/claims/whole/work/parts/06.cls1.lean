theorem dX0_isLie_27 : decode cX0_isLie 27 = .ok (.aload_n 0, 1) := by decide +kernel
theorem dX0_isLie_28 : decode cX0_isLie 28 = .ok (.aload_n 1, 1) := by decide +kernel
theorem dX0_isLie_29 : decode cX0_isLie 29 = .ok (.iload_n 2, 1) := by decide +kernel
theorem dX0_isLie_30 : decode cX0_isLie 30 = .ok (.invokevirtual 150, 3) := by decide +kernel
theorem dX0_isLie_33 : decode cX0_isLie 33 = .ok (.ifCond .ne 5, 3) := by decide +kernel
theorem dX0_isLie_36 : decode cX0_isLie 36 = .ok (.iconst 0, 1) := by decide +kernel
theorem dX0_isLie_37 : decode cX0_isLie 37 = .ok (.ireturn, 1) := by decide +kernel
theorem dX0_isLie_38 : decode cX0_isLie 38 = .ok (.iinc 2 1, 3) := by decide +kernel
theorem dX0_isLie_41 : decode cX0_isLie 41 = .ok (.goto (-31), 3) := by decide +kernel
theorem dX0_isLie_44 : decode cX0_isLie 44 = .ok (.iconst 1, 1) := by decide +kernel
theorem dX0_isLie_45 : decode cX0_isLie 45 = .ok (.ireturn, 1) := by decide +kernel
set_option maxRecDepth 20000 in
theorem ggX0_isLieAt_X0_lastAhead : GoodIn wsX0_isLieAt wsX0_lastAhead := by
  refine goodIn_sub ?_ gd_X0_lastAhead
  unfold wsX0_lastAhead
  refine wm_c ⟨(wm_1 (wm_l (wm_8 (wm_4 wm_h)))), ?_⟩
  refine wm_a ⟨?_, ?_⟩
  · refine wm_c ⟨(wm_1 (wm_l (wm_2 (wm_1 wm_h)))), ?_⟩
    refine wm_c ⟨(wm_1 (wm_l (wm_8 (wm_4 (wm_1 wm_h))))), ?_⟩
    exact wm_n
  · exact wk_X0_isLieAt_X00
set_option maxRecDepth 20000 in
theorem gX0_isLieAt_X0_lastAhead : GoodIn wsX0_isLieAt (wsV RX0 153 RX0 yX0_lastAhead wsX0_lastAhead) := by
  refine goodIn_app (goodIn_sub ?_ ?_) ggX0_isLieAt_X0_lastAhead
  · exact wm_c ⟨(wm_1 (wm_l (wm_8 wm_h))), wm_c ⟨(wm_1 (wm_l (wm_8 (wm_1 wm_h)))), wm_c ⟨(wm_1 (wm_l (wm_8 (wm_2 wm_h)))), wm_c ⟨(wm_1 (wm_l (wm_8 (wm_2 (wm_1 wm_h))))), wm_n⟩⟩⟩⟩
  · decide +kernel
set_option maxRecDepth 20000 in
theorem ggX0_isLieAt_X3_minus : GoodIn wsX0_isLieAt wsX3_minus := by
  refine goodIn_sub ?_ gd_X3_minus
  unfold wsX3_minus
  refine wm_c ⟨(wm_1 (wm_l (wm_16 (wm_1 wm_h)))), ?_⟩
  refine wm_c ⟨(wm_1 (wm_l (wm_16 (wm_2 wm_h)))), ?_⟩
  exact wm_n
set_option maxRecDepth 20000 in
theorem gX0_isLieAt_X3_minus : GoodIn wsX0_isLieAt (va_wsS RX0 114 yX3_minus wsX3_minus) := goodIn_app (goodIn_of _ (by decide +kernel)) ggX0_isLieAt_X3_minus
set_option maxRecDepth 20000 in
theorem ggX0_isLieAt_X3_product : GoodIn wsX0_isLieAt wsX3_product := by
  refine goodIn_sub ?_ gd_X3_product
  unfold wsX3_product
  refine wm_c ⟨(wm_1 (wm_l (wm_16 (wm_4 (wm_1 wm_h))))), ?_⟩
  refine wm_c ⟨(wm_1 (wm_l (wm_16 (wm_4 (wm_2 wm_h))))), ?_⟩
  exact wm_n
set_option maxRecDepth 20000 in
theorem gX0_isLieAt_X3_product : GoodIn wsX0_isLieAt (va_wsS RX0 81 yX3_product wsX3_product) := goodIn_app (goodIn_of _ (by decide +kernel)) ggX0_isLieAt_X3_product
theorem dX0_isLieAt_0 : decode cX0_isLieAt 0 = .ok (.aload_n 0, 1) := by decide +kernel
theorem dX0_isLieAt_1 : decode cX0_isLieAt 1 = .ok (.getfield 59, 3) := by decide +kernel
theorem dX0_isLieAt_4 : decode cX0_isLieAt 4 = .ok (.astore_n 3, 1) := by decide +kernel
theorem dX0_isLieAt_5 : decode cX0_isLieAt 5 = .ok (.aload_n 0, 1) := by decide +kernel
theorem dX0_isLieAt_6 : decode cX0_isLieAt 6 = .ok (.getfield 62, 3) := by decide +kernel
theorem dX0_isLieAt_9 : decode cX0_isLieAt 9 = .ok (.astore 4, 2) := by decide +kernel
theorem dX0_isLieAt_11 : decode cX0_isLieAt 11 = .ok (.aload_n 1, 1) := by decide +kernel
theorem dX0_isLieAt_12 : decode cX0_isLieAt 12 = .ok (.aload_n 0, 1) := by decide +kernel
theorem dX0_isLieAt_13 : decode cX0_isLieAt 13 = .ok (.getfield 34, 3) := by decide +kernel
theorem dX0_isLieAt_16 : decode cX0_isLieAt 16 = .ok (.iload_n 2, 1) := by decide +kernel
theorem dX0_isLieAt_17 : decode cX0_isLieAt 17 = .ok (.iaload, 1) := by decide +kernel
theorem dX0_isLieAt_18 : decode cX0_isLieAt 18 = .ok (.aload_n 3, 1) := by decide +kernel
theorem dX0_isLieAt_19 : decode cX0_isLieAt 19 = .ok (.iconst 0, 1) := by decide +kernel
theorem dX0_isLieAt_20 : decode cX0_isLieAt 20 = .ok (.aload_n 0, 1) := by decide +kernel
theorem dX0_isLieAt_21 : decode cX0_isLieAt 21 = .ok (.getfield 30, 3) := by decide +kernel
theorem dX0_isLieAt_24 : decode cX0_isLieAt 24 = .ok (.iload_n 2, 1) := by decide +kernel
theorem dX0_isLieAt_25 : decode cX0_isLieAt 25 = .ok (.iaload, 1) := by decide +kernel
theorem dX0_isLieAt_26 : decode cX0_isLieAt 26 = .ok (.invokestatic 65, 3) := by decide +kernel
theorem dX0_isLieAt_29 : decode cX0_isLieAt 29 = .ok (.iconst 2, 1) := by decide +kernel
theorem dX0_isLieAt_30 : decode cX0_isLieAt 30 = .ok (.istore 5, 2) := by decide +kernel
theorem dX0_isLieAt_32 : decode cX0_isLieAt 32 = .ok (.iload 5, 2) := by decide +kernel
theorem dX0_isLieAt_34 : decode cX0_isLieAt 34 = .ok (.iload_n 2, 1) := by decide +kernel
theorem dX0_isLieAt_35 : decode cX0_isLieAt 35 = .ok (.if_icmp .gt 61, 3) := by decide +kernel
theorem dX0_isLieAt_38 : decode cX0_isLieAt 38 = .ok (.iconst 0, 1) := by decide +kernel
theorem dX0_isLieAt_39 : decode cX0_isLieAt 39 = .ok (.istore 6, 2) := by decide +kernel
theorem dX0_isLieAt_41 : decode cX0_isLieAt 41 = .ok (.iload 6, 2) := by decide +kernel
theorem dX0_isLieAt_43 : decode cX0_isLieAt 43 = .ok (.aload_n 0, 1) := by decide +kernel
theorem dX0_isLieAt_44 : decode cX0_isLieAt 44 = .ok (.getfield 30, 3) := by decide +kernel
theorem dX0_isLieAt_47 : decode cX0_isLieAt 47 = .ok (.iload_n 2, 1) := by decide +kernel
theorem dX0_isLieAt_48 : decode cX0_isLieAt 48 = .ok (.iaload, 1) := by decide +kernel
theorem dX0_isLieAt_49 : decode cX0_isLieAt 49 = .ok (.if_icmp .ge 31, 3) := by decide +kernel
theorem dX0_isLieAt_52 : decode cX0_isLieAt 52 = .ok (.aload 4, 2) := by decide +kernel
theorem dX0_isLieAt_54 : decode cX0_isLieAt 54 = .ok (.iload 6, 2) := by decide +kernel
theorem dX0_isLieAt_56 : decode cX0_isLieAt 56 = .ok (.aload_n 3, 1) := by decide +kernel
theorem dX0_isLieAt_57 : decode cX0_isLieAt 57 = .ok (.iload 6, 2) := by decide +kernel
theorem dX0_isLieAt_59 : decode cX0_isLieAt 59 = .ok (.iaload, 1) := by decide +kernel
theorem dX0_isLieAt_60 : decode cX0_isLieAt 60 = .ok (.aload_n 3, 1) := by decide +kernel
theorem dX0_isLieAt_61 : decode cX0_isLieAt 61 = .ok (.aload_n 0, 1) := by decide +kernel
theorem dX0_isLieAt_62 : decode cX0_isLieAt 62 = .ok (.iload 6, 2) := by decide +kernel
theorem dX0_isLieAt_64 : decode cX0_isLieAt 64 = .ok (.iload 5, 2) := by decide +kernel
theorem dX0_isLieAt_66 : decode cX0_isLieAt 66 = .ok (.invokevirtual 153, 3) := by decide +kernel
theorem dX0_isLieAt_69 : decode cX0_isLieAt 69 = .ok (.iaload, 1) := by decide +kernel
theorem dX0_isLieAt_70 : decode cX0_isLieAt 70 = .ok (.invokestatic 114, 3) := by decide +kernel
theorem dX0_isLieAt_73 : decode cX0_isLieAt 73 = .ok (.iastore, 1) := by decide +kernel
theorem dX0_isLieAt_74 : decode cX0_isLieAt 74 = .ok (.iinc 6 1, 3) := by decide +kernel
theorem dX0_isLieAt_77 : decode cX0_isLieAt 77 = .ok (.goto (-36), 3) := by decide +kernel
theorem dX0_isLieAt_80 : decode cX0_isLieAt 80 = .ok (.aload_n 3, 1) := by decide +kernel
theorem dX0_isLieAt_81 : decode cX0_isLieAt 81 = .ok (.astore 6, 2) := by decide +kernel
theorem dX0_isLieAt_83 : decode cX0_isLieAt 83 = .ok (.aload 4, 2) := by decide +kernel
theorem dX0_isLieAt_85 : decode cX0_isLieAt 85 = .ok (.astore_n 3, 1) := by decide +kernel
theorem dX0_isLieAt_86 : decode cX0_isLieAt 86 = .ok (.aload 6, 2) := by decide +kernel
theorem dX0_isLieAt_88 : decode cX0_isLieAt 88 = .ok (.astore 4, 2) := by decide +kernel
theorem dX0_isLieAt_90 : decode cX0_isLieAt 90 = .ok (.iinc 5 1, 3) := by decide +kernel
theorem dX0_isLieAt_93 : decode cX0_isLieAt 93 = .ok (.goto (-61), 3) := by decide +kernel
theorem dX0_isLieAt_96 : decode cX0_isLieAt 96 = .ok (.iconst 0, 1) := by decide +kernel
theorem dX0_isLieAt_97 : decode cX0_isLieAt 97 = .ok (.istore 5, 2) := by decide +kernel
theorem dX0_isLieAt_99 : decode cX0_isLieAt 99 = .ok (.iload 5, 2) := by decide +kernel
theorem dX0_isLieAt_101 : decode cX0_isLieAt 101 = .ok (.aload_n 0, 1) := by decide +kernel
theorem dX0_isLieAt_102 : decode cX0_isLieAt 102 = .ok (.getfield 30, 3) := by decide +kernel
theorem dX0_isLieAt_105 : decode cX0_isLieAt 105 = .ok (.iload_n 2, 1) := by decide +kernel
theorem dX0_isLieAt_106 : decode cX0_isLieAt 106 = .ok (.iaload, 1) := by decide +kernel
theorem dX0_isLieAt_107 : decode cX0_isLieAt 107 = .ok (.if_icmp .ge 33, 3) := by decide +kernel
theorem dX0_isLieAt_110 : decode cX0_isLieAt 110 = .ok (.aload_n 3, 1) := by decide +kernel
theorem dX0_isLieAt_111 : decode cX0_isLieAt 111 = .ok (.iload 5, 2) := by decide +kernel
theorem dX0_isLieAt_113 : decode cX0_isLieAt 113 = .ok (.iaload, 1) := by decide +kernel
theorem dX0_isLieAt_114 : decode cX0_isLieAt 114 = .ok (.aload_n 1, 1) := by decide +kernel
theorem dX0_isLieAt_115 : decode cX0_isLieAt 115 = .ok (.aload_n 0, 1) := by decide +kernel
theorem dX0_isLieAt_116 : decode cX0_isLieAt 116 = .ok (.getfield 34, 3) := by decide +kernel
theorem dX0_isLieAt_119 : decode cX0_isLieAt 119 = .ok (.iload_n 2, 1) := by decide +kernel
theorem dX0_isLieAt_120 : decode cX0_isLieAt 120 = .ok (.iaload, 1) := by decide +kernel
theorem dX0_isLieAt_121 : decode cX0_isLieAt 121 = .ok (.iload 5, 2) := by decide +kernel
theorem dX0_isLieAt_123 : decode cX0_isLieAt 123 = .ok (.iadd, 1) := by decide +kernel
theorem dX0_isLieAt_124 : decode cX0_isLieAt 124 = .ok (.iaload, 1) := by decide +kernel
theorem dX0_isLieAt_125 : decode cX0_isLieAt 125 = .ok (.iload_n 2, 1) := by decide +kernel
theorem dX0_isLieAt_126 : decode cX0_isLieAt 126 = .ok (.invokestatic 81, 3) := by decide +kernel
theorem dX0_isLieAt_129 : decode cX0_isLieAt 129 = .ok (.if_icmp .eq 5, 3) := by decide +kernel
theorem dX0_isLieAt_132 : decode cX0_isLieAt 132 = .ok (.iconst 0, 1) := by decide +kernel
theorem dX0_isLieAt_133 : decode cX0_isLieAt 133 = .ok (.ireturn, 1) := by decide +kernel
theorem dX0_isLieAt_134 : decode cX0_isLieAt 134 = .ok (.iinc 5 1, 3) := by decide +kernel
theorem dX0_isLieAt_137 : decode cX0_isLieAt 137 = .ok (.goto (-38), 3) := by decide +kernel
theorem dX0_isLieAt_140 : decode cX0_isLieAt 140 = .ok (.iconst 1, 1) := by decide +kernel
theorem dX0_isLieAt_141 : decode cX0_isLieAt 141 = .ok (.ireturn, 1) := by decide +kernel
theorem dX0_lastAhead_0 : decode cX0_lastAhead 0 = .ok (.iload_n 1, 1) := by decide +kernel
theorem dX0_lastAhead_1 : decode cX0_lastAhead 1 = .ok (.aload_n 0, 1) := by decide +kernel
theorem dX0_lastAhead_2 : decode cX0_lastAhead 2 = .ok (.getfield 30, 3) := by decide +kernel
theorem dX0_lastAhead_5 : decode cX0_lastAhead 5 = .ok (.iload_n 2, 1) := by decide +kernel
theorem dX0_lastAhead_6 : decode cX0_lastAhead 6 = .ok (.iaload, 1) := by decide +kernel
theorem dX0_lastAhead_7 : decode cX0_lastAhead 7 = .ok (.idiv, 1) := by decide +kernel
theorem dX0_lastAhead_8 : decode cX0_lastAhead 8 = .ok (.istore_n 3, 1) := by decide +kernel
theorem dX0_lastAhead_9 : decode cX0_lastAhead 9 = .ok (.iload_n 1, 1) := by decide +kernel
theorem dX0_lastAhead_10 : decode cX0_lastAhead 10 = .ok (.aload_n 0, 1) := by decide +kernel
theorem dX0_lastAhead_11 : decode cX0_lastAhead 11 = .ok (.getfield 30, 3) := by decide +kernel
theorem dX0_lastAhead_14 : decode cX0_lastAhead 14 = .ok (.iload_n 2, 1) := by decide +kernel
theorem dX0_lastAhead_15 : decode cX0_lastAhead 15 = .ok (.iaload, 1) := by decide +kernel
theorem dX0_lastAhead_16 : decode cX0_lastAhead 16 = .ok (.irem, 1) := by decide +kernel
theorem dX0_lastAhead_17 : decode cX0_lastAhead 17 = .ok (.istore 4, 2) := by decide +kernel
theorem dX0_lastAhead_19 : decode cX0_lastAhead 19 = .ok (.iload_n 3, 1) := by decide +kernel
theorem dX0_lastAhead_20 : decode cX0_lastAhead 20 = .ok (.aload_n 0, 1) := by decide +kernel
theorem dX0_lastAhead_21 : decode cX0_lastAhead 21 = .ok (.getfield 30, 3) := by decide +kernel
theorem dX0_lastAhead_24 : decode cX0_lastAhead 24 = .ok (.iload_n 2, 1) := by decide +kernel
theorem dX0_lastAhead_25 : decode cX0_lastAhead 25 = .ok (.iaload, 1) := by decide +kernel
theorem dX0_lastAhead_26 : decode cX0_lastAhead 26 = .ok (.imul, 1) := by decide +kernel
theorem dX0_lastAhead_27 : decode cX0_lastAhead 27 = .ok (.iload 4, 2) := by decide +kernel
theorem dX0_lastAhead_29 : decode cX0_lastAhead 29 = .ok (.aload_n 0, 1) := by decide +kernel
theorem dX0_lastAhead_30 : decode cX0_lastAhead 30 = .ok (.getfield 25, 3) := by decide +kernel
theorem dX0_lastAhead_33 : decode cX0_lastAhead 33 = .ok (.irem, 1) := by decide +kernel
theorem dX0_lastAhead_34 : decode cX0_lastAhead 34 = .ok (.aload_n 0, 1) := by decide +kernel
theorem dX0_lastAhead_35 : decode cX0_lastAhead 35 = .ok (.getfield 30, 3) := by decide +kernel
theorem dX0_lastAhead_38 : decode cX0_lastAhead 38 = .ok (.iload_n 2, 1) := by decide +kernel
theorem dX0_lastAhead_39 : decode cX0_lastAhead 39 = .ok (.iconst 1, 1) := by decide +kernel
theorem dX0_lastAhead_40 : decode cX0_lastAhead 40 = .ok (.isub, 1) := by decide +kernel
theorem dX0_lastAhead_41 : decode cX0_lastAhead 41 = .ok (.iaload, 1) := by decide +kernel
theorem dX0_lastAhead_42 : decode cX0_lastAhead 42 = .ok (.imul, 1) := by decide +kernel
theorem dX0_lastAhead_43 : decode cX0_lastAhead 43 = .ok (.iadd, 1) := by decide +kernel
theorem dX0_lastAhead_44 : decode cX0_lastAhead 44 = .ok (.iload 4, 2) := by decide +kernel
theorem dX0_lastAhead_46 : decode cX0_lastAhead 46 = .ok (.aload_n 0, 1) := by decide +kernel
theorem dX0_lastAhead_47 : decode cX0_lastAhead 47 = .ok (.getfield 25, 3) := by decide +kernel
theorem dX0_lastAhead_50 : decode cX0_lastAhead 50 = .ok (.idiv, 1) := by decide +kernel
theorem dX0_lastAhead_51 : decode cX0_lastAhead 51 = .ok (.iadd, 1) := by decide +kernel
theorem dX0_lastAhead_52 : decode cX0_lastAhead 52 = .ok (.ireturn, 1) := by decide +kernel
set_option maxRecDepth 20000 in
theorem ggX1_init_X6_all : GoodIn wsX1_init wsX6_all := by
  refine goodIn_sub ?_ gd_X6_all
  unfold wsX6_all
  refine wm_c ⟨(wk_X1_init_X1_init_r1 _ (wm_16 (wm_2 wm_h))), ?_⟩
  refine wm_a ⟨?_, ?_⟩
  · refine wm_c ⟨(wk_X1_init_X1_init_r1 _ (wm_16 (wm_2 (wm_1 wm_h)))), ?_⟩
    refine wm_c ⟨(wk_X1_init_X1_init_r1 _ (wm_16 (wm_4 wm_h))), ?_⟩
    exact wm_n
  · exact wk_X1_init_X60
set_option maxRecDepth 20000 in
theorem gX1_init_X6_all : GoodIn wsX1_init (wsV RX1 39 RX6 yX6_all wsX6_all) := by
  refine goodIn_app (goodIn_sub ?_ ?_) ggX1_init_X6_all
  · exact wm_c ⟨(wk_X1_init_X1_init_r1 _ (wm_8 (wm_4 (wm_2 wm_h)))), wm_c ⟨(wk_X1_init_X1_init_r1 _ (wm_8 (wm_4 (wm_2 (wm_1 wm_h))))), wm_c ⟨(wk_X1_init_X1_init_r1 _ (wm_16 wm_h)), wm_c ⟨(wk_X1_init_X1_init_r1 _ (wm_16 (wm_1 wm_h))), wm_n⟩⟩⟩⟩
  · decide +kernel
set_option maxRecDepth 20000 in
theorem ggX1_init_X1_findChiefs : GoodIn wsX1_init wsX1_findChiefs := by
  refine goodIn_sub ?_ gd_X1_findChiefs
  unfold wsX1_findChiefs
  refine wm_c ⟨(wk_X1_init_X1_init_r2 _ (wm_1 wm_h)), ?_⟩
  refine wm_a ⟨?_, ?_⟩
  · refine wm_a ⟨?_, ?_⟩
    · refine wm_c ⟨(wk_X1_init_X1_init_r1 _ (wm_2 (wm_1 wm_h))), ?_⟩
      refine wm_c ⟨(wk_X1_init_X1_init_r1 _ (wm_4 (wm_2 (wm_1 wm_h)))), ?_⟩
      refine wm_c ⟨(wk_X1_init_X1_init_r1 _ (wm_8 (wm_2 wm_h))), ?_⟩
      refine wm_c ⟨(wk_X1_init_X1_init_r2 _ (wm_2 wm_h)), ?_⟩
      refine wm_c ⟨(wk_X1_init_X1_init_r2 _ (wm_2 (wm_1 wm_h))), ?_⟩
      refine wm_c ⟨(wk_X1_init_X1_init_r2 _ (wm_4 wm_h)), ?_⟩
      refine wm_c ⟨(wk_X1_init_X1_init_r2 _ (wm_4 (wm_1 wm_h))), ?_⟩
      refine wm_c ⟨(wk_X1_init_X1_init_r2 _ wm_h), ?_⟩
      refine wm_c ⟨(wk_X1_init_X1_init_r2 _ (wm_4 (wm_2 wm_h))), ?_⟩
      refine wm_c ⟨(wk_X1_init_X1_init_r1 _ (wm_8 (wm_1 wm_h))), ?_⟩
      refine wm_c ⟨(wk_X1_init_X1_init_r2 _ (wm_4 (wm_2 (wm_1 wm_h)))), ?_⟩
      refine wm_c ⟨(wk_X1_init_X1_init_r2 _ (wm_8 wm_h)), ?_⟩
      refine wm_c ⟨(wk_X1_init_X1_init_r2 _ (wm_8 (wm_1 wm_h))), ?_⟩
      refine wm_c ⟨(wk_X1_init_X1_init_r2 _ (wm_8 (wm_2 wm_h))), ?_⟩
      refine wm_c ⟨(wk_X1_init_X1_init_r2 _ (wm_8 (wm_2 (wm_1 wm_h)))), ?_⟩
      exact wm_n
    · exact wk_X1_init_X10
  · exact wk_X1_init_X60
set_option maxRecDepth 20000 in
theorem gX1_init_X1_findChiefs : GoodIn wsX1_init (wsV RX1 43 RX1 yX1_findChiefs wsX1_findChiefs) := by
  refine goodIn_app (goodIn_sub ?_ ?_) ggX1_init_X1_findChiefs
  · exact wm_c ⟨(wk_X1_init_X1_init_r1 _ (wm_16 (wm_4 (wm_1 wm_h)))), wm_c ⟨(wk_X1_init_X1_init_r1 _ (wm_16 (wm_4 (wm_2 wm_h)))), wm_c ⟨(wk_X1_init_X1_init_r1 _ (wm_16 (wm_4 (wm_2 (wm_1 wm_h))))), wm_c ⟨(wk_X1_init_X1_init_r2 _ wm_h), wm_n⟩⟩⟩⟩
  · decide +kernel
set_option maxRecDepth 20000 in
theorem ggX1_init_J7_copyOf_59c91 : GoodIn wsX1_init wsJ7_copyOf_59c91 := by
  refine goodIn_sub ?_ gd_J7_copyOf_59c91
  unfold wsJ7_copyOf_59c91
  refine wm_c ⟨(wk_X1_init_X1_init_r2 _ (wm_8 (wm_4 (wm_2 (wm_1 wm_h))))), ?_⟩
  refine wm_c ⟨(wk_X1_init_X1_init_r2 _ (wm_16 wm_h)), ?_⟩
  refine wm_c ⟨(wk_X1_init_X1_init_r2 _ (wm_16 (wm_1 wm_h))), ?_⟩
  refine wm_c ⟨(wk_X1_init_X1_init_r2 _ (wm_16 (wm_2 wm_h))), ?_⟩
  refine wm_c ⟨(wk_X1_init_X1_init_r2 _ (wm_16 (wm_2 (wm_1 wm_h)))), ?_⟩
  refine wm_c ⟨(wk_X1_init_X1_init_r2 _ (wm_16 (wm_4 wm_h))), ?_⟩
  refine wm_c ⟨(wk_X1_init_X1_init_r2 _ (wm_16 (wm_4 (wm_1 wm_h)))), ?_⟩
  refine wm_c ⟨(wk_X1_init_X1_init_r1 _ (wm_8 wm_h)), ?_⟩
  refine wm_c ⟨(wk_X1_init_X1_init_r2 _ (wm_16 (wm_4 (wm_2 wm_h)))), ?_⟩
  refine wm_c ⟨(wk_X1_init_X1_init_r2 _ (wm_16 (wm_4 (wm_2 (wm_1 wm_h))))), ?_⟩
  refine wm_c ⟨(wk_X1_init_X1_init_r3 _ wm_h), ?_⟩
  refine wm_c ⟨(wk_X1_init_X1_init_r3 _ (wm_1 wm_h)), ?_⟩
  refine wm_c ⟨(wk_X1_init_X1_init_r3 _ (wm_2 wm_h)), ?_⟩
  refine wm_c ⟨(wk_X1_init_X1_init_r3 _ (wm_2 (wm_1 wm_h))), ?_⟩
  refine wm_c ⟨(wk_X1_init_X1_init_r3 _ (wm_4 wm_h)), ?_⟩
  refine wm_c ⟨(wk_X1_init_X1_init_r3 _ (wm_4 (wm_1 wm_h))), ?_⟩
  exact wm_n
set_option maxRecDepth 20000 in
theorem gX1_init_J7_copyOf_59c91 : GoodIn wsX1_init (va_wsS RX1 47 yJ7_copyOf_59c91 wsJ7_copyOf_59c91) := goodIn_app (goodIn_of _ (by decide +kernel)) ggX1_init_J7_copyOf_59c91
set_option maxRecDepth 20000 in
theorem ggX1_init_X1_findSides : GoodIn wsX1_init wsX1_findSides := by
  refine goodIn_sub ?_ gd_X1_findSides
  unfold wsX1_findSides
  refine wm_c ⟨(wk_X1_init_X1_init_r3 _ (wm_8 (wm_1 wm_h))), ?_⟩
  refine wm_a ⟨?_, ?_⟩
  · refine wm_a ⟨?_, ?_⟩
    · refine wm_c ⟨(wk_X1_init_X1_init_r1 _ (wm_8 (wm_4 wm_h))), ?_⟩
      refine wm_c ⟨(wk_X1_init_X1_init_r1 _ (wm_8 (wm_4 (wm_1 wm_h)))), ?_⟩
      refine wm_c ⟨(wk_X1_init_X1_init_r1 _ (wm_2 (wm_1 wm_h))), ?_⟩
      refine wm_c ⟨(wk_X1_init_X1_init_r1 _ (wm_8 (wm_2 (wm_1 wm_h)))), ?_⟩
      refine wm_c ⟨(wk_X1_init_X1_init_r2 _ (wm_2 wm_h)), ?_⟩
      refine wm_c ⟨(wk_X1_init_X1_init_r3 _ (wm_8 (wm_2 wm_h))), ?_⟩
      refine wm_c ⟨(wk_X1_init_X1_init_r3 _ (wm_8 (wm_2 (wm_1 wm_h)))), ?_⟩
      refine wm_c ⟨(wk_X1_init_X1_init_r3 _ (wm_8 (wm_4 wm_h))), ?_⟩
      refine wm_c ⟨(wk_X1_init_X1_init_r3 _ (wm_8 (wm_4 (wm_1 wm_h)))), ?_⟩
      refine wm_c ⟨(wk_X1_init_X1_init_r1 _ (wm_16 (wm_1 wm_h))), ?_⟩
      refine wm_c ⟨(wk_X1_init_X1_init_r3 _ (wm_8 (wm_4 (wm_2 wm_h)))), ?_⟩
      refine wm_c ⟨(wk_X1_init_X1_init_r1 _ (wm_16 (wm_4 wm_h))), ?_⟩
      refine wm_c ⟨(wk_X1_init_X1_init_r1 _ (wm_16 (wm_2 (wm_1 wm_h)))), ?_⟩
      exact wm_n
    · exact wk_X1_init_X10
  · exact wk_X1_init_X60
set_option maxRecDepth 20000 in
theorem gX1_init_X1_findSides : GoodIn wsX1_init (wsV RX1 62 RX1 yX1_findSides wsX1_findSides) := by
  refine goodIn_app (goodIn_sub ?_ ?_) ggX1_init_X1_findSides
  · exact wm_c ⟨(wk_X1_init_X1_init_r3 _ (wm_4 (wm_2 wm_h))), wm_c ⟨(wk_X1_init_X1_init_r3 _ (wm_4 (wm_2 (wm_1 wm_h)))), wm_c ⟨(wk_X1_init_X1_init_r3 _ (wm_8 wm_h)), wm_c ⟨(wk_X1_init_X1_init_r2 _ wm_h), wm_n⟩⟩⟩⟩
  · decide +kernel
theorem dX1_init_0 : decode cX1_init 0 = .ok (.aload_n 0, 1) := by decide +kernel
theorem dX1_init_1 : decode cX1_init 1 = .ok (.invokespecial 3, 3) := by decide +kernel
theorem dX1_init_4 : decode cX1_init 4 = .ok (.aload_n 0, 1) := by decide +kernel
theorem dX1_init_5 : decode cX1_init 5 = .ok (.aload_n 1, 1) := by decide +kernel
theorem dX1_init_6 : decode cX1_init 6 = .ok (.putfield 9, 3) := by decide +kernel
theorem dX1_init_9 : decode cX1_init 9 = .ok (.aload_n 0, 1) := by decide +kernel
theorem dX1_init_10 : decode cX1_init 10 = .ok (.aload_n 2, 1) := by decide +kernel
theorem dX1_init_11 : decode cX1_init 11 = .ok (.putfield 15, 3) := by decide +kernel
theorem dX1_init_14 : decode cX1_init 14 = .ok (.aload_n 0, 1) := by decide +kernel
theorem dX1_init_15 : decode cX1_init 15 = .ok (.aload_n 2, 1) := by decide +kernel
theorem dX1_init_16 : decode cX1_init 16 = .ok (.getfield 19, 3) := by decide +kernel
theorem dX1_init_19 : decode cX1_init 19 = .ok (.putfield 25, 3) := by decide +kernel
theorem dX1_init_22 : decode cX1_init 22 = .ok (.aload_n 0, 1) := by decide +kernel
theorem dX1_init_23 : decode cX1_init 23 = .ok (.aload_n 1, 1) := by decide +kernel
theorem dX1_init_24 : decode cX1_init 24 = .ok (.getfield 26, 3) := by decide +kernel
theorem dX1_init_27 : decode cX1_init 27 = .ok (.newarray .int, 2) := by decide +kernel
theorem dX1_init_29 : decode cX1_init 29 = .ok (.putfield 32, 3) := by decide +kernel
theorem dX1_init_32 : decode cX1_init 32 = .ok (.aload_n 0, 1) := by decide +kernel
theorem dX1_init_33 : decode cX1_init 33 = .ok (.aload_n 1, 1) := by decide +kernel
theorem dX1_init_34 : decode cX1_init 34 = .ok (.getfield 26, 3) := by decide +kernel
theorem dX1_init_37 : decode cX1_init 37 = .ok (.iconst 2, 1) := by decide +kernel
theorem dX1_init_38 : decode cX1_init 38 = .ok (.iadd, 1) := by decide +kernel
theorem dX1_init_39 : decode cX1_init 39 = .ok (.newarray .int, 2) := by decide +kernel
theorem dX1_init_41 : decode cX1_init 41 = .ok (.putfield 36, 3) := by decide +kernel
theorem dX1_init_44 : decode cX1_init 44 = .ok (.aload_n 1, 1) := by decide +kernel
theorem dX1_init_45 : decode cX1_init 45 = .ok (.invokevirtual 39, 3) := by decide +kernel
theorem dX1_init_48 : decode cX1_init 48 = .ok (.newarray .int, 2) := by decide +kernel
theorem dX1_init_50 : decode cX1_init 50 = .ok (.astore_n 3, 1) := by decide +kernel
theorem dX1_init_51 : decode cX1_init 51 = .ok (.aload_n 1, 1) := by decide +kernel
theorem dX1_init_52 : decode cX1_init 52 = .ok (.invokevirtual 39, 3) := by decide +kernel
theorem dX1_init_55 : decode cX1_init 55 = .ok (.newarray .int, 2) := by decide +kernel
theorem dX1_init_57 : decode cX1_init 57 = .ok (.astore 4, 2) := by decide +kernel
theorem dX1_init_59 : decode cX1_init 59 = .ok (.aload_n 0, 1) := by decide +kernel
theorem dX1_init_60 : decode cX1_init 60 = .ok (.aload_n 3, 1) := by decide +kernel
theorem dX1_init_61 : decode cX1_init 61 = .ok (.aload 4, 2) := by decide +kernel
theorem dX1_init_63 : decode cX1_init 63 = .ok (.invokevirtual 43, 3) := by decide +kernel
theorem dX1_init_66 : decode cX1_init 66 = .ok (.istore 5, 2) := by decide +kernel
theorem dX1_init_68 : decode cX1_init 68 = .ok (.aload_n 0, 1) := by decide +kernel
theorem dX1_init_69 : decode cX1_init 69 = .ok (.aload_n 3, 1) := by decide +kernel
theorem dX1_init_70 : decode cX1_init 70 = .ok (.iload 5, 2) := by decide +kernel
theorem dX1_init_72 : decode cX1_init 72 = .ok (.invokestatic 47, 3) := by decide +kernel
theorem dX1_init_75 : decode cX1_init 75 = .ok (.putfield 53, 3) := by decide +kernel
theorem dX1_init_78 : decode cX1_init 78 = .ok (.aload_n 0, 1) := by decide +kernel
theorem dX1_init_79 : decode cX1_init 79 = .ok (.iload 5, 2) := by decide +kernel
theorem dX1_init_81 : decode cX1_init 81 = .ok (.newarray .int, 2) := by decide +kernel
theorem dX1_init_83 : decode cX1_init 83 = .ok (.putfield 56, 3) := by decide +kernel
theorem dX1_init_86 : decode cX1_init 86 = .ok (.aload_n 0, 1) := by decide +kernel
theorem dX1_init_87 : decode cX1_init 87 = .ok (.iload 5, 2) := by decide +kernel
theorem dX1_init_89 : decode cX1_init 89 = .ok (.newarray .int, 2) := by decide +kernel
theorem dX1_init_91 : decode cX1_init 91 = .ok (.putfield 59, 3) := by decide +kernel
theorem dX1_init_94 : decode cX1_init 94 = .ok (.iconst 0, 1) := by decide +kernel
theorem dX1_init_95 : decode cX1_init 95 = .ok (.istore 6, 2) := by decide +kernel
theorem dX1_init_97 : decode cX1_init 97 = .ok (.iload 6, 2) := by decide +kernel
theorem dX1_init_99 : decode cX1_init 99 = .ok (.iload 5, 2) := by decide +kernel
theorem dX1_init_101 : decode cX1_init 101 = .ok (.if_icmp .ge 17, 3) := by decide +kernel
theorem dX1_init_104 : decode cX1_init 104 = .ok (.aload_n 0, 1) := by decide +kernel
theorem dX1_init_105 : decode cX1_init 105 = .ok (.iload 6, 2) := by decide +kernel
theorem dX1_init_107 : decode cX1_init 107 = .ok (.aload 4, 2) := by decide +kernel
theorem dX1_init_109 : decode cX1_init 109 = .ok (.invokevirtual 62, 3) := by decide +kernel
theorem dX1_init_112 : decode cX1_init 112 = .ok (.iinc 6 1, 3) := by decide +kernel
theorem dX1_init_115 : decode cX1_init 115 = .ok (.goto (-18), 3) := by decide +kernel
theorem dX1_init_118 : decode cX1_init 118 = .ok (.return_, 1) := by decide +kernel
set_option maxRecDepth 20000 in
theorem ggX1_findChiefs_X1_spell : GoodIn wsX1_findChiefs wsX1_spell := by
  refine goodIn_sub ?_ gd_X1_spell
  unfold wsX1_spell
  refine wm_c ⟨(wm_1 (wm_l (wm_l (wm_8 wm_h)))), ?_⟩
  refine wm_a ⟨?_, ?_⟩
  · refine wm_a ⟨?_, ?_⟩
    · refine wm_c ⟨(wm_1 (wm_l (wm_l wm_h))), ?_⟩
      refine wm_c ⟨(wm_1 (wm_l (wm_l (wm_2 (wm_1 wm_h))))), ?_⟩
      refine wm_c ⟨(wm_1 (wm_l (wm_l (wm_8 (wm_1 wm_h))))), ?_⟩
      refine wm_c ⟨(wm_1 (wm_l (wm_l (wm_8 (wm_2 wm_h))))), ?_⟩
      exact wm_n
    · exact wk_X1_findChiefs_X10
  · exact wk_X1_findChiefs_X60
set_option maxRecDepth 20000 in
theorem gX1_findChiefs_X1_spell : GoodIn wsX1_findChiefs (wsV RX1 69 RX1 yX1_spell wsX1_spell) := by
  refine goodIn_app (goodIn_sub ?_ ?_) ggX1_findChiefs_X1_spell
  · exact wm_c ⟨(wm_1 (wm_l (wm_l (wm_4 wm_h)))), wm_c ⟨(wm_1 (wm_l (wm_l (wm_4 (wm_1 wm_h))))), wm_c ⟨(wm_1 (wm_l (wm_l (wm_4 (wm_2 wm_h))))), wm_c ⟨(wm_1 (wm_l (wm_l (wm_4 (wm_2 (wm_1 wm_h)))))), wm_n⟩⟩⟩⟩
  · decide +kernel
set_option maxRecDepth 20000 in
theorem ggX1_findChiefs_X1_headLength : GoodIn wsX1_findChiefs wsX1_headLength := by
  refine goodIn_sub ?_ gd_X1_headLength
  unfold wsX1_headLength
  refine wm_c ⟨(wm_1 (wm_l (wm_l (wm_8 (wm_4 (wm_2 wm_h)))))), ?_⟩
  refine wm_a ⟨?_, ?_⟩
  · refine wm_c ⟨(wm_1 (wm_l (wm_l (wm_8 (wm_1 wm_h))))), ?_⟩
    exact wm_n
  · exact wk_X1_findChiefs_X10
set_option maxRecDepth 20000 in
theorem gX1_findChiefs_X1_headLength : GoodIn wsX1_findChiefs (wsV RX1 73 RX1 yX1_headLength wsX1_headLength) := by
  refine goodIn_app (goodIn_sub ?_ ?_) ggX1_findChiefs_X1_headLength
  · exact wm_c ⟨(wm_1 (wm_l (wm_l (wm_8 (wm_2 (wm_1 wm_h)))))), wm_c ⟨(wm_1 (wm_l (wm_l (wm_8 (wm_4 wm_h))))), wm_c ⟨(wm_1 (wm_l (wm_l (wm_8 (wm_4 (wm_1 wm_h)))))), wm_c ⟨(wm_1 (wm_l (wm_l (wm_4 (wm_2 (wm_1 wm_h)))))), wm_n⟩⟩⟩⟩
  · decide +kernel
theorem dX1_findChiefs_0 : decode cX1_findChiefs 0 = .ok (.iconst 0, 1) := by decide +kernel
theorem dX1_findChiefs_1 : decode cX1_findChiefs 1 = .ok (.istore_n 3, 1) := by decide +kernel
theorem dX1_findChiefs_2 : decode cX1_findChiefs 2 = .ok (.aload_n 2, 1) := by decide +kernel
theorem dX1_findChiefs_3 : decode cX1_findChiefs 3 = .ok (.iconst 0, 1) := by decide +kernel
theorem dX1_findChiefs_4 : decode cX1_findChiefs 4 = .ok (.iconst (-1), 1) := by decide +kernel
theorem dX1_findChiefs_5 : decode cX1_findChiefs 5 = .ok (.iastore, 1) := by decide +kernel
theorem dX1_findChiefs_6 : decode cX1_findChiefs 6 = .ok (.iconst 1, 1) := by decide +kernel
theorem dX1_findChiefs_7 : decode cX1_findChiefs 7 = .ok (.istore 4, 2) := by decide +kernel
theorem dX1_findChiefs_9 : decode cX1_findChiefs 9 = .ok (.iload 4, 2) := by decide +kernel
theorem dX1_findChiefs_11 : decode cX1_findChiefs 11 = .ok (.aload_n 0, 1) := by decide +kernel
theorem dX1_findChiefs_12 : decode cX1_findChiefs 12 = .ok (.getfield 9, 3) := by decide +kernel
theorem dX1_findChiefs_15 : decode cX1_findChiefs 15 = .ok (.getfield 26, 3) := by decide +kernel
theorem dX1_findChiefs_18 : decode cX1_findChiefs 18 = .ok (.if_icmp .gt 90, 3) := by decide +kernel
theorem dX1_findChiefs_21 : decode cX1_findChiefs 21 = .ok (.aload_n 0, 1) := by decide +kernel
theorem dX1_findChiefs_22 : decode cX1_findChiefs 22 = .ok (.getfield 36, 3) := by decide +kernel
theorem dX1_findChiefs_25 : decode cX1_findChiefs 25 = .ok (.iload 4, 2) := by decide +kernel
theorem dX1_findChiefs_27 : decode cX1_findChiefs 27 = .ok (.iload_n 3, 1) := by decide +kernel
theorem dX1_findChiefs_28 : decode cX1_findChiefs 28 = .ok (.iastore, 1) := by decide +kernel
theorem dX1_findChiefs_29 : decode cX1_findChiefs 29 = .ok (.aload_n 0, 1) := by decide +kernel
theorem dX1_findChiefs_30 : decode cX1_findChiefs 30 = .ok (.getfield 9, 3) := by decide +kernel
theorem dX1_findChiefs_33 : decode cX1_findChiefs 33 = .ok (.getfield 66, 3) := by decide +kernel
theorem dX1_findChiefs_36 : decode cX1_findChiefs 36 = .ok (.iload 4, 2) := by decide +kernel
theorem dX1_findChiefs_38 : decode cX1_findChiefs 38 = .ok (.iaload, 1) := by decide +kernel
theorem dX1_findChiefs_39 : decode cX1_findChiefs 39 = .ok (.istore 5, 2) := by decide +kernel
theorem dX1_findChiefs_41 : decode cX1_findChiefs 41 = .ok (.iload 5, 2) := by decide +kernel
theorem dX1_findChiefs_43 : decode cX1_findChiefs 43 = .ok (.aload_n 0, 1) := by decide +kernel
theorem dX1_findChiefs_44 : decode cX1_findChiefs 44 = .ok (.getfield 9, 3) := by decide +kernel
theorem dX1_findChiefs_47 : decode cX1_findChiefs 47 = .ok (.getfield 66, 3) := by decide +kernel
theorem dX1_findChiefs_50 : decode cX1_findChiefs 50 = .ok (.iload 4, 2) := by decide +kernel
theorem dX1_findChiefs_52 : decode cX1_findChiefs 52 = .ok (.iconst 1, 1) := by decide +kernel
theorem dX1_findChiefs_53 : decode cX1_findChiefs 53 = .ok (.iadd, 1) := by decide +kernel
theorem dX1_findChiefs_54 : decode cX1_findChiefs 54 = .ok (.iaload, 1) := by decide +kernel
theorem dX1_findChiefs_55 : decode cX1_findChiefs 55 = .ok (.if_icmp .ge 47, 3) := by decide +kernel
theorem dX1_findChiefs_58 : decode cX1_findChiefs 58 = .ok (.aload_n 0, 1) := by decide +kernel
theorem dX1_findChiefs_59 : decode cX1_findChiefs 59 = .ok (.iload 5, 2) := by decide +kernel
theorem dX1_findChiefs_61 : decode cX1_findChiefs 61 = .ok (.iload 4, 2) := by decide +kernel
theorem dX1_findChiefs_63 : decode cX1_findChiefs 63 = .ok (.invokevirtual 69, 3) := by decide +kernel
theorem dX1_findChiefs_66 : decode cX1_findChiefs 66 = .ok (.aload_n 2, 1) := by decide +kernel
theorem dX1_findChiefs_67 : decode cX1_findChiefs 67 = .ok (.iload 5, 2) := by decide +kernel
theorem dX1_findChiefs_69 : decode cX1_findChiefs 69 = .ok (.iconst (-1), 1) := by decide +kernel
theorem dX1_findChiefs_70 : decode cX1_findChiefs 70 = .ok (.iastore, 1) := by decide +kernel
theorem dX1_findChiefs_71 : decode cX1_findChiefs 71 = .ok (.aload_n 0, 1) := by decide +kernel
theorem dX1_findChiefs_72 : decode cX1_findChiefs 72 = .ok (.iconst 0, 1) := by decide +kernel
theorem dX1_findChiefs_73 : decode cX1_findChiefs 73 = .ok (.iload 4, 2) := by decide +kernel
theorem dX1_findChiefs_75 : decode cX1_findChiefs 75 = .ok (.invokevirtual 73, 3) := by decide +kernel
theorem dX1_findChiefs_78 : decode cX1_findChiefs 78 = .ok (.iload 4, 2) := by decide +kernel
theorem dX1_findChiefs_80 : decode cX1_findChiefs 80 = .ok (.if_icmp .ne 16, 3) := by decide +kernel
theorem dX1_findChiefs_83 : decode cX1_findChiefs 83 = .ok (.aload_n 1, 1) := by decide +kernel
theorem dX1_findChiefs_84 : decode cX1_findChiefs 84 = .ok (.iload_n 3, 1) := by decide +kernel
theorem dX1_findChiefs_85 : decode cX1_findChiefs 85 = .ok (.iload 5, 2) := by decide +kernel
theorem dX1_findChiefs_87 : decode cX1_findChiefs 87 = .ok (.iastore, 1) := by decide +kernel
theorem dX1_findChiefs_88 : decode cX1_findChiefs 88 = .ok (.aload_n 2, 1) := by decide +kernel
theorem dX1_findChiefs_89 : decode cX1_findChiefs 89 = .ok (.iload 5, 2) := by decide +kernel
theorem dX1_findChiefs_91 : decode cX1_findChiefs 91 = .ok (.iload_n 3, 1) := by decide +kernel
theorem dX1_findChiefs_92 : decode cX1_findChiefs 92 = .ok (.iastore, 1) := by decide +kernel
theorem dX1_findChiefs_93 : decode cX1_findChiefs 93 = .ok (.iinc 3 1, 3) := by decide +kernel
theorem dX1_findChiefs_96 : decode cX1_findChiefs 96 = .ok (.iinc 5 1, 3) := by decide +kernel
theorem dX1_findChiefs_99 : decode cX1_findChiefs 99 = .ok (.goto (-58), 3) := by decide +kernel
theorem dX1_findChiefs_102 : decode cX1_findChiefs 102 = .ok (.iinc 4 1, 3) := by decide +kernel
theorem dX1_findChiefs_105 : decode cX1_findChiefs 105 = .ok (.goto (-96), 3) := by decide +kernel
theorem dX1_findChiefs_108 : decode cX1_findChiefs 108 = .ok (.aload_n 0, 1) := by decide +kernel
theorem dX1_findChiefs_109 : decode cX1_findChiefs 109 = .ok (.getfield 36, 3) := by decide +kernel
theorem dX1_findChiefs_112 : decode cX1_findChiefs 112 = .ok (.aload_n 0, 1) := by decide +kernel
theorem dX1_findChiefs_113 : decode cX1_findChiefs 113 = .ok (.getfield 9, 3) := by decide +kernel
theorem dX1_findChiefs_116 : decode cX1_findChiefs 116 = .ok (.getfield 26, 3) := by decide +kernel
theorem dX1_findChiefs_119 : decode cX1_findChiefs 119 = .ok (.iconst 1, 1) := by decide +kernel
theorem dX1_findChiefs_120 : decode cX1_findChiefs 120 = .ok (.iadd, 1) := by decide +kernel
theorem dX1_findChiefs_121 : decode cX1_findChiefs 121 = .ok (.iload_n 3, 1) := by decide +kernel
theorem dX1_findChiefs_122 : decode cX1_findChiefs 122 = .ok (.iastore, 1) := by decide +kernel
theorem dX1_findChiefs_123 : decode cX1_findChiefs 123 = .ok (.iload_n 3, 1) := by decide +kernel
theorem dX1_findChiefs_124 : decode cX1_findChiefs 124 = .ok (.ireturn, 1) := by decide +kernel
set_option maxRecDepth 20000 in
theorem ggX1_findSides_X6_lengthOf : GoodIn wsX1_findSides wsX6_lengthOf := by
  refine goodIn_sub ?_ gd_X6_lengthOf
  unfold wsX6_lengthOf
  refine wm_c ⟨(wm_1 (wm_l (wm_l (wm_8 (wm_2 wm_h))))), ?_⟩
  refine wm_a ⟨?_, ?_⟩
  · refine wm_c ⟨(wm_1 (wm_l (wm_l (wm_8 (wm_2 (wm_1 wm_h)))))), ?_⟩
    refine wm_c ⟨(wm_1 (wm_l (wm_l (wm_8 (wm_4 wm_h))))), ?_⟩
    exact wm_n
  · exact wk_X1_findSides_X60
set_option maxRecDepth 20000 in
theorem gX1_findSides_X6_lengthOf : GoodIn wsX1_findSides (wsV RX1 77 RX6 yX6_lengthOf wsX6_lengthOf) := by
  refine goodIn_app (goodIn_sub ?_ ?_) ggX1_findSides_X6_lengthOf
  · exact wm_c ⟨(wm_1 (wm_l (wm_l (wm_4 (wm_2 wm_h))))), wm_c ⟨(wm_1 (wm_l (wm_l (wm_4 (wm_2 (wm_1 wm_h)))))), wm_c ⟨(wm_1 (wm_l (wm_l (wm_8 wm_h)))), wm_c ⟨(wm_1 (wm_l (wm_l (wm_8 (wm_1 wm_h))))), wm_n⟩⟩⟩⟩
  · decide +kernel
theorem dX1_findSides_0 : decode cX1_findSides 0 = .ok (.aload_n 0, 1) := by decide +kernel
theorem dX1_findSides_1 : decode cX1_findSides 1 = .ok (.getfield 56, 3) := by decide +kernel
theorem dX1_findSides_4 : decode cX1_findSides 4 = .ok (.iload_n 1, 1) := by decide +kernel
theorem dX1_findSides_5 : decode cX1_findSides 5 = .ok (.iconst (-1), 1) := by decide +kernel
theorem dX1_findSides_6 : decode cX1_findSides 6 = .ok (.iastore, 1) := by decide +kernel
theorem dX1_findSides_7 : decode cX1_findSides 7 = .ok (.aload_n 0, 1) := by decide +kernel
theorem dX1_findSides_8 : decode cX1_findSides 8 = .ok (.getfield 59, 3) := by decide +kernel
theorem dX1_findSides_11 : decode cX1_findSides 11 = .ok (.iload_n 1, 1) := by decide +kernel
theorem dX1_findSides_12 : decode cX1_findSides 12 = .ok (.iconst (-1), 1) := by decide +kernel
theorem dX1_findSides_13 : decode cX1_findSides 13 = .ok (.iastore, 1) := by decide +kernel
theorem dX1_findSides_14 : decode cX1_findSides 14 = .ok (.aload_n 0, 1) := by decide +kernel
theorem dX1_findSides_15 : decode cX1_findSides 15 = .ok (.getfield 9, 3) := by decide +kernel
theorem dX1_findSides_18 : decode cX1_findSides 18 = .ok (.aload_n 0, 1) := by decide +kernel
theorem dX1_findSides_19 : decode cX1_findSides 19 = .ok (.getfield 53, 3) := by decide +kernel
theorem dX1_findSides_22 : decode cX1_findSides 22 = .ok (.iload_n 1, 1) := by decide +kernel
theorem dX1_findSides_23 : decode cX1_findSides 23 = .ok (.iaload, 1) := by decide +kernel
theorem dX1_findSides_24 : decode cX1_findSides 24 = .ok (.invokevirtual 77, 3) := by decide +kernel
theorem dX1_findSides_27 : decode cX1_findSides 27 = .ok (.istore_n 3, 1) := by decide +kernel
theorem dX1_findSides_28 : decode cX1_findSides 28 = .ok (.aload_n 0, 1) := by decide +kernel
theorem dX1_findSides_29 : decode cX1_findSides 29 = .ok (.getfield 53, 3) := by decide +kernel
theorem dX1_findSides_32 : decode cX1_findSides 32 = .ok (.iload_n 1, 1) := by decide +kernel
theorem dX1_findSides_33 : decode cX1_findSides 33 = .ok (.iaload, 1) := by decide +kernel
theorem dX1_findSides_34 : decode cX1_findSides 34 = .ok (.aload_n 0, 1) := by decide +kernel
theorem dX1_findSides_35 : decode cX1_findSides 35 = .ok (.getfield 9, 3) := by decide +kernel
theorem dX1_findSides_38 : decode cX1_findSides 38 = .ok (.getfield 66, 3) := by decide +kernel
theorem dX1_findSides_41 : decode cX1_findSides 41 = .ok (.iload_n 3, 1) := by decide +kernel
theorem dX1_findSides_42 : decode cX1_findSides 42 = .ok (.iaload, 1) := by decide +kernel
theorem dX1_findSides_43 : decode cX1_findSides 43 = .ok (.isub, 1) := by decide +kernel
theorem dX1_findSides_44 : decode cX1_findSides 44 = .ok (.istore 4, 2) := by decide +kernel
theorem dX1_findSides_46 : decode cX1_findSides 46 = .ok (.iload_n 3, 1) := by decide +kernel
theorem dX1_findSides_47 : decode cX1_findSides 47 = .ok (.iconst 1, 1) := by decide +kernel
theorem dX1_findSides_48 : decode cX1_findSides 48 = .ok (.isub, 1) := by decide +kernel
theorem dX1_findSides_49 : decode cX1_findSides 49 = .ok (.istore 5, 2) := by decide +kernel
theorem dX1_findSides_51 : decode cX1_findSides 51 = .ok (.iload 5, 2) := by decide +kernel
theorem dX1_findSides_53 : decode cX1_findSides 53 = .ok (.iconst 1, 1) := by decide +kernel
theorem dX1_findSides_54 : decode cX1_findSides 54 = .ok (.if_icmp .lt 95, 3) := by decide +kernel
theorem dX1_findSides_57 : decode cX1_findSides 57 = .ok (.aload_n 0, 1) := by decide +kernel
theorem dX1_findSides_58 : decode cX1_findSides 58 = .ok (.getfield 59, 3) := by decide +kernel
theorem dX1_findSides_61 : decode cX1_findSides 61 = .ok (.iload_n 1, 1) := by decide +kernel
theorem dX1_findSides_62 : decode cX1_findSides 62 = .ok (.iaload, 1) := by decide +kernel
theorem dX1_findSides_63 : decode cX1_findSides 63 = .ok (.iconst (-1), 1) := by decide +kernel
theorem dX1_findSides_64 : decode cX1_findSides 64 = .ok (.if_icmp .ne 85, 3) := by decide +kernel
theorem dX1_findSides_67 : decode cX1_findSides 67 = .ok (.aload_n 2, 1) := by decide +kernel
theorem dX1_findSides_68 : decode cX1_findSides 68 = .ok (.aload_n 0, 1) := by decide +kernel
theorem dX1_findSides_69 : decode cX1_findSides 69 = .ok (.getfield 9, 3) := by decide +kernel
theorem dX1_findSides_72 : decode cX1_findSides 72 = .ok (.getfield 66, 3) := by decide +kernel
theorem dX1_findSides_75 : decode cX1_findSides 75 = .ok (.iload 5, 2) := by decide +kernel
theorem dX1_findSides_77 : decode cX1_findSides 77 = .ok (.iaload, 1) := by decide +kernel
theorem dX1_findSides_78 : decode cX1_findSides 78 = .ok (.iload 4, 2) := by decide +kernel
theorem dX1_findSides_80 : decode cX1_findSides 80 = .ok (.aload_n 0, 1) := by decide +kernel
theorem dX1_findSides_81 : decode cX1_findSides 81 = .ok (.getfield 9, 3) := by decide +kernel
theorem dX1_findSides_84 : decode cX1_findSides 84 = .ok (.getfield 81, 3) := by decide +kernel
theorem dX1_findSides_87 : decode cX1_findSides 87 = .ok (.iload 5, 2) := by decide +kernel
theorem dX1_findSides_89 : decode cX1_findSides 89 = .ok (.iaload, 1) := by decide +kernel
theorem dX1_findSides_90 : decode cX1_findSides 90 = .ok (.irem, 1) := by decide +kernel
theorem dX1_findSides_91 : decode cX1_findSides 91 = .ok (.iadd, 1) := by decide +kernel
theorem dX1_findSides_92 : decode cX1_findSides 92 = .ok (.iaload, 1) := by decide +kernel
theorem dX1_findSides_93 : decode cX1_findSides 93 = .ok (.istore 6, 2) := by decide +kernel
theorem dX1_findSides_95 : decode cX1_findSides 95 = .ok (.iload 6, 2) := by decide +kernel
theorem dX1_findSides_97 : decode cX1_findSides 97 = .ok (.iconst (-1), 1) := by decide +kernel
theorem dX1_findSides_98 : decode cX1_findSides 98 = .ok (.if_icmp .eq 45, 3) := by decide +kernel
theorem dX1_findSides_101 : decode cX1_findSides 101 = .ok (.aload_n 0, 1) := by decide +kernel
theorem dX1_findSides_102 : decode cX1_findSides 102 = .ok (.getfield 59, 3) := by decide +kernel
theorem dX1_findSides_105 : decode cX1_findSides 105 = .ok (.iload_n 1, 1) := by decide +kernel
theorem dX1_findSides_106 : decode cX1_findSides 106 = .ok (.iload 6, 2) := by decide +kernel
theorem dX1_findSides_108 : decode cX1_findSides 108 = .ok (.iastore, 1) := by decide +kernel
theorem dX1_findSides_109 : decode cX1_findSides 109 = .ok (.aload_n 0, 1) := by decide +kernel
theorem dX1_findSides_110 : decode cX1_findSides 110 = .ok (.getfield 56, 3) := by decide +kernel
theorem dX1_findSides_113 : decode cX1_findSides 113 = .ok (.iload_n 1, 1) := by decide +kernel
theorem dX1_findSides_114 : decode cX1_findSides 114 = .ok (.aload_n 2, 1) := by decide +kernel
theorem dX1_findSides_115 : decode cX1_findSides 115 = .ok (.aload_n 0, 1) := by decide +kernel
theorem dX1_findSides_116 : decode cX1_findSides 116 = .ok (.getfield 9, 3) := by decide +kernel
theorem dX1_findSides_119 : decode cX1_findSides 119 = .ok (.getfield 66, 3) := by decide +kernel
theorem dX1_findSides_122 : decode cX1_findSides 122 = .ok (.iload_n 3, 1) := by decide +kernel
theorem dX1_findSides_123 : decode cX1_findSides 123 = .ok (.iload 5, 2) := by decide +kernel
theorem dX1_findSides_125 : decode cX1_findSides 125 = .ok (.isub, 1) := by decide +kernel
theorem dX1_findSides_126 : decode cX1_findSides 126 = .ok (.iaload, 1) := by decide +kernel
theorem dX1_findSides_127 : decode cX1_findSides 127 = .ok (.iload 4, 2) := by decide +kernel
theorem dX1_findSides_129 : decode cX1_findSides 129 = .ok (.aload_n 0, 1) := by decide +kernel
theorem dX1_findSides_130 : decode cX1_findSides 130 = .ok (.getfield 9, 3) := by decide +kernel
theorem dX1_findSides_133 : decode cX1_findSides 133 = .ok (.getfield 81, 3) := by decide +kernel
theorem dX1_findSides_136 : decode cX1_findSides 136 = .ok (.iload 5, 2) := by decide +kernel
theorem dX1_findSides_138 : decode cX1_findSides 138 = .ok (.iaload, 1) := by decide +kernel
theorem dX1_findSides_139 : decode cX1_findSides 139 = .ok (.idiv, 1) := by decide +kernel
theorem dX1_findSides_140 : decode cX1_findSides 140 = .ok (.iadd, 1) := by decide +kernel
theorem dX1_findSides_141 : decode cX1_findSides 141 = .ok (.iaload, 1) := by decide +kernel
theorem dX1_findSides_142 : decode cX1_findSides 142 = .ok (.iastore, 1) := by decide +kernel
theorem dX1_findSides_143 : decode cX1_findSides 143 = .ok (.iinc 5 (-1), 3) := by decide +kernel
theorem dX1_findSides_146 : decode cX1_findSides 146 = .ok (.goto (-95), 3) := by decide +kernel
theorem dX1_findSides_149 : decode cX1_findSides 149 = .ok (.return_, 1) := by decide +kernel
theorem dX1_all_0 : decode cX1_all 0 = .ok (.aload_n 0, 1) := by decide +kernel
theorem dX1_all_1 : decode cX1_all 1 = .ok (.getfield 36, 3) := by decide +kernel
theorem dX1_all_4 : decode cX1_all 4 = .ok (.aload_n 0, 1) := by decide +kernel
theorem dX1_all_5 : decode cX1_all 5 = .ok (.getfield 9, 3) := by decide +kernel
theorem dX1_all_8 : decode cX1_all 8 = .ok (.getfield 26, 3) := by decide +kernel
theorem dX1_all_11 : decode cX1_all 11 = .ok (.iconst 1, 1) := by decide +kernel
theorem dX1_all_12 : decode cX1_all 12 = .ok (.iadd, 1) := by decide +kernel
theorem dX1_all_13 : decode cX1_all 13 = .ok (.iaload, 1) := by decide +kernel
theorem dX1_all_14 : decode cX1_all 14 = .ok (.ireturn, 1) := by decide +kernel
theorem dX1_ofLength_0 : decode cX1_ofLength 0 = .ok (.aload_n 0, 1) := by decide +kernel
theorem dX1_ofLength_1 : decode cX1_ofLength 1 = .ok (.getfield 36, 3) := by decide +kernel
theorem dX1_ofLength_4 : decode cX1_ofLength 4 = .ok (.iload_n 1, 1) := by decide +kernel
theorem dX1_ofLength_5 : decode cX1_ofLength 5 = .ok (.iconst 1, 1) := by decide +kernel
theorem dX1_ofLength_6 : decode cX1_ofLength 6 = .ok (.iadd, 1) := by decide +kernel
theorem dX1_ofLength_7 : decode cX1_ofLength 7 = .ok (.iaload, 1) := by decide +kernel
theorem dX1_ofLength_8 : decode cX1_ofLength 8 = .ok (.aload_n 0, 1) := by decide +kernel
theorem dX1_ofLength_9 : decode cX1_ofLength 9 = .ok (.getfield 36, 3) := by decide +kernel
theorem dX1_ofLength_12 : decode cX1_ofLength 12 = .ok (.iload_n 1, 1) := by decide +kernel
theorem dX1_ofLength_13 : decode cX1_ofLength 13 = .ok (.iaload, 1) := by decide +kernel
theorem dX1_ofLength_14 : decode cX1_ofLength 14 = .ok (.isub, 1) := by decide +kernel
theorem dX1_ofLength_15 : decode cX1_ofLength 15 = .ok (.ireturn, 1) := by decide +kernel
theorem dX1_spell_0 : decode cX1_spell 0 = .ok (.iload_n 1, 1) := by decide +kernel
theorem dX1_spell_1 : decode cX1_spell 1 = .ok (.aload_n 0, 1) := by decide +kernel
theorem dX1_spell_2 : decode cX1_spell 2 = .ok (.getfield 9, 3) := by decide +kernel
theorem dX1_spell_5 : decode cX1_spell 5 = .ok (.getfield 66, 3) := by decide +kernel
theorem dX1_spell_8 : decode cX1_spell 8 = .ok (.iload_n 2, 1) := by decide +kernel
theorem dX1_spell_9 : decode cX1_spell 9 = .ok (.iaload, 1) := by decide +kernel
theorem dX1_spell_10 : decode cX1_spell 10 = .ok (.isub, 1) := by decide +kernel
theorem dX1_spell_11 : decode cX1_spell 11 = .ok (.istore_n 3, 1) := by decide +kernel
theorem dX1_spell_12 : decode cX1_spell 12 = .ok (.iload_n 2, 1) := by decide +kernel
theorem dX1_spell_13 : decode cX1_spell 13 = .ok (.iconst 1, 1) := by decide +kernel
theorem dX1_spell_14 : decode cX1_spell 14 = .ok (.isub, 1) := by decide +kernel
theorem dX1_spell_15 : decode cX1_spell 15 = .ok (.istore 4, 2) := by decide +kernel
theorem dX1_spell_17 : decode cX1_spell 17 = .ok (.iload 4, 2) := by decide +kernel
theorem dX1_spell_19 : decode cX1_spell 19 = .ok (.ifCond .lt 35, 3) := by decide +kernel
theorem dX1_spell_22 : decode cX1_spell 22 = .ok (.aload_n 0, 1) := by decide +kernel
theorem dX1_spell_23 : decode cX1_spell 23 = .ok (.getfield 32, 3) := by decide +kernel
theorem dX1_spell_26 : decode cX1_spell 26 = .ok (.iload 4, 2) := by decide +kernel
theorem dX1_spell_28 : decode cX1_spell 28 = .ok (.iload_n 3, 1) := by decide +kernel
theorem dX1_spell_29 : decode cX1_spell 29 = .ok (.aload_n 0, 1) := by decide +kernel
theorem dX1_spell_30 : decode cX1_spell 30 = .ok (.getfield 9, 3) := by decide +kernel
theorem dX1_spell_33 : decode cX1_spell 33 = .ok (.getfield 84, 3) := by decide +kernel
theorem dX1_spell_36 : decode cX1_spell 36 = .ok (.irem, 1) := by decide +kernel
theorem dX1_spell_37 : decode cX1_spell 37 = .ok (.iastore, 1) := by decide +kernel
theorem dX1_spell_38 : decode cX1_spell 38 = .ok (.iload_n 3, 1) := by decide +kernel
theorem dX1_spell_39 : decode cX1_spell 39 = .ok (.aload_n 0, 1) := by decide +kernel
theorem dX1_spell_40 : decode cX1_spell 40 = .ok (.getfield 9, 3) := by decide +kernel
theorem dX1_spell_43 : decode cX1_spell 43 = .ok (.getfield 84, 3) := by decide +kernel
theorem dX1_spell_46 : decode cX1_spell 46 = .ok (.idiv, 1) := by decide +kernel
theorem dX1_spell_47 : decode cX1_spell 47 = .ok (.istore_n 3, 1) := by decide +kernel
theorem dX1_spell_48 : decode cX1_spell 48 = .ok (.iinc 4 (-1), 3) := by decide +kernel
theorem dX1_spell_51 : decode cX1_spell 51 = .ok (.goto (-34), 3) := by decide +kernel
theorem dX1_spell_54 : decode cX1_spell 54 = .ok (.return_, 1) := by decide +kernel
theorem dX1_headLength_0 : decode cX1_headLength 0 = .ok (.iload_n 1, 1) := by decide +kernel
theorem dX1_headLength_1 : decode cX1_headLength 1 = .ok (.istore_n 3, 1) := by decide +kernel
theorem dX1_headLength_2 : decode cX1_headLength 2 = .ok (.iload_n 1, 1) := by decide +kernel
theorem dX1_headLength_3 : decode cX1_headLength 3 = .ok (.iconst 1, 1) := by decide +kernel
theorem dX1_headLength_4 : decode cX1_headLength 4 = .ok (.iadd, 1) := by decide +kernel
theorem dX1_headLength_5 : decode cX1_headLength 5 = .ok (.istore 4, 2) := by decide +kernel
theorem dX1_headLength_7 : decode cX1_headLength 7 = .ok (.iload 4, 2) := by decide +kernel
theorem dX1_headLength_9 : decode cX1_headLength 9 = .ok (.iload_n 2, 1) := by decide +kernel
theorem dX1_headLength_10 : decode cX1_headLength 10 = .ok (.if_icmp .ge 49, 3) := by decide +kernel
theorem dX1_headLength_13 : decode cX1_headLength 13 = .ok (.aload_n 0, 1) := by decide +kernel
theorem dX1_headLength_14 : decode cX1_headLength 14 = .ok (.getfield 32, 3) := by decide +kernel
theorem dX1_headLength_17 : decode cX1_headLength 17 = .ok (.iload_n 3, 1) := by decide +kernel
theorem dX1_headLength_18 : decode cX1_headLength 18 = .ok (.iaload, 1) := by decide +kernel
theorem dX1_headLength_19 : decode cX1_headLength 19 = .ok (.aload_n 0, 1) := by decide +kernel
theorem dX1_headLength_20 : decode cX1_headLength 20 = .ok (.getfield 32, 3) := by decide +kernel
theorem dX1_headLength_23 : decode cX1_headLength 23 = .ok (.iload 4, 2) := by decide +kernel
theorem dX1_headLength_25 : decode cX1_headLength 25 = .ok (.iaload, 1) := by decide +kernel
theorem dX1_headLength_26 : decode cX1_headLength 26 = .ok (.if_icmp .gt 33, 3) := by decide +kernel
theorem dX1_headLength_29 : decode cX1_headLength 29 = .ok (.aload_n 0, 1) := by decide +kernel
theorem dX1_headLength_30 : decode cX1_headLength 30 = .ok (.getfield 32, 3) := by decide +kernel
theorem dX1_headLength_33 : decode cX1_headLength 33 = .ok (.iload_n 3, 1) := by decide +kernel
theorem dX1_headLength_34 : decode cX1_headLength 34 = .ok (.iaload, 1) := by decide +kernel
theorem dX1_headLength_35 : decode cX1_headLength 35 = .ok (.aload_n 0, 1) := by decide +kernel
theorem dX1_headLength_36 : decode cX1_headLength 36 = .ok (.getfield 32, 3) := by decide +kernel
theorem dX1_headLength_39 : decode cX1_headLength 39 = .ok (.iload 4, 2) := by decide +kernel
theorem dX1_headLength_41 : decode cX1_headLength 41 = .ok (.iaload, 1) := by decide +kernel
theorem dX1_headLength_42 : decode cX1_headLength 42 = .ok (.if_icmp .ge 7, 3) := by decide +kernel
theorem dX1_headLength_45 : decode cX1_headLength 45 = .ok (.iload_n 1, 1) := by decide +kernel
theorem dX1_headLength_46 : decode cX1_headLength 46 = .ok (.goto 6, 3) := by decide +kernel
theorem dX1_headLength_49 : decode cX1_headLength 49 = .ok (.iload_n 3, 1) := by decide +kernel
theorem dX1_headLength_50 : decode cX1_headLength 50 = .ok (.iconst 1, 1) := by decide +kernel
theorem dX1_headLength_51 : decode cX1_headLength 51 = .ok (.iadd, 1) := by decide +kernel
theorem dX1_headLength_52 : decode cX1_headLength 52 = .ok (.istore_n 3, 1) := by decide +kernel
theorem dX1_headLength_53 : decode cX1_headLength 53 = .ok (.iinc 4 1, 3) := by decide +kernel
theorem dX1_headLength_56 : decode cX1_headLength 56 = .ok (.goto (-49), 3) := by decide +kernel
theorem dX1_headLength_59 : decode cX1_headLength 59 = .ok (.iload 4, 2) := by decide +kernel
theorem dX1_headLength_61 : decode cX1_headLength 61 = .ok (.iload_n 3, 1) := by decide +kernel
theorem dX1_headLength_62 : decode cX1_headLength 62 = .ok (.isub, 1) := by decide +kernel
theorem dX1_headLength_63 : decode cX1_headLength 63 = .ok (.ireturn, 1) := by decide +kernel
theorem dX1_headTimes_0 : decode cX1_headTimes 0 = .ok (.iload_n 1, 1) := by decide +kernel
theorem dX1_headTimes_1 : decode cX1_headTimes 1 = .ok (.iload_n 3, 1) := by decide +kernel
theorem dX1_headTimes_2 : decode cX1_headTimes 2 = .ok (.iadd, 1) := by decide +kernel
theorem dX1_headTimes_3 : decode cX1_headTimes 3 = .ok (.istore 4, 2) := by decide +kernel
theorem dX1_headTimes_5 : decode cX1_headTimes 5 = .ok (.iload 4, 2) := by decide +kernel
theorem dX1_headTimes_7 : decode cX1_headTimes 7 = .ok (.iload_n 2, 1) := by decide +kernel
theorem dX1_headTimes_8 : decode cX1_headTimes 8 = .ok (.if_icmp .ge 28, 3) := by decide +kernel
theorem dX1_headTimes_11 : decode cX1_headTimes 11 = .ok (.aload_n 0, 1) := by decide +kernel
theorem dX1_headTimes_12 : decode cX1_headTimes 12 = .ok (.getfield 32, 3) := by decide +kernel
theorem dX1_headTimes_15 : decode cX1_headTimes 15 = .ok (.iload 4, 2) := by decide +kernel
theorem dX1_headTimes_17 : decode cX1_headTimes 17 = .ok (.iaload, 1) := by decide +kernel
theorem dX1_headTimes_18 : decode cX1_headTimes 18 = .ok (.aload_n 0, 1) := by decide +kernel
theorem dX1_headTimes_19 : decode cX1_headTimes 19 = .ok (.getfield 32, 3) := by decide +kernel
theorem dX1_headTimes_22 : decode cX1_headTimes 22 = .ok (.iload 4, 2) := by decide +kernel
theorem dX1_headTimes_24 : decode cX1_headTimes 24 = .ok (.iload_n 3, 1) := by decide +kernel
theorem dX1_headTimes_25 : decode cX1_headTimes 25 = .ok (.isub, 1) := by decide +kernel
theorem dX1_headTimes_26 : decode cX1_headTimes 26 = .ok (.iaload, 1) := by decide +kernel
theorem dX1_headTimes_27 : decode cX1_headTimes 27 = .ok (.if_icmp .ne 9, 3) := by decide +kernel
theorem dX1_headTimes_30 : decode cX1_headTimes 30 = .ok (.iinc 4 1, 3) := by decide +kernel
theorem dX1_headTimes_33 : decode cX1_headTimes 33 = .ok (.goto (-28), 3) := by decide +kernel
theorem dX1_headTimes_36 : decode cX1_headTimes 36 = .ok (.iload 4, 2) := by decide +kernel
theorem dX1_headTimes_38 : decode cX1_headTimes 38 = .ok (.iload_n 1, 1) := by decide +kernel
theorem dX1_headTimes_39 : decode cX1_headTimes 39 = .ok (.isub, 1) := by decide +kernel
theorem dX1_headTimes_40 : decode cX1_headTimes 40 = .ok (.iload_n 3, 1) := by decide +kernel
theorem dX1_headTimes_41 : decode cX1_headTimes 41 = .ok (.idiv, 1) := by decide +kernel
theorem dX1_headTimes_42 : decode cX1_headTimes 42 = .ok (.ireturn, 1) := by decide +kernel
set_option maxRecDepth 20000 in
theorem ggX1_weave_J7_fill_53178 : GoodIn wsX1_weave wsJ7_fill_53178 := by
  refine goodIn_sub ?_ gd_J7_fill_53178
  unfold wsJ7_fill_53178
  refine wm_c ⟨(wk_X1_weave_X1_weave_r1 _ (wm_8 wm_h)), ?_⟩
  exact wm_n
set_option maxRecDepth 20000 in
theorem gX1_weave_J7_fill_53178 : GoodIn wsX1_weave (va_wsS RX1 87 yJ7_fill_53178 wsJ7_fill_53178) := goodIn_app (goodIn_of _ (by decide +kernel)) ggX1_weave_J7_fill_53178
set_option maxRecDepth 20000 in
theorem ggX1_weave_X1_weave : GoodIn wsX1_weave wsX1_weave := by
  refine goodIn_sub ?_ gd_X1_weave
  unfold wsX1_weave
  refine wm_c ⟨wm_h, ?_⟩
  refine wm_a ⟨?_, ?_⟩
  · refine wm_a ⟨?_, ?_⟩
    · refine wm_a ⟨?_, ?_⟩
      · exact wk_X1_weave_X1_weave_r1
      · exact wk_X1_weave_X1_weave_r2
    · exact wk_X1_weave_X10
  · exact wk_X1_weave_X00
set_option maxRecDepth 20000 in
theorem gX1_weave_X1_weave : GoodIn wsX1_weave (wsV RX1 91 RX1 yX1_weave wsX1_weave) := by
  refine goodIn_app (goodIn_sub ?_ ?_) ggX1_weave_X1_weave
  · exact wm_c ⟨(wk_X1_weave_X1_weave_r1 _ (wm_8 (wm_1 wm_h))), wm_c ⟨(wk_X1_weave_X1_weave_r1 _ (wm_8 (wm_2 wm_h))), wm_c ⟨(wk_X1_weave_X1_weave_r1 _ (wm_8 (wm_2 (wm_1 wm_h)))), wm_c ⟨(wk_X1_weave_X1_weave_r1 _ (wm_8 (wm_4 wm_h))), wm_n⟩⟩⟩⟩
  · decide +kernel
set_option maxRecDepth 20000 in
theorem ggX1_weave_X0_commute : GoodIn wsX1_weave wsX0_commute := by
  refine goodIn_sub ?_ gd_X0_commute
  unfold wsX0_commute
  refine wm_c ⟨(wk_X1_weave_X1_weave_r1 _ (wm_16 (wm_1 wm_h))), ?_⟩
  refine wm_a ⟨?_, ?_⟩
  · refine wm_c ⟨(wk_X1_weave_X1_weave_r1 _ (wm_16 (wm_2 wm_h))), ?_⟩
    refine wm_c ⟨(wk_X1_weave_X1_weave_r1 _ (wm_16 (wm_2 (wm_1 wm_h)))), ?_⟩
    refine wm_c ⟨(wk_X1_weave_X1_weave_r1 _ (wm_16 (wm_4 wm_h))), ?_⟩
    refine wm_c ⟨(wk_X1_weave_X1_weave_r1 _ (wm_16 (wm_4 (wm_1 wm_h)))), ?_⟩
    refine wm_c ⟨(wk_X1_weave_X1_weave_r1 _ (wm_4 (wm_2 wm_h))), ?_⟩
    refine wm_c ⟨(wk_X1_weave_X1_weave_r1 _ (wm_4 (wm_2 (wm_1 wm_h)))), ?_⟩
    refine wm_c ⟨(wk_X1_weave_X1_weave_r1 _ (wm_8 wm_h)), ?_⟩
    refine wm_c ⟨(wk_X1_weave_X1_weave_r1 _ (wm_16 (wm_4 (wm_2 wm_h)))), ?_⟩
    refine wm_c ⟨(wk_X1_weave_X1_weave_r1 _ (wm_16 (wm_4 (wm_2 (wm_1 wm_h))))), ?_⟩
    refine wm_c ⟨(wk_X1_weave_X1_weave_r2 _ wm_h), ?_⟩
    refine wm_c ⟨(wk_X1_weave_X1_weave_r1 _ (wm_16 wm_h)), ?_⟩
    refine wm_c ⟨(wk_X1_weave_X1_weave_r2 _ (wm_1 wm_h)), ?_⟩
    refine wm_c ⟨(wk_X1_weave_X1_weave_r2 _ (wm_2 wm_h)), ?_⟩
    refine wm_c ⟨(wk_X1_weave_X1_weave_r2 _ (wm_2 (wm_1 wm_h))), ?_⟩
    refine wm_c ⟨(wk_X1_weave_X1_weave_r2 _ (wm_4 wm_h)), ?_⟩
    refine wm_c ⟨(wk_X1_weave_X1_weave_r2 _ (wm_4 (wm_1 wm_h))), ?_⟩
    refine wm_c ⟨(wk_X1_weave_X1_weave_r2 _ (wm_4 (wm_2 wm_h))), ?_⟩
    refine wm_c ⟨(wk_X1_weave_X1_weave_r2 _ (wm_4 (wm_2 (wm_1 wm_h)))), ?_⟩
    refine wm_c ⟨(wk_X1_weave_X1_weave_r2 _ (wm_8 wm_h)), ?_⟩
    refine wm_c ⟨(wk_X1_weave_X1_weave_r2 _ (wm_8 (wm_1 wm_h))), ?_⟩
    refine wm_c ⟨(wk_X1_weave_X1_weave_r2 _ (wm_8 (wm_2 wm_h))), ?_⟩
    refine wm_c ⟨(wk_X1_weave_X1_weave_r2 _ (wm_8 (wm_2 (wm_1 wm_h)))), ?_⟩
    refine wm_c ⟨(wk_X1_weave_X1_weave_r2 _ (wm_8 (wm_4 wm_h))), ?_⟩
    exact wm_n
  · exact wk_X1_weave_X00
set_option maxRecDepth 20000 in
theorem gX1_weave_X0_commute : GoodIn wsX1_weave (wsV RX1 94 RX0 yX0_commute wsX0_commute) := by
  refine goodIn_app (goodIn_sub ?_ ?_) ggX1_weave_X0_commute
  · exact wm_c ⟨(wk_X1_weave_X1_weave_r1 _ (wm_8 (wm_4 (wm_1 wm_h)))), wm_c ⟨(wk_X1_weave_X1_weave_r1 _ (wm_8 (wm_4 (wm_2 wm_h)))), wm_c ⟨(wk_X1_weave_X1_weave_r1 _ (wm_8 (wm_4 (wm_2 (wm_1 wm_h))))), wm_c ⟨(wk_X1_weave_X1_weave_r1 _ (wm_16 wm_h)), wm_n⟩⟩⟩⟩
  · decide +kernel
theorem dX1_weave_0 : decode cX1_weave 0 = .ok (.aload_n 0, 1) := by decide +kernel
theorem dX1_weave_1 : decode cX1_weave 1 = .ok (.getfield 25, 3) := by decide +kernel
theorem dX1_weave_4 : decode cX1_weave 4 = .ok (.iload_n 2, 1) := by decide +kernel
theorem dX1_weave_5 : decode cX1_weave 5 = .ok (.aaload, 1) := by decide +kernel
theorem dX1_weave_6 : decode cX1_weave 6 = .ok (.astore_n 3, 1) := by decide +kernel
theorem dX1_weave_7 : decode cX1_weave 7 = .ok (.aload_n 0, 1) := by decide +kernel
theorem dX1_weave_8 : decode cX1_weave 8 = .ok (.getfield 56, 3) := by decide +kernel
theorem dX1_weave_11 : decode cX1_weave 11 = .ok (.iload_n 1, 1) := by decide +kernel
theorem dX1_weave_12 : decode cX1_weave 12 = .ok (.iaload, 1) := by decide +kernel
theorem dX1_weave_13 : decode cX1_weave 13 = .ok (.ifCond .lt 23, 3) := by decide +kernel
theorem dX1_weave_16 : decode cX1_weave 16 = .ok (.aload_n 0, 1) := by decide +kernel
theorem dX1_weave_17 : decode cX1_weave 17 = .ok (.getfield 59, 3) := by decide +kernel
theorem dX1_weave_20 : decode cX1_weave 20 = .ok (.iload_n 1, 1) := by decide +kernel
theorem dX1_weave_21 : decode cX1_weave 21 = .ok (.iaload, 1) := by decide +kernel
theorem dX1_weave_22 : decode cX1_weave 22 = .ok (.ifCond .lt 14, 3) := by decide +kernel
theorem dX1_weave_25 : decode cX1_weave 25 = .ok (.iload_n 2, 1) := by decide +kernel
theorem dX1_weave_26 : decode cX1_weave 26 = .ok (.iconst 1, 1) := by decide +kernel
theorem dX1_weave_27 : decode cX1_weave 27 = .ok (.iadd, 1) := by decide +kernel
theorem dX1_weave_28 : decode cX1_weave 28 = .ok (.aload_n 0, 1) := by decide +kernel
theorem dX1_weave_29 : decode cX1_weave 29 = .ok (.getfield 25, 3) := by decide +kernel
theorem dX1_weave_32 : decode cX1_weave 32 = .ok (.arraylength, 1) := by decide +kernel
theorem dX1_weave_33 : decode cX1_weave 33 = .ok (.if_icmp .lt 18, 3) := by decide +kernel
theorem dX1_weave_36 : decode cX1_weave 36 = .ok (.aload_n 3, 1) := by decide +kernel
theorem dX1_weave_37 : decode cX1_weave 37 = .ok (.iconst 0, 1) := by decide +kernel
theorem dX1_weave_38 : decode cX1_weave 38 = .ok (.invokestatic 87, 3) := by decide +kernel
theorem dX1_weave_41 : decode cX1_weave 41 = .ok (.aload_n 3, 1) := by decide +kernel
theorem dX1_weave_42 : decode cX1_weave 42 = .ok (.aload_n 0, 1) := by decide +kernel
theorem dX1_weave_43 : decode cX1_weave 43 = .ok (.getfield 53, 3) := by decide +kernel
theorem dX1_weave_46 : decode cX1_weave 46 = .ok (.iload_n 1, 1) := by decide +kernel
theorem dX1_weave_47 : decode cX1_weave 47 = .ok (.iaload, 1) := by decide +kernel
theorem dX1_weave_48 : decode cX1_weave 48 = .ok (.iconst 1, 1) := by decide +kernel
theorem dX1_weave_49 : decode cX1_weave 49 = .ok (.iastore, 1) := by decide +kernel
theorem dX1_weave_50 : decode cX1_weave 50 = .ok (.return_, 1) := by decide +kernel
theorem dX1_weave_51 : decode cX1_weave 51 = .ok (.aload_n 0, 1) := by decide +kernel
theorem dX1_weave_52 : decode cX1_weave 52 = .ok (.aload_n 0, 1) := by decide +kernel
theorem dX1_weave_53 : decode cX1_weave 53 = .ok (.getfield 56, 3) := by decide +kernel
theorem dX1_weave_56 : decode cX1_weave 56 = .ok (.iload_n 1, 1) := by decide +kernel
theorem dX1_weave_57 : decode cX1_weave 57 = .ok (.iaload, 1) := by decide +kernel
theorem dX1_weave_58 : decode cX1_weave 58 = .ok (.iload_n 2, 1) := by decide +kernel
theorem dX1_weave_59 : decode cX1_weave 59 = .ok (.invokevirtual 91, 3) := by decide +kernel
theorem dX1_weave_62 : decode cX1_weave 62 = .ok (.aload_n 0, 1) := by decide +kernel
theorem dX1_weave_63 : decode cX1_weave 63 = .ok (.aload_n 0, 1) := by decide +kernel
theorem dX1_weave_64 : decode cX1_weave 64 = .ok (.getfield 59, 3) := by decide +kernel
theorem dX1_weave_67 : decode cX1_weave 67 = .ok (.iload_n 1, 1) := by decide +kernel
theorem dX1_weave_68 : decode cX1_weave 68 = .ok (.iaload, 1) := by decide +kernel
theorem dX1_weave_69 : decode cX1_weave 69 = .ok (.iload_n 2, 1) := by decide +kernel
theorem dX1_weave_70 : decode cX1_weave 70 = .ok (.iconst 1, 1) := by decide +kernel
theorem dX1_weave_71 : decode cX1_weave 71 = .ok (.iadd, 1) := by decide +kernel
theorem dX1_weave_72 : decode cX1_weave 72 = .ok (.invokevirtual 91, 3) := by decide +kernel
theorem dX1_weave_75 : decode cX1_weave 75 = .ok (.aload_n 0, 1) := by decide +kernel
theorem dX1_weave_76 : decode cX1_weave 76 = .ok (.getfield 15, 3) := by decide +kernel
theorem dX1_weave_79 : decode cX1_weave 79 = .ok (.aload_n 3, 1) := by decide +kernel
theorem dX1_weave_80 : decode cX1_weave 80 = .ok (.aload_n 3, 1) := by decide +kernel
theorem dX1_weave_81 : decode cX1_weave 81 = .ok (.aload_n 0, 1) := by decide +kernel
theorem dX1_weave_82 : decode cX1_weave 82 = .ok (.getfield 25, 3) := by decide +kernel
theorem dX1_weave_85 : decode cX1_weave 85 = .ok (.iload_n 2, 1) := by decide +kernel
theorem dX1_weave_86 : decode cX1_weave 86 = .ok (.iconst 1, 1) := by decide +kernel
theorem dX1_weave_87 : decode cX1_weave 87 = .ok (.iadd, 1) := by decide +kernel
theorem dX1_weave_88 : decode cX1_weave 88 = .ok (.aaload, 1) := by decide +kernel
theorem dX1_weave_89 : decode cX1_weave 89 = .ok (.invokevirtual 94, 3) := by decide +kernel
theorem dX1_weave_92 : decode cX1_weave 92 = .ok (.return_, 1) := by decide +kernel
set_option maxRecDepth 20000 in
theorem ggX1_measure_X6_lengthOf : GoodIn wsX1_measure wsX6_lengthOf := by
  refine goodIn_sub ?_ gd_X6_lengthOf
  unfold wsX6_lengthOf
  refine wm_c ⟨(wk_X1_measure_X1_measure_r1 _ (wm_4 (wm_1 wm_h))), ?_⟩
  refine wm_a ⟨?_, ?_⟩
  · refine wm_c ⟨(wk_X1_measure_X1_measure_r1 _ (wm_4 (wm_2 wm_h))), ?_⟩
    refine wm_c ⟨(wk_X1_measure_X1_measure_r1 _ (wm_4 (wm_2 (wm_1 wm_h)))), ?_⟩
    exact wm_n
  · exact wk_X1_measure_X60
set_option maxRecDepth 20000 in
theorem gX1_measure_X6_lengthOf : GoodIn wsX1_measure (wsV RX1 77 RX6 yX6_lengthOf wsX6_lengthOf) := by
  refine goodIn_app (goodIn_sub ?_ ?_) ggX1_measure_X6_lengthOf
  · exact wm_c ⟨(wk_X1_measure_X1_measure_r1 _ (wm_1 wm_h)), wm_c ⟨(wk_X1_measure_X1_measure_r1 _ (wm_2 wm_h)), wm_c ⟨(wk_X1_measure_X1_measure_r1 _ (wm_2 (wm_1 wm_h))), wm_c ⟨(wk_X1_measure_X1_measure_r1 _ (wm_4 wm_h)), wm_n⟩⟩⟩⟩
  · decide +kernel
set_option maxRecDepth 20000 in
theorem ggX1_measure_X1_spell : GoodIn wsX1_measure wsX1_spell := by
  refine goodIn_sub ?_ gd_X1_spell
  unfold wsX1_spell
  refine wm_c ⟨(wk_X1_measure_X1_measure_r1 _ (wm_8 (wm_4 wm_h))), ?_⟩
  refine wm_a ⟨?_, ?_⟩
  · refine wm_a ⟨?_, ?_⟩
    · refine wm_c ⟨(wk_X1_measure_X1_measure_r1 _ wm_h), ?_⟩
      refine wm_c ⟨(wk_X1_measure_X1_measure_r1 _ (wm_8 (wm_4 (wm_1 wm_h)))), ?_⟩
      refine wm_c ⟨(wk_X1_measure_X1_measure_r1 _ (wm_8 (wm_4 (wm_2 wm_h)))), ?_⟩
      refine wm_c ⟨(wk_X1_measure_X1_measure_r1 _ (wm_8 (wm_4 (wm_2 (wm_1 wm_h))))), ?_⟩
      exact wm_n
    · exact wk_X1_measure_X10
  · exact wk_X1_measure_X60
set_option maxRecDepth 20000 in
theorem gX1_measure_X1_spell : GoodIn wsX1_measure (wsV RX1 69 RX1 yX1_spell wsX1_spell) := by
  refine goodIn_app (goodIn_sub ?_ ?_) ggX1_measure_X1_spell
  · exact wm_c ⟨(wk_X1_measure_X1_measure_r1 _ (wm_8 wm_h)), wm_c ⟨(wk_X1_measure_X1_measure_r1 _ (wm_8 (wm_1 wm_h))), wm_c ⟨(wk_X1_measure_X1_measure_r1 _ (wm_8 (wm_2 wm_h))), wm_c ⟨(wk_X1_measure_X1_measure_r1 _ (wm_8 (wm_2 (wm_1 wm_h)))), wm_n⟩⟩⟩⟩
  · decide +kernel
set_option maxRecDepth 20000 in
theorem ggX1_measure_X1_measureSpelled : GoodIn wsX1_measure wsX1_measureSpelled := by
  refine goodIn_sub ?_ gd_X1_measureSpelled
  unfold wsX1_measureSpelled
  refine wm_c ⟨(wk_X1_measure_X1_measure_r1 _ (wm_16 (wm_2 (wm_1 wm_h)))), ?_⟩
  refine wm_a ⟨?_, ?_⟩
  · refine wm_a ⟨?_, ?_⟩
    · refine wm_a ⟨?_, ?_⟩
      · refine wm_a ⟨?_, ?_⟩
        · unfold wsX1_measureSpelled_r1
          refine wm_c ⟨(wk_X1_measure_X1_measure_r1 _ (wm_16 (wm_4 wm_h))), ?_⟩
          refine wm_c ⟨(wk_X1_measure_X1_measure_r1 _ (wm_16 (wm_4 (wm_1 wm_h)))), ?_⟩
          refine wm_c ⟨(wk_X1_measure_X1_measure_r1 _ (wm_8 (wm_4 (wm_2 wm_h)))), ?_⟩
          refine wm_c ⟨(wk_X1_measure_X1_measure_r1 _ (wm_16 (wm_4 (wm_2 wm_h)))), ?_⟩
          refine wm_c ⟨(wk_X1_measure_X1_measure_r1 _ (wm_16 (wm_4 (wm_2 (wm_1 wm_h))))), ?_⟩
          refine wm_c ⟨(wk_X1_measure_X1_measure_r2 _ wm_h), ?_⟩
          refine wm_c ⟨(wk_X1_measure_X1_measure_r2 _ (wm_1 wm_h)), ?_⟩
          refine wm_c ⟨(wk_X1_measure_X1_measure_r2 _ (wm_2 wm_h)), ?_⟩
          refine wm_c ⟨(wk_X1_measure_X1_measure_r2 _ (wm_2 (wm_1 wm_h))), ?_⟩
          refine wm_c ⟨(wk_X1_measure_X1_measure_r2 _ (wm_4 wm_h)), ?_⟩
          refine wm_c ⟨(wk_X1_measure_X1_measure_r2 _ (wm_4 (wm_1 wm_h))), ?_⟩
          refine wm_c ⟨(wk_X1_measure_X1_measure_r2 _ (wm_4 (wm_2 wm_h))), ?_⟩
          refine wm_c ⟨(wk_X1_measure_X1_measure_r2 _ (wm_4 (wm_2 (wm_1 wm_h)))), ?_⟩
          refine wm_c ⟨(wk_X1_measure_X1_measure_r2 _ (wm_8 wm_h)), ?_⟩
          refine wm_c ⟨(wk_X1_measure_X1_measure_r2 _ (wm_8 (wm_1 wm_h))), ?_⟩
          refine wm_c ⟨(wk_X1_measure_X1_measure_r1 _ (wm_8 (wm_2 (wm_1 wm_h)))), ?_⟩
          refine wm_c ⟨(wk_X1_measure_X1_measure_r2 _ (wm_8 (wm_2 wm_h))), ?_⟩
          refine wm_c ⟨(wk_X1_measure_X1_measure_r1 _ (wm_16 wm_h)), ?_⟩
          refine wm_c ⟨(wk_X1_measure_X1_measure_r1 _ (wm_16 (wm_1 wm_h))), ?_⟩
          refine wm_c ⟨(wk_X1_measure_X1_measure_r1 _ (wm_16 (wm_2 wm_h))), ?_⟩
          refine wm_c ⟨(wk_X1_measure_X1_measure_r2 _ (wm_8 (wm_2 (wm_1 wm_h)))), ?_⟩
          refine wm_c ⟨(wk_X1_measure_X1_measure_r2 _ (wm_8 (wm_4 wm_h))), ?_⟩
          refine wm_c ⟨(wk_X1_measure_X1_measure_r2 _ (wm_8 (wm_4 (wm_1 wm_h)))), ?_⟩
          refine wm_c ⟨(wk_X1_measure_X1_measure_r2 _ (wm_8 (wm_4 (wm_2 wm_h)))), ?_⟩
          exact wm_n
        · refine wm_a ⟨?_, ?_⟩
          · unfold wsX1_measureSpelled_r2
            refine wm_c ⟨(wk_X1_measure_X1_measure_r1 _ wm_h), ?_⟩
            refine wm_c ⟨(wk_X1_measure_X1_measure_r2 _ (wm_8 (wm_4 (wm_2 (wm_1 wm_h))))), ?_⟩
            refine wm_c ⟨(wk_X1_measure_X1_measure_r1 _ (wm_8 (wm_4 (wm_1 wm_h)))), ?_⟩
            refine wm_c ⟨(wk_X1_measure_X1_measure_r2 _ (wm_16 wm_h)), ?_⟩
            refine wm_c ⟨(wk_X1_measure_X1_measure_r2 _ (wm_16 (wm_1 wm_h))), ?_⟩
            refine wm_c ⟨(wk_X1_measure_X1_measure_r2 _ (wm_16 (wm_2 wm_h))), ?_⟩
            refine wm_c ⟨(wk_X1_measure_X1_measure_r2 _ (wm_16 (wm_2 (wm_1 wm_h)))), ?_⟩
            refine wm_c ⟨(wk_X1_measure_X1_measure_r2 _ (wm_16 (wm_4 wm_h))), ?_⟩
            refine wm_c ⟨(wk_X1_measure_X1_measure_r2 _ (wm_16 (wm_4 (wm_1 wm_h)))), ?_⟩
            refine wm_c ⟨(wk_X1_measure_X1_measure_r2 _ (wm_16 (wm_4 (wm_2 wm_h)))), ?_⟩
            refine wm_c ⟨(wk_X1_measure_X1_measure_r2 _ (wm_16 (wm_4 (wm_2 (wm_1 wm_h))))), ?_⟩
            refine wm_c ⟨(wk_X1_measure_X1_measure_r3 _ wm_h), ?_⟩
            refine wm_c ⟨(wk_X1_measure_X1_measure_r3 _ (wm_1 wm_h)), ?_⟩
            refine wm_c ⟨(wk_X1_measure_X1_measure_r3 _ (wm_2 wm_h)), ?_⟩
            refine wm_c ⟨(wk_X1_measure_X1_measure_r3 _ (wm_2 (wm_1 wm_h))), ?_⟩
            refine wm_c ⟨(wk_X1_measure_X1_measure_r3 _ (wm_4 wm_h)), ?_⟩
            refine wm_c ⟨(wk_X1_measure_X1_measure_r3 _ (wm_4 (wm_1 wm_h))), ?_⟩
            refine wm_c ⟨(wk_X1_measure_X1_measure_r3 _ (wm_4 (wm_2 wm_h))), ?_⟩
            refine wm_c ⟨(wk_X1_measure_X1_measure_r3 _ (wm_4 (wm_2 (wm_1 wm_h)))), ?_⟩
            refine wm_c ⟨(wk_X1_measure_X1_measure_r3 _ (wm_8 wm_h)), ?_⟩
            refine wm_c ⟨(wk_X1_measure_X1_measure_r3 _ (wm_8 (wm_1 wm_h))), ?_⟩
            refine wm_c ⟨(wk_X1_measure_X1_measure_r3 _ (wm_8 (wm_2 wm_h))), ?_⟩
            refine wm_c ⟨(wk_X1_measure_X1_measure_r3 _ (wm_8 (wm_2 (wm_1 wm_h)))), ?_⟩
            refine wm_c ⟨(wk_X1_measure_X1_measure_r3 _ (wm_8 (wm_4 wm_h))), ?_⟩
            exact wm_n
          · refine wm_a ⟨?_, ?_⟩
            · unfold wsX1_measureSpelled_r3
              refine wm_c ⟨(wk_X1_measure_X1_measure_r3 _ (wm_8 (wm_4 (wm_1 wm_h)))), ?_⟩
              refine wm_c ⟨(wk_X1_measure_X1_measure_r3 _ (wm_8 (wm_4 (wm_2 wm_h)))), ?_⟩
              refine wm_c ⟨(wk_X1_measure_X1_measure_r3 _ (wm_8 (wm_4 (wm_2 (wm_1 wm_h))))), ?_⟩
              refine wm_c ⟨(wk_X1_measure_X1_measure_r3 _ (wm_16 wm_h)), ?_⟩
              refine wm_c ⟨(wk_X1_measure_X1_measure_r3 _ (wm_16 (wm_1 wm_h))), ?_⟩
              refine wm_c ⟨(wk_X1_measure_X1_measure_r3 _ (wm_16 (wm_2 wm_h))), ?_⟩
              refine wm_c ⟨(wk_X1_measure_X1_measure_r3 _ (wm_16 (wm_2 (wm_1 wm_h)))), ?_⟩
              refine wm_c ⟨(wk_X1_measure_X1_measure_r3 _ (wm_16 (wm_4 wm_h))), ?_⟩
              refine wm_c ⟨(wk_X1_measure_X1_measure_r3 _ (wm_16 (wm_4 (wm_1 wm_h)))), ?_⟩
              refine wm_c ⟨(wk_X1_measure_X1_measure_r3 _ (wm_16 (wm_4 (wm_2 wm_h)))), ?_⟩
              refine wm_c ⟨(wk_X1_measure_X1_measure_r3 _ (wm_16 (wm_4 (wm_2 (wm_1 wm_h))))), ?_⟩
              refine wm_c ⟨(wk_X1_measure_X1_measure_r4 _ wm_h), ?_⟩
              refine wm_c ⟨(wk_X1_measure_X1_measure_r4 _ (wm_1 wm_h)), ?_⟩
              refine wm_c ⟨(wk_X1_measure_X1_measure_r4 _ (wm_2 wm_h)), ?_⟩
              refine wm_c ⟨(wk_X1_measure_X1_measure_r4 _ (wm_2 (wm_1 wm_h))), ?_⟩
              refine wm_c ⟨(wk_X1_measure_X1_measure_r4 _ (wm_4 wm_h)), ?_⟩
              refine wm_c ⟨(wk_X1_measure_X1_measure_r4 _ (wm_4 (wm_1 wm_h))), ?_⟩
              refine wm_c ⟨(wk_X1_measure_X1_measure_r4 _ (wm_4 (wm_2 wm_h))), ?_⟩
              refine wm_c ⟨(wk_X1_measure_X1_measure_r4 _ (wm_4 (wm_2 (wm_1 wm_h)))), ?_⟩
              refine wm_c ⟨(wk_X1_measure_X1_measure_r4 _ (wm_8 wm_h)), ?_⟩
              refine wm_c ⟨(wk_X1_measure_X1_measure_r4 _ (wm_8 (wm_1 wm_h))), ?_⟩
              refine wm_c ⟨(wk_X1_measure_X1_measure_r4 _ (wm_8 (wm_2 wm_h))), ?_⟩
              refine wm_c ⟨(wk_X1_measure_X1_measure_r4 _ (wm_8 (wm_2 (wm_1 wm_h)))), ?_⟩
              refine wm_c ⟨(wk_X1_measure_X1_measure_r4 _ (wm_8 (wm_4 wm_h))), ?_⟩
              exact wm_n
            · unfold wsX1_measureSpelled_r4
              refine wm_c ⟨(wk_X1_measure_X1_measure_r4 _ (wm_8 (wm_4 (wm_1 wm_h)))), ?_⟩
              refine wm_c ⟨(wk_X1_measure_X1_measure_r4 _ (wm_8 (wm_4 (wm_2 wm_h)))), ?_⟩
              refine wm_c ⟨(wk_X1_measure_X1_measure_r4 _ (wm_8 (wm_4 (wm_2 (wm_1 wm_h))))), ?_⟩
              refine wm_c ⟨(wk_X1_measure_X1_measure_r4 _ (wm_16 wm_h)), ?_⟩
              refine wm_c ⟨(wk_X1_measure_X1_measure_r4 _ (wm_16 (wm_1 wm_h))), ?_⟩
              refine wm_c ⟨(wk_X1_measure_X1_measure_r4 _ (wm_16 (wm_2 wm_h))), ?_⟩
              refine wm_c ⟨(wk_X1_measure_X1_measure_r4 _ (wm_16 (wm_2 (wm_1 wm_h)))), ?_⟩
              refine wm_c ⟨(wk_X1_measure_X1_measure_r4 _ (wm_16 (wm_4 wm_h))), ?_⟩
              refine wm_c ⟨(wk_X1_measure_X1_measure_r4 _ (wm_16 (wm_4 (wm_1 wm_h)))), ?_⟩
              exact wm_n
      · exact wk_X1_measure_X10
    · exact wk_X1_measure_X60
  · exact wk_X1_measure_X00
set_option maxRecDepth 20000 in
theorem gX1_measure_X1_measureSpelled : GoodIn wsX1_measure (wsV RX1 98 RX1 yX1_measureSpelled wsX1_measureSpelled) := by
  refine goodIn_app (goodIn_sub ?_ ?_) ggX1_measure_X1_measureSpelled
  · exact wm_c ⟨(wk_X1_measure_X1_measure_r1 _ (wm_16 wm_h)), wm_c ⟨(wk_X1_measure_X1_measure_r1 _ (wm_16 (wm_1 wm_h))), wm_c ⟨(wk_X1_measure_X1_measure_r1 _ (wm_16 (wm_2 wm_h))), wm_c ⟨(wk_X1_measure_X1_measure_r1 _ (wm_8 (wm_2 (wm_1 wm_h)))), wm_n⟩⟩⟩⟩
  · decide +kernel
theorem dX1_measure_0 : decode cX1_measure 0 = .ok (.aload_n 0, 1) := by decide +kernel
theorem dX1_measure_1 : decode cX1_measure 1 = .ok (.getfield 9, 3) := by decide +kernel
theorem dX1_measure_4 : decode cX1_measure 4 = .ok (.iload_n 1, 1) := by decide +kernel
theorem dX1_measure_5 : decode cX1_measure 5 = .ok (.invokevirtual 77, 3) := by decide +kernel
theorem dX1_measure_8 : decode cX1_measure 8 = .ok (.istore_n 3, 1) := by decide +kernel
theorem dX1_measure_9 : decode cX1_measure 9 = .ok (.aload_n 0, 1) := by decide +kernel
theorem dX1_measure_10 : decode cX1_measure 10 = .ok (.iload_n 1, 1) := by decide +kernel
theorem dX1_measure_11 : decode cX1_measure 11 = .ok (.iload_n 3, 1) := by decide +kernel
theorem dX1_measure_12 : decode cX1_measure 12 = .ok (.invokevirtual 69, 3) := by decide +kernel
theorem dX1_measure_15 : decode cX1_measure 15 = .ok (.aload_n 0, 1) := by decide +kernel
theorem dX1_measure_16 : decode cX1_measure 16 = .ok (.iconst 0, 1) := by decide +kernel
theorem dX1_measure_17 : decode cX1_measure 17 = .ok (.iload_n 3, 1) := by decide +kernel
theorem dX1_measure_18 : decode cX1_measure 18 = .ok (.iload_n 2, 1) := by decide +kernel
theorem dX1_measure_19 : decode cX1_measure 19 = .ok (.invokevirtual 98, 3) := by decide +kernel
theorem dX1_measure_22 : decode cX1_measure 22 = .ok (.return_, 1) := by decide +kernel
set_option maxRecDepth 20000 in
theorem ggX1_measureSpelled_X0_setToUnit : GoodIn wsX1_measureSpelled wsX0_setToUnit := by
  refine goodIn_sub ?_ gd_X0_setToUnit
  unfold wsX0_setToUnit
  refine wm_c ⟨(wk_X1_measureSpelled_X1_measureSpelled_r1 _ (wm_4 (wm_2 (wm_1 wm_h)))), ?_⟩
  refine wm_c ⟨(wk_X1_measureSpelled_X1_measureSpelled_r1 _ (wm_8 wm_h)), ?_⟩
  refine wm_c ⟨(wk_X1_measureSpelled_X1_measureSpelled_r1 _ (wm_8 (wm_1 wm_h))), ?_⟩
  refine wm_c ⟨(wk_X1_measureSpelled_X1_measureSpelled_r1 _ (wm_8 (wm_2 wm_h))), ?_⟩
  refine wm_c ⟨(wk_X1_measureSpelled_X1_measureSpelled_r1 _ (wm_8 (wm_2 (wm_1 wm_h)))), ?_⟩
  exact wm_n
set_option maxRecDepth 20000 in
theorem gX1_measureSpelled_X0_setToUnit : GoodIn wsX1_measureSpelled (wsV RX1 102 RX0 yX0_setToUnit wsX0_setToUnit) := by
  refine goodIn_app (goodIn_sub ?_ ?_) ggX1_measureSpelled_X0_setToUnit
  · exact wm_c ⟨(wk_X1_measureSpelled_X1_measureSpelled_r1 _ (wm_2 (wm_1 wm_h))), wm_c ⟨(wk_X1_measureSpelled_X1_measureSpelled_r1 _ (wm_4 wm_h)), wm_c ⟨(wk_X1_measureSpelled_X1_measureSpelled_r1 _ (wm_4 (wm_1 wm_h))), wm_c ⟨(wk_X1_measureSpelled_X1_measureSpelled_r1 _ (wm_4 (wm_2 wm_h))), wm_n⟩⟩⟩⟩
  · decide +kernel
set_option maxRecDepth 20000 in
theorem ggX1_measureSpelled_X1_headLength : GoodIn wsX1_measureSpelled wsX1_headLength := by
  refine goodIn_sub ?_ gd_X1_headLength
  unfold wsX1_headLength
  refine wm_c ⟨(wk_X1_measureSpelled_X1_measureSpelled_r1 _ (wm_16 wm_h)), ?_⟩
  refine wm_a ⟨?_, ?_⟩
  · refine wm_c ⟨(wk_X1_measureSpelled_X1_measureSpelled_r1 _ (wm_2 wm_h)), ?_⟩
    exact wm_n
  · exact wk_X1_measureSpelled_X10
set_option maxRecDepth 20000 in
theorem gX1_measureSpelled_X1_headLength : GoodIn wsX1_measureSpelled (wsV RX1 73 RX1 yX1_headLength wsX1_headLength) := by
  refine goodIn_app (goodIn_sub ?_ ?_) ggX1_measureSpelled_X1_headLength
  · exact wm_c ⟨(wk_X1_measureSpelled_X1_measureSpelled_r1 _ (wm_8 (wm_4 wm_h))), wm_c ⟨(wk_X1_measureSpelled_X1_measureSpelled_r1 _ (wm_8 (wm_4 (wm_1 wm_h)))), wm_c ⟨(wk_X1_measureSpelled_X1_measureSpelled_r1 _ (wm_8 (wm_4 (wm_2 wm_h)))), wm_c ⟨(wk_X1_measureSpelled_X1_measureSpelled_r1 _ (wm_8 (wm_4 (wm_2 (wm_1 wm_h))))), wm_n⟩⟩⟩⟩
  · decide +kernel
set_option maxRecDepth 20000 in
theorem ggX1_measureSpelled_X1_measureSpelled : GoodIn wsX1_measureSpelled wsX1_measureSpelled := by
  refine goodIn_sub ?_ gd_X1_measureSpelled
  unfold wsX1_measureSpelled
  refine wm_c ⟨wm_h, ?_⟩
  refine wm_a ⟨?_, ?_⟩
  · refine wm_a ⟨?_, ?_⟩
    · refine wm_a ⟨?_, ?_⟩
      · refine wm_a ⟨?_, ?_⟩
        · exact wk_X1_measureSpelled_X1_measureSpelled_r1
        · refine wm_a ⟨?_, ?_⟩
          · exact wk_X1_measureSpelled_X1_measureSpelled_r2
          · refine wm_a ⟨?_, ?_⟩
            · exact wk_X1_measureSpelled_X1_measureSpelled_r3
            · exact wk_X1_measureSpelled_X1_measureSpelled_r4
      · exact wk_X1_measureSpelled_X10
    · exact wk_X1_measureSpelled_X60
  · exact wk_X1_measureSpelled_X00
set_option maxRecDepth 20000 in
theorem gX1_measureSpelled_X1_measureSpelled : GoodIn wsX1_measureSpelled (wsV RX1 98 RX1 yX1_measureSpelled wsX1_measureSpelled) := by
  refine goodIn_app (goodIn_sub ?_ ?_) ggX1_measureSpelled_X1_measureSpelled
  · exact wm_c ⟨(wk_X1_measureSpelled_X1_measureSpelled_r1 _ (wm_16 (wm_1 wm_h))), wm_c ⟨(wk_X1_measureSpelled_X1_measureSpelled_r1 _ (wm_16 (wm_2 wm_h))), wm_c ⟨(wk_X1_measureSpelled_X1_measureSpelled_r1 _ (wm_16 (wm_2 (wm_1 wm_h)))), wm_c ⟨(wk_X1_measureSpelled_X1_measureSpelled_r1 _ (wm_8 (wm_4 (wm_2 (wm_1 wm_h))))), wm_n⟩⟩⟩⟩
  · decide +kernel
set_option maxRecDepth 20000 in
theorem ggX1_measureSpelled_X1_setAhead : GoodIn wsX1_measureSpelled wsX1_setAhead := by
  refine goodIn_sub ?_ gd_X1_setAhead
  unfold wsX1_setAhead
  refine wm_c ⟨(wk_X1_measureSpelled_X1_measureSpelled_r1 _ (wm_16 (wm_4 (wm_2 (wm_1 wm_h))))), ?_⟩
  refine wm_a ⟨?_, ?_⟩
  · refine wm_a ⟨?_, ?_⟩
    · refine wm_c ⟨(wk_X1_measureSpelled_X1_measureSpelled_r2 _ wm_h), ?_⟩
      refine wm_c ⟨(wk_X1_measureSpelled_X1_measureSpelled_r2 _ (wm_1 wm_h)), ?_⟩
      refine wm_c ⟨(wk_X1_measureSpelled_X1_measureSpelled_r2 _ (wm_2 wm_h)), ?_⟩
      refine wm_c ⟨(wk_X1_measureSpelled_X1_measureSpelled_r2 _ (wm_2 (wm_1 wm_h))), ?_⟩
      refine wm_c ⟨(wk_X1_measureSpelled_X1_measureSpelled_r2 _ (wm_4 wm_h)), ?_⟩
      refine wm_c ⟨(wk_X1_measureSpelled_X1_measureSpelled_r2 _ (wm_4 (wm_1 wm_h))), ?_⟩
      refine wm_c ⟨(wk_X1_measureSpelled_X1_measureSpelled_r2 _ (wm_4 (wm_2 wm_h))), ?_⟩
      refine wm_c ⟨(wk_X1_measureSpelled_X1_measureSpelled_r2 _ (wm_4 (wm_2 (wm_1 wm_h)))), ?_⟩
      refine wm_c ⟨(wk_X1_measureSpelled_X1_measureSpelled_r2 _ (wm_8 wm_h)), ?_⟩
      refine wm_c ⟨(wk_X1_measureSpelled_X1_measureSpelled_r1 _ (wm_8 (wm_2 wm_h))), ?_⟩
      refine wm_c ⟨(wk_X1_measureSpelled_X1_measureSpelled_r2 _ (wm_8 (wm_1 wm_h))), ?_⟩
      refine wm_c ⟨(wk_X1_measureSpelled_X1_measureSpelled_r2 _ (wm_8 (wm_2 wm_h))), ?_⟩
      refine wm_c ⟨(wk_X1_measureSpelled_X1_measureSpelled_r2 _ (wm_8 (wm_2 (wm_1 wm_h)))), ?_⟩
      refine wm_c ⟨(wk_X1_measureSpelled_X1_measureSpelled_r2 _ (wm_8 (wm_4 wm_h))), ?_⟩
      exact wm_n
    · exact wk_X1_measureSpelled_X10
  · exact wk_X1_measureSpelled_X60
set_option maxRecDepth 20000 in
theorem gX1_measureSpelled_X1_setAhead : GoodIn wsX1_measureSpelled (wsV RX1 105 RX1 yX1_setAhead wsX1_setAhead) := by
  refine goodIn_app (goodIn_sub ?_ ?_) ggX1_measureSpelled_X1_setAhead
  · exact wm_c ⟨(wk_X1_measureSpelled_X1_measureSpelled_r1 _ (wm_16 (wm_4 wm_h))), wm_c ⟨(wk_X1_measureSpelled_X1_measureSpelled_r1 _ (wm_16 (wm_4 (wm_1 wm_h)))), wm_c ⟨(wk_X1_measureSpelled_X1_measureSpelled_r1 _ (wm_16 (wm_4 (wm_2 wm_h)))), wm_c ⟨(wk_X1_measureSpelled_X1_measureSpelled_r1 _ (wm_8 (wm_4 (wm_2 (wm_1 wm_h))))), wm_n⟩⟩⟩⟩
  · decide +kernel
set_option maxRecDepth 20000 in
theorem ggX1_measureSpelled_X0_mingle : GoodIn wsX1_measureSpelled wsX0_mingle := by
  refine goodIn_sub ?_ gd_X0_mingle
  unfold wsX0_mingle
  refine wm_c ⟨(wk_X1_measureSpelled_X1_measureSpelled_r2 _ (wm_16 wm_h)), ?_⟩
  refine wm_a ⟨?_, ?_⟩
  · refine wm_a ⟨?_, ?_⟩
    · unfold wsX0_mingle_r1
      refine wm_c ⟨(wk_X1_measureSpelled_X1_measureSpelled_r2 _ (wm_16 (wm_1 wm_h))), ?_⟩
      refine wm_c ⟨(wk_X1_measureSpelled_X1_measureSpelled_r2 _ (wm_16 (wm_2 wm_h))), ?_⟩
      refine wm_c ⟨(wk_X1_measureSpelled_X1_measureSpelled_r2 _ (wm_16 (wm_2 (wm_1 wm_h)))), ?_⟩
      refine wm_c ⟨(wk_X1_measureSpelled_X1_measureSpelled_r2 _ (wm_16 (wm_4 wm_h))), ?_⟩
      refine wm_c ⟨(wk_X1_measureSpelled_X1_measureSpelled_r1 _ (wm_8 wm_h)), ?_⟩
      refine wm_c ⟨(wk_X1_measureSpelled_X1_measureSpelled_r1 _ (wm_8 (wm_1 wm_h))), ?_⟩
      refine wm_c ⟨(wk_X1_measureSpelled_X1_measureSpelled_r1 _ (wm_8 (wm_2 wm_h))), ?_⟩
      refine wm_c ⟨(wk_X1_measureSpelled_X1_measureSpelled_r1 _ (wm_8 (wm_2 (wm_1 wm_h)))), ?_⟩
      refine wm_c ⟨(wk_X1_measureSpelled_X1_measureSpelled_r2 _ (wm_16 (wm_4 (wm_1 wm_h)))), ?_⟩
      refine wm_c ⟨(wk_X1_measureSpelled_X1_measureSpelled_r2 _ (wm_16 (wm_4 (wm_2 wm_h)))), ?_⟩
      refine wm_c ⟨(wk_X1_measureSpelled_X1_measureSpelled_r2 _ (wm_16 (wm_4 (wm_2 (wm_1 wm_h))))), ?_⟩
      refine wm_c ⟨(wk_X1_measureSpelled_X1_measureSpelled_r1 _ (wm_4 (wm_2 wm_h))), ?_⟩
      refine wm_c ⟨(wk_X1_measureSpelled_X1_measureSpelled_r3 _ wm_h), ?_⟩
      refine wm_c ⟨(wk_X1_measureSpelled_X1_measureSpelled_r3 _ (wm_1 wm_h)), ?_⟩
      refine wm_c ⟨(wk_X1_measureSpelled_X1_measureSpelled_r3 _ (wm_2 wm_h)), ?_⟩
      refine wm_c ⟨(wk_X1_measureSpelled_X1_measureSpelled_r3 _ (wm_2 (wm_1 wm_h))), ?_⟩
      refine wm_c ⟨(wk_X1_measureSpelled_X1_measureSpelled_r3 _ (wm_4 wm_h)), ?_⟩
      refine wm_c ⟨(wk_X1_measureSpelled_X1_measureSpelled_r3 _ (wm_4 (wm_1 wm_h))), ?_⟩
      refine wm_c ⟨(wk_X1_measureSpelled_X1_measureSpelled_r3 _ (wm_4 (wm_2 wm_h))), ?_⟩
      refine wm_c ⟨(wk_X1_measureSpelled_X1_measureSpelled_r3 _ (wm_4 (wm_2 (wm_1 wm_h)))), ?_⟩
      refine wm_c ⟨(wk_X1_measureSpelled_X1_measureSpelled_r3 _ (wm_8 wm_h)), ?_⟩
      refine wm_c ⟨(wk_X1_measureSpelled_X1_measureSpelled_r3 _ (wm_8 (wm_1 wm_h))), ?_⟩
      refine wm_c ⟨(wk_X1_measureSpelled_X1_measureSpelled_r3 _ (wm_8 (wm_2 wm_h))), ?_⟩
      refine wm_c ⟨(wk_X1_measureSpelled_X1_measureSpelled_r3 _ (wm_8 (wm_2 (wm_1 wm_h)))), ?_⟩
      exact wm_n
    · unfold wsX0_mingle_r2
      refine wm_c ⟨(wk_X1_measureSpelled_X1_measureSpelled_r3 _ (wm_8 (wm_4 wm_h))), ?_⟩
      refine wm_c ⟨(wk_X1_measureSpelled_X1_measureSpelled_r3 _ (wm_8 (wm_4 (wm_1 wm_h)))), ?_⟩
      refine wm_c ⟨(wk_X1_measureSpelled_X1_measureSpelled_r3 _ (wm_8 (wm_4 (wm_2 wm_h)))), ?_⟩
      refine wm_c ⟨(wk_X1_measureSpelled_X1_measureSpelled_r3 _ (wm_8 (wm_4 (wm_2 (wm_1 wm_h))))), ?_⟩
      refine wm_c ⟨(wk_X1_measureSpelled_X1_measureSpelled_r3 _ (wm_16 wm_h)), ?_⟩
      refine wm_c ⟨(wk_X1_measureSpelled_X1_measureSpelled_r3 _ (wm_16 (wm_1 wm_h))), ?_⟩
      refine wm_c ⟨(wk_X1_measureSpelled_X1_measureSpelled_r3 _ (wm_16 (wm_2 wm_h))), ?_⟩
      refine wm_c ⟨(wk_X1_measureSpelled_X1_measureSpelled_r3 _ (wm_16 (wm_2 (wm_1 wm_h)))), ?_⟩
      refine wm_c ⟨(wk_X1_measureSpelled_X1_measureSpelled_r2 _ (wm_4 wm_h)), ?_⟩
      refine wm_c ⟨(wk_X1_measureSpelled_X1_measureSpelled_r2 _ (wm_4 (wm_1 wm_h))), ?_⟩
      refine wm_c ⟨(wk_X1_measureSpelled_X1_measureSpelled_r2 _ (wm_4 (wm_2 wm_h))), ?_⟩
      exact wm_n
  · exact wk_X1_measureSpelled_X00
set_option maxRecDepth 20000 in
theorem gX1_measureSpelled_X0_mingle : GoodIn wsX1_measureSpelled (wsV RX1 109 RX0 yX0_mingle wsX0_mingle) := by
  refine goodIn_app (goodIn_sub ?_ ?_) ggX1_measureSpelled_X0_mingle
  · exact wm_c ⟨(wk_X1_measureSpelled_X1_measureSpelled_r2 _ (wm_8 (wm_4 (wm_1 wm_h)))), wm_c ⟨(wk_X1_measureSpelled_X1_measureSpelled_r2 _ (wm_8 (wm_4 (wm_2 wm_h)))), wm_c ⟨(wk_X1_measureSpelled_X1_measureSpelled_r2 _ (wm_8 (wm_4 (wm_2 (wm_1 wm_h))))), wm_c ⟨(wk_X1_measureSpelled_X1_measureSpelled_r1 _ (wm_4 (wm_2 wm_h))), wm_n⟩⟩⟩⟩
  · decide +kernel
set_option maxRecDepth 20000 in
theorem ggX1_measureSpelled_X1_headTimes : GoodIn wsX1_measureSpelled wsX1_headTimes := by
  refine goodIn_sub ?_ gd_X1_headTimes
  unfold wsX1_headTimes
  refine wm_c ⟨(wk_X1_measureSpelled_X1_measureSpelled_r3 _ (wm_16 (wm_4 (wm_2 (wm_1 wm_h))))), ?_⟩
  refine wm_a ⟨?_, ?_⟩
  · refine wm_c ⟨(wk_X1_measureSpelled_X1_measureSpelled_r1 _ (wm_2 wm_h)), ?_⟩
    exact wm_n
  · exact wk_X1_measureSpelled_X10
set_option maxRecDepth 20000 in
theorem gX1_measureSpelled_X1_headTimes : GoodIn wsX1_measureSpelled (wsV RX1 112 RX1 yX1_headTimes wsX1_headTimes) := by
  refine goodIn_app (goodIn_sub ?_ ?_) ggX1_measureSpelled_X1_headTimes
  · exact wm_c ⟨(wk_X1_measureSpelled_X1_measureSpelled_r3 _ (wm_16 (wm_4 wm_h))), wm_c ⟨(wk_X1_measureSpelled_X1_measureSpelled_r3 _ (wm_16 (wm_4 (wm_1 wm_h)))), wm_c ⟨(wk_X1_measureSpelled_X1_measureSpelled_r3 _ (wm_16 (wm_4 (wm_2 wm_h)))), wm_c ⟨(wk_X1_measureSpelled_X1_measureSpelled_r1 _ (wm_8 (wm_4 (wm_2 (wm_1 wm_h))))), wm_n⟩⟩⟩⟩
  · decide +kernel
set_option maxRecDepth 20000 in
theorem ggX1_measureSpelled_X3_reciprocal : GoodIn wsX1_measureSpelled wsX3_reciprocal := by
  refine goodIn_sub ?_ gd_X3_reciprocal
  unfold wsX3_reciprocal
  refine wm_c ⟨(wk_X1_measureSpelled_X1_measureSpelled_r4 _ (wm_2 wm_h)), ?_⟩
  refine wm_c ⟨(wk_X1_measureSpelled_X1_measureSpelled_r4 _ (wm_2 (wm_1 wm_h))), ?_⟩
  refine wm_c ⟨(wk_X1_measureSpelled_X1_measureSpelled_r4 _ (wm_4 wm_h)), ?_⟩
  refine wm_c ⟨(wk_X1_measureSpelled_X1_measureSpelled_r3 _ (wm_2 wm_h)), ?_⟩
  refine wm_c ⟨(wk_X1_measureSpelled_X1_measureSpelled_r3 _ (wm_2 (wm_1 wm_h))), ?_⟩
  refine wm_c ⟨(wk_X1_measureSpelled_X1_measureSpelled_r3 _ (wm_4 wm_h)), ?_⟩
  refine wm_c ⟨(wk_X1_measureSpelled_X1_measureSpelled_r3 _ (wm_4 (wm_1 wm_h))), ?_⟩
  exact wm_n
set_option maxRecDepth 20000 in
theorem gX1_measureSpelled_X3_reciprocal : GoodIn wsX1_measureSpelled (va_wsS RX1 116 yX3_reciprocal wsX3_reciprocal) := goodIn_app (goodIn_of _ (by decide +kernel)) ggX1_measureSpelled_X3_reciprocal
set_option maxRecDepth 20000 in
theorem ggX1_measureSpelled_X0_scale : GoodIn wsX1_measureSpelled wsX0_scale := by
  refine goodIn_sub ?_ gd_X0_scale
  unfold wsX0_scale
  refine wm_c ⟨(wk_X1_measureSpelled_X1_measureSpelled_r4 _ (wm_8 wm_h)), ?_⟩
  refine wm_c ⟨(wk_X1_measureSpelled_X1_measureSpelled_r3 _ (wm_1 wm_h)), ?_⟩
  refine wm_c ⟨(wk_X1_measureSpelled_X1_measureSpelled_r3 _ (wm_2 wm_h)), ?_⟩
  refine wm_c ⟨(wk_X1_measureSpelled_X1_measureSpelled_r3 _ (wm_2 (wm_1 wm_h))), ?_⟩
  refine wm_c ⟨(wk_X1_measureSpelled_X1_measureSpelled_r3 _ (wm_4 wm_h)), ?_⟩
  refine wm_c ⟨(wk_X1_measureSpelled_X1_measureSpelled_r3 _ (wm_4 (wm_1 wm_h))), ?_⟩
  exact wm_n
set_option maxRecDepth 20000 in
theorem gX1_measureSpelled_X0_scale : GoodIn wsX1_measureSpelled (wsV RX1 121 RX0 yX0_scale wsX0_scale) := by
  refine goodIn_app (goodIn_sub ?_ ?_) ggX1_measureSpelled_X0_scale
  · exact wm_c ⟨(wk_X1_measureSpelled_X1_measureSpelled_r4 _ (wm_4 (wm_1 wm_h))), wm_c ⟨(wk_X1_measureSpelled_X1_measureSpelled_r4 _ (wm_4 (wm_2 wm_h))), wm_c ⟨(wk_X1_measureSpelled_X1_measureSpelled_r4 _ (wm_4 (wm_2 (wm_1 wm_h)))), wm_c ⟨(wk_X1_measureSpelled_X1_measureSpelled_r1 _ (wm_4 (wm_2 wm_h))), wm_n⟩⟩⟩⟩
  · decide +kernel
theorem dX1_measureSpelled_0 : decode cX1_measureSpelled 0 = .ok (.aload_n 0, 1) := by decide +kernel
theorem dX1_measureSpelled_1 : decode cX1_measureSpelled 1 = .ok (.getfield 25, 3) := by decide +kernel
theorem dX1_measureSpelled_4 : decode cX1_measureSpelled 4 = .ok (.iload_n 3, 1) := by decide +kernel
theorem dX1_measureSpelled_5 : decode cX1_measureSpelled 5 = .ok (.aaload, 1) := by decide +kernel
theorem dX1_measureSpelled_6 : decode cX1_measureSpelled 6 = .ok (.astore 4, 2) := by decide +kernel
theorem dX1_measureSpelled_8 : decode cX1_measureSpelled 8 = .ok (.iload_n 1, 1) := by decide +kernel
theorem dX1_measureSpelled_9 : decode cX1_measureSpelled 9 = .ok (.iload_n 2, 1) := by decide +kernel
theorem dX1_measureSpelled_10 : decode cX1_measureSpelled 10 = .ok (.if_icmp .ge 14, 3) := by decide +kernel
theorem dX1_measureSpelled_13 : decode cX1_measureSpelled 13 = .ok (.iload_n 3, 1) := by decide +kernel
theorem dX1_measureSpelled_14 : decode cX1_measureSpelled 14 = .ok (.iconst 1, 1) := by decide +kernel
theorem dX1_measureSpelled_15 : decode cX1_measureSpelled 15 = .ok (.iadd, 1) := by decide +kernel
theorem dX1_measureSpelled_16 : decode cX1_measureSpelled 16 = .ok (.aload_n 0, 1) := by decide +kernel
theorem dX1_measureSpelled_17 : decode cX1_measureSpelled 17 = .ok (.getfield 25, 3) := by decide +kernel
theorem dX1_measureSpelled_20 : decode cX1_measureSpelled 20 = .ok (.arraylength, 1) := by decide +kernel
theorem dX1_measureSpelled_21 : decode cX1_measureSpelled 21 = .ok (.if_icmp .lt 14, 3) := by decide +kernel
theorem dX1_measureSpelled_24 : decode cX1_measureSpelled 24 = .ok (.aload_n 0, 1) := by decide +kernel
theorem dX1_measureSpelled_25 : decode cX1_measureSpelled 25 = .ok (.getfield 15, 3) := by decide +kernel
theorem dX1_measureSpelled_28 : decode cX1_measureSpelled 28 = .ok (.aload 4, 2) := by decide +kernel
theorem dX1_measureSpelled_30 : decode cX1_measureSpelled 30 = .ok (.iconst 1, 1) := by decide +kernel
theorem dX1_measureSpelled_31 : decode cX1_measureSpelled 31 = .ok (.invokevirtual 102, 3) := by decide +kernel
theorem dX1_measureSpelled_34 : decode cX1_measureSpelled 34 = .ok (.return_, 1) := by decide +kernel
theorem dX1_measureSpelled_35 : decode cX1_measureSpelled 35 = .ok (.aload_n 0, 1) := by decide +kernel
theorem dX1_measureSpelled_36 : decode cX1_measureSpelled 36 = .ok (.iload_n 1, 1) := by decide +kernel
theorem dX1_measureSpelled_37 : decode cX1_measureSpelled 37 = .ok (.iload_n 2, 1) := by decide +kernel
theorem dX1_measureSpelled_38 : decode cX1_measureSpelled 38 = .ok (.invokevirtual 73, 3) := by decide +kernel
theorem dX1_measureSpelled_41 : decode cX1_measureSpelled 41 = .ok (.istore 5, 2) := by decide +kernel
theorem dX1_measureSpelled_43 : decode cX1_measureSpelled 43 = .ok (.iload 5, 2) := by decide +kernel
theorem dX1_measureSpelled_45 : decode cX1_measureSpelled 45 = .ok (.iload_n 2, 1) := by decide +kernel
theorem dX1_measureSpelled_46 : decode cX1_measureSpelled 46 = .ok (.iload_n 1, 1) := by decide +kernel
theorem dX1_measureSpelled_47 : decode cX1_measureSpelled 47 = .ok (.isub, 1) := by decide +kernel
theorem dX1_measureSpelled_48 : decode cX1_measureSpelled 48 = .ok (.if_icmp .ne 29, 3) := by decide +kernel
theorem dX1_measureSpelled_51 : decode cX1_measureSpelled 51 = .ok (.aload_n 0, 1) := by decide +kernel
theorem dX1_measureSpelled_52 : decode cX1_measureSpelled 52 = .ok (.iload_n 1, 1) := by decide +kernel
theorem dX1_measureSpelled_53 : decode cX1_measureSpelled 53 = .ok (.iconst 1, 1) := by decide +kernel
theorem dX1_measureSpelled_54 : decode cX1_measureSpelled 54 = .ok (.iadd, 1) := by decide +kernel
theorem dX1_measureSpelled_55 : decode cX1_measureSpelled 55 = .ok (.iload_n 2, 1) := by decide +kernel
theorem dX1_measureSpelled_56 : decode cX1_measureSpelled 56 = .ok (.iload_n 3, 1) := by decide +kernel
theorem dX1_measureSpelled_57 : decode cX1_measureSpelled 57 = .ok (.invokevirtual 98, 3) := by decide +kernel
theorem dX1_measureSpelled_60 : decode cX1_measureSpelled 60 = .ok (.aload_n 0, 1) := by decide +kernel
theorem dX1_measureSpelled_61 : decode cX1_measureSpelled 61 = .ok (.aload 4, 2) := by decide +kernel
theorem dX1_measureSpelled_63 : decode cX1_measureSpelled 63 = .ok (.aload_n 0, 1) := by decide +kernel
theorem dX1_measureSpelled_64 : decode cX1_measureSpelled 64 = .ok (.getfield 32, 3) := by decide +kernel
theorem dX1_measureSpelled_67 : decode cX1_measureSpelled 67 = .ok (.iload_n 1, 1) := by decide +kernel
theorem dX1_measureSpelled_68 : decode cX1_measureSpelled 68 = .ok (.iaload, 1) := by decide +kernel
theorem dX1_measureSpelled_69 : decode cX1_measureSpelled 69 = .ok (.iload 5, 2) := by decide +kernel
theorem dX1_measureSpelled_71 : decode cX1_measureSpelled 71 = .ok (.iconst 1, 1) := by decide +kernel
theorem dX1_measureSpelled_72 : decode cX1_measureSpelled 72 = .ok (.isub, 1) := by decide +kernel
theorem dX1_measureSpelled_73 : decode cX1_measureSpelled 73 = .ok (.invokevirtual 105, 3) := by decide +kernel
theorem dX1_measureSpelled_76 : decode cX1_measureSpelled 76 = .ok (.return_, 1) := by decide +kernel
theorem dX1_measureSpelled_77 : decode cX1_measureSpelled 77 = .ok (.aload_n 0, 1) := by decide +kernel
theorem dX1_measureSpelled_78 : decode cX1_measureSpelled 78 = .ok (.iload_n 1, 1) := by decide +kernel
theorem dX1_measureSpelled_79 : decode cX1_measureSpelled 79 = .ok (.iload 5, 2) := by decide +kernel
theorem dX1_measureSpelled_81 : decode cX1_measureSpelled 81 = .ok (.iadd, 1) := by decide +kernel
theorem dX1_measureSpelled_82 : decode cX1_measureSpelled 82 = .ok (.iload_n 2, 1) := by decide +kernel
theorem dX1_measureSpelled_83 : decode cX1_measureSpelled 83 = .ok (.iload_n 3, 1) := by decide +kernel
theorem dX1_measureSpelled_84 : decode cX1_measureSpelled 84 = .ok (.invokevirtual 98, 3) := by decide +kernel
theorem dX1_measureSpelled_87 : decode cX1_measureSpelled 87 = .ok (.aload_n 0, 1) := by decide +kernel
theorem dX1_measureSpelled_88 : decode cX1_measureSpelled 88 = .ok (.iload_n 1, 1) := by decide +kernel
theorem dX1_measureSpelled_89 : decode cX1_measureSpelled 89 = .ok (.iload_n 1, 1) := by decide +kernel
theorem dX1_measureSpelled_90 : decode cX1_measureSpelled 90 = .ok (.iload 5, 2) := by decide +kernel
theorem dX1_measureSpelled_92 : decode cX1_measureSpelled 92 = .ok (.iadd, 1) := by decide +kernel
theorem dX1_measureSpelled_93 : decode cX1_measureSpelled 93 = .ok (.iload_n 3, 1) := by decide +kernel
theorem dX1_measureSpelled_94 : decode cX1_measureSpelled 94 = .ok (.iconst 1, 1) := by decide +kernel
theorem dX1_measureSpelled_95 : decode cX1_measureSpelled 95 = .ok (.iadd, 1) := by decide +kernel
theorem dX1_measureSpelled_96 : decode cX1_measureSpelled 96 = .ok (.invokevirtual 98, 3) := by decide +kernel
theorem dX1_measureSpelled_99 : decode cX1_measureSpelled 99 = .ok (.aload_n 0, 1) := by decide +kernel
theorem dX1_measureSpelled_100 : decode cX1_measureSpelled 100 = .ok (.getfield 15, 3) := by decide +kernel
theorem dX1_measureSpelled_103 : decode cX1_measureSpelled 103 = .ok (.aload 4, 2) := by decide +kernel
theorem dX1_measureSpelled_105 : decode cX1_measureSpelled 105 = .ok (.aload 4, 2) := by decide +kernel
theorem dX1_measureSpelled_107 : decode cX1_measureSpelled 107 = .ok (.aload_n 0, 1) := by decide +kernel
theorem dX1_measureSpelled_108 : decode cX1_measureSpelled 108 = .ok (.getfield 25, 3) := by decide +kernel
theorem dX1_measureSpelled_111 : decode cX1_measureSpelled 111 = .ok (.iload_n 3, 1) := by decide +kernel
theorem dX1_measureSpelled_112 : decode cX1_measureSpelled 112 = .ok (.iconst 1, 1) := by decide +kernel
theorem dX1_measureSpelled_113 : decode cX1_measureSpelled 113 = .ok (.iadd, 1) := by decide +kernel
theorem dX1_measureSpelled_114 : decode cX1_measureSpelled 114 = .ok (.aaload, 1) := by decide +kernel
theorem dX1_measureSpelled_115 : decode cX1_measureSpelled 115 = .ok (.invokevirtual 109, 3) := by decide +kernel
theorem dX1_measureSpelled_118 : decode cX1_measureSpelled 118 = .ok (.aload_n 0, 1) := by decide +kernel
theorem dX1_measureSpelled_119 : decode cX1_measureSpelled 119 = .ok (.getfield 15, 3) := by decide +kernel
theorem dX1_measureSpelled_122 : decode cX1_measureSpelled 122 = .ok (.aload 4, 2) := by decide +kernel
theorem dX1_measureSpelled_124 : decode cX1_measureSpelled 124 = .ok (.aload_n 0, 1) := by decide +kernel
theorem dX1_measureSpelled_125 : decode cX1_measureSpelled 125 = .ok (.iload_n 1, 1) := by decide +kernel
theorem dX1_measureSpelled_126 : decode cX1_measureSpelled 126 = .ok (.iload_n 2, 1) := by decide +kernel
theorem dX1_measureSpelled_127 : decode cX1_measureSpelled 127 = .ok (.iload 5, 2) := by decide +kernel
theorem dX1_measureSpelled_129 : decode cX1_measureSpelled 129 = .ok (.invokevirtual 112, 3) := by decide +kernel
theorem dX1_measureSpelled_132 : decode cX1_measureSpelled 132 = .ok (.invokestatic 116, 3) := by decide +kernel
theorem dX1_measureSpelled_135 : decode cX1_measureSpelled 135 = .ok (.invokevirtual 121, 3) := by decide +kernel
theorem dX1_measureSpelled_138 : decode cX1_measureSpelled 138 = .ok (.return_, 1) := by decide +kernel
set_option maxRecDepth 20000 in
theorem ggX1_setAhead_J7_fill_fda19 : GoodIn wsX1_setAhead wsJ7_fill_fda19 := by
  refine goodIn_sub ?_ gd_J7_fill_fda19
  unfold wsJ7_fill_fda19
  refine wm_c ⟨(wm_1 (wm_l (wm_l (wm_8 (wm_2 wm_h))))), ?_⟩
  refine wm_c ⟨(wm_1 (wm_l (wm_l (wm_8 (wm_2 (wm_1 wm_h)))))), ?_⟩
  refine wm_c ⟨(wm_1 (wm_l (wm_l (wm_8 (wm_4 wm_h))))), ?_⟩
  refine wm_c ⟨(wm_1 (wm_l (wm_l (wm_8 (wm_1 wm_h))))), ?_⟩
  refine wm_c ⟨(wm_1 (wm_l (wm_l (wm_8 (wm_4 (wm_1 wm_h)))))), ?_⟩
  exact wm_n
set_option maxRecDepth 20000 in
theorem gX1_setAhead_J7_fill_fda19 : GoodIn wsX1_setAhead (va_wsS RX1 130 yJ7_fill_fda19 wsJ7_fill_fda19) := goodIn_app (goodIn_of _ (by decide +kernel)) ggX1_setAhead_J7_fill_fda19
theorem dX1_setAhead_0 : decode cX1_setAhead 0 = .ok (.aload_n 0, 1) := by decide +kernel
theorem dX1_setAhead_1 : decode cX1_setAhead 1 = .ok (.getfield 9, 3) := by decide +kernel
theorem dX1_setAhead_4 : decode cX1_setAhead 4 = .ok (.getfield 81, 3) := by decide +kernel
theorem dX1_setAhead_7 : decode cX1_setAhead 7 = .ok (.iload_n 3, 1) := by decide +kernel
theorem dX1_setAhead_8 : decode cX1_setAhead 8 = .ok (.iaload, 1) := by decide +kernel
theorem dX1_setAhead_9 : decode cX1_setAhead 9 = .ok (.istore 4, 2) := by decide +kernel
theorem dX1_setAhead_11 : decode cX1_setAhead 11 = .ok (.aload_n 0, 1) := by decide +kernel
theorem dX1_setAhead_12 : decode cX1_setAhead 12 = .ok (.getfield 9, 3) := by decide +kernel
theorem dX1_setAhead_15 : decode cX1_setAhead 15 = .ok (.getfield 66, 3) := by decide +kernel
theorem dX1_setAhead_18 : decode cX1_setAhead 18 = .ok (.iload_n 3, 1) := by decide +kernel
theorem dX1_setAhead_19 : decode cX1_setAhead 19 = .ok (.iaload, 1) := by decide +kernel
theorem dX1_setAhead_20 : decode cX1_setAhead 20 = .ok (.istore 5, 2) := by decide +kernel
theorem dX1_setAhead_22 : decode cX1_setAhead 22 = .ok (.aload_n 0, 1) := by decide +kernel
theorem dX1_setAhead_23 : decode cX1_setAhead 23 = .ok (.getfield 9, 3) := by decide +kernel
theorem dX1_setAhead_26 : decode cX1_setAhead 26 = .ok (.getfield 66, 3) := by decide +kernel
theorem dX1_setAhead_29 : decode cX1_setAhead 29 = .ok (.iload_n 3, 1) := by decide +kernel
theorem dX1_setAhead_30 : decode cX1_setAhead 30 = .ok (.iconst 1, 1) := by decide +kernel
theorem dX1_setAhead_31 : decode cX1_setAhead 31 = .ok (.iadd, 1) := by decide +kernel
theorem dX1_setAhead_32 : decode cX1_setAhead 32 = .ok (.iaload, 1) := by decide +kernel
theorem dX1_setAhead_33 : decode cX1_setAhead 33 = .ok (.iload_n 2, 1) := by decide +kernel
theorem dX1_setAhead_34 : decode cX1_setAhead 34 = .ok (.iload 4, 2) := by decide +kernel
theorem dX1_setAhead_36 : decode cX1_setAhead 36 = .ok (.imul, 1) := by decide +kernel
theorem dX1_setAhead_37 : decode cX1_setAhead 37 = .ok (.iadd, 1) := by decide +kernel
theorem dX1_setAhead_38 : decode cX1_setAhead 38 = .ok (.istore 6, 2) := by decide +kernel
theorem dX1_setAhead_40 : decode cX1_setAhead 40 = .ok (.aload_n 1, 1) := by decide +kernel
theorem dX1_setAhead_41 : decode cX1_setAhead 41 = .ok (.iload 5, 2) := by decide +kernel
theorem dX1_setAhead_43 : decode cX1_setAhead 43 = .ok (.aload_n 1, 1) := by decide +kernel
theorem dX1_setAhead_44 : decode cX1_setAhead 44 = .ok (.iload 6, 2) := by decide +kernel
theorem dX1_setAhead_46 : decode cX1_setAhead 46 = .ok (.iload 4, 2) := by decide +kernel
theorem dX1_setAhead_48 : decode cX1_setAhead 48 = .ok (.invokestatic 124, 3) := by decide +kernel
theorem dX1_setAhead_51 : decode cX1_setAhead 51 = .ok (.aload_n 1, 1) := by decide +kernel
theorem dX1_setAhead_52 : decode cX1_setAhead 52 = .ok (.iload 5, 2) := by decide +kernel
theorem dX1_setAhead_54 : decode cX1_setAhead 54 = .ok (.iload 5, 2) := by decide +kernel
theorem dX1_setAhead_56 : decode cX1_setAhead 56 = .ok (.iload 4, 2) := by decide +kernel
theorem dX1_setAhead_58 : decode cX1_setAhead 58 = .ok (.iadd, 1) := by decide +kernel
theorem dX1_setAhead_59 : decode cX1_setAhead 59 = .ok (.iconst 0, 1) := by decide +kernel
theorem dX1_setAhead_60 : decode cX1_setAhead 60 = .ok (.invokestatic 130, 3) := by decide +kernel
theorem dX1_setAhead_63 : decode cX1_setAhead 63 = .ok (.return_, 1) := by decide +kernel
set_option maxRecDepth 20000 in
theorem ggX1_shareInBracket_X6_lengthOf : GoodIn wsX1_shareInBracket wsX6_lengthOf := by
  refine goodIn_sub ?_ gd_X6_lengthOf
  unfold wsX6_lengthOf
  refine wm_c ⟨(wk_X1_shareInBracket_X1_shareInBracket_r1 _ (wm_8 wm_h)), ?_⟩
  refine wm_a ⟨?_, ?_⟩
  · refine wm_c ⟨(wk_X1_shareInBracket_X1_shareInBracket_r1 _ (wm_8 (wm_1 wm_h))), ?_⟩
    refine wm_c ⟨(wk_X1_shareInBracket_X1_shareInBracket_r1 _ (wm_8 (wm_2 wm_h))), ?_⟩
    exact wm_n
  · exact wk_X1_shareInBracket_X60
set_option maxRecDepth 20000 in
theorem gX1_shareInBracket_X6_lengthOf : GoodIn wsX1_shareInBracket (wsV RX1 77 RX6 yX6_lengthOf wsX6_lengthOf) := by
  refine goodIn_app (goodIn_sub ?_ ?_) ggX1_shareInBracket_X6_lengthOf
  · exact wm_c ⟨(wk_X1_shareInBracket_X1_shareInBracket_r1 _ (wm_4 wm_h)), wm_c ⟨(wk_X1_shareInBracket_X1_shareInBracket_r1 _ (wm_4 (wm_1 wm_h))), wm_c ⟨(wk_X1_shareInBracket_X1_shareInBracket_r1 _ (wm_4 (wm_2 wm_h))), wm_c ⟨(wk_X1_shareInBracket_X1_shareInBracket_r1 _ (wm_4 (wm_2 (wm_1 wm_h)))), wm_n⟩⟩⟩⟩
  · decide +kernel
set_option maxRecDepth 20000 in
theorem ggX1_shareInBracket_X1_weave : GoodIn wsX1_shareInBracket wsX1_weave := by
  refine goodIn_sub ?_ gd_X1_weave
  unfold wsX1_weave
  refine wm_c ⟨(wk_X1_shareInBracket_X1_shareInBracket_r1 _ (wm_8 (wm_4 (wm_2 (wm_1 wm_h))))), ?_⟩
  refine wm_a ⟨?_, ?_⟩
  · refine wm_a ⟨?_, ?_⟩
    · refine wm_a ⟨?_, ?_⟩
      · unfold wsX1_weave_r1
        refine wm_c ⟨(wk_X1_shareInBracket_X1_shareInBracket_r1 _ (wm_2 (wm_1 wm_h))), ?_⟩
        refine wm_c ⟨(wk_X1_shareInBracket_X1_shareInBracket_r1 _ (wm_16 wm_h)), ?_⟩
        refine wm_c ⟨(wk_X1_shareInBracket_X1_shareInBracket_r1 _ (wm_16 (wm_1 wm_h))), ?_⟩
        refine wm_c ⟨(wk_X1_shareInBracket_X1_shareInBracket_r1 _ (wm_1 wm_h)), ?_⟩
        refine wm_c ⟨(wk_X1_shareInBracket_X1_shareInBracket_r1 _ (wm_2 wm_h)), ?_⟩
        refine wm_c ⟨(wk_X1_shareInBracket_X1_shareInBracket_r1 _ (wm_16 (wm_2 wm_h))), ?_⟩
        refine wm_c ⟨(wk_X1_shareInBracket_X1_shareInBracket_r1 _ (wm_16 (wm_2 (wm_1 wm_h)))), ?_⟩
        refine wm_c ⟨(wk_X1_shareInBracket_X1_shareInBracket_r1 _ (wm_16 (wm_4 wm_h))), ?_⟩
        refine wm_c ⟨(wk_X1_shareInBracket_X1_shareInBracket_r1 _ (wm_16 (wm_4 (wm_1 wm_h)))), ?_⟩
        refine wm_c ⟨(wk_X1_shareInBracket_X1_shareInBracket_r1 _ (wm_8 (wm_2 (wm_1 wm_h)))), ?_⟩
        refine wm_c ⟨(wk_X1_shareInBracket_X1_shareInBracket_r1 _ (wm_8 (wm_4 wm_h))), ?_⟩
        refine wm_c ⟨(wk_X1_shareInBracket_X1_shareInBracket_r1 _ (wm_8 (wm_4 (wm_1 wm_h)))), ?_⟩
        refine wm_c ⟨(wk_X1_shareInBracket_X1_shareInBracket_r1 _ (wm_8 (wm_4 (wm_2 wm_h)))), ?_⟩
        refine wm_c ⟨(wk_X1_shareInBracket_X1_shareInBracket_r1 _ (wm_16 (wm_4 (wm_2 wm_h)))), ?_⟩
        refine wm_c ⟨(wk_X1_shareInBracket_X1_shareInBracket_r1 _ (wm_16 (wm_4 (wm_2 (wm_1 wm_h))))), ?_⟩
        refine wm_c ⟨(wk_X1_shareInBracket_X1_shareInBracket_r2 _ wm_h), ?_⟩
        refine wm_c ⟨(wk_X1_shareInBracket_X1_shareInBracket_r2 _ (wm_1 wm_h)), ?_⟩
        refine wm_c ⟨(wk_X1_shareInBracket_X1_shareInBracket_r2 _ (wm_2 wm_h)), ?_⟩
        refine wm_c ⟨(wk_X1_shareInBracket_X1_shareInBracket_r2 _ (wm_2 (wm_1 wm_h))), ?_⟩
        refine wm_c ⟨(wk_X1_shareInBracket_X1_shareInBracket_r2 _ (wm_4 wm_h)), ?_⟩
        refine wm_c ⟨(wk_X1_shareInBracket_X1_shareInBracket_r2 _ (wm_4 (wm_1 wm_h))), ?_⟩
        refine wm_c ⟨(wk_X1_shareInBracket_X1_shareInBracket_r2 _ (wm_4 (wm_2 wm_h))), ?_⟩
        refine wm_c ⟨(wk_X1_shareInBracket_X1_shareInBracket_r2 _ (wm_4 (wm_2 (wm_1 wm_h)))), ?_⟩
        refine wm_c ⟨(wk_X1_shareInBracket_X1_shareInBracket_r2 _ (wm_8 wm_h)), ?_⟩
        exact wm_n
      · unfold wsX1_weave_r2
        refine wm_c ⟨(wk_X1_shareInBracket_X1_shareInBracket_r2 _ (wm_8 (wm_1 wm_h))), ?_⟩
        refine wm_c ⟨(wk_X1_shareInBracket_X1_shareInBracket_r2 _ (wm_8 (wm_2 wm_h))), ?_⟩
        refine wm_c ⟨(wk_X1_shareInBracket_X1_shareInBracket_r2 _ (wm_8 (wm_2 (wm_1 wm_h)))), ?_⟩
        refine wm_c ⟨(wk_X1_shareInBracket_X1_shareInBracket_r2 _ (wm_8 (wm_4 wm_h))), ?_⟩
        refine wm_c ⟨(wk_X1_shareInBracket_X1_shareInBracket_r2 _ (wm_8 (wm_4 (wm_1 wm_h)))), ?_⟩
        refine wm_c ⟨(wk_X1_shareInBracket_X1_shareInBracket_r2 _ (wm_8 (wm_4 (wm_2 wm_h)))), ?_⟩
        refine wm_c ⟨(wk_X1_shareInBracket_X1_shareInBracket_r2 _ (wm_8 (wm_4 (wm_2 (wm_1 wm_h))))), ?_⟩
        refine wm_c ⟨(wk_X1_shareInBracket_X1_shareInBracket_r2 _ (wm_16 wm_h)), ?_⟩
        refine wm_c ⟨(wk_X1_shareInBracket_X1_shareInBracket_r2 _ (wm_16 (wm_1 wm_h))), ?_⟩
        refine wm_c ⟨(wk_X1_shareInBracket_X1_shareInBracket_r2 _ (wm_16 (wm_2 wm_h))), ?_⟩
        refine wm_c ⟨(wk_X1_shareInBracket_X1_shareInBracket_r2 _ (wm_16 (wm_2 (wm_1 wm_h)))), ?_⟩
        refine wm_c ⟨(wk_X1_shareInBracket_X1_shareInBracket_r2 _ (wm_16 (wm_4 wm_h))), ?_⟩
        refine wm_c ⟨(wk_X1_shareInBracket_X1_shareInBracket_r2 _ (wm_16 (wm_4 (wm_1 wm_h)))), ?_⟩
        exact wm_n
    · exact wk_X1_shareInBracket_X10
  · exact wk_X1_shareInBracket_X00
set_option maxRecDepth 20000 in
theorem gX1_shareInBracket_X1_weave : GoodIn wsX1_shareInBracket (wsV RX1 91 RX1 yX1_weave wsX1_weave) := by
  refine goodIn_app (goodIn_sub ?_ ?_) ggX1_shareInBracket_X1_weave
  · exact wm_c ⟨(wk_X1_shareInBracket_X1_shareInBracket_r1 _ (wm_8 (wm_2 (wm_1 wm_h)))), wm_c ⟨(wk_X1_shareInBracket_X1_shareInBracket_r1 _ (wm_8 (wm_4 wm_h))), wm_c ⟨(wk_X1_shareInBracket_X1_shareInBracket_r1 _ (wm_8 (wm_4 (wm_1 wm_h)))), wm_c ⟨(wk_X1_shareInBracket_X1_shareInBracket_r1 _ (wm_8 (wm_4 (wm_2 wm_h)))), wm_n⟩⟩⟩⟩
  · decide +kernel
set_option maxRecDepth 20000 in
theorem ggX1_shareInBracket_X0_commute : GoodIn wsX1_shareInBracket wsX0_commute := by
  refine goodIn_sub ?_ gd_X0_commute
  unfold wsX0_commute
  refine wm_c ⟨(wk_X1_shareInBracket_X1_shareInBracket_r2 _ (wm_2 wm_h)), ?_⟩
  refine wm_a ⟨?_, ?_⟩
  · refine wm_c ⟨(wk_X1_shareInBracket_X1_shareInBracket_r2 _ (wm_2 (wm_1 wm_h))), ?_⟩
    refine wm_c ⟨(wk_X1_shareInBracket_X1_shareInBracket_r2 _ (wm_4 wm_h)), ?_⟩
    refine wm_c ⟨(wk_X1_shareInBracket_X1_shareInBracket_r2 _ (wm_4 (wm_1 wm_h))), ?_⟩
    refine wm_c ⟨(wk_X1_shareInBracket_X1_shareInBracket_r2 _ (wm_4 (wm_2 wm_h))), ?_⟩
    refine wm_c ⟨(wk_X1_shareInBracket_X1_shareInBracket_r1 _ (wm_16 (wm_2 (wm_1 wm_h)))), ?_⟩
    refine wm_c ⟨(wk_X1_shareInBracket_X1_shareInBracket_r1 _ (wm_16 (wm_4 wm_h))), ?_⟩
    refine wm_c ⟨(wk_X1_shareInBracket_X1_shareInBracket_r1 _ (wm_16 (wm_4 (wm_1 wm_h)))), ?_⟩
    refine wm_c ⟨(wk_X1_shareInBracket_X1_shareInBracket_r2 _ (wm_4 (wm_2 (wm_1 wm_h)))), ?_⟩
    refine wm_c ⟨(wk_X1_shareInBracket_X1_shareInBracket_r2 _ (wm_8 wm_h)), ?_⟩
    refine wm_c ⟨(wk_X1_shareInBracket_X1_shareInBracket_r2 _ (wm_8 (wm_1 wm_h))), ?_⟩
    refine wm_c ⟨(wk_X1_shareInBracket_X1_shareInBracket_r2 _ (wm_1 wm_h)), ?_⟩
    refine wm_c ⟨(wk_X1_shareInBracket_X1_shareInBracket_r2 _ (wm_8 (wm_2 wm_h))), ?_⟩
    refine wm_c ⟨(wk_X1_shareInBracket_X1_shareInBracket_r2 _ (wm_8 (wm_2 (wm_1 wm_h)))), ?_⟩
    refine wm_c ⟨(wk_X1_shareInBracket_X1_shareInBracket_r2 _ (wm_8 (wm_4 wm_h))), ?_⟩
    refine wm_c ⟨(wk_X1_shareInBracket_X1_shareInBracket_r2 _ (wm_8 (wm_4 (wm_1 wm_h)))), ?_⟩
    refine wm_c ⟨(wk_X1_shareInBracket_X1_shareInBracket_r2 _ (wm_8 (wm_4 (wm_2 wm_h)))), ?_⟩
    refine wm_c ⟨(wk_X1_shareInBracket_X1_shareInBracket_r2 _ (wm_8 (wm_4 (wm_2 (wm_1 wm_h))))), ?_⟩
    refine wm_c ⟨(wk_X1_shareInBracket_X1_shareInBracket_r2 _ (wm_16 wm_h)), ?_⟩
    refine wm_c ⟨(wk_X1_shareInBracket_X1_shareInBracket_r2 _ (wm_16 (wm_1 wm_h))), ?_⟩
    refine wm_c ⟨(wk_X1_shareInBracket_X1_shareInBracket_r2 _ (wm_16 (wm_2 wm_h))), ?_⟩
    refine wm_c ⟨(wk_X1_shareInBracket_X1_shareInBracket_r2 _ (wm_16 (wm_2 (wm_1 wm_h)))), ?_⟩
    refine wm_c ⟨(wk_X1_shareInBracket_X1_shareInBracket_r2 _ (wm_16 (wm_4 wm_h))), ?_⟩
    refine wm_c ⟨(wk_X1_shareInBracket_X1_shareInBracket_r2 _ (wm_16 (wm_4 (wm_1 wm_h)))), ?_⟩
    exact wm_n
  · exact wk_X1_shareInBracket_X00
set_option maxRecDepth 20000 in
theorem gX1_shareInBracket_X0_commute : GoodIn wsX1_shareInBracket (wsV RX1 94 RX0 yX0_commute wsX0_commute) := by
  refine goodIn_app (goodIn_sub ?_ ?_) ggX1_shareInBracket_X0_commute
  · exact wm_c ⟨(wk_X1_shareInBracket_X1_shareInBracket_r1 _ (wm_16 (wm_4 (wm_2 wm_h)))), wm_c ⟨(wk_X1_shareInBracket_X1_shareInBracket_r1 _ (wm_16 (wm_4 (wm_2 (wm_1 wm_h))))), wm_c ⟨(wk_X1_shareInBracket_X1_shareInBracket_r2 _ wm_h), wm_c ⟨(wk_X1_shareInBracket_X1_shareInBracket_r2 _ (wm_1 wm_h)), wm_n⟩⟩⟩⟩
  · decide +kernel
set_option maxRecDepth 20000 in
theorem ggX1_shareInBracket_X1_measure : GoodIn wsX1_shareInBracket wsX1_measure := by
  refine goodIn_sub ?_ gd_X1_measure
  unfold wsX1_measure
  refine wm_c ⟨(wk_X1_shareInBracket_X1_shareInBracket_r3 _ (wm_1 wm_h)), ?_⟩
  refine wm_a ⟨?_, ?_⟩
  · refine wm_a ⟨?_, ?_⟩
    · refine wm_a ⟨?_, ?_⟩
      · refine wm_a ⟨?_, ?_⟩
        · unfold wsX1_measure_r1
          refine wm_c ⟨(wk_X1_shareInBracket_X1_shareInBracket_r1 _ wm_h), ?_⟩
          refine wm_c ⟨(wk_X1_shareInBracket_X1_shareInBracket_r1 _ (wm_4 wm_h)), ?_⟩
          refine wm_c ⟨(wk_X1_shareInBracket_X1_shareInBracket_r1 _ (wm_4 (wm_1 wm_h))), ?_⟩
          refine wm_c ⟨(wk_X1_shareInBracket_X1_shareInBracket_r1 _ (wm_4 (wm_2 wm_h))), ?_⟩
          refine wm_c ⟨(wk_X1_shareInBracket_X1_shareInBracket_r1 _ (wm_4 (wm_2 (wm_1 wm_h)))), ?_⟩
          refine wm_c ⟨(wk_X1_shareInBracket_X1_shareInBracket_r1 _ (wm_8 wm_h)), ?_⟩
          refine wm_c ⟨(wk_X1_shareInBracket_X1_shareInBracket_r1 _ (wm_8 (wm_1 wm_h))), ?_⟩
          refine wm_c ⟨(wk_X1_shareInBracket_X1_shareInBracket_r1 _ (wm_8 (wm_2 wm_h))), ?_⟩
          refine wm_c ⟨(wk_X1_shareInBracket_X1_shareInBracket_r3 _ (wm_2 wm_h)), ?_⟩
          refine wm_c ⟨(wk_X1_shareInBracket_X1_shareInBracket_r3 _ (wm_2 (wm_1 wm_h))), ?_⟩
          refine wm_c ⟨(wk_X1_shareInBracket_X1_shareInBracket_r3 _ (wm_4 wm_h)), ?_⟩
          refine wm_c ⟨(wk_X1_shareInBracket_X1_shareInBracket_r1 _ (wm_8 (wm_4 (wm_2 wm_h)))), ?_⟩
          refine wm_c ⟨(wk_X1_shareInBracket_X1_shareInBracket_r3 _ (wm_4 (wm_1 wm_h))), ?_⟩
          refine wm_c ⟨(wk_X1_shareInBracket_X1_shareInBracket_r3 _ (wm_4 (wm_2 wm_h))), ?_⟩
          refine wm_c ⟨(wk_X1_shareInBracket_X1_shareInBracket_r3 _ (wm_4 (wm_2 (wm_1 wm_h)))), ?_⟩
          refine wm_c ⟨(wk_X1_shareInBracket_X1_shareInBracket_r3 _ (wm_8 wm_h)), ?_⟩
          refine wm_c ⟨(wk_X1_shareInBracket_X1_shareInBracket_r3 _ (wm_8 (wm_1 wm_h))), ?_⟩
          refine wm_c ⟨(wk_X1_shareInBracket_X1_shareInBracket_r3 _ (wm_8 (wm_2 wm_h))), ?_⟩
          refine wm_c ⟨(wk_X1_shareInBracket_X1_shareInBracket_r3 _ (wm_8 (wm_2 (wm_1 wm_h)))), ?_⟩
          refine wm_c ⟨(wk_X1_shareInBracket_X1_shareInBracket_r3 _ (wm_8 (wm_4 wm_h))), ?_⟩
          refine wm_c ⟨(wk_X1_shareInBracket_X1_shareInBracket_r1 _ (wm_2 (wm_1 wm_h))), ?_⟩
          refine wm_c ⟨(wk_X1_shareInBracket_X1_shareInBracket_r1 _ (wm_2 wm_h)), ?_⟩
          refine wm_c ⟨(wk_X1_shareInBracket_X1_shareInBracket_r3 _ (wm_8 (wm_4 (wm_1 wm_h)))), ?_⟩
          refine wm_c ⟨(wk_X1_shareInBracket_X1_shareInBracket_r3 _ (wm_8 (wm_4 (wm_2 wm_h)))), ?_⟩
          exact wm_n
        · refine wm_a ⟨?_, ?_⟩
          · unfold wsX1_measure_r2
            refine wm_c ⟨(wk_X1_shareInBracket_X1_shareInBracket_r3 _ (wm_8 (wm_4 (wm_2 (wm_1 wm_h))))), ?_⟩
            refine wm_c ⟨(wk_X1_shareInBracket_X1_shareInBracket_r2 _ (wm_1 wm_h)), ?_⟩
            refine wm_c ⟨(wk_X1_shareInBracket_X1_shareInBracket_r3 _ (wm_16 wm_h)), ?_⟩
            refine wm_c ⟨(wk_X1_shareInBracket_X1_shareInBracket_r2 _ (wm_4 (wm_2 wm_h))), ?_⟩
            refine wm_c ⟨(wk_X1_shareInBracket_X1_shareInBracket_r1 _ (wm_16 (wm_2 (wm_1 wm_h)))), ?_⟩
            refine wm_c ⟨(wk_X1_shareInBracket_X1_shareInBracket_r1 _ (wm_16 (wm_4 wm_h))), ?_⟩
            refine wm_c ⟨(wk_X1_shareInBracket_X1_shareInBracket_r1 _ (wm_16 (wm_4 (wm_1 wm_h)))), ?_⟩
            refine wm_c ⟨(wk_X1_shareInBracket_X1_shareInBracket_r3 _ (wm_16 (wm_1 wm_h))), ?_⟩
            refine wm_c ⟨(wk_X1_shareInBracket_X1_shareInBracket_r3 _ (wm_16 (wm_2 wm_h))), ?_⟩
            refine wm_c ⟨(wk_X1_shareInBracket_X1_shareInBracket_r3 _ (wm_16 (wm_2 (wm_1 wm_h)))), ?_⟩
            refine wm_c ⟨(wk_X1_shareInBracket_X1_shareInBracket_r3 _ (wm_16 (wm_4 wm_h))), ?_⟩
            refine wm_c ⟨(wk_X1_shareInBracket_X1_shareInBracket_r3 _ (wm_16 (wm_4 (wm_1 wm_h)))), ?_⟩
            refine wm_c ⟨(wk_X1_shareInBracket_X1_shareInBracket_r3 _ (wm_16 (wm_4 (wm_2 wm_h)))), ?_⟩
            refine wm_c ⟨(wk_X1_shareInBracket_X1_shareInBracket_r3 _ (wm_16 (wm_4 (wm_2 (wm_1 wm_h))))), ?_⟩
            refine wm_c ⟨(wk_X1_shareInBracket_X1_shareInBracket_r4 _ wm_h), ?_⟩
            refine wm_c ⟨(wk_X1_shareInBracket_X1_shareInBracket_r4 _ (wm_1 wm_h)), ?_⟩
            refine wm_c ⟨(wk_X1_shareInBracket_X1_shareInBracket_r4 _ (wm_2 wm_h)), ?_⟩
            refine wm_c ⟨(wk_X1_shareInBracket_X1_shareInBracket_r2 _ (wm_16 (wm_2 (wm_1 wm_h)))), ?_⟩
            refine wm_c ⟨(wk_X1_shareInBracket_X1_shareInBracket_r2 _ (wm_16 (wm_4 wm_h))), ?_⟩
            refine wm_c ⟨(wk_X1_shareInBracket_X1_shareInBracket_r2 _ (wm_16 (wm_4 (wm_1 wm_h)))), ?_⟩
            refine wm_c ⟨(wk_X1_shareInBracket_X1_shareInBracket_r4 _ (wm_2 (wm_1 wm_h))), ?_⟩
            refine wm_c ⟨(wk_X1_shareInBracket_X1_shareInBracket_r4 _ (wm_4 wm_h)), ?_⟩
            refine wm_c ⟨(wk_X1_shareInBracket_X1_shareInBracket_r4 _ (wm_4 (wm_1 wm_h))), ?_⟩
            refine wm_c ⟨(wk_X1_shareInBracket_X1_shareInBracket_r4 _ (wm_4 (wm_2 wm_h))), ?_⟩
            exact wm_n
          · refine wm_a ⟨?_, ?_⟩
            · unfold wsX1_measure_r3
              refine wm_c ⟨(wk_X1_shareInBracket_X1_shareInBracket_r4 _ (wm_4 (wm_2 (wm_1 wm_h)))), ?_⟩
              refine wm_c ⟨(wk_X1_shareInBracket_X1_shareInBracket_r4 _ (wm_8 wm_h)), ?_⟩
              refine wm_c ⟨(wk_X1_shareInBracket_X1_shareInBracket_r4 _ (wm_8 (wm_1 wm_h))), ?_⟩
              refine wm_c ⟨(wk_X1_shareInBracket_X1_shareInBracket_r4 _ (wm_8 (wm_2 wm_h))), ?_⟩
              refine wm_c ⟨(wk_X1_shareInBracket_X1_shareInBracket_r4 _ (wm_8 (wm_2 (wm_1 wm_h)))), ?_⟩
              refine wm_c ⟨(wk_X1_shareInBracket_X1_shareInBracket_r4 _ (wm_8 (wm_4 wm_h))), ?_⟩
              refine wm_c ⟨(wk_X1_shareInBracket_X1_shareInBracket_r2 _ (wm_2 (wm_1 wm_h))), ?_⟩
              refine wm_c ⟨(wk_X1_shareInBracket_X1_shareInBracket_r2 _ (wm_4 wm_h)), ?_⟩
              refine wm_c ⟨(wk_X1_shareInBracket_X1_shareInBracket_r2 _ (wm_8 (wm_2 (wm_1 wm_h)))), ?_⟩
              refine wm_c ⟨(wk_X1_shareInBracket_X1_shareInBracket_r2 _ (wm_8 (wm_4 wm_h))), ?_⟩
              refine wm_c ⟨(wk_X1_shareInBracket_X1_shareInBracket_r4 _ (wm_8 (wm_4 (wm_1 wm_h)))), ?_⟩
              refine wm_c ⟨(wk_X1_shareInBracket_X1_shareInBracket_r4 _ (wm_8 (wm_4 (wm_2 wm_h)))), ?_⟩
              refine wm_c ⟨(wk_X1_shareInBracket_X1_shareInBracket_r4 _ (wm_8 (wm_4 (wm_2 (wm_1 wm_h))))), ?_⟩
              refine wm_c ⟨(wk_X1_shareInBracket_X1_shareInBracket_r4 _ (wm_16 wm_h)), ?_⟩
              refine wm_c ⟨(wk_X1_shareInBracket_X1_shareInBracket_r4 _ (wm_16 (wm_1 wm_h))), ?_⟩
              refine wm_c ⟨(wk_X1_shareInBracket_X1_shareInBracket_r4 _ (wm_16 (wm_2 wm_h))), ?_⟩
              refine wm_c ⟨(wk_X1_shareInBracket_X1_shareInBracket_r4 _ (wm_16 (wm_2 (wm_1 wm_h)))), ?_⟩
              refine wm_c ⟨(wk_X1_shareInBracket_X1_shareInBracket_r4 _ (wm_16 (wm_4 wm_h))), ?_⟩
              refine wm_c ⟨(wk_X1_shareInBracket_X1_shareInBracket_r4 _ (wm_16 (wm_4 (wm_1 wm_h)))), ?_⟩
              refine wm_c ⟨(wk_X1_shareInBracket_X1_shareInBracket_r4 _ (wm_16 (wm_4 (wm_2 wm_h)))), ?_⟩
              refine wm_c ⟨(wk_X1_shareInBracket_X1_shareInBracket_r4 _ (wm_16 (wm_4 (wm_2 (wm_1 wm_h))))), ?_⟩
              refine wm_c ⟨(wk_X1_shareInBracket_X1_shareInBracket_r5 _ wm_h), ?_⟩
              refine wm_c ⟨(wk_X1_shareInBracket_X1_shareInBracket_r5 _ (wm_1 wm_h)), ?_⟩
              refine wm_c ⟨(wk_X1_shareInBracket_X1_shareInBracket_r5 _ (wm_2 wm_h)), ?_⟩
              exact wm_n
            · unfold wsX1_measure_r4
              refine wm_c ⟨(wk_X1_shareInBracket_X1_shareInBracket_r5 _ (wm_2 (wm_1 wm_h))), ?_⟩
              refine wm_c ⟨(wk_X1_shareInBracket_X1_shareInBracket_r5 _ (wm_4 wm_h)), ?_⟩
              refine wm_c ⟨(wk_X1_shareInBracket_X1_shareInBracket_r5 _ (wm_4 (wm_1 wm_h))), ?_⟩
              refine wm_c ⟨(wk_X1_shareInBracket_X1_shareInBracket_r5 _ (wm_4 (wm_2 wm_h))), ?_⟩
              refine wm_c ⟨(wk_X1_shareInBracket_X1_shareInBracket_r2 _ (wm_8 (wm_4 (wm_2 wm_h)))), ?_⟩
              refine wm_c ⟨(wk_X1_shareInBracket_X1_shareInBracket_r2 _ (wm_8 (wm_4 (wm_2 (wm_1 wm_h))))), ?_⟩
              refine wm_c ⟨(wk_X1_shareInBracket_X1_shareInBracket_r2 _ (wm_16 wm_h)), ?_⟩
              refine wm_c ⟨(wk_X1_shareInBracket_X1_shareInBracket_r2 _ (wm_16 (wm_1 wm_h))), ?_⟩
              refine wm_c ⟨(wk_X1_shareInBracket_X1_shareInBracket_r2 _ (wm_16 (wm_2 wm_h))), ?_⟩
              refine wm_c ⟨(wk_X1_shareInBracket_X1_shareInBracket_r5 _ (wm_4 (wm_2 (wm_1 wm_h)))), ?_⟩
              refine wm_c ⟨(wk_X1_shareInBracket_X1_shareInBracket_r5 _ (wm_8 wm_h)), ?_⟩
              refine wm_c ⟨(wk_X1_shareInBracket_X1_shareInBracket_r5 _ (wm_8 (wm_1 wm_h))), ?_⟩
              refine wm_c ⟨(wk_X1_shareInBracket_X1_shareInBracket_r5 _ (wm_8 (wm_2 wm_h))), ?_⟩
              refine wm_c ⟨(wk_X1_shareInBracket_X1_shareInBracket_r5 _ (wm_8 (wm_2 (wm_1 wm_h)))), ?_⟩
              refine wm_c ⟨(wk_X1_shareInBracket_X1_shareInBracket_r5 _ (wm_8 (wm_4 wm_h))), ?_⟩
              refine wm_c ⟨(wk_X1_shareInBracket_X1_shareInBracket_r5 _ (wm_8 (wm_4 (wm_1 wm_h)))), ?_⟩
              refine wm_c ⟨(wk_X1_shareInBracket_X1_shareInBracket_r5 _ (wm_8 (wm_4 (wm_2 wm_h)))), ?_⟩
              refine wm_c ⟨(wk_X1_shareInBracket_X1_shareInBracket_r5 _ (wm_8 (wm_4 (wm_2 (wm_1 wm_h))))), ?_⟩
              refine wm_c ⟨(wk_X1_shareInBracket_X1_shareInBracket_r5 _ (wm_16 wm_h)), ?_⟩
              refine wm_c ⟨(wk_X1_shareInBracket_X1_shareInBracket_r5 _ (wm_16 (wm_1 wm_h))), ?_⟩
              refine wm_c ⟨(wk_X1_shareInBracket_X1_shareInBracket_r5 _ (wm_16 (wm_2 wm_h))), ?_⟩
              refine wm_c ⟨(wk_X1_shareInBracket_X1_shareInBracket_r5 _ (wm_16 (wm_2 (wm_1 wm_h)))), ?_⟩
              exact wm_n
      · exact wk_X1_shareInBracket_X10
    · exact wk_X1_shareInBracket_X60
  · exact wk_X1_shareInBracket_X00
set_option maxRecDepth 20000 in
theorem gX1_shareInBracket_X1_measure : GoodIn wsX1_shareInBracket (wsV RX1 133 RX1 yX1_measure wsX1_measure) := by
  refine goodIn_app (goodIn_sub ?_ ?_) ggX1_shareInBracket_X1_measure
  · exact wm_c ⟨(wk_X1_shareInBracket_X1_shareInBracket_r2 _ (wm_16 (wm_4 (wm_2 wm_h)))), wm_c ⟨(wk_X1_shareInBracket_X1_shareInBracket_r2 _ (wm_16 (wm_4 (wm_2 (wm_1 wm_h))))), wm_c ⟨(wk_X1_shareInBracket_X1_shareInBracket_r3 _ wm_h), wm_c ⟨(wk_X1_shareInBracket_X1_shareInBracket_r1 _ (wm_8 (wm_4 (wm_2 wm_h)))), wm_n⟩⟩⟩⟩
  · decide +kernel
set_option maxRecDepth 20000 in
theorem ggX1_shareInBracket_X0_inner : GoodIn wsX1_shareInBracket wsX0_inner := by
  refine goodIn_sub ?_ gd_X0_inner
  unfold wsX0_inner
  refine wm_c ⟨(wk_X1_shareInBracket_X1_shareInBracket_r5 _ (wm_16 (wm_4 (wm_2 (wm_1 wm_h))))), ?_⟩
  refine wm_c ⟨(wk_X1_shareInBracket_X1_shareInBracket_r6 _ wm_h), ?_⟩
  refine wm_c ⟨(wk_X1_shareInBracket_X1_shareInBracket_r6 _ (wm_1 wm_h)), ?_⟩
  refine wm_c ⟨(wk_X1_shareInBracket_X1_shareInBracket_r4 _ (wm_16 (wm_2 (wm_1 wm_h)))), ?_⟩
  refine wm_c ⟨(wk_X1_shareInBracket_X1_shareInBracket_r6 _ (wm_2 wm_h)), ?_⟩
  refine wm_c ⟨(wk_X1_shareInBracket_X1_shareInBracket_r4 _ (wm_16 (wm_4 (wm_1 wm_h)))), ?_⟩
  exact wm_n
set_option maxRecDepth 20000 in
theorem gX1_shareInBracket_X0_inner : GoodIn wsX1_shareInBracket (wsV RX1 136 RX0 yX0_inner wsX0_inner) := by
  refine goodIn_app (goodIn_sub ?_ ?_) ggX1_shareInBracket_X0_inner
  · exact wm_c ⟨(wk_X1_shareInBracket_X1_shareInBracket_r5 _ (wm_16 (wm_4 wm_h))), wm_c ⟨(wk_X1_shareInBracket_X1_shareInBracket_r5 _ (wm_16 (wm_4 (wm_1 wm_h)))), wm_c ⟨(wk_X1_shareInBracket_X1_shareInBracket_r5 _ (wm_16 (wm_4 (wm_2 wm_h)))), wm_c ⟨(wk_X1_shareInBracket_X1_shareInBracket_r2 _ (wm_1 wm_h)), wm_n⟩⟩⟩⟩
  · decide +kernel
theorem dX1_shareInBracket_0 : decode cX1_shareInBracket 0 = .ok (.aload_n 0, 1) := by decide +kernel
theorem dX1_shareInBracket_1 : decode cX1_shareInBracket 1 = .ok (.getfield 9, 3) := by decide +kernel
theorem dX1_shareInBracket_4 : decode cX1_shareInBracket 4 = .ok (.aload_n 0, 1) := by decide +kernel
theorem dX1_shareInBracket_5 : decode cX1_shareInBracket 5 = .ok (.getfield 53, 3) := by decide +kernel
theorem dX1_shareInBracket_8 : decode cX1_shareInBracket 8 = .ok (.iload_n 1, 1) := by decide +kernel
theorem dX1_shareInBracket_9 : decode cX1_shareInBracket 9 = .ok (.iaload, 1) := by decide +kernel
theorem dX1_shareInBracket_10 : decode cX1_shareInBracket 10 = .ok (.invokevirtual 77, 3) := by decide +kernel
theorem dX1_shareInBracket_13 : decode cX1_shareInBracket 13 = .ok (.aload_n 0, 1) := by decide +kernel
theorem dX1_shareInBracket_14 : decode cX1_shareInBracket 14 = .ok (.getfield 9, 3) := by decide +kernel
theorem dX1_shareInBracket_17 : decode cX1_shareInBracket 17 = .ok (.aload_n 0, 1) := by decide +kernel
theorem dX1_shareInBracket_18 : decode cX1_shareInBracket 18 = .ok (.getfield 53, 3) := by decide +kernel
theorem dX1_shareInBracket_21 : decode cX1_shareInBracket 21 = .ok (.iload_n 2, 1) := by decide +kernel
theorem dX1_shareInBracket_22 : decode cX1_shareInBracket 22 = .ok (.iaload, 1) := by decide +kernel
theorem dX1_shareInBracket_23 : decode cX1_shareInBracket 23 = .ok (.invokevirtual 77, 3) := by decide +kernel
theorem dX1_shareInBracket_26 : decode cX1_shareInBracket 26 = .ok (.iadd, 1) := by decide +kernel
theorem dX1_shareInBracket_27 : decode cX1_shareInBracket 27 = .ok (.istore 4, 2) := by decide +kernel
theorem dX1_shareInBracket_29 : decode cX1_shareInBracket 29 = .ok (.iload 4, 2) := by decide +kernel
theorem dX1_shareInBracket_31 : decode cX1_shareInBracket 31 = .ok (.aload_n 0, 1) := by decide +kernel
theorem dX1_shareInBracket_32 : decode cX1_shareInBracket 32 = .ok (.getfield 9, 3) := by decide +kernel
theorem dX1_shareInBracket_35 : decode cX1_shareInBracket 35 = .ok (.aload_n 0, 1) := by decide +kernel
theorem dX1_shareInBracket_36 : decode cX1_shareInBracket 36 = .ok (.getfield 53, 3) := by decide +kernel
theorem dX1_shareInBracket_39 : decode cX1_shareInBracket 39 = .ok (.iload_n 3, 1) := by decide +kernel
theorem dX1_shareInBracket_40 : decode cX1_shareInBracket 40 = .ok (.iaload, 1) := by decide +kernel
theorem dX1_shareInBracket_41 : decode cX1_shareInBracket 41 = .ok (.invokevirtual 77, 3) := by decide +kernel
theorem dX1_shareInBracket_44 : decode cX1_shareInBracket 44 = .ok (.if_icmp .eq 5, 3) := by decide +kernel
theorem dX1_shareInBracket_47 : decode cX1_shareInBracket 47 = .ok (.iconst 0, 1) := by decide +kernel
theorem dX1_shareInBracket_48 : decode cX1_shareInBracket 48 = .ok (.ireturn, 1) := by decide +kernel
theorem dX1_shareInBracket_49 : decode cX1_shareInBracket 49 = .ok (.aload_n 0, 1) := by decide +kernel
theorem dX1_shareInBracket_50 : decode cX1_shareInBracket 50 = .ok (.iload_n 1, 1) := by decide +kernel
theorem dX1_shareInBracket_51 : decode cX1_shareInBracket 51 = .ok (.iconst 0, 1) := by decide +kernel
theorem dX1_shareInBracket_52 : decode cX1_shareInBracket 52 = .ok (.invokevirtual 91, 3) := by decide +kernel
theorem dX1_shareInBracket_55 : decode cX1_shareInBracket 55 = .ok (.aload_n 0, 1) := by decide +kernel
theorem dX1_shareInBracket_56 : decode cX1_shareInBracket 56 = .ok (.iload_n 2, 1) := by decide +kernel
theorem dX1_shareInBracket_57 : decode cX1_shareInBracket 57 = .ok (.iconst 1, 1) := by decide +kernel
theorem dX1_shareInBracket_58 : decode cX1_shareInBracket 58 = .ok (.invokevirtual 91, 3) := by decide +kernel
theorem dX1_shareInBracket_61 : decode cX1_shareInBracket 61 = .ok (.aload_n 0, 1) := by decide +kernel
theorem dX1_shareInBracket_62 : decode cX1_shareInBracket 62 = .ok (.getfield 15, 3) := by decide +kernel
theorem dX1_shareInBracket_65 : decode cX1_shareInBracket 65 = .ok (.aload_n 0, 1) := by decide +kernel
theorem dX1_shareInBracket_66 : decode cX1_shareInBracket 66 = .ok (.getfield 25, 3) := by decide +kernel
theorem dX1_shareInBracket_69 : decode cX1_shareInBracket 69 = .ok (.iconst 0, 1) := by decide +kernel
theorem dX1_shareInBracket_70 : decode cX1_shareInBracket 70 = .ok (.aaload, 1) := by decide +kernel
theorem dX1_shareInBracket_71 : decode cX1_shareInBracket 71 = .ok (.aload_n 0, 1) := by decide +kernel
theorem dX1_shareInBracket_72 : decode cX1_shareInBracket 72 = .ok (.getfield 25, 3) := by decide +kernel
theorem dX1_shareInBracket_75 : decode cX1_shareInBracket 75 = .ok (.iconst 0, 1) := by decide +kernel
theorem dX1_shareInBracket_76 : decode cX1_shareInBracket 76 = .ok (.aaload, 1) := by decide +kernel
theorem dX1_shareInBracket_77 : decode cX1_shareInBracket 77 = .ok (.aload_n 0, 1) := by decide +kernel
theorem dX1_shareInBracket_78 : decode cX1_shareInBracket 78 = .ok (.getfield 25, 3) := by decide +kernel
theorem dX1_shareInBracket_81 : decode cX1_shareInBracket 81 = .ok (.iconst 1, 1) := by decide +kernel
theorem dX1_shareInBracket_82 : decode cX1_shareInBracket 82 = .ok (.aaload, 1) := by decide +kernel
theorem dX1_shareInBracket_83 : decode cX1_shareInBracket 83 = .ok (.invokevirtual 94, 3) := by decide +kernel
theorem dX1_shareInBracket_86 : decode cX1_shareInBracket 86 = .ok (.aload_n 0, 1) := by decide +kernel
theorem dX1_shareInBracket_87 : decode cX1_shareInBracket 87 = .ok (.aload_n 0, 1) := by decide +kernel
theorem dX1_shareInBracket_88 : decode cX1_shareInBracket 88 = .ok (.getfield 53, 3) := by decide +kernel
theorem dX1_shareInBracket_91 : decode cX1_shareInBracket 91 = .ok (.iload_n 3, 1) := by decide +kernel
theorem dX1_shareInBracket_92 : decode cX1_shareInBracket 92 = .ok (.iaload, 1) := by decide +kernel
theorem dX1_shareInBracket_93 : decode cX1_shareInBracket 93 = .ok (.iconst 1, 1) := by decide +kernel
theorem dX1_shareInBracket_94 : decode cX1_shareInBracket 94 = .ok (.invokevirtual 133, 3) := by decide +kernel
theorem dX1_shareInBracket_97 : decode cX1_shareInBracket 97 = .ok (.aload_n 0, 1) := by decide +kernel
theorem dX1_shareInBracket_98 : decode cX1_shareInBracket 98 = .ok (.getfield 15, 3) := by decide +kernel
theorem dX1_shareInBracket_101 : decode cX1_shareInBracket 101 = .ok (.aload_n 0, 1) := by decide +kernel
theorem dX1_shareInBracket_102 : decode cX1_shareInBracket 102 = .ok (.getfield 25, 3) := by decide +kernel
theorem dX1_shareInBracket_105 : decode cX1_shareInBracket 105 = .ok (.iconst 0, 1) := by decide +kernel
theorem dX1_shareInBracket_106 : decode cX1_shareInBracket 106 = .ok (.aaload, 1) := by decide +kernel
theorem dX1_shareInBracket_107 : decode cX1_shareInBracket 107 = .ok (.aload_n 0, 1) := by decide +kernel
theorem dX1_shareInBracket_108 : decode cX1_shareInBracket 108 = .ok (.getfield 25, 3) := by decide +kernel
theorem dX1_shareInBracket_111 : decode cX1_shareInBracket 111 = .ok (.iconst 1, 1) := by decide +kernel
theorem dX1_shareInBracket_112 : decode cX1_shareInBracket 112 = .ok (.aaload, 1) := by decide +kernel
theorem dX1_shareInBracket_113 : decode cX1_shareInBracket 113 = .ok (.invokevirtual 136, 3) := by decide +kernel
theorem dX1_shareInBracket_116 : decode cX1_shareInBracket 116 = .ok (.ireturn, 1) := by decide +kernel
set_option maxRecDepth 20000 in
theorem ggX1_written_X1_writtenLength : GoodIn wsX1_written wsX1_writtenLength := by
  refine goodIn_sub ?_ gd_X1_writtenLength
  unfold wsX1_writtenLength
  refine wm_c ⟨(wm_1 (wm_l (wm_l (wm_8 wm_h)))), ?_⟩
  refine wm_a ⟨?_, ?_⟩
  · refine wm_a ⟨?_, ?_⟩
    · refine wm_c ⟨(wm_1 (wm_l (wm_l wm_h))), ?_⟩
      refine wm_c ⟨(wm_1 (wm_l (wm_l (wm_8 (wm_1 wm_h))))), ?_⟩
      refine wm_c ⟨(wm_1 (wm_l (wm_l (wm_8 (wm_2 wm_h))))), ?_⟩
      refine wm_c ⟨(wm_1 (wm_l (wm_l (wm_8 (wm_2 (wm_1 wm_h)))))), ?_⟩
      refine wm_c ⟨(wm_1 (wm_l (wm_l (wm_8 (wm_4 wm_h))))), ?_⟩
      refine wm_c ⟨(wm_1 (wm_l (wm_l (wm_8 (wm_4 (wm_1 wm_h)))))), ?_⟩
      refine wm_c ⟨(wm_1 (wm_l (wm_l (wm_8 (wm_4 (wm_2 wm_h)))))), ?_⟩
      refine wm_c ⟨(wm_1 (wm_l (wm_l (wm_8 (wm_4 (wm_2 (wm_1 wm_h))))))), ?_⟩
      refine wm_c ⟨(wm_1 (wm_l (wm_l (wm_16 wm_h)))), ?_⟩
      exact wm_n
    · exact wk_X1_written_X10
  · exact wk_X1_written_X60
set_option maxRecDepth 20000 in
theorem gX1_written_X1_writtenLength : GoodIn wsX1_written (wsV RX1 139 RX1 yX1_writtenLength wsX1_writtenLength) := by
  refine goodIn_app (goodIn_sub ?_ ?_) ggX1_written_X1_writtenLength
  · exact wm_c ⟨(wm_1 (wm_l (wm_l (wm_4 wm_h)))), wm_c ⟨(wm_1 (wm_l (wm_l (wm_4 (wm_1 wm_h))))), wm_c ⟨(wm_1 (wm_l (wm_l (wm_4 (wm_2 wm_h))))), wm_c ⟨(wm_1 (wm_l (wm_l (wm_4 (wm_2 (wm_1 wm_h)))))), wm_n⟩⟩⟩⟩
  · decide +kernel
theorem dX1_written_0 : decode cX1_written 0 = .ok (.iload_n 1, 1) := by decide +kernel
theorem dX1_written_1 : decode cX1_written 1 = .ok (.istore_n 3, 1) := by decide +kernel
theorem dX1_written_2 : decode cX1_written 2 = .ok (.iload_n 2, 1) := by decide +kernel
theorem dX1_written_3 : decode cX1_written 3 = .ok (.istore 4, 2) := by decide +kernel
theorem dX1_written_5 : decode cX1_written 5 = .ok (.iconst 0, 1) := by decide +kernel
theorem dX1_written_6 : decode cX1_written 6 = .ok (.istore 5, 2) := by decide +kernel
theorem dX1_written_8 : decode cX1_written 8 = .ok (.iload 5, 2) := by decide +kernel
theorem dX1_written_10 : decode cX1_written 10 = .ok (.aload_n 0, 1) := by decide +kernel
theorem dX1_written_11 : decode cX1_written 11 = .ok (.getfield 9, 3) := by decide +kernel
theorem dX1_written_14 : decode cX1_written 14 = .ok (.getfield 26, 3) := by decide +kernel
theorem dX1_written_17 : decode cX1_written 17 = .ok (.if_icmp .gt 140, 3) := by decide +kernel
theorem dX1_written_20 : decode cX1_written 20 = .ok (.aload_n 0, 1) := by decide +kernel
theorem dX1_written_21 : decode cX1_written 21 = .ok (.iload_n 3, 1) := by decide +kernel
theorem dX1_written_22 : decode cX1_written 22 = .ok (.invokevirtual 139, 3) := by decide +kernel
theorem dX1_written_25 : decode cX1_written 25 = .ok (.istore 6, 2) := by decide +kernel
theorem dX1_written_27 : decode cX1_written 27 = .ok (.iload 4, 2) := by decide +kernel
theorem dX1_written_29 : decode cX1_written 29 = .ok (.ifCond .lt 10, 3) := by decide +kernel
theorem dX1_written_32 : decode cX1_written 32 = .ok (.iload 4, 2) := by decide +kernel
theorem dX1_written_34 : decode cX1_written 34 = .ok (.iload 6, 2) := by decide +kernel
theorem dX1_written_36 : decode cX1_written 36 = .ok (.if_icmp .lt 5, 3) := by decide +kernel
theorem dX1_written_39 : decode cX1_written 39 = .ok (.iconst (-1), 1) := by decide +kernel
theorem dX1_written_40 : decode cX1_written 40 = .ok (.ireturn, 1) := by decide +kernel
theorem dX1_written_41 : decode cX1_written 41 = .ok (.aload_n 0, 1) := by decide +kernel
theorem dX1_written_42 : decode cX1_written 42 = .ok (.getfield 56, 3) := by decide +kernel
theorem dX1_written_45 : decode cX1_written 45 = .ok (.iload_n 3, 1) := by decide +kernel
theorem dX1_written_46 : decode cX1_written 46 = .ok (.iaload, 1) := by decide +kernel
theorem dX1_written_47 : decode cX1_written 47 = .ok (.ifCond .lt 12, 3) := by decide +kernel
theorem dX1_written_50 : decode cX1_written 50 = .ok (.aload_n 0, 1) := by decide +kernel
theorem dX1_written_51 : decode cX1_written 51 = .ok (.getfield 59, 3) := by decide +kernel
theorem dX1_written_54 : decode cX1_written 54 = .ok (.iload_n 3, 1) := by decide +kernel
theorem dX1_written_55 : decode cX1_written 55 = .ok (.iaload, 1) := by decide +kernel
theorem dX1_written_56 : decode cX1_written 56 = .ok (.ifCond .ge 8, 3) := by decide +kernel
theorem dX1_written_59 : decode cX1_written 59 = .ok (.bipush 97, 2) := by decide +kernel
theorem dX1_written_61 : decode cX1_written 61 = .ok (.iload_n 3, 1) := by decide +kernel
theorem dX1_written_62 : decode cX1_written 62 = .ok (.iadd, 1) := by decide +kernel
theorem dX1_written_63 : decode cX1_written 63 = .ok (.ireturn, 1) := by decide +kernel
theorem dX1_written_64 : decode cX1_written 64 = .ok (.iconst 1, 1) := by decide +kernel
theorem dX1_written_65 : decode cX1_written 65 = .ok (.aload_n 0, 1) := by decide +kernel
theorem dX1_written_66 : decode cX1_written 66 = .ok (.aload_n 0, 1) := by decide +kernel
theorem dX1_written_67 : decode cX1_written 67 = .ok (.getfield 56, 3) := by decide +kernel
theorem dX1_written_70 : decode cX1_written 70 = .ok (.iload_n 3, 1) := by decide +kernel
theorem dX1_written_71 : decode cX1_written 71 = .ok (.iaload, 1) := by decide +kernel
theorem dX1_written_72 : decode cX1_written 72 = .ok (.invokevirtual 139, 3) := by decide +kernel
theorem dX1_written_75 : decode cX1_written 75 = .ok (.iadd, 1) := by decide +kernel
theorem dX1_written_76 : decode cX1_written 76 = .ok (.istore 7, 2) := by decide +kernel
theorem dX1_written_78 : decode cX1_written 78 = .ok (.iload 4, 2) := by decide +kernel
theorem dX1_written_80 : decode cX1_written 80 = .ok (.ifCond .ne 6, 3) := by decide +kernel
theorem dX1_written_83 : decode cX1_written 83 = .ok (.bipush 91, 2) := by decide +kernel
theorem dX1_written_85 : decode cX1_written 85 = .ok (.ireturn, 1) := by decide +kernel
theorem dX1_written_86 : decode cX1_written 86 = .ok (.iload 4, 2) := by decide +kernel
theorem dX1_written_88 : decode cX1_written 88 = .ok (.iload 7, 2) := by decide +kernel
theorem dX1_written_90 : decode cX1_written 90 = .ok (.if_icmp .ne 6, 3) := by decide +kernel
theorem dX1_written_93 : decode cX1_written 93 = .ok (.bipush 44, 2) := by decide +kernel
theorem dX1_written_95 : decode cX1_written 95 = .ok (.ireturn, 1) := by decide +kernel
theorem dX1_written_96 : decode cX1_written 96 = .ok (.iload 4, 2) := by decide +kernel
theorem dX1_written_98 : decode cX1_written 98 = .ok (.iload 6, 2) := by decide +kernel
theorem dX1_written_100 : decode cX1_written 100 = .ok (.iconst 1, 1) := by decide +kernel
theorem dX1_written_101 : decode cX1_written 101 = .ok (.isub, 1) := by decide +kernel
theorem dX1_written_102 : decode cX1_written 102 = .ok (.if_icmp .ne 6, 3) := by decide +kernel
theorem dX1_written_105 : decode cX1_written 105 = .ok (.bipush 93, 2) := by decide +kernel
theorem dX1_written_107 : decode cX1_written 107 = .ok (.ireturn, 1) := by decide +kernel
theorem dX1_written_108 : decode cX1_written 108 = .ok (.iload 4, 2) := by decide +kernel
theorem dX1_written_110 : decode cX1_written 110 = .ok (.iload 7, 2) := by decide +kernel
theorem dX1_written_112 : decode cX1_written 112 = .ok (.if_icmp .ge 12, 3) := by decide +kernel
theorem dX1_written_115 : decode cX1_written 115 = .ok (.aload_n 0, 1) := by decide +kernel
theorem dX1_written_116 : decode cX1_written 116 = .ok (.getfield 56, 3) := by decide +kernel
theorem dX1_written_119 : decode cX1_written 119 = .ok (.iload_n 3, 1) := by decide +kernel
theorem dX1_written_120 : decode cX1_written 120 = .ok (.iaload, 1) := by decide +kernel
theorem dX1_written_121 : decode cX1_written 121 = .ok (.goto 9, 3) := by decide +kernel
theorem dX1_written_124 : decode cX1_written 124 = .ok (.aload_n 0, 1) := by decide +kernel
theorem dX1_written_125 : decode cX1_written 125 = .ok (.getfield 59, 3) := by decide +kernel
theorem dX1_written_128 : decode cX1_written 128 = .ok (.iload_n 3, 1) := by decide +kernel
theorem dX1_written_129 : decode cX1_written 129 = .ok (.iaload, 1) := by decide +kernel
theorem dX1_written_130 : decode cX1_written 130 = .ok (.istore_n 3, 1) := by decide +kernel
theorem dX1_written_131 : decode cX1_written 131 = .ok (.iload 4, 2) := by decide +kernel
theorem dX1_written_133 : decode cX1_written 133 = .ok (.iload 4, 2) := by decide +kernel
theorem dX1_written_135 : decode cX1_written 135 = .ok (.iload 7, 2) := by decide +kernel
theorem dX1_written_137 : decode cX1_written 137 = .ok (.if_icmp .ge 7, 3) := by decide +kernel
theorem dX1_written_140 : decode cX1_written 140 = .ok (.iconst 1, 1) := by decide +kernel
theorem dX1_written_141 : decode cX1_written 141 = .ok (.goto 7, 3) := by decide +kernel
theorem dX1_written_144 : decode cX1_written 144 = .ok (.iload 7, 2) := by decide +kernel
theorem dX1_written_146 : decode cX1_written 146 = .ok (.iconst 1, 1) := by decide +kernel
theorem dX1_written_147 : decode cX1_written 147 = .ok (.iadd, 1) := by decide +kernel
theorem dX1_written_148 : decode cX1_written 148 = .ok (.isub, 1) := by decide +kernel
theorem dX1_written_149 : decode cX1_written 149 = .ok (.istore 4, 2) := by decide +kernel
theorem dX1_written_151 : decode cX1_written 151 = .ok (.iinc 5 1, 3) := by decide +kernel
theorem dX1_written_154 : decode cX1_written 154 = .ok (.goto (-146), 3) := by decide +kernel
theorem dX1_written_157 : decode cX1_written 157 = .ok (.iconst (-1), 1) := by decide +kernel
theorem dX1_written_158 : decode cX1_written 158 = .ok (.ireturn, 1) := by decide +kernel
set_option maxRecDepth 20000 in
theorem ggX1_writtenLength_X6_lengthOf : GoodIn wsX1_writtenLength wsX6_lengthOf := by
  refine goodIn_sub ?_ gd_X6_lengthOf
  unfold wsX6_lengthOf
  refine wm_c ⟨(wm_1 (wm_l (wm_l (wm_4 (wm_2 wm_h))))), ?_⟩
  refine wm_a ⟨?_, ?_⟩
  · refine wm_c ⟨(wm_1 (wm_l (wm_l (wm_4 (wm_2 (wm_1 wm_h)))))), ?_⟩
    refine wm_c ⟨(wm_1 (wm_l (wm_l (wm_8 wm_h)))), ?_⟩
    exact wm_n
  · exact wk_X1_writtenLength_X60
set_option maxRecDepth 20000 in
theorem gX1_writtenLength_X6_lengthOf : GoodIn wsX1_writtenLength (wsV RX1 77 RX6 yX6_lengthOf wsX6_lengthOf) := by
  refine goodIn_app (goodIn_sub ?_ ?_) ggX1_writtenLength_X6_lengthOf
  · exact wm_c ⟨(wm_1 (wm_l (wm_l (wm_2 wm_h)))), wm_c ⟨(wm_1 (wm_l (wm_l (wm_2 (wm_1 wm_h))))), wm_c ⟨(wm_1 (wm_l (wm_l (wm_4 wm_h)))), wm_c ⟨(wm_1 (wm_l (wm_l (wm_4 (wm_1 wm_h))))), wm_n⟩⟩⟩⟩
  · decide +kernel
theorem dX1_writtenLength_0 : decode cX1_writtenLength 0 = .ok (.iconst 4, 1) := by decide +kernel
theorem dX1_writtenLength_1 : decode cX1_writtenLength 1 = .ok (.aload_n 0, 1) := by decide +kernel
theorem dX1_writtenLength_2 : decode cX1_writtenLength 2 = .ok (.getfield 9, 3) := by decide +kernel
theorem dX1_writtenLength_5 : decode cX1_writtenLength 5 = .ok (.aload_n 0, 1) := by decide +kernel
theorem dX1_writtenLength_6 : decode cX1_writtenLength 6 = .ok (.getfield 53, 3) := by decide +kernel
theorem dX1_writtenLength_9 : decode cX1_writtenLength 9 = .ok (.iload_n 1, 1) := by decide +kernel
theorem dX1_writtenLength_10 : decode cX1_writtenLength 10 = .ok (.iaload, 1) := by decide +kernel
theorem dX1_writtenLength_11 : decode cX1_writtenLength 11 = .ok (.invokevirtual 77, 3) := by decide +kernel
theorem dX1_writtenLength_14 : decode cX1_writtenLength 14 = .ok (.imul, 1) := by decide +kernel
theorem dX1_writtenLength_15 : decode cX1_writtenLength 15 = .ok (.iconst 3, 1) := by decide +kernel
theorem dX1_writtenLength_16 : decode cX1_writtenLength 16 = .ok (.isub, 1) := by decide +kernel
theorem dX1_writtenLength_17 : decode cX1_writtenLength 17 = .ok (.ireturn, 1) := by decide +kernel
set_option maxRecDepth 20000 in
theorem ggX2_init_X1_ofLength : GoodIn wsX2_init wsX1_ofLength := by
  refine goodIn_sub ?_ gd_X1_ofLength
  unfold wsX1_ofLength
  refine wm_c ⟨(wk_X2_init_X2_init_r1 _ (wm_16 (wm_2 wm_h))), ?_⟩
  refine wm_a ⟨?_, ?_⟩
  · refine wm_c ⟨(wk_X2_init_X2_init_r1 _ (wm_16 (wm_2 (wm_1 wm_h)))), ?_⟩
    exact wm_n
  · exact wk_X2_init_X10
set_option maxRecDepth 20000 in
theorem gX2_init_X1_ofLength : GoodIn wsX2_init (wsV RX2 36 RX1 yX1_ofLength wsX1_ofLength) := by
  refine goodIn_app (goodIn_sub ?_ ?_) ggX2_init_X1_ofLength
  · exact wm_c ⟨(wk_X2_init_X2_init_r1 _ (wm_8 (wm_4 (wm_2 wm_h)))), wm_c ⟨(wk_X2_init_X2_init_r1 _ (wm_8 (wm_4 (wm_2 (wm_1 wm_h))))), wm_c ⟨(wk_X2_init_X2_init_r1 _ (wm_16 wm_h)), wm_c ⟨(wk_X2_init_X2_init_r1 _ (wm_16 (wm_1 wm_h))), wm_n⟩⟩⟩⟩
  · decide +kernel
set_option maxRecDepth 20000 in
theorem ggX2_init_X1_all : GoodIn wsX2_init wsX1_all := by
  refine goodIn_sub ?_ gd_X1_all
  unfold wsX1_all
  refine wm_c ⟨(wk_X2_init_X2_init_r1 _ (wm_16 (wm_4 (wm_2 (wm_1 wm_h))))), ?_⟩
  refine wm_a ⟨?_, ?_⟩
  · refine wm_a ⟨?_, ?_⟩
    · refine wm_c ⟨(wk_X2_init_X2_init_r1 _ (wm_16 (wm_2 (wm_1 wm_h)))), ?_⟩
      refine wm_c ⟨(wk_X2_init_X2_init_r2 _ wm_h), ?_⟩
      refine wm_c ⟨(wk_X2_init_X2_init_r2 _ (wm_1 wm_h)), ?_⟩
      exact wm_n
    · exact wk_X2_init_X10
  · exact wk_X2_init_X60
set_option maxRecDepth 20000 in
theorem gX2_init_X1_all : GoodIn wsX2_init (wsV RX2 45 RX1 yX1_all wsX1_all) := by
  refine goodIn_app (goodIn_sub ?_ ?_) ggX2_init_X1_all
  · exact wm_c ⟨(wk_X2_init_X2_init_r1 _ (wm_16 (wm_4 wm_h))), wm_c ⟨(wk_X2_init_X2_init_r1 _ (wm_16 (wm_4 (wm_1 wm_h)))), wm_c ⟨(wk_X2_init_X2_init_r1 _ (wm_16 (wm_4 (wm_2 wm_h)))), wm_c ⟨(wk_X2_init_X2_init_r1 _ (wm_16 (wm_1 wm_h))), wm_n⟩⟩⟩⟩
  · decide +kernel
theorem dX2_init_0 : decode cX2_init 0 = .ok (.aload_n 0, 1) := by decide +kernel
theorem dX2_init_1 : decode cX2_init 1 = .ok (.invokespecial 1, 3) := by decide +kernel
theorem dX2_init_4 : decode cX2_init 4 = .ok (.aload_n 0, 1) := by decide +kernel
theorem dX2_init_5 : decode cX2_init 5 = .ok (.aload_n 1, 1) := by decide +kernel
theorem dX2_init_6 : decode cX2_init 6 = .ok (.putfield 7, 3) := by decide +kernel
theorem dX2_init_9 : decode cX2_init 9 = .ok (.aload_n 0, 1) := by decide +kernel
theorem dX2_init_10 : decode cX2_init 10 = .ok (.aload_n 2, 1) := by decide +kernel
theorem dX2_init_11 : decode cX2_init 11 = .ok (.putfield 13, 3) := by decide +kernel
theorem dX2_init_14 : decode cX2_init 14 = .ok (.aload_n 0, 1) := by decide +kernel
theorem dX2_init_15 : decode cX2_init 15 = .ok (.aload_n 1, 1) := by decide +kernel
theorem dX2_init_16 : decode cX2_init 16 = .ok (.getfield 17, 3) := by decide +kernel
theorem dX2_init_19 : decode cX2_init 19 = .ok (.iconst 1, 1) := by decide +kernel
theorem dX2_init_20 : decode cX2_init 20 = .ok (.iadd, 1) := by decide +kernel
theorem dX2_init_21 : decode cX2_init 21 = .ok (.newarray .int, 2) := by decide +kernel
theorem dX2_init_23 : decode cX2_init 23 = .ok (.putfield 23, 3) := by decide +kernel
theorem dX2_init_26 : decode cX2_init 26 = .ok (.aload_n 0, 1) := by decide +kernel
theorem dX2_init_27 : decode cX2_init 27 = .ok (.aload_n 1, 1) := by decide +kernel
theorem dX2_init_28 : decode cX2_init 28 = .ok (.getfield 17, 3) := by decide +kernel
theorem dX2_init_31 : decode cX2_init 31 = .ok (.iconst 1, 1) := by decide +kernel
theorem dX2_init_32 : decode cX2_init 32 = .ok (.iadd, 1) := by decide +kernel
theorem dX2_init_33 : decode cX2_init 33 = .ok (.newarray .int, 2) := by decide +kernel
theorem dX2_init_35 : decode cX2_init 35 = .ok (.putfield 27, 3) := by decide +kernel
theorem dX2_init_38 : decode cX2_init 38 = .ok (.aload_n 0, 1) := by decide +kernel
theorem dX2_init_39 : decode cX2_init 39 = .ok (.aload_n 1, 1) := by decide +kernel
theorem dX2_init_40 : decode cX2_init 40 = .ok (.getfield 17, 3) := by decide +kernel
theorem dX2_init_43 : decode cX2_init 43 = .ok (.iconst 2, 1) := by decide +kernel
theorem dX2_init_44 : decode cX2_init 44 = .ok (.iadd, 1) := by decide +kernel
theorem dX2_init_45 : decode cX2_init 45 = .ok (.newarray .int, 2) := by decide +kernel
theorem dX2_init_47 : decode cX2_init 47 = .ok (.putfield 30, 3) := by decide +kernel
theorem dX2_init_50 : decode cX2_init 50 = .ok (.aload_n 0, 1) := by decide +kernel
theorem dX2_init_51 : decode cX2_init 51 = .ok (.aload_n 1, 1) := by decide +kernel
theorem dX2_init_52 : decode cX2_init 52 = .ok (.getfield 17, 3) := by decide +kernel
theorem dX2_init_55 : decode cX2_init 55 = .ok (.iconst 2, 1) := by decide +kernel
theorem dX2_init_56 : decode cX2_init 56 = .ok (.iadd, 1) := by decide +kernel
theorem dX2_init_57 : decode cX2_init 57 = .ok (.newarray .int, 2) := by decide +kernel
theorem dX2_init_59 : decode cX2_init 59 = .ok (.putfield 33, 3) := by decide +kernel
theorem dX2_init_62 : decode cX2_init 62 = .ok (.iconst 1, 1) := by decide +kernel
theorem dX2_init_63 : decode cX2_init 63 = .ok (.istore_n 3, 1) := by decide +kernel
theorem dX2_init_64 : decode cX2_init 64 = .ok (.iload_n 3, 1) := by decide +kernel
theorem dX2_init_65 : decode cX2_init 65 = .ok (.aload_n 1, 1) := by decide +kernel
theorem dX2_init_66 : decode cX2_init 66 = .ok (.getfield 17, 3) := by decide +kernel
theorem dX2_init_69 : decode cX2_init 69 = .ok (.if_icmp .gt 56, 3) := by decide +kernel
theorem dX2_init_72 : decode cX2_init 72 = .ok (.aload_n 0, 1) := by decide +kernel
theorem dX2_init_73 : decode cX2_init 73 = .ok (.getfield 30, 3) := by decide +kernel
theorem dX2_init_76 : decode cX2_init 76 = .ok (.iload_n 3, 1) := by decide +kernel
theorem dX2_init_77 : decode cX2_init 77 = .ok (.iconst 1, 1) := by decide +kernel
theorem dX2_init_78 : decode cX2_init 78 = .ok (.iadd, 1) := by decide +kernel
theorem dX2_init_79 : decode cX2_init 79 = .ok (.aload_n 0, 1) := by decide +kernel
theorem dX2_init_80 : decode cX2_init 80 = .ok (.getfield 30, 3) := by decide +kernel
theorem dX2_init_83 : decode cX2_init 83 = .ok (.iload_n 3, 1) := by decide +kernel
theorem dX2_init_84 : decode cX2_init 84 = .ok (.iaload, 1) := by decide +kernel
theorem dX2_init_85 : decode cX2_init 85 = .ok (.aload_n 2, 1) := by decide +kernel
theorem dX2_init_86 : decode cX2_init 86 = .ok (.iload_n 3, 1) := by decide +kernel
theorem dX2_init_87 : decode cX2_init 87 = .ok (.invokevirtual 36, 3) := by decide +kernel
theorem dX2_init_90 : decode cX2_init 90 = .ok (.aload_n 1, 1) := by decide +kernel
theorem dX2_init_91 : decode cX2_init 91 = .ok (.getfield 42, 3) := by decide +kernel
theorem dX2_init_94 : decode cX2_init 94 = .ok (.iload_n 3, 1) := by decide +kernel
theorem dX2_init_95 : decode cX2_init 95 = .ok (.iaload, 1) := by decide +kernel
theorem dX2_init_96 : decode cX2_init 96 = .ok (.imul, 1) := by decide +kernel
theorem dX2_init_97 : decode cX2_init 97 = .ok (.iadd, 1) := by decide +kernel
theorem dX2_init_98 : decode cX2_init 98 = .ok (.iastore, 1) := by decide +kernel
theorem dX2_init_99 : decode cX2_init 99 = .ok (.aload_n 0, 1) := by decide +kernel
theorem dX2_init_100 : decode cX2_init 100 = .ok (.getfield 33, 3) := by decide +kernel
theorem dX2_init_103 : decode cX2_init 103 = .ok (.iload_n 3, 1) := by decide +kernel
theorem dX2_init_104 : decode cX2_init 104 = .ok (.iconst 1, 1) := by decide +kernel
theorem dX2_init_105 : decode cX2_init 105 = .ok (.iadd, 1) := by decide +kernel
theorem dX2_init_106 : decode cX2_init 106 = .ok (.aload_n 0, 1) := by decide +kernel
theorem dX2_init_107 : decode cX2_init 107 = .ok (.getfield 33, 3) := by decide +kernel
theorem dX2_init_110 : decode cX2_init 110 = .ok (.iload_n 3, 1) := by decide +kernel
theorem dX2_init_111 : decode cX2_init 111 = .ok (.iaload, 1) := by decide +kernel
theorem dX2_init_112 : decode cX2_init 112 = .ok (.aload_n 2, 1) := by decide +kernel
theorem dX2_init_113 : decode cX2_init 113 = .ok (.iload_n 3, 1) := by decide +kernel
theorem dX2_init_114 : decode cX2_init 114 = .ok (.invokevirtual 36, 3) := by decide +kernel
theorem dX2_init_117 : decode cX2_init 117 = .ok (.iadd, 1) := by decide +kernel
theorem dX2_init_118 : decode cX2_init 118 = .ok (.iastore, 1) := by decide +kernel
theorem dX2_init_119 : decode cX2_init 119 = .ok (.iinc 3 1, 3) := by decide +kernel
theorem dX2_init_122 : decode cX2_init 122 = .ok (.goto (-58), 3) := by decide +kernel
theorem dX2_init_125 : decode cX2_init 125 = .ok (.aload_n 0, 1) := by decide +kernel
theorem dX2_init_126 : decode cX2_init 126 = .ok (.aload_n 2, 1) := by decide +kernel
theorem dX2_init_127 : decode cX2_init 127 = .ok (.invokevirtual 45, 3) := by decide +kernel
theorem dX2_init_130 : decode cX2_init 130 = .ok (.newarray .int, 2) := by decide +kernel
theorem dX2_init_132 : decode cX2_init 132 = .ok (.putfield 49, 3) := by decide +kernel
theorem dX2_init_135 : decode cX2_init 135 = .ok (.aload_n 0, 1) := by decide +kernel
theorem dX2_init_136 : decode cX2_init 136 = .ok (.aload_n 1, 1) := by decide +kernel
theorem dX2_init_137 : decode cX2_init 137 = .ok (.getfield 42, 3) := by decide +kernel
theorem dX2_init_140 : decode cX2_init 140 = .ok (.aload_n 1, 1) := by decide +kernel
theorem dX2_init_141 : decode cX2_init 141 = .ok (.getfield 17, 3) := by decide +kernel
theorem dX2_init_144 : decode cX2_init 144 = .ok (.iaload, 1) := by decide +kernel
theorem dX2_init_145 : decode cX2_init 145 = .ok (.newarray .int, 2) := by decide +kernel
theorem dX2_init_147 : decode cX2_init 147 = .ok (.putfield 52, 3) := by decide +kernel
theorem dX2_init_150 : decode cX2_init 150 = .ok (.return_, 1) := by decide +kernel
set_option maxRecDepth 20000 in
theorem ggX2_enact_X2_settle : GoodIn wsX2_enact wsX2_settle := by
  refine goodIn_sub ?_ gd_X2_settle
  unfold wsX2_settle
  refine wm_c ⟨(wk_X2_enact_X2_enact_r1 _ (wm_16 (wm_4 wm_h))), ?_⟩
  refine wm_a ⟨?_, ?_⟩
  · refine wm_a ⟨?_, ?_⟩
    · refine wm_a ⟨?_, ?_⟩
      · refine wm_a ⟨?_, ?_⟩
        · unfold wsX2_settle_r1
          refine wm_c ⟨(wk_X2_enact_X2_enact_r1 _ (wm_4 (wm_1 wm_h))), ?_⟩
          refine wm_c ⟨(wk_X2_enact_X2_enact_r1 _ (wm_16 (wm_4 (wm_1 wm_h)))), ?_⟩
          refine wm_c ⟨(wk_X2_enact_X2_enact_r1 _ (wm_2 wm_h)), ?_⟩
          refine wm_c ⟨(wk_X2_enact_X2_enact_r1 _ (wm_8 (wm_4 (wm_1 wm_h)))), ?_⟩
          refine wm_c ⟨(wk_X2_enact_X2_enact_r1 _ (wm_8 (wm_4 wm_h))), ?_⟩
          refine wm_c ⟨(wk_X2_enact_X2_enact_r1 _ (wm_16 (wm_4 (wm_2 wm_h)))), ?_⟩
          refine wm_c ⟨(wk_X2_enact_X2_enact_r1 _ (wm_16 (wm_4 (wm_2 (wm_1 wm_h))))), ?_⟩
          refine wm_c ⟨(wk_X2_enact_X2_enact_r2 _ wm_h), ?_⟩
          refine wm_c ⟨(wk_X2_enact_X2_enact_r2 _ (wm_1 wm_h)), ?_⟩
          refine wm_c ⟨(wk_X2_enact_X2_enact_r2 _ (wm_2 wm_h)), ?_⟩
          refine wm_c ⟨(wk_X2_enact_X2_enact_r2 _ (wm_2 (wm_1 wm_h))), ?_⟩
          refine wm_c ⟨(wk_X2_enact_X2_enact_r2 _ (wm_4 wm_h)), ?_⟩
          refine wm_c ⟨(wk_X2_enact_X2_enact_r2 _ (wm_4 (wm_1 wm_h))), ?_⟩
          refine wm_c ⟨(wk_X2_enact_X2_enact_r2 _ (wm_4 (wm_2 wm_h))), ?_⟩
          refine wm_c ⟨(wk_X2_enact_X2_enact_r1 _ (wm_16 (wm_2 (wm_1 wm_h)))), ?_⟩
          refine wm_c ⟨(wk_X2_enact_X2_enact_r2 _ (wm_4 (wm_2 (wm_1 wm_h)))), ?_⟩
          refine wm_c ⟨(wk_X2_enact_X2_enact_r2 _ (wm_8 wm_h)), ?_⟩
          refine wm_c ⟨(wk_X2_enact_X2_enact_r2 _ (wm_8 (wm_1 wm_h))), ?_⟩
          refine wm_c ⟨(wk_X2_enact_X2_enact_r1 _ (wm_1 wm_h)), ?_⟩
          refine wm_c ⟨(wk_X2_enact_X2_enact_r1 _ wm_h), ?_⟩
          refine wm_c ⟨(wk_X2_enact_X2_enact_r2 _ (wm_8 (wm_2 wm_h))), ?_⟩
          refine wm_c ⟨(wk_X2_enact_X2_enact_r2 _ (wm_8 (wm_2 (wm_1 wm_h)))), ?_⟩
          refine wm_c ⟨(wk_X2_enact_X2_enact_r2 _ (wm_8 (wm_4 wm_h))), ?_⟩
          refine wm_c ⟨(wk_X2_enact_X2_enact_r2 _ (wm_8 (wm_4 (wm_1 wm_h)))), ?_⟩
          exact wm_n
        · unfold wsX2_settle_r2
          refine wm_c ⟨(wk_X2_enact_X2_enact_r2 _ (wm_8 (wm_4 (wm_2 wm_h)))), ?_⟩
          refine wm_c ⟨(wk_X2_enact_X2_enact_r2 _ (wm_8 (wm_4 (wm_2 (wm_1 wm_h))))), ?_⟩
          refine wm_c ⟨(wk_X2_enact_X2_enact_r2 _ (wm_16 wm_h)), ?_⟩
          refine wm_c ⟨(wk_X2_enact_X2_enact_r2 _ (wm_16 (wm_1 wm_h))), ?_⟩
          refine wm_c ⟨(wk_X2_enact_X2_enact_r2 _ (wm_16 (wm_2 wm_h))), ?_⟩
          refine wm_c ⟨(wk_X2_enact_X2_enact_r2 _ (wm_16 (wm_2 (wm_1 wm_h)))), ?_⟩
          refine wm_c ⟨(wk_X2_enact_X2_enact_r2 _ (wm_16 (wm_4 wm_h))), ?_⟩
          refine wm_c ⟨(wk_X2_enact_X2_enact_r2 _ (wm_16 (wm_4 (wm_1 wm_h)))), ?_⟩
          refine wm_c ⟨(wk_X2_enact_X2_enact_r2 _ (wm_16 (wm_4 (wm_2 wm_h)))), ?_⟩
          refine wm_c ⟨(wk_X2_enact_X2_enact_r2 _ (wm_16 (wm_4 (wm_2 (wm_1 wm_h))))), ?_⟩
          refine wm_c ⟨(wk_X2_enact_X2_enact_r3 _ wm_h), ?_⟩
          refine wm_c ⟨(wk_X2_enact_X2_enact_r3 _ (wm_1 wm_h)), ?_⟩
          refine wm_c ⟨(wk_X2_enact_X2_enact_r3 _ (wm_2 wm_h)), ?_⟩
          refine wm_c ⟨(wk_X2_enact_X2_enact_r3 _ (wm_2 (wm_1 wm_h))), ?_⟩
          refine wm_c ⟨(wk_X2_enact_X2_enact_r3 _ (wm_4 wm_h)), ?_⟩
          refine wm_c ⟨(wk_X2_enact_X2_enact_r3 _ (wm_4 (wm_1 wm_h))), ?_⟩
          refine wm_c ⟨(wk_X2_enact_X2_enact_r3 _ (wm_4 (wm_2 wm_h))), ?_⟩
          exact wm_n
      · exact wk_X2_enact_X20
    · exact wk_X2_enact_X60
  · exact wk_X2_enact_X10
set_option maxRecDepth 20000 in
theorem gX2_enact_X2_settle : GoodIn wsX2_enact (wsV RX2 67 RX2 yX2_settle wsX2_settle) := by
  refine goodIn_app (goodIn_sub ?_ ?_) ggX2_enact_X2_settle
  · exact wm_c ⟨(wk_X2_enact_X2_enact_r1 _ (wm_16 wm_h)), wm_c ⟨(wk_X2_enact_X2_enact_r1 _ (wm_16 (wm_1 wm_h))), wm_c ⟨(wk_X2_enact_X2_enact_r1 _ (wm_16 (wm_2 wm_h))), wm_c ⟨(wk_X2_enact_X2_enact_r1 _ (wm_16 (wm_2 (wm_1 wm_h)))), wm_n⟩⟩⟩⟩
  · decide +kernel
set_option maxRecDepth 20000 in
theorem ggX2_enact_X2_bracketToHand : GoodIn wsX2_enact wsX2_bracketToHand := by
  refine goodIn_sub ?_ gd_X2_bracketToHand
  unfold wsX2_bracketToHand
  refine wm_c ⟨(wk_X2_enact_X2_enact_r3 _ (wm_8 (wm_2 wm_h))), ?_⟩
  refine wm_a ⟨?_, ?_⟩
  · refine wm_a ⟨?_, ?_⟩
    · refine wm_c ⟨(wk_X2_enact_X2_enact_r1 _ (wm_2 wm_h)), ?_⟩
      refine wm_c ⟨(wk_X2_enact_X2_enact_r1 _ (wm_8 (wm_4 (wm_1 wm_h)))), ?_⟩
      refine wm_c ⟨(wk_X2_enact_X2_enact_r1 _ (wm_1 wm_h)), ?_⟩
      refine wm_c ⟨(wk_X2_enact_X2_enact_r1 _ (wm_8 (wm_4 wm_h))), ?_⟩
      refine wm_c ⟨(wk_X2_enact_X2_enact_r1 _ (wm_8 (wm_4 (wm_2 wm_h)))), ?_⟩
      refine wm_c ⟨(wk_X2_enact_X2_enact_r1 _ wm_h), ?_⟩
      refine wm_c ⟨(wk_X2_enact_X2_enact_r3 _ (wm_8 (wm_2 (wm_1 wm_h)))), ?_⟩
      refine wm_c ⟨(wk_X2_enact_X2_enact_r3 _ (wm_8 (wm_4 wm_h))), ?_⟩
      refine wm_c ⟨(wk_X2_enact_X2_enact_r3 _ (wm_8 (wm_4 (wm_1 wm_h)))), ?_⟩
      refine wm_c ⟨(wk_X2_enact_X2_enact_r3 _ (wm_8 (wm_4 (wm_2 wm_h)))), ?_⟩
      refine wm_c ⟨(wk_X2_enact_X2_enact_r3 _ (wm_8 (wm_4 (wm_2 (wm_1 wm_h))))), ?_⟩
      refine wm_c ⟨(wk_X2_enact_X2_enact_r3 _ (wm_16 wm_h)), ?_⟩
      refine wm_c ⟨(wk_X2_enact_X2_enact_r3 _ (wm_16 (wm_1 wm_h))), ?_⟩
      refine wm_c ⟨(wk_X2_enact_X2_enact_r3 _ (wm_16 (wm_2 wm_h))), ?_⟩
      refine wm_c ⟨(wk_X2_enact_X2_enact_r3 _ (wm_16 (wm_2 (wm_1 wm_h)))), ?_⟩
      refine wm_c ⟨(wk_X2_enact_X2_enact_r2 _ (wm_8 (wm_4 wm_h))), ?_⟩
      refine wm_c ⟨(wk_X2_enact_X2_enact_r3 _ (wm_16 (wm_4 wm_h))), ?_⟩
      refine wm_c ⟨(wk_X2_enact_X2_enact_r2 _ (wm_8 (wm_4 (wm_2 wm_h)))), ?_⟩
      refine wm_c ⟨(wk_X2_enact_X2_enact_r2 _ (wm_8 (wm_2 wm_h))), ?_⟩
      refine wm_c ⟨(wk_X2_enact_X2_enact_r2 _ (wm_8 (wm_2 (wm_1 wm_h)))), ?_⟩
      refine wm_c ⟨(wk_X2_enact_X2_enact_r2 _ (wm_8 (wm_4 (wm_1 wm_h)))), ?_⟩
      exact wm_n
    · exact wk_X2_enact_X20
  · exact wk_X2_enact_X60
set_option maxRecDepth 20000 in
theorem gX2_enact_X2_bracketToHand : GoodIn wsX2_enact (wsV RX2 74 RX2 yX2_bracketToHand wsX2_bracketToHand) := by
  refine goodIn_app (goodIn_sub ?_ ?_) ggX2_enact_X2_bracketToHand
  · exact wm_c ⟨(wk_X2_enact_X2_enact_r3 _ (wm_4 (wm_2 (wm_1 wm_h)))), wm_c ⟨(wk_X2_enact_X2_enact_r3 _ (wm_8 wm_h)), wm_c ⟨(wk_X2_enact_X2_enact_r3 _ (wm_8 (wm_1 wm_h))), wm_c ⟨(wk_X2_enact_X2_enact_r1 _ (wm_16 (wm_2 (wm_1 wm_h)))), wm_n⟩⟩⟩⟩
  · decide +kernel
theorem dX2_enact_0 : decode cX2_enact 0 = .ok (.aload_n 0, 1) := by decide +kernel
theorem dX2_enact_1 : decode cX2_enact 1 = .ok (.getfield 55, 3) := by decide +kernel
theorem dX2_enact_4 : decode cX2_enact 4 = .ok (.ifnonnull 23, 3) := by decide +kernel
theorem dX2_enact_7 : decode cX2_enact 7 = .ok (.aload_n 0, 1) := by decide +kernel
theorem dX2_enact_8 : decode cX2_enact 8 = .ok (.aload_n 0, 1) := by decide +kernel
theorem dX2_enact_9 : decode cX2_enact 9 = .ok (.getfield 30, 3) := by decide +kernel
theorem dX2_enact_12 : decode cX2_enact 12 = .ok (.aload_n 0, 1) := by decide +kernel
theorem dX2_enact_13 : decode cX2_enact 13 = .ok (.getfield 7, 3) := by decide +kernel
theorem dX2_enact_16 : decode cX2_enact 16 = .ok (.getfield 17, 3) := by decide +kernel
theorem dX2_enact_19 : decode cX2_enact 19 = .ok (.iconst 1, 1) := by decide +kernel
theorem dX2_enact_20 : decode cX2_enact 20 = .ok (.iadd, 1) := by decide +kernel
theorem dX2_enact_21 : decode cX2_enact 21 = .ok (.iaload, 1) := by decide +kernel
theorem dX2_enact_22 : decode cX2_enact 22 = .ok (.newarray .int, 2) := by decide +kernel
theorem dX2_enact_24 : decode cX2_enact 24 = .ok (.putfield 55, 3) := by decide +kernel
theorem dX2_enact_27 : decode cX2_enact 27 = .ok (.aload_n 0, 1) := by decide +kernel
theorem dX2_enact_28 : decode cX2_enact 28 = .ok (.getfield 23, 3) := by decide +kernel
theorem dX2_enact_31 : decode cX2_enact 31 = .ok (.iconst 0, 1) := by decide +kernel
theorem dX2_enact_32 : decode cX2_enact 32 = .ok (.aload_n 0, 1) := by decide +kernel
theorem dX2_enact_33 : decode cX2_enact 33 = .ok (.getfield 27, 3) := by decide +kernel
theorem dX2_enact_36 : decode cX2_enact 36 = .ok (.iconst 0, 1) := by decide +kernel
theorem dX2_enact_37 : decode cX2_enact 37 = .ok (.aload_n 0, 1) := by decide +kernel
theorem dX2_enact_38 : decode cX2_enact 38 = .ok (.getfield 23, 3) := by decide +kernel
theorem dX2_enact_41 : decode cX2_enact 41 = .ok (.arraylength, 1) := by decide +kernel
theorem dX2_enact_42 : decode cX2_enact 42 = .ok (.invokestatic 58, 3) := by decide +kernel
theorem dX2_enact_45 : decode cX2_enact 45 = .ok (.aload_n 1, 1) := by decide +kernel
theorem dX2_enact_46 : decode cX2_enact 46 = .ok (.aload_n 0, 1) := by decide +kernel
theorem dX2_enact_47 : decode cX2_enact 47 = .ok (.getfield 7, 3) := by decide +kernel
theorem dX2_enact_50 : decode cX2_enact 50 = .ok (.getfield 64, 3) := by decide +kernel
theorem dX2_enact_53 : decode cX2_enact 53 = .ok (.iload_n 2, 1) := by decide +kernel
theorem dX2_enact_54 : decode cX2_enact 54 = .ok (.iaload, 1) := by decide +kernel
theorem dX2_enact_55 : decode cX2_enact 55 = .ok (.aload_n 0, 1) := by decide +kernel
theorem dX2_enact_56 : decode cX2_enact 56 = .ok (.getfield 52, 3) := by decide +kernel
theorem dX2_enact_59 : decode cX2_enact 59 = .ok (.iconst 0, 1) := by decide +kernel
theorem dX2_enact_60 : decode cX2_enact 60 = .ok (.aload_n 0, 1) := by decide +kernel
theorem dX2_enact_61 : decode cX2_enact 61 = .ok (.getfield 7, 3) := by decide +kernel
theorem dX2_enact_64 : decode cX2_enact 64 = .ok (.getfield 42, 3) := by decide +kernel
theorem dX2_enact_67 : decode cX2_enact 67 = .ok (.iload_n 2, 1) := by decide +kernel
theorem dX2_enact_68 : decode cX2_enact 68 = .ok (.iaload, 1) := by decide +kernel
theorem dX2_enact_69 : decode cX2_enact 69 = .ok (.invokestatic 58, 3) := by decide +kernel
theorem dX2_enact_72 : decode cX2_enact 72 = .ok (.aload_n 0, 1) := by decide +kernel
theorem dX2_enact_73 : decode cX2_enact 73 = .ok (.iload_n 2, 1) := by decide +kernel
theorem dX2_enact_74 : decode cX2_enact 74 = .ok (.invokevirtual 67, 3) := by decide +kernel
theorem dX2_enact_77 : decode cX2_enact 77 = .ok (.iload_n 2, 1) := by decide +kernel
theorem dX2_enact_78 : decode cX2_enact 78 = .ok (.iconst 1, 1) := by decide +kernel
theorem dX2_enact_79 : decode cX2_enact 79 = .ok (.iadd, 1) := by decide +kernel
theorem dX2_enact_80 : decode cX2_enact 80 = .ok (.istore_n 3, 1) := by decide +kernel
theorem dX2_enact_81 : decode cX2_enact 81 = .ok (.iload_n 3, 1) := by decide +kernel
theorem dX2_enact_82 : decode cX2_enact 82 = .ok (.aload_n 0, 1) := by decide +kernel
theorem dX2_enact_83 : decode cX2_enact 83 = .ok (.getfield 7, 3) := by decide +kernel
theorem dX2_enact_86 : decode cX2_enact 86 = .ok (.getfield 17, 3) := by decide +kernel
theorem dX2_enact_89 : decode cX2_enact 89 = .ok (.if_icmp .gt 73, 3) := by decide +kernel
theorem dX2_enact_92 : decode cX2_enact 92 = .ok (.aload_n 0, 1) := by decide +kernel
theorem dX2_enact_93 : decode cX2_enact 93 = .ok (.getfield 27, 3) := by decide +kernel
theorem dX2_enact_96 : decode cX2_enact 96 = .ok (.iload_n 3, 1) := by decide +kernel
theorem dX2_enact_97 : decode cX2_enact 97 = .ok (.iconst 1, 1) := by decide +kernel
theorem dX2_enact_98 : decode cX2_enact 98 = .ok (.isub, 1) := by decide +kernel
theorem dX2_enact_99 : decode cX2_enact 99 = .ok (.iaload, 1) := by decide +kernel
theorem dX2_enact_100 : decode cX2_enact 100 = .ok (.istore 4, 2) := by decide +kernel
theorem dX2_enact_102 : decode cX2_enact 102 = .ok (.iload 4, 2) := by decide +kernel
theorem dX2_enact_104 : decode cX2_enact 104 = .ok (.aload_n 0, 1) := by decide +kernel
theorem dX2_enact_105 : decode cX2_enact 105 = .ok (.getfield 23, 3) := by decide +kernel
theorem dX2_enact_108 : decode cX2_enact 108 = .ok (.iload_n 3, 1) := by decide +kernel
theorem dX2_enact_109 : decode cX2_enact 109 = .ok (.iconst 1, 1) := by decide +kernel
theorem dX2_enact_110 : decode cX2_enact 110 = .ok (.isub, 1) := by decide +kernel
theorem dX2_enact_111 : decode cX2_enact 111 = .ok (.iaload, 1) := by decide +kernel
theorem dX2_enact_112 : decode cX2_enact 112 = .ok (.if_icmp .ge 44, 3) := by decide +kernel
theorem dX2_enact_115 : decode cX2_enact 115 = .ok (.iconst 0, 1) := by decide +kernel
theorem dX2_enact_116 : decode cX2_enact 116 = .ok (.istore 5, 2) := by decide +kernel
theorem dX2_enact_118 : decode cX2_enact 118 = .ok (.iload 5, 2) := by decide +kernel
theorem dX2_enact_120 : decode cX2_enact 120 = .ok (.aload_n 0, 1) := by decide +kernel
theorem dX2_enact_121 : decode cX2_enact 121 = .ok (.getfield 7, 3) := by decide +kernel
theorem dX2_enact_124 : decode cX2_enact 124 = .ok (.getfield 71, 3) := by decide +kernel
theorem dX2_enact_127 : decode cX2_enact 127 = .ok (.if_icmp .ge 23, 3) := by decide +kernel
theorem dX2_enact_130 : decode cX2_enact 130 = .ok (.aload_n 0, 1) := by decide +kernel
theorem dX2_enact_131 : decode cX2_enact 131 = .ok (.iload_n 3, 1) := by decide +kernel
theorem dX2_enact_132 : decode cX2_enact 132 = .ok (.iload 4, 2) := by decide +kernel
theorem dX2_enact_134 : decode cX2_enact 134 = .ok (.iload 5, 2) := by decide +kernel
theorem dX2_enact_136 : decode cX2_enact 136 = .ok (.invokevirtual 74, 3) := by decide +kernel
theorem dX2_enact_139 : decode cX2_enact 139 = .ok (.aload_n 0, 1) := by decide +kernel
theorem dX2_enact_140 : decode cX2_enact 140 = .ok (.iload_n 3, 1) := by decide +kernel
theorem dX2_enact_141 : decode cX2_enact 141 = .ok (.invokevirtual 67, 3) := by decide +kernel
theorem dX2_enact_144 : decode cX2_enact 144 = .ok (.iinc 5 1, 3) := by decide +kernel
theorem dX2_enact_147 : decode cX2_enact 147 = .ok (.goto (-29), 3) := by decide +kernel
theorem dX2_enact_150 : decode cX2_enact 150 = .ok (.iinc 4 1, 3) := by decide +kernel
theorem dX2_enact_153 : decode cX2_enact 153 = .ok (.goto (-51), 3) := by decide +kernel
theorem dX2_enact_156 : decode cX2_enact 156 = .ok (.iinc 3 1, 3) := by decide +kernel
theorem dX2_enact_159 : decode cX2_enact 159 = .ok (.goto (-78), 3) := by decide +kernel
theorem dX2_enact_162 : decode cX2_enact 162 = .ok (.aload_n 0, 1) := by decide +kernel
theorem dX2_enact_163 : decode cX2_enact 163 = .ok (.dup, 1) := by decide +kernel
theorem dX2_enact_164 : decode cX2_enact 164 = .ok (.getfield 78, 3) := by decide +kernel
theorem dX2_enact_167 : decode cX2_enact 167 = .ok (.iconst 1, 1) := by decide +kernel
theorem dX2_enact_168 : decode cX2_enact 168 = .ok (.iadd, 1) := by decide +kernel
theorem dX2_enact_169 : decode cX2_enact 169 = .ok (.putfield 78, 3) := by decide +kernel
theorem dX2_enact_172 : decode cX2_enact 172 = .ok (.aload_n 0, 1) := by decide +kernel
theorem dX2_enact_173 : decode cX2_enact 173 = .ok (.getfield 78, 3) := by decide +kernel
theorem dX2_enact_176 : decode cX2_enact 176 = .ok (.iconst 1, 1) := by decide +kernel
theorem dX2_enact_177 : decode cX2_enact 177 = .ok (.isub, 1) := by decide +kernel
theorem dX2_enact_178 : decode cX2_enact 178 = .ok (.ireturn, 1) := by decide +kernel
set_option maxRecDepth 20000 in
theorem ggX2_bracketToHand_J7_fill_fda19 : GoodIn wsX2_bracketToHand wsJ7_fill_fda19 := by
  refine goodIn_sub ?_ gd_J7_fill_fda19
  unfold wsJ7_fill_fda19
  refine wm_c ⟨(wm_1 (wm_l (wm_l (wm_8 (wm_1 wm_h))))), ?_⟩
  refine wm_c ⟨(wm_1 (wm_l (wm_l (wm_8 (wm_2 wm_h))))), ?_⟩
  refine wm_c ⟨(wm_1 (wm_l (wm_l (wm_8 (wm_2 (wm_1 wm_h)))))), ?_⟩
  refine wm_c ⟨(wm_1 (wm_l (wm_l (wm_8 wm_h)))), ?_⟩
  refine wm_c ⟨(wm_1 (wm_l (wm_l (wm_8 (wm_4 wm_h))))), ?_⟩
  exact wm_n
set_option maxRecDepth 20000 in
theorem gX2_bracketToHand_J7_fill_fda19 : GoodIn wsX2_bracketToHand (va_wsS RX2 81 yJ7_fill_fda19 wsJ7_fill_fda19) := goodIn_app (goodIn_of _ (by decide +kernel)) ggX2_bracketToHand_J7_fill_fda19
set_option maxRecDepth 20000 in
theorem ggX2_bracketToHand_X3_plus : GoodIn wsX2_bracketToHand wsX3_plus := by
  refine goodIn_sub ?_ gd_X3_plus
  unfold wsX3_plus
  refine wm_c ⟨(wm_1 (wm_l (wm_l (wm_16 wm_h)))), ?_⟩
  refine wm_c ⟨(wm_1 (wm_l (wm_l (wm_16 (wm_1 wm_h))))), ?_⟩
  exact wm_n
set_option maxRecDepth 20000 in
theorem gX2_bracketToHand_X3_plus : GoodIn wsX2_bracketToHand (va_wsS RX2 87 yX3_plus wsX3_plus) := goodIn_app (goodIn_of _ (by decide +kernel)) ggX2_bracketToHand_X3_plus
set_option maxRecDepth 20000 in
theorem ggX2_bracketToHand_X3_minus : GoodIn wsX2_bracketToHand wsX3_minus := by
  refine goodIn_sub ?_ gd_X3_minus
  unfold wsX3_minus
  refine wm_c ⟨(wm_1 (wm_l (wm_l (wm_16 (wm_4 wm_h))))), ?_⟩
  refine wm_c ⟨(wm_1 (wm_l (wm_l (wm_16 (wm_1 wm_h))))), ?_⟩
  exact wm_n
set_option maxRecDepth 20000 in
theorem gX2_bracketToHand_X3_minus : GoodIn wsX2_bracketToHand (va_wsS RX2 93 yX3_minus wsX3_minus) := goodIn_app (goodIn_of _ (by decide +kernel)) ggX2_bracketToHand_X3_minus
theorem dX2_bracketToHand_0 : decode cX2_bracketToHand 0 = .ok (.aload_n 0, 1) := by decide +kernel
theorem dX2_bracketToHand_1 : decode cX2_bracketToHand 1 = .ok (.getfield 7, 3) := by decide +kernel
theorem dX2_bracketToHand_4 : decode cX2_bracketToHand 4 = .ok (.getfield 42, 3) := by decide +kernel
theorem dX2_bracketToHand_7 : decode cX2_bracketToHand 7 = .ok (.iload_n 1, 1) := by decide +kernel
theorem dX2_bracketToHand_8 : decode cX2_bracketToHand 8 = .ok (.iconst 1, 1) := by decide +kernel
theorem dX2_bracketToHand_9 : decode cX2_bracketToHand 9 = .ok (.isub, 1) := by decide +kernel
theorem dX2_bracketToHand_10 : decode cX2_bracketToHand 10 = .ok (.iaload, 1) := by decide +kernel
theorem dX2_bracketToHand_11 : decode cX2_bracketToHand 11 = .ok (.istore 4, 2) := by decide +kernel
theorem dX2_bracketToHand_13 : decode cX2_bracketToHand 13 = .ok (.aload_n 0, 1) := by decide +kernel
theorem dX2_bracketToHand_14 : decode cX2_bracketToHand 14 = .ok (.getfield 30, 3) := by decide +kernel
theorem dX2_bracketToHand_17 : decode cX2_bracketToHand 17 = .ok (.iload_n 1, 1) := by decide +kernel
theorem dX2_bracketToHand_18 : decode cX2_bracketToHand 18 = .ok (.iconst 1, 1) := by decide +kernel
theorem dX2_bracketToHand_19 : decode cX2_bracketToHand 19 = .ok (.isub, 1) := by decide +kernel
theorem dX2_bracketToHand_20 : decode cX2_bracketToHand 20 = .ok (.iaload, 1) := by decide +kernel
theorem dX2_bracketToHand_21 : decode cX2_bracketToHand 21 = .ok (.iload_n 2, 1) := by decide +kernel
theorem dX2_bracketToHand_22 : decode cX2_bracketToHand 22 = .ok (.iload 4, 2) := by decide +kernel
theorem dX2_bracketToHand_24 : decode cX2_bracketToHand 24 = .ok (.imul, 1) := by decide +kernel
theorem dX2_bracketToHand_25 : decode cX2_bracketToHand 25 = .ok (.iadd, 1) := by decide +kernel
theorem dX2_bracketToHand_26 : decode cX2_bracketToHand 26 = .ok (.istore 5, 2) := by decide +kernel
theorem dX2_bracketToHand_28 : decode cX2_bracketToHand 28 = .ok (.aload_n 0, 1) := by decide +kernel
theorem dX2_bracketToHand_29 : decode cX2_bracketToHand 29 = .ok (.getfield 52, 3) := by decide +kernel
theorem dX2_bracketToHand_32 : decode cX2_bracketToHand 32 = .ok (.iconst 0, 1) := by decide +kernel
theorem dX2_bracketToHand_33 : decode cX2_bracketToHand 33 = .ok (.aload_n 0, 1) := by decide +kernel
theorem dX2_bracketToHand_34 : decode cX2_bracketToHand 34 = .ok (.getfield 7, 3) := by decide +kernel
theorem dX2_bracketToHand_37 : decode cX2_bracketToHand 37 = .ok (.getfield 42, 3) := by decide +kernel
theorem dX2_bracketToHand_40 : decode cX2_bracketToHand 40 = .ok (.iload_n 1, 1) := by decide +kernel
theorem dX2_bracketToHand_41 : decode cX2_bracketToHand 41 = .ok (.iaload, 1) := by decide +kernel
theorem dX2_bracketToHand_42 : decode cX2_bracketToHand 42 = .ok (.iconst 0, 1) := by decide +kernel
theorem dX2_bracketToHand_43 : decode cX2_bracketToHand 43 = .ok (.invokestatic 81, 3) := by decide +kernel
theorem dX2_bracketToHand_46 : decode cX2_bracketToHand 46 = .ok (.iconst 0, 1) := by decide +kernel
theorem dX2_bracketToHand_47 : decode cX2_bracketToHand 47 = .ok (.istore 6, 2) := by decide +kernel
theorem dX2_bracketToHand_49 : decode cX2_bracketToHand 49 = .ok (.iload 6, 2) := by decide +kernel
theorem dX2_bracketToHand_51 : decode cX2_bracketToHand 51 = .ok (.iload 4, 2) := by decide +kernel
theorem dX2_bracketToHand_53 : decode cX2_bracketToHand 53 = .ok (.if_icmp .ge 86, 3) := by decide +kernel
theorem dX2_bracketToHand_56 : decode cX2_bracketToHand 56 = .ok (.iload_n 3, 1) := by decide +kernel
theorem dX2_bracketToHand_57 : decode cX2_bracketToHand 57 = .ok (.iload 4, 2) := by decide +kernel
theorem dX2_bracketToHand_59 : decode cX2_bracketToHand 59 = .ok (.imul, 1) := by decide +kernel
theorem dX2_bracketToHand_60 : decode cX2_bracketToHand 60 = .ok (.iload 6, 2) := by decide +kernel
theorem dX2_bracketToHand_62 : decode cX2_bracketToHand 62 = .ok (.iadd, 1) := by decide +kernel
theorem dX2_bracketToHand_63 : decode cX2_bracketToHand 63 = .ok (.istore 7, 2) := by decide +kernel
theorem dX2_bracketToHand_65 : decode cX2_bracketToHand 65 = .ok (.iload 6, 2) := by decide +kernel
theorem dX2_bracketToHand_67 : decode cX2_bracketToHand 67 = .ok (.aload_n 0, 1) := by decide +kernel
theorem dX2_bracketToHand_68 : decode cX2_bracketToHand 68 = .ok (.getfield 7, 3) := by decide +kernel
theorem dX2_bracketToHand_71 : decode cX2_bracketToHand 71 = .ok (.getfield 71, 3) := by decide +kernel
theorem dX2_bracketToHand_74 : decode cX2_bracketToHand 74 = .ok (.imul, 1) := by decide +kernel
theorem dX2_bracketToHand_75 : decode cX2_bracketToHand 75 = .ok (.iload_n 3, 1) := by decide +kernel
theorem dX2_bracketToHand_76 : decode cX2_bracketToHand 76 = .ok (.iadd, 1) := by decide +kernel
theorem dX2_bracketToHand_77 : decode cX2_bracketToHand 77 = .ok (.istore 8, 2) := by decide +kernel
theorem dX2_bracketToHand_79 : decode cX2_bracketToHand 79 = .ok (.aload_n 0, 1) := by decide +kernel
theorem dX2_bracketToHand_80 : decode cX2_bracketToHand 80 = .ok (.getfield 52, 3) := by decide +kernel
theorem dX2_bracketToHand_83 : decode cX2_bracketToHand 83 = .ok (.iload 7, 2) := by decide +kernel
theorem dX2_bracketToHand_85 : decode cX2_bracketToHand 85 = .ok (.aload_n 0, 1) := by decide +kernel
theorem dX2_bracketToHand_86 : decode cX2_bracketToHand 86 = .ok (.getfield 52, 3) := by decide +kernel
theorem dX2_bracketToHand_89 : decode cX2_bracketToHand 89 = .ok (.iload 7, 2) := by decide +kernel
theorem dX2_bracketToHand_91 : decode cX2_bracketToHand 91 = .ok (.iaload, 1) := by decide +kernel
theorem dX2_bracketToHand_92 : decode cX2_bracketToHand 92 = .ok (.aload_n 0, 1) := by decide +kernel
theorem dX2_bracketToHand_93 : decode cX2_bracketToHand 93 = .ok (.getfield 55, 3) := by decide +kernel
theorem dX2_bracketToHand_96 : decode cX2_bracketToHand 96 = .ok (.iload 5, 2) := by decide +kernel
theorem dX2_bracketToHand_98 : decode cX2_bracketToHand 98 = .ok (.iload 6, 2) := by decide +kernel
theorem dX2_bracketToHand_100 : decode cX2_bracketToHand 100 = .ok (.iadd, 1) := by decide +kernel
theorem dX2_bracketToHand_101 : decode cX2_bracketToHand 101 = .ok (.iaload, 1) := by decide +kernel
theorem dX2_bracketToHand_102 : decode cX2_bracketToHand 102 = .ok (.invokestatic 87, 3) := by decide +kernel
theorem dX2_bracketToHand_105 : decode cX2_bracketToHand 105 = .ok (.iastore, 1) := by decide +kernel
theorem dX2_bracketToHand_106 : decode cX2_bracketToHand 106 = .ok (.aload_n 0, 1) := by decide +kernel
theorem dX2_bracketToHand_107 : decode cX2_bracketToHand 107 = .ok (.getfield 52, 3) := by decide +kernel
theorem dX2_bracketToHand_110 : decode cX2_bracketToHand 110 = .ok (.iload 8, 2) := by decide +kernel
theorem dX2_bracketToHand_112 : decode cX2_bracketToHand 112 = .ok (.aload_n 0, 1) := by decide +kernel
theorem dX2_bracketToHand_113 : decode cX2_bracketToHand 113 = .ok (.getfield 52, 3) := by decide +kernel
theorem dX2_bracketToHand_116 : decode cX2_bracketToHand 116 = .ok (.iload 8, 2) := by decide +kernel
theorem dX2_bracketToHand_118 : decode cX2_bracketToHand 118 = .ok (.iaload, 1) := by decide +kernel
theorem dX2_bracketToHand_119 : decode cX2_bracketToHand 119 = .ok (.aload_n 0, 1) := by decide +kernel
theorem dX2_bracketToHand_120 : decode cX2_bracketToHand 120 = .ok (.getfield 55, 3) := by decide +kernel
theorem dX2_bracketToHand_123 : decode cX2_bracketToHand 123 = .ok (.iload 5, 2) := by decide +kernel
theorem dX2_bracketToHand_125 : decode cX2_bracketToHand 125 = .ok (.iload 6, 2) := by decide +kernel
theorem dX2_bracketToHand_127 : decode cX2_bracketToHand 127 = .ok (.iadd, 1) := by decide +kernel
theorem dX2_bracketToHand_128 : decode cX2_bracketToHand 128 = .ok (.iaload, 1) := by decide +kernel
theorem dX2_bracketToHand_129 : decode cX2_bracketToHand 129 = .ok (.invokestatic 93, 3) := by decide +kernel
theorem dX2_bracketToHand_132 : decode cX2_bracketToHand 132 = .ok (.iastore, 1) := by decide +kernel
theorem dX2_bracketToHand_133 : decode cX2_bracketToHand 133 = .ok (.iinc 6 1, 3) := by decide +kernel
theorem dX2_bracketToHand_136 : decode cX2_bracketToHand 136 = .ok (.goto (-87), 3) := by decide +kernel
theorem dX2_bracketToHand_139 : decode cX2_bracketToHand 139 = .ok (.return_, 1) := by decide +kernel
set_option maxRecDepth 20000 in
theorem ggX2_settle_X1_ofLength : GoodIn wsX2_settle wsX1_ofLength := by
  refine goodIn_sub ?_ gd_X1_ofLength
  unfold wsX1_ofLength
  refine wm_c ⟨(wk_X2_settle_X2_settle_r1 _ (wm_8 (wm_1 wm_h))), ?_⟩
  refine wm_a ⟨?_, ?_⟩
  · refine wm_c ⟨(wk_X2_settle_X2_settle_r1 _ (wm_8 (wm_2 wm_h))), ?_⟩
    exact wm_n
  · exact wk_X2_settle_X10
set_option maxRecDepth 20000 in
theorem gX2_settle_X1_ofLength : GoodIn wsX2_settle (wsV RX2 36 RX1 yX1_ofLength wsX1_ofLength) := by
  refine goodIn_app (goodIn_sub ?_ ?_) ggX2_settle_X1_ofLength
  · exact wm_c ⟨(wk_X2_settle_X2_settle_r1 _ (wm_4 (wm_1 wm_h))), wm_c ⟨(wk_X2_settle_X2_settle_r1 _ (wm_4 (wm_2 wm_h))), wm_c ⟨(wk_X2_settle_X2_settle_r1 _ (wm_4 (wm_2 (wm_1 wm_h)))), wm_c ⟨(wk_X2_settle_X2_settle_r1 _ (wm_8 wm_h)), wm_n⟩⟩⟩⟩
  · decide +kernel
set_option maxRecDepth 20000 in
theorem ggX2_settle_X2_strip : GoodIn wsX2_settle wsX2_strip := by
  refine goodIn_sub ?_ gd_X2_strip
  unfold wsX2_strip
  refine wm_c ⟨(wk_X2_settle_X2_settle_r1 _ (wm_8 (wm_4 (wm_2 (wm_1 wm_h))))), ?_⟩
  refine wm_a ⟨?_, ?_⟩
  · refine wm_a ⟨?_, ?_⟩
    · refine wm_c ⟨(wk_X2_settle_X2_settle_r1 _ (wm_16 wm_h)), ?_⟩
      refine wm_c ⟨(wk_X2_settle_X2_settle_r1 _ (wm_16 (wm_1 wm_h))), ?_⟩
      refine wm_c ⟨(wk_X2_settle_X2_settle_r1 _ (wm_4 wm_h)), ?_⟩
      refine wm_c ⟨(wk_X2_settle_X2_settle_r1 _ (wm_16 (wm_2 wm_h))), ?_⟩
      refine wm_c ⟨(wk_X2_settle_X2_settle_r1 _ (wm_2 wm_h)), ?_⟩
      refine wm_c ⟨(wk_X2_settle_X2_settle_r1 _ (wm_2 (wm_1 wm_h))), ?_⟩
      refine wm_c ⟨(wk_X2_settle_X2_settle_r1 _ (wm_16 (wm_2 (wm_1 wm_h)))), ?_⟩
      refine wm_c ⟨(wk_X2_settle_X2_settle_r1 _ (wm_16 (wm_4 wm_h))), ?_⟩
      refine wm_c ⟨(wk_X2_settle_X2_settle_r1 _ (wm_16 (wm_4 (wm_1 wm_h)))), ?_⟩
      refine wm_c ⟨(wk_X2_settle_X2_settle_r1 _ (wm_16 (wm_4 (wm_2 wm_h)))), ?_⟩
      refine wm_c ⟨(wk_X2_settle_X2_settle_r1 _ (wm_16 (wm_4 (wm_2 (wm_1 wm_h))))), ?_⟩
      refine wm_c ⟨(wk_X2_settle_X2_settle_r2 _ wm_h), ?_⟩
      refine wm_c ⟨(wk_X2_settle_X2_settle_r2 _ (wm_1 wm_h)), ?_⟩
      refine wm_c ⟨(wk_X2_settle_X2_settle_r2 _ (wm_2 wm_h)), ?_⟩
      refine wm_c ⟨(wk_X2_settle_X2_settle_r2 _ (wm_2 (wm_1 wm_h))), ?_⟩
      refine wm_c ⟨(wk_X2_settle_X2_settle_r2 _ (wm_4 wm_h)), ?_⟩
      exact wm_n
    · exact wk_X2_settle_X20
  · exact wk_X2_settle_X60
set_option maxRecDepth 20000 in
theorem gX2_settle_X2_strip : GoodIn wsX2_settle (wsV RX2 96 RX2 yX2_strip wsX2_strip) := by
  refine goodIn_app (goodIn_sub ?_ ?_) ggX2_settle_X2_strip
  · exact wm_c ⟨(wk_X2_settle_X2_settle_r1 _ (wm_8 (wm_2 (wm_1 wm_h)))), wm_c ⟨(wk_X2_settle_X2_settle_r1 _ (wm_8 (wm_4 wm_h))), wm_c ⟨(wk_X2_settle_X2_settle_r1 _ (wm_8 (wm_4 (wm_1 wm_h)))), wm_c ⟨(wk_X2_settle_X2_settle_r1 _ (wm_8 (wm_4 (wm_2 wm_h)))), wm_n⟩⟩⟩⟩
  · decide +kernel
set_option maxRecDepth 20000 in
theorem ggX2_settle_X2_keep : GoodIn wsX2_settle wsX2_keep := by
  refine goodIn_sub ?_ gd_X2_keep
  unfold wsX2_keep
  refine wm_c ⟨(wk_X2_settle_X2_settle_r2 _ (wm_8 wm_h)), ?_⟩
  refine wm_a ⟨?_, ?_⟩
  · refine wm_a ⟨?_, ?_⟩
    · refine wm_c ⟨(wk_X2_settle_X2_settle_r1 _ (wm_4 wm_h)), ?_⟩
      refine wm_c ⟨(wk_X2_settle_X2_settle_r1 _ (wm_16 (wm_2 wm_h))), ?_⟩
      refine wm_c ⟨(wk_X2_settle_X2_settle_r1 _ wm_h), ?_⟩
      refine wm_c ⟨(wk_X2_settle_X2_settle_r1 _ (wm_2 wm_h)), ?_⟩
      refine wm_c ⟨(wk_X2_settle_X2_settle_r1 _ (wm_2 (wm_1 wm_h))), ?_⟩
      refine wm_c ⟨(wk_X2_settle_X2_settle_r1 _ (wm_16 (wm_2 (wm_1 wm_h)))), ?_⟩
      refine wm_c ⟨(wk_X2_settle_X2_settle_r1 _ (wm_16 wm_h)), ?_⟩
      refine wm_c ⟨(wk_X2_settle_X2_settle_r1 _ (wm_16 (wm_1 wm_h))), ?_⟩
      refine wm_c ⟨(wk_X2_settle_X2_settle_r2 _ (wm_8 (wm_1 wm_h))), ?_⟩
      refine wm_c ⟨(wk_X2_settle_X2_settle_r2 _ (wm_8 (wm_2 wm_h))), ?_⟩
      refine wm_c ⟨(wk_X2_settle_X2_settle_r1 _ (wm_16 (wm_4 (wm_2 wm_h)))), ?_⟩
      refine wm_c ⟨(wk_X2_settle_X2_settle_r2 _ (wm_8 (wm_2 (wm_1 wm_h)))), ?_⟩
      refine wm_c ⟨(wk_X2_settle_X2_settle_r2 _ (wm_8 (wm_4 wm_h))), ?_⟩
      refine wm_c ⟨(wk_X2_settle_X2_settle_r2 _ (wm_8 (wm_4 (wm_1 wm_h)))), ?_⟩
      refine wm_c ⟨(wk_X2_settle_X2_settle_r2 _ (wm_8 (wm_4 (wm_2 wm_h)))), ?_⟩
      refine wm_c ⟨(wk_X2_settle_X2_settle_r2 _ (wm_8 (wm_4 (wm_2 (wm_1 wm_h))))), ?_⟩
      refine wm_c ⟨(wk_X2_settle_X2_settle_r2 _ (wm_4 wm_h)), ?_⟩
      refine wm_c ⟨(wk_X2_settle_X2_settle_r2 _ (wm_16 wm_h)), ?_⟩
      exact wm_n
    · exact wk_X2_settle_X20
  · exact wk_X2_settle_X60
set_option maxRecDepth 20000 in
theorem gX2_settle_X2_keep : GoodIn wsX2_settle (wsV RX2 100 RX2 yX2_keep wsX2_keep) := by
  refine goodIn_app (goodIn_sub ?_ ?_) ggX2_settle_X2_keep
  · exact wm_c ⟨(wk_X2_settle_X2_settle_r2 _ (wm_4 (wm_1 wm_h))), wm_c ⟨(wk_X2_settle_X2_settle_r2 _ (wm_4 (wm_2 wm_h))), wm_c ⟨(wk_X2_settle_X2_settle_r2 _ (wm_4 (wm_2 (wm_1 wm_h)))), wm_c ⟨(wk_X2_settle_X2_settle_r1 _ (wm_8 (wm_4 (wm_2 wm_h)))), wm_n⟩⟩⟩⟩
  · decide +kernel
theorem dX2_settle_0 : decode cX2_settle 0 = .ok (.aload_n 0, 1) := by decide +kernel
theorem dX2_settle_1 : decode cX2_settle 1 = .ok (.getfield 23, 3) := by decide +kernel
theorem dX2_settle_4 : decode cX2_settle 4 = .ok (.iload_n 1, 1) := by decide +kernel
theorem dX2_settle_5 : decode cX2_settle 5 = .ok (.iaload, 1) := by decide +kernel
theorem dX2_settle_6 : decode cX2_settle 6 = .ok (.aload_n 0, 1) := by decide +kernel
theorem dX2_settle_7 : decode cX2_settle 7 = .ok (.getfield 13, 3) := by decide +kernel
theorem dX2_settle_10 : decode cX2_settle 10 = .ok (.iload_n 1, 1) := by decide +kernel
theorem dX2_settle_11 : decode cX2_settle 11 = .ok (.invokevirtual 36, 3) := by decide +kernel
theorem dX2_settle_14 : decode cX2_settle 14 = .ok (.if_icmp .lt 4, 3) := by decide +kernel
theorem dX2_settle_17 : decode cX2_settle 17 = .ok (.return_, 1) := by decide +kernel
theorem dX2_settle_18 : decode cX2_settle 18 = .ok (.iconst 0, 1) := by decide +kernel
theorem dX2_settle_19 : decode cX2_settle 19 = .ok (.istore_n 2, 1) := by decide +kernel
theorem dX2_settle_20 : decode cX2_settle 20 = .ok (.iload_n 2, 1) := by decide +kernel
theorem dX2_settle_21 : decode cX2_settle 21 = .ok (.aload_n 0, 1) := by decide +kernel
theorem dX2_settle_22 : decode cX2_settle 22 = .ok (.getfield 23, 3) := by decide +kernel
theorem dX2_settle_25 : decode cX2_settle 25 = .ok (.iload_n 1, 1) := by decide +kernel
theorem dX2_settle_26 : decode cX2_settle 26 = .ok (.iaload, 1) := by decide +kernel
theorem dX2_settle_27 : decode cX2_settle 27 = .ok (.if_icmp .ge 15, 3) := by decide +kernel
theorem dX2_settle_30 : decode cX2_settle 30 = .ok (.aload_n 0, 1) := by decide +kernel
theorem dX2_settle_31 : decode cX2_settle 31 = .ok (.iload_n 1, 1) := by decide +kernel
theorem dX2_settle_32 : decode cX2_settle 32 = .ok (.iload_n 2, 1) := by decide +kernel
theorem dX2_settle_33 : decode cX2_settle 33 = .ok (.invokevirtual 96, 3) := by decide +kernel
theorem dX2_settle_36 : decode cX2_settle 36 = .ok (.iinc 2 1, 3) := by decide +kernel
theorem dX2_settle_39 : decode cX2_settle 39 = .ok (.goto (-19), 3) := by decide +kernel
theorem dX2_settle_42 : decode cX2_settle 42 = .ok (.iconst 0, 1) := by decide +kernel
theorem dX2_settle_43 : decode cX2_settle 43 = .ok (.istore_n 2, 1) := by decide +kernel
theorem dX2_settle_44 : decode cX2_settle 44 = .ok (.iload_n 2, 1) := by decide +kernel
theorem dX2_settle_45 : decode cX2_settle 45 = .ok (.aload_n 0, 1) := by decide +kernel
theorem dX2_settle_46 : decode cX2_settle 46 = .ok (.getfield 7, 3) := by decide +kernel
theorem dX2_settle_49 : decode cX2_settle 49 = .ok (.getfield 42, 3) := by decide +kernel
theorem dX2_settle_52 : decode cX2_settle 52 = .ok (.iload_n 1, 1) := by decide +kernel
theorem dX2_settle_53 : decode cX2_settle 53 = .ok (.iaload, 1) := by decide +kernel
theorem dX2_settle_54 : decode cX2_settle 54 = .ok (.if_icmp .ge 18, 3) := by decide +kernel
theorem dX2_settle_57 : decode cX2_settle 57 = .ok (.aload_n 0, 1) := by decide +kernel
theorem dX2_settle_58 : decode cX2_settle 58 = .ok (.getfield 52, 3) := by decide +kernel
theorem dX2_settle_61 : decode cX2_settle 61 = .ok (.iload_n 2, 1) := by decide +kernel
theorem dX2_settle_62 : decode cX2_settle 62 = .ok (.iaload, 1) := by decide +kernel
theorem dX2_settle_63 : decode cX2_settle 63 = .ok (.ifCond .ne 9, 3) := by decide +kernel
theorem dX2_settle_66 : decode cX2_settle 66 = .ok (.iinc 2 1, 3) := by decide +kernel
theorem dX2_settle_69 : decode cX2_settle 69 = .ok (.goto (-25), 3) := by decide +kernel
theorem dX2_settle_72 : decode cX2_settle 72 = .ok (.iload_n 2, 1) := by decide +kernel
theorem dX2_settle_73 : decode cX2_settle 73 = .ok (.aload_n 0, 1) := by decide +kernel
theorem dX2_settle_74 : decode cX2_settle 74 = .ok (.getfield 7, 3) := by decide +kernel
theorem dX2_settle_77 : decode cX2_settle 77 = .ok (.getfield 42, 3) := by decide +kernel
theorem dX2_settle_80 : decode cX2_settle 80 = .ok (.iload_n 1, 1) := by decide +kernel
theorem dX2_settle_81 : decode cX2_settle 81 = .ok (.iaload, 1) := by decide +kernel
theorem dX2_settle_82 : decode cX2_settle 82 = .ok (.if_icmp .ge 9, 3) := by decide +kernel
theorem dX2_settle_85 : decode cX2_settle 85 = .ok (.aload_n 0, 1) := by decide +kernel
theorem dX2_settle_86 : decode cX2_settle 86 = .ok (.iload_n 1, 1) := by decide +kernel
theorem dX2_settle_87 : decode cX2_settle 87 = .ok (.iload_n 2, 1) := by decide +kernel
theorem dX2_settle_88 : decode cX2_settle 88 = .ok (.invokevirtual 100, 3) := by decide +kernel
theorem dX2_settle_91 : decode cX2_settle 91 = .ok (.return_, 1) := by decide +kernel
set_option maxRecDepth 20000 in
theorem ggX2_strip_X3_minus : GoodIn wsX2_strip wsX3_minus := by
  refine goodIn_sub ?_ gd_X3_minus
  unfold wsX3_minus
  refine wm_c ⟨(wm_1 (wm_l (wm_l (wm_8 (wm_2 wm_h))))), ?_⟩
  refine wm_c ⟨(wm_1 (wm_l (wm_l (wm_8 (wm_2 (wm_1 wm_h)))))), ?_⟩
  exact wm_n
set_option maxRecDepth 20000 in
theorem gX2_strip_X3_minus : GoodIn wsX2_strip (va_wsS RX2 93 yX3_minus wsX3_minus) := goodIn_app (goodIn_of _ (by decide +kernel)) ggX2_strip_X3_minus
set_option maxRecDepth 20000 in
theorem ggX2_strip_X3_productMore : GoodIn wsX2_strip wsX3_productMore := by
  refine goodIn_sub ?_ gd_X3_productMore
  unfold wsX3_productMore
  refine wm_c ⟨(wm_1 (wm_l (wm_l (wm_8 (wm_4 (wm_2 wm_h)))))), ?_⟩
  refine wm_c ⟨(wm_1 (wm_l (wm_l (wm_8 (wm_4 (wm_2 (wm_1 wm_h))))))), ?_⟩
  exact wm_n
set_option maxRecDepth 20000 in
theorem gX2_strip_X3_productMore : GoodIn wsX2_strip (va_wsS RX2 103 yX3_productMore wsX3_productMore) := goodIn_app (goodIn_of _ (by decide +kernel)) ggX2_strip_X3_productMore
theorem dX2_strip_0 : decode cX2_strip 0 = .ok (.aload_n 0, 1) := by decide +kernel
theorem dX2_strip_1 : decode cX2_strip 1 = .ok (.getfield 49, 3) := by decide +kernel
theorem dX2_strip_4 : decode cX2_strip 4 = .ok (.aload_n 0, 1) := by decide +kernel
theorem dX2_strip_5 : decode cX2_strip 5 = .ok (.getfield 33, 3) := by decide +kernel
theorem dX2_strip_8 : decode cX2_strip 8 = .ok (.iload_n 1, 1) := by decide +kernel
theorem dX2_strip_9 : decode cX2_strip 9 = .ok (.iaload, 1) := by decide +kernel
theorem dX2_strip_10 : decode cX2_strip 10 = .ok (.iload_n 2, 1) := by decide +kernel
theorem dX2_strip_11 : decode cX2_strip 11 = .ok (.iadd, 1) := by decide +kernel
theorem dX2_strip_12 : decode cX2_strip 12 = .ok (.iaload, 1) := by decide +kernel
theorem dX2_strip_13 : decode cX2_strip 13 = .ok (.istore_n 3, 1) := by decide +kernel
theorem dX2_strip_14 : decode cX2_strip 14 = .ok (.iconst 0, 1) := by decide +kernel
theorem dX2_strip_15 : decode cX2_strip 15 = .ok (.aload_n 0, 1) := by decide +kernel
theorem dX2_strip_16 : decode cX2_strip 16 = .ok (.getfield 52, 3) := by decide +kernel
theorem dX2_strip_19 : decode cX2_strip 19 = .ok (.iload_n 3, 1) := by decide +kernel
theorem dX2_strip_20 : decode cX2_strip 20 = .ok (.iaload, 1) := by decide +kernel
theorem dX2_strip_21 : decode cX2_strip 21 = .ok (.invokestatic 93, 3) := by decide +kernel
theorem dX2_strip_24 : decode cX2_strip 24 = .ok (.istore 4, 2) := by decide +kernel
theorem dX2_strip_26 : decode cX2_strip 26 = .ok (.aload_n 0, 1) := by decide +kernel
theorem dX2_strip_27 : decode cX2_strip 27 = .ok (.getfield 30, 3) := by decide +kernel
theorem dX2_strip_30 : decode cX2_strip 30 = .ok (.iload_n 1, 1) := by decide +kernel
theorem dX2_strip_31 : decode cX2_strip 31 = .ok (.iaload, 1) := by decide +kernel
theorem dX2_strip_32 : decode cX2_strip 32 = .ok (.iload_n 2, 1) := by decide +kernel
theorem dX2_strip_33 : decode cX2_strip 33 = .ok (.aload_n 0, 1) := by decide +kernel
theorem dX2_strip_34 : decode cX2_strip 34 = .ok (.getfield 7, 3) := by decide +kernel
theorem dX2_strip_37 : decode cX2_strip 37 = .ok (.getfield 42, 3) := by decide +kernel
theorem dX2_strip_40 : decode cX2_strip 40 = .ok (.iload_n 1, 1) := by decide +kernel
theorem dX2_strip_41 : decode cX2_strip 41 = .ok (.iaload, 1) := by decide +kernel
theorem dX2_strip_42 : decode cX2_strip 42 = .ok (.imul, 1) := by decide +kernel
theorem dX2_strip_43 : decode cX2_strip 43 = .ok (.iadd, 1) := by decide +kernel
theorem dX2_strip_44 : decode cX2_strip 44 = .ok (.istore 5, 2) := by decide +kernel
theorem dX2_strip_46 : decode cX2_strip 46 = .ok (.iload_n 3, 1) := by decide +kernel
theorem dX2_strip_47 : decode cX2_strip 47 = .ok (.istore 6, 2) := by decide +kernel
theorem dX2_strip_49 : decode cX2_strip 49 = .ok (.iload 6, 2) := by decide +kernel
theorem dX2_strip_51 : decode cX2_strip 51 = .ok (.aload_n 0, 1) := by decide +kernel
theorem dX2_strip_52 : decode cX2_strip 52 = .ok (.getfield 7, 3) := by decide +kernel
theorem dX2_strip_55 : decode cX2_strip 55 = .ok (.getfield 42, 3) := by decide +kernel
theorem dX2_strip_58 : decode cX2_strip 58 = .ok (.iload_n 1, 1) := by decide +kernel
theorem dX2_strip_59 : decode cX2_strip 59 = .ok (.iaload, 1) := by decide +kernel
theorem dX2_strip_60 : decode cX2_strip 60 = .ok (.if_icmp .ge 43, 3) := by decide +kernel
theorem dX2_strip_63 : decode cX2_strip 63 = .ok (.iload 4, 2) := by decide +kernel
theorem dX2_strip_65 : decode cX2_strip 65 = .ok (.ifCond .eq 38, 3) := by decide +kernel
theorem dX2_strip_68 : decode cX2_strip 68 = .ok (.aload_n 0, 1) := by decide +kernel
theorem dX2_strip_69 : decode cX2_strip 69 = .ok (.getfield 52, 3) := by decide +kernel
theorem dX2_strip_72 : decode cX2_strip 72 = .ok (.iload 6, 2) := by decide +kernel
theorem dX2_strip_74 : decode cX2_strip 74 = .ok (.aload_n 0, 1) := by decide +kernel
theorem dX2_strip_75 : decode cX2_strip 75 = .ok (.getfield 52, 3) := by decide +kernel
theorem dX2_strip_78 : decode cX2_strip 78 = .ok (.iload 6, 2) := by decide +kernel
