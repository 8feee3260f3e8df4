theorem dX8_ordered_143 : decode cX8_ordered 143 = .ok (.laload, 1) := by decide +kernel
theorem dX8_ordered_144 : decode cX8_ordered 144 = .ok (.lastore, 1) := by decide +kernel
theorem dX8_ordered_145 : decode cX8_ordered 145 = .ok (.iinc 5 1, 3) := by decide +kernel
theorem dX8_ordered_148 : decode cX8_ordered 148 = .ok (.goto (-28), 3) := by decide +kernel
theorem dX8_ordered_151 : decode cX8_ordered 151 = .ok (.goto (-142), 3) := by decide +kernel
theorem dX8_ordered_154 : decode cX8_ordered 154 = .ok (.return_, 1) := by decide +kernel
set_option maxRecDepth 20000 in
theorem ggX8_shares_X8_ordered : GoodIn wsX8_shares wsX8_ordered := by
  refine goodIn_sub ?_ gd_X8_ordered
  unfold wsX8_ordered
  refine wm_c ⟨(wk_X8_shares_X8_shares_r1 _ (wm_8 (wm_2 (wm_1 wm_h)))), ?_⟩
  refine wm_a ⟨?_, ?_⟩
  · refine wm_a ⟨?_, ?_⟩
    · unfold wsX8_ordered_r1
      refine wm_c ⟨(wk_X8_shares_X8_shares_r1 _ (wm_4 (wm_1 wm_h))), ?_⟩
      refine wm_c ⟨(wk_X8_shares_X8_shares_r1 _ (wm_2 wm_h)), ?_⟩
      refine wm_c ⟨(wk_X8_shares_X8_shares_r1 _ (wm_8 (wm_4 wm_h))), ?_⟩
      refine wm_c ⟨(wk_X8_shares_X8_shares_r1 _ (wm_4 wm_h)), ?_⟩
      refine wm_c ⟨(wk_X8_shares_X8_shares_r1 _ (wm_8 (wm_4 (wm_1 wm_h)))), ?_⟩
      refine wm_c ⟨(wk_X8_shares_X8_shares_r1 _ (wm_8 (wm_4 (wm_2 wm_h)))), ?_⟩
      refine wm_c ⟨(wk_X8_shares_X8_shares_r1 _ (wm_4 (wm_2 wm_h))), ?_⟩
      refine wm_c ⟨(wk_X8_shares_X8_shares_r1 _ (wm_8 (wm_4 (wm_2 (wm_1 wm_h))))), ?_⟩
      refine wm_c ⟨(wk_X8_shares_X8_shares_r1 _ (wm_16 wm_h)), ?_⟩
      refine wm_c ⟨(wk_X8_shares_X8_shares_r1 _ (wm_16 (wm_1 wm_h))), ?_⟩
      refine wm_c ⟨(wk_X8_shares_X8_shares_r1 _ (wm_8 (wm_2 wm_h))), ?_⟩
      refine wm_c ⟨(wk_X8_shares_X8_shares_r1 _ (wm_16 (wm_2 wm_h))), ?_⟩
      refine wm_c ⟨(wk_X8_shares_X8_shares_r1 _ (wm_16 (wm_2 (wm_1 wm_h)))), ?_⟩
      refine wm_c ⟨(wk_X8_shares_X8_shares_r1 _ (wm_16 (wm_4 wm_h))), ?_⟩
      refine wm_c ⟨(wk_X8_shares_X8_shares_r1 _ (wm_16 (wm_4 (wm_1 wm_h)))), ?_⟩
      refine wm_c ⟨(wk_X8_shares_X8_shares_r1 _ (wm_16 (wm_4 (wm_2 wm_h)))), ?_⟩
      refine wm_c ⟨(wk_X8_shares_X8_shares_r1 _ (wm_2 (wm_1 wm_h))), ?_⟩
      refine wm_c ⟨(wk_X8_shares_X8_shares_r1 _ (wm_16 (wm_4 (wm_2 (wm_1 wm_h))))), ?_⟩
      refine wm_c ⟨(wk_X8_shares_X8_shares_r2 _ wm_h), ?_⟩
      refine wm_c ⟨(wk_X8_shares_X8_shares_r2 _ (wm_1 wm_h)), ?_⟩
      refine wm_c ⟨(wk_X8_shares_X8_shares_r2 _ (wm_2 wm_h)), ?_⟩
      refine wm_c ⟨(wk_X8_shares_X8_shares_r2 _ (wm_2 (wm_1 wm_h))), ?_⟩
      refine wm_c ⟨(wk_X8_shares_X8_shares_r2 _ (wm_4 wm_h)), ?_⟩
      refine wm_c ⟨(wk_X8_shares_X8_shares_r2 _ (wm_4 (wm_1 wm_h))), ?_⟩
      exact wm_n
    · unfold wsX8_ordered_r2
      refine wm_c ⟨(wk_X8_shares_X8_shares_r2 _ (wm_4 (wm_2 wm_h))), ?_⟩
      exact wm_n
  · exact wk_X8_shares_X80
set_option maxRecDepth 20000 in
theorem gX8_shares_X8_ordered : GoodIn wsX8_shares (wsV RX8 218 RX8 yX8_ordered wsX8_ordered) := by
  refine goodIn_app (goodIn_sub ?_ ?_) ggX8_shares_X8_ordered
  · exact wm_c ⟨(wk_X8_shares_X8_shares_r1 _ (wm_4 (wm_2 (wm_1 wm_h)))), wm_c ⟨(wk_X8_shares_X8_shares_r1 _ (wm_8 wm_h)), wm_c ⟨(wk_X8_shares_X8_shares_r1 _ (wm_8 (wm_1 wm_h))), wm_c ⟨(wk_X8_shares_X8_shares_r1 _ (wm_8 (wm_2 wm_h))), wm_n⟩⟩⟩⟩
  · decide +kernel
set_option maxRecDepth 20000 in
theorem ggX8_shares_X8_mod : GoodIn wsX8_shares wsX8_mod := by
  refine goodIn_sub ?_ gd_X8_mod
  unfold wsX8_mod
  refine wm_c ⟨(wk_X8_shares_X8_shares_r2 _ (wm_8 (wm_1 wm_h))), ?_⟩
  refine wm_c ⟨(wk_X8_shares_X8_shares_r1 _ (wm_4 (wm_2 wm_h))), ?_⟩
  exact wm_n
set_option maxRecDepth 20000 in
theorem gX8_shares_X8_mod : GoodIn wsX8_shares (va_wsS RX8 126 yX8_mod wsX8_mod) := goodIn_app (goodIn_of _ (by decide +kernel)) ggX8_shares_X8_mod
theorem dX8_shares_0 : decode cX8_shares 0 = .ok (.iconst 0, 1) := by decide +kernel
theorem dX8_shares_1 : decode cX8_shares 1 = .ok (.istore_n 2, 1) := by decide +kernel
theorem dX8_shares_2 : decode cX8_shares 2 = .ok (.iload_n 2, 1) := by decide +kernel
theorem dX8_shares_3 : decode cX8_shares 3 = .ok (.aload_n 0, 1) := by decide +kernel
theorem dX8_shares_4 : decode cX8_shares 4 = .ok (.getfield 95, 3) := by decide +kernel
theorem dX8_shares_7 : decode cX8_shares 7 = .ok (.if_icmp .ge 135, 3) := by decide +kernel
theorem dX8_shares_10 : decode cX8_shares 10 = .ok (.aload_n 0, 1) := by decide +kernel
theorem dX8_shares_11 : decode cX8_shares 11 = .ok (.getfield 23, 3) := by decide +kernel
theorem dX8_shares_14 : decode cX8_shares 14 = .ok (.sipush 364, 3) := by decide +kernel
theorem dX8_shares_17 : decode cX8_shares 17 = .ok (.iload_n 1, 1) := by decide +kernel
theorem dX8_shares_18 : decode cX8_shares 18 = .ok (.imul, 1) := by decide +kernel
theorem dX8_shares_19 : decode cX8_shares 19 = .ok (.iload_n 2, 1) := by decide +kernel
theorem dX8_shares_20 : decode cX8_shares 20 = .ok (.iadd, 1) := by decide +kernel
theorem dX8_shares_21 : decode cX8_shares 21 = .ok (.laload, 1) := by decide +kernel
theorem dX8_shares_22 : decode cX8_shares 22 = .ok (.lstore_n 3, 1) := by decide +kernel
theorem dX8_shares_23 : decode cX8_shares 23 = .ok (.lload_n 3, 1) := by decide +kernel
theorem dX8_shares_24 : decode cX8_shares 24 = .ok (.lconst 0, 1) := by decide +kernel
theorem dX8_shares_25 : decode cX8_shares 25 = .ok (.lcmp, 1) := by decide +kernel
theorem dX8_shares_26 : decode cX8_shares 26 = .ok (.ifCond .eq 110, 3) := by decide +kernel
theorem dX8_shares_29 : decode cX8_shares 29 = .ok (.aload_n 0, 1) := by decide +kernel
theorem dX8_shares_30 : decode cX8_shares 30 = .ok (.iload_n 2, 1) := by decide +kernel
theorem dX8_shares_31 : decode cX8_shares 31 = .ok (.invokevirtual 218, 3) := by decide +kernel
theorem dX8_shares_34 : decode cX8_shares 34 = .ok (.aload_n 0, 1) := by decide +kernel
theorem dX8_shares_35 : decode cX8_shares 35 = .ok (.getfield 20, 3) := by decide +kernel
theorem dX8_shares_38 : decode cX8_shares 38 = .ok (.iload_n 2, 1) := by decide +kernel
theorem dX8_shares_39 : decode cX8_shares 39 = .ok (.iaload, 1) := by decide +kernel
theorem dX8_shares_40 : decode cX8_shares 40 = .ok (.istore 5, 2) := by decide +kernel
theorem dX8_shares_42 : decode cX8_shares 42 = .ok (.iload_n 2, 1) := by decide +kernel
theorem dX8_shares_43 : decode cX8_shares 43 = .ok (.aload_n 0, 1) := by decide +kernel
theorem dX8_shares_44 : decode cX8_shares 44 = .ok (.getfield 17, 3) := by decide +kernel
theorem dX8_shares_47 : decode cX8_shares 47 = .ok (.iload 5, 2) := by decide +kernel
theorem dX8_shares_49 : decode cX8_shares 49 = .ok (.iaload, 1) := by decide +kernel
theorem dX8_shares_50 : decode cX8_shares 50 = .ok (.isub, 1) := by decide +kernel
theorem dX8_shares_51 : decode cX8_shares 51 = .ok (.iconst 1, 1) := by decide +kernel
theorem dX8_shares_52 : decode cX8_shares 52 = .ok (.iadd, 1) := by decide +kernel
theorem dX8_shares_53 : decode cX8_shares 53 = .ok (.istore 6, 2) := by decide +kernel
theorem dX8_shares_55 : decode cX8_shares 55 = .ok (.iload 6, 2) := by decide +kernel
theorem dX8_shares_57 : decode cX8_shares 57 = .ok (.aload_n 0, 1) := by decide +kernel
theorem dX8_shares_58 : decode cX8_shares 58 = .ok (.getfield 13, 3) := by decide +kernel
theorem dX8_shares_61 : decode cX8_shares 61 = .ok (.iload 5, 2) := by decide +kernel
theorem dX8_shares_63 : decode cX8_shares 63 = .ok (.iaload, 1) := by decide +kernel
theorem dX8_shares_64 : decode cX8_shares 64 = .ok (.if_icmp .ge 72, 3) := by decide +kernel
theorem dX8_shares_67 : decode cX8_shares 67 = .ok (.aload_n 0, 1) := by decide +kernel
theorem dX8_shares_68 : decode cX8_shares 68 = .ok (.getfield 23, 3) := by decide +kernel
theorem dX8_shares_71 : decode cX8_shares 71 = .ok (.sipush 364, 3) := by decide +kernel
theorem dX8_shares_74 : decode cX8_shares 74 = .ok (.iload_n 1, 1) := by decide +kernel
theorem dX8_shares_75 : decode cX8_shares 75 = .ok (.imul, 1) := by decide +kernel
theorem dX8_shares_76 : decode cX8_shares 76 = .ok (.aload_n 0, 1) := by decide +kernel
theorem dX8_shares_77 : decode cX8_shares 77 = .ok (.getfield 17, 3) := by decide +kernel
theorem dX8_shares_80 : decode cX8_shares 80 = .ok (.iload 5, 2) := by decide +kernel
theorem dX8_shares_82 : decode cX8_shares 82 = .ok (.iaload, 1) := by decide +kernel
theorem dX8_shares_83 : decode cX8_shares 83 = .ok (.iadd, 1) := by decide +kernel
theorem dX8_shares_84 : decode cX8_shares 84 = .ok (.iload 6, 2) := by decide +kernel
theorem dX8_shares_86 : decode cX8_shares 86 = .ok (.iadd, 1) := by decide +kernel
theorem dX8_shares_87 : decode cX8_shares 87 = .ok (.laload, 1) := by decide +kernel
theorem dX8_shares_88 : decode cX8_shares 88 = .ok (.lload_n 3, 1) := by decide +kernel
theorem dX8_shares_89 : decode cX8_shares 89 = .ok (.aload_n 0, 1) := by decide +kernel
theorem dX8_shares_90 : decode cX8_shares 90 = .ok (.getfield 45, 3) := by decide +kernel
theorem dX8_shares_93 : decode cX8_shares 93 = .ok (.iload 6, 2) := by decide +kernel
theorem dX8_shares_95 : decode cX8_shares 95 = .ok (.laload, 1) := by decide +kernel
theorem dX8_shares_96 : decode cX8_shares 96 = .ok (.lmul, 1) := by decide +kernel
theorem dX8_shares_97 : decode cX8_shares 97 = .ok (.ldc2_w 3, 3) := by decide +kernel
theorem dX8_shares_100 : decode cX8_shares 100 = .ok (.lrem, 1) := by decide +kernel
theorem dX8_shares_101 : decode cX8_shares 101 = .ok (.lsub, 1) := by decide +kernel
theorem dX8_shares_102 : decode cX8_shares 102 = .ok (.lstore 7, 2) := by decide +kernel
theorem dX8_shares_104 : decode cX8_shares 104 = .ok (.aload_n 0, 1) := by decide +kernel
theorem dX8_shares_105 : decode cX8_shares 105 = .ok (.getfield 23, 3) := by decide +kernel
theorem dX8_shares_108 : decode cX8_shares 108 = .ok (.sipush 364, 3) := by decide +kernel
theorem dX8_shares_111 : decode cX8_shares 111 = .ok (.iload_n 1, 1) := by decide +kernel
theorem dX8_shares_112 : decode cX8_shares 112 = .ok (.imul, 1) := by decide +kernel
theorem dX8_shares_113 : decode cX8_shares 113 = .ok (.aload_n 0, 1) := by decide +kernel
theorem dX8_shares_114 : decode cX8_shares 114 = .ok (.getfield 17, 3) := by decide +kernel
theorem dX8_shares_117 : decode cX8_shares 117 = .ok (.iload 5, 2) := by decide +kernel
theorem dX8_shares_119 : decode cX8_shares 119 = .ok (.iaload, 1) := by decide +kernel
theorem dX8_shares_120 : decode cX8_shares 120 = .ok (.iadd, 1) := by decide +kernel
theorem dX8_shares_121 : decode cX8_shares 121 = .ok (.iload 6, 2) := by decide +kernel
theorem dX8_shares_123 : decode cX8_shares 123 = .ok (.iadd, 1) := by decide +kernel
theorem dX8_shares_124 : decode cX8_shares 124 = .ok (.lload 7, 2) := by decide +kernel
theorem dX8_shares_126 : decode cX8_shares 126 = .ok (.invokestatic 126, 3) := by decide +kernel
theorem dX8_shares_129 : decode cX8_shares 129 = .ok (.lastore, 1) := by decide +kernel
theorem dX8_shares_130 : decode cX8_shares 130 = .ok (.iinc 6 1, 3) := by decide +kernel
theorem dX8_shares_133 : decode cX8_shares 133 = .ok (.goto (-78), 3) := by decide +kernel
theorem dX8_shares_136 : decode cX8_shares 136 = .ok (.iinc 2 1, 3) := by decide +kernel
theorem dX8_shares_139 : decode cX8_shares 139 = .ok (.goto (-137), 3) := by decide +kernel
theorem dX8_shares_142 : decode cX8_shares 142 = .ok (.return_, 1) := by decide +kernel
set_option maxRecDepth 20000 in
theorem ggX8_share_X8_wordOf : GoodIn wsX8_share wsX8_wordOf := by
  refine goodIn_sub ?_ gd_X8_wordOf
  unfold wsX8_wordOf
  refine wm_c ⟨(wk_X8_share_X8_share_r1 _ (wm_4 (wm_1 wm_h))), ?_⟩
  refine wm_a ⟨?_, ?_⟩
  · refine wm_c ⟨(wk_X8_share_X8_share_r1 _ (wm_4 (wm_2 wm_h))), ?_⟩
    refine wm_c ⟨(wk_X8_share_X8_share_r1 _ (wm_4 (wm_2 (wm_1 wm_h)))), ?_⟩
    refine wm_c ⟨(wk_X8_share_X8_share_r1 _ (wm_8 wm_h)), ?_⟩
    refine wm_c ⟨(wk_X8_share_X8_share_r1 _ (wm_8 (wm_1 wm_h))), ?_⟩
    refine wm_c ⟨(wk_X8_share_X8_share_r1 _ (wm_8 (wm_2 wm_h))), ?_⟩
    refine wm_c ⟨(wk_X8_share_X8_share_r1 _ (wm_4 wm_h)), ?_⟩
    refine wm_c ⟨(wk_X8_share_X8_share_r1 _ (wm_8 (wm_2 (wm_1 wm_h)))), ?_⟩
    exact wm_n
  · exact wk_X8_share_X80
set_option maxRecDepth 20000 in
theorem gX8_share_X8_wordOf : GoodIn wsX8_share (wsV RX8 164 RX8 yX8_wordOf wsX8_wordOf) := by
  refine goodIn_app (goodIn_sub ?_ ?_) ggX8_share_X8_wordOf
  · exact wm_c ⟨(wk_X8_share_X8_share_r1 _ (wm_1 wm_h)), wm_c ⟨(wk_X8_share_X8_share_r1 _ (wm_2 wm_h)), wm_c ⟨(wk_X8_share_X8_share_r1 _ (wm_2 (wm_1 wm_h))), wm_c ⟨(wk_X8_share_X8_share_r1 _ (wm_4 wm_h)), wm_n⟩⟩⟩⟩
  · decide +kernel
set_option maxRecDepth 20000 in
theorem ggX8_share_X8_isSum : GoodIn wsX8_share wsX8_isSum := by
  refine goodIn_sub ?_ gd_X8_isSum
  unfold wsX8_isSum
  refine wm_c ⟨(wk_X8_share_X8_share_r1 _ (wm_8 (wm_4 (wm_2 wm_h)))), ?_⟩
  refine wm_c ⟨(wk_X8_share_X8_share_r1 _ (wm_8 (wm_4 (wm_2 (wm_1 wm_h))))), ?_⟩
  refine wm_c ⟨(wk_X8_share_X8_share_r1 _ (wm_8 (wm_1 wm_h))), ?_⟩
  refine wm_c ⟨(wk_X8_share_X8_share_r1 _ (wm_8 (wm_2 wm_h))), ?_⟩
  refine wm_c ⟨(wk_X8_share_X8_share_r1 _ (wm_4 wm_h)), ?_⟩
  refine wm_c ⟨(wk_X8_share_X8_share_r1 _ (wm_8 (wm_2 (wm_1 wm_h)))), ?_⟩
  exact wm_n
set_option maxRecDepth 20000 in
theorem gX8_share_X8_isSum : GoodIn wsX8_share (va_wsS RX8 157 yX8_isSum wsX8_isSum) := goodIn_app (goodIn_of _ (by decide +kernel)) ggX8_share_X8_isSum
set_option maxRecDepth 20000 in
theorem ggX8_share_X8_copies : GoodIn wsX8_share wsX8_copies := by
  refine goodIn_sub ?_ gd_X8_copies
  unfold wsX8_copies
  refine wm_c ⟨(wk_X8_share_X8_share_r1 _ (wm_16 (wm_2 (wm_1 wm_h)))), ?_⟩
  refine wm_a ⟨?_, ?_⟩
  · refine wm_c ⟨(wk_X8_share_X8_share_r1 _ (wm_16 (wm_4 wm_h))), ?_⟩
    refine wm_c ⟨(wk_X8_share_X8_share_r1 _ wm_h), ?_⟩
    exact wm_n
  · exact wk_X8_share_X80
set_option maxRecDepth 20000 in
theorem gX8_share_X8_copies : GoodIn wsX8_share (wsV RX8 139 RX8 yX8_copies wsX8_copies) := by
  refine goodIn_app (goodIn_sub ?_ ?_) ggX8_share_X8_copies
  · exact wm_c ⟨(wk_X8_share_X8_share_r1 _ (wm_16 wm_h)), wm_c ⟨(wk_X8_share_X8_share_r1 _ (wm_16 (wm_1 wm_h))), wm_c ⟨(wk_X8_share_X8_share_r1 _ (wm_16 (wm_2 wm_h))), wm_c ⟨(wk_X8_share_X8_share_r1 _ (wm_4 wm_h)), wm_n⟩⟩⟩⟩
  · decide +kernel
set_option maxRecDepth 20000 in
theorem ggX8_share_X8_shares : GoodIn wsX8_share wsX8_shares := by
  refine goodIn_sub ?_ gd_X8_shares
  unfold wsX8_shares
  refine wm_c ⟨(wk_X8_share_X8_share_r2 _ wm_h), ?_⟩
  refine wm_a ⟨?_, ?_⟩
  · refine wm_a ⟨?_, ?_⟩
    · unfold wsX8_shares_r1
      refine wm_c ⟨(wk_X8_share_X8_share_r1 _ (wm_16 (wm_4 wm_h))), ?_⟩
      refine wm_c ⟨(wk_X8_share_X8_share_r1 _ wm_h), ?_⟩
      refine wm_c ⟨(wk_X8_share_X8_share_r2 _ (wm_1 wm_h)), ?_⟩
      refine wm_c ⟨(wk_X8_share_X8_share_r1 _ (wm_8 wm_h)), ?_⟩
      refine wm_c ⟨(wk_X8_share_X8_share_r2 _ (wm_2 wm_h)), ?_⟩
      refine wm_c ⟨(wk_X8_share_X8_share_r2 _ (wm_2 (wm_1 wm_h))), ?_⟩
      refine wm_c ⟨(wk_X8_share_X8_share_r2 _ (wm_4 wm_h)), ?_⟩
      refine wm_c ⟨(wk_X8_share_X8_share_r2 _ (wm_4 (wm_1 wm_h))), ?_⟩
      refine wm_c ⟨(wk_X8_share_X8_share_r2 _ (wm_4 (wm_2 wm_h))), ?_⟩
      refine wm_c ⟨(wk_X8_share_X8_share_r2 _ (wm_4 (wm_2 (wm_1 wm_h)))), ?_⟩
      refine wm_c ⟨(wk_X8_share_X8_share_r1 _ (wm_4 wm_h)), ?_⟩
      refine wm_c ⟨(wk_X8_share_X8_share_r2 _ (wm_8 wm_h)), ?_⟩
      refine wm_c ⟨(wk_X8_share_X8_share_r2 _ (wm_8 (wm_1 wm_h))), ?_⟩
      refine wm_c ⟨(wk_X8_share_X8_share_r2 _ (wm_8 (wm_2 wm_h))), ?_⟩
      refine wm_c ⟨(wk_X8_share_X8_share_r2 _ (wm_8 (wm_2 (wm_1 wm_h)))), ?_⟩
      refine wm_c ⟨(wk_X8_share_X8_share_r2 _ (wm_8 (wm_4 wm_h))), ?_⟩
      refine wm_c ⟨(wk_X8_share_X8_share_r2 _ (wm_8 (wm_4 (wm_1 wm_h)))), ?_⟩
      refine wm_c ⟨(wk_X8_share_X8_share_r2 _ (wm_8 (wm_4 (wm_2 wm_h)))), ?_⟩
      refine wm_c ⟨(wk_X8_share_X8_share_r2 _ (wm_8 (wm_4 (wm_2 (wm_1 wm_h))))), ?_⟩
      refine wm_c ⟨(wk_X8_share_X8_share_r2 _ (wm_16 wm_h)), ?_⟩
      refine wm_c ⟨(wk_X8_share_X8_share_r2 _ (wm_16 (wm_1 wm_h))), ?_⟩
      refine wm_c ⟨(wk_X8_share_X8_share_r2 _ (wm_16 (wm_2 wm_h))), ?_⟩
      refine wm_c ⟨(wk_X8_share_X8_share_r2 _ (wm_16 (wm_2 (wm_1 wm_h)))), ?_⟩
      refine wm_c ⟨(wk_X8_share_X8_share_r2 _ (wm_16 (wm_4 wm_h))), ?_⟩
      exact wm_n
    · unfold wsX8_shares_r2
      refine wm_c ⟨(wk_X8_share_X8_share_r2 _ (wm_16 (wm_4 (wm_1 wm_h)))), ?_⟩
      refine wm_c ⟨(wk_X8_share_X8_share_r2 _ (wm_16 (wm_4 (wm_2 wm_h)))), ?_⟩
      refine wm_c ⟨(wk_X8_share_X8_share_r2 _ (wm_16 (wm_4 (wm_2 (wm_1 wm_h))))), ?_⟩
      refine wm_c ⟨(wk_X8_share_X8_share_r3 _ wm_h), ?_⟩
      refine wm_c ⟨(wk_X8_share_X8_share_r3 _ (wm_1 wm_h)), ?_⟩
      refine wm_c ⟨(wk_X8_share_X8_share_r3 _ (wm_2 wm_h)), ?_⟩
      refine wm_c ⟨(wk_X8_share_X8_share_r3 _ (wm_2 (wm_1 wm_h))), ?_⟩
      refine wm_c ⟨(wk_X8_share_X8_share_r3 _ (wm_4 wm_h)), ?_⟩
      refine wm_c ⟨(wk_X8_share_X8_share_r3 _ (wm_4 (wm_1 wm_h))), ?_⟩
      refine wm_c ⟨(wk_X8_share_X8_share_r3 _ (wm_4 (wm_2 wm_h))), ?_⟩
      exact wm_n
  · exact wk_X8_share_X80
set_option maxRecDepth 20000 in
theorem gX8_share_X8_shares : GoodIn wsX8_share (wsV RX8 221 RX8 yX8_shares wsX8_shares) := by
  refine goodIn_app (goodIn_sub ?_ ?_) ggX8_share_X8_shares
  · exact wm_c ⟨(wk_X8_share_X8_share_r1 _ (wm_16 (wm_4 (wm_1 wm_h)))), wm_c ⟨(wk_X8_share_X8_share_r1 _ (wm_16 (wm_4 (wm_2 wm_h)))), wm_c ⟨(wk_X8_share_X8_share_r1 _ (wm_16 (wm_4 (wm_2 (wm_1 wm_h))))), wm_c ⟨(wk_X8_share_X8_share_r1 _ (wm_4 wm_h)), wm_n⟩⟩⟩⟩
  · decide +kernel
theorem dX8_share_0 : decode cX8_share 0 = .ok (.aload_n 0, 1) := by decide +kernel
theorem dX8_share_1 : decode cX8_share 1 = .ok (.iload_n 2, 1) := by decide +kernel
theorem dX8_share_2 : decode cX8_share 2 = .ok (.invokevirtual 164, 3) := by decide +kernel
theorem dX8_share_5 : decode cX8_share 5 = .ok (.istore_n 3, 1) := by decide +kernel
theorem dX8_share_6 : decode cX8_share 6 = .ok (.iload_n 1, 1) := by decide +kernel
theorem dX8_share_7 : decode cX8_share 7 = .ok (.invokestatic 157, 3) := by decide +kernel
theorem dX8_share_10 : decode cX8_share 10 = .ok (.ifCond .eq 8, 3) := by decide +kernel
theorem dX8_share_13 : decode cX8_share 13 = .ok (.iload_n 3, 1) := by decide +kernel
theorem dX8_share_14 : decode cX8_share 14 = .ok (.iconst (-1), 1) := by decide +kernel
theorem dX8_share_15 : decode cX8_share 15 = .ok (.if_icmp .ne 5, 3) := by decide +kernel
theorem dX8_share_18 : decode cX8_share 18 = .ok (.iconst (-1), 1) := by decide +kernel
theorem dX8_share_19 : decode cX8_share 19 = .ok (.ireturn, 1) := by decide +kernel
theorem dX8_share_20 : decode cX8_share 20 = .ok (.aload_n 0, 1) := by decide +kernel
theorem dX8_share_21 : decode cX8_share 21 = .ok (.bipush 8, 2) := by decide +kernel
theorem dX8_share_23 : decode cX8_share 23 = .ok (.iload_n 1, 1) := by decide +kernel
theorem dX8_share_24 : decode cX8_share 24 = .ok (.invokevirtual 139, 3) := by decide +kernel
theorem dX8_share_27 : decode cX8_share 27 = .ok (.aload_n 0, 1) := by decide +kernel
theorem dX8_share_28 : decode cX8_share 28 = .ok (.bipush 8, 2) := by decide +kernel
theorem dX8_share_30 : decode cX8_share 30 = .ok (.invokevirtual 221, 3) := by decide +kernel
theorem dX8_share_33 : decode cX8_share 33 = .ok (.aload_n 0, 1) := by decide +kernel
theorem dX8_share_34 : decode cX8_share 34 = .ok (.getfield 23, 3) := by decide +kernel
theorem dX8_share_37 : decode cX8_share 37 = .ok (.sipush 2912, 3) := by decide +kernel
theorem dX8_share_40 : decode cX8_share 40 = .ok (.iload_n 3, 1) := by decide +kernel
theorem dX8_share_41 : decode cX8_share 41 = .ok (.iadd, 1) := by decide +kernel
theorem dX8_share_42 : decode cX8_share 42 = .ok (.laload, 1) := by decide +kernel
theorem dX8_share_43 : decode cX8_share 43 = .ok (.l2i, 1) := by decide +kernel
theorem dX8_share_44 : decode cX8_share 44 = .ok (.ireturn, 1) := by decide +kernel
set_option maxRecDepth 20000 in
theorem ggX8_isLie_X8_copies : GoodIn wsX8_isLie wsX8_copies := by
  refine goodIn_sub ?_ gd_X8_copies
  unfold wsX8_copies
  refine wm_c ⟨(wk_X8_isLie_X8_isLie_r1 _ (wm_4 (wm_2 (wm_1 wm_h)))), ?_⟩
  refine wm_a ⟨?_, ?_⟩
  · refine wm_c ⟨(wk_X8_isLie_X8_isLie_r1 _ wm_h), ?_⟩
    refine wm_c ⟨(wk_X8_isLie_X8_isLie_r1 _ (wm_1 wm_h)), ?_⟩
    exact wm_n
  · exact wk_X8_isLie_X80
set_option maxRecDepth 20000 in
theorem gX8_isLie_X8_copies : GoodIn wsX8_isLie (wsV RX8 139 RX8 yX8_copies wsX8_copies) := by
  refine goodIn_app (goodIn_sub ?_ ?_) ggX8_isLie_X8_copies
  · exact wm_c ⟨(wk_X8_isLie_X8_isLie_r1 _ (wm_2 (wm_1 wm_h))), wm_c ⟨(wk_X8_isLie_X8_isLie_r1 _ (wm_4 wm_h)), wm_c ⟨(wk_X8_isLie_X8_isLie_r1 _ (wm_4 (wm_1 wm_h))), wm_c ⟨(wk_X8_isLie_X8_isLie_r1 _ (wm_4 (wm_2 wm_h))), wm_n⟩⟩⟩⟩
  · decide +kernel
set_option maxRecDepth 20000 in
theorem ggX8_isLie_X8_shares : GoodIn wsX8_isLie wsX8_shares := by
  refine goodIn_sub ?_ gd_X8_shares
  unfold wsX8_shares
  refine wm_c ⟨(wk_X8_isLie_X8_isLie_r1 _ (wm_8 (wm_2 (wm_1 wm_h)))), ?_⟩
  refine wm_a ⟨?_, ?_⟩
  · refine wm_a ⟨?_, ?_⟩
    · unfold wsX8_shares_r1
      refine wm_c ⟨(wk_X8_isLie_X8_isLie_r1 _ wm_h), ?_⟩
      refine wm_c ⟨(wk_X8_isLie_X8_isLie_r1 _ (wm_1 wm_h)), ?_⟩
      refine wm_c ⟨(wk_X8_isLie_X8_isLie_r1 _ (wm_8 (wm_4 wm_h))), ?_⟩
      refine wm_c ⟨(wk_X8_isLie_X8_isLie_r1 _ (wm_8 (wm_4 (wm_1 wm_h)))), ?_⟩
      refine wm_c ⟨(wk_X8_isLie_X8_isLie_r1 _ (wm_8 (wm_4 (wm_2 wm_h)))), ?_⟩
      refine wm_c ⟨(wk_X8_isLie_X8_isLie_r1 _ (wm_8 (wm_4 (wm_2 (wm_1 wm_h))))), ?_⟩
      refine wm_c ⟨(wk_X8_isLie_X8_isLie_r1 _ (wm_16 wm_h)), ?_⟩
      refine wm_c ⟨(wk_X8_isLie_X8_isLie_r1 _ (wm_16 (wm_1 wm_h))), ?_⟩
      refine wm_c ⟨(wk_X8_isLie_X8_isLie_r1 _ (wm_16 (wm_2 wm_h))), ?_⟩
      refine wm_c ⟨(wk_X8_isLie_X8_isLie_r1 _ (wm_16 (wm_2 (wm_1 wm_h)))), ?_⟩
      refine wm_c ⟨(wk_X8_isLie_X8_isLie_r1 _ (wm_4 (wm_2 wm_h))), ?_⟩
      refine wm_c ⟨(wk_X8_isLie_X8_isLie_r1 _ (wm_16 (wm_4 wm_h))), ?_⟩
      refine wm_c ⟨(wk_X8_isLie_X8_isLie_r1 _ (wm_2 wm_h)), ?_⟩
      refine wm_c ⟨(wk_X8_isLie_X8_isLie_r1 _ (wm_16 (wm_4 (wm_1 wm_h)))), ?_⟩
      refine wm_c ⟨(wk_X8_isLie_X8_isLie_r1 _ (wm_16 (wm_4 (wm_2 wm_h)))), ?_⟩
      refine wm_c ⟨(wk_X8_isLie_X8_isLie_r1 _ (wm_16 (wm_4 (wm_2 (wm_1 wm_h))))), ?_⟩
      refine wm_c ⟨(wk_X8_isLie_X8_isLie_r2 _ wm_h), ?_⟩
      refine wm_c ⟨(wk_X8_isLie_X8_isLie_r2 _ (wm_1 wm_h)), ?_⟩
      refine wm_c ⟨(wk_X8_isLie_X8_isLie_r2 _ (wm_2 wm_h)), ?_⟩
      refine wm_c ⟨(wk_X8_isLie_X8_isLie_r2 _ (wm_2 (wm_1 wm_h))), ?_⟩
      refine wm_c ⟨(wk_X8_isLie_X8_isLie_r2 _ (wm_4 wm_h)), ?_⟩
      refine wm_c ⟨(wk_X8_isLie_X8_isLie_r2 _ (wm_4 (wm_1 wm_h))), ?_⟩
      refine wm_c ⟨(wk_X8_isLie_X8_isLie_r2 _ (wm_4 (wm_2 wm_h))), ?_⟩
      refine wm_c ⟨(wk_X8_isLie_X8_isLie_r2 _ (wm_4 (wm_2 (wm_1 wm_h)))), ?_⟩
      exact wm_n
    · unfold wsX8_shares_r2
      refine wm_c ⟨(wk_X8_isLie_X8_isLie_r2 _ (wm_8 wm_h)), ?_⟩
      refine wm_c ⟨(wk_X8_isLie_X8_isLie_r2 _ (wm_8 (wm_1 wm_h))), ?_⟩
      refine wm_c ⟨(wk_X8_isLie_X8_isLie_r2 _ (wm_8 (wm_2 wm_h))), ?_⟩
      refine wm_c ⟨(wk_X8_isLie_X8_isLie_r2 _ (wm_8 (wm_2 (wm_1 wm_h)))), ?_⟩
      refine wm_c ⟨(wk_X8_isLie_X8_isLie_r2 _ (wm_8 (wm_4 wm_h))), ?_⟩
      refine wm_c ⟨(wk_X8_isLie_X8_isLie_r2 _ (wm_8 (wm_4 (wm_1 wm_h)))), ?_⟩
      refine wm_c ⟨(wk_X8_isLie_X8_isLie_r2 _ (wm_8 (wm_4 (wm_2 wm_h)))), ?_⟩
      refine wm_c ⟨(wk_X8_isLie_X8_isLie_r2 _ (wm_8 (wm_4 (wm_2 (wm_1 wm_h))))), ?_⟩
      refine wm_c ⟨(wk_X8_isLie_X8_isLie_r2 _ (wm_16 wm_h)), ?_⟩
      refine wm_c ⟨(wk_X8_isLie_X8_isLie_r2 _ (wm_16 (wm_1 wm_h))), ?_⟩
      exact wm_n
  · exact wk_X8_isLie_X80
set_option maxRecDepth 20000 in
theorem gX8_isLie_X8_shares : GoodIn wsX8_isLie (wsV RX8 221 RX8 yX8_shares wsX8_shares) := by
  refine goodIn_app (goodIn_sub ?_ ?_) ggX8_isLie_X8_shares
  · exact wm_c ⟨(wk_X8_isLie_X8_isLie_r1 _ (wm_8 wm_h)), wm_c ⟨(wk_X8_isLie_X8_isLie_r1 _ (wm_8 (wm_1 wm_h))), wm_c ⟨(wk_X8_isLie_X8_isLie_r1 _ (wm_8 (wm_2 wm_h))), wm_c ⟨(wk_X8_isLie_X8_isLie_r1 _ (wm_4 (wm_2 wm_h))), wm_n⟩⟩⟩⟩
  · decide +kernel
theorem dX8_isLie_0 : decode cX8_isLie 0 = .ok (.aload_n 0, 1) := by decide +kernel
theorem dX8_isLie_1 : decode cX8_isLie 1 = .ok (.bipush 8, 2) := by decide +kernel
theorem dX8_isLie_3 : decode cX8_isLie 3 = .ok (.iload_n 1, 1) := by decide +kernel
theorem dX8_isLie_4 : decode cX8_isLie 4 = .ok (.invokevirtual 139, 3) := by decide +kernel
theorem dX8_isLie_7 : decode cX8_isLie 7 = .ok (.aload_n 0, 1) := by decide +kernel
theorem dX8_isLie_8 : decode cX8_isLie 8 = .ok (.bipush 8, 2) := by decide +kernel
theorem dX8_isLie_10 : decode cX8_isLie 10 = .ok (.invokevirtual 221, 3) := by decide +kernel
theorem dX8_isLie_13 : decode cX8_isLie 13 = .ok (.iconst 0, 1) := by decide +kernel
theorem dX8_isLie_14 : decode cX8_isLie 14 = .ok (.istore_n 2, 1) := by decide +kernel
theorem dX8_isLie_15 : decode cX8_isLie 15 = .ok (.iload_n 2, 1) := by decide +kernel
theorem dX8_isLie_16 : decode cX8_isLie 16 = .ok (.aload_n 0, 1) := by decide +kernel
theorem dX8_isLie_17 : decode cX8_isLie 17 = .ok (.getfield 95, 3) := by decide +kernel
theorem dX8_isLie_20 : decode cX8_isLie 20 = .ok (.if_icmp .ge 36, 3) := by decide +kernel
theorem dX8_isLie_23 : decode cX8_isLie 23 = .ok (.aload_n 0, 1) := by decide +kernel
theorem dX8_isLie_24 : decode cX8_isLie 24 = .ok (.getfield 23, 3) := by decide +kernel
theorem dX8_isLie_27 : decode cX8_isLie 27 = .ok (.sipush 2912, 3) := by decide +kernel
theorem dX8_isLie_30 : decode cX8_isLie 30 = .ok (.iload_n 2, 1) := by decide +kernel
theorem dX8_isLie_31 : decode cX8_isLie 31 = .ok (.iadd, 1) := by decide +kernel
theorem dX8_isLie_32 : decode cX8_isLie 32 = .ok (.laload, 1) := by decide +kernel
theorem dX8_isLie_33 : decode cX8_isLie 33 = .ok (.lconst 0, 1) := by decide +kernel
theorem dX8_isLie_34 : decode cX8_isLie 34 = .ok (.lcmp, 1) := by decide +kernel
theorem dX8_isLie_35 : decode cX8_isLie 35 = .ok (.ifCond .eq 15, 3) := by decide +kernel
theorem dX8_isLie_38 : decode cX8_isLie 38 = .ok (.aload_n 0, 1) := by decide +kernel
theorem dX8_isLie_39 : decode cX8_isLie 39 = .ok (.getfield 39, 3) := by decide +kernel
theorem dX8_isLie_42 : decode cX8_isLie 42 = .ok (.iload_n 2, 1) := by decide +kernel
theorem dX8_isLie_43 : decode cX8_isLie 43 = .ok (.iaload, 1) := by decide +kernel
theorem dX8_isLie_44 : decode cX8_isLie 44 = .ok (.iconst (-1), 1) := by decide +kernel
theorem dX8_isLie_45 : decode cX8_isLie 45 = .ok (.if_icmp .ne 5, 3) := by decide +kernel
theorem dX8_isLie_48 : decode cX8_isLie 48 = .ok (.iconst 0, 1) := by decide +kernel
theorem dX8_isLie_49 : decode cX8_isLie 49 = .ok (.ireturn, 1) := by decide +kernel
theorem dX8_isLie_50 : decode cX8_isLie 50 = .ok (.iinc 2 1, 3) := by decide +kernel
theorem dX8_isLie_53 : decode cX8_isLie 53 = .ok (.goto (-38), 3) := by decide +kernel
theorem dX8_isLie_56 : decode cX8_isLie 56 = .ok (.iconst 1, 1) := by decide +kernel
theorem dX8_isLie_57 : decode cX8_isLie 57 = .ok (.ireturn, 1) := by decide +kernel
set_option maxRecDepth 20000 in
theorem ggX8_lie_X8_isSum : GoodIn wsX8_lie wsX8_isSum := by
  refine goodIn_sub ?_ gd_X8_isSum
  unfold wsX8_isSum
  refine wm_c ⟨(wk_X8_lie_X8_lie_r1 _ (wm_2 (wm_1 wm_h))), ?_⟩
  refine wm_c ⟨(wk_X8_lie_X8_lie_r1 _ (wm_4 wm_h)), ?_⟩
  refine wm_c ⟨(wk_X8_lie_X8_lie_r1 _ (wm_4 (wm_1 wm_h))), ?_⟩
  refine wm_c ⟨(wk_X8_lie_X8_lie_r1 _ (wm_4 (wm_2 wm_h))), ?_⟩
  refine wm_c ⟨(wk_X8_lie_X8_lie_r1 _ (wm_2 wm_h)), ?_⟩
  refine wm_c ⟨(wk_X8_lie_X8_lie_r1 _ (wm_4 (wm_2 (wm_1 wm_h)))), ?_⟩
  exact wm_n
set_option maxRecDepth 20000 in
theorem gX8_lie_X8_isSum : GoodIn wsX8_lie (va_wsS RX8 157 yX8_isSum wsX8_isSum) := goodIn_app (goodIn_of _ (by decide +kernel)) ggX8_lie_X8_isSum
set_option maxRecDepth 20000 in
theorem ggX8_lie_X8_isLie : GoodIn wsX8_lie wsX8_isLie := by
  refine goodIn_sub ?_ gd_X8_isLie
  unfold wsX8_isLie
  refine wm_c ⟨(wk_X8_lie_X8_lie_r1 _ (wm_8 (wm_2 (wm_1 wm_h)))), ?_⟩
  refine wm_a ⟨?_, ?_⟩
  · refine wm_a ⟨?_, ?_⟩
    · unfold wsX8_isLie_r1
      refine wm_c ⟨(wk_X8_lie_X8_lie_r1 _ (wm_8 (wm_4 wm_h))), ?_⟩
      refine wm_c ⟨(wk_X8_lie_X8_lie_r1 _ (wm_8 (wm_4 (wm_1 wm_h)))), ?_⟩
      refine wm_c ⟨(wk_X8_lie_X8_lie_r1 _ (wm_8 (wm_4 (wm_2 wm_h)))), ?_⟩
      refine wm_c ⟨(wk_X8_lie_X8_lie_r1 _ (wm_8 (wm_4 (wm_2 (wm_1 wm_h))))), ?_⟩
      refine wm_c ⟨(wk_X8_lie_X8_lie_r1 _ (wm_16 wm_h)), ?_⟩
      refine wm_c ⟨(wk_X8_lie_X8_lie_r1 _ (wm_16 (wm_1 wm_h))), ?_⟩
      refine wm_c ⟨(wk_X8_lie_X8_lie_r1 _ (wm_2 wm_h)), ?_⟩
      refine wm_c ⟨(wk_X8_lie_X8_lie_r1 _ (wm_16 (wm_2 wm_h))), ?_⟩
      refine wm_c ⟨(wk_X8_lie_X8_lie_r1 _ (wm_16 (wm_2 (wm_1 wm_h)))), ?_⟩
      refine wm_c ⟨(wk_X8_lie_X8_lie_r1 _ (wm_16 (wm_4 wm_h))), ?_⟩
      refine wm_c ⟨(wk_X8_lie_X8_lie_r1 _ (wm_16 (wm_4 (wm_1 wm_h)))), ?_⟩
      refine wm_c ⟨(wk_X8_lie_X8_lie_r1 _ (wm_16 (wm_4 (wm_2 wm_h)))), ?_⟩
      refine wm_c ⟨(wk_X8_lie_X8_lie_r1 _ (wm_16 (wm_4 (wm_2 (wm_1 wm_h))))), ?_⟩
      refine wm_c ⟨(wk_X8_lie_X8_lie_r2 _ wm_h), ?_⟩
      refine wm_c ⟨(wk_X8_lie_X8_lie_r2 _ (wm_1 wm_h)), ?_⟩
      refine wm_c ⟨(wk_X8_lie_X8_lie_r2 _ (wm_2 wm_h)), ?_⟩
      refine wm_c ⟨(wk_X8_lie_X8_lie_r2 _ (wm_2 (wm_1 wm_h))), ?_⟩
      refine wm_c ⟨(wk_X8_lie_X8_lie_r2 _ (wm_4 wm_h)), ?_⟩
      refine wm_c ⟨(wk_X8_lie_X8_lie_r2 _ (wm_4 (wm_1 wm_h))), ?_⟩
      refine wm_c ⟨(wk_X8_lie_X8_lie_r2 _ (wm_4 (wm_2 wm_h))), ?_⟩
      refine wm_c ⟨(wk_X8_lie_X8_lie_r2 _ (wm_4 (wm_2 (wm_1 wm_h)))), ?_⟩
      refine wm_c ⟨(wk_X8_lie_X8_lie_r2 _ (wm_8 wm_h)), ?_⟩
      refine wm_c ⟨(wk_X8_lie_X8_lie_r2 _ (wm_8 (wm_1 wm_h))), ?_⟩
      refine wm_c ⟨(wk_X8_lie_X8_lie_r2 _ (wm_8 (wm_2 wm_h))), ?_⟩
      exact wm_n
    · unfold wsX8_isLie_r2
      refine wm_c ⟨(wk_X8_lie_X8_lie_r2 _ (wm_8 (wm_2 (wm_1 wm_h)))), ?_⟩
      refine wm_c ⟨(wk_X8_lie_X8_lie_r2 _ (wm_8 (wm_4 wm_h))), ?_⟩
      refine wm_c ⟨(wk_X8_lie_X8_lie_r2 _ (wm_8 (wm_4 (wm_1 wm_h)))), ?_⟩
      refine wm_c ⟨(wk_X8_lie_X8_lie_r2 _ (wm_8 (wm_4 (wm_2 wm_h)))), ?_⟩
      refine wm_c ⟨(wk_X8_lie_X8_lie_r2 _ (wm_8 (wm_4 (wm_2 (wm_1 wm_h))))), ?_⟩
      refine wm_c ⟨(wk_X8_lie_X8_lie_r2 _ (wm_16 wm_h)), ?_⟩
      refine wm_c ⟨(wk_X8_lie_X8_lie_r2 _ (wm_16 (wm_1 wm_h))), ?_⟩
      refine wm_c ⟨(wk_X8_lie_X8_lie_r2 _ (wm_16 (wm_2 wm_h))), ?_⟩
      refine wm_c ⟨(wk_X8_lie_X8_lie_r2 _ (wm_16 (wm_2 (wm_1 wm_h)))), ?_⟩
      refine wm_c ⟨(wk_X8_lie_X8_lie_r2 _ (wm_16 (wm_4 wm_h))), ?_⟩
      refine wm_c ⟨(wk_X8_lie_X8_lie_r2 _ (wm_16 (wm_4 (wm_1 wm_h)))), ?_⟩
      refine wm_c ⟨(wk_X8_lie_X8_lie_r2 _ (wm_16 (wm_4 (wm_2 wm_h)))), ?_⟩
      refine wm_c ⟨(wk_X8_lie_X8_lie_r2 _ (wm_16 (wm_4 (wm_2 (wm_1 wm_h))))), ?_⟩
      refine wm_c ⟨(wk_X8_lie_X8_lie_r3 _ wm_h), ?_⟩
      refine wm_c ⟨(wk_X8_lie_X8_lie_r3 _ (wm_1 wm_h)), ?_⟩
      refine wm_c ⟨(wk_X8_lie_X8_lie_r3 _ (wm_2 wm_h)), ?_⟩
      refine wm_c ⟨(wk_X8_lie_X8_lie_r3 _ (wm_2 (wm_1 wm_h))), ?_⟩
      refine wm_c ⟨(wk_X8_lie_X8_lie_r3 _ (wm_4 wm_h)), ?_⟩
      exact wm_n
  · exact wk_X8_lie_X80
set_option maxRecDepth 20000 in
theorem gX8_lie_X8_isLie : GoodIn wsX8_lie (wsV RX8 224 RX8 yX8_isLie wsX8_isLie) := by
  refine goodIn_app (goodIn_sub ?_ ?_) ggX8_lie_X8_isLie
  · exact wm_c ⟨(wk_X8_lie_X8_lie_r1 _ (wm_8 wm_h)), wm_c ⟨(wk_X8_lie_X8_lie_r1 _ (wm_8 (wm_1 wm_h))), wm_c ⟨(wk_X8_lie_X8_lie_r1 _ (wm_8 (wm_2 wm_h))), wm_c ⟨(wk_X8_lie_X8_lie_r1 _ (wm_2 wm_h)), wm_n⟩⟩⟩⟩
  · decide +kernel
theorem dX8_lie_0 : decode cX8_lie 0 = .ok (.iload_n 1, 1) := by decide +kernel
theorem dX8_lie_1 : decode cX8_lie 1 = .ok (.invokestatic 157, 3) := by decide +kernel
theorem dX8_lie_4 : decode cX8_lie 4 = .ok (.ifCond .eq 19, 3) := by decide +kernel
theorem dX8_lie_7 : decode cX8_lie 7 = .ok (.aload_n 0, 1) := by decide +kernel
theorem dX8_lie_8 : decode cX8_lie 8 = .ok (.iload_n 1, 1) := by decide +kernel
theorem dX8_lie_9 : decode cX8_lie 9 = .ok (.invokevirtual 224, 3) := by decide +kernel
theorem dX8_lie_12 : decode cX8_lie 12 = .ok (.ifCond .eq 7, 3) := by decide +kernel
theorem dX8_lie_15 : decode cX8_lie 15 = .ok (.iconst 1, 1) := by decide +kernel
theorem dX8_lie_16 : decode cX8_lie 16 = .ok (.goto 8, 3) := by decide +kernel
theorem dX8_lie_19 : decode cX8_lie 19 = .ok (.iconst 0, 1) := by decide +kernel
theorem dX8_lie_20 : decode cX8_lie 20 = .ok (.goto 4, 3) := by decide +kernel
theorem dX8_lie_23 : decode cX8_lie 23 = .ok (.iconst (-1), 1) := by decide +kernel
theorem dX8_lie_24 : decode cX8_lie 24 = .ok (.ireturn, 1) := by decide +kernel
set_option maxRecDepth 20000 in
theorem ggX8_table_X8_isNumber : GoodIn wsX8_table wsX8_isNumber := by
  refine goodIn_sub ?_ gd_X8_isNumber
  unfold wsX8_isNumber
  refine wm_c ⟨(wk_X8_table_X8_table_r1 _ (wm_8 (wm_4 (wm_2 wm_h)))), ?_⟩
  refine wm_a ⟨?_, ?_⟩
  · refine wm_c ⟨(wk_X8_table_X8_table_r1 _ (wm_8 (wm_4 (wm_2 (wm_1 wm_h))))), ?_⟩
    refine wm_c ⟨(wk_X8_table_X8_table_r1 _ (wm_16 wm_h)), ?_⟩
    refine wm_c ⟨(wk_X8_table_X8_table_r1 _ (wm_16 (wm_1 wm_h))), ?_⟩
    refine wm_c ⟨(wk_X8_table_X8_table_r1 _ (wm_8 (wm_4 (wm_1 wm_h)))), ?_⟩
    refine wm_c ⟨(wk_X8_table_X8_table_r1 _ (wm_16 (wm_2 wm_h))), ?_⟩
    exact wm_n
  · exact wk_X8_table_X80
set_option maxRecDepth 20000 in
theorem gX8_table_X8_isNumber : GoodIn wsX8_table (wsV RX8 203 RX8 yX8_isNumber wsX8_isNumber) := by
  refine goodIn_app (goodIn_sub ?_ ?_) ggX8_table_X8_isNumber
  · exact wm_c ⟨(wk_X8_table_X8_table_r1 _ (wm_8 (wm_2 wm_h))), wm_c ⟨(wk_X8_table_X8_table_r1 _ (wm_8 (wm_2 (wm_1 wm_h)))), wm_c ⟨(wk_X8_table_X8_table_r1 _ (wm_8 (wm_4 wm_h))), wm_c ⟨(wk_X8_table_X8_table_r1 _ (wm_8 (wm_4 (wm_1 wm_h)))), wm_n⟩⟩⟩⟩
  · decide +kernel
set_option maxRecDepth 20000 in
theorem ggX8_table_X8_clears : GoodIn wsX8_table wsX8_clears := by
  refine goodIn_sub ?_ gd_X8_clears
  unfold wsX8_clears
  refine wm_c ⟨(wk_X8_table_X8_table_r1 _ (wm_16 (wm_4 (wm_2 wm_h)))), ?_⟩
  refine wm_a ⟨?_, ?_⟩
  · refine wm_c ⟨(wk_X8_table_X8_table_r1 _ (wm_16 (wm_4 (wm_2 (wm_1 wm_h))))), ?_⟩
    refine wm_c ⟨(wk_X8_table_X8_table_r1 _ (wm_4 (wm_1 wm_h))), ?_⟩
    exact wm_n
  · exact wk_X8_table_X80
set_option maxRecDepth 20000 in
theorem gX8_table_X8_clears : GoodIn wsX8_table (wsV RX8 136 RX8 yX8_clears wsX8_clears) := by
  refine goodIn_app (goodIn_sub ?_ ?_) ggX8_table_X8_clears
  · exact wm_c ⟨(wk_X8_table_X8_table_r1 _ (wm_16 (wm_2 (wm_1 wm_h)))), wm_c ⟨(wk_X8_table_X8_table_r1 _ (wm_16 (wm_4 wm_h))), wm_c ⟨(wk_X8_table_X8_table_r1 _ (wm_16 (wm_4 (wm_1 wm_h)))), wm_c ⟨(wk_X8_table_X8_table_r1 _ (wm_8 (wm_4 (wm_1 wm_h)))), wm_n⟩⟩⟩⟩
  · decide +kernel
set_option maxRecDepth 20000 in
theorem ggX8_table_X8_brackets : GoodIn wsX8_table wsX8_brackets := by
  refine goodIn_sub ?_ gd_X8_brackets
  unfold wsX8_brackets
  refine wm_c ⟨(wk_X8_table_X8_table_r2 _ (wm_2 (wm_1 wm_h))), ?_⟩
  refine wm_a ⟨?_, ?_⟩
  · refine wm_c ⟨(wk_X8_table_X8_table_r1 _ (wm_4 wm_h)), ?_⟩
    refine wm_c ⟨(wk_X8_table_X8_table_r1 _ (wm_4 (wm_2 (wm_1 wm_h)))), ?_⟩
    refine wm_c ⟨(wk_X8_table_X8_table_r1 _ (wm_8 (wm_1 wm_h))), ?_⟩
    refine wm_c ⟨(wk_X8_table_X8_table_r2 _ (wm_4 wm_h)), ?_⟩
    refine wm_c ⟨(wk_X8_table_X8_table_r2 _ (wm_4 (wm_1 wm_h))), ?_⟩
    refine wm_c ⟨(wk_X8_table_X8_table_r1 _ (wm_8 (wm_4 (wm_1 wm_h)))), ?_⟩
    refine wm_c ⟨(wk_X8_table_X8_table_r2 _ (wm_4 (wm_2 wm_h))), ?_⟩
    exact wm_n
  · exact wk_X8_table_X80
set_option maxRecDepth 20000 in
theorem gX8_table_X8_brackets : GoodIn wsX8_table (wsV RX8 122 RX8 yX8_brackets wsX8_brackets) := by
  refine goodIn_app (goodIn_sub ?_ ?_) ggX8_table_X8_brackets
  · exact wm_c ⟨(wk_X8_table_X8_table_r2 _ wm_h), wm_c ⟨(wk_X8_table_X8_table_r2 _ (wm_1 wm_h)), wm_c ⟨(wk_X8_table_X8_table_r2 _ (wm_2 wm_h)), wm_c ⟨(wk_X8_table_X8_table_r1 _ (wm_8 (wm_4 (wm_1 wm_h)))), wm_n⟩⟩⟩⟩
  · decide +kernel
set_option maxRecDepth 20000 in
theorem ggX8_table_X8_shares : GoodIn wsX8_table wsX8_shares := by
  refine goodIn_sub ?_ gd_X8_shares
  unfold wsX8_shares
  refine wm_c ⟨(wk_X8_table_X8_table_r2 _ (wm_8 (wm_2 wm_h))), ?_⟩
  refine wm_a ⟨?_, ?_⟩
  · refine wm_a ⟨?_, ?_⟩
    · unfold wsX8_shares_r1
      refine wm_c ⟨(wk_X8_table_X8_table_r1 _ (wm_16 (wm_4 (wm_2 (wm_1 wm_h))))), ?_⟩
      refine wm_c ⟨(wk_X8_table_X8_table_r1 _ (wm_4 (wm_1 wm_h))), ?_⟩
      refine wm_c ⟨(wk_X8_table_X8_table_r1 _ (wm_1 wm_h)), ?_⟩
      refine wm_c ⟨(wk_X8_table_X8_table_r1 _ (wm_4 (wm_2 wm_h))), ?_⟩
      refine wm_c ⟨(wk_X8_table_X8_table_r1 _ (wm_4 wm_h)), ?_⟩
      refine wm_c ⟨(wk_X8_table_X8_table_r2 _ (wm_8 (wm_2 (wm_1 wm_h)))), ?_⟩
      refine wm_c ⟨(wk_X8_table_X8_table_r1 _ (wm_8 (wm_1 wm_h))), ?_⟩
      refine wm_c ⟨(wk_X8_table_X8_table_r2 _ (wm_8 (wm_4 wm_h))), ?_⟩
      refine wm_c ⟨(wk_X8_table_X8_table_r2 _ (wm_8 (wm_4 (wm_1 wm_h)))), ?_⟩
      refine wm_c ⟨(wk_X8_table_X8_table_r2 _ (wm_8 (wm_4 (wm_2 wm_h)))), ?_⟩
      refine wm_c ⟨(wk_X8_table_X8_table_r1 _ (wm_8 (wm_4 (wm_1 wm_h)))), ?_⟩
      refine wm_c ⟨(wk_X8_table_X8_table_r2 _ (wm_8 (wm_4 (wm_2 (wm_1 wm_h))))), ?_⟩
      refine wm_c ⟨(wk_X8_table_X8_table_r2 _ (wm_16 wm_h)), ?_⟩
      refine wm_c ⟨(wk_X8_table_X8_table_r2 _ (wm_16 (wm_1 wm_h))), ?_⟩
      refine wm_c ⟨(wk_X8_table_X8_table_r1 _ (wm_4 (wm_2 (wm_1 wm_h)))), ?_⟩
      refine wm_c ⟨(wk_X8_table_X8_table_r2 _ (wm_16 (wm_2 wm_h))), ?_⟩
      refine wm_c ⟨(wk_X8_table_X8_table_r2 _ (wm_16 (wm_2 (wm_1 wm_h)))), ?_⟩
      refine wm_c ⟨(wk_X8_table_X8_table_r2 _ (wm_16 (wm_4 wm_h))), ?_⟩
      refine wm_c ⟨(wk_X8_table_X8_table_r2 _ (wm_16 (wm_4 (wm_1 wm_h)))), ?_⟩
      refine wm_c ⟨(wk_X8_table_X8_table_r2 _ (wm_16 (wm_4 (wm_2 wm_h)))), ?_⟩
      refine wm_c ⟨(wk_X8_table_X8_table_r2 _ (wm_16 (wm_4 (wm_2 (wm_1 wm_h))))), ?_⟩
      refine wm_c ⟨(wk_X8_table_X8_table_r3 _ wm_h), ?_⟩
      refine wm_c ⟨(wk_X8_table_X8_table_r3 _ (wm_1 wm_h)), ?_⟩
      refine wm_c ⟨(wk_X8_table_X8_table_r3 _ (wm_2 wm_h)), ?_⟩
      exact wm_n
    · unfold wsX8_shares_r2
      refine wm_c ⟨(wk_X8_table_X8_table_r3 _ (wm_2 (wm_1 wm_h))), ?_⟩
      refine wm_c ⟨(wk_X8_table_X8_table_r3 _ (wm_4 wm_h)), ?_⟩
      refine wm_c ⟨(wk_X8_table_X8_table_r3 _ (wm_4 (wm_1 wm_h))), ?_⟩
      refine wm_c ⟨(wk_X8_table_X8_table_r3 _ (wm_4 (wm_2 wm_h))), ?_⟩
      refine wm_c ⟨(wk_X8_table_X8_table_r3 _ (wm_4 (wm_2 (wm_1 wm_h)))), ?_⟩
      refine wm_c ⟨(wk_X8_table_X8_table_r3 _ (wm_8 wm_h)), ?_⟩
      refine wm_c ⟨(wk_X8_table_X8_table_r3 _ (wm_8 (wm_1 wm_h))), ?_⟩
      refine wm_c ⟨(wk_X8_table_X8_table_r2 _ (wm_4 wm_h)), ?_⟩
      refine wm_c ⟨(wk_X8_table_X8_table_r2 _ (wm_4 (wm_1 wm_h))), ?_⟩
      refine wm_c ⟨(wk_X8_table_X8_table_r2 _ (wm_4 (wm_2 wm_h))), ?_⟩
      exact wm_n
  · exact wk_X8_table_X80
set_option maxRecDepth 20000 in
theorem gX8_table_X8_shares : GoodIn wsX8_table (wsV RX8 221 RX8 yX8_shares wsX8_shares) := by
  refine goodIn_app (goodIn_sub ?_ ?_) ggX8_table_X8_shares
  · exact wm_c ⟨(wk_X8_table_X8_table_r2 _ (wm_4 (wm_2 (wm_1 wm_h)))), wm_c ⟨(wk_X8_table_X8_table_r2 _ (wm_8 wm_h)), wm_c ⟨(wk_X8_table_X8_table_r2 _ (wm_8 (wm_1 wm_h))), wm_c ⟨(wk_X8_table_X8_table_r1 _ (wm_8 (wm_4 (wm_1 wm_h)))), wm_n⟩⟩⟩⟩
  · decide +kernel
theorem dX8_table_0 : decode cX8_table 0 = .ok (.aload_n 0, 1) := by decide +kernel
theorem dX8_table_1 : decode cX8_table 1 = .ok (.iload_n 1, 1) := by decide +kernel
theorem dX8_table_2 : decode cX8_table 2 = .ok (.invokevirtual 203, 3) := by decide +kernel
theorem dX8_table_5 : decode cX8_table 5 = .ok (.ifCond .eq 19, 3) := by decide +kernel
theorem dX8_table_8 : decode cX8_table 8 = .ok (.aload_n 0, 1) := by decide +kernel
theorem dX8_table_9 : decode cX8_table 9 = .ok (.iload_n 2, 1) := by decide +kernel
theorem dX8_table_10 : decode cX8_table 10 = .ok (.invokevirtual 203, 3) := by decide +kernel
theorem dX8_table_13 : decode cX8_table 13 = .ok (.ifCond .eq 11, 3) := by decide +kernel
theorem dX8_table_16 : decode cX8_table 16 = .ok (.aload_n 0, 1) := by decide +kernel
theorem dX8_table_17 : decode cX8_table 17 = .ok (.iload_n 3, 1) := by decide +kernel
theorem dX8_table_18 : decode cX8_table 18 = .ok (.invokevirtual 203, 3) := by decide +kernel
theorem dX8_table_21 : decode cX8_table 21 = .ok (.ifCond .ne 6, 3) := by decide +kernel
theorem dX8_table_24 : decode cX8_table 24 = .ok (.ldc 177, 2) := by decide +kernel
theorem dX8_table_26 : decode cX8_table 26 = .ok (.ireturn, 1) := by decide +kernel
theorem dX8_table_27 : decode cX8_table 27 = .ok (.aload_n 0, 1) := by decide +kernel
theorem dX8_table_28 : decode cX8_table 28 = .ok (.getfield 20, 3) := by decide +kernel
theorem dX8_table_31 : decode cX8_table 31 = .ok (.aload_n 0, 1) := by decide +kernel
theorem dX8_table_32 : decode cX8_table 32 = .ok (.getfield 27, 3) := by decide +kernel
theorem dX8_table_35 : decode cX8_table 35 = .ok (.iload_n 1, 1) := by decide +kernel
theorem dX8_table_36 : decode cX8_table 36 = .ok (.iaload, 1) := by decide +kernel
theorem dX8_table_37 : decode cX8_table 37 = .ok (.iaload, 1) := by decide +kernel
theorem dX8_table_38 : decode cX8_table 38 = .ok (.istore 4, 2) := by decide +kernel
theorem dX8_table_40 : decode cX8_table 40 = .ok (.aload_n 0, 1) := by decide +kernel
theorem dX8_table_41 : decode cX8_table 41 = .ok (.getfield 20, 3) := by decide +kernel
theorem dX8_table_44 : decode cX8_table 44 = .ok (.aload_n 0, 1) := by decide +kernel
theorem dX8_table_45 : decode cX8_table 45 = .ok (.getfield 27, 3) := by decide +kernel
theorem dX8_table_48 : decode cX8_table 48 = .ok (.iload_n 2, 1) := by decide +kernel
theorem dX8_table_49 : decode cX8_table 49 = .ok (.iaload, 1) := by decide +kernel
theorem dX8_table_50 : decode cX8_table 50 = .ok (.iaload, 1) := by decide +kernel
theorem dX8_table_51 : decode cX8_table 51 = .ok (.istore 5, 2) := by decide +kernel
theorem dX8_table_53 : decode cX8_table 53 = .ok (.iload 4, 2) := by decide +kernel
theorem dX8_table_55 : decode cX8_table 55 = .ok (.iload 5, 2) := by decide +kernel
theorem dX8_table_57 : decode cX8_table 57 = .ok (.iadd, 1) := by decide +kernel
theorem dX8_table_58 : decode cX8_table 58 = .ok (.aload_n 0, 1) := by decide +kernel
theorem dX8_table_59 : decode cX8_table 59 = .ok (.getfield 92, 3) := by decide +kernel
theorem dX8_table_62 : decode cX8_table 62 = .ok (.if_icmp .le 5, 3) := by decide +kernel
theorem dX8_table_65 : decode cX8_table 65 = .ok (.iconst 0, 1) := by decide +kernel
theorem dX8_table_66 : decode cX8_table 66 = .ok (.ireturn, 1) := by decide +kernel
theorem dX8_table_67 : decode cX8_table 67 = .ok (.aload_n 0, 1) := by decide +kernel
theorem dX8_table_68 : decode cX8_table 68 = .ok (.bipush 8, 2) := by decide +kernel
theorem dX8_table_70 : decode cX8_table 70 = .ok (.invokevirtual 136, 3) := by decide +kernel
theorem dX8_table_73 : decode cX8_table 73 = .ok (.aload_n 0, 1) := by decide +kernel
theorem dX8_table_74 : decode cX8_table 74 = .ok (.sipush 25344, 3) := by decide +kernel
theorem dX8_table_77 : decode cX8_table 77 = .ok (.sipush 256, 3) := by decide +kernel
theorem dX8_table_80 : decode cX8_table 80 = .ok (.iload_n 1, 1) := by decide +kernel
theorem dX8_table_81 : decode cX8_table 81 = .ok (.imul, 1) := by decide +kernel
theorem dX8_table_82 : decode cX8_table 82 = .ok (.iload 4, 2) := by decide +kernel
theorem dX8_table_84 : decode cX8_table 84 = .ok (.sipush 256, 3) := by decide +kernel
theorem dX8_table_87 : decode cX8_table 87 = .ok (.iload_n 2, 1) := by decide +kernel
theorem dX8_table_88 : decode cX8_table 88 = .ok (.imul, 1) := by decide +kernel
theorem dX8_table_89 : decode cX8_table 89 = .ok (.iload 5, 2) := by decide +kernel
theorem dX8_table_91 : decode cX8_table 91 = .ok (.invokevirtual 122, 3) := by decide +kernel
theorem dX8_table_94 : decode cX8_table 94 = .ok (.iconst 0, 1) := by decide +kernel
theorem dX8_table_95 : decode cX8_table 95 = .ok (.istore 6, 2) := by decide +kernel
theorem dX8_table_97 : decode cX8_table 97 = .ok (.iload 6, 2) := by decide +kernel
theorem dX8_table_99 : decode cX8_table 99 = .ok (.aload_n 0, 1) := by decide +kernel
theorem dX8_table_100 : decode cX8_table 100 = .ok (.getfield 13, 3) := by decide +kernel
theorem dX8_table_103 : decode cX8_table 103 = .ok (.iload 4, 2) := by decide +kernel
theorem dX8_table_105 : decode cX8_table 105 = .ok (.iload 5, 2) := by decide +kernel
theorem dX8_table_107 : decode cX8_table 107 = .ok (.iadd, 1) := by decide +kernel
theorem dX8_table_108 : decode cX8_table 108 = .ok (.iaload, 1) := by decide +kernel
theorem dX8_table_109 : decode cX8_table 109 = .ok (.if_icmp .ge 42, 3) := by decide +kernel
theorem dX8_table_112 : decode cX8_table 112 = .ok (.aload_n 0, 1) := by decide +kernel
theorem dX8_table_113 : decode cX8_table 113 = .ok (.getfield 23, 3) := by decide +kernel
theorem dX8_table_116 : decode cX8_table 116 = .ok (.sipush 2912, 3) := by decide +kernel
theorem dX8_table_119 : decode cX8_table 119 = .ok (.aload_n 0, 1) := by decide +kernel
theorem dX8_table_120 : decode cX8_table 120 = .ok (.getfield 17, 3) := by decide +kernel
theorem dX8_table_123 : decode cX8_table 123 = .ok (.iload 4, 2) := by decide +kernel
theorem dX8_table_125 : decode cX8_table 125 = .ok (.iload 5, 2) := by decide +kernel
theorem dX8_table_127 : decode cX8_table 127 = .ok (.iadd, 1) := by decide +kernel
theorem dX8_table_128 : decode cX8_table 128 = .ok (.iaload, 1) := by decide +kernel
theorem dX8_table_129 : decode cX8_table 129 = .ok (.iadd, 1) := by decide +kernel
theorem dX8_table_130 : decode cX8_table 130 = .ok (.iload 6, 2) := by decide +kernel
theorem dX8_table_132 : decode cX8_table 132 = .ok (.iadd, 1) := by decide +kernel
theorem dX8_table_133 : decode cX8_table 133 = .ok (.aload_n 0, 1) := by decide +kernel
theorem dX8_table_134 : decode cX8_table 134 = .ok (.getfield 42, 3) := by decide +kernel
theorem dX8_table_137 : decode cX8_table 137 = .ok (.sipush 25344, 3) := by decide +kernel
theorem dX8_table_140 : decode cX8_table 140 = .ok (.iload 6, 2) := by decide +kernel
theorem dX8_table_142 : decode cX8_table 142 = .ok (.iadd, 1) := by decide +kernel
theorem dX8_table_143 : decode cX8_table 143 = .ok (.laload, 1) := by decide +kernel
theorem dX8_table_144 : decode cX8_table 144 = .ok (.lastore, 1) := by decide +kernel
theorem dX8_table_145 : decode cX8_table 145 = .ok (.iinc 6 1, 3) := by decide +kernel
theorem dX8_table_148 : decode cX8_table 148 = .ok (.goto (-51), 3) := by decide +kernel
theorem dX8_table_151 : decode cX8_table 151 = .ok (.aload_n 0, 1) := by decide +kernel
theorem dX8_table_152 : decode cX8_table 152 = .ok (.bipush 8, 2) := by decide +kernel
theorem dX8_table_154 : decode cX8_table 154 = .ok (.invokevirtual 221, 3) := by decide +kernel
theorem dX8_table_157 : decode cX8_table 157 = .ok (.aload_n 0, 1) := by decide +kernel
theorem dX8_table_158 : decode cX8_table 158 = .ok (.getfield 23, 3) := by decide +kernel
theorem dX8_table_161 : decode cX8_table 161 = .ok (.sipush 2912, 3) := by decide +kernel
theorem dX8_table_164 : decode cX8_table 164 = .ok (.aload_n 0, 1) := by decide +kernel
theorem dX8_table_165 : decode cX8_table 165 = .ok (.getfield 27, 3) := by decide +kernel
theorem dX8_table_168 : decode cX8_table 168 = .ok (.iload_n 3, 1) := by decide +kernel
theorem dX8_table_169 : decode cX8_table 169 = .ok (.iaload, 1) := by decide +kernel
theorem dX8_table_170 : decode cX8_table 170 = .ok (.iadd, 1) := by decide +kernel
theorem dX8_table_171 : decode cX8_table 171 = .ok (.laload, 1) := by decide +kernel
theorem dX8_table_172 : decode cX8_table 172 = .ok (.lstore 6, 2) := by decide +kernel
theorem dX8_table_174 : decode cX8_table 174 = .ok (.lload 6, 2) := by decide +kernel
theorem dX8_table_176 : decode cX8_table 176 = .ok (.ldc2_w 227, 3) := by decide +kernel
theorem dX8_table_179 : decode cX8_table 179 = .ok (.lcmp, 1) := by decide +kernel
theorem dX8_table_180 : decode cX8_table 180 = .ok (.ifCond .le 12, 3) := by decide +kernel
theorem dX8_table_183 : decode cX8_table 183 = .ok (.lload 6, 2) := by decide +kernel
theorem dX8_table_185 : decode cX8_table 185 = .ok (.ldc2_w 3, 3) := by decide +kernel
theorem dX8_table_188 : decode cX8_table 188 = .ok (.lsub, 1) := by decide +kernel
theorem dX8_table_189 : decode cX8_table 189 = .ok (.goto 5, 3) := by decide +kernel
theorem dX8_table_192 : decode cX8_table 192 = .ok (.lload 6, 2) := by decide +kernel
theorem dX8_table_194 : decode cX8_table 194 = .ok (.l2i, 1) := by decide +kernel
theorem dX8_table_195 : decode cX8_table 195 = .ok (.ireturn, 1) := by decide +kernel
set_option maxRecDepth 20000 in
theorem ggX8_step_X8_isLetter : GoodIn wsX8_step wsX8_isLetter := by
  refine goodIn_sub ?_ gd_X8_isLetter
  unfold wsX8_isLetter
  refine wm_c ⟨(wk_X8_step_X8_step_r1 _ (wm_8 (wm_1 wm_h))), ?_⟩
  refine wm_a ⟨?_, ?_⟩
  · refine wm_c ⟨(wk_X8_step_X8_step_r1 _ (wm_8 (wm_2 wm_h))), ?_⟩
    refine wm_c ⟨(wk_X8_step_X8_step_r1 _ (wm_8 (wm_2 (wm_1 wm_h)))), ?_⟩
    refine wm_c ⟨(wk_X8_step_X8_step_r1 _ (wm_8 (wm_4 wm_h))), ?_⟩
    refine wm_c ⟨(wk_X8_step_X8_step_r1 _ (wm_8 wm_h)), ?_⟩
    refine wm_c ⟨(wk_X8_step_X8_step_r1 _ (wm_8 (wm_4 (wm_1 wm_h)))), ?_⟩
    exact wm_n
  · exact wk_X8_step_X80
set_option maxRecDepth 20000 in
theorem gX8_step_X8_isLetter : GoodIn wsX8_step (wsV RX8 196 RX8 yX8_isLetter wsX8_isLetter) := by
  refine goodIn_app (goodIn_sub ?_ ?_) ggX8_step_X8_isLetter
  · exact wm_c ⟨(wk_X8_step_X8_step_r1 _ (wm_4 (wm_1 wm_h))), wm_c ⟨(wk_X8_step_X8_step_r1 _ (wm_4 (wm_2 wm_h))), wm_c ⟨(wk_X8_step_X8_step_r1 _ (wm_4 (wm_2 (wm_1 wm_h)))), wm_c ⟨(wk_X8_step_X8_step_r1 _ (wm_8 wm_h)), wm_n⟩⟩⟩⟩
  · decide +kernel
set_option maxRecDepth 20000 in
theorem ggX8_step_X8_in : GoodIn wsX8_step wsX8_in := by
  refine goodIn_sub ?_ gd_X8_in
  unfold wsX8_in
  refine wm_c ⟨(wk_X8_step_X8_step_r1 _ (wm_8 (wm_4 (wm_1 wm_h)))), ?_⟩
  exact wm_n
set_option maxRecDepth 20000 in
theorem gX8_step_X8_in : GoodIn wsX8_step (va_wsS RX8 130 yX8_in wsX8_in) := goodIn_app (goodIn_of _ (by decide +kernel)) ggX8_step_X8_in
set_option maxRecDepth 20000 in
theorem ggX8_step_X8_partOf : GoodIn wsX8_step wsX8_partOf := by
  refine goodIn_sub ?_ gd_X8_partOf
  unfold wsX8_partOf
  refine wm_c ⟨(wk_X8_step_X8_step_r1 _ (wm_16 wm_h)), ?_⟩
  refine wm_c ⟨(wk_X8_step_X8_step_r1 _ (wm_16 (wm_1 wm_h))), ?_⟩
  refine wm_c ⟨(wk_X8_step_X8_step_r1 _ (wm_16 (wm_2 wm_h))), ?_⟩
  refine wm_c ⟨(wk_X8_step_X8_step_r1 _ (wm_16 (wm_2 (wm_1 wm_h)))), ?_⟩
  refine wm_c ⟨(wk_X8_step_X8_step_r1 _ (wm_8 wm_h)), ?_⟩
  refine wm_c ⟨(wk_X8_step_X8_step_r1 _ (wm_16 (wm_4 wm_h))), ?_⟩
  refine wm_c ⟨(wk_X8_step_X8_step_r1 _ (wm_16 (wm_4 (wm_1 wm_h)))), ?_⟩
  refine wm_c ⟨(wk_X8_step_X8_step_r1 _ (wm_16 (wm_4 (wm_2 wm_h)))), ?_⟩
  refine wm_c ⟨(wk_X8_step_X8_step_r1 _ (wm_16 (wm_4 (wm_2 (wm_1 wm_h))))), ?_⟩
  refine wm_c ⟨(wk_X8_step_X8_step_r2 _ wm_h), ?_⟩
  exact wm_n
set_option maxRecDepth 20000 in
theorem gX8_step_X8_partOf : GoodIn wsX8_step (va_wsS RX8 171 yX8_partOf wsX8_partOf) := goodIn_app (goodIn_of _ (by decide +kernel)) ggX8_step_X8_partOf
theorem dX8_step_0 : decode cX8_step 0 = .ok (.aload_n 0, 1) := by decide +kernel
theorem dX8_step_1 : decode cX8_step 1 = .ok (.iload_n 1, 1) := by decide +kernel
theorem dX8_step_2 : decode cX8_step 2 = .ok (.invokevirtual 196, 3) := by decide +kernel
theorem dX8_step_5 : decode cX8_step 5 = .ok (.ifCond .ne 5, 3) := by decide +kernel
theorem dX8_step_8 : decode cX8_step 8 = .ok (.iconst (-1), 1) := by decide +kernel
theorem dX8_step_9 : decode cX8_step 9 = .ok (.ireturn, 1) := by decide +kernel
theorem dX8_step_10 : decode cX8_step 10 = .ok (.iload_n 2, 1) := by decide +kernel
theorem dX8_step_11 : decode cX8_step 11 = .ok (.i2l, 1) := by decide +kernel
theorem dX8_step_12 : decode cX8_step 12 = .ok (.ldc2_w 229, 3) := by decide +kernel
theorem dX8_step_15 : decode cX8_step 15 = .ok (.ldc2_w 231, 3) := by decide +kernel
theorem dX8_step_18 : decode cX8_step 18 = .ok (.invokestatic 130, 3) := by decide +kernel
theorem dX8_step_21 : decode cX8_step 21 = .ok (.ifCond .eq 15, 3) := by decide +kernel
theorem dX8_step_24 : decode cX8_step 24 = .ok (.iload_n 3, 1) := by decide +kernel
theorem dX8_step_25 : decode cX8_step 25 = .ok (.i2l, 1) := by decide +kernel
theorem dX8_step_26 : decode cX8_step 26 = .ok (.lconst 1, 1) := by decide +kernel
theorem dX8_step_27 : decode cX8_step 27 = .ok (.ldc2_w 231, 3) := by decide +kernel
theorem dX8_step_30 : decode cX8_step 30 = .ok (.invokestatic 130, 3) := by decide +kernel
theorem dX8_step_33 : decode cX8_step 33 = .ok (.ifCond .ne 6, 3) := by decide +kernel
theorem dX8_step_36 : decode cX8_step 36 = .ok (.bipush (-2), 2) := by decide +kernel
theorem dX8_step_38 : decode cX8_step 38 = .ok (.ireturn, 1) := by decide +kernel
theorem dX8_step_39 : decode cX8_step 39 = .ok (.aload_n 0, 1) := by decide +kernel
theorem dX8_step_40 : decode cX8_step 40 = .ok (.getfield 233, 3) := by decide +kernel
theorem dX8_step_43 : decode cX8_step 43 = .ok (.bipush 12, 2) := by decide +kernel
theorem dX8_step_45 : decode cX8_step 45 = .ok (.if_icmp .ne 6, 3) := by decide +kernel
theorem dX8_step_48 : decode cX8_step 48 = .ok (.bipush (-4), 2) := by decide +kernel
theorem dX8_step_50 : decode cX8_step 50 = .ok (.ireturn, 1) := by decide +kernel
theorem dX8_step_51 : decode cX8_step 51 = .ok (.aload_n 0, 1) := by decide +kernel
theorem dX8_step_52 : decode cX8_step 52 = .ok (.getfield 51, 3) := by decide +kernel
theorem dX8_step_55 : decode cX8_step 55 = .ok (.aload_n 0, 1) := by decide +kernel
theorem dX8_step_56 : decode cX8_step 56 = .ok (.getfield 233, 3) := by decide +kernel
theorem dX8_step_59 : decode cX8_step 59 = .ok (.iload_n 1, 1) := by decide +kernel
theorem dX8_step_60 : decode cX8_step 60 = .ok (.iastore, 1) := by decide +kernel
theorem dX8_step_61 : decode cX8_step 61 = .ok (.aload_n 0, 1) := by decide +kernel
theorem dX8_step_62 : decode cX8_step 62 = .ok (.getfield 54, 3) := by decide +kernel
theorem dX8_step_65 : decode cX8_step 65 = .ok (.aload_n 0, 1) := by decide +kernel
theorem dX8_step_66 : decode cX8_step 66 = .ok (.getfield 233, 3) := by decide +kernel
theorem dX8_step_69 : decode cX8_step 69 = .ok (.iload_n 2, 1) := by decide +kernel
theorem dX8_step_70 : decode cX8_step 70 = .ok (.iload_n 3, 1) := by decide +kernel
theorem dX8_step_71 : decode cX8_step 71 = .ok (.invokestatic 171, 3) := by decide +kernel
theorem dX8_step_74 : decode cX8_step 74 = .ok (.lastore, 1) := by decide +kernel
theorem dX8_step_75 : decode cX8_step 75 = .ok (.aload_n 0, 1) := by decide +kernel
theorem dX8_step_76 : decode cX8_step 76 = .ok (.dup, 1) := by decide +kernel
theorem dX8_step_77 : decode cX8_step 77 = .ok (.getfield 233, 3) := by decide +kernel
theorem dX8_step_80 : decode cX8_step 80 = .ok (.iconst 1, 1) := by decide +kernel
theorem dX8_step_81 : decode cX8_step 81 = .ok (.iadd, 1) := by decide +kernel
theorem dX8_step_82 : decode cX8_step 82 = .ok (.putfield 233, 3) := by decide +kernel
theorem dX8_step_85 : decode cX8_step 85 = .ok (.aload_n 0, 1) := by decide +kernel
theorem dX8_step_86 : decode cX8_step 86 = .ok (.getfield 233, 3) := by decide +kernel
theorem dX8_step_89 : decode cX8_step 89 = .ok (.ireturn, 1) := by decide +kernel
theorem dX8_unstep_0 : decode cX8_unstep 0 = .ok (.aload_n 0, 1) := by decide +kernel
theorem dX8_unstep_1 : decode cX8_unstep 1 = .ok (.getfield 233, 3) := by decide +kernel
theorem dX8_unstep_4 : decode cX8_unstep 4 = .ok (.istore_n 1, 1) := by decide +kernel
theorem dX8_unstep_5 : decode cX8_unstep 5 = .ok (.aload_n 0, 1) := by decide +kernel
theorem dX8_unstep_6 : decode cX8_unstep 6 = .ok (.iconst 0, 1) := by decide +kernel
theorem dX8_unstep_7 : decode cX8_unstep 7 = .ok (.putfield 233, 3) := by decide +kernel
theorem dX8_unstep_10 : decode cX8_unstep 10 = .ok (.iload_n 1, 1) := by decide +kernel
theorem dX8_unstep_11 : decode cX8_unstep 11 = .ok (.ireturn, 1) := by decide +kernel
set_option maxRecDepth 20000 in
theorem ggX8_makes_X8_ones : GoodIn wsX8_makes wsX8_ones := by
  refine goodIn_sub ?_ gd_X8_ones
  unfold wsX8_ones
  refine wm_c ⟨(wk_X8_makes_X8_makes_r1 _ (wm_8 (wm_1 wm_h))), ?_⟩
  refine wm_a ⟨?_, ?_⟩
  · refine wm_c ⟨(wk_X8_makes_X8_makes_r1 _ (wm_1 wm_h)), ?_⟩
    refine wm_c ⟨(wk_X8_makes_X8_makes_r1 _ (wm_8 (wm_2 wm_h))), ?_⟩
    refine wm_c ⟨(wk_X8_makes_X8_makes_r1 _ (wm_8 (wm_2 (wm_1 wm_h)))), ?_⟩
    refine wm_c ⟨(wk_X8_makes_X8_makes_r1 _ (wm_8 (wm_4 wm_h))), ?_⟩
    refine wm_c ⟨(wk_X8_makes_X8_makes_r1 _ (wm_8 wm_h)), ?_⟩
    refine wm_c ⟨(wk_X8_makes_X8_makes_r1 _ (wm_8 (wm_4 (wm_1 wm_h)))), ?_⟩
    refine wm_c ⟨(wk_X8_makes_X8_makes_r1 _ (wm_8 (wm_4 (wm_2 wm_h)))), ?_⟩
    exact wm_n
  · exact wk_X8_makes_X80
set_option maxRecDepth 20000 in
theorem gX8_makes_X8_ones : GoodIn wsX8_makes (wsV RX8 143 RX8 yX8_ones wsX8_ones) := by
  refine goodIn_app (goodIn_sub ?_ ?_) ggX8_makes_X8_ones
  · exact wm_c ⟨(wk_X8_makes_X8_makes_r1 _ (wm_4 (wm_1 wm_h))), wm_c ⟨(wk_X8_makes_X8_makes_r1 _ (wm_4 (wm_2 wm_h))), wm_c ⟨(wk_X8_makes_X8_makes_r1 _ (wm_4 (wm_2 (wm_1 wm_h)))), wm_c ⟨(wk_X8_makes_X8_makes_r1 _ (wm_8 wm_h)), wm_n⟩⟩⟩⟩
  · decide +kernel
set_option maxRecDepth 20000 in
theorem ggX8_makes_X8_clears : GoodIn wsX8_makes wsX8_clears := by
  refine goodIn_sub ?_ gd_X8_clears
  unfold wsX8_clears
  refine wm_c ⟨(wk_X8_makes_X8_makes_r1 _ (wm_8 (wm_4 (wm_1 wm_h)))), ?_⟩
  refine wm_a ⟨?_, ?_⟩
  · refine wm_c ⟨(wk_X8_makes_X8_makes_r1 _ (wm_8 (wm_4 (wm_2 wm_h)))), ?_⟩
    refine wm_c ⟨(wk_X8_makes_X8_makes_r1 _ (wm_1 wm_h)), ?_⟩
    exact wm_n
  · exact wk_X8_makes_X80
set_option maxRecDepth 20000 in
theorem gX8_makes_X8_clears : GoodIn wsX8_makes (wsV RX8 136 RX8 yX8_clears wsX8_clears) := by
  refine goodIn_app (goodIn_sub ?_ ?_) ggX8_makes_X8_clears
  · exact wm_c ⟨(wk_X8_makes_X8_makes_r1 _ (wm_8 (wm_2 wm_h))), wm_c ⟨(wk_X8_makes_X8_makes_r1 _ (wm_8 (wm_2 (wm_1 wm_h)))), wm_c ⟨(wk_X8_makes_X8_makes_r1 _ (wm_8 (wm_4 wm_h))), wm_c ⟨(wk_X8_makes_X8_makes_r1 _ (wm_8 wm_h)), wm_n⟩⟩⟩⟩
  · decide +kernel
set_option maxRecDepth 20000 in
theorem ggX8_makes_X8_series : GoodIn wsX8_makes wsX8_series := by
  refine goodIn_sub ?_ gd_X8_series
  unfold wsX8_series
  refine wm_c ⟨(wk_X8_makes_X8_makes_r1 _ (wm_16 (wm_2 wm_h))), ?_⟩
  refine wm_a ⟨?_, ?_⟩
  · refine wm_a ⟨?_, ?_⟩
    · unfold wsX8_series_r1
      refine wm_c ⟨(wk_X8_makes_X8_makes_r1 _ (wm_1 wm_h)), ?_⟩
      refine wm_c ⟨(wk_X8_makes_X8_makes_r1 _ (wm_16 (wm_2 (wm_1 wm_h)))), ?_⟩
      refine wm_c ⟨(wk_X8_makes_X8_makes_r1 _ (wm_16 (wm_4 wm_h))), ?_⟩
      refine wm_c ⟨(wk_X8_makes_X8_makes_r1 _ (wm_16 (wm_4 (wm_1 wm_h)))), ?_⟩
      refine wm_c ⟨(wk_X8_makes_X8_makes_r1 _ (wm_16 (wm_4 (wm_2 wm_h)))), ?_⟩
      refine wm_c ⟨(wk_X8_makes_X8_makes_r1 _ (wm_16 (wm_4 (wm_2 (wm_1 wm_h))))), ?_⟩
      refine wm_c ⟨(wk_X8_makes_X8_makes_r1 _ (wm_8 wm_h)), ?_⟩
      refine wm_c ⟨(wk_X8_makes_X8_makes_r2 _ wm_h), ?_⟩
      refine wm_c ⟨(wk_X8_makes_X8_makes_r1 _ (wm_8 (wm_4 (wm_2 wm_h)))), ?_⟩
      refine wm_c ⟨(wk_X8_makes_X8_makes_r1 _ (wm_4 (wm_1 wm_h))), ?_⟩
      refine wm_c ⟨(wk_X8_makes_X8_makes_r1 _ (wm_4 (wm_2 wm_h))), ?_⟩
      refine wm_c ⟨(wk_X8_makes_X8_makes_r1 _ (wm_4 (wm_2 (wm_1 wm_h)))), ?_⟩
      refine wm_c ⟨(wk_X8_makes_X8_makes_r1 _ (wm_8 (wm_1 wm_h))), ?_⟩
      refine wm_c ⟨(wk_X8_makes_X8_makes_r1 _ (wm_8 (wm_2 wm_h))), ?_⟩
      refine wm_c ⟨(wk_X8_makes_X8_makes_r1 _ (wm_8 (wm_2 (wm_1 wm_h)))), ?_⟩
      refine wm_c ⟨(wk_X8_makes_X8_makes_r1 _ (wm_8 (wm_4 wm_h))), ?_⟩
      refine wm_c ⟨(wk_X8_makes_X8_makes_r1 _ (wm_8 (wm_4 (wm_1 wm_h)))), ?_⟩
      refine wm_c ⟨(wk_X8_makes_X8_makes_r2 _ (wm_1 wm_h)), ?_⟩
      refine wm_c ⟨(wk_X8_makes_X8_makes_r2 _ (wm_2 wm_h)), ?_⟩
      refine wm_c ⟨(wk_X8_makes_X8_makes_r2 _ (wm_2 (wm_1 wm_h))), ?_⟩
      refine wm_c ⟨(wk_X8_makes_X8_makes_r2 _ (wm_4 wm_h)), ?_⟩
      refine wm_c ⟨(wk_X8_makes_X8_makes_r2 _ (wm_4 (wm_1 wm_h))), ?_⟩
      refine wm_c ⟨(wk_X8_makes_X8_makes_r2 _ (wm_4 (wm_2 wm_h))), ?_⟩
      refine wm_c ⟨(wk_X8_makes_X8_makes_r2 _ (wm_4 (wm_2 (wm_1 wm_h)))), ?_⟩
      exact wm_n
    · unfold wsX8_series_r2
      refine wm_c ⟨(wk_X8_makes_X8_makes_r2 _ (wm_8 wm_h)), ?_⟩
      refine wm_c ⟨(wk_X8_makes_X8_makes_r2 _ (wm_8 (wm_1 wm_h))), ?_⟩
      refine wm_c ⟨(wk_X8_makes_X8_makes_r1 _ (wm_2 wm_h)), ?_⟩
      refine wm_c ⟨(wk_X8_makes_X8_makes_r2 _ (wm_8 (wm_2 wm_h))), ?_⟩
      refine wm_c ⟨(wk_X8_makes_X8_makes_r2 _ (wm_8 (wm_2 (wm_1 wm_h)))), ?_⟩
      refine wm_c ⟨(wk_X8_makes_X8_makes_r2 _ (wm_8 (wm_4 wm_h))), ?_⟩
      refine wm_c ⟨(wk_X8_makes_X8_makes_r2 _ (wm_8 (wm_4 (wm_1 wm_h)))), ?_⟩
      refine wm_c ⟨(wk_X8_makes_X8_makes_r2 _ (wm_8 (wm_4 (wm_2 wm_h)))), ?_⟩
      refine wm_c ⟨(wk_X8_makes_X8_makes_r2 _ (wm_8 (wm_4 (wm_2 (wm_1 wm_h))))), ?_⟩
      refine wm_c ⟨(wk_X8_makes_X8_makes_r2 _ (wm_16 wm_h)), ?_⟩
      refine wm_c ⟨(wk_X8_makes_X8_makes_r2 _ (wm_16 (wm_1 wm_h))), ?_⟩
      refine wm_c ⟨(wk_X8_makes_X8_makes_r2 _ (wm_16 (wm_2 wm_h))), ?_⟩
      refine wm_c ⟨(wk_X8_makes_X8_makes_r2 _ (wm_16 (wm_2 (wm_1 wm_h)))), ?_⟩
      refine wm_c ⟨(wk_X8_makes_X8_makes_r2 _ (wm_16 (wm_4 wm_h))), ?_⟩
      refine wm_c ⟨(wk_X8_makes_X8_makes_r2 _ (wm_16 (wm_4 (wm_1 wm_h)))), ?_⟩
      refine wm_c ⟨(wk_X8_makes_X8_makes_r2 _ (wm_16 (wm_4 (wm_2 wm_h)))), ?_⟩
      exact wm_n
  · exact wk_X8_makes_X80
set_option maxRecDepth 20000 in
theorem gX8_makes_X8_series : GoodIn wsX8_makes (wsV RX8 189 RX8 yX8_series wsX8_series) := by
  refine goodIn_app (goodIn_sub ?_ ?_) ggX8_makes_X8_series
  · exact wm_c ⟨(wk_X8_makes_X8_makes_r1 _ (wm_8 (wm_4 (wm_2 (wm_1 wm_h))))), wm_c ⟨(wk_X8_makes_X8_makes_r1 _ (wm_16 wm_h)), wm_c ⟨(wk_X8_makes_X8_makes_r1 _ (wm_16 (wm_1 wm_h))), wm_c ⟨(wk_X8_makes_X8_makes_r1 _ (wm_8 wm_h)), wm_n⟩⟩⟩⟩
  · decide +kernel
set_option maxRecDepth 20000 in
theorem ggX8_makes_X8_multiplies : GoodIn wsX8_makes wsX8_multiplies := by
  refine goodIn_sub ?_ gd_X8_multiplies
  unfold wsX8_multiplies
  refine wm_c ⟨(wk_X8_makes_X8_makes_r2 _ (wm_4 wm_h)), ?_⟩
  refine wm_a ⟨?_, ?_⟩
  · refine wm_c ⟨(wk_X8_makes_X8_makes_r1 _ (wm_8 (wm_4 (wm_2 wm_h)))), ?_⟩
    refine wm_c ⟨(wk_X8_makes_X8_makes_r2 _ (wm_4 (wm_1 wm_h))), ?_⟩
    refine wm_c ⟨(wk_X8_makes_X8_makes_r1 _ (wm_1 wm_h)), ?_⟩
    refine wm_c ⟨(wk_X8_makes_X8_makes_r1 _ (wm_16 (wm_4 wm_h))), ?_⟩
    refine wm_c ⟨(wk_X8_makes_X8_makes_r1 _ (wm_8 (wm_2 wm_h))), ?_⟩
    refine wm_c ⟨(wk_X8_makes_X8_makes_r1 _ (wm_8 (wm_2 (wm_1 wm_h)))), ?_⟩
    refine wm_c ⟨(wk_X8_makes_X8_makes_r1 _ (wm_8 (wm_4 wm_h))), ?_⟩
    refine wm_c ⟨(wk_X8_makes_X8_makes_r1 _ (wm_8 wm_h)), ?_⟩
    refine wm_c ⟨(wk_X8_makes_X8_makes_r1 _ (wm_8 (wm_4 (wm_1 wm_h)))), ?_⟩
    refine wm_c ⟨(wk_X8_makes_X8_makes_r2 _ (wm_4 (wm_2 wm_h))), ?_⟩
    refine wm_c ⟨(wk_X8_makes_X8_makes_r2 _ (wm_4 (wm_2 (wm_1 wm_h)))), ?_⟩
    refine wm_c ⟨(wk_X8_makes_X8_makes_r2 _ (wm_8 wm_h)), ?_⟩
    refine wm_c ⟨(wk_X8_makes_X8_makes_r2 _ (wm_8 (wm_1 wm_h))), ?_⟩
    refine wm_c ⟨(wk_X8_makes_X8_makes_r1 _ (wm_2 wm_h)), ?_⟩
    refine wm_c ⟨(wk_X8_makes_X8_makes_r2 _ (wm_8 (wm_2 wm_h))), ?_⟩
    refine wm_c ⟨(wk_X8_makes_X8_makes_r2 _ (wm_8 (wm_2 (wm_1 wm_h)))), ?_⟩
    refine wm_c ⟨(wk_X8_makes_X8_makes_r2 _ (wm_8 (wm_4 wm_h))), ?_⟩
    refine wm_c ⟨(wk_X8_makes_X8_makes_r2 _ (wm_8 (wm_4 (wm_1 wm_h)))), ?_⟩
    refine wm_c ⟨(wk_X8_makes_X8_makes_r2 _ (wm_8 (wm_4 (wm_2 wm_h)))), ?_⟩
    exact wm_n
  · exact wk_X8_makes_X80
set_option maxRecDepth 20000 in
theorem gX8_makes_X8_multiplies : GoodIn wsX8_makes (wsV RX8 146 RX8 yX8_multiplies wsX8_multiplies) := by
  refine goodIn_app (goodIn_sub ?_ ?_) ggX8_makes_X8_multiplies
  · exact wm_c ⟨(wk_X8_makes_X8_makes_r2 _ (wm_1 wm_h)), wm_c ⟨(wk_X8_makes_X8_makes_r2 _ (wm_2 wm_h)), wm_c ⟨(wk_X8_makes_X8_makes_r2 _ (wm_2 (wm_1 wm_h))), wm_c ⟨(wk_X8_makes_X8_makes_r1 _ (wm_8 wm_h)), wm_n⟩⟩⟩⟩
  · decide +kernel
set_option maxRecDepth 20000 in
theorem ggX8_makes_X8_copies : GoodIn wsX8_makes wsX8_copies := by
  refine goodIn_sub ?_ gd_X8_copies
  unfold wsX8_copies
  refine wm_c ⟨(wk_X8_makes_X8_makes_r2 _ wm_h), ?_⟩
  refine wm_a ⟨?_, ?_⟩
  · refine wm_c ⟨(wk_X8_makes_X8_makes_r1 _ (wm_8 (wm_4 (wm_2 wm_h)))), ?_⟩
    refine wm_c ⟨(wk_X8_makes_X8_makes_r1 _ (wm_1 wm_h)), ?_⟩
    exact wm_n
  · exact wk_X8_makes_X80
set_option maxRecDepth 20000 in
theorem gX8_makes_X8_copies : GoodIn wsX8_makes (wsV RX8 139 RX8 yX8_copies wsX8_copies) := by
  refine goodIn_app (goodIn_sub ?_ ?_) ggX8_makes_X8_copies
  · exact wm_c ⟨(wk_X8_makes_X8_makes_r1 _ (wm_16 (wm_4 (wm_1 wm_h)))), wm_c ⟨(wk_X8_makes_X8_makes_r1 _ (wm_16 (wm_4 (wm_2 wm_h)))), wm_c ⟨(wk_X8_makes_X8_makes_r1 _ (wm_16 (wm_4 (wm_2 (wm_1 wm_h))))), wm_c ⟨(wk_X8_makes_X8_makes_r1 _ (wm_8 wm_h)), wm_n⟩⟩⟩⟩
  · decide +kernel
theorem dX8_makes_0 : decode cX8_makes 0 = .ok (.aload_n 0, 1) := by decide +kernel
theorem dX8_makes_1 : decode cX8_makes 1 = .ok (.bipush 14, 2) := by decide +kernel
theorem dX8_makes_3 : decode cX8_makes 3 = .ok (.invokevirtual 143, 3) := by decide +kernel
theorem dX8_makes_6 : decode cX8_makes 6 = .ok (.iconst 0, 1) := by decide +kernel
theorem dX8_makes_7 : decode cX8_makes 7 = .ok (.istore_n 2, 1) := by decide +kernel
theorem dX8_makes_8 : decode cX8_makes 8 = .ok (.iload_n 2, 1) := by decide +kernel
theorem dX8_makes_9 : decode cX8_makes 9 = .ok (.aload_n 0, 1) := by decide +kernel
theorem dX8_makes_10 : decode cX8_makes 10 = .ok (.getfield 233, 3) := by decide +kernel
theorem dX8_makes_13 : decode cX8_makes 13 = .ok (.if_icmp .ge 70, 3) := by decide +kernel
theorem dX8_makes_16 : decode cX8_makes 16 = .ok (.aload_n 0, 1) := by decide +kernel
theorem dX8_makes_17 : decode cX8_makes 17 = .ok (.bipush 15, 2) := by decide +kernel
theorem dX8_makes_19 : decode cX8_makes 19 = .ok (.invokevirtual 136, 3) := by decide +kernel
theorem dX8_makes_22 : decode cX8_makes 22 = .ok (.aload_n 0, 1) := by decide +kernel
theorem dX8_makes_23 : decode cX8_makes 23 = .ok (.getfield 23, 3) := by decide +kernel
theorem dX8_makes_26 : decode cX8_makes 26 = .ok (.sipush 5460, 3) := by decide +kernel
theorem dX8_makes_29 : decode cX8_makes 29 = .ok (.aload_n 0, 1) := by decide +kernel
theorem dX8_makes_30 : decode cX8_makes 30 = .ok (.getfield 17, 3) := by decide +kernel
theorem dX8_makes_33 : decode cX8_makes 33 = .ok (.iconst 1, 1) := by decide +kernel
theorem dX8_makes_34 : decode cX8_makes 34 = .ok (.iaload, 1) := by decide +kernel
theorem dX8_makes_35 : decode cX8_makes 35 = .ok (.iadd, 1) := by decide +kernel
theorem dX8_makes_36 : decode cX8_makes 36 = .ok (.aload_n 0, 1) := by decide +kernel
theorem dX8_makes_37 : decode cX8_makes 37 = .ok (.getfield 51, 3) := by decide +kernel
theorem dX8_makes_40 : decode cX8_makes 40 = .ok (.iload_n 2, 1) := by decide +kernel
theorem dX8_makes_41 : decode cX8_makes 41 = .ok (.iaload, 1) := by decide +kernel
theorem dX8_makes_42 : decode cX8_makes 42 = .ok (.iadd, 1) := by decide +kernel
theorem dX8_makes_43 : decode cX8_makes 43 = .ok (.aload_n 0, 1) := by decide +kernel
theorem dX8_makes_44 : decode cX8_makes 44 = .ok (.getfield 54, 3) := by decide +kernel
theorem dX8_makes_47 : decode cX8_makes 47 = .ok (.iload_n 2, 1) := by decide +kernel
theorem dX8_makes_48 : decode cX8_makes 48 = .ok (.laload, 1) := by decide +kernel
theorem dX8_makes_49 : decode cX8_makes 49 = .ok (.lastore, 1) := by decide +kernel
theorem dX8_makes_50 : decode cX8_makes 50 = .ok (.aload_n 0, 1) := by decide +kernel
theorem dX8_makes_51 : decode cX8_makes 51 = .ok (.bipush 16, 2) := by decide +kernel
theorem dX8_makes_53 : decode cX8_makes 53 = .ok (.bipush 15, 2) := by decide +kernel
theorem dX8_makes_55 : decode cX8_makes 55 = .ok (.iconst 0, 1) := by decide +kernel
theorem dX8_makes_56 : decode cX8_makes 56 = .ok (.invokevirtual 189, 3) := by decide +kernel
theorem dX8_makes_59 : decode cX8_makes 59 = .ok (.aload_n 0, 1) := by decide +kernel
theorem dX8_makes_60 : decode cX8_makes 60 = .ok (.bipush 17, 2) := by decide +kernel
theorem dX8_makes_62 : decode cX8_makes 62 = .ok (.bipush 14, 2) := by decide +kernel
theorem dX8_makes_64 : decode cX8_makes 64 = .ok (.bipush 16, 2) := by decide +kernel
theorem dX8_makes_66 : decode cX8_makes 66 = .ok (.invokevirtual 146, 3) := by decide +kernel
theorem dX8_makes_69 : decode cX8_makes 69 = .ok (.aload_n 0, 1) := by decide +kernel
theorem dX8_makes_70 : decode cX8_makes 70 = .ok (.bipush 14, 2) := by decide +kernel
theorem dX8_makes_72 : decode cX8_makes 72 = .ok (.bipush 17, 2) := by decide +kernel
theorem dX8_makes_74 : decode cX8_makes 74 = .ok (.invokevirtual 139, 3) := by decide +kernel
theorem dX8_makes_77 : decode cX8_makes 77 = .ok (.iinc 2 1, 3) := by decide +kernel
theorem dX8_makes_80 : decode cX8_makes 80 = .ok (.goto (-72), 3) := by decide +kernel
theorem dX8_makes_83 : decode cX8_makes 83 = .ok (.aload_n 0, 1) := by decide +kernel
theorem dX8_makes_84 : decode cX8_makes 84 = .ok (.iload_n 1, 1) := by decide +kernel
theorem dX8_makes_85 : decode cX8_makes 85 = .ok (.bipush 14, 2) := by decide +kernel
theorem dX8_makes_87 : decode cX8_makes 87 = .ok (.iconst 1, 1) := by decide +kernel
theorem dX8_makes_88 : decode cX8_makes 88 = .ok (.invokevirtual 189, 3) := by decide +kernel
theorem dX8_makes_91 : decode cX8_makes 91 = .ok (.return_, 1) := by decide +kernel
set_option maxRecDepth 20000 in
theorem ggX8_scheme_X8_isSum : GoodIn wsX8_scheme wsX8_isSum := by
  refine goodIn_sub ?_ gd_X8_isSum
  unfold wsX8_isSum
  refine wm_c ⟨(wk_X8_scheme_X8_scheme_r1 _ (wm_2 (wm_1 wm_h))), ?_⟩
  refine wm_c ⟨(wk_X8_scheme_X8_scheme_r1 _ (wm_4 wm_h)), ?_⟩
  refine wm_c ⟨(wk_X8_scheme_X8_scheme_r1 _ (wm_4 (wm_1 wm_h))), ?_⟩
  refine wm_c ⟨(wk_X8_scheme_X8_scheme_r1 _ (wm_4 (wm_2 wm_h))), ?_⟩
  refine wm_c ⟨(wk_X8_scheme_X8_scheme_r1 _ (wm_2 wm_h)), ?_⟩
  refine wm_c ⟨(wk_X8_scheme_X8_scheme_r1 _ (wm_4 (wm_2 (wm_1 wm_h)))), ?_⟩
  exact wm_n
set_option maxRecDepth 20000 in
theorem gX8_scheme_X8_isSum : GoodIn wsX8_scheme (va_wsS RX8 157 yX8_isSum wsX8_isSum) := goodIn_app (goodIn_of _ (by decide +kernel)) ggX8_scheme_X8_isSum
set_option maxRecDepth 20000 in
theorem ggX8_scheme_X8_makes : GoodIn wsX8_scheme wsX8_makes := by
  refine goodIn_sub ?_ gd_X8_makes
  unfold wsX8_makes
  refine wm_c ⟨(wk_X8_scheme_X8_scheme_r1 _ (wm_8 (wm_2 (wm_1 wm_h)))), ?_⟩
  refine wm_a ⟨?_, ?_⟩
  · refine wm_a ⟨?_, ?_⟩
    · unfold wsX8_makes_r1
      refine wm_c ⟨(wk_X8_scheme_X8_scheme_r1 _ (wm_8 (wm_4 wm_h))), ?_⟩
      refine wm_c ⟨(wk_X8_scheme_X8_scheme_r1 _ (wm_8 (wm_4 (wm_1 wm_h)))), ?_⟩
      refine wm_c ⟨(wk_X8_scheme_X8_scheme_r1 _ (wm_8 (wm_4 (wm_2 wm_h)))), ?_⟩
      refine wm_c ⟨(wk_X8_scheme_X8_scheme_r1 _ (wm_8 (wm_4 (wm_2 (wm_1 wm_h))))), ?_⟩
      refine wm_c ⟨(wk_X8_scheme_X8_scheme_r1 _ (wm_16 wm_h)), ?_⟩
      refine wm_c ⟨(wk_X8_scheme_X8_scheme_r1 _ (wm_16 (wm_1 wm_h))), ?_⟩
      refine wm_c ⟨(wk_X8_scheme_X8_scheme_r1 _ (wm_16 (wm_2 wm_h))), ?_⟩
      refine wm_c ⟨(wk_X8_scheme_X8_scheme_r1 _ (wm_16 (wm_2 (wm_1 wm_h)))), ?_⟩
      refine wm_c ⟨(wk_X8_scheme_X8_scheme_r1 _ (wm_2 wm_h)), ?_⟩
      refine wm_c ⟨(wk_X8_scheme_X8_scheme_r1 _ (wm_16 (wm_4 wm_h))), ?_⟩
      refine wm_c ⟨(wk_X8_scheme_X8_scheme_r1 _ (wm_16 (wm_4 (wm_1 wm_h)))), ?_⟩
      refine wm_c ⟨(wk_X8_scheme_X8_scheme_r1 _ (wm_16 (wm_4 (wm_2 wm_h)))), ?_⟩
      refine wm_c ⟨(wk_X8_scheme_X8_scheme_r1 _ (wm_16 (wm_4 (wm_2 (wm_1 wm_h))))), ?_⟩
      refine wm_c ⟨(wk_X8_scheme_X8_scheme_r2 _ wm_h), ?_⟩
      refine wm_c ⟨(wk_X8_scheme_X8_scheme_r2 _ (wm_1 wm_h)), ?_⟩
      refine wm_c ⟨(wk_X8_scheme_X8_scheme_r2 _ (wm_2 wm_h)), ?_⟩
      refine wm_c ⟨(wk_X8_scheme_X8_scheme_r2 _ (wm_2 (wm_1 wm_h))), ?_⟩
      refine wm_c ⟨(wk_X8_scheme_X8_scheme_r2 _ (wm_4 wm_h)), ?_⟩
      refine wm_c ⟨(wk_X8_scheme_X8_scheme_r2 _ (wm_4 (wm_1 wm_h))), ?_⟩
      refine wm_c ⟨(wk_X8_scheme_X8_scheme_r2 _ (wm_4 (wm_2 wm_h))), ?_⟩
      refine wm_c ⟨(wk_X8_scheme_X8_scheme_r2 _ (wm_4 (wm_2 (wm_1 wm_h)))), ?_⟩
      refine wm_c ⟨(wk_X8_scheme_X8_scheme_r2 _ (wm_8 wm_h)), ?_⟩
      refine wm_c ⟨(wk_X8_scheme_X8_scheme_r2 _ (wm_8 (wm_1 wm_h))), ?_⟩
      refine wm_c ⟨(wk_X8_scheme_X8_scheme_r2 _ (wm_8 (wm_2 wm_h))), ?_⟩
      exact wm_n
    · unfold wsX8_makes_r2
      refine wm_c ⟨(wk_X8_scheme_X8_scheme_r2 _ (wm_8 (wm_2 (wm_1 wm_h)))), ?_⟩
      refine wm_c ⟨(wk_X8_scheme_X8_scheme_r2 _ (wm_8 (wm_4 wm_h))), ?_⟩
      refine wm_c ⟨(wk_X8_scheme_X8_scheme_r2 _ (wm_8 (wm_4 (wm_1 wm_h)))), ?_⟩
      refine wm_c ⟨(wk_X8_scheme_X8_scheme_r2 _ (wm_8 (wm_4 (wm_2 wm_h)))), ?_⟩
      refine wm_c ⟨(wk_X8_scheme_X8_scheme_r2 _ (wm_8 (wm_4 (wm_2 (wm_1 wm_h))))), ?_⟩
      refine wm_c ⟨(wk_X8_scheme_X8_scheme_r2 _ (wm_16 wm_h)), ?_⟩
      refine wm_c ⟨(wk_X8_scheme_X8_scheme_r2 _ (wm_16 (wm_1 wm_h))), ?_⟩
      refine wm_c ⟨(wk_X8_scheme_X8_scheme_r2 _ (wm_16 (wm_2 wm_h))), ?_⟩
      refine wm_c ⟨(wk_X8_scheme_X8_scheme_r2 _ (wm_16 (wm_2 (wm_1 wm_h)))), ?_⟩
      refine wm_c ⟨(wk_X8_scheme_X8_scheme_r2 _ (wm_16 (wm_4 wm_h))), ?_⟩
      refine wm_c ⟨(wk_X8_scheme_X8_scheme_r2 _ (wm_16 (wm_4 (wm_1 wm_h)))), ?_⟩
      refine wm_c ⟨(wk_X8_scheme_X8_scheme_r2 _ (wm_16 (wm_4 (wm_2 wm_h)))), ?_⟩
      refine wm_c ⟨(wk_X8_scheme_X8_scheme_r2 _ (wm_16 (wm_4 (wm_2 (wm_1 wm_h))))), ?_⟩
      refine wm_c ⟨(wk_X8_scheme_X8_scheme_r3 _ wm_h), ?_⟩
      refine wm_c ⟨(wk_X8_scheme_X8_scheme_r3 _ (wm_1 wm_h)), ?_⟩
      refine wm_c ⟨(wk_X8_scheme_X8_scheme_r3 _ (wm_2 wm_h)), ?_⟩
      refine wm_c ⟨(wk_X8_scheme_X8_scheme_r3 _ (wm_2 (wm_1 wm_h))), ?_⟩
      refine wm_c ⟨(wk_X8_scheme_X8_scheme_r3 _ (wm_4 wm_h)), ?_⟩
      refine wm_c ⟨(wk_X8_scheme_X8_scheme_r3 _ (wm_4 (wm_1 wm_h))), ?_⟩
      refine wm_c ⟨(wk_X8_scheme_X8_scheme_r3 _ (wm_4 (wm_2 wm_h))), ?_⟩
      refine wm_c ⟨(wk_X8_scheme_X8_scheme_r3 _ (wm_4 (wm_2 (wm_1 wm_h)))), ?_⟩
      refine wm_c ⟨(wk_X8_scheme_X8_scheme_r3 _ (wm_8 wm_h)), ?_⟩
      refine wm_c ⟨(wk_X8_scheme_X8_scheme_r3 _ (wm_8 (wm_1 wm_h))), ?_⟩
      exact wm_n
  · exact wk_X8_scheme_X80
set_option maxRecDepth 20000 in
theorem gX8_scheme_X8_makes : GoodIn wsX8_scheme (wsV RX8 236 RX8 yX8_makes wsX8_makes) := by
  refine goodIn_app (goodIn_sub ?_ ?_) ggX8_scheme_X8_makes
  · exact wm_c ⟨(wk_X8_scheme_X8_scheme_r1 _ (wm_8 wm_h)), wm_c ⟨(wk_X8_scheme_X8_scheme_r1 _ (wm_8 (wm_1 wm_h))), wm_c ⟨(wk_X8_scheme_X8_scheme_r1 _ (wm_8 (wm_2 wm_h))), wm_c ⟨(wk_X8_scheme_X8_scheme_r1 _ (wm_2 wm_h)), wm_n⟩⟩⟩⟩
  · decide +kernel
theorem dX8_scheme_0 : decode cX8_scheme 0 = .ok (.iload_n 1, 1) := by decide +kernel
theorem dX8_scheme_1 : decode cX8_scheme 1 = .ok (.invokestatic 157, 3) := by decide +kernel
theorem dX8_scheme_4 : decode cX8_scheme 4 = .ok (.ifCond .ne 5, 3) := by decide +kernel
theorem dX8_scheme_7 : decode cX8_scheme 7 = .ok (.iconst (-1), 1) := by decide +kernel
theorem dX8_scheme_8 : decode cX8_scheme 8 = .ok (.ireturn, 1) := by decide +kernel
theorem dX8_scheme_9 : decode cX8_scheme 9 = .ok (.aload_n 0, 1) := by decide +kernel
theorem dX8_scheme_10 : decode cX8_scheme 10 = .ok (.iload_n 1, 1) := by decide +kernel
theorem dX8_scheme_11 : decode cX8_scheme 11 = .ok (.invokevirtual 236, 3) := by decide +kernel
theorem dX8_scheme_14 : decode cX8_scheme 14 = .ok (.iconst 0, 1) := by decide +kernel
theorem dX8_scheme_15 : decode cX8_scheme 15 = .ok (.ireturn, 1) := by decide +kernel
set_option maxRecDepth 20000 in
theorem ggX8_order_X8_makes : GoodIn wsX8_order wsX8_makes := by
  refine goodIn_sub ?_ gd_X8_makes
  unfold wsX8_makes
  refine wm_c ⟨(wk_X8_order_X8_order_r1 _ (wm_8 wm_h)), ?_⟩
  refine wm_a ⟨?_, ?_⟩
  · refine wm_a ⟨?_, ?_⟩
    · unfold wsX8_makes_r1
      refine wm_c ⟨(wk_X8_order_X8_order_r1 _ (wm_8 (wm_1 wm_h))), ?_⟩
      refine wm_c ⟨(wk_X8_order_X8_order_r1 _ (wm_1 wm_h)), ?_⟩
      refine wm_c ⟨(wk_X8_order_X8_order_r1 _ (wm_8 (wm_2 wm_h))), ?_⟩
      refine wm_c ⟨(wk_X8_order_X8_order_r1 _ (wm_8 (wm_2 (wm_1 wm_h)))), ?_⟩
      refine wm_c ⟨(wk_X8_order_X8_order_r1 _ (wm_8 (wm_4 wm_h))), ?_⟩
      refine wm_c ⟨(wk_X8_order_X8_order_r1 _ (wm_8 (wm_4 (wm_1 wm_h)))), ?_⟩
      refine wm_c ⟨(wk_X8_order_X8_order_r1 _ (wm_8 (wm_4 (wm_2 wm_h)))), ?_⟩
      refine wm_c ⟨(wk_X8_order_X8_order_r1 _ (wm_8 (wm_4 (wm_2 (wm_1 wm_h))))), ?_⟩
      refine wm_c ⟨(wk_X8_order_X8_order_r1 _ (wm_4 (wm_2 (wm_1 wm_h)))), ?_⟩
      refine wm_c ⟨(wk_X8_order_X8_order_r1 _ (wm_16 wm_h)), ?_⟩
      refine wm_c ⟨(wk_X8_order_X8_order_r1 _ (wm_16 (wm_1 wm_h))), ?_⟩
      refine wm_c ⟨(wk_X8_order_X8_order_r1 _ (wm_16 (wm_2 wm_h))), ?_⟩
      refine wm_c ⟨(wk_X8_order_X8_order_r1 _ (wm_16 (wm_2 (wm_1 wm_h)))), ?_⟩
      refine wm_c ⟨(wk_X8_order_X8_order_r1 _ (wm_16 (wm_4 wm_h))), ?_⟩
      refine wm_c ⟨(wk_X8_order_X8_order_r1 _ wm_h), ?_⟩
      refine wm_c ⟨(wk_X8_order_X8_order_r1 _ (wm_16 (wm_4 (wm_1 wm_h)))), ?_⟩
      refine wm_c ⟨(wk_X8_order_X8_order_r1 _ (wm_16 (wm_4 (wm_2 wm_h)))), ?_⟩
      refine wm_c ⟨(wk_X8_order_X8_order_r1 _ (wm_16 (wm_4 (wm_2 (wm_1 wm_h))))), ?_⟩
      refine wm_c ⟨(wk_X8_order_X8_order_r2 _ wm_h), ?_⟩
      refine wm_c ⟨(wk_X8_order_X8_order_r1 _ (wm_2 (wm_1 wm_h))), ?_⟩
      refine wm_c ⟨(wk_X8_order_X8_order_r2 _ (wm_1 wm_h)), ?_⟩
      refine wm_c ⟨(wk_X8_order_X8_order_r2 _ (wm_2 wm_h)), ?_⟩
      refine wm_c ⟨(wk_X8_order_X8_order_r2 _ (wm_2 (wm_1 wm_h))), ?_⟩
      refine wm_c ⟨(wk_X8_order_X8_order_r2 _ (wm_4 wm_h)), ?_⟩
      exact wm_n
    · unfold wsX8_makes_r2
      refine wm_c ⟨(wk_X8_order_X8_order_r2 _ (wm_4 (wm_1 wm_h))), ?_⟩
      refine wm_c ⟨(wk_X8_order_X8_order_r2 _ (wm_4 (wm_2 wm_h))), ?_⟩
      refine wm_c ⟨(wk_X8_order_X8_order_r2 _ (wm_4 (wm_2 (wm_1 wm_h)))), ?_⟩
      refine wm_c ⟨(wk_X8_order_X8_order_r2 _ (wm_8 wm_h)), ?_⟩
      refine wm_c ⟨(wk_X8_order_X8_order_r2 _ (wm_8 (wm_1 wm_h))), ?_⟩
      refine wm_c ⟨(wk_X8_order_X8_order_r1 _ (wm_2 wm_h)), ?_⟩
      refine wm_c ⟨(wk_X8_order_X8_order_r2 _ (wm_8 (wm_2 wm_h))), ?_⟩
      refine wm_c ⟨(wk_X8_order_X8_order_r2 _ (wm_8 (wm_2 (wm_1 wm_h)))), ?_⟩
      refine wm_c ⟨(wk_X8_order_X8_order_r2 _ (wm_8 (wm_4 wm_h))), ?_⟩
      refine wm_c ⟨(wk_X8_order_X8_order_r2 _ (wm_8 (wm_4 (wm_1 wm_h)))), ?_⟩
      refine wm_c ⟨(wk_X8_order_X8_order_r2 _ (wm_8 (wm_4 (wm_2 wm_h)))), ?_⟩
      refine wm_c ⟨(wk_X8_order_X8_order_r2 _ (wm_8 (wm_4 (wm_2 (wm_1 wm_h))))), ?_⟩
      refine wm_c ⟨(wk_X8_order_X8_order_r2 _ (wm_16 wm_h)), ?_⟩
      refine wm_c ⟨(wk_X8_order_X8_order_r2 _ (wm_16 (wm_1 wm_h))), ?_⟩
      refine wm_c ⟨(wk_X8_order_X8_order_r2 _ (wm_16 (wm_2 wm_h))), ?_⟩
      refine wm_c ⟨(wk_X8_order_X8_order_r2 _ (wm_16 (wm_2 (wm_1 wm_h)))), ?_⟩
      refine wm_c ⟨(wk_X8_order_X8_order_r2 _ (wm_16 (wm_4 wm_h))), ?_⟩
      refine wm_c ⟨(wk_X8_order_X8_order_r2 _ (wm_16 (wm_4 (wm_1 wm_h)))), ?_⟩
      refine wm_c ⟨(wk_X8_order_X8_order_r2 _ (wm_16 (wm_4 (wm_2 wm_h)))), ?_⟩
      refine wm_c ⟨(wk_X8_order_X8_order_r2 _ (wm_16 (wm_4 (wm_2 (wm_1 wm_h))))), ?_⟩
      refine wm_c ⟨(wk_X8_order_X8_order_r3 _ wm_h), ?_⟩
      refine wm_c ⟨(wk_X8_order_X8_order_r3 _ (wm_1 wm_h)), ?_⟩
      refine wm_c ⟨(wk_X8_order_X8_order_r3 _ (wm_2 wm_h)), ?_⟩
      exact wm_n
  · exact wk_X8_order_X80
set_option maxRecDepth 20000 in
theorem gX8_order_X8_makes : GoodIn wsX8_order (wsV RX8 236 RX8 yX8_makes wsX8_makes) := by
  refine goodIn_app (goodIn_sub ?_ ?_) ggX8_order_X8_makes
  · exact wm_c ⟨(wk_X8_order_X8_order_r1 _ (wm_4 wm_h)), wm_c ⟨(wk_X8_order_X8_order_r1 _ (wm_4 (wm_1 wm_h))), wm_c ⟨(wk_X8_order_X8_order_r1 _ (wm_4 (wm_2 wm_h))), wm_c ⟨(wk_X8_order_X8_order_r1 _ (wm_4 (wm_2 (wm_1 wm_h)))), wm_n⟩⟩⟩⟩
  · decide +kernel
theorem dX8_order_0 : decode cX8_order 0 = .ok (.aload_n 0, 1) := by decide +kernel
theorem dX8_order_1 : decode cX8_order 1 = .ok (.bipush 18, 2) := by decide +kernel
theorem dX8_order_3 : decode cX8_order 3 = .ok (.invokevirtual 236, 3) := by decide +kernel
theorem dX8_order_6 : decode cX8_order 6 = .ok (.iconst 0, 1) := by decide +kernel
theorem dX8_order_7 : decode cX8_order 7 = .ok (.istore_n 1, 1) := by decide +kernel
theorem dX8_order_8 : decode cX8_order 8 = .ok (.iload_n 1, 1) := by decide +kernel
theorem dX8_order_9 : decode cX8_order 9 = .ok (.aload_n 0, 1) := by decide +kernel
theorem dX8_order_10 : decode cX8_order 10 = .ok (.getfield 95, 3) := by decide +kernel
theorem dX8_order_13 : decode cX8_order 13 = .ok (.if_icmp .ge 60, 3) := by decide +kernel
theorem dX8_order_16 : decode cX8_order 16 = .ok (.aload_n 0, 1) := by decide +kernel
theorem dX8_order_17 : decode cX8_order 17 = .ok (.getfield 23, 3) := by decide +kernel
theorem dX8_order_20 : decode cX8_order 20 = .ok (.sipush 6552, 3) := by decide +kernel
theorem dX8_order_23 : decode cX8_order 23 = .ok (.iload_n 1, 1) := by decide +kernel
theorem dX8_order_24 : decode cX8_order 24 = .ok (.iadd, 1) := by decide +kernel
theorem dX8_order_25 : decode cX8_order 25 = .ok (.laload, 1) := by decide +kernel
theorem dX8_order_26 : decode cX8_order 26 = .ok (.aload_n 0, 1) := by decide +kernel
theorem dX8_order_27 : decode cX8_order 27 = .ok (.getfield 20, 3) := by decide +kernel
theorem dX8_order_30 : decode cX8_order 30 = .ok (.iload_n 1, 1) := by decide +kernel
theorem dX8_order_31 : decode cX8_order 31 = .ok (.iaload, 1) := by decide +kernel
theorem dX8_order_32 : decode cX8_order 32 = .ok (.iconst 1, 1) := by decide +kernel
theorem dX8_order_33 : decode cX8_order 33 = .ok (.if_icmp .ne 7, 3) := by decide +kernel
theorem dX8_order_36 : decode cX8_order 36 = .ok (.lconst 1, 1) := by decide +kernel
theorem dX8_order_37 : decode cX8_order 37 = .ok (.goto 4, 3) := by decide +kernel
theorem dX8_order_40 : decode cX8_order 40 = .ok (.lconst 0, 1) := by decide +kernel
theorem dX8_order_41 : decode cX8_order 41 = .ok (.lcmp, 1) := by decide +kernel
theorem dX8_order_42 : decode cX8_order 42 = .ok (.ifCond .eq 25, 3) := by decide +kernel
theorem dX8_order_45 : decode cX8_order 45 = .ok (.aload_n 0, 1) := by decide +kernel
theorem dX8_order_46 : decode cX8_order 46 = .ok (.getfield 20, 3) := by decide +kernel
theorem dX8_order_49 : decode cX8_order 49 = .ok (.iload_n 1, 1) := by decide +kernel
theorem dX8_order_50 : decode cX8_order 50 = .ok (.iaload, 1) := by decide +kernel
theorem dX8_order_51 : decode cX8_order 51 = .ok (.ifCond .ne 7, 3) := by decide +kernel
theorem dX8_order_54 : decode cX8_order 54 = .ok (.iconst 0, 1) := by decide +kernel
theorem dX8_order_55 : decode cX8_order 55 = .ok (.goto 11, 3) := by decide +kernel
theorem dX8_order_58 : decode cX8_order 58 = .ok (.aload_n 0, 1) := by decide +kernel
theorem dX8_order_59 : decode cX8_order 59 = .ok (.getfield 20, 3) := by decide +kernel
theorem dX8_order_62 : decode cX8_order 62 = .ok (.iload_n 1, 1) := by decide +kernel
theorem dX8_order_63 : decode cX8_order 63 = .ok (.iaload, 1) := by decide +kernel
theorem dX8_order_64 : decode cX8_order 64 = .ok (.iconst 1, 1) := by decide +kernel
theorem dX8_order_65 : decode cX8_order 65 = .ok (.isub, 1) := by decide +kernel
theorem dX8_order_66 : decode cX8_order 66 = .ok (.ireturn, 1) := by decide +kernel
theorem dX8_order_67 : decode cX8_order 67 = .ok (.iinc 1 1, 3) := by decide +kernel
theorem dX8_order_70 : decode cX8_order 70 = .ok (.goto (-62), 3) := by decide +kernel
theorem dX8_order_73 : decode cX8_order 73 = .ok (.aload_n 0, 1) := by decide +kernel
theorem dX8_order_74 : decode cX8_order 74 = .ok (.getfield 92, 3) := by decide +kernel
theorem dX8_order_77 : decode cX8_order 77 = .ok (.ireturn, 1) := by decide +kernel
set_option maxRecDepth 20000 in
theorem ggX8_relate_X8_isSum : GoodIn wsX8_relate wsX8_isSum := by
  refine goodIn_sub ?_ gd_X8_isSum
  unfold wsX8_isSum
  refine wm_c ⟨(wk_X8_relate_X8_relate_r1 _ (wm_8 (wm_2 (wm_1 wm_h)))), ?_⟩
  refine wm_c ⟨(wk_X8_relate_X8_relate_r1 _ (wm_8 (wm_4 wm_h))), ?_⟩
  refine wm_c ⟨(wk_X8_relate_X8_relate_r1 _ (wm_8 (wm_4 (wm_1 wm_h)))), ?_⟩
  refine wm_c ⟨(wk_X8_relate_X8_relate_r1 _ (wm_8 (wm_4 (wm_2 wm_h)))), ?_⟩
  refine wm_c ⟨(wk_X8_relate_X8_relate_r1 _ (wm_8 (wm_2 wm_h))), ?_⟩
  refine wm_c ⟨(wk_X8_relate_X8_relate_r1 _ (wm_8 (wm_4 (wm_2 (wm_1 wm_h))))), ?_⟩
  exact wm_n
set_option maxRecDepth 20000 in
theorem gX8_relate_X8_isSum : GoodIn wsX8_relate (va_wsS RX8 157 yX8_isSum wsX8_isSum) := goodIn_app (goodIn_of _ (by decide +kernel)) ggX8_relate_X8_isSum
set_option maxRecDepth 20000 in
theorem ggX8_relate_X8_isLie : GoodIn wsX8_relate wsX8_isLie := by
  refine goodIn_sub ?_ gd_X8_isLie
  unfold wsX8_isLie
  refine wm_c ⟨(wk_X8_relate_X8_relate_r1 _ (wm_16 (wm_2 (wm_1 wm_h)))), ?_⟩
  refine wm_a ⟨?_, ?_⟩
  · refine wm_a ⟨?_, ?_⟩
    · unfold wsX8_isLie_r1
      refine wm_c ⟨(wk_X8_relate_X8_relate_r1 _ wm_h), ?_⟩
      refine wm_c ⟨(wk_X8_relate_X8_relate_r1 _ (wm_1 wm_h)), ?_⟩
      refine wm_c ⟨(wk_X8_relate_X8_relate_r1 _ (wm_16 (wm_4 wm_h))), ?_⟩
      refine wm_c ⟨(wk_X8_relate_X8_relate_r1 _ (wm_16 (wm_4 (wm_1 wm_h)))), ?_⟩
      refine wm_c ⟨(wk_X8_relate_X8_relate_r1 _ (wm_16 (wm_4 (wm_2 wm_h)))), ?_⟩
      refine wm_c ⟨(wk_X8_relate_X8_relate_r1 _ (wm_16 (wm_4 (wm_2 (wm_1 wm_h))))), ?_⟩
      refine wm_c ⟨(wk_X8_relate_X8_relate_r1 _ (wm_8 (wm_2 wm_h))), ?_⟩
      refine wm_c ⟨(wk_X8_relate_X8_relate_r2 _ wm_h), ?_⟩
      refine wm_c ⟨(wk_X8_relate_X8_relate_r2 _ (wm_1 wm_h)), ?_⟩
      refine wm_c ⟨(wk_X8_relate_X8_relate_r2 _ (wm_2 wm_h)), ?_⟩
      refine wm_c ⟨(wk_X8_relate_X8_relate_r2 _ (wm_2 (wm_1 wm_h))), ?_⟩
      refine wm_c ⟨(wk_X8_relate_X8_relate_r2 _ (wm_4 wm_h)), ?_⟩
      refine wm_c ⟨(wk_X8_relate_X8_relate_r1 _ (wm_2 wm_h)), ?_⟩
      refine wm_c ⟨(wk_X8_relate_X8_relate_r1 _ (wm_4 (wm_2 (wm_1 wm_h)))), ?_⟩
      refine wm_c ⟨(wk_X8_relate_X8_relate_r1 _ (wm_4 (wm_1 wm_h))), ?_⟩
      refine wm_c ⟨(wk_X8_relate_X8_relate_r2 _ (wm_4 (wm_1 wm_h))), ?_⟩
      refine wm_c ⟨(wk_X8_relate_X8_relate_r2 _ (wm_4 (wm_2 wm_h))), ?_⟩
      refine wm_c ⟨(wk_X8_relate_X8_relate_r2 _ (wm_4 (wm_2 (wm_1 wm_h)))), ?_⟩
      refine wm_c ⟨(wk_X8_relate_X8_relate_r2 _ (wm_8 wm_h)), ?_⟩
      refine wm_c ⟨(wk_X8_relate_X8_relate_r2 _ (wm_8 (wm_1 wm_h))), ?_⟩
      refine wm_c ⟨(wk_X8_relate_X8_relate_r2 _ (wm_8 (wm_2 wm_h))), ?_⟩
      refine wm_c ⟨(wk_X8_relate_X8_relate_r2 _ (wm_8 (wm_2 (wm_1 wm_h)))), ?_⟩
      refine wm_c ⟨(wk_X8_relate_X8_relate_r2 _ (wm_8 (wm_4 wm_h))), ?_⟩
      refine wm_c ⟨(wk_X8_relate_X8_relate_r2 _ (wm_8 (wm_4 (wm_1 wm_h)))), ?_⟩
      exact wm_n
    · unfold wsX8_isLie_r2
      refine wm_c ⟨(wk_X8_relate_X8_relate_r2 _ (wm_8 (wm_4 (wm_2 wm_h)))), ?_⟩
      refine wm_c ⟨(wk_X8_relate_X8_relate_r2 _ (wm_8 (wm_4 (wm_2 (wm_1 wm_h))))), ?_⟩
      refine wm_c ⟨(wk_X8_relate_X8_relate_r2 _ (wm_16 wm_h)), ?_⟩
      refine wm_c ⟨(wk_X8_relate_X8_relate_r2 _ (wm_16 (wm_1 wm_h))), ?_⟩
      refine wm_c ⟨(wk_X8_relate_X8_relate_r2 _ (wm_16 (wm_2 wm_h))), ?_⟩
      refine wm_c ⟨(wk_X8_relate_X8_relate_r2 _ (wm_16 (wm_2 (wm_1 wm_h)))), ?_⟩
      refine wm_c ⟨(wk_X8_relate_X8_relate_r2 _ (wm_16 (wm_4 wm_h))), ?_⟩
      refine wm_c ⟨(wk_X8_relate_X8_relate_r2 _ (wm_16 (wm_4 (wm_1 wm_h)))), ?_⟩
      refine wm_c ⟨(wk_X8_relate_X8_relate_r2 _ (wm_16 (wm_4 (wm_2 wm_h)))), ?_⟩
      refine wm_c ⟨(wk_X8_relate_X8_relate_r2 _ (wm_16 (wm_4 (wm_2 (wm_1 wm_h))))), ?_⟩
      refine wm_c ⟨(wk_X8_relate_X8_relate_r3 _ wm_h), ?_⟩
      refine wm_c ⟨(wk_X8_relate_X8_relate_r3 _ (wm_1 wm_h)), ?_⟩
      refine wm_c ⟨(wk_X8_relate_X8_relate_r3 _ (wm_2 wm_h)), ?_⟩
      refine wm_c ⟨(wk_X8_relate_X8_relate_r3 _ (wm_2 (wm_1 wm_h))), ?_⟩
      refine wm_c ⟨(wk_X8_relate_X8_relate_r3 _ (wm_4 wm_h)), ?_⟩
      refine wm_c ⟨(wk_X8_relate_X8_relate_r3 _ (wm_4 (wm_1 wm_h))), ?_⟩
      refine wm_c ⟨(wk_X8_relate_X8_relate_r3 _ (wm_4 (wm_2 wm_h))), ?_⟩
      refine wm_c ⟨(wk_X8_relate_X8_relate_r3 _ (wm_4 (wm_2 (wm_1 wm_h)))), ?_⟩
      exact wm_n
  · exact wk_X8_relate_X80
set_option maxRecDepth 20000 in
theorem gX8_relate_X8_isLie : GoodIn wsX8_relate (wsV RX8 224 RX8 yX8_isLie wsX8_isLie) := by
  refine goodIn_app (goodIn_sub ?_ ?_) ggX8_relate_X8_isLie
  · exact wm_c ⟨(wk_X8_relate_X8_relate_r1 _ (wm_16 wm_h)), wm_c ⟨(wk_X8_relate_X8_relate_r1 _ (wm_16 (wm_1 wm_h))), wm_c ⟨(wk_X8_relate_X8_relate_r1 _ (wm_16 (wm_2 wm_h))), wm_c ⟨(wk_X8_relate_X8_relate_r1 _ (wm_8 (wm_2 wm_h))), wm_n⟩⟩⟩⟩
  · decide +kernel
theorem dX8_relate_0 : decode cX8_relate 0 = .ok (.iload_n 1, 1) := by decide +kernel
theorem dX8_relate_1 : decode cX8_relate 1 = .ok (.invokestatic 157, 3) := by decide +kernel
theorem dX8_relate_4 : decode cX8_relate 4 = .ok (.ifCond .ne 5, 3) := by decide +kernel
theorem dX8_relate_7 : decode cX8_relate 7 = .ok (.iconst (-1), 1) := by decide +kernel
theorem dX8_relate_8 : decode cX8_relate 8 = .ok (.ireturn, 1) := by decide +kernel
theorem dX8_relate_9 : decode cX8_relate 9 = .ok (.iconst (-1), 1) := by decide +kernel
theorem dX8_relate_10 : decode cX8_relate 10 = .ok (.istore_n 2, 1) := by decide +kernel
theorem dX8_relate_11 : decode cX8_relate 11 = .ok (.iconst 0, 1) := by decide +kernel
theorem dX8_relate_12 : decode cX8_relate 12 = .ok (.istore_n 3, 1) := by decide +kernel
theorem dX8_relate_13 : decode cX8_relate 13 = .ok (.iconst 0, 1) := by decide +kernel
theorem dX8_relate_14 : decode cX8_relate 14 = .ok (.istore 4, 2) := by decide +kernel
theorem dX8_relate_16 : decode cX8_relate 16 = .ok (.iload 4, 2) := by decide +kernel
theorem dX8_relate_18 : decode cX8_relate 18 = .ok (.aload_n 0, 1) := by decide +kernel
theorem dX8_relate_19 : decode cX8_relate 19 = .ok (.getfield 95, 3) := by decide +kernel
theorem dX8_relate_22 : decode cX8_relate 22 = .ok (.if_icmp .ge 61, 3) := by decide +kernel
theorem dX8_relate_25 : decode cX8_relate 25 = .ok (.aload_n 0, 1) := by decide +kernel
theorem dX8_relate_26 : decode cX8_relate 26 = .ok (.getfield 23, 3) := by decide +kernel
theorem dX8_relate_29 : decode cX8_relate 29 = .ok (.sipush 364, 3) := by decide +kernel
theorem dX8_relate_32 : decode cX8_relate 32 = .ok (.iload_n 1, 1) := by decide +kernel
theorem dX8_relate_33 : decode cX8_relate 33 = .ok (.imul, 1) := by decide +kernel
theorem dX8_relate_34 : decode cX8_relate 34 = .ok (.iload 4, 2) := by decide +kernel
theorem dX8_relate_36 : decode cX8_relate 36 = .ok (.iadd, 1) := by decide +kernel
theorem dX8_relate_37 : decode cX8_relate 37 = .ok (.laload, 1) := by decide +kernel
theorem dX8_relate_38 : decode cX8_relate 38 = .ok (.lconst 0, 1) := by decide +kernel
theorem dX8_relate_39 : decode cX8_relate 39 = .ok (.lcmp, 1) := by decide +kernel
theorem dX8_relate_40 : decode cX8_relate 40 = .ok (.ifCond .eq 37, 3) := by decide +kernel
theorem dX8_relate_43 : decode cX8_relate 43 = .ok (.iload_n 3, 1) := by decide +kernel
theorem dX8_relate_44 : decode cX8_relate 44 = .ok (.ifCond .ne 19, 3) := by decide +kernel
theorem dX8_relate_47 : decode cX8_relate 47 = .ok (.iload_n 2, 1) := by decide +kernel
theorem dX8_relate_48 : decode cX8_relate 48 = .ok (.iconst (-1), 1) := by decide +kernel
theorem dX8_relate_49 : decode cX8_relate 49 = .ok (.if_icmp .eq 18, 3) := by decide +kernel
theorem dX8_relate_52 : decode cX8_relate 52 = .ok (.iload_n 2, 1) := by decide +kernel
theorem dX8_relate_53 : decode cX8_relate 53 = .ok (.aload_n 0, 1) := by decide +kernel
theorem dX8_relate_54 : decode cX8_relate 54 = .ok (.getfield 20, 3) := by decide +kernel
theorem dX8_relate_57 : decode cX8_relate 57 = .ok (.iload 4, 2) := by decide +kernel
theorem dX8_relate_59 : decode cX8_relate 59 = .ok (.iaload, 1) := by decide +kernel
theorem dX8_relate_60 : decode cX8_relate 60 = .ok (.if_icmp .eq 7, 3) := by decide +kernel
theorem dX8_relate_63 : decode cX8_relate 63 = .ok (.iconst 1, 1) := by decide +kernel
theorem dX8_relate_64 : decode cX8_relate 64 = .ok (.goto 4, 3) := by decide +kernel
theorem dX8_relate_67 : decode cX8_relate 67 = .ok (.iconst 0, 1) := by decide +kernel
theorem dX8_relate_68 : decode cX8_relate 68 = .ok (.istore_n 3, 1) := by decide +kernel
theorem dX8_relate_69 : decode cX8_relate 69 = .ok (.aload_n 0, 1) := by decide +kernel
theorem dX8_relate_70 : decode cX8_relate 70 = .ok (.getfield 20, 3) := by decide +kernel
theorem dX8_relate_73 : decode cX8_relate 73 = .ok (.iload 4, 2) := by decide +kernel
theorem dX8_relate_75 : decode cX8_relate 75 = .ok (.iaload, 1) := by decide +kernel
theorem dX8_relate_76 : decode cX8_relate 76 = .ok (.istore_n 2, 1) := by decide +kernel
theorem dX8_relate_77 : decode cX8_relate 77 = .ok (.iinc 4 1, 3) := by decide +kernel
theorem dX8_relate_80 : decode cX8_relate 80 = .ok (.goto (-64), 3) := by decide +kernel
theorem dX8_relate_83 : decode cX8_relate 83 = .ok (.iload_n 2, 1) := by decide +kernel
theorem dX8_relate_84 : decode cX8_relate 84 = .ok (.iconst (-1), 1) := by decide +kernel
theorem dX8_relate_85 : decode cX8_relate 85 = .ok (.if_icmp .eq 15, 3) := by decide +kernel
theorem dX8_relate_88 : decode cX8_relate 88 = .ok (.iload_n 3, 1) := by decide +kernel
theorem dX8_relate_89 : decode cX8_relate 89 = .ok (.ifCond .ne 11, 3) := by decide +kernel
theorem dX8_relate_92 : decode cX8_relate 92 = .ok (.aload_n 0, 1) := by decide +kernel
theorem dX8_relate_93 : decode cX8_relate 93 = .ok (.iload_n 1, 1) := by decide +kernel
theorem dX8_relate_94 : decode cX8_relate 94 = .ok (.invokevirtual 224, 3) := by decide +kernel
theorem dX8_relate_97 : decode cX8_relate 97 = .ok (.ifCond .ne 6, 3) := by decide +kernel
theorem dX8_relate_100 : decode cX8_relate 100 = .ok (.bipush (-3), 2) := by decide +kernel
theorem dX8_relate_102 : decode cX8_relate 102 = .ok (.ireturn, 1) := by decide +kernel
theorem dX8_relate_103 : decode cX8_relate 103 = .ok (.aload_n 0, 1) := by decide +kernel
theorem dX8_relate_104 : decode cX8_relate 104 = .ok (.getfield 239, 3) := by decide +kernel
theorem dX8_relate_107 : decode cX8_relate 107 = .ok (.iconst 4, 1) := by decide +kernel
theorem dX8_relate_108 : decode cX8_relate 108 = .ok (.if_icmp .ne 6, 3) := by decide +kernel
theorem dX8_relate_111 : decode cX8_relate 111 = .ok (.bipush (-4), 2) := by decide +kernel
theorem dX8_relate_113 : decode cX8_relate 113 = .ok (.ireturn, 1) := by decide +kernel
theorem dX8_relate_114 : decode cX8_relate 114 = .ok (.aload_n 0, 1) := by decide +kernel
theorem dX8_relate_115 : decode cX8_relate 115 = .ok (.getfield 57, 3) := by decide +kernel
theorem dX8_relate_118 : decode cX8_relate 118 = .ok (.aload_n 0, 1) := by decide +kernel
theorem dX8_relate_119 : decode cX8_relate 119 = .ok (.getfield 239, 3) := by decide +kernel
theorem dX8_relate_122 : decode cX8_relate 122 = .ok (.iload_n 2, 1) := by decide +kernel
theorem dX8_relate_123 : decode cX8_relate 123 = .ok (.iastore, 1) := by decide +kernel
theorem dX8_relate_124 : decode cX8_relate 124 = .ok (.iconst 0, 1) := by decide +kernel
theorem dX8_relate_125 : decode cX8_relate 125 = .ok (.istore 4, 2) := by decide +kernel
theorem dX8_relate_127 : decode cX8_relate 127 = .ok (.iload 4, 2) := by decide +kernel
theorem dX8_relate_129 : decode cX8_relate 129 = .ok (.aload_n 0, 1) := by decide +kernel
theorem dX8_relate_130 : decode cX8_relate 130 = .ok (.getfield 13, 3) := by decide +kernel
theorem dX8_relate_133 : decode cX8_relate 133 = .ok (.iload_n 2, 1) := by decide +kernel
theorem dX8_relate_134 : decode cX8_relate 134 = .ok (.iaload, 1) := by decide +kernel
theorem dX8_relate_135 : decode cX8_relate 135 = .ok (.if_icmp .ge 45, 3) := by decide +kernel
theorem dX8_relate_138 : decode cX8_relate 138 = .ok (.aload_n 0, 1) := by decide +kernel
theorem dX8_relate_139 : decode cX8_relate 139 = .ok (.getfield 60, 3) := by decide +kernel
theorem dX8_relate_142 : decode cX8_relate 142 = .ok (.sipush 256, 3) := by decide +kernel
theorem dX8_relate_145 : decode cX8_relate 145 = .ok (.aload_n 0, 1) := by decide +kernel
theorem dX8_relate_146 : decode cX8_relate 146 = .ok (.getfield 239, 3) := by decide +kernel
theorem dX8_relate_149 : decode cX8_relate 149 = .ok (.imul, 1) := by decide +kernel
theorem dX8_relate_150 : decode cX8_relate 150 = .ok (.iload 4, 2) := by decide +kernel
theorem dX8_relate_152 : decode cX8_relate 152 = .ok (.iadd, 1) := by decide +kernel
theorem dX8_relate_153 : decode cX8_relate 153 = .ok (.aload_n 0, 1) := by decide +kernel
theorem dX8_relate_154 : decode cX8_relate 154 = .ok (.getfield 23, 3) := by decide +kernel
theorem dX8_relate_157 : decode cX8_relate 157 = .ok (.sipush 364, 3) := by decide +kernel
theorem dX8_relate_160 : decode cX8_relate 160 = .ok (.iload_n 1, 1) := by decide +kernel
theorem dX8_relate_161 : decode cX8_relate 161 = .ok (.imul, 1) := by decide +kernel
theorem dX8_relate_162 : decode cX8_relate 162 = .ok (.aload_n 0, 1) := by decide +kernel
theorem dX8_relate_163 : decode cX8_relate 163 = .ok (.getfield 17, 3) := by decide +kernel
theorem dX8_relate_166 : decode cX8_relate 166 = .ok (.iload_n 2, 1) := by decide +kernel
theorem dX8_relate_167 : decode cX8_relate 167 = .ok (.iaload, 1) := by decide +kernel
theorem dX8_relate_168 : decode cX8_relate 168 = .ok (.iadd, 1) := by decide +kernel
theorem dX8_relate_169 : decode cX8_relate 169 = .ok (.iload 4, 2) := by decide +kernel
theorem dX8_relate_171 : decode cX8_relate 171 = .ok (.iadd, 1) := by decide +kernel
theorem dX8_relate_172 : decode cX8_relate 172 = .ok (.laload, 1) := by decide +kernel
theorem dX8_relate_173 : decode cX8_relate 173 = .ok (.lastore, 1) := by decide +kernel
theorem dX8_relate_174 : decode cX8_relate 174 = .ok (.iinc 4 1, 3) := by decide +kernel
theorem dX8_relate_177 : decode cX8_relate 177 = .ok (.goto (-50), 3) := by decide +kernel
theorem dX8_relate_180 : decode cX8_relate 180 = .ok (.aload_n 0, 1) := by decide +kernel
theorem dX8_relate_181 : decode cX8_relate 181 = .ok (.dup, 1) := by decide +kernel
theorem dX8_relate_182 : decode cX8_relate 182 = .ok (.getfield 239, 3) := by decide +kernel
theorem dX8_relate_185 : decode cX8_relate 185 = .ok (.iconst 1, 1) := by decide +kernel
theorem dX8_relate_186 : decode cX8_relate 186 = .ok (.iadd, 1) := by decide +kernel
theorem dX8_relate_187 : decode cX8_relate 187 = .ok (.putfield 239, 3) := by decide +kernel
theorem dX8_relate_190 : decode cX8_relate 190 = .ok (.aload_n 0, 1) := by decide +kernel
theorem dX8_relate_191 : decode cX8_relate 191 = .ok (.getfield 239, 3) := by decide +kernel
theorem dX8_relate_194 : decode cX8_relate 194 = .ok (.iconst 1, 1) := by decide +kernel
theorem dX8_relate_195 : decode cX8_relate 195 = .ok (.isub, 1) := by decide +kernel
theorem dX8_relate_196 : decode cX8_relate 196 = .ok (.ireturn, 1) := by decide +kernel
set_option maxRecDepth 20000 in
theorem ggX8_spansMore_X8_mod : GoodIn wsX8_spansMore wsX8_mod := by
  refine goodIn_sub ?_ gd_X8_mod
  unfold wsX8_mod
  refine wm_c ⟨(wm_1 (wm_l (wm_8 (wm_1 wm_h)))), ?_⟩
  refine wm_c ⟨(wm_1 (wm_l (wm_4 (wm_1 wm_h)))), ?_⟩
  exact wm_n
set_option maxRecDepth 20000 in
theorem gX8_spansMore_X8_mod : GoodIn wsX8_spansMore (va_wsS RX8 126 yX8_mod wsX8_mod) := goodIn_app (goodIn_of _ (by decide +kernel)) ggX8_spansMore_X8_mod
set_option maxRecDepth 20000 in
theorem ggX8_spansMore_X8_inverted : GoodIn wsX8_spansMore wsX8_inverted := by
  refine goodIn_sub ?_ gd_X8_inverted
  unfold wsX8_inverted
  refine wm_c ⟨(wm_1 (wm_l (wm_8 (wm_4 wm_h)))), ?_⟩
  refine wm_c ⟨(wm_1 (wm_l (wm_8 (wm_4 (wm_1 wm_h))))), ?_⟩
  refine wm_c ⟨(wm_1 (wm_l (wm_4 (wm_1 wm_h)))), ?_⟩
  exact wm_n
set_option maxRecDepth 20000 in
theorem gX8_spansMore_X8_inverted : GoodIn wsX8_spansMore (va_wsS RX8 150 yX8_inverted wsX8_inverted) := goodIn_app (goodIn_of _ (by decide +kernel)) ggX8_spansMore_X8_inverted
theorem dX8_spansMore_0 : decode cX8_spansMore 0 = .ok (.iconst 0, 1) := by decide +kernel
theorem dX8_spansMore_1 : decode cX8_spansMore 1 = .ok (.istore_n 2, 1) := by decide +kernel
theorem dX8_spansMore_2 : decode cX8_spansMore 2 = .ok (.iload_n 2, 1) := by decide +kernel
theorem dX8_spansMore_3 : decode cX8_spansMore 3 = .ok (.aload_n 0, 1) := by decide +kernel
theorem dX8_spansMore_4 : decode cX8_spansMore 4 = .ok (.getfield 242, 3) := by decide +kernel
theorem dX8_spansMore_7 : decode cX8_spansMore 7 = .ok (.if_icmp .ge 84, 3) := by decide +kernel
theorem dX8_spansMore_10 : decode cX8_spansMore 10 = .ok (.aload_n 0, 1) := by decide +kernel
theorem dX8_spansMore_11 : decode cX8_spansMore 11 = .ok (.getfield 45, 3) := by decide +kernel
theorem dX8_spansMore_14 : decode cX8_spansMore 14 = .ok (.aload_n 0, 1) := by decide +kernel
theorem dX8_spansMore_15 : decode cX8_spansMore 15 = .ok (.getfield 66, 3) := by decide +kernel
theorem dX8_spansMore_18 : decode cX8_spansMore 18 = .ok (.iload_n 2, 1) := by decide +kernel
theorem dX8_spansMore_19 : decode cX8_spansMore 19 = .ok (.iaload, 1) := by decide +kernel
theorem dX8_spansMore_20 : decode cX8_spansMore 20 = .ok (.laload, 1) := by decide +kernel
theorem dX8_spansMore_21 : decode cX8_spansMore 21 = .ok (.lstore_n 3, 1) := by decide +kernel
theorem dX8_spansMore_22 : decode cX8_spansMore 22 = .ok (.iconst 0, 1) := by decide +kernel
theorem dX8_spansMore_23 : decode cX8_spansMore 23 = .ok (.istore 5, 2) := by decide +kernel
theorem dX8_spansMore_25 : decode cX8_spansMore 25 = .ok (.iload 5, 2) := by decide +kernel
theorem dX8_spansMore_27 : decode cX8_spansMore 27 = .ok (.aload_n 0, 1) := by decide +kernel
theorem dX8_spansMore_28 : decode cX8_spansMore 28 = .ok (.getfield 13, 3) := by decide +kernel
theorem dX8_spansMore_31 : decode cX8_spansMore 31 = .ok (.iload_n 1, 1) := by decide +kernel
theorem dX8_spansMore_32 : decode cX8_spansMore 32 = .ok (.iaload, 1) := by decide +kernel
theorem dX8_spansMore_33 : decode cX8_spansMore 33 = .ok (.if_icmp .ge 52, 3) := by decide +kernel
theorem dX8_spansMore_36 : decode cX8_spansMore 36 = .ok (.lload_n 3, 1) := by decide +kernel
theorem dX8_spansMore_37 : decode cX8_spansMore 37 = .ok (.lconst 0, 1) := by decide +kernel
theorem dX8_spansMore_38 : decode cX8_spansMore 38 = .ok (.lcmp, 1) := by decide +kernel
theorem dX8_spansMore_39 : decode cX8_spansMore 39 = .ok (.ifCond .eq 46, 3) := by decide +kernel
theorem dX8_spansMore_42 : decode cX8_spansMore 42 = .ok (.aload_n 0, 1) := by decide +kernel
theorem dX8_spansMore_43 : decode cX8_spansMore 43 = .ok (.getfield 45, 3) := by decide +kernel
theorem dX8_spansMore_46 : decode cX8_spansMore 46 = .ok (.iload 5, 2) := by decide +kernel
theorem dX8_spansMore_48 : decode cX8_spansMore 48 = .ok (.aload_n 0, 1) := by decide +kernel
theorem dX8_spansMore_49 : decode cX8_spansMore 49 = .ok (.getfield 45, 3) := by decide +kernel
theorem dX8_spansMore_52 : decode cX8_spansMore 52 = .ok (.iload 5, 2) := by decide +kernel
theorem dX8_spansMore_54 : decode cX8_spansMore 54 = .ok (.laload, 1) := by decide +kernel
theorem dX8_spansMore_55 : decode cX8_spansMore 55 = .ok (.lload_n 3, 1) := by decide +kernel
theorem dX8_spansMore_56 : decode cX8_spansMore 56 = .ok (.aload_n 0, 1) := by decide +kernel
theorem dX8_spansMore_57 : decode cX8_spansMore 57 = .ok (.getfield 63, 3) := by decide +kernel
theorem dX8_spansMore_60 : decode cX8_spansMore 60 = .ok (.sipush 256, 3) := by decide +kernel
theorem dX8_spansMore_63 : decode cX8_spansMore 63 = .ok (.iload_n 2, 1) := by decide +kernel
theorem dX8_spansMore_64 : decode cX8_spansMore 64 = .ok (.imul, 1) := by decide +kernel
theorem dX8_spansMore_65 : decode cX8_spansMore 65 = .ok (.iload 5, 2) := by decide +kernel
theorem dX8_spansMore_67 : decode cX8_spansMore 67 = .ok (.iadd, 1) := by decide +kernel
theorem dX8_spansMore_68 : decode cX8_spansMore 68 = .ok (.laload, 1) := by decide +kernel
theorem dX8_spansMore_69 : decode cX8_spansMore 69 = .ok (.lmul, 1) := by decide +kernel
theorem dX8_spansMore_70 : decode cX8_spansMore 70 = .ok (.ldc2_w 3, 3) := by decide +kernel
theorem dX8_spansMore_73 : decode cX8_spansMore 73 = .ok (.lrem, 1) := by decide +kernel
theorem dX8_spansMore_74 : decode cX8_spansMore 74 = .ok (.lsub, 1) := by decide +kernel
theorem dX8_spansMore_75 : decode cX8_spansMore 75 = .ok (.invokestatic 126, 3) := by decide +kernel
theorem dX8_spansMore_78 : decode cX8_spansMore 78 = .ok (.lastore, 1) := by decide +kernel
theorem dX8_spansMore_79 : decode cX8_spansMore 79 = .ok (.iinc 5 1, 3) := by decide +kernel
theorem dX8_spansMore_82 : decode cX8_spansMore 82 = .ok (.goto (-57), 3) := by decide +kernel
theorem dX8_spansMore_85 : decode cX8_spansMore 85 = .ok (.iinc 2 1, 3) := by decide +kernel
theorem dX8_spansMore_88 : decode cX8_spansMore 88 = .ok (.goto (-86), 3) := by decide +kernel
theorem dX8_spansMore_91 : decode cX8_spansMore 91 = .ok (.iconst 0, 1) := by decide +kernel
theorem dX8_spansMore_92 : decode cX8_spansMore 92 = .ok (.istore_n 2, 1) := by decide +kernel
theorem dX8_spansMore_93 : decode cX8_spansMore 93 = .ok (.iload_n 2, 1) := by decide +kernel
theorem dX8_spansMore_94 : decode cX8_spansMore 94 = .ok (.aload_n 0, 1) := by decide +kernel
theorem dX8_spansMore_95 : decode cX8_spansMore 95 = .ok (.getfield 13, 3) := by decide +kernel
theorem dX8_spansMore_98 : decode cX8_spansMore 98 = .ok (.iload_n 1, 1) := by decide +kernel
theorem dX8_spansMore_99 : decode cX8_spansMore 99 = .ok (.iaload, 1) := by decide +kernel
theorem dX8_spansMore_100 : decode cX8_spansMore 100 = .ok (.if_icmp .ge 20, 3) := by decide +kernel
theorem dX8_spansMore_103 : decode cX8_spansMore 103 = .ok (.aload_n 0, 1) := by decide +kernel
theorem dX8_spansMore_104 : decode cX8_spansMore 104 = .ok (.getfield 45, 3) := by decide +kernel
theorem dX8_spansMore_107 : decode cX8_spansMore 107 = .ok (.iload_n 2, 1) := by decide +kernel
theorem dX8_spansMore_108 : decode cX8_spansMore 108 = .ok (.laload, 1) := by decide +kernel
theorem dX8_spansMore_109 : decode cX8_spansMore 109 = .ok (.lconst 0, 1) := by decide +kernel
theorem dX8_spansMore_110 : decode cX8_spansMore 110 = .ok (.lcmp, 1) := by decide +kernel
theorem dX8_spansMore_111 : decode cX8_spansMore 111 = .ok (.ifCond .ne 9, 3) := by decide +kernel
theorem dX8_spansMore_114 : decode cX8_spansMore 114 = .ok (.iinc 2 1, 3) := by decide +kernel
theorem dX8_spansMore_117 : decode cX8_spansMore 117 = .ok (.goto (-24), 3) := by decide +kernel
theorem dX8_spansMore_120 : decode cX8_spansMore 120 = .ok (.iload_n 2, 1) := by decide +kernel
theorem dX8_spansMore_121 : decode cX8_spansMore 121 = .ok (.aload_n 0, 1) := by decide +kernel
theorem dX8_spansMore_122 : decode cX8_spansMore 122 = .ok (.getfield 13, 3) := by decide +kernel
theorem dX8_spansMore_125 : decode cX8_spansMore 125 = .ok (.iload_n 1, 1) := by decide +kernel
theorem dX8_spansMore_126 : decode cX8_spansMore 126 = .ok (.iaload, 1) := by decide +kernel
theorem dX8_spansMore_127 : decode cX8_spansMore 127 = .ok (.if_icmp .ne 4, 3) := by decide +kernel
theorem dX8_spansMore_130 : decode cX8_spansMore 130 = .ok (.return_, 1) := by decide +kernel
theorem dX8_spansMore_131 : decode cX8_spansMore 131 = .ok (.aload_n 0, 1) := by decide +kernel
theorem dX8_spansMore_132 : decode cX8_spansMore 132 = .ok (.getfield 45, 3) := by decide +kernel
theorem dX8_spansMore_135 : decode cX8_spansMore 135 = .ok (.iload_n 2, 1) := by decide +kernel
theorem dX8_spansMore_136 : decode cX8_spansMore 136 = .ok (.laload, 1) := by decide +kernel
theorem dX8_spansMore_137 : decode cX8_spansMore 137 = .ok (.invokestatic 150, 3) := by decide +kernel
theorem dX8_spansMore_140 : decode cX8_spansMore 140 = .ok (.lstore_n 3, 1) := by decide +kernel
theorem dX8_spansMore_141 : decode cX8_spansMore 141 = .ok (.iconst 0, 1) := by decide +kernel
theorem dX8_spansMore_142 : decode cX8_spansMore 142 = .ok (.istore 5, 2) := by decide +kernel
theorem dX8_spansMore_144 : decode cX8_spansMore 144 = .ok (.iload 5, 2) := by decide +kernel
theorem dX8_spansMore_146 : decode cX8_spansMore 146 = .ok (.aload_n 0, 1) := by decide +kernel
theorem dX8_spansMore_147 : decode cX8_spansMore 147 = .ok (.getfield 13, 3) := by decide +kernel
theorem dX8_spansMore_150 : decode cX8_spansMore 150 = .ok (.iload_n 1, 1) := by decide +kernel
theorem dX8_spansMore_151 : decode cX8_spansMore 151 = .ok (.iaload, 1) := by decide +kernel
theorem dX8_spansMore_152 : decode cX8_spansMore 152 = .ok (.if_icmp .ge 38, 3) := by decide +kernel
theorem dX8_spansMore_155 : decode cX8_spansMore 155 = .ok (.aload_n 0, 1) := by decide +kernel
theorem dX8_spansMore_156 : decode cX8_spansMore 156 = .ok (.getfield 63, 3) := by decide +kernel
theorem dX8_spansMore_159 : decode cX8_spansMore 159 = .ok (.sipush 256, 3) := by decide +kernel
theorem dX8_spansMore_162 : decode cX8_spansMore 162 = .ok (.aload_n 0, 1) := by decide +kernel
theorem dX8_spansMore_163 : decode cX8_spansMore 163 = .ok (.getfield 242, 3) := by decide +kernel
theorem dX8_spansMore_166 : decode cX8_spansMore 166 = .ok (.imul, 1) := by decide +kernel
theorem dX8_spansMore_167 : decode cX8_spansMore 167 = .ok (.iload 5, 2) := by decide +kernel
theorem dX8_spansMore_169 : decode cX8_spansMore 169 = .ok (.iadd, 1) := by decide +kernel
theorem dX8_spansMore_170 : decode cX8_spansMore 170 = .ok (.aload_n 0, 1) := by decide +kernel
theorem dX8_spansMore_171 : decode cX8_spansMore 171 = .ok (.getfield 45, 3) := by decide +kernel
theorem dX8_spansMore_174 : decode cX8_spansMore 174 = .ok (.iload 5, 2) := by decide +kernel
theorem dX8_spansMore_176 : decode cX8_spansMore 176 = .ok (.laload, 1) := by decide +kernel
theorem dX8_spansMore_177 : decode cX8_spansMore 177 = .ok (.lload_n 3, 1) := by decide +kernel
theorem dX8_spansMore_178 : decode cX8_spansMore 178 = .ok (.lmul, 1) := by decide +kernel
theorem dX8_spansMore_179 : decode cX8_spansMore 179 = .ok (.ldc2_w 3, 3) := by decide +kernel
theorem dX8_spansMore_182 : decode cX8_spansMore 182 = .ok (.lrem, 1) := by decide +kernel
theorem dX8_spansMore_183 : decode cX8_spansMore 183 = .ok (.lastore, 1) := by decide +kernel
theorem dX8_spansMore_184 : decode cX8_spansMore 184 = .ok (.iinc 5 1, 3) := by decide +kernel
theorem dX8_spansMore_187 : decode cX8_spansMore 187 = .ok (.goto (-43), 3) := by decide +kernel
theorem dX8_spansMore_190 : decode cX8_spansMore 190 = .ok (.aload_n 0, 1) := by decide +kernel
theorem dX8_spansMore_191 : decode cX8_spansMore 191 = .ok (.getfield 66, 3) := by decide +kernel
theorem dX8_spansMore_194 : decode cX8_spansMore 194 = .ok (.aload_n 0, 1) := by decide +kernel
theorem dX8_spansMore_195 : decode cX8_spansMore 195 = .ok (.getfield 242, 3) := by decide +kernel
theorem dX8_spansMore_198 : decode cX8_spansMore 198 = .ok (.iload_n 2, 1) := by decide +kernel
theorem dX8_spansMore_199 : decode cX8_spansMore 199 = .ok (.iastore, 1) := by decide +kernel
theorem dX8_spansMore_200 : decode cX8_spansMore 200 = .ok (.aload_n 0, 1) := by decide +kernel
theorem dX8_spansMore_201 : decode cX8_spansMore 201 = .ok (.dup, 1) := by decide +kernel
theorem dX8_spansMore_202 : decode cX8_spansMore 202 = .ok (.getfield 242, 3) := by decide +kernel
theorem dX8_spansMore_205 : decode cX8_spansMore 205 = .ok (.iconst 1, 1) := by decide +kernel
theorem dX8_spansMore_206 : decode cX8_spansMore 206 = .ok (.iadd, 1) := by decide +kernel
theorem dX8_spansMore_207 : decode cX8_spansMore 207 = .ok (.putfield 242, 3) := by decide +kernel
theorem dX8_spansMore_210 : decode cX8_spansMore 210 = .ok (.return_, 1) := by decide +kernel
set_option maxRecDepth 20000 in
theorem ggX8_size_X8_in : GoodIn wsX8_size wsX8_in := by
  refine goodIn_sub ?_ gd_X8_in
  unfold wsX8_in
  refine wm_c ⟨(wk_X8_size_X8_size_r1 _ (wm_8 (wm_4 (wm_1 wm_h)))), ?_⟩
  exact wm_n
set_option maxRecDepth 20000 in
theorem gX8_size_X8_in : GoodIn wsX8_size (va_wsS RX8 130 yX8_in wsX8_in) := goodIn_app (goodIn_of _ (by decide +kernel)) ggX8_size_X8_in
set_option maxRecDepth 20000 in
theorem ggX8_size_X8_mod : GoodIn wsX8_size wsX8_mod := by
  refine goodIn_sub ?_ gd_X8_mod
  unfold wsX8_mod
  refine wm_c ⟨(wk_X8_size_X8_size_r1 _ (wm_16 wm_h)), ?_⟩
  refine wm_c ⟨(wk_X8_size_X8_size_r1 _ (wm_16 (wm_1 wm_h))), ?_⟩
  exact wm_n
set_option maxRecDepth 20000 in
theorem gX8_size_X8_mod : GoodIn wsX8_size (va_wsS RX8 126 yX8_mod wsX8_mod) := goodIn_app (goodIn_of _ (by decide +kernel)) ggX8_size_X8_mod
set_option maxRecDepth 20000 in
theorem ggX8_size_X8_spansMore : GoodIn wsX8_size wsX8_spansMore := by
  refine goodIn_sub ?_ gd_X8_spansMore
  unfold wsX8_spansMore
  refine wm_c ⟨(wk_X8_size_X8_size_r1 _ (wm_16 (wm_4 (wm_1 wm_h)))), ?_⟩
  refine wm_a ⟨?_, ?_⟩
  · refine wm_c ⟨(wk_X8_size_X8_size_r1 _ (wm_1 wm_h)), ?_⟩
    refine wm_c ⟨(wk_X8_size_X8_size_r1 _ (wm_4 (wm_2 wm_h))), ?_⟩
    refine wm_c ⟨(wk_X8_size_X8_size_r1 _ (wm_16 (wm_4 (wm_2 wm_h)))), ?_⟩
    refine wm_c ⟨(wk_X8_size_X8_size_r1 _ (wm_4 (wm_1 wm_h))), ?_⟩
    refine wm_c ⟨(wk_X8_size_X8_size_r1 _ (wm_2 (wm_1 wm_h))), ?_⟩
    refine wm_c ⟨(wk_X8_size_X8_size_r1 _ (wm_16 (wm_1 wm_h))), ?_⟩
    refine wm_c ⟨(wk_X8_size_X8_size_r1 _ (wm_8 (wm_4 (wm_2 wm_h)))), ?_⟩
    refine wm_c ⟨(wk_X8_size_X8_size_r1 _ (wm_8 (wm_4 (wm_2 (wm_1 wm_h))))), ?_⟩
    refine wm_c ⟨(wk_X8_size_X8_size_r1 _ (wm_8 (wm_4 wm_h))), ?_⟩
    refine wm_c ⟨(wk_X8_size_X8_size_r1 _ (wm_16 wm_h)), ?_⟩
    refine wm_c ⟨(wk_X8_size_X8_size_r1 _ (wm_16 (wm_4 (wm_2 (wm_1 wm_h))))), ?_⟩
    refine wm_c ⟨(wk_X8_size_X8_size_r2 _ wm_h), ?_⟩
    refine wm_c ⟨(wk_X8_size_X8_size_r2 _ (wm_1 wm_h)), ?_⟩
    refine wm_c ⟨(wk_X8_size_X8_size_r2 _ (wm_2 wm_h)), ?_⟩
    exact wm_n
  · exact wk_X8_size_X80
set_option maxRecDepth 20000 in
theorem gX8_size_X8_spansMore : GoodIn wsX8_size (wsV RX8 245 RX8 yX8_spansMore wsX8_spansMore) := by
  refine goodIn_app (goodIn_sub ?_ ?_) ggX8_size_X8_spansMore
  · exact wm_c ⟨(wk_X8_size_X8_size_r1 _ (wm_16 (wm_2 wm_h))), wm_c ⟨(wk_X8_size_X8_size_r1 _ (wm_16 (wm_2 (wm_1 wm_h)))), wm_c ⟨(wk_X8_size_X8_size_r1 _ (wm_16 (wm_4 wm_h))), wm_c ⟨(wk_X8_size_X8_size_r1 _ (wm_8 (wm_4 wm_h))), wm_n⟩⟩⟩⟩
  · decide +kernel
set_option maxRecDepth 20000 in
theorem ggX8_size_X8_manyOf : GoodIn wsX8_size wsX8_manyOf := by
  refine goodIn_sub ?_ gd_X8_manyOf
  unfold wsX8_manyOf
  refine wm_c ⟨(wk_X8_size_X8_size_r2 _ (wm_4 (wm_2 wm_h))), ?_⟩
  refine wm_a ⟨?_, ?_⟩
  · refine wm_c ⟨(wk_X8_size_X8_size_r2 _ (wm_4 (wm_2 (wm_1 wm_h)))), ?_⟩
    refine wm_c ⟨(wk_X8_size_X8_size_r2 _ (wm_8 wm_h)), ?_⟩
    refine wm_c ⟨(wk_X8_size_X8_size_r2 _ (wm_8 (wm_1 wm_h))), ?_⟩
    exact wm_n
  · exact wk_X8_size_X80
set_option maxRecDepth 20000 in
theorem gX8_size_X8_manyOf : GoodIn wsX8_size (wsV RX8 209 RX8 yX8_manyOf wsX8_manyOf) := by
  refine goodIn_app (goodIn_sub ?_ ?_) ggX8_size_X8_manyOf
  · exact wm_c ⟨(wk_X8_size_X8_size_r2 _ (wm_2 (wm_1 wm_h))), wm_c ⟨(wk_X8_size_X8_size_r2 _ (wm_4 wm_h)), wm_c ⟨(wk_X8_size_X8_size_r2 _ (wm_4 (wm_1 wm_h))), wm_c ⟨(wk_X8_size_X8_size_r1 _ (wm_8 (wm_4 wm_h))), wm_n⟩⟩⟩⟩
  · decide +kernel
theorem dX8_size_0 : decode cX8_size 0 = .ok (.iload_n 1, 1) := by decide +kernel
theorem dX8_size_1 : decode cX8_size 1 = .ok (.i2l, 1) := by decide +kernel
theorem dX8_size_2 : decode cX8_size 2 = .ok (.lconst 1, 1) := by decide +kernel
theorem dX8_size_3 : decode cX8_size 3 = .ok (.aload_n 0, 1) := by decide +kernel
theorem dX8_size_4 : decode cX8_size 4 = .ok (.getfield 92, 3) := by decide +kernel
theorem dX8_size_7 : decode cX8_size 7 = .ok (.i2l, 1) := by decide +kernel
theorem dX8_size_8 : decode cX8_size 8 = .ok (.invokestatic 130, 3) := by decide +kernel
theorem dX8_size_11 : decode cX8_size 11 = .ok (.ifCond .ne 5, 3) := by decide +kernel
theorem dX8_size_14 : decode cX8_size 14 = .ok (.iconst (-1), 1) := by decide +kernel
theorem dX8_size_15 : decode cX8_size 15 = .ok (.ireturn, 1) := by decide +kernel
theorem dX8_size_16 : decode cX8_size 16 = .ok (.aload_n 0, 1) := by decide +kernel
theorem dX8_size_17 : decode cX8_size 17 = .ok (.iconst 0, 1) := by decide +kernel
theorem dX8_size_18 : decode cX8_size 18 = .ok (.putfield 242, 3) := by decide +kernel
theorem dX8_size_21 : decode cX8_size 21 = .ok (.iconst 1, 1) := by decide +kernel
theorem dX8_size_22 : decode cX8_size 22 = .ok (.istore_n 2, 1) := by decide +kernel
theorem dX8_size_23 : decode cX8_size 23 = .ok (.iload_n 2, 1) := by decide +kernel
theorem dX8_size_24 : decode cX8_size 24 = .ok (.iload_n 1, 1) := by decide +kernel
theorem dX8_size_25 : decode cX8_size 25 = .ok (.if_icmp .gt 282, 3) := by decide +kernel
theorem dX8_size_28 : decode cX8_size 28 = .ok (.aload_n 0, 1) := by decide +kernel
theorem dX8_size_29 : decode cX8_size 29 = .ok (.getfield 242, 3) := by decide +kernel
theorem dX8_size_32 : decode cX8_size 32 = .ok (.istore_n 3, 1) := by decide +kernel
theorem dX8_size_33 : decode cX8_size 33 = .ok (.iconst 0, 1) := by decide +kernel
theorem dX8_size_34 : decode cX8_size 34 = .ok (.istore 4, 2) := by decide +kernel
theorem dX8_size_36 : decode cX8_size 36 = .ok (.iload 4, 2) := by decide +kernel
theorem dX8_size_38 : decode cX8_size 38 = .ok (.sipush 256, 3) := by decide +kernel
theorem dX8_size_41 : decode cX8_size 41 = .ok (.iload_n 3, 1) := by decide +kernel
theorem dX8_size_42 : decode cX8_size 42 = .ok (.imul, 1) := by decide +kernel
theorem dX8_size_43 : decode cX8_size 43 = .ok (.if_icmp .ge 23, 3) := by decide +kernel
theorem dX8_size_46 : decode cX8_size 46 = .ok (.aload_n 0, 1) := by decide +kernel
theorem dX8_size_47 : decode cX8_size 47 = .ok (.getfield 69, 3) := by decide +kernel
theorem dX8_size_50 : decode cX8_size 50 = .ok (.iload 4, 2) := by decide +kernel
theorem dX8_size_52 : decode cX8_size 52 = .ok (.aload_n 0, 1) := by decide +kernel
theorem dX8_size_53 : decode cX8_size 53 = .ok (.getfield 63, 3) := by decide +kernel
theorem dX8_size_56 : decode cX8_size 56 = .ok (.iload 4, 2) := by decide +kernel
theorem dX8_size_58 : decode cX8_size 58 = .ok (.laload, 1) := by decide +kernel
theorem dX8_size_59 : decode cX8_size 59 = .ok (.lastore, 1) := by decide +kernel
theorem dX8_size_60 : decode cX8_size 60 = .ok (.iinc 4 1, 3) := by decide +kernel
theorem dX8_size_63 : decode cX8_size 63 = .ok (.goto (-27), 3) := by decide +kernel
theorem dX8_size_66 : decode cX8_size 66 = .ok (.aload_n 0, 1) := by decide +kernel
theorem dX8_size_67 : decode cX8_size 67 = .ok (.iconst 0, 1) := by decide +kernel
theorem dX8_size_68 : decode cX8_size 68 = .ok (.putfield 242, 3) := by decide +kernel
theorem dX8_size_71 : decode cX8_size 71 = .ok (.iconst 0, 1) := by decide +kernel
theorem dX8_size_72 : decode cX8_size 72 = .ok (.istore 4, 2) := by decide +kernel
theorem dX8_size_74 : decode cX8_size 74 = .ok (.iload 4, 2) := by decide +kernel
theorem dX8_size_76 : decode cX8_size 76 = .ok (.iload_n 3, 1) := by decide +kernel
theorem dX8_size_77 : decode cX8_size 77 = .ok (.if_icmp .ge 149, 3) := by decide +kernel
theorem dX8_size_80 : decode cX8_size 80 = .ok (.iconst 0, 1) := by decide +kernel
theorem dX8_size_81 : decode cX8_size 81 = .ok (.istore 5, 2) := by decide +kernel
theorem dX8_size_83 : decode cX8_size 83 = .ok (.iload 5, 2) := by decide +kernel
theorem dX8_size_85 : decode cX8_size 85 = .ok (.aload_n 0, 1) := by decide +kernel
theorem dX8_size_86 : decode cX8_size 86 = .ok (.getfield 88, 3) := by decide +kernel
theorem dX8_size_89 : decode cX8_size 89 = .ok (.if_icmp .ge 131, 3) := by decide +kernel
theorem dX8_size_92 : decode cX8_size 92 = .ok (.iconst 0, 1) := by decide +kernel
theorem dX8_size_93 : decode cX8_size 93 = .ok (.istore 6, 2) := by decide +kernel
theorem dX8_size_95 : decode cX8_size 95 = .ok (.iload 6, 2) := by decide +kernel
theorem dX8_size_97 : decode cX8_size 97 = .ok (.aload_n 0, 1) := by decide +kernel
theorem dX8_size_98 : decode cX8_size 98 = .ok (.getfield 13, 3) := by decide +kernel
theorem dX8_size_101 : decode cX8_size 101 = .ok (.iload_n 2, 1) := by decide +kernel
theorem dX8_size_102 : decode cX8_size 102 = .ok (.iaload, 1) := by decide +kernel
theorem dX8_size_103 : decode cX8_size 103 = .ok (.if_icmp .ge 106, 3) := by decide +kernel
theorem dX8_size_106 : decode cX8_size 106 = .ok (.iload 6, 2) := by decide +kernel
theorem dX8_size_108 : decode cX8_size 108 = .ok (.aload_n 0, 1) := by decide +kernel
theorem dX8_size_109 : decode cX8_size 109 = .ok (.getfield 88, 3) := by decide +kernel
theorem dX8_size_112 : decode cX8_size 112 = .ok (.irem, 1) := by decide +kernel
theorem dX8_size_113 : decode cX8_size 113 = .ok (.iload 5, 2) := by decide +kernel
theorem dX8_size_115 : decode cX8_size 115 = .ok (.if_icmp .ne 25, 3) := by decide +kernel
theorem dX8_size_118 : decode cX8_size 118 = .ok (.aload_n 0, 1) := by decide +kernel
theorem dX8_size_119 : decode cX8_size 119 = .ok (.getfield 69, 3) := by decide +kernel
theorem dX8_size_122 : decode cX8_size 122 = .ok (.sipush 256, 3) := by decide +kernel
theorem dX8_size_125 : decode cX8_size 125 = .ok (.iload 4, 2) := by decide +kernel
theorem dX8_size_127 : decode cX8_size 127 = .ok (.imul, 1) := by decide +kernel
theorem dX8_size_128 : decode cX8_size 128 = .ok (.iload 6, 2) := by decide +kernel
theorem dX8_size_130 : decode cX8_size 130 = .ok (.aload_n 0, 1) := by decide +kernel
theorem dX8_size_131 : decode cX8_size 131 = .ok (.getfield 88, 3) := by decide +kernel
theorem dX8_size_134 : decode cX8_size 134 = .ok (.idiv, 1) := by decide +kernel
theorem dX8_size_135 : decode cX8_size 135 = .ok (.iadd, 1) := by decide +kernel
theorem dX8_size_136 : decode cX8_size 136 = .ok (.laload, 1) := by decide +kernel
theorem dX8_size_137 : decode cX8_size 137 = .ok (.goto 4, 3) := by decide +kernel
theorem dX8_size_140 : decode cX8_size 140 = .ok (.lconst 0, 1) := by decide +kernel
theorem dX8_size_141 : decode cX8_size 141 = .ok (.lstore 7, 2) := by decide +kernel
theorem dX8_size_143 : decode cX8_size 143 = .ok (.iload 6, 2) := by decide +kernel
theorem dX8_size_145 : decode cX8_size 145 = .ok (.aload_n 0, 1) := by decide +kernel
theorem dX8_size_146 : decode cX8_size 146 = .ok (.getfield 13, 3) := by decide +kernel
theorem dX8_size_149 : decode cX8_size 149 = .ok (.iload_n 2, 1) := by decide +kernel
theorem dX8_size_150 : decode cX8_size 150 = .ok (.iconst 1, 1) := by decide +kernel
theorem dX8_size_151 : decode cX8_size 151 = .ok (.isub, 1) := by decide +kernel
theorem dX8_size_152 : decode cX8_size 152 = .ok (.iaload, 1) := by decide +kernel
theorem dX8_size_153 : decode cX8_size 153 = .ok (.idiv, 1) := by decide +kernel
theorem dX8_size_154 : decode cX8_size 154 = .ok (.iload 5, 2) := by decide +kernel
theorem dX8_size_156 : decode cX8_size 156 = .ok (.if_icmp .ne 29, 3) := by decide +kernel
theorem dX8_size_159 : decode cX8_size 159 = .ok (.aload_n 0, 1) := by decide +kernel
theorem dX8_size_160 : decode cX8_size 160 = .ok (.getfield 69, 3) := by decide +kernel
theorem dX8_size_163 : decode cX8_size 163 = .ok (.sipush 256, 3) := by decide +kernel
theorem dX8_size_166 : decode cX8_size 166 = .ok (.iload 4, 2) := by decide +kernel
theorem dX8_size_168 : decode cX8_size 168 = .ok (.imul, 1) := by decide +kernel
theorem dX8_size_169 : decode cX8_size 169 = .ok (.iload 6, 2) := by decide +kernel
theorem dX8_size_171 : decode cX8_size 171 = .ok (.aload_n 0, 1) := by decide +kernel
theorem dX8_size_172 : decode cX8_size 172 = .ok (.getfield 13, 3) := by decide +kernel
theorem dX8_size_175 : decode cX8_size 175 = .ok (.iload_n 2, 1) := by decide +kernel
theorem dX8_size_176 : decode cX8_size 176 = .ok (.iconst 1, 1) := by decide +kernel
theorem dX8_size_177 : decode cX8_size 177 = .ok (.isub, 1) := by decide +kernel
theorem dX8_size_178 : decode cX8_size 178 = .ok (.iaload, 1) := by decide +kernel
theorem dX8_size_179 : decode cX8_size 179 = .ok (.irem, 1) := by decide +kernel
theorem dX8_size_180 : decode cX8_size 180 = .ok (.iadd, 1) := by decide +kernel
theorem dX8_size_181 : decode cX8_size 181 = .ok (.laload, 1) := by decide +kernel
theorem dX8_size_182 : decode cX8_size 182 = .ok (.goto 4, 3) := by decide +kernel
theorem dX8_size_185 : decode cX8_size 185 = .ok (.lconst 0, 1) := by decide +kernel
theorem dX8_size_186 : decode cX8_size 186 = .ok (.lstore 9, 2) := by decide +kernel
theorem dX8_size_188 : decode cX8_size 188 = .ok (.aload_n 0, 1) := by decide +kernel
theorem dX8_size_189 : decode cX8_size 189 = .ok (.getfield 45, 3) := by decide +kernel
theorem dX8_size_192 : decode cX8_size 192 = .ok (.iload 6, 2) := by decide +kernel
theorem dX8_size_194 : decode cX8_size 194 = .ok (.lload 7, 2) := by decide +kernel
theorem dX8_size_196 : decode cX8_size 196 = .ok (.lload 9, 2) := by decide +kernel
theorem dX8_size_198 : decode cX8_size 198 = .ok (.lsub, 1) := by decide +kernel
theorem dX8_size_199 : decode cX8_size 199 = .ok (.invokestatic 126, 3) := by decide +kernel
theorem dX8_size_202 : decode cX8_size 202 = .ok (.lastore, 1) := by decide +kernel
theorem dX8_size_203 : decode cX8_size 203 = .ok (.iinc 6 1, 3) := by decide +kernel
theorem dX8_size_206 : decode cX8_size 206 = .ok (.goto (-111), 3) := by decide +kernel
theorem dX8_size_209 : decode cX8_size 209 = .ok (.aload_n 0, 1) := by decide +kernel
theorem dX8_size_210 : decode cX8_size 210 = .ok (.iload_n 2, 1) := by decide +kernel
theorem dX8_size_211 : decode cX8_size 211 = .ok (.invokevirtual 245, 3) := by decide +kernel
theorem dX8_size_214 : decode cX8_size 214 = .ok (.iinc 5 1, 3) := by decide +kernel
theorem dX8_size_217 : decode cX8_size 217 = .ok (.goto (-134), 3) := by decide +kernel
theorem dX8_size_220 : decode cX8_size 220 = .ok (.iinc 4 1, 3) := by decide +kernel
theorem dX8_size_223 : decode cX8_size 223 = .ok (.goto (-149), 3) := by decide +kernel
theorem dX8_size_226 : decode cX8_size 226 = .ok (.iconst 0, 1) := by decide +kernel
theorem dX8_size_227 : decode cX8_size 227 = .ok (.istore 4, 2) := by decide +kernel
theorem dX8_size_229 : decode cX8_size 229 = .ok (.iload 4, 2) := by decide +kernel
theorem dX8_size_231 : decode cX8_size 231 = .ok (.aload_n 0, 1) := by decide +kernel
theorem dX8_size_232 : decode cX8_size 232 = .ok (.getfield 239, 3) := by decide +kernel
theorem dX8_size_235 : decode cX8_size 235 = .ok (.if_icmp .ge 66, 3) := by decide +kernel
theorem dX8_size_238 : decode cX8_size 238 = .ok (.aload_n 0, 1) := by decide +kernel
theorem dX8_size_239 : decode cX8_size 239 = .ok (.getfield 57, 3) := by decide +kernel
theorem dX8_size_242 : decode cX8_size 242 = .ok (.iload 4, 2) := by decide +kernel
theorem dX8_size_244 : decode cX8_size 244 = .ok (.iaload, 1) := by decide +kernel
theorem dX8_size_245 : decode cX8_size 245 = .ok (.iload_n 2, 1) := by decide +kernel
theorem dX8_size_246 : decode cX8_size 246 = .ok (.if_icmp .ne 49, 3) := by decide +kernel
theorem dX8_size_249 : decode cX8_size 249 = .ok (.iconst 0, 1) := by decide +kernel
theorem dX8_size_250 : decode cX8_size 250 = .ok (.istore 5, 2) := by decide +kernel
theorem dX8_size_252 : decode cX8_size 252 = .ok (.iload 5, 2) := by decide +kernel
theorem dX8_size_254 : decode cX8_size 254 = .ok (.aload_n 0, 1) := by decide +kernel
theorem dX8_size_255 : decode cX8_size 255 = .ok (.getfield 13, 3) := by decide +kernel
theorem dX8_size_258 : decode cX8_size 258 = .ok (.iload_n 2, 1) := by decide +kernel
theorem dX8_size_259 : decode cX8_size 259 = .ok (.iaload, 1) := by decide +kernel
theorem dX8_size_260 : decode cX8_size 260 = .ok (.if_icmp .ge 30, 3) := by decide +kernel
theorem dX8_size_263 : decode cX8_size 263 = .ok (.aload_n 0, 1) := by decide +kernel
theorem dX8_size_264 : decode cX8_size 264 = .ok (.getfield 45, 3) := by decide +kernel
theorem dX8_size_267 : decode cX8_size 267 = .ok (.iload 5, 2) := by decide +kernel
theorem dX8_size_269 : decode cX8_size 269 = .ok (.aload_n 0, 1) := by decide +kernel
theorem dX8_size_270 : decode cX8_size 270 = .ok (.getfield 60, 3) := by decide +kernel
theorem dX8_size_273 : decode cX8_size 273 = .ok (.sipush 256, 3) := by decide +kernel
theorem dX8_size_276 : decode cX8_size 276 = .ok (.iload 4, 2) := by decide +kernel
theorem dX8_size_278 : decode cX8_size 278 = .ok (.imul, 1) := by decide +kernel
theorem dX8_size_279 : decode cX8_size 279 = .ok (.iload 5, 2) := by decide +kernel
theorem dX8_size_281 : decode cX8_size 281 = .ok (.iadd, 1) := by decide +kernel
theorem dX8_size_282 : decode cX8_size 282 = .ok (.laload, 1) := by decide +kernel
theorem dX8_size_283 : decode cX8_size 283 = .ok (.lastore, 1) := by decide +kernel
theorem dX8_size_284 : decode cX8_size 284 = .ok (.iinc 5 1, 3) := by decide +kernel
theorem dX8_size_287 : decode cX8_size 287 = .ok (.goto (-35), 3) := by decide +kernel
theorem dX8_size_290 : decode cX8_size 290 = .ok (.aload_n 0, 1) := by decide +kernel
theorem dX8_size_291 : decode cX8_size 291 = .ok (.iload_n 2, 1) := by decide +kernel
theorem dX8_size_292 : decode cX8_size 292 = .ok (.invokevirtual 245, 3) := by decide +kernel
theorem dX8_size_295 : decode cX8_size 295 = .ok (.iinc 4 1, 3) := by decide +kernel
theorem dX8_size_298 : decode cX8_size 298 = .ok (.goto (-69), 3) := by decide +kernel
theorem dX8_size_301 : decode cX8_size 301 = .ok (.iinc 2 1, 3) := by decide +kernel
theorem dX8_size_304 : decode cX8_size 304 = .ok (.goto (-281), 3) := by decide +kernel
theorem dX8_size_307 : decode cX8_size 307 = .ok (.aload_n 0, 1) := by decide +kernel
theorem dX8_size_308 : decode cX8_size 308 = .ok (.iload_n 1, 1) := by decide +kernel
theorem dX8_size_309 : decode cX8_size 309 = .ok (.invokevirtual 209, 3) := by decide +kernel
theorem dX8_size_312 : decode cX8_size 312 = .ok (.aload_n 0, 1) := by decide +kernel
theorem dX8_size_313 : decode cX8_size 313 = .ok (.getfield 242, 3) := by decide +kernel
theorem dX8_size_316 : decode cX8_size 316 = .ok (.isub, 1) := by decide +kernel
theorem dX8_size_317 : decode cX8_size 317 = .ok (.ireturn, 1) := by decide +kernel
set_option maxRecDepth 20000 in
theorem ggX8_feed_X8_in : GoodIn wsX8_feed wsX8_in := by
  refine goodIn_sub ?_ gd_X8_in
  unfold wsX8_in
  refine wm_c ⟨(wm_1 (wm_l (wm_4 (wm_2 (wm_1 wm_h))))), ?_⟩
  exact wm_n
set_option maxRecDepth 20000 in
theorem gX8_feed_X8_in : GoodIn wsX8_feed (va_wsS RX8 130 yX8_in wsX8_in) := goodIn_app (goodIn_of _ (by decide +kernel)) ggX8_feed_X8_in
theorem dX8_feed_0 : decode cX8_feed 0 = .ok (.iload_n 3, 1) := by decide +kernel
theorem dX8_feed_1 : decode cX8_feed 1 = .ok (.i2l, 1) := by decide +kernel
theorem dX8_feed_2 : decode cX8_feed 2 = .ok (.lconst 1, 1) := by decide +kernel
theorem dX8_feed_3 : decode cX8_feed 3 = .ok (.ldc2_w 248, 3) := by decide +kernel
theorem dX8_feed_6 : decode cX8_feed 6 = .ok (.invokestatic 130, 3) := by decide +kernel
theorem dX8_feed_9 : decode cX8_feed 9 = .ok (.ifCond .ne 6, 3) := by decide +kernel
theorem dX8_feed_12 : decode cX8_feed 12 = .ok (.bipush (-2), 2) := by decide +kernel
theorem dX8_feed_14 : decode cX8_feed 14 = .ok (.ireturn, 1) := by decide +kernel
theorem dX8_feed_15 : decode cX8_feed 15 = .ok (.aload_n 0, 1) := by decide +kernel
theorem dX8_feed_16 : decode cX8_feed 16 = .ok (.getfield 250, 3) := by decide +kernel
theorem dX8_feed_19 : decode cX8_feed 19 = .ok (.iload_n 3, 1) := by decide +kernel
theorem dX8_feed_20 : decode cX8_feed 20 = .ok (.iadd, 1) := by decide +kernel
theorem dX8_feed_21 : decode cX8_feed 21 = .ok (.bipush 100, 2) := by decide +kernel
theorem dX8_feed_23 : decode cX8_feed 23 = .ok (.if_icmp .le 6, 3) := by decide +kernel
theorem dX8_feed_26 : decode cX8_feed 26 = .ok (.bipush (-4), 2) := by decide +kernel
theorem dX8_feed_28 : decode cX8_feed 28 = .ok (.ireturn, 1) := by decide +kernel
theorem dX8_feed_29 : decode cX8_feed 29 = .ok (.iload_n 3, 1) := by decide +kernel
theorem dX8_feed_30 : decode cX8_feed 30 = .ok (.iconst 1, 1) := by decide +kernel
theorem dX8_feed_31 : decode cX8_feed 31 = .ok (.isub, 1) := by decide +kernel
theorem dX8_feed_32 : decode cX8_feed 32 = .ok (.istore 4, 2) := by decide +kernel
theorem dX8_feed_34 : decode cX8_feed 34 = .ok (.iload 4, 2) := by decide +kernel
theorem dX8_feed_36 : decode cX8_feed 36 = .ok (.ifCond .lt 40, 3) := by decide +kernel
theorem dX8_feed_39 : decode cX8_feed 39 = .ok (.aload_n 0, 1) := by decide +kernel
theorem dX8_feed_40 : decode cX8_feed 40 = .ok (.getfield 72, 3) := by decide +kernel
theorem dX8_feed_43 : decode cX8_feed 43 = .ok (.aload_n 0, 1) := by decide +kernel
theorem dX8_feed_44 : decode cX8_feed 44 = .ok (.getfield 250, 3) := by decide +kernel
theorem dX8_feed_47 : decode cX8_feed 47 = .ok (.lload_n 1, 1) := by decide +kernel
theorem dX8_feed_48 : decode cX8_feed 48 = .ok (.bipush 8, 2) := by decide +kernel
theorem dX8_feed_50 : decode cX8_feed 50 = .ok (.iload 4, 2) := by decide +kernel
theorem dX8_feed_52 : decode cX8_feed 52 = .ok (.imul, 1) := by decide +kernel
theorem dX8_feed_53 : decode cX8_feed 53 = .ok (.lshr, 1) := by decide +kernel
theorem dX8_feed_54 : decode cX8_feed 54 = .ok (.ldc2_w 253, 3) := by decide +kernel
theorem dX8_feed_57 : decode cX8_feed 57 = .ok (.land, 1) := by decide +kernel
theorem dX8_feed_58 : decode cX8_feed 58 = .ok (.l2i, 1) := by decide +kernel
theorem dX8_feed_59 : decode cX8_feed 59 = .ok (.iastore, 1) := by decide +kernel
theorem dX8_feed_60 : decode cX8_feed 60 = .ok (.aload_n 0, 1) := by decide +kernel
theorem dX8_feed_61 : decode cX8_feed 61 = .ok (.dup, 1) := by decide +kernel
theorem dX8_feed_62 : decode cX8_feed 62 = .ok (.getfield 250, 3) := by decide +kernel
theorem dX8_feed_65 : decode cX8_feed 65 = .ok (.iconst 1, 1) := by decide +kernel
theorem dX8_feed_66 : decode cX8_feed 66 = .ok (.iadd, 1) := by decide +kernel
theorem dX8_feed_67 : decode cX8_feed 67 = .ok (.putfield 250, 3) := by decide +kernel
theorem dX8_feed_70 : decode cX8_feed 70 = .ok (.iinc 4 (-1), 3) := by decide +kernel
theorem dX8_feed_73 : decode cX8_feed 73 = .ok (.goto (-39), 3) := by decide +kernel
theorem dX8_feed_76 : decode cX8_feed 76 = .ok (.aload_n 0, 1) := by decide +kernel
theorem dX8_feed_77 : decode cX8_feed 77 = .ok (.getfield 250, 3) := by decide +kernel
theorem dX8_feed_80 : decode cX8_feed 80 = .ok (.ireturn, 1) := by decide +kernel
theorem dX8_byteAt_0 : decode cX8_byteAt 0 = .ok (.iload_n 1, 1) := by decide +kernel
theorem dX8_byteAt_1 : decode cX8_byteAt 1 = .ok (.aload_n 0, 1) := by decide +kernel
theorem dX8_byteAt_2 : decode cX8_byteAt 2 = .ok (.getfield 250, 3) := by decide +kernel
theorem dX8_byteAt_5 : decode cX8_byteAt 5 = .ok (.if_icmp .ge 12, 3) := by decide +kernel
theorem dX8_byteAt_8 : decode cX8_byteAt 8 = .ok (.aload_n 0, 1) := by decide +kernel
theorem dX8_byteAt_9 : decode cX8_byteAt 9 = .ok (.getfield 72, 3) := by decide +kernel
theorem dX8_byteAt_12 : decode cX8_byteAt 12 = .ok (.iload_n 1, 1) := by decide +kernel
theorem dX8_byteAt_13 : decode cX8_byteAt 13 = .ok (.iaload, 1) := by decide +kernel
theorem dX8_byteAt_14 : decode cX8_byteAt 14 = .ok (.goto 4, 3) := by decide +kernel
theorem dX8_byteAt_17 : decode cX8_byteAt 17 = .ok (.iconst (-1), 1) := by decide +kernel
theorem dX8_byteAt_18 : decode cX8_byteAt 18 = .ok (.ireturn, 1) := by decide +kernel
set_option maxRecDepth 20000 in
theorem ggX8_isDigit_X8_in : GoodIn wsX8_isDigit wsX8_in := by
  refine goodIn_sub ?_ gd_X8_in
  unfold wsX8_in
  refine wm_c ⟨(wm_1 (wm_4 (wm_1 wm_h))), ?_⟩
  exact wm_n
set_option maxRecDepth 20000 in
theorem gX8_isDigit_X8_in : GoodIn wsX8_isDigit (va_wsS RX8 130 yX8_in wsX8_in) := goodIn_app (goodIn_of _ (by decide +kernel)) ggX8_isDigit_X8_in
theorem dX8_isDigit_0 : decode cX8_isDigit 0 = .ok (.iload_n 0, 1) := by decide +kernel
theorem dX8_isDigit_1 : decode cX8_isDigit 1 = .ok (.i2l, 1) := by decide +kernel
theorem dX8_isDigit_2 : decode cX8_isDigit 2 = .ok (.ldc2_w 255, 3) := by decide +kernel
theorem dX8_isDigit_5 : decode cX8_isDigit 5 = .ok (.ldc2_w 257, 3) := by decide +kernel
theorem dX8_isDigit_8 : decode cX8_isDigit 8 = .ok (.invokestatic 130, 3) := by decide +kernel
theorem dX8_isDigit_11 : decode cX8_isDigit 11 = .ok (.ireturn, 1) := by decide +kernel
set_option maxRecDepth 20000 in
theorem ggX8_begins_X8_isDigit : GoodIn wsX8_begins wsX8_isDigit := by
  refine goodIn_sub ?_ gd_X8_isDigit
  unfold wsX8_isDigit
  refine wm_c ⟨(wm_1 (wm_l (wm_4 (wm_1 wm_h)))), ?_⟩
  refine wm_c ⟨(wm_1 (wm_l (wm_4 (wm_2 wm_h)))), ?_⟩
  refine wm_c ⟨(wm_1 (wm_l (wm_4 (wm_2 (wm_1 wm_h))))), ?_⟩
  refine wm_c ⟨(wm_1 (wm_l (wm_8 wm_h))), ?_⟩
  refine wm_c ⟨(wm_1 (wm_l (wm_8 (wm_1 wm_h)))), ?_⟩
  refine wm_c ⟨(wm_1 (wm_l (wm_4 wm_h))), ?_⟩
  refine wm_c ⟨(wm_1 (wm_l (wm_8 (wm_2 wm_h)))), ?_⟩
  exact wm_n
set_option maxRecDepth 20000 in
theorem gX8_begins_X8_isDigit : GoodIn wsX8_begins (va_wsS RX8 259 yX8_isDigit wsX8_isDigit) := goodIn_app (goodIn_of _ (by decide +kernel)) ggX8_begins_X8_isDigit
set_option maxRecDepth 20000 in
theorem ggX8_begins_X8_in : GoodIn wsX8_begins wsX8_in := by
  refine goodIn_sub ?_ gd_X8_in
  unfold wsX8_in
  refine wm_c ⟨(wm_1 (wm_l (wm_8 (wm_2 wm_h)))), ?_⟩
  exact wm_n
set_option maxRecDepth 20000 in
theorem gX8_begins_X8_in : GoodIn wsX8_begins (va_wsS RX8 130 yX8_in wsX8_in) := goodIn_app (goodIn_of _ (by decide +kernel)) ggX8_begins_X8_in
theorem dX8_begins_0 : decode cX8_begins 0 = .ok (.iload_n 1, 1) := by decide +kernel
theorem dX8_begins_1 : decode cX8_begins 1 = .ok (.invokestatic 259, 3) := by decide +kernel
theorem dX8_begins_4 : decode cX8_begins 4 = .ok (.ifCond .ne 54, 3) := by decide +kernel
theorem dX8_begins_7 : decode cX8_begins 7 = .ok (.iload_n 1, 1) := by decide +kernel
theorem dX8_begins_8 : decode cX8_begins 8 = .ok (.i2l, 1) := by decide +kernel
theorem dX8_begins_9 : decode cX8_begins 9 = .ok (.ldc2_w 262, 3) := by decide +kernel
theorem dX8_begins_12 : decode cX8_begins 12 = .ok (.bipush 97, 2) := by decide +kernel
theorem dX8_begins_14 : decode cX8_begins 14 = .ok (.aload_n 0, 1) := by decide +kernel
theorem dX8_begins_15 : decode cX8_begins 15 = .ok (.getfield 88, 3) := by decide +kernel
theorem dX8_begins_18 : decode cX8_begins 18 = .ok (.iadd, 1) := by decide +kernel
theorem dX8_begins_19 : decode cX8_begins 19 = .ok (.iconst 1, 1) := by decide +kernel
theorem dX8_begins_20 : decode cX8_begins 20 = .ok (.isub, 1) := by decide +kernel
theorem dX8_begins_21 : decode cX8_begins 21 = .ok (.i2l, 1) := by decide +kernel
theorem dX8_begins_22 : decode cX8_begins 22 = .ok (.invokestatic 130, 3) := by decide +kernel
theorem dX8_begins_25 : decode cX8_begins 25 = .ok (.ifCond .ne 33, 3) := by decide +kernel
theorem dX8_begins_28 : decode cX8_begins 28 = .ok (.iload_n 1, 1) := by decide +kernel
theorem dX8_begins_29 : decode cX8_begins 29 = .ok (.bipush 114, 2) := by decide +kernel
theorem dX8_begins_31 : decode cX8_begins 31 = .ok (.if_icmp .eq 27, 3) := by decide +kernel
theorem dX8_begins_34 : decode cX8_begins 34 = .ok (.iload_n 1, 1) := by decide +kernel
theorem dX8_begins_35 : decode cX8_begins 35 = .ok (.bipush 91, 2) := by decide +kernel
theorem dX8_begins_37 : decode cX8_begins 37 = .ok (.if_icmp .eq 21, 3) := by decide +kernel
theorem dX8_begins_40 : decode cX8_begins 40 = .ok (.iload_n 1, 1) := by decide +kernel
theorem dX8_begins_41 : decode cX8_begins 41 = .ok (.bipush 40, 2) := by decide +kernel
theorem dX8_begins_43 : decode cX8_begins 43 = .ok (.if_icmp .eq 15, 3) := by decide +kernel
theorem dX8_begins_46 : decode cX8_begins 46 = .ok (.iload_n 1, 1) := by decide +kernel
theorem dX8_begins_47 : decode cX8_begins 47 = .ok (.bipush 69, 2) := by decide +kernel
theorem dX8_begins_49 : decode cX8_begins 49 = .ok (.if_icmp .eq 9, 3) := by decide +kernel
theorem dX8_begins_52 : decode cX8_begins 52 = .ok (.iload_n 1, 1) := by decide +kernel
theorem dX8_begins_53 : decode cX8_begins 53 = .ok (.bipush 76, 2) := by decide +kernel
theorem dX8_begins_55 : decode cX8_begins 55 = .ok (.if_icmp .ne 7, 3) := by decide +kernel
theorem dX8_begins_58 : decode cX8_begins 58 = .ok (.iconst 1, 1) := by decide +kernel
theorem dX8_begins_59 : decode cX8_begins 59 = .ok (.goto 4, 3) := by decide +kernel
theorem dX8_begins_62 : decode cX8_begins 62 = .ok (.iconst 0, 1) := by decide +kernel
theorem dX8_begins_63 : decode cX8_begins 63 = .ok (.ireturn, 1) := by decide +kernel
set_option maxRecDepth 20000 in
theorem ggX8_digitsFrom_X8_byteAt : GoodIn wsX8_digitsFrom wsX8_byteAt := by
  refine goodIn_sub ?_ gd_X8_byteAt
  unfold wsX8_byteAt
  refine wm_c ⟨(wm_1 (wm_l (wm_4 wm_h))), ?_⟩
  refine wm_a ⟨?_, ?_⟩
  · refine wm_c ⟨(wm_1 (wm_l (wm_4 (wm_1 wm_h)))), ?_⟩
    refine wm_c ⟨(wm_1 (wm_l (wm_4 (wm_2 wm_h)))), ?_⟩
    exact wm_n
  · exact wk_X8_digitsFrom_X80
set_option maxRecDepth 20000 in
theorem gX8_digitsFrom_X8_byteAt : GoodIn wsX8_digitsFrom (wsV RX8 264 RX8 yX8_byteAt wsX8_byteAt) := by
  refine goodIn_app (goodIn_sub ?_ ?_) ggX8_digitsFrom_X8_byteAt
  · exact wm_c ⟨(wm_1 (wm_l wm_h)), wm_c ⟨(wm_1 (wm_l (wm_1 wm_h))), wm_c ⟨(wm_1 (wm_l (wm_2 wm_h))), wm_c ⟨(wm_1 (wm_l (wm_2 (wm_1 wm_h)))), wm_n⟩⟩⟩⟩
  · decide +kernel
set_option maxRecDepth 20000 in
theorem ggX8_digitsFrom_X8_isDigit : GoodIn wsX8_digitsFrom wsX8_isDigit := by
  refine goodIn_sub ?_ gd_X8_isDigit
  unfold wsX8_isDigit
  refine wm_c ⟨(wm_1 (wm_l (wm_8 (wm_1 wm_h)))), ?_⟩
  refine wm_c ⟨(wm_1 (wm_l (wm_8 (wm_2 wm_h)))), ?_⟩
  refine wm_c ⟨(wm_1 (wm_l (wm_8 (wm_2 (wm_1 wm_h))))), ?_⟩
  refine wm_c ⟨(wm_1 (wm_l (wm_8 (wm_4 wm_h)))), ?_⟩
  refine wm_c ⟨(wm_1 (wm_l (wm_8 (wm_4 (wm_1 wm_h))))), ?_⟩
  refine wm_c ⟨(wm_1 (wm_l (wm_2 (wm_1 wm_h)))), ?_⟩
  refine wm_c ⟨(wm_1 (wm_l (wm_8 (wm_4 (wm_2 wm_h))))), ?_⟩
  exact wm_n
set_option maxRecDepth 20000 in
theorem gX8_digitsFrom_X8_isDigit : GoodIn wsX8_digitsFrom (va_wsS RX8 259 yX8_isDigit wsX8_isDigit) := goodIn_app (goodIn_of _ (by decide +kernel)) ggX8_digitsFrom_X8_isDigit
theorem dX8_digitsFrom_0 : decode cX8_digitsFrom 0 = .ok (.iconst 0, 1) := by decide +kernel
theorem dX8_digitsFrom_1 : decode cX8_digitsFrom 1 = .ok (.istore_n 2, 1) := by decide +kernel
theorem dX8_digitsFrom_2 : decode cX8_digitsFrom 2 = .ok (.iload_n 2, 1) := by decide +kernel
theorem dX8_digitsFrom_3 : decode cX8_digitsFrom 3 = .ok (.iconst 4, 1) := by decide +kernel
theorem dX8_digitsFrom_4 : decode cX8_digitsFrom 4 = .ok (.if_icmp .ge 22, 3) := by decide +kernel
theorem dX8_digitsFrom_7 : decode cX8_digitsFrom 7 = .ok (.aload_n 0, 1) := by decide +kernel
theorem dX8_digitsFrom_8 : decode cX8_digitsFrom 8 = .ok (.iload_n 1, 1) := by decide +kernel
theorem dX8_digitsFrom_9 : decode cX8_digitsFrom 9 = .ok (.iload_n 2, 1) := by decide +kernel
theorem dX8_digitsFrom_10 : decode cX8_digitsFrom 10 = .ok (.iadd, 1) := by decide +kernel
theorem dX8_digitsFrom_11 : decode cX8_digitsFrom 11 = .ok (.invokevirtual 264, 3) := by decide +kernel
theorem dX8_digitsFrom_14 : decode cX8_digitsFrom 14 = .ok (.invokestatic 259, 3) := by decide +kernel
theorem dX8_digitsFrom_17 : decode cX8_digitsFrom 17 = .ok (.ifCond .eq 9, 3) := by decide +kernel
theorem dX8_digitsFrom_20 : decode cX8_digitsFrom 20 = .ok (.iinc 2 1, 3) := by decide +kernel
theorem dX8_digitsFrom_23 : decode cX8_digitsFrom 23 = .ok (.goto (-21), 3) := by decide +kernel
theorem dX8_digitsFrom_26 : decode cX8_digitsFrom 26 = .ok (.iload_n 2, 1) := by decide +kernel
theorem dX8_digitsFrom_27 : decode cX8_digitsFrom 27 = .ok (.ireturn, 1) := by decide +kernel
set_option maxRecDepth 20000 in
theorem ggX8_reads_X8_byteAt : GoodIn wsX8_reads wsX8_byteAt := by
  refine goodIn_sub ?_ gd_X8_byteAt
  unfold wsX8_byteAt
  refine wm_c ⟨(wk_X8_reads_X8_reads_r1 _ (wm_8 (wm_1 wm_h))), ?_⟩
  refine wm_a ⟨?_, ?_⟩
  · refine wm_c ⟨(wk_X8_reads_X8_reads_r1 _ (wm_1 wm_h)), ?_⟩
    refine wm_c ⟨(wk_X8_reads_X8_reads_r1 _ (wm_8 (wm_2 wm_h))), ?_⟩
    exact wm_n
  · exact wk_X8_reads_X80
set_option maxRecDepth 20000 in
theorem gX8_reads_X8_byteAt : GoodIn wsX8_reads (wsV RX8 264 RX8 yX8_byteAt wsX8_byteAt) := by
  refine goodIn_app (goodIn_sub ?_ ?_) ggX8_reads_X8_byteAt
  · exact wm_c ⟨(wk_X8_reads_X8_reads_r1 _ (wm_4 (wm_1 wm_h))), wm_c ⟨(wk_X8_reads_X8_reads_r1 _ (wm_4 (wm_2 wm_h))), wm_c ⟨(wk_X8_reads_X8_reads_r1 _ (wm_4 (wm_2 (wm_1 wm_h)))), wm_c ⟨(wk_X8_reads_X8_reads_r1 _ (wm_8 wm_h)), wm_n⟩⟩⟩⟩
  · decide +kernel
set_option maxRecDepth 20000 in
theorem ggX8_reads_X8_begins : GoodIn wsX8_reads wsX8_begins := by
  refine goodIn_sub ?_ gd_X8_begins
  unfold wsX8_begins
  refine wm_c ⟨(wk_X8_reads_X8_reads_r1 _ (wm_8 (wm_4 (wm_2 wm_h)))), ?_⟩
  refine wm_a ⟨?_, ?_⟩
  · refine wm_c ⟨(wk_X8_reads_X8_reads_r1 _ (wm_8 (wm_4 (wm_2 (wm_1 wm_h))))), ?_⟩
    refine wm_c ⟨(wk_X8_reads_X8_reads_r1 _ (wm_16 wm_h)), ?_⟩
    refine wm_c ⟨(wk_X8_reads_X8_reads_r1 _ (wm_16 (wm_1 wm_h))), ?_⟩
    refine wm_c ⟨(wk_X8_reads_X8_reads_r1 _ (wm_16 (wm_2 wm_h))), ?_⟩
    refine wm_c ⟨(wk_X8_reads_X8_reads_r1 _ (wm_8 wm_h)), ?_⟩
    refine wm_c ⟨(wk_X8_reads_X8_reads_r1 _ (wm_16 (wm_2 (wm_1 wm_h)))), ?_⟩
    refine wm_c ⟨(wk_X8_reads_X8_reads_r1 _ (wm_2 wm_h)), ?_⟩
    refine wm_c ⟨(wk_X8_reads_X8_reads_r1 _ (wm_16 (wm_4 wm_h))), ?_⟩
    refine wm_c ⟨(wk_X8_reads_X8_reads_r1 _ (wm_16 (wm_4 (wm_1 wm_h)))), ?_⟩
    refine wm_c ⟨(wk_X8_reads_X8_reads_r1 _ (wm_16 (wm_4 (wm_2 wm_h)))), ?_⟩
    refine wm_c ⟨(wk_X8_reads_X8_reads_r1 _ (wm_16 (wm_4 (wm_2 (wm_1 wm_h))))), ?_⟩
    exact wm_n
  · exact wk_X8_reads_X80
set_option maxRecDepth 20000 in
theorem gX8_reads_X8_begins : GoodIn wsX8_reads (wsV RX8 270 RX8 yX8_begins wsX8_begins) := by
  refine goodIn_app (goodIn_sub ?_ ?_) ggX8_reads_X8_begins
  · exact wm_c ⟨(wk_X8_reads_X8_reads_r1 _ (wm_8 (wm_2 (wm_1 wm_h)))), wm_c ⟨(wk_X8_reads_X8_reads_r1 _ (wm_8 (wm_4 wm_h))), wm_c ⟨(wk_X8_reads_X8_reads_r1 _ (wm_8 (wm_4 (wm_1 wm_h)))), wm_c ⟨(wk_X8_reads_X8_reads_r1 _ (wm_8 wm_h)), wm_n⟩⟩⟩⟩
  · decide +kernel
set_option maxRecDepth 20000 in
theorem ggX8_reads_X8_in : GoodIn wsX8_reads wsX8_in := by
  refine goodIn_sub ?_ gd_X8_in
  unfold wsX8_in
  refine wm_c ⟨(wk_X8_reads_X8_reads_r1 _ (wm_16 (wm_4 (wm_2 (wm_1 wm_h))))), ?_⟩
  exact wm_n
set_option maxRecDepth 20000 in
theorem gX8_reads_X8_in : GoodIn wsX8_reads (va_wsS RX8 130 yX8_in wsX8_in) := goodIn_app (goodIn_of _ (by decide +kernel)) ggX8_reads_X8_in
set_option maxRecDepth 20000 in
theorem ggX8_reads_X8_isDigit : GoodIn wsX8_reads wsX8_isDigit := by
  refine goodIn_sub ?_ gd_X8_isDigit
  unfold wsX8_isDigit
  refine wm_c ⟨(wk_X8_reads_X8_reads_r1 _ (wm_16 (wm_2 (wm_1 wm_h)))), ?_⟩
  refine wm_c ⟨(wk_X8_reads_X8_reads_r1 _ (wm_2 wm_h)), ?_⟩
  refine wm_c ⟨(wk_X8_reads_X8_reads_r1 _ (wm_16 (wm_4 wm_h))), ?_⟩
  refine wm_c ⟨(wk_X8_reads_X8_reads_r1 _ (wm_16 (wm_4 (wm_1 wm_h)))), ?_⟩
  refine wm_c ⟨(wk_X8_reads_X8_reads_r1 _ (wm_16 (wm_4 (wm_2 wm_h)))), ?_⟩
  refine wm_c ⟨(wk_X8_reads_X8_reads_r1 _ (wm_8 wm_h)), ?_⟩
  refine wm_c ⟨(wk_X8_reads_X8_reads_r1 _ (wm_16 (wm_4 (wm_2 (wm_1 wm_h))))), ?_⟩
  exact wm_n
set_option maxRecDepth 20000 in
theorem gX8_reads_X8_isDigit : GoodIn wsX8_reads (va_wsS RX8 259 yX8_isDigit wsX8_isDigit) := goodIn_app (goodIn_of _ (by decide +kernel)) ggX8_reads_X8_isDigit
set_option maxRecDepth 20000 in
theorem ggX8_reads_X8_digitsFrom : GoodIn wsX8_reads wsX8_digitsFrom := by
  refine goodIn_sub ?_ gd_X8_digitsFrom
  unfold wsX8_digitsFrom
  refine wm_c ⟨(wk_X8_reads_X8_reads_r2 _ (wm_2 (wm_1 wm_h))), ?_⟩
  refine wm_a ⟨?_, ?_⟩
  · refine wm_c ⟨(wk_X8_reads_X8_reads_r1 _ (wm_4 (wm_1 wm_h))), ?_⟩
    refine wm_c ⟨(wk_X8_reads_X8_reads_r1 _ (wm_4 (wm_2 wm_h))), ?_⟩
    refine wm_c ⟨(wk_X8_reads_X8_reads_r1 _ (wm_4 (wm_2 (wm_1 wm_h)))), ?_⟩
    refine wm_c ⟨(wk_X8_reads_X8_reads_r1 _ (wm_8 wm_h)), ?_⟩
    refine wm_c ⟨(wk_X8_reads_X8_reads_r1 _ (wm_8 (wm_1 wm_h))), ?_⟩
    refine wm_c ⟨(wk_X8_reads_X8_reads_r1 _ (wm_1 wm_h)), ?_⟩
    refine wm_c ⟨(wk_X8_reads_X8_reads_r1 _ (wm_8 (wm_2 wm_h))), ?_⟩
    refine wm_c ⟨(wk_X8_reads_X8_reads_r1 _ (wm_16 (wm_1 wm_h))), ?_⟩
    refine wm_c ⟨(wk_X8_reads_X8_reads_r1 _ (wm_16 (wm_2 wm_h))), ?_⟩
    refine wm_c ⟨(wk_X8_reads_X8_reads_r1 _ (wm_16 (wm_2 (wm_1 wm_h)))), ?_⟩
    refine wm_c ⟨(wk_X8_reads_X8_reads_r1 _ (wm_2 wm_h)), ?_⟩
    refine wm_c ⟨(wk_X8_reads_X8_reads_r1 _ (wm_16 (wm_4 wm_h))), ?_⟩
    refine wm_c ⟨(wk_X8_reads_X8_reads_r1 _ (wm_16 (wm_4 (wm_1 wm_h)))), ?_⟩
    refine wm_c ⟨(wk_X8_reads_X8_reads_r1 _ (wm_16 (wm_4 (wm_2 wm_h)))), ?_⟩
    refine wm_c ⟨(wk_X8_reads_X8_reads_r1 _ (wm_16 (wm_4 (wm_2 (wm_1 wm_h))))), ?_⟩
    exact wm_n
  · exact wk_X8_reads_X80
set_option maxRecDepth 20000 in
theorem gX8_reads_X8_digitsFrom : GoodIn wsX8_reads (wsV RX8 274 RX8 yX8_digitsFrom wsX8_digitsFrom) := by
  refine goodIn_app (goodIn_sub ?_ ?_) ggX8_reads_X8_digitsFrom
  · exact wm_c ⟨(wk_X8_reads_X8_reads_r2 _ wm_h), wm_c ⟨(wk_X8_reads_X8_reads_r2 _ (wm_1 wm_h)), wm_c ⟨(wk_X8_reads_X8_reads_r2 _ (wm_2 wm_h)), wm_c ⟨(wk_X8_reads_X8_reads_r1 _ (wm_8 wm_h)), wm_n⟩⟩⟩⟩
  · decide +kernel
theorem dX8_reads_0 : decode cX8_reads 0 = .ok (.aload_n 0, 1) := by decide +kernel
theorem dX8_reads_1 : decode cX8_reads 1 = .ok (.iconst 0, 1) := by decide +kernel
theorem dX8_reads_2 : decode cX8_reads 2 = .ok (.putfield 267, 3) := by decide +kernel
theorem dX8_reads_5 : decode cX8_reads 5 = .ok (.iconst 0, 1) := by decide +kernel
theorem dX8_reads_6 : decode cX8_reads 6 = .ok (.istore_n 1, 1) := by decide +kernel
theorem dX8_reads_7 : decode cX8_reads 7 = .ok (.iconst 0, 1) := by decide +kernel
theorem dX8_reads_8 : decode cX8_reads 8 = .ok (.istore_n 2, 1) := by decide +kernel
theorem dX8_reads_9 : decode cX8_reads 9 = .ok (.iload_n 2, 1) := by decide +kernel
theorem dX8_reads_10 : decode cX8_reads 10 = .ok (.ifCond .eq 11, 3) := by decide +kernel
theorem dX8_reads_13 : decode cX8_reads 13 = .ok (.iload_n 1, 1) := by decide +kernel
theorem dX8_reads_14 : decode cX8_reads 14 = .ok (.aload_n 0, 1) := by decide +kernel
theorem dX8_reads_15 : decode cX8_reads 15 = .ok (.getfield 250, 3) := by decide +kernel
theorem dX8_reads_18 : decode cX8_reads 18 = .ok (.if_icmp .ge 415, 3) := by decide +kernel
theorem dX8_reads_21 : decode cX8_reads 21 = .ok (.aload_n 0, 1) := by decide +kernel
theorem dX8_reads_22 : decode cX8_reads 22 = .ok (.iload_n 1, 1) := by decide +kernel
theorem dX8_reads_23 : decode cX8_reads 23 = .ok (.invokevirtual 264, 3) := by decide +kernel
theorem dX8_reads_26 : decode cX8_reads 26 = .ok (.istore_n 3, 1) := by decide +kernel
theorem dX8_reads_27 : decode cX8_reads 27 = .ok (.iload_n 2, 1) := by decide +kernel
theorem dX8_reads_28 : decode cX8_reads 28 = .ok (.iconst 2, 1) := by decide +kernel
theorem dX8_reads_29 : decode cX8_reads 29 = .ok (.if_icmp .ge 197, 3) := by decide +kernel
theorem dX8_reads_32 : decode cX8_reads 32 = .ok (.aload_n 0, 1) := by decide +kernel
theorem dX8_reads_33 : decode cX8_reads 33 = .ok (.iload_n 3, 1) := by decide +kernel
theorem dX8_reads_34 : decode cX8_reads 34 = .ok (.invokevirtual 270, 3) := by decide +kernel
theorem dX8_reads_37 : decode cX8_reads 37 = .ok (.ifCond .eq 189, 3) := by decide +kernel
theorem dX8_reads_40 : decode cX8_reads 40 = .ok (.iload_n 3, 1) := by decide +kernel
theorem dX8_reads_41 : decode cX8_reads 41 = .ok (.bipush 114, 2) := by decide +kernel
theorem dX8_reads_43 : decode cX8_reads 43 = .ok (.if_icmp .ne 23, 3) := by decide +kernel
theorem dX8_reads_46 : decode cX8_reads 46 = .ok (.aload_n 0, 1) := by decide +kernel
theorem dX8_reads_47 : decode cX8_reads 47 = .ok (.iload_n 1, 1) := by decide +kernel
theorem dX8_reads_48 : decode cX8_reads 48 = .ok (.iconst 1, 1) := by decide +kernel
theorem dX8_reads_49 : decode cX8_reads 49 = .ok (.iadd, 1) := by decide +kernel
theorem dX8_reads_50 : decode cX8_reads 50 = .ok (.invokevirtual 264, 3) := by decide +kernel
theorem dX8_reads_53 : decode cX8_reads 53 = .ok (.i2l, 1) := by decide +kernel
theorem dX8_reads_54 : decode cX8_reads 54 = .ok (.ldc2_w 255, 3) := by decide +kernel
theorem dX8_reads_57 : decode cX8_reads 57 = .ok (.ldc2_w 272, 3) := by decide +kernel
theorem dX8_reads_60 : decode cX8_reads 60 = .ok (.invokestatic 130, 3) := by decide +kernel
theorem dX8_reads_63 : decode cX8_reads 63 = .ok (.ifCond .eq 27, 3) := by decide +kernel
theorem dX8_reads_66 : decode cX8_reads 66 = .ok (.iload_n 3, 1) := by decide +kernel
theorem dX8_reads_67 : decode cX8_reads 67 = .ok (.bipush 69, 2) := by decide +kernel
theorem dX8_reads_69 : decode cX8_reads 69 = .ok (.if_icmp .eq 9, 3) := by decide +kernel
theorem dX8_reads_72 : decode cX8_reads 72 = .ok (.iload_n 3, 1) := by decide +kernel
theorem dX8_reads_73 : decode cX8_reads 73 = .ok (.bipush 76, 2) := by decide +kernel
theorem dX8_reads_75 : decode cX8_reads 75 = .ok (.if_icmp .ne 19, 3) := by decide +kernel
theorem dX8_reads_78 : decode cX8_reads 78 = .ok (.aload_n 0, 1) := by decide +kernel
theorem dX8_reads_79 : decode cX8_reads 79 = .ok (.iload_n 1, 1) := by decide +kernel
theorem dX8_reads_80 : decode cX8_reads 80 = .ok (.iconst 1, 1) := by decide +kernel
theorem dX8_reads_81 : decode cX8_reads 81 = .ok (.iadd, 1) := by decide +kernel
theorem dX8_reads_82 : decode cX8_reads 82 = .ok (.invokevirtual 264, 3) := by decide +kernel
theorem dX8_reads_85 : decode cX8_reads 85 = .ok (.bipush 40, 2) := by decide +kernel
theorem dX8_reads_87 : decode cX8_reads 87 = .ok (.if_icmp .eq 7, 3) := by decide +kernel
theorem dX8_reads_90 : decode cX8_reads 90 = .ok (.iload_n 1, 1) := by decide +kernel
theorem dX8_reads_91 : decode cX8_reads 91 = .ok (.iconst 1, 1) := by decide +kernel
theorem dX8_reads_92 : decode cX8_reads 92 = .ok (.iadd, 1) := by decide +kernel
theorem dX8_reads_93 : decode cX8_reads 93 = .ok (.ireturn, 1) := by decide +kernel
theorem dX8_reads_94 : decode cX8_reads 94 = .ok (.iload_n 3, 1) := by decide +kernel
theorem dX8_reads_95 : decode cX8_reads 95 = .ok (.bipush 69, 2) := by decide +kernel
theorem dX8_reads_97 : decode cX8_reads 97 = .ok (.if_icmp .eq 9, 3) := by decide +kernel
theorem dX8_reads_100 : decode cX8_reads 100 = .ok (.iload_n 3, 1) := by decide +kernel
theorem dX8_reads_101 : decode cX8_reads 101 = .ok (.bipush 76, 2) := by decide +kernel
theorem dX8_reads_103 : decode cX8_reads 103 = .ok (.if_icmp .ne 9, 3) := by decide +kernel
theorem dX8_reads_106 : decode cX8_reads 106 = .ok (.iload_n 1, 1) := by decide +kernel
theorem dX8_reads_107 : decode cX8_reads 107 = .ok (.iconst 1, 1) := by decide +kernel
theorem dX8_reads_108 : decode cX8_reads 108 = .ok (.iadd, 1) := by decide +kernel
theorem dX8_reads_109 : decode cX8_reads 109 = .ok (.goto 4, 3) := by decide +kernel
theorem dX8_reads_112 : decode cX8_reads 112 = .ok (.iload_n 1, 1) := by decide +kernel
theorem dX8_reads_113 : decode cX8_reads 113 = .ok (.istore 4, 2) := by decide +kernel
theorem dX8_reads_115 : decode cX8_reads 115 = .ok (.iload_n 3, 1) := by decide +kernel
theorem dX8_reads_116 : decode cX8_reads 116 = .ok (.bipush 91, 2) := by decide +kernel
theorem dX8_reads_118 : decode cX8_reads 118 = .ok (.if_icmp .eq 21, 3) := by decide +kernel
theorem dX8_reads_121 : decode cX8_reads 121 = .ok (.iload_n 3, 1) := by decide +kernel
theorem dX8_reads_122 : decode cX8_reads 122 = .ok (.bipush 40, 2) := by decide +kernel
theorem dX8_reads_124 : decode cX8_reads 124 = .ok (.if_icmp .eq 15, 3) := by decide +kernel
theorem dX8_reads_127 : decode cX8_reads 127 = .ok (.iload_n 3, 1) := by decide +kernel
theorem dX8_reads_128 : decode cX8_reads 128 = .ok (.bipush 69, 2) := by decide +kernel
theorem dX8_reads_130 : decode cX8_reads 130 = .ok (.if_icmp .eq 9, 3) := by decide +kernel
theorem dX8_reads_133 : decode cX8_reads 133 = .ok (.iload_n 3, 1) := by decide +kernel
theorem dX8_reads_134 : decode cX8_reads 134 = .ok (.bipush 76, 2) := by decide +kernel
theorem dX8_reads_136 : decode cX8_reads 136 = .ok (.if_icmp .ne 56, 3) := by decide +kernel
theorem dX8_reads_139 : decode cX8_reads 139 = .ok (.aload_n 0, 1) := by decide +kernel
theorem dX8_reads_140 : decode cX8_reads 140 = .ok (.getfield 267, 3) := by decide +kernel
theorem dX8_reads_143 : decode cX8_reads 143 = .ok (.iconst 5, 1) := by decide +kernel
theorem dX8_reads_144 : decode cX8_reads 144 = .ok (.if_icmp .ne 6, 3) := by decide +kernel
theorem dX8_reads_147 : decode cX8_reads 147 = .ok (.iload 4, 2) := by decide +kernel
theorem dX8_reads_149 : decode cX8_reads 149 = .ok (.ireturn, 1) := by decide +kernel
theorem dX8_reads_150 : decode cX8_reads 150 = .ok (.aload_n 0, 1) := by decide +kernel
theorem dX8_reads_151 : decode cX8_reads 151 = .ok (.getfield 75, 3) := by decide +kernel
theorem dX8_reads_154 : decode cX8_reads 154 = .ok (.aload_n 0, 1) := by decide +kernel
theorem dX8_reads_155 : decode cX8_reads 155 = .ok (.getfield 267, 3) := by decide +kernel
theorem dX8_reads_158 : decode cX8_reads 158 = .ok (.iload_n 3, 1) := by decide +kernel
theorem dX8_reads_159 : decode cX8_reads 159 = .ok (.bipush 91, 2) := by decide +kernel
theorem dX8_reads_161 : decode cX8_reads 161 = .ok (.if_icmp .ne 8, 3) := by decide +kernel
theorem dX8_reads_164 : decode cX8_reads 164 = .ok (.bipush 91, 2) := by decide +kernel
theorem dX8_reads_166 : decode cX8_reads 166 = .ok (.goto 5, 3) := by decide +kernel
theorem dX8_reads_169 : decode cX8_reads 169 = .ok (.bipush 40, 2) := by decide +kernel
theorem dX8_reads_171 : decode cX8_reads 171 = .ok (.iastore, 1) := by decide +kernel
theorem dX8_reads_172 : decode cX8_reads 172 = .ok (.aload_n 0, 1) := by decide +kernel
theorem dX8_reads_173 : decode cX8_reads 173 = .ok (.dup, 1) := by decide +kernel
theorem dX8_reads_174 : decode cX8_reads 174 = .ok (.getfield 267, 3) := by decide +kernel
theorem dX8_reads_177 : decode cX8_reads 177 = .ok (.iconst 1, 1) := by decide +kernel
theorem dX8_reads_178 : decode cX8_reads 178 = .ok (.iadd, 1) := by decide +kernel
theorem dX8_reads_179 : decode cX8_reads 179 = .ok (.putfield 267, 3) := by decide +kernel
theorem dX8_reads_182 : decode cX8_reads 182 = .ok (.iconst 0, 1) := by decide +kernel
theorem dX8_reads_183 : decode cX8_reads 183 = .ok (.istore_n 2, 1) := by decide +kernel
theorem dX8_reads_184 : decode cX8_reads 184 = .ok (.iload 4, 2) := by decide +kernel
theorem dX8_reads_186 : decode cX8_reads 186 = .ok (.iconst 1, 1) := by decide +kernel
theorem dX8_reads_187 : decode cX8_reads 187 = .ok (.iadd, 1) := by decide +kernel
theorem dX8_reads_188 : decode cX8_reads 188 = .ok (.istore_n 1, 1) := by decide +kernel
theorem dX8_reads_189 : decode cX8_reads 189 = .ok (.goto 34, 3) := by decide +kernel
theorem dX8_reads_192 : decode cX8_reads 192 = .ok (.iconst 1, 1) := by decide +kernel
theorem dX8_reads_193 : decode cX8_reads 193 = .ok (.istore_n 2, 1) := by decide +kernel
theorem dX8_reads_194 : decode cX8_reads 194 = .ok (.iload_n 1, 1) := by decide +kernel
theorem dX8_reads_195 : decode cX8_reads 195 = .ok (.iload_n 3, 1) := by decide +kernel
theorem dX8_reads_196 : decode cX8_reads 196 = .ok (.bipush 114, 2) := by decide +kernel
theorem dX8_reads_198 : decode cX8_reads 198 = .ok (.if_icmp .ne 7, 3) := by decide +kernel
theorem dX8_reads_201 : decode cX8_reads 201 = .ok (.iconst 2, 1) := by decide +kernel
theorem dX8_reads_202 : decode cX8_reads 202 = .ok (.goto 19, 3) := by decide +kernel
theorem dX8_reads_205 : decode cX8_reads 205 = .ok (.iload_n 3, 1) := by decide +kernel
theorem dX8_reads_206 : decode cX8_reads 206 = .ok (.invokestatic 259, 3) := by decide +kernel
theorem dX8_reads_209 : decode cX8_reads 209 = .ok (.ifCond .eq 11, 3) := by decide +kernel
theorem dX8_reads_212 : decode cX8_reads 212 = .ok (.aload_n 0, 1) := by decide +kernel
theorem dX8_reads_213 : decode cX8_reads 213 = .ok (.iload_n 1, 1) := by decide +kernel
theorem dX8_reads_214 : decode cX8_reads 214 = .ok (.invokevirtual 274, 3) := by decide +kernel
theorem dX8_reads_217 : decode cX8_reads 217 = .ok (.goto 4, 3) := by decide +kernel
theorem dX8_reads_220 : decode cX8_reads 220 = .ok (.iconst 1, 1) := by decide +kernel
theorem dX8_reads_221 : decode cX8_reads 221 = .ok (.iadd, 1) := by decide +kernel
theorem dX8_reads_222 : decode cX8_reads 222 = .ok (.istore_n 1, 1) := by decide +kernel
theorem dX8_reads_223 : decode cX8_reads 223 = .ok (.goto 207, 3) := by decide +kernel
theorem dX8_reads_226 : decode cX8_reads 226 = .ok (.iload_n 2, 1) := by decide +kernel
theorem dX8_reads_227 : decode cX8_reads 227 = .ok (.ifCond .ne 5, 3) := by decide +kernel
theorem dX8_reads_230 : decode cX8_reads 230 = .ok (.iload_n 1, 1) := by decide +kernel
theorem dX8_reads_231 : decode cX8_reads 231 = .ok (.ireturn, 1) := by decide +kernel
theorem dX8_reads_232 : decode cX8_reads 232 = .ok (.iload_n 2, 1) := by decide +kernel
theorem dX8_reads_233 : decode cX8_reads 233 = .ok (.iconst 1, 1) := by decide +kernel
theorem dX8_reads_234 : decode cX8_reads 234 = .ok (.if_icmp .ne 55, 3) := by decide +kernel
theorem dX8_reads_237 : decode cX8_reads 237 = .ok (.iload_n 3, 1) := by decide +kernel
theorem dX8_reads_238 : decode cX8_reads 238 = .ok (.bipush 47, 2) := by decide +kernel
theorem dX8_reads_240 : decode cX8_reads 240 = .ok (.if_icmp .ne 49, 3) := by decide +kernel
theorem dX8_reads_243 : decode cX8_reads 243 = .ok (.aload_n 0, 1) := by decide +kernel
theorem dX8_reads_244 : decode cX8_reads 244 = .ok (.iload_n 1, 1) := by decide +kernel
theorem dX8_reads_245 : decode cX8_reads 245 = .ok (.iconst 1, 1) := by decide +kernel
theorem dX8_reads_246 : decode cX8_reads 246 = .ok (.iadd, 1) := by decide +kernel
theorem dX8_reads_247 : decode cX8_reads 247 = .ok (.invokevirtual 264, 3) := by decide +kernel
theorem dX8_reads_250 : decode cX8_reads 250 = .ok (.bipush 48, 2) := by decide +kernel
theorem dX8_reads_252 : decode cX8_reads 252 = .ok (.if_icmp .ne 7, 3) := by decide +kernel
theorem dX8_reads_255 : decode cX8_reads 255 = .ok (.iconst 0, 1) := by decide +kernel
theorem dX8_reads_256 : decode cX8_reads 256 = .ok (.goto 10, 3) := by decide +kernel
theorem dX8_reads_259 : decode cX8_reads 259 = .ok (.aload_n 0, 1) := by decide +kernel
theorem dX8_reads_260 : decode cX8_reads 260 = .ok (.iload_n 1, 1) := by decide +kernel
theorem dX8_reads_261 : decode cX8_reads 261 = .ok (.iconst 1, 1) := by decide +kernel
theorem dX8_reads_262 : decode cX8_reads 262 = .ok (.iadd, 1) := by decide +kernel
theorem dX8_reads_263 : decode cX8_reads 263 = .ok (.invokevirtual 274, 3) := by decide +kernel
theorem dX8_reads_266 : decode cX8_reads 266 = .ok (.istore 4, 2) := by decide +kernel
theorem dX8_reads_268 : decode cX8_reads 268 = .ok (.iload 4, 2) := by decide +kernel
theorem dX8_reads_270 : decode cX8_reads 270 = .ok (.ifCond .ne 7, 3) := by decide +kernel
theorem dX8_reads_273 : decode cX8_reads 273 = .ok (.iload_n 1, 1) := by decide +kernel
theorem dX8_reads_274 : decode cX8_reads 274 = .ok (.iconst 1, 1) := by decide +kernel
theorem dX8_reads_275 : decode cX8_reads 275 = .ok (.iadd, 1) := by decide +kernel
theorem dX8_reads_276 : decode cX8_reads 276 = .ok (.ireturn, 1) := by decide +kernel
theorem dX8_reads_277 : decode cX8_reads 277 = .ok (.iconst 2, 1) := by decide +kernel
theorem dX8_reads_278 : decode cX8_reads 278 = .ok (.istore_n 2, 1) := by decide +kernel
theorem dX8_reads_279 : decode cX8_reads 279 = .ok (.iload_n 1, 1) := by decide +kernel
theorem dX8_reads_280 : decode cX8_reads 280 = .ok (.iconst 1, 1) := by decide +kernel
theorem dX8_reads_281 : decode cX8_reads 281 = .ok (.iload 4, 2) := by decide +kernel
theorem dX8_reads_283 : decode cX8_reads 283 = .ok (.iadd, 1) := by decide +kernel
theorem dX8_reads_284 : decode cX8_reads 284 = .ok (.iadd, 1) := by decide +kernel
theorem dX8_reads_285 : decode cX8_reads 285 = .ok (.istore_n 1, 1) := by decide +kernel
theorem dX8_reads_286 : decode cX8_reads 286 = .ok (.goto 144, 3) := by decide +kernel
theorem dX8_reads_289 : decode cX8_reads 289 = .ok (.iload_n 3, 1) := by decide +kernel
theorem dX8_reads_290 : decode cX8_reads 290 = .ok (.bipush 43, 2) := by decide +kernel
theorem dX8_reads_292 : decode cX8_reads 292 = .ok (.if_icmp .eq 9, 3) := by decide +kernel
theorem dX8_reads_295 : decode cX8_reads 295 = .ok (.iload_n 3, 1) := by decide +kernel
theorem dX8_reads_296 : decode cX8_reads 296 = .ok (.bipush 45, 2) := by decide +kernel
theorem dX8_reads_298 : decode cX8_reads 298 = .ok (.if_icmp .ne 11, 3) := by decide +kernel
theorem dX8_reads_301 : decode cX8_reads 301 = .ok (.iconst 0, 1) := by decide +kernel
theorem dX8_reads_302 : decode cX8_reads 302 = .ok (.istore_n 2, 1) := by decide +kernel
theorem dX8_reads_303 : decode cX8_reads 303 = .ok (.iinc 1 1, 3) := by decide +kernel
theorem dX8_reads_306 : decode cX8_reads 306 = .ok (.goto 124, 3) := by decide +kernel
theorem dX8_reads_309 : decode cX8_reads 309 = .ok (.aload_n 0, 1) := by decide +kernel
theorem dX8_reads_310 : decode cX8_reads 310 = .ok (.getfield 267, 3) := by decide +kernel
theorem dX8_reads_313 : decode cX8_reads 313 = .ok (.ifCond .le 46, 3) := by decide +kernel
theorem dX8_reads_316 : decode cX8_reads 316 = .ok (.iload_n 3, 1) := by decide +kernel
theorem dX8_reads_317 : decode cX8_reads 317 = .ok (.bipush 44, 2) := by decide +kernel
theorem dX8_reads_319 : decode cX8_reads 319 = .ok (.if_icmp .ne 40, 3) := by decide +kernel
theorem dX8_reads_322 : decode cX8_reads 322 = .ok (.aload_n 0, 1) := by decide +kernel
theorem dX8_reads_323 : decode cX8_reads 323 = .ok (.getfield 75, 3) := by decide +kernel
theorem dX8_reads_326 : decode cX8_reads 326 = .ok (.aload_n 0, 1) := by decide +kernel
theorem dX8_reads_327 : decode cX8_reads 327 = .ok (.getfield 267, 3) := by decide +kernel
theorem dX8_reads_330 : decode cX8_reads 330 = .ok (.iconst 1, 1) := by decide +kernel
theorem dX8_reads_331 : decode cX8_reads 331 = .ok (.isub, 1) := by decide +kernel
theorem dX8_reads_332 : decode cX8_reads 332 = .ok (.iaload, 1) := by decide +kernel
theorem dX8_reads_333 : decode cX8_reads 333 = .ok (.bipush 91, 2) := by decide +kernel
theorem dX8_reads_335 : decode cX8_reads 335 = .ok (.if_icmp .ne 24, 3) := by decide +kernel
theorem dX8_reads_338 : decode cX8_reads 338 = .ok (.aload_n 0, 1) := by decide +kernel
theorem dX8_reads_339 : decode cX8_reads 339 = .ok (.getfield 75, 3) := by decide +kernel
theorem dX8_reads_342 : decode cX8_reads 342 = .ok (.aload_n 0, 1) := by decide +kernel
theorem dX8_reads_343 : decode cX8_reads 343 = .ok (.getfield 267, 3) := by decide +kernel
theorem dX8_reads_346 : decode cX8_reads 346 = .ok (.iconst 1, 1) := by decide +kernel
theorem dX8_reads_347 : decode cX8_reads 347 = .ok (.isub, 1) := by decide +kernel
theorem dX8_reads_348 : decode cX8_reads 348 = .ok (.bipush 93, 2) := by decide +kernel
theorem dX8_reads_350 : decode cX8_reads 350 = .ok (.iastore, 1) := by decide +kernel
theorem dX8_reads_351 : decode cX8_reads 351 = .ok (.iconst 0, 1) := by decide +kernel
theorem dX8_reads_352 : decode cX8_reads 352 = .ok (.istore_n 2, 1) := by decide +kernel
theorem dX8_reads_353 : decode cX8_reads 353 = .ok (.iinc 1 1, 3) := by decide +kernel
theorem dX8_reads_356 : decode cX8_reads 356 = .ok (.goto 74, 3) := by decide +kernel
theorem dX8_reads_359 : decode cX8_reads 359 = .ok (.aload_n 0, 1) := by decide +kernel
theorem dX8_reads_360 : decode cX8_reads 360 = .ok (.getfield 267, 3) := by decide +kernel
theorem dX8_reads_363 : decode cX8_reads 363 = .ok (.ifCond .le 65, 3) := by decide +kernel
theorem dX8_reads_366 : decode cX8_reads 366 = .ok (.iload_n 3, 1) := by decide +kernel
theorem dX8_reads_367 : decode cX8_reads 367 = .ok (.bipush 41, 2) := by decide +kernel
theorem dX8_reads_369 : decode cX8_reads 369 = .ok (.if_icmp .ne 19, 3) := by decide +kernel
theorem dX8_reads_372 : decode cX8_reads 372 = .ok (.aload_n 0, 1) := by decide +kernel
theorem dX8_reads_373 : decode cX8_reads 373 = .ok (.getfield 75, 3) := by decide +kernel
theorem dX8_reads_376 : decode cX8_reads 376 = .ok (.aload_n 0, 1) := by decide +kernel
theorem dX8_reads_377 : decode cX8_reads 377 = .ok (.getfield 267, 3) := by decide +kernel
theorem dX8_reads_380 : decode cX8_reads 380 = .ok (.iconst 1, 1) := by decide +kernel
theorem dX8_reads_381 : decode cX8_reads 381 = .ok (.isub, 1) := by decide +kernel
theorem dX8_reads_382 : decode cX8_reads 382 = .ok (.iaload, 1) := by decide +kernel
theorem dX8_reads_383 : decode cX8_reads 383 = .ok (.bipush 40, 2) := by decide +kernel
theorem dX8_reads_385 : decode cX8_reads 385 = .ok (.if_icmp .eq 25, 3) := by decide +kernel
theorem dX8_reads_388 : decode cX8_reads 388 = .ok (.iload_n 3, 1) := by decide +kernel
theorem dX8_reads_389 : decode cX8_reads 389 = .ok (.bipush 93, 2) := by decide +kernel
theorem dX8_reads_391 : decode cX8_reads 391 = .ok (.if_icmp .ne 37, 3) := by decide +kernel
theorem dX8_reads_394 : decode cX8_reads 394 = .ok (.aload_n 0, 1) := by decide +kernel
theorem dX8_reads_395 : decode cX8_reads 395 = .ok (.getfield 75, 3) := by decide +kernel
theorem dX8_reads_398 : decode cX8_reads 398 = .ok (.aload_n 0, 1) := by decide +kernel
theorem dX8_reads_399 : decode cX8_reads 399 = .ok (.getfield 267, 3) := by decide +kernel
theorem dX8_reads_402 : decode cX8_reads 402 = .ok (.iconst 1, 1) := by decide +kernel
theorem dX8_reads_403 : decode cX8_reads 403 = .ok (.isub, 1) := by decide +kernel
theorem dX8_reads_404 : decode cX8_reads 404 = .ok (.iaload, 1) := by decide +kernel
theorem dX8_reads_405 : decode cX8_reads 405 = .ok (.bipush 93, 2) := by decide +kernel
theorem dX8_reads_407 : decode cX8_reads 407 = .ok (.if_icmp .ne 21, 3) := by decide +kernel
theorem dX8_reads_410 : decode cX8_reads 410 = .ok (.aload_n 0, 1) := by decide +kernel
theorem dX8_reads_411 : decode cX8_reads 411 = .ok (.dup, 1) := by decide +kernel
theorem dX8_reads_412 : decode cX8_reads 412 = .ok (.getfield 267, 3) := by decide +kernel
theorem dX8_reads_415 : decode cX8_reads 415 = .ok (.iconst 1, 1) := by decide +kernel
theorem dX8_reads_416 : decode cX8_reads 416 = .ok (.isub, 1) := by decide +kernel
theorem dX8_reads_417 : decode cX8_reads 417 = .ok (.putfield 267, 3) := by decide +kernel
theorem dX8_reads_420 : decode cX8_reads 420 = .ok (.iconst 1, 1) := by decide +kernel
theorem dX8_reads_421 : decode cX8_reads 421 = .ok (.istore_n 2, 1) := by decide +kernel
theorem dX8_reads_422 : decode cX8_reads 422 = .ok (.iinc 1 1, 3) := by decide +kernel
theorem dX8_reads_425 : decode cX8_reads 425 = .ok (.goto 5, 3) := by decide +kernel
theorem dX8_reads_428 : decode cX8_reads 428 = .ok (.iload_n 1, 1) := by decide +kernel
theorem dX8_reads_429 : decode cX8_reads 429 = .ok (.ireturn, 1) := by decide +kernel
theorem dX8_reads_430 : decode cX8_reads 430 = .ok (.goto (-421), 3) := by decide +kernel
theorem dX8_reads_433 : decode cX8_reads 433 = .ok (.aload_n 0, 1) := by decide +kernel
theorem dX8_reads_434 : decode cX8_reads 434 = .ok (.getfield 267, 3) := by decide +kernel
theorem dX8_reads_437 : decode cX8_reads 437 = .ok (.ifCond .le 10, 3) := by decide +kernel
theorem dX8_reads_440 : decode cX8_reads 440 = .ok (.aload_n 0, 1) := by decide +kernel
theorem dX8_reads_441 : decode cX8_reads 441 = .ok (.getfield 250, 3) := by decide +kernel
theorem dX8_reads_444 : decode cX8_reads 444 = .ok (.goto 4, 3) := by decide +kernel
theorem dX8_reads_447 : decode cX8_reads 447 = .ok (.iconst (-1), 1) := by decide +kernel
theorem dX8_reads_448 : decode cX8_reads 448 = .ok (.ireturn, 1) := by decide +kernel
theorem dX8_slot_0 : decode cX8_slot 0 = .ok (.bipush 14, 2) := by decide +kernel
theorem dX8_slot_2 : decode cX8_slot 2 = .ok (.iconst 3, 1) := by decide +kernel
