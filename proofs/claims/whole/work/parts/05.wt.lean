theorem wk_X0_commute_X00 : ∀ w ∈ wsX00, w ∈ wsX0_commute := fun _ h => (wm_1 (wm_r h))
theorem wk_X0_compose_X00 : ∀ w ∈ wsX00, w ∈ wsX0_compose := fun _ h => (wm_1 (wm_r h))
theorem wk_X0_compose_X0_compose_r1 : ∀ w ∈ wsX0_compose_r1, w ∈ wsX0_compose := fun _ h => (wm_1 (wm_l (wm_l h)))
theorem wk_X0_compose_X0_compose_r2 : ∀ w ∈ wsX0_compose_r2, w ∈ wsX0_compose := fun _ h => (wm_1 (wm_l (wm_r h)))
theorem wk_X0_init_X0_init_r1 : ∀ w ∈ wsX0_init_r1, w ∈ wsX0_init := fun _ h => (wm_1 (wm_l (wm_l (wm_l h))))
theorem wk_X0_init_X0_init_r2 : ∀ w ∈ wsX0_init_r2, w ∈ wsX0_init := fun _ h => (wm_1 (wm_l (wm_l (wm_r h))))
theorem wk_X0_init_X60 : ∀ w ∈ wsX60, w ∈ wsX0_init := fun _ h => (wm_1 (wm_r h))
theorem wk_X0_interleave_X00 : ∀ w ∈ wsX00, w ∈ wsX0_interleave := fun _ h => (wm_1 (wm_r h))
theorem wk_X0_invert_X00 : ∀ w ∈ wsX00, w ∈ wsX0_invert := fun _ h => (wm_1 (wm_r h))
theorem wk_X0_invert_X0_invert_r1 : ∀ w ∈ wsX0_invert_r1, w ∈ wsX0_invert := fun _ h => (wm_1 (wm_l (wm_l h)))
theorem wk_X0_invert_X0_invert_r2 : ∀ w ∈ wsX0_invert_r2, w ∈ wsX0_invert := fun _ h => (wm_1 (wm_l (wm_r h)))
theorem wk_X0_isLie_X00 : ∀ w ∈ wsX00, w ∈ wsX0_isLie := fun _ h => (wm_1 (wm_r h))
theorem wk_X0_isLie_X0_isLie_r1 : ∀ w ∈ wsX0_isLie_r1, w ∈ wsX0_isLie := fun _ h => (wm_1 (wm_l (wm_l h)))
theorem wk_X0_isLie_X0_isLie_r2 : ∀ w ∈ wsX0_isLie_r2, w ∈ wsX0_isLie := fun _ h => (wm_1 (wm_l (wm_r h)))
theorem wk_X0_isLieAt_X00 : ∀ w ∈ wsX00, w ∈ wsX0_isLieAt := fun _ h => (wm_1 (wm_r h))
theorem wk_X0_mingle_X00 : ∀ w ∈ wsX00, w ∈ wsX0_mingle := fun _ h => (wm_1 (wm_r h))
theorem wk_X0_mingle_X0_mingle_r1 : ∀ w ∈ wsX0_mingle_r1, w ∈ wsX0_mingle := fun _ h => (wm_1 (wm_l (wm_l h)))
theorem wk_X0_mingle_X0_mingle_r2 : ∀ w ∈ wsX0_mingle_r2, w ∈ wsX0_mingle := fun _ h => (wm_1 (wm_l (wm_r h)))
theorem wk_X0_mingleWord_X00 : ∀ w ∈ wsX00, w ∈ wsX0_mingleWord := fun _ h => (wm_1 (wm_r h))
theorem wk_X0_multiply_X00 : ∀ w ∈ wsX00, w ∈ wsX0_multiply := fun _ h => (wm_1 (wm_r h))
theorem wk_X0_onlyLength_X00 : ∀ w ∈ wsX00, w ∈ wsX0_onlyLength := fun _ h => (wm_1 (wm_r h))
theorem wk_X0_raise_X00 : ∀ w ∈ wsX00, w ∈ wsX0_raise := fun _ h => (wm_1 (wm_r h))
theorem wk_X0_raise_X0_raise_r1 : ∀ w ∈ wsX0_raise_r1, w ∈ wsX0_raise := fun _ h => (wm_1 (wm_l (wm_l h)))
theorem wk_X0_raise_X0_raise_r2 : ∀ w ∈ wsX0_raise_r2, w ∈ wsX0_raise := fun _ h => (wm_1 (wm_l (wm_r h)))
theorem wk_X0_setBehind_X00 : ∀ w ∈ wsX00, w ∈ wsX0_setBehind := fun _ h => (wm_1 (wm_r h))
theorem wk_X0_setBehind_X0_setBehind_r1 : ∀ w ∈ wsX0_setBehind_r1, w ∈ wsX0_setBehind := fun _ h => (wm_1 (wm_l (wm_l h)))
theorem wk_X0_setBehind_X0_setBehind_r2 : ∀ w ∈ wsX0_setBehind_r2, w ∈ wsX0_setBehind := fun _ h => (wm_1 (wm_l (wm_r h)))
theorem wk_X0_setInAll_X00 : ∀ w ∈ wsX00, w ∈ wsX0_setInAll := fun _ h => (wm_1 (wm_r h))
theorem wk_X0_setInAll_X0_setInAll_r1 : ∀ w ∈ wsX0_setInAll_r1, w ∈ wsX0_setInAll := fun _ h => (wm_1 (wm_l (wm_l h)))
theorem wk_X0_setInAll_X0_setInAll_r2 : ∀ w ∈ wsX0_setInAll_r2, w ∈ wsX0_setInAll := fun _ h => (wm_1 (wm_l (wm_r h)))
theorem wk_X0_setInEach_X00 : ∀ w ∈ wsX00, w ∈ wsX0_setInEach := fun _ h => (wm_1 (wm_r h))
theorem wk_X0_setInEach_X0_setInEach_r1 : ∀ w ∈ wsX0_setInEach_r1, w ∈ wsX0_setInEach := fun _ h => (wm_1 (wm_l (wm_l h)))
theorem wk_X0_setInEach_X0_setInEach_r2 : ∀ w ∈ wsX0_setInEach_r2, w ∈ wsX0_setInEach := fun _ h => (wm_1 (wm_l (wm_r h)))
theorem wk_X0_turnAbout_X0_turnAbout_r1 : ∀ w ∈ wsX0_turnAbout_r1, w ∈ wsX0_turnAbout := fun _ h => (wm_1 (wm_l (wm_l (wm_l h))))
theorem wk_X0_turnAbout_X0_turnAbout_r2 : ∀ w ∈ wsX0_turnAbout_r2, w ∈ wsX0_turnAbout := fun _ h => (wm_1 (wm_l (wm_l (wm_r h))))
theorem wk_X0_turnAbout_X60 : ∀ w ∈ wsX60, w ∈ wsX0_turnAbout := fun _ h => (wm_1 (wm_r h))
theorem wk_X0_unraise_X00 : ∀ w ∈ wsX00, w ∈ wsX0_unraise := fun _ h => (wm_1 (wm_r h))
theorem wk_X0_unraise_X0_unraise_r1 : ∀ w ∈ wsX0_unraise_r1, w ∈ wsX0_unraise := fun _ h => (wm_1 (wm_l (wm_l h)))
theorem wk_X0_unraise_X0_unraise_r2 : ∀ w ∈ wsX0_unraise_r2, w ∈ wsX0_unraise := fun _ h => (wm_1 (wm_l (wm_r h)))
theorem wk_X1_findChiefs_X10 : ∀ w ∈ wsX10, w ∈ wsX1_findChiefs := fun _ h => (wm_1 (wm_l (wm_r h)))
theorem wk_X1_findChiefs_X60 : ∀ w ∈ wsX60, w ∈ wsX1_findChiefs := fun _ h => (wm_1 (wm_r h))
theorem wk_X1_findSides_X60 : ∀ w ∈ wsX60, w ∈ wsX1_findSides := fun _ h => (wm_1 (wm_r h))
theorem wk_X1_init_X10 : ∀ w ∈ wsX10, w ∈ wsX1_init := fun _ h => (wm_1 (wm_l (wm_l (wm_r h))))
theorem wk_X1_init_X1_init_r1 : ∀ w ∈ wsX1_init_r1, w ∈ wsX1_init := fun _ h => (wm_1 (wm_l (wm_l (wm_l (wm_l h)))))
theorem wk_X1_init_X1_init_r2 : ∀ w ∈ wsX1_init_r2, w ∈ wsX1_init := fun _ h => (wm_1 (wm_l (wm_l (wm_l (wm_r (wm_l h))))))
theorem wk_X1_init_X1_init_r3 : ∀ w ∈ wsX1_init_r3, w ∈ wsX1_init := fun _ h => (wm_1 (wm_l (wm_l (wm_l (wm_r (wm_r h))))))
theorem wk_X1_init_X60 : ∀ w ∈ wsX60, w ∈ wsX1_init := fun _ h => (wm_1 (wm_r h))
theorem wk_X1_measure_X00 : ∀ w ∈ wsX00, w ∈ wsX1_measure := fun _ h => (wm_1 (wm_r h))
theorem wk_X1_measure_X10 : ∀ w ∈ wsX10, w ∈ wsX1_measure := fun _ h => (wm_1 (wm_l (wm_l (wm_r h))))
theorem wk_X1_measure_X1_measure_r1 : ∀ w ∈ wsX1_measure_r1, w ∈ wsX1_measure := fun _ h => (wm_1 (wm_l (wm_l (wm_l (wm_l h)))))
theorem wk_X1_measure_X1_measure_r2 : ∀ w ∈ wsX1_measure_r2, w ∈ wsX1_measure := fun _ h => (wm_1 (wm_l (wm_l (wm_l (wm_r (wm_l h))))))
theorem wk_X1_measure_X1_measure_r3 : ∀ w ∈ wsX1_measure_r3, w ∈ wsX1_measure := fun _ h => (wm_1 (wm_l (wm_l (wm_l (wm_r (wm_r (wm_l h)))))))
theorem wk_X1_measure_X1_measure_r4 : ∀ w ∈ wsX1_measure_r4, w ∈ wsX1_measure := fun _ h => (wm_1 (wm_l (wm_l (wm_l (wm_r (wm_r (wm_r h)))))))
theorem wk_X1_measure_X60 : ∀ w ∈ wsX60, w ∈ wsX1_measure := fun _ h => (wm_1 (wm_l (wm_r h)))
theorem wk_X1_measureSpelled_X00 : ∀ w ∈ wsX00, w ∈ wsX1_measureSpelled := fun _ h => (wm_1 (wm_r h))
theorem wk_X1_measureSpelled_X10 : ∀ w ∈ wsX10, w ∈ wsX1_measureSpelled := fun _ h => (wm_1 (wm_l (wm_l (wm_r h))))
theorem wk_X1_measureSpelled_X1_measureSpelled_r1 : ∀ w ∈ wsX1_measureSpelled_r1, w ∈ wsX1_measureSpelled := fun _ h => (wm_1 (wm_l (wm_l (wm_l (wm_l h)))))
theorem wk_X1_measureSpelled_X1_measureSpelled_r2 : ∀ w ∈ wsX1_measureSpelled_r2, w ∈ wsX1_measureSpelled := fun _ h => (wm_1 (wm_l (wm_l (wm_l (wm_r (wm_l h))))))
theorem wk_X1_measureSpelled_X1_measureSpelled_r3 : ∀ w ∈ wsX1_measureSpelled_r3, w ∈ wsX1_measureSpelled := fun _ h => (wm_1 (wm_l (wm_l (wm_l (wm_r (wm_r (wm_l h)))))))
theorem wk_X1_measureSpelled_X1_measureSpelled_r4 : ∀ w ∈ wsX1_measureSpelled_r4, w ∈ wsX1_measureSpelled := fun _ h => (wm_1 (wm_l (wm_l (wm_l (wm_r (wm_r (wm_r h)))))))
theorem wk_X1_measureSpelled_X60 : ∀ w ∈ wsX60, w ∈ wsX1_measureSpelled := fun _ h => (wm_1 (wm_l (wm_r h)))
theorem wk_X1_shareInBracket_X00 : ∀ w ∈ wsX00, w ∈ wsX1_shareInBracket := fun _ h => (wm_1 (wm_r h))
theorem wk_X1_shareInBracket_X10 : ∀ w ∈ wsX10, w ∈ wsX1_shareInBracket := fun _ h => (wm_1 (wm_l (wm_l (wm_r h))))
theorem wk_X1_shareInBracket_X1_shareInBracket_r1 : ∀ w ∈ wsX1_shareInBracket_r1, w ∈ wsX1_shareInBracket := fun _ h => (wm_1 (wm_l (wm_l (wm_l (wm_l h)))))
theorem wk_X1_shareInBracket_X1_shareInBracket_r2 : ∀ w ∈ wsX1_shareInBracket_r2, w ∈ wsX1_shareInBracket := fun _ h => (wm_1 (wm_l (wm_l (wm_l (wm_r (wm_l h))))))
theorem wk_X1_shareInBracket_X1_shareInBracket_r3 : ∀ w ∈ wsX1_shareInBracket_r3, w ∈ wsX1_shareInBracket := fun _ h => (wm_1 (wm_l (wm_l (wm_l (wm_r (wm_r (wm_l h)))))))
theorem wk_X1_shareInBracket_X1_shareInBracket_r4 : ∀ w ∈ wsX1_shareInBracket_r4, w ∈ wsX1_shareInBracket := fun _ h => (wm_1 (wm_l (wm_l (wm_l (wm_r (wm_r (wm_r (wm_l h))))))))
theorem wk_X1_shareInBracket_X1_shareInBracket_r5 : ∀ w ∈ wsX1_shareInBracket_r5, w ∈ wsX1_shareInBracket := fun _ h => (wm_1 (wm_l (wm_l (wm_l (wm_r (wm_r (wm_r (wm_r (wm_l h)))))))))
theorem wk_X1_shareInBracket_X1_shareInBracket_r6 : ∀ w ∈ wsX1_shareInBracket_r6, w ∈ wsX1_shareInBracket := fun _ h => (wm_1 (wm_l (wm_l (wm_l (wm_r (wm_r (wm_r (wm_r (wm_r h)))))))))
theorem wk_X1_shareInBracket_X60 : ∀ w ∈ wsX60, w ∈ wsX1_shareInBracket := fun _ h => (wm_1 (wm_l (wm_r h)))
theorem wk_X1_weave_X00 : ∀ w ∈ wsX00, w ∈ wsX1_weave := fun _ h => (wm_1 (wm_r h))
theorem wk_X1_weave_X10 : ∀ w ∈ wsX10, w ∈ wsX1_weave := fun _ h => (wm_1 (wm_l (wm_r h)))
theorem wk_X1_weave_X1_weave_r1 : ∀ w ∈ wsX1_weave_r1, w ∈ wsX1_weave := fun _ h => (wm_1 (wm_l (wm_l (wm_l h))))
theorem wk_X1_weave_X1_weave_r2 : ∀ w ∈ wsX1_weave_r2, w ∈ wsX1_weave := fun _ h => (wm_1 (wm_l (wm_l (wm_r h))))
theorem wk_X1_written_X10 : ∀ w ∈ wsX10, w ∈ wsX1_written := fun _ h => (wm_1 (wm_l (wm_r h)))
theorem wk_X1_written_X60 : ∀ w ∈ wsX60, w ∈ wsX1_written := fun _ h => (wm_1 (wm_r h))
theorem wk_X1_writtenLength_X60 : ∀ w ∈ wsX60, w ∈ wsX1_writtenLength := fun _ h => (wm_1 (wm_r h))
theorem wk_X2_enact_X10 : ∀ w ∈ wsX10, w ∈ wsX2_enact := fun _ h => (wm_1 (wm_r h))
theorem wk_X2_enact_X20 : ∀ w ∈ wsX20, w ∈ wsX2_enact := fun _ h => (wm_1 (wm_l (wm_l (wm_r h))))
theorem wk_X2_enact_X2_enact_r1 : ∀ w ∈ wsX2_enact_r1, w ∈ wsX2_enact := fun _ h => (wm_1 (wm_l (wm_l (wm_l (wm_l h)))))
theorem wk_X2_enact_X2_enact_r2 : ∀ w ∈ wsX2_enact_r2, w ∈ wsX2_enact := fun _ h => (wm_1 (wm_l (wm_l (wm_l (wm_r (wm_l h))))))
theorem wk_X2_enact_X2_enact_r3 : ∀ w ∈ wsX2_enact_r3, w ∈ wsX2_enact := fun _ h => (wm_1 (wm_l (wm_l (wm_l (wm_r (wm_r h))))))
theorem wk_X2_enact_X60 : ∀ w ∈ wsX60, w ∈ wsX2_enact := fun _ h => (wm_1 (wm_l (wm_r h)))
theorem wk_X2_init_X10 : ∀ w ∈ wsX10, w ∈ wsX2_init := fun _ h => (wm_1 (wm_r h))
theorem wk_X2_init_X2_init_r1 : ∀ w ∈ wsX2_init_r1, w ∈ wsX2_init := fun _ h => (wm_1 (wm_l (wm_l (wm_l (wm_l h)))))
theorem wk_X2_init_X2_init_r2 : ∀ w ∈ wsX2_init_r2, w ∈ wsX2_init := fun _ h => (wm_1 (wm_l (wm_l (wm_l (wm_r h)))))
theorem wk_X2_init_X60 : ∀ w ∈ wsX60, w ∈ wsX2_init := fun _ h => (wm_1 (wm_l (wm_r h)))
theorem wk_X2_settle_X10 : ∀ w ∈ wsX10, w ∈ wsX2_settle := fun _ h => (wm_1 (wm_r h))
theorem wk_X2_settle_X20 : ∀ w ∈ wsX20, w ∈ wsX2_settle := fun _ h => (wm_1 (wm_l (wm_l (wm_r h))))
theorem wk_X2_settle_X2_settle_r1 : ∀ w ∈ wsX2_settle_r1, w ∈ wsX2_settle := fun _ h => (wm_1 (wm_l (wm_l (wm_l (wm_l h)))))
theorem wk_X2_settle_X2_settle_r2 : ∀ w ∈ wsX2_settle_r2, w ∈ wsX2_settle := fun _ h => (wm_1 (wm_l (wm_l (wm_l (wm_r h)))))
theorem wk_X2_settle_X60 : ∀ w ∈ wsX60, w ∈ wsX2_settle := fun _ h => (wm_1 (wm_l (wm_r h)))
theorem wk_X4_beginsFactor_X40 : ∀ w ∈ wsX40, w ∈ wsX4_beginsFactor := fun _ h => (wm_1 (wm_l (wm_r h)))
theorem wk_X4_beginsFactor_X60 : ∀ w ∈ wsX60, w ∈ wsX4_beginsFactor := fun _ h => (wm_1 (wm_r h))
theorem wk_X4_goesOn_X40 : ∀ w ∈ wsX40, w ∈ wsX4_goesOn := fun _ h => (wm_1 (wm_r h))
theorem wk_X4_opens_X40 : ∀ w ∈ wsX40, w ∈ wsX4_opens := fun _ h => (wm_1 (wm_r h))
theorem wk_X4_readBracket_X00 : ∀ w ∈ wsX00, w ∈ wsX4_readBracket := fun _ h => (wm_1 (wm_l (wm_r h)))
theorem wk_X4_readBracket_X40 : ∀ w ∈ wsX40, w ∈ wsX4_readBracket := fun _ h => (wm_1 (wm_l (wm_l (wm_r h))))
theorem wk_X4_readBracket_X4_readBracket_r1 : ∀ w ∈ wsX4_readBracket_r1, w ∈ wsX4_readBracket := fun _ h => (wm_1 (wm_l (wm_l (wm_l (wm_l h)))))
theorem wk_X4_readBracket_X4_readBracket_r2 : ∀ w ∈ wsX4_readBracket_r2, w ∈ wsX4_readBracket := fun _ h => (wm_1 (wm_l (wm_l (wm_l (wm_r (wm_l h))))))
theorem wk_X4_readBracket_X4_readBracket_r3 : ∀ w ∈ wsX4_readBracket_r3, w ∈ wsX4_readBracket := fun _ h => (wm_1 (wm_l (wm_l (wm_l (wm_r (wm_r (wm_l h)))))))
theorem wk_X4_readBracket_X4_readBracket_r4 : ∀ w ∈ wsX4_readBracket_r4, w ∈ wsX4_readBracket := fun _ h => (wm_1 (wm_l (wm_l (wm_l (wm_r (wm_r (wm_r (wm_l h))))))))
theorem wk_X4_readBracket_X4_readBracket_r5 : ∀ w ∈ wsX4_readBracket_r5, w ∈ wsX4_readBracket := fun _ h => (wm_1 (wm_l (wm_l (wm_l (wm_r (wm_r (wm_r (wm_r (wm_l h)))))))))
theorem wk_X4_readBracket_X4_readBracket_r6 : ∀ w ∈ wsX4_readBracket_r6, w ∈ wsX4_readBracket := fun _ h => (wm_1 (wm_l (wm_l (wm_l (wm_r (wm_r (wm_r (wm_r (wm_r (wm_l h))))))))))
theorem wk_X4_readBracket_X4_readBracket_r7 : ∀ w ∈ wsX4_readBracket_r7, w ∈ wsX4_readBracket := fun _ h => (wm_1 (wm_l (wm_l (wm_l (wm_r (wm_r (wm_r (wm_r (wm_r (wm_r h))))))))))
theorem wk_X4_readBracket_X60 : ∀ w ∈ wsX60, w ∈ wsX4_readBracket := fun _ h => (wm_1 (wm_r h))
theorem wk_X4_readDivisor_X40 : ∀ w ∈ wsX40, w ∈ wsX4_readDivisor := fun _ h => (wm_1 (wm_r h))
theorem wk_X4_readDivisor_X4_readDivisor_r1 : ∀ w ∈ wsX4_readDivisor_r1, w ∈ wsX4_readDivisor := fun _ h => (wm_1 (wm_l (wm_l h)))
theorem wk_X4_readDivisor_X4_readDivisor_r2 : ∀ w ∈ wsX4_readDivisor_r2, w ∈ wsX4_readDivisor := fun _ h => (wm_1 (wm_l (wm_r h)))
theorem wk_X4_readFactor_X00 : ∀ w ∈ wsX00, w ∈ wsX4_readFactor := fun _ h => (wm_1 (wm_l (wm_r h)))
theorem wk_X4_readFactor_X40 : ∀ w ∈ wsX40, w ∈ wsX4_readFactor := fun _ h => (wm_1 (wm_l (wm_l (wm_r h))))
theorem wk_X4_readFactor_X4_readFactor_r1 : ∀ w ∈ wsX4_readFactor_r1, w ∈ wsX4_readFactor := fun _ h => (wm_1 (wm_l (wm_l (wm_l (wm_l h)))))
theorem wk_X4_readFactor_X4_readFactor_r2 : ∀ w ∈ wsX4_readFactor_r2, w ∈ wsX4_readFactor := fun _ h => (wm_1 (wm_l (wm_l (wm_l (wm_r (wm_l h))))))
theorem wk_X4_readFactor_X4_readFactor_r3 : ∀ w ∈ wsX4_readFactor_r3, w ∈ wsX4_readFactor := fun _ h => (wm_1 (wm_l (wm_l (wm_l (wm_r (wm_r (wm_l h)))))))
theorem wk_X4_readFactor_X4_readFactor_r4 : ∀ w ∈ wsX4_readFactor_r4, w ∈ wsX4_readFactor := fun _ h => (wm_1 (wm_l (wm_l (wm_l (wm_r (wm_r (wm_r (wm_l h))))))))
theorem wk_X4_readFactor_X4_readFactor_r5 : ∀ w ∈ wsX4_readFactor_r5, w ∈ wsX4_readFactor := fun _ h => (wm_1 (wm_l (wm_l (wm_l (wm_r (wm_r (wm_r (wm_r (wm_l h)))))))))
theorem wk_X4_readFactor_X4_readFactor_r6 : ∀ w ∈ wsX4_readFactor_r6, w ∈ wsX4_readFactor := fun _ h => (wm_1 (wm_l (wm_l (wm_l (wm_r (wm_r (wm_r (wm_r (wm_r (wm_l h))))))))))
theorem wk_X4_readFactor_X4_readFactor_r7 : ∀ w ∈ wsX4_readFactor_r7, w ∈ wsX4_readFactor := fun _ h => (wm_1 (wm_l (wm_l (wm_l (wm_r (wm_r (wm_r (wm_r (wm_r (wm_r h))))))))))
theorem wk_X4_readFactor_X60 : ∀ w ∈ wsX60, w ∈ wsX4_readFactor := fun _ h => (wm_1 (wm_r h))
theorem wk_X4_readNumber_X40 : ∀ w ∈ wsX40, w ∈ wsX4_readNumber := fun _ h => (wm_1 (wm_r h))
theorem wk_X4_readRound_X00 : ∀ w ∈ wsX00, w ∈ wsX4_readRound := fun _ h => (wm_1 (wm_l (wm_r h)))
theorem wk_X4_readRound_X40 : ∀ w ∈ wsX40, w ∈ wsX4_readRound := fun _ h => (wm_1 (wm_l (wm_l (wm_r h))))
theorem wk_X4_readRound_X4_readRound_r1 : ∀ w ∈ wsX4_readRound_r1, w ∈ wsX4_readRound := fun _ h => (wm_1 (wm_l (wm_l (wm_l (wm_l h)))))
theorem wk_X4_readRound_X4_readRound_r2 : ∀ w ∈ wsX4_readRound_r2, w ∈ wsX4_readRound := fun _ h => (wm_1 (wm_l (wm_l (wm_l (wm_r (wm_l h))))))
theorem wk_X4_readRound_X4_readRound_r3 : ∀ w ∈ wsX4_readRound_r3, w ∈ wsX4_readRound := fun _ h => (wm_1 (wm_l (wm_l (wm_l (wm_r (wm_r (wm_l h)))))))
theorem wk_X4_readRound_X4_readRound_r4 : ∀ w ∈ wsX4_readRound_r4, w ∈ wsX4_readRound := fun _ h => (wm_1 (wm_l (wm_l (wm_l (wm_r (wm_r (wm_r (wm_l h))))))))
theorem wk_X4_readRound_X4_readRound_r5 : ∀ w ∈ wsX4_readRound_r5, w ∈ wsX4_readRound := fun _ h => (wm_1 (wm_l (wm_l (wm_l (wm_r (wm_r (wm_r (wm_r (wm_l h)))))))))
theorem wk_X4_readRound_X4_readRound_r6 : ∀ w ∈ wsX4_readRound_r6, w ∈ wsX4_readRound := fun _ h => (wm_1 (wm_l (wm_l (wm_l (wm_r (wm_r (wm_r (wm_r (wm_r (wm_l h))))))))))
theorem wk_X4_readRound_X4_readRound_r7 : ∀ w ∈ wsX4_readRound_r7, w ∈ wsX4_readRound := fun _ h => (wm_1 (wm_l (wm_l (wm_l (wm_r (wm_r (wm_r (wm_r (wm_r (wm_r h))))))))))
theorem wk_X4_readRound_X60 : ∀ w ∈ wsX60, w ∈ wsX4_readRound := fun _ h => (wm_1 (wm_r h))
theorem wk_X4_readSum_X00 : ∀ w ∈ wsX00, w ∈ wsX4_readSum := fun _ h => (wm_1 (wm_r h))
theorem wk_X4_readSum_X40 : ∀ w ∈ wsX40, w ∈ wsX4_readSum := fun _ h => (wm_1 (wm_l (wm_r h)))
theorem wk_X4_readSum_X4_readSum_r1 : ∀ w ∈ wsX4_readSum_r1, w ∈ wsX4_readSum := fun _ h => (wm_1 (wm_l (wm_l (wm_l h))))
theorem wk_X4_readSum_X4_readSum_r2 : ∀ w ∈ wsX4_readSum_r2, w ∈ wsX4_readSum := fun _ h => (wm_1 (wm_l (wm_l (wm_r h))))
theorem wk_X4_readTerm_X00 : ∀ w ∈ wsX00, w ∈ wsX4_readTerm := fun _ h => (wm_1 (wm_l (wm_r h)))
theorem wk_X4_readTerm_X40 : ∀ w ∈ wsX40, w ∈ wsX4_readTerm := fun _ h => (wm_1 (wm_l (wm_l (wm_r h))))
theorem wk_X4_readTerm_X4_readTerm_r1 : ∀ w ∈ wsX4_readTerm_r1, w ∈ wsX4_readTerm := fun _ h => (wm_1 (wm_l (wm_l (wm_l (wm_l h)))))
theorem wk_X4_readTerm_X4_readTerm_r2 : ∀ w ∈ wsX4_readTerm_r2, w ∈ wsX4_readTerm := fun _ h => (wm_1 (wm_l (wm_l (wm_l (wm_r (wm_l h))))))
theorem wk_X4_readTerm_X4_readTerm_r3 : ∀ w ∈ wsX4_readTerm_r3, w ∈ wsX4_readTerm := fun _ h => (wm_1 (wm_l (wm_l (wm_l (wm_r (wm_r (wm_l h)))))))
theorem wk_X4_readTerm_X4_readTerm_r4 : ∀ w ∈ wsX4_readTerm_r4, w ∈ wsX4_readTerm := fun _ h => (wm_1 (wm_l (wm_l (wm_l (wm_r (wm_r (wm_r (wm_l h))))))))
theorem wk_X4_readTerm_X4_readTerm_r5 : ∀ w ∈ wsX4_readTerm_r5, w ∈ wsX4_readTerm := fun _ h => (wm_1 (wm_l (wm_l (wm_l (wm_r (wm_r (wm_r (wm_r (wm_l h)))))))))
theorem wk_X4_readTerm_X4_readTerm_r6 : ∀ w ∈ wsX4_readTerm_r6, w ∈ wsX4_readTerm := fun _ h => (wm_1 (wm_l (wm_l (wm_l (wm_r (wm_r (wm_r (wm_r (wm_r (wm_l h))))))))))
theorem wk_X4_readTerm_X4_readTerm_r7 : ∀ w ∈ wsX4_readTerm_r7, w ∈ wsX4_readTerm := fun _ h => (wm_1 (wm_l (wm_l (wm_l (wm_r (wm_r (wm_r (wm_r (wm_r (wm_r h))))))))))
theorem wk_X4_readTerm_X60 : ∀ w ∈ wsX60, w ∈ wsX4_readTerm := fun _ h => (wm_1 (wm_r h))
theorem wk_X4_readText_X00 : ∀ w ∈ wsX00, w ∈ wsX4_readText := fun _ h => (wm_1 (wm_l (wm_r h)))
theorem wk_X4_readText_X40 : ∀ w ∈ wsX40, w ∈ wsX4_readText := fun _ h => (wm_1 (wm_l (wm_l (wm_r h))))
theorem wk_X4_readText_X4_readText_r1 : ∀ w ∈ wsX4_readText_r1, w ∈ wsX4_readText := fun _ h => (wm_1 (wm_l (wm_l (wm_l (wm_l h)))))
theorem wk_X4_readText_X4_readText_r2 : ∀ w ∈ wsX4_readText_r2, w ∈ wsX4_readText := fun _ h => (wm_1 (wm_l (wm_l (wm_l (wm_r (wm_l h))))))
theorem wk_X4_readText_X4_readText_r3 : ∀ w ∈ wsX4_readText_r3, w ∈ wsX4_readText := fun _ h => (wm_1 (wm_l (wm_l (wm_l (wm_r (wm_r (wm_l h)))))))
theorem wk_X4_readText_X4_readText_r4 : ∀ w ∈ wsX4_readText_r4, w ∈ wsX4_readText := fun _ h => (wm_1 (wm_l (wm_l (wm_l (wm_r (wm_r (wm_r (wm_l h))))))))
theorem wk_X4_readText_X4_readText_r5 : ∀ w ∈ wsX4_readText_r5, w ∈ wsX4_readText := fun _ h => (wm_1 (wm_l (wm_l (wm_l (wm_r (wm_r (wm_r (wm_r (wm_l h)))))))))
theorem wk_X4_readText_X4_readText_r6 : ∀ w ∈ wsX4_readText_r6, w ∈ wsX4_readText := fun _ h => (wm_1 (wm_l (wm_l (wm_l (wm_r (wm_r (wm_r (wm_r (wm_r (wm_l h))))))))))
theorem wk_X4_readText_X4_readText_r7 : ∀ w ∈ wsX4_readText_r7, w ∈ wsX4_readText := fun _ h => (wm_1 (wm_l (wm_l (wm_l (wm_r (wm_r (wm_r (wm_r (wm_r (wm_r h))))))))))
theorem wk_X4_readText_X60 : ∀ w ∈ wsX60, w ∈ wsX4_readText := fun _ h => (wm_1 (wm_r h))
theorem wk_X4_tell_X00 : ∀ w ∈ wsX00, w ∈ wsX4_tell := fun _ h => (wm_1 (wm_l (wm_r h)))
theorem wk_X4_tell_X40 : ∀ w ∈ wsX40, w ∈ wsX4_tell := fun _ h => (wm_1 (wm_l (wm_l (wm_r h))))
theorem wk_X4_tell_X4_tell_r1 : ∀ w ∈ wsX4_tell_r1, w ∈ wsX4_tell := fun _ h => (wm_1 (wm_l (wm_l (wm_l (wm_l h)))))
theorem wk_X4_tell_X4_tell_r2 : ∀ w ∈ wsX4_tell_r2, w ∈ wsX4_tell := fun _ h => (wm_1 (wm_l (wm_l (wm_l (wm_r (wm_l h))))))
theorem wk_X4_tell_X4_tell_r3 : ∀ w ∈ wsX4_tell_r3, w ∈ wsX4_tell := fun _ h => (wm_1 (wm_l (wm_l (wm_l (wm_r (wm_r (wm_l h)))))))
theorem wk_X4_tell_X4_tell_r4 : ∀ w ∈ wsX4_tell_r4, w ∈ wsX4_tell := fun _ h => (wm_1 (wm_l (wm_l (wm_l (wm_r (wm_r (wm_r (wm_l h))))))))
theorem wk_X4_tell_X4_tell_r5 : ∀ w ∈ wsX4_tell_r5, w ∈ wsX4_tell := fun _ h => (wm_1 (wm_l (wm_l (wm_l (wm_r (wm_r (wm_r (wm_r (wm_l h)))))))))
theorem wk_X4_tell_X4_tell_r6 : ∀ w ∈ wsX4_tell_r6, w ∈ wsX4_tell := fun _ h => (wm_1 (wm_l (wm_l (wm_l (wm_r (wm_r (wm_r (wm_r (wm_r (wm_l h))))))))))
theorem wk_X4_tell_X4_tell_r7 : ∀ w ∈ wsX4_tell_r7, w ∈ wsX4_tell := fun _ h => (wm_1 (wm_l (wm_l (wm_l (wm_r (wm_r (wm_r (wm_r (wm_r (wm_r h))))))))))
theorem wk_X4_tell_X60 : ∀ w ∈ wsX60, w ∈ wsX4_tell := fun _ h => (wm_1 (wm_r h))
theorem wk_X5_goodLength_X00 : ∀ w ∈ wsX00, w ∈ wsX5_goodLength := fun _ h => (wm_1 (wm_l (wm_r h)))
theorem wk_X5_goodLength_X50 : ∀ w ∈ wsX50, w ∈ wsX5_goodLength := fun _ h => (wm_1 (wm_l (wm_l (wm_r h))))
theorem wk_X5_goodLength_X5_goodLength_r1 : ∀ w ∈ wsX5_goodLength_r1, w ∈ wsX5_goodLength := fun _ h => (wm_1 (wm_l (wm_l (wm_l (wm_l h)))))
theorem wk_X5_goodLength_X5_goodLength_r2 : ∀ w ∈ wsX5_goodLength_r2, w ∈ wsX5_goodLength := fun _ h => (wm_1 (wm_l (wm_l (wm_l (wm_r (wm_l h))))))
theorem wk_X5_goodLength_X5_goodLength_r3 : ∀ w ∈ wsX5_goodLength_r3, w ∈ wsX5_goodLength := fun _ h => (wm_1 (wm_l (wm_l (wm_l (wm_r (wm_r h))))))
theorem wk_X5_goodLength_X60 : ∀ w ∈ wsX60, w ∈ wsX5_goodLength := fun _ h => (wm_1 (wm_r h))
theorem wk_X5_make_X00 : ∀ w ∈ wsX00, w ∈ wsX5_make := fun _ h => (wm_1 (wm_l (wm_r h)))
theorem wk_X5_make_X50 : ∀ w ∈ wsX50, w ∈ wsX5_make := fun _ h => (wm_1 (wm_l (wm_l (wm_r h))))
theorem wk_X5_make_X5_make_r1 : ∀ w ∈ wsX5_make_r1, w ∈ wsX5_make := fun _ h => (wm_1 (wm_l (wm_l (wm_l (wm_l h)))))
theorem wk_X5_make_X5_make_r2 : ∀ w ∈ wsX5_make_r2, w ∈ wsX5_make := fun _ h => (wm_1 (wm_l (wm_l (wm_l (wm_r (wm_l h))))))
theorem wk_X5_make_X5_make_r3 : ∀ w ∈ wsX5_make_r3, w ∈ wsX5_make := fun _ h => (wm_1 (wm_l (wm_l (wm_l (wm_r (wm_r h))))))
theorem wk_X5_make_X60 : ∀ w ∈ wsX60, w ∈ wsX5_make := fun _ h => (wm_1 (wm_r h))
theorem wk_X6_toldOf_X60 : ∀ w ∈ wsX60, w ∈ wsX6_toldOf := fun _ h => (wm_1 (wm_r h))
theorem wk_X7_add_X7_add_r1 : ∀ w ∈ wsX7_add_r1, w ∈ wsX7_add := fun _ h => (wm_1 (wm_l (wm_l h)))
theorem wk_X7_add_X7_add_r2 : ∀ w ∈ wsX7_add_r2, w ∈ wsX7_add := fun _ h => (wm_1 (wm_l (wm_r h)))
theorem wk_X7_at_X60 : ∀ w ∈ wsX60, w ∈ wsX7_at := fun _ h => (wm_1 (wm_r h))
theorem wk_X7_basis_X00 : ∀ w ∈ wsX00, w ∈ wsX7_basis := fun _ h => (wm_1 (wm_l (wm_l (wm_r h))))
theorem wk_X7_basis_X10 : ∀ w ∈ wsX10, w ∈ wsX7_basis := fun _ h => (wm_1 (wm_l (wm_r h)))
theorem wk_X7_basis_X60 : ∀ w ∈ wsX60, w ∈ wsX7_basis := fun _ h => (wm_1 (wm_r h))
theorem wk_X7_basis_X70 : ∀ w ∈ wsX70, w ∈ wsX7_basis := fun _ h => (wm_1 (wm_l (wm_l (wm_l (wm_r h)))))
theorem wk_X7_basis_X7_basis_r1 : ∀ w ∈ wsX7_basis_r1, w ∈ wsX7_basis := fun _ h => (wm_1 (wm_l (wm_l (wm_l (wm_l (wm_l h))))))
theorem wk_X7_basis_X7_basis_r2 : ∀ w ∈ wsX7_basis_r2, w ∈ wsX7_basis := fun _ h => (wm_1 (wm_l (wm_l (wm_l (wm_l (wm_r (wm_l h)))))))
theorem wk_X7_basis_X7_basis_r3 : ∀ w ∈ wsX7_basis_r3, w ∈ wsX7_basis := fun _ h => (wm_1 (wm_l (wm_l (wm_l (wm_l (wm_r (wm_r h)))))))
theorem wk_X7_bracket_X00 : ∀ w ∈ wsX00, w ∈ wsX7_bracket := fun _ h => (wm_1 (wm_r h))
theorem wk_X7_bracket_X7_bracket_r1 : ∀ w ∈ wsX7_bracket_r1, w ∈ wsX7_bracket := fun _ h => (wm_1 (wm_l (wm_l (wm_l h))))
theorem wk_X7_bracket_X7_bracket_r2 : ∀ w ∈ wsX7_bracket_r2, w ∈ wsX7_bracket := fun _ h => (wm_1 (wm_l (wm_l (wm_r h))))
theorem wk_X7_count_X10 : ∀ w ∈ wsX10, w ∈ wsX7_count := fun _ h => (wm_1 (wm_r h))
theorem wk_X7_count_X60 : ∀ w ∈ wsX60, w ∈ wsX7_count := fun _ h => (wm_1 (wm_l (wm_l (wm_l (wm_l (wm_r h))))))
theorem wk_X7_count_X7_count_r1 : ∀ w ∈ wsX7_count_r1, w ∈ wsX7_count := fun _ h => (wm_1 (wm_l (wm_l (wm_l (wm_l (wm_l (wm_l (wm_l h))))))))
theorem wk_X7_count_X7_count_r2 : ∀ w ∈ wsX7_count_r2, w ∈ wsX7_count := fun _ h => (wm_1 (wm_l (wm_l (wm_l (wm_l (wm_l (wm_l (wm_r h))))))))
theorem wk_X7_derive_X00 : ∀ w ∈ wsX00, w ∈ wsX7_derive := fun _ h => (wm_1 (wm_r h))
theorem wk_X7_derive_X60 : ∀ w ∈ wsX60, w ∈ wsX7_derive := fun _ h => (wm_1 (wm_l (wm_r h)))
theorem wk_X7_derive_X70 : ∀ w ∈ wsX70, w ∈ wsX7_derive := fun _ h => (wm_1 (wm_l (wm_l (wm_r h))))
theorem wk_X7_derive_X7_derive_r1 : ∀ w ∈ wsX7_derive_r1, w ∈ wsX7_derive := fun _ h => (wm_1 (wm_l (wm_l (wm_l (wm_l h)))))
theorem wk_X7_derive_X7_derive_r2 : ∀ w ∈ wsX7_derive_r2, w ∈ wsX7_derive := fun _ h => (wm_1 (wm_l (wm_l (wm_l (wm_r h)))))
theorem wk_X7_exp_X00 : ∀ w ∈ wsX00, w ∈ wsX7_exp := fun _ h => (wm_1 (wm_r h))
theorem wk_X7_exp_X7_exp_r1 : ∀ w ∈ wsX7_exp_r1, w ∈ wsX7_exp := fun _ h => (wm_1 (wm_l (wm_l (wm_l h))))
theorem wk_X7_exp_X7_exp_r2 : ∀ w ∈ wsX7_exp_r2, w ∈ wsX7_exp := fun _ h => (wm_1 (wm_l (wm_l (wm_r h))))
theorem wk_X7_feed_X40 : ∀ w ∈ wsX40, w ∈ wsX7_feed := fun _ h => (wm_1 (wm_r h))
theorem wk_X7_group_X00 : ∀ w ∈ wsX00, w ∈ wsX7_group := fun _ h => (wm_1 (wm_r h))
theorem wk_X7_group_X7_group_r1 : ∀ w ∈ wsX7_group_r1, w ∈ wsX7_group := fun _ h => (wm_1 (wm_l (wm_l (wm_l h))))
theorem wk_X7_group_X7_group_r2 : ∀ w ∈ wsX7_group_r2, w ∈ wsX7_group := fun _ h => (wm_1 (wm_l (wm_l (wm_r (wm_l h)))))
theorem wk_X7_group_X7_group_r3 : ∀ w ∈ wsX7_group_r3, w ∈ wsX7_group := fun _ h => (wm_1 (wm_l (wm_l (wm_r (wm_r h)))))
theorem wk_X7_init_X00 : ∀ w ∈ wsX00, w ∈ wsX7_init := fun _ h => (wm_1 (wm_l (wm_l (wm_l (wm_l (wm_r h))))))
theorem wk_X7_init_X10 : ∀ w ∈ wsX10, w ∈ wsX7_init := fun _ h => (wm_1 (wm_l (wm_l (wm_l (wm_r h)))))
theorem wk_X7_init_X20 : ∀ w ∈ wsX20, w ∈ wsX7_init := fun _ h => (wm_1 (wm_l (wm_r h)))
theorem wk_X7_init_X40 : ∀ w ∈ wsX40, w ∈ wsX7_init := fun _ h => (wm_1 (wm_r h))
theorem wk_X7_init_X50 : ∀ w ∈ wsX50, w ∈ wsX7_init := fun _ h => (wm_1 (wm_l (wm_l (wm_r h))))
theorem wk_X7_init_X60 : ∀ w ∈ wsX60, w ∈ wsX7_init := fun _ h => (wm_1 (wm_l (wm_l (wm_l (wm_l (wm_l (wm_l (wm_r h))))))))
theorem wk_X7_init_X7_init_r1 : ∀ w ∈ wsX7_init_r1, w ∈ wsX7_init := fun _ h => (wm_1 (wm_l (wm_l (wm_l (wm_l (wm_l (wm_l (wm_l (wm_l h)))))))))
theorem wk_X7_init_X7_init_r2 : ∀ w ∈ wsX7_init_r2, w ∈ wsX7_init := fun _ h => (wm_1 (wm_l (wm_l (wm_l (wm_l (wm_l (wm_l (wm_l (wm_r (wm_l h))))))))))
theorem wk_X7_init_X7_init_r3 : ∀ w ∈ wsX7_init_r3, w ∈ wsX7_init := fun _ h => (wm_1 (wm_l (wm_l (wm_l (wm_l (wm_l (wm_l (wm_l (wm_r (wm_r (wm_l h)))))))))))
theorem wk_X7_init_X7_init_r4 : ∀ w ∈ wsX7_init_r4, w ∈ wsX7_init := fun _ h => (wm_1 (wm_l (wm_l (wm_l (wm_l (wm_l (wm_l (wm_l (wm_r (wm_r (wm_r (wm_l h))))))))))))
theorem wk_X7_init_X7_init_r5 : ∀ w ∈ wsX7_init_r5, w ∈ wsX7_init := fun _ h => (wm_1 (wm_l (wm_l (wm_l (wm_l (wm_l (wm_l (wm_l (wm_r (wm_r (wm_r (wm_r (wm_l h)))))))))))))
theorem wk_X7_init_X7_init_r6 : ∀ w ∈ wsX7_init_r6, w ∈ wsX7_init := fun _ h => (wm_1 (wm_l (wm_l (wm_l (wm_l (wm_l (wm_l (wm_l (wm_r (wm_r (wm_r (wm_r (wm_r (wm_l h))))))))))))))
theorem wk_X7_init_X7_init_r7 : ∀ w ∈ wsX7_init_r7, w ∈ wsX7_init := fun _ h => (wm_1 (wm_l (wm_l (wm_l (wm_l (wm_l (wm_l (wm_l (wm_r (wm_r (wm_r (wm_r (wm_r (wm_r (wm_l h)))))))))))))))
theorem wk_X7_init_X7_init_r8 : ∀ w ∈ wsX7_init_r8, w ∈ wsX7_init := fun _ h => (wm_1 (wm_l (wm_l (wm_l (wm_l (wm_l (wm_l (wm_l (wm_r (wm_r (wm_r (wm_r (wm_r (wm_r (wm_r h)))))))))))))))
theorem wk_X7_inverse_X00 : ∀ w ∈ wsX00, w ∈ wsX7_inverse := fun _ h => (wm_1 (wm_r h))
theorem wk_X7_inverse_X7_inverse_r1 : ∀ w ∈ wsX7_inverse_r1, w ∈ wsX7_inverse := fun _ h => (wm_1 (wm_l (wm_l (wm_l h))))
theorem wk_X7_inverse_X7_inverse_r2 : ∀ w ∈ wsX7_inverse_r2, w ∈ wsX7_inverse := fun _ h => (wm_1 (wm_l (wm_l (wm_r h))))
theorem wk_X7_lie_X00 : ∀ w ∈ wsX00, w ∈ wsX7_lie := fun _ h => (wm_1 (wm_r h))
theorem wk_X7_lie_X7_lie_r1 : ∀ w ∈ wsX7_lie_r1, w ∈ wsX7_lie := fun _ h => (wm_1 (wm_l (wm_l (wm_l h))))
theorem wk_X7_lie_X7_lie_r2 : ∀ w ∈ wsX7_lie_r2, w ∈ wsX7_lie := fun _ h => (wm_1 (wm_l (wm_l (wm_r h))))
theorem wk_X7_log_X00 : ∀ w ∈ wsX00, w ∈ wsX7_log := fun _ h => (wm_1 (wm_r h))
theorem wk_X7_log_X7_log_r1 : ∀ w ∈ wsX7_log_r1, w ∈ wsX7_log := fun _ h => (wm_1 (wm_l (wm_l (wm_l h))))
theorem wk_X7_log_X7_log_r2 : ∀ w ∈ wsX7_log_r2, w ∈ wsX7_log := fun _ h => (wm_1 (wm_l (wm_l (wm_r h))))
theorem wk_X7_lyndon_X10 : ∀ w ∈ wsX10, w ∈ wsX7_lyndon := fun _ h => (wm_1 (wm_l (wm_r h)))
theorem wk_X7_lyndon_X60 : ∀ w ∈ wsX60, w ∈ wsX7_lyndon := fun _ h => (wm_1 (wm_r h))
theorem wk_X7_lyndon_X70 : ∀ w ∈ wsX70, w ∈ wsX7_lyndon := fun _ h => (wm_1 (wm_l (wm_l (wm_r h))))
theorem wk_X7_lyndon_X7_lyndon_r1 : ∀ w ∈ wsX7_lyndon_r1, w ∈ wsX7_lyndon := fun _ h => (wm_1 (wm_l (wm_l (wm_l (wm_l h)))))
theorem wk_X7_lyndon_X7_lyndon_r2 : ∀ w ∈ wsX7_lyndon_r2, w ∈ wsX7_lyndon := fun _ h => (wm_1 (wm_l (wm_l (wm_l (wm_r h)))))
theorem wk_X7_lyndons_X10 : ∀ w ∈ wsX10, w ∈ wsX7_lyndons := fun _ h => (wm_1 (wm_r h))
theorem wk_X7_noChief_X10 : ∀ w ∈ wsX10, w ∈ wsX7_noChief := fun _ h => (wm_1 (wm_l (wm_r h)))
theorem wk_X7_noChief_X60 : ∀ w ∈ wsX60, w ∈ wsX7_noChief := fun _ h => (wm_1 (wm_r h))
theorem wk_X7_order_X00 : ∀ w ∈ wsX00, w ∈ wsX7_order := fun _ h => (wm_1 (wm_l (wm_r h)))
theorem wk_X7_order_X50 : ∀ w ∈ wsX50, w ∈ wsX7_order := fun _ h => (wm_1 (wm_l (wm_l (wm_r h))))
theorem wk_X7_order_X60 : ∀ w ∈ wsX60, w ∈ wsX7_order := fun _ h => (wm_1 (wm_r h))
theorem wk_X7_order_X7_order_r1 : ∀ w ∈ wsX7_order_r1, w ∈ wsX7_order := fun _ h => (wm_1 (wm_l (wm_l (wm_l (wm_l (wm_l h))))))
theorem wk_X7_order_X7_order_r2 : ∀ w ∈ wsX7_order_r2, w ∈ wsX7_order := fun _ h => (wm_1 (wm_l (wm_l (wm_l (wm_l (wm_r (wm_l h)))))))
theorem wk_X7_order_X7_order_r3 : ∀ w ∈ wsX7_order_r3, w ∈ wsX7_order := fun _ h => (wm_1 (wm_l (wm_l (wm_l (wm_l (wm_r (wm_r (wm_l h))))))))
theorem wk_X7_order_X7_order_r4 : ∀ w ∈ wsX7_order_r4, w ∈ wsX7_order := fun _ h => (wm_1 (wm_l (wm_l (wm_l (wm_l (wm_r (wm_r (wm_r h))))))))
theorem wk_X7_part_X00 : ∀ w ∈ wsX00, w ∈ wsX7_part := fun _ h => (wm_1 (wm_r h))
theorem wk_X7_put_X60 : ∀ w ∈ wsX60, w ∈ wsX7_put := fun _ h => (wm_1 (wm_r h))
theorem wk_X7_put_X7_put_r1 : ∀ w ∈ wsX7_put_r1, w ∈ wsX7_put := fun _ h => (wm_1 (wm_l (wm_l (wm_l h))))
theorem wk_X7_put_X7_put_r2 : ∀ w ∈ wsX7_put_r2, w ∈ wsX7_put := fun _ h => (wm_1 (wm_l (wm_l (wm_r h))))
theorem wk_X7_read_X00 : ∀ w ∈ wsX00, w ∈ wsX7_read := fun _ h => (wm_1 (wm_l (wm_r h)))
theorem wk_X7_read_X40 : ∀ w ∈ wsX40, w ∈ wsX7_read := fun _ h => (wm_1 (wm_l (wm_l (wm_r h))))
theorem wk_X7_read_X60 : ∀ w ∈ wsX60, w ∈ wsX7_read := fun _ h => (wm_1 (wm_r h))
theorem wk_X7_read_X7_read_r1 : ∀ w ∈ wsX7_read_r1, w ∈ wsX7_read := fun _ h => (wm_1 (wm_l (wm_l (wm_l (wm_l (wm_l h))))))
theorem wk_X7_read_X7_read_r2 : ∀ w ∈ wsX7_read_r2, w ∈ wsX7_read := fun _ h => (wm_1 (wm_l (wm_l (wm_l (wm_l (wm_r (wm_l h)))))))
theorem wk_X7_read_X7_read_r3 : ∀ w ∈ wsX7_read_r3, w ∈ wsX7_read := fun _ h => (wm_1 (wm_l (wm_l (wm_l (wm_l (wm_r (wm_r (wm_l h))))))))
theorem wk_X7_read_X7_read_r4 : ∀ w ∈ wsX7_read_r4, w ∈ wsX7_read := fun _ h => (wm_1 (wm_l (wm_l (wm_l (wm_l (wm_r (wm_r (wm_r (wm_l h)))))))))
theorem wk_X7_read_X7_read_r5 : ∀ w ∈ wsX7_read_r5, w ∈ wsX7_read := fun _ h => (wm_1 (wm_l (wm_l (wm_l (wm_l (wm_r (wm_r (wm_r (wm_r (wm_l h))))))))))
theorem wk_X7_read_X7_read_r6 : ∀ w ∈ wsX7_read_r6, w ∈ wsX7_read := fun _ h => (wm_1 (wm_l (wm_l (wm_l (wm_l (wm_r (wm_r (wm_r (wm_r (wm_r (wm_l h)))))))))))
theorem wk_X7_read_X7_read_r7 : ∀ w ∈ wsX7_read_r7, w ∈ wsX7_read := fun _ h => (wm_1 (wm_l (wm_l (wm_l (wm_l (wm_r (wm_r (wm_r (wm_r (wm_r (wm_r h)))))))))))
theorem wk_X7_relate_X00 : ∀ w ∈ wsX00, w ∈ wsX7_relate := fun _ h => (wm_1 (wm_l (wm_l (wm_r h))))
theorem wk_X7_relate_X10 : ∀ w ∈ wsX10, w ∈ wsX7_relate := fun _ h => (wm_1 (wm_r h))
theorem wk_X7_relate_X20 : ∀ w ∈ wsX20, w ∈ wsX7_relate := fun _ h => (wm_1 (wm_l (wm_l (wm_l (wm_r h)))))
theorem wk_X7_relate_X60 : ∀ w ∈ wsX60, w ∈ wsX7_relate := fun _ h => (wm_1 (wm_l (wm_r h)))
theorem wk_X7_relate_X7_relate_r1 : ∀ w ∈ wsX7_relate_r1, w ∈ wsX7_relate := fun _ h => (wm_1 (wm_l (wm_l (wm_l (wm_l (wm_l (wm_l h)))))))
theorem wk_X7_relate_X7_relate_r2 : ∀ w ∈ wsX7_relate_r2, w ∈ wsX7_relate := fun _ h => (wm_1 (wm_l (wm_l (wm_l (wm_l (wm_l (wm_r (wm_l h))))))))
theorem wk_X7_relate_X7_relate_r3 : ∀ w ∈ wsX7_relate_r3, w ∈ wsX7_relate := fun _ h => (wm_1 (wm_l (wm_l (wm_l (wm_l (wm_l (wm_r (wm_r (wm_l h)))))))))
theorem wk_X7_relate_X7_relate_r4 : ∀ w ∈ wsX7_relate_r4, w ∈ wsX7_relate := fun _ h => (wm_1 (wm_l (wm_l (wm_l (wm_l (wm_l (wm_r (wm_r (wm_r (wm_l h))))))))))
theorem wk_X7_relate_X7_relate_r5 : ∀ w ∈ wsX7_relate_r5, w ∈ wsX7_relate := fun _ h => (wm_1 (wm_l (wm_l (wm_l (wm_l (wm_l (wm_r (wm_r (wm_r (wm_r h))))))))))
theorem wk_X7_replace_X00 : ∀ w ∈ wsX00, w ∈ wsX7_replace := fun _ h => (wm_1 (wm_r h))
theorem wk_X7_replace_X60 : ∀ w ∈ wsX60, w ∈ wsX7_replace := fun _ h => (wm_1 (wm_l (wm_r h)))
theorem wk_X7_replace_X70 : ∀ w ∈ wsX70, w ∈ wsX7_replace := fun _ h => (wm_1 (wm_l (wm_l (wm_r h))))
theorem wk_X7_replace_X7_replace_r1 : ∀ w ∈ wsX7_replace_r1, w ∈ wsX7_replace := fun _ h => (wm_1 (wm_l (wm_l (wm_l (wm_l h)))))
theorem wk_X7_replace_X7_replace_r2 : ∀ w ∈ wsX7_replace_r2, w ∈ wsX7_replace := fun _ h => (wm_1 (wm_l (wm_l (wm_l (wm_r (wm_l h))))))
theorem wk_X7_replace_X7_replace_r3 : ∀ w ∈ wsX7_replace_r3, w ∈ wsX7_replace := fun _ h => (wm_1 (wm_l (wm_l (wm_l (wm_r (wm_r h))))))
theorem wk_X7_scheme_X00 : ∀ w ∈ wsX00, w ∈ wsX7_scheme := fun _ h => (wm_1 (wm_l (wm_r h)))
theorem wk_X7_scheme_X50 : ∀ w ∈ wsX50, w ∈ wsX7_scheme := fun _ h => (wm_1 (wm_l (wm_l (wm_r h))))
theorem wk_X7_scheme_X60 : ∀ w ∈ wsX60, w ∈ wsX7_scheme := fun _ h => (wm_1 (wm_r h))
theorem wk_X7_scheme_X7_scheme_r1 : ∀ w ∈ wsX7_scheme_r1, w ∈ wsX7_scheme := fun _ h => (wm_1 (wm_l (wm_l (wm_l (wm_l (wm_l h))))))
theorem wk_X7_scheme_X7_scheme_r2 : ∀ w ∈ wsX7_scheme_r2, w ∈ wsX7_scheme := fun _ h => (wm_1 (wm_l (wm_l (wm_l (wm_l (wm_r (wm_l h)))))))
theorem wk_X7_scheme_X7_scheme_r3 : ∀ w ∈ wsX7_scheme_r3, w ∈ wsX7_scheme := fun _ h => (wm_1 (wm_l (wm_l (wm_l (wm_l (wm_r (wm_r (wm_l h))))))))
theorem wk_X7_scheme_X7_scheme_r4 : ∀ w ∈ wsX7_scheme_r4, w ∈ wsX7_scheme := fun _ h => (wm_1 (wm_l (wm_l (wm_l (wm_l (wm_r (wm_r (wm_r h))))))))
theorem wk_X7_share_X00 : ∀ w ∈ wsX00, w ∈ wsX7_share := fun _ h => (wm_1 (wm_l (wm_l (wm_r h))))
theorem wk_X7_share_X10 : ∀ w ∈ wsX10, w ∈ wsX7_share := fun _ h => (wm_1 (wm_r h))
theorem wk_X7_share_X60 : ∀ w ∈ wsX60, w ∈ wsX7_share := fun _ h => (wm_1 (wm_l (wm_r h)))
theorem wk_X7_share_X7_share_r1 : ∀ w ∈ wsX7_share_r1, w ∈ wsX7_share := fun _ h => (wm_1 (wm_l (wm_l (wm_l (wm_l (wm_l h))))))
theorem wk_X7_share_X7_share_r2 : ∀ w ∈ wsX7_share_r2, w ∈ wsX7_share := fun _ h => (wm_1 (wm_l (wm_l (wm_l (wm_l (wm_r (wm_l h)))))))
theorem wk_X7_share_X7_share_r3 : ∀ w ∈ wsX7_share_r3, w ∈ wsX7_share := fun _ h => (wm_1 (wm_l (wm_l (wm_l (wm_l (wm_r (wm_r (wm_l h))))))))
theorem wk_X7_share_X7_share_r4 : ∀ w ∈ wsX7_share_r4, w ∈ wsX7_share := fun _ h => (wm_1 (wm_l (wm_l (wm_l (wm_l (wm_r (wm_r (wm_r (wm_l h)))))))))
theorem wk_X7_share_X7_share_r5 : ∀ w ∈ wsX7_share_r5, w ∈ wsX7_share := fun _ h => (wm_1 (wm_l (wm_l (wm_l (wm_l (wm_r (wm_r (wm_r (wm_r h)))))))))
theorem wk_X7_shuffle_X00 : ∀ w ∈ wsX00, w ∈ wsX7_shuffle := fun _ h => (wm_1 (wm_r h))
theorem wk_X7_shuffle_X7_shuffle_r1 : ∀ w ∈ wsX7_shuffle_r1, w ∈ wsX7_shuffle := fun _ h => (wm_1 (wm_l (wm_l (wm_l h))))
theorem wk_X7_shuffle_X7_shuffle_r2 : ∀ w ∈ wsX7_shuffle_r2, w ∈ wsX7_shuffle := fun _ h => (wm_1 (wm_l (wm_l (wm_r h))))
theorem wk_X7_side_X10 : ∀ w ∈ wsX10, w ∈ wsX7_side := fun _ h => (wm_1 (wm_l (wm_r h)))
theorem wk_X7_side_X60 : ∀ w ∈ wsX60, w ∈ wsX7_side := fun _ h => (wm_1 (wm_r h))
theorem wk_X7_side_X70 : ∀ w ∈ wsX70, w ∈ wsX7_side := fun _ h => (wm_1 (wm_l (wm_l (wm_r h))))
theorem wk_X7_size_X10 : ∀ w ∈ wsX10, w ∈ wsX7_size := fun _ h => (wm_1 (wm_r h))
theorem wk_X7_step_X50 : ∀ w ∈ wsX50, w ∈ wsX7_step := fun _ h => (wm_1 (wm_l (wm_r h)))
theorem wk_X7_step_X60 : ∀ w ∈ wsX60, w ∈ wsX7_step := fun _ h => (wm_1 (wm_r h))
theorem wk_X7_step_X70 : ∀ w ∈ wsX70, w ∈ wsX7_step := fun _ h => (wm_1 (wm_l (wm_l (wm_r h))))
theorem wk_X7_step_X7_step_r1 : ∀ w ∈ wsX7_step_r1, w ∈ wsX7_step := fun _ h => (wm_1 (wm_l (wm_l (wm_l (wm_l h)))))
theorem wk_X7_step_X7_step_r2 : ∀ w ∈ wsX7_step_r2, w ∈ wsX7_step := fun _ h => (wm_1 (wm_l (wm_l (wm_l (wm_r h)))))
theorem wk_X7_table_X00 : ∀ w ∈ wsX00, w ∈ wsX7_table := fun _ h => (wm_1 (wm_r h))
theorem wk_X7_table_X10 : ∀ w ∈ wsX10, w ∈ wsX7_table := fun _ h => (wm_1 (wm_l (wm_l (wm_r h))))
theorem wk_X7_table_X60 : ∀ w ∈ wsX60, w ∈ wsX7_table := fun _ h => (wm_1 (wm_l (wm_r h)))
theorem wk_X7_table_X70 : ∀ w ∈ wsX70, w ∈ wsX7_table := fun _ h => (wm_1 (wm_l (wm_l (wm_l (wm_r h)))))
theorem wk_X7_table_X7_table_r1 : ∀ w ∈ wsX7_table_r1, w ∈ wsX7_table := fun _ h => (wm_1 (wm_l (wm_l (wm_l (wm_l (wm_l h))))))
theorem wk_X7_table_X7_table_r2 : ∀ w ∈ wsX7_table_r2, w ∈ wsX7_table := fun _ h => (wm_1 (wm_l (wm_l (wm_l (wm_l (wm_r (wm_l h)))))))
theorem wk_X7_table_X7_table_r3 : ∀ w ∈ wsX7_table_r3, w ∈ wsX7_table := fun _ h => (wm_1 (wm_l (wm_l (wm_l (wm_l (wm_r (wm_r (wm_l h))))))))
theorem wk_X7_table_X7_table_r4 : ∀ w ∈ wsX7_table_r4, w ∈ wsX7_table := fun _ h => (wm_1 (wm_l (wm_l (wm_l (wm_l (wm_r (wm_r (wm_r (wm_l h)))))))))
theorem wk_X7_table_X7_table_r5 : ∀ w ∈ wsX7_table_r5, w ∈ wsX7_table := fun _ h => (wm_1 (wm_l (wm_l (wm_l (wm_l (wm_r (wm_r (wm_r (wm_r (wm_l h))))))))))
theorem wk_X7_table_X7_table_r6 : ∀ w ∈ wsX7_table_r6, w ∈ wsX7_table := fun _ h => (wm_1 (wm_l (wm_l (wm_l (wm_l (wm_r (wm_r (wm_r (wm_r (wm_r h))))))))))
theorem wk_X7_text_X10 : ∀ w ∈ wsX10, w ∈ wsX7_text := fun _ h => (wm_1 (wm_l (wm_r h)))
theorem wk_X7_text_X60 : ∀ w ∈ wsX60, w ∈ wsX7_text := fun _ h => (wm_1 (wm_r h))
theorem wk_X7_text_X70 : ∀ w ∈ wsX70, w ∈ wsX7_text := fun _ h => (wm_1 (wm_l (wm_l (wm_r h))))
theorem wk_X7_text_X7_text_r1 : ∀ w ∈ wsX7_text_r1, w ∈ wsX7_text := fun _ h => (wm_1 (wm_l (wm_l (wm_l (wm_l h)))))
theorem wk_X7_text_X7_text_r2 : ∀ w ∈ wsX7_text_r2, w ∈ wsX7_text := fun _ h => (wm_1 (wm_l (wm_l (wm_l (wm_r h)))))
theorem wk_X7_times_X00 : ∀ w ∈ wsX00, w ∈ wsX7_times := fun _ h => (wm_1 (wm_r h))
theorem wk_X7_times_X7_times_r1 : ∀ w ∈ wsX7_times_r1, w ∈ wsX7_times := fun _ h => (wm_1 (wm_l (wm_l (wm_l h))))
theorem wk_X7_times_X7_times_r2 : ∀ w ∈ wsX7_times_r2, w ∈ wsX7_times := fun _ h => (wm_1 (wm_l (wm_l (wm_r h))))
theorem wk_X7_turn_X00 : ∀ w ∈ wsX00, w ∈ wsX7_turn := fun _ h => (wm_1 (wm_l (wm_r h)))
theorem wk_X7_turn_X60 : ∀ w ∈ wsX60, w ∈ wsX7_turn := fun _ h => (wm_1 (wm_r h))
theorem wk_X7_turn_X7_turn_r1 : ∀ w ∈ wsX7_turn_r1, w ∈ wsX7_turn := fun _ h => (wm_1 (wm_l (wm_l (wm_l (wm_l h)))))
theorem wk_X7_turn_X7_turn_r2 : ∀ w ∈ wsX7_turn_r2, w ∈ wsX7_turn := fun _ h => (wm_1 (wm_l (wm_l (wm_l (wm_r h)))))
theorem wk_X7_unstep_X50 : ∀ w ∈ wsX50, w ∈ wsX7_unstep := fun _ h => (wm_1 (wm_r h))
set_option maxRecDepth 20000 in
theorem gd_X0_amass : wsX0_amass.all goodWord = true := by decide +kernel
set_option maxRecDepth 20000 in
theorem gd_X0_commute : wsX0_commute.all goodWord = true := by decide +kernel
set_option maxRecDepth 20000 in
theorem gd_X0_compose : wsX0_compose.all goodWord = true := by decide +kernel
set_option maxRecDepth 20000 in
theorem gd_X0_copy : wsX0_copy.all goodWord = true := by decide +kernel
set_option maxRecDepth 20000 in
theorem gd_X0_gather : wsX0_gather.all goodWord = true := by decide +kernel
set_option maxRecDepth 20000 in
theorem gd_X0_gatherAhead : wsX0_gatherAhead.all goodWord = true := by decide +kernel
set_option maxRecDepth 20000 in
theorem gd_X0_init : wsX0_init.all goodWord = true := by decide +kernel
set_option maxRecDepth 20000 in
theorem gd_X0_inner : wsX0_inner.all goodWord = true := by decide +kernel
set_option maxRecDepth 20000 in
theorem gd_X0_interleave : wsX0_interleave.all goodWord = true := by decide +kernel
set_option maxRecDepth 20000 in
theorem gd_X0_invert : wsX0_invert.all goodWord = true := by decide +kernel
set_option maxRecDepth 20000 in
theorem gd_X0_isLie : wsX0_isLie.all goodWord = true := by decide +kernel
set_option maxRecDepth 20000 in
theorem gd_X0_isLieAt : wsX0_isLieAt.all goodWord = true := by decide +kernel
set_option maxRecDepth 20000 in
theorem gd_X0_isNought : wsX0_isNought.all goodWord = true := by decide +kernel
set_option maxRecDepth 20000 in
theorem gd_X0_keepLength : wsX0_keepLength.all goodWord = true := by decide +kernel
set_option maxRecDepth 20000 in
theorem gd_X0_lastAhead : wsX0_lastAhead.all goodWord = true := by decide +kernel
set_option maxRecDepth 20000 in
theorem gd_X0_mingle : wsX0_mingle.all goodWord = true := by decide +kernel
set_option maxRecDepth 20000 in
theorem gd_X0_mingleWord : wsX0_mingleWord.all goodWord = true := by decide +kernel
set_option maxRecDepth 20000 in
theorem gd_X0_multiply : wsX0_multiply.all goodWord = true := by decide +kernel
set_option maxRecDepth 20000 in
theorem gd_X0_multiplyByLetter : wsX0_multiplyByLetter.all goodWord = true := by decide +kernel
set_option maxRecDepth 20000 in
theorem gd_X0_onlyLength : wsX0_onlyLength.all goodWord = true := by decide +kernel
set_option maxRecDepth 20000 in
theorem gd_X0_raise : wsX0_raise.all goodWord = true := by decide +kernel
set_option maxRecDepth 20000 in
theorem gd_X0_scale : wsX0_scale.all goodWord = true := by decide +kernel
set_option maxRecDepth 20000 in
theorem gd_X0_setBehind : wsX0_setBehind.all goodWord = true := by decide +kernel
set_option maxRecDepth 20000 in
theorem gd_X0_setInAll : wsX0_setInAll.all goodWord = true := by decide +kernel
set_option maxRecDepth 20000 in
theorem gd_X0_setInEach : wsX0_setInEach.all goodWord = true := by decide +kernel
set_option maxRecDepth 20000 in
theorem gd_X0_setInOne : wsX0_setInOne.all goodWord = true := by decide +kernel
set_option maxRecDepth 20000 in
theorem gd_X0_setToUnit : wsX0_setToUnit.all goodWord = true := by decide +kernel
set_option maxRecDepth 20000 in
theorem gd_X0_turnAbout : wsX0_turnAbout.all goodWord = true := by decide +kernel
set_option maxRecDepth 20000 in
theorem gd_X0_unraise : wsX0_unraise.all goodWord = true := by decide +kernel
set_option maxRecDepth 20000 in
theorem gd_X1_all : wsX1_all.all goodWord = true := by decide +kernel
set_option maxRecDepth 20000 in
theorem gd_X1_findChiefs : wsX1_findChiefs.all goodWord = true := by decide +kernel
set_option maxRecDepth 20000 in
theorem gd_X1_findSides : wsX1_findSides.all goodWord = true := by decide +kernel
set_option maxRecDepth 20000 in
theorem gd_X1_headLength : wsX1_headLength.all goodWord = true := by decide +kernel
set_option maxRecDepth 20000 in
theorem gd_X1_headTimes : wsX1_headTimes.all goodWord = true := by decide +kernel
set_option maxRecDepth 20000 in
theorem gd_X1_init : wsX1_init.all goodWord = true := by decide +kernel
set_option maxRecDepth 20000 in
theorem gd_X1_measure : wsX1_measure.all goodWord = true := by decide +kernel
set_option maxRecDepth 20000 in
theorem gd_X1_measureSpelled : wsX1_measureSpelled.all goodWord = true := by decide +kernel
set_option maxRecDepth 20000 in
theorem gd_X1_ofLength : wsX1_ofLength.all goodWord = true := by decide +kernel
set_option maxRecDepth 20000 in
theorem gd_X1_setAhead : wsX1_setAhead.all goodWord = true := by decide +kernel
set_option maxRecDepth 20000 in
theorem gd_X1_shareInBracket : wsX1_shareInBracket.all goodWord = true := by decide +kernel
set_option maxRecDepth 20000 in
theorem gd_X1_spell : wsX1_spell.all goodWord = true := by decide +kernel
set_option maxRecDepth 20000 in
theorem gd_X1_weave : wsX1_weave.all goodWord = true := by decide +kernel
set_option maxRecDepth 20000 in
theorem gd_X1_written : wsX1_written.all goodWord = true := by decide +kernel
set_option maxRecDepth 20000 in
theorem gd_X1_writtenLength : wsX1_writtenLength.all goodWord = true := by decide +kernel
set_option maxRecDepth 20000 in
theorem gd_X2_bracketToHand : wsX2_bracketToHand.all goodWord = true := by decide +kernel
set_option maxRecDepth 20000 in
theorem gd_X2_enact : wsX2_enact.all goodWord = true := by decide +kernel
set_option maxRecDepth 20000 in
theorem gd_X2_init : wsX2_init.all goodWord = true := by decide +kernel
set_option maxRecDepth 20000 in
theorem gd_X2_keep : wsX2_keep.all goodWord = true := by decide +kernel
set_option maxRecDepth 20000 in
theorem gd_X2_settle : wsX2_settle.all goodWord = true := by decide +kernel
set_option maxRecDepth 20000 in
theorem gd_X2_strip : wsX2_strip.all goodWord = true := by decide +kernel
set_option maxRecDepth 20000 in
theorem gd_X4_append : wsX4_append.all goodWord = true := by decide +kernel
set_option maxRecDepth 20000 in
theorem gd_X4_beginsFactor : wsX4_beginsFactor.all goodWord = true := by decide +kernel
set_option maxRecDepth 20000 in
theorem gd_X4_goesOn : wsX4_goesOn.all goodWord = true := by decide +kernel
set_option maxRecDepth 20000 in
theorem gd_X4_hand : wsX4_hand.all goodWord = true := by decide +kernel
set_option maxRecDepth 20000 in
theorem gd_X4_init : wsX4_init.all goodWord = true := by decide +kernel
set_option maxRecDepth 20000 in
theorem gd_X4_isDigit : wsX4_isDigit.all goodWord = true := by decide +kernel
set_option maxRecDepth 20000 in
theorem gd_X4_isLetter : wsX4_isLetter.all goodWord = true := by decide +kernel
set_option maxRecDepth 20000 in
theorem gd_X4_leftOf : wsX4_leftOf.all goodWord = true := by decide +kernel
set_option maxRecDepth 20000 in
theorem gd_X4_opens : wsX4_opens.all goodWord = true := by decide +kernel
set_option maxRecDepth 20000 in
theorem gd_X4_readBracket : wsX4_readBracket.all goodWord = true := by decide +kernel
set_option maxRecDepth 20000 in
theorem gd_X4_readDivisor : wsX4_readDivisor.all goodWord = true := by decide +kernel
set_option maxRecDepth 20000 in
theorem gd_X4_readFactor : wsX4_readFactor.all goodWord = true := by decide +kernel
set_option maxRecDepth 20000 in
theorem gd_X4_readNumber : wsX4_readNumber.all goodWord = true := by decide +kernel
set_option maxRecDepth 20000 in
theorem gd_X4_readRound : wsX4_readRound.all goodWord = true := by decide +kernel
set_option maxRecDepth 20000 in
theorem gd_X4_readSum : wsX4_readSum.all goodWord = true := by decide +kernel
set_option maxRecDepth 20000 in
theorem gd_X4_readTerm : wsX4_readTerm.all goodWord = true := by decide +kernel
set_option maxRecDepth 20000 in
theorem gd_X4_readText : wsX4_readText.all goodWord = true := by decide +kernel
set_option maxRecDepth 20000 in
theorem gd_X4_tell : wsX4_tell.all goodWord = true := by decide +kernel
set_option maxRecDepth 20000 in
theorem gd_X4_termOf : wsX4_termOf.all goodWord = true := by decide +kernel
set_option maxRecDepth 20000 in
theorem gd_X4_wholeOf : wsX4_wholeOf.all goodWord = true := by decide +kernel
set_option maxRecDepth 20000 in
theorem gd_X5_append : wsX5_append.all goodWord = true := by decide +kernel
set_option maxRecDepth 20000 in
theorem gd_X5_forget : wsX5_forget.all goodWord = true := by decide +kernel
set_option maxRecDepth 20000 in
theorem gd_X5_goodLength : wsX5_goodLength.all goodWord = true := by decide +kernel
set_option maxRecDepth 20000 in
theorem gd_X5_init : wsX5_init.all goodWord = true := by decide +kernel
set_option maxRecDepth 20000 in
theorem gd_X5_make : wsX5_make.all goodWord = true := by decide +kernel
set_option maxRecDepth 20000 in
theorem gd_X5_raiseLetter : wsX5_raiseLetter.all goodWord = true := by decide +kernel
set_option maxRecDepth 20000 in
theorem gd_X6_all : wsX6_all.all goodWord = true := by decide +kernel
set_option maxRecDepth 20000 in
theorem gd_X6_backward : wsX6_backward.all goodWord = true := by decide +kernel
set_option maxRecDepth 20000 in
theorem gd_X6_init : wsX6_init.all goodWord = true := by decide +kernel
set_option maxRecDepth 20000 in
theorem gd_X6_lengthOf : wsX6_lengthOf.all goodWord = true := by decide +kernel
set_option maxRecDepth 20000 in
theorem gd_X6_placeOf : wsX6_placeOf.all goodWord = true := by decide +kernel
set_option maxRecDepth 20000 in
theorem gd_X6_toldOf : wsX6_toldOf.all goodWord = true := by decide +kernel
set_option maxRecDepth 20000 in
theorem gd_X7_add : wsX7_add.all goodWord = true := by decide +kernel
set_option maxRecDepth 20000 in
theorem gd_X7_at : wsX7_at.all goodWord = true := by decide +kernel
set_option maxRecDepth 20000 in
theorem gd_X7_basis : wsX7_basis.all goodWord = true := by decide +kernel
set_option maxRecDepth 20000 in
theorem gd_X7_bracket : wsX7_bracket.all goodWord = true := by decide +kernel
set_option maxRecDepth 20000 in
theorem gd_X7_clear : wsX7_clear.all goodWord = true := by decide +kernel
set_option maxRecDepth 20000 in
theorem gd_X7_count : wsX7_count.all goodWord = true := by decide +kernel
set_option maxRecDepth 20000 in
theorem gd_X7_derive : wsX7_derive.all goodWord = true := by decide +kernel
set_option maxRecDepth 20000 in
theorem gd_X7_exp : wsX7_exp.all goodWord = true := by decide +kernel
set_option maxRecDepth 20000 in
theorem gd_X7_feed : wsX7_feed.all goodWord = true := by decide +kernel
set_option maxRecDepth 20000 in
theorem gd_X7_fraction : wsX7_fraction.all goodWord = true := by decide +kernel
set_option maxRecDepth 20000 in
theorem gd_X7_group : wsX7_group.all goodWord = true := by decide +kernel
set_option maxRecDepth 20000 in
theorem gd_X7_init : wsX7_init.all goodWord = true := by decide +kernel
set_option maxRecDepth 20000 in
theorem gd_X7_inverse : wsX7_inverse.all goodWord = true := by decide +kernel
set_option maxRecDepth 20000 in
theorem gd_X7_lie : wsX7_lie.all goodWord = true := by decide +kernel
set_option maxRecDepth 20000 in
theorem gd_X7_log : wsX7_log.all goodWord = true := by decide +kernel
set_option maxRecDepth 20000 in
theorem gd_X7_lyndon : wsX7_lyndon.all goodWord = true := by decide +kernel
set_option maxRecDepth 20000 in
theorem gd_X7_lyndons : wsX7_lyndons.all goodWord = true := by decide +kernel
set_option maxRecDepth 20000 in
theorem gd_X7_noChief : wsX7_noChief.all goodWord = true := by decide +kernel
set_option maxRecDepth 20000 in
theorem gd_X7_noFraction : wsX7_noFraction.all goodWord = true := by decide +kernel
set_option maxRecDepth 20000 in
theorem gd_X7_noLetter : wsX7_noLetter.all goodWord = true := by decide +kernel
set_option maxRecDepth 20000 in
theorem gd_X7_noSum : wsX7_noSum.all goodWord = true := by decide +kernel
set_option maxRecDepth 20000 in
theorem gd_X7_order : wsX7_order.all goodWord = true := by decide +kernel
set_option maxRecDepth 20000 in
theorem gd_X7_pair : wsX7_pair.all goodWord = true := by decide +kernel
set_option maxRecDepth 20000 in
theorem gd_X7_part : wsX7_part.all goodWord = true := by decide +kernel
set_option maxRecDepth 20000 in
theorem gd_X7_put : wsX7_put.all goodWord = true := by decide +kernel
set_option maxRecDepth 20000 in
theorem gd_X7_read : wsX7_read.all goodWord = true := by decide +kernel
set_option maxRecDepth 20000 in
theorem gd_X7_relate : wsX7_relate.all goodWord = true := by decide +kernel
set_option maxRecDepth 20000 in
theorem gd_X7_replace : wsX7_replace.all goodWord = true := by decide +kernel
set_option maxRecDepth 20000 in
theorem gd_X7_scheme : wsX7_scheme.all goodWord = true := by decide +kernel
set_option maxRecDepth 20000 in
theorem gd_X7_share : wsX7_share.all goodWord = true := by decide +kernel
set_option maxRecDepth 20000 in
theorem gd_X7_shuffle : wsX7_shuffle.all goodWord = true := by decide +kernel
set_option maxRecDepth 20000 in
theorem gd_X7_side : wsX7_side.all goodWord = true := by decide +kernel
set_option maxRecDepth 20000 in
theorem gd_X7_size : wsX7_size.all goodWord = true := by decide +kernel
set_option maxRecDepth 20000 in
theorem gd_X7_step : wsX7_step.all goodWord = true := by decide +kernel
set_option maxRecDepth 20000 in
theorem gd_X7_table : wsX7_table.all goodWord = true := by decide +kernel
set_option maxRecDepth 20000 in
theorem gd_X7_text : wsX7_text.all goodWord = true := by decide +kernel
set_option maxRecDepth 20000 in
theorem gd_X7_times : wsX7_times.all goodWord = true := by decide +kernel
set_option maxRecDepth 20000 in
theorem gd_X7_turn : wsX7_turn.all goodWord = true := by decide +kernel
set_option maxRecDepth 20000 in
theorem gd_X7_unstep : wsX7_unstep.all goodWord = true := by decide +kernel
