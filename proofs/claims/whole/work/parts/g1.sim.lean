/-! both answer alike: calls on sums -/
section SJ
variable {L d : Nat} {Ln : Nat → Nat} {A : AS} {Sc : cs_T} {Sm : ms_T} {x : Nat → Nat} {g : Nat → Nat → Kf}
theorem s_inj {s s' : Nat} (h : s < 1000) (h' : s' < 1000) (e : nI s = nI s') : s' = s := ((nI_eq (a := s) (b := s') (by omega) (by omega)).mp e).symm
theorem nl_q {y : Int32} {Q : Int32 → cs_T → Prop} (h : cw_ok L d Ln Sc) (h1 : 0 ≤ y.toInt ∧ y.toInt < L → Q 0 Sc) (h0 : ¬ (0 ≤ y.toInt ∧ y.toInt < L) → Q 1 Sc) : wp_X7_noLetter Ln Sc y Q := by
  have e0 : (0 : Int32).toInt = 0 := by decide
  have eL : (Sc.1 2).toInt = L := by rw [h.2.1, nI_i (by have := cf_L h.1; omega)]
  refine ⟨fun z => h0 (fun q => ?_), fun z => ⟨fun v => h1 ?_, fun v => h0 (fun q => ?_)⟩⟩
  · rw [i32_lt, e0] at z; omega
  · rw [i32_lt, e0] at z; rw [i32_lt, eL] at v; omega
  · rw [i32_lt, eL] at v; omega
theorem nl_a {y : Int32} {P R : cs_T → Prop} (h : cw_ok L d Ln Sc) (h1 : 0 ≤ y.toInt ∧ y.toInt < L → P Sc) (h0 : ¬ (0 ≤ y.toInt ∧ y.toInt < L) → R Sc) : wp_X7_noLetter Ln Sc y (fun r S => (r = 0 → P S) ∧ (¬ r = 0 → R S)) := nl_q h (fun q => ⟨fun _ => h1 q, fun z => absurd rfl z⟩) (fun q => ⟨fun z => absurd z (by decide), fun _ => h0 q⟩)
theorem let_of {y : Int32} (h : 0 ≤ y.toInt ∧ y.toInt < L) (hL : L ≤ 4) : ∃ c, c < L ∧ y = nI c := by
  refine ⟨y.toInt.toNat, by omega, ?_⟩
  apply Int32.toInt_inj.mp
  rw [nI_i (by omega)]
  omega
theorem cell0 (h : CX L d Ln A Sc Sm x g) {a : Nat} (ha : a < 8) : 7 + a < 47 ∧ vp_in ((0 : Int32)) (Ln (7 + a)) ∧ Sc.2.1 (7 + a) ((0 : Int32)).toNatClampNeg = nI (x (364 * a)) ∧ x (364 * a) < PR := by
  obtain ⟨hcf, hx, hcv, hg, hC, hM, -⟩ := h
  have hW0 : 0 < ofs L (d + 1) := pl_W (L := L) (d := d) (n := 0) (v := 0) (by omega) (by rw [Nat.pow_zero]; decide)
  have hW := cf_all hcf
  have hlt := (hx (364 * a) (by omega)).2
  have e := cv_g (j := 0) hcv (kV7 ha) hW0
  refine ⟨by omega, ?_, ?_, hlt⟩
  · rw [hcv.2.2.2.1 _ (kV7 ha)]
    exact vp_in_nI (n := 0) (by omega) (by omega)
  · show Sc.2.1 (7 + a) (nI 0).toNatClampNeg = _
    rw [e, hg a ha]
    exact kI_N hlt
theorem nI_1q {n : Nat} (h : n < PR) : nI n = 1 ↔ n = 1 := nI_eq (a := n) (b := 1) (by unfold PR at h; omega) (by decide)
theorem nI_0q {n : Nat} (h : n < PR) : nI n = 0 ↔ n = 0 := nI_eq (a := n) (b := 0) (by unfold PR at h; omega) (by decide)
theorem si_clear {a : Int32} (h : CX L d Ln A Sc Sm x g) : SIM L d Ln A.2.2.1.1 (fun Q => wp_X7_clear Ln Sc a Q) (fun Q => wp_X8_clear Sm a Q) := by
  obtain ⟨hcf, hx, hcv, hg, hC, hM, -⟩ := id h
  obtain ⟨hW, hL, hd1, hd⟩ := CX_W h
  by_cases ha : isS a
  · obtain ⟨s, hs, rfl⟩ := isS_of ha
    refine ⟨0, (va_up (rwK x) s (fun _ => 0), A.2), rfl, fun Q hQ => ?_, fun Q hQ => ?_⟩
    · refine ns_a (fun _ => ⟨vin8 hs, ?_⟩) (fun z => absurd ha z)
      rw [ix7 hs]
      exact cq_fill hcv (kV7 hs) (fun S' hu hc' => hQ S' (CR_V hC hu hc' (sm_fr hg (fr_u (P := fun k => k = 7 + s) rfl) (fun i hi hne => by omega) (by rw [va_up_self]; exact eqW_rf))))
    · refine sm_clear hM.1.1 hx (fun z => absurd ha z) (fun s' S' hs' e hu hn => hQ S' (MR_S hM hu hn ?_))
      have := s_inj (by omega) (by omega) e
      subst this
      exact xr_if (fun s' w hs' hw => by rw [rwK_rs hW hw, kN_0])
  · refine ⟨-1, A, rfl, fun Q hQ => ?_, fun Q hQ => ?_⟩
    · exact ns_a (fun z => absurd z ha) (fun _ => hQ _ hC)
    · exact sm_clear hM.1.1 hx (fun _ => hQ _ hM) (fun s S' hs e _ _ => absurd (by rw [e]; exact isS_n hs) ha)
theorem si_times {a1 a2 a3 : Int32} (h : CX L d Ln A Sc Sm x g) : SIM L d Ln A.2.2.1.1 (fun Q => wp_X7_times Ln Sc a1 a2 a3 Q) (fun Q => wp_X8_times Sm a1 a2 a3 Q) := by
  obtain ⟨hcf, hx, hcv, hg, hC, hM, -⟩ := id h
  obtain ⟨hW, hL, hd1, hd⟩ := CX_W h
  by_cases ha : isS a1 ∧ isS a2 ∧ isS a3
  · obtain ⟨s, hs, rfl⟩ := isS_of ha.1
    obtain ⟨a, ha2, rfl⟩ := isS_of ha.2.1
    obtain ⟨b, hb2, rfl⟩ := isS_of ha.2.2
    refine ⟨0, (va_up (rwK x) s (mulK L d (rwK x a) (rwK x b)), A.2), rfl, fun Q hQ => ?_, fun Q hQ => ?_⟩
    · refine ns_b (fun _ => ns_b (fun _ => ns_a (fun _ => ⟨vin8 hs, vin8 ha2, vin8 hb2, ?_⟩) (fun z => absurd ha.2.2 z)) (fun z => absurd ha.2.1 z)) (fun z => absurd ha.1 z)
      rw [ix7 hs, ix7 ha2, ix7 hb2]
      refine cq_multiply hcv (kV7 hs) (kV7 ha2) (kV7 hb2) (by omega) (by omega) (fun S' g' hu hc' hf e => hQ S' (CR_V hC hu hc' (sm_fr hg hf (fun i hi hne => by omega) ?_)))
      rw [e, hg a ha2, hg b hb2]
      exact eqW_rf
    · refine sm_times hM.1.1 hx (fun z => absurd ha z) (fun s' a' b' S' hs' ha' hb' e1 e2 e3 hu hn => hQ S' (MR_S hM hu hn ?_))
      have i1 := s_inj (by omega) (by omega) e1
      have i2 := s_inj (by omega) (by omega) e2
      have i3 := s_inj (by omega) (by omega) e3
      subst i1 i2 i3
      exact xr_if (fun s' w hs' hw => timesX_K hW hw (by omega))
  · refine ⟨-1, A, rfl, fun Q hQ => ?_, fun Q hQ => ?_⟩
    · exact ns_b (fun q1 => ns_b (fun q2 => ns_a (fun q3 => absurd ⟨q1, q2, q3⟩ ha) (fun _ => hQ _ hC)) (fun _ => hQ _ hC)) (fun _ => hQ _ hC)
    · exact sm_times hM.1.1 hx (fun _ => hQ _ hM) (fun s' a' b' S' hs' ha' hb' e1 e2 e3 hu hn => absurd ⟨by rw [e1]; exact isS_n hs', by rw [e2]; exact isS_n ha', by rw [e3]; exact isS_n hb'⟩ ha)
theorem si_bracket {a1 a2 a3 : Int32} (h : CX L d Ln A Sc Sm x g) : SIM L d Ln A.2.2.1.1 (fun Q => wp_X7_bracket Ln Sc a1 a2 a3 Q) (fun Q => wp_X8_bracket Sm a1 a2 a3 Q) := by
  obtain ⟨hcf, hx, hcv, hg, hC, hM, -⟩ := id h
  obtain ⟨hW, hL, hd1, hd⟩ := CX_W h
  by_cases ha : isS a1 ∧ isS a2 ∧ isS a3
  · obtain ⟨s, hs, rfl⟩ := isS_of ha.1
    obtain ⟨a, ha2, rfl⟩ := isS_of ha.2.1
    obtain ⟨b, hb2, rfl⟩ := isS_of ha.2.2
    refine ⟨0, (va_up (rwK x) s (fun j => mulK L d (rwK x a) (rwK x b) j + mulK L d (rwK x b) (rwK x a) j * kN 2147483646), A.2), rfl, fun Q hQ => ?_, fun Q hQ => ?_⟩
    · refine ns_b (fun _ => ns_b (fun _ => ns_a (fun _ => ⟨vin8 hs, vin8 ha2, vin8 hb2, ?_⟩) (fun z => absurd ha.2.2 z)) (fun z => absurd ha.2.1 z)) (fun z => absurd ha.1 z)
      rw [ix7 hs, ix7 ha2, ix7 hb2]
      refine cq_commute hcv (kV7 hs) (kV7 ha2) (kV7 hb2) (by omega) (by omega) (fun S' g' hu hc' hf e => hQ S' (CR_V hC hu hc' (sm_fr hg hf (fun i hi hne => by omega) ?_)))
      rw [e, hg a ha2, hg b hb2]
      exact eqW_rf
    · refine sm_bracket hM.1.1 hx (fun z => absurd ha z) (fun s' a' b' S' hs' ha' hb' e1 e2 e3 hu hn => hQ S' (MR_S hM hu hn ?_))
      have i1 := s_inj (by omega) (by omega) e1
      have i2 := s_inj (by omega) (by omega) e2
      have i3 := s_inj (by omega) (by omega) e3
      subst i1 i2 i3
      exact xr_if (fun s' w hs' hw => bracketX_K hL hW hw (by omega) (by omega) (by omega) (by omega))
  · refine ⟨-1, A, rfl, fun Q hQ => ?_, fun Q hQ => ?_⟩
    · exact ns_b (fun q1 => ns_b (fun q2 => ns_a (fun q3 => absurd ⟨q1, q2, q3⟩ ha) (fun _ => hQ _ hC)) (fun _ => hQ _ hC)) (fun _ => hQ _ hC)
    · exact sm_bracket hM.1.1 hx (fun _ => hQ _ hM) (fun s' a' b' S' hs' ha' hb' e1 e2 e3 hu hn => absurd ⟨by rw [e1]; exact isS_n hs', by rw [e2]; exact isS_n ha', by rw [e3]; exact isS_n hb'⟩ ha)
theorem si_shuffle {a1 a2 a3 : Int32} (h : CX L d Ln A Sc Sm x g) : SIM L d Ln A.2.2.1.1 (fun Q => wp_X7_shuffle Ln Sc a1 a2 a3 Q) (fun Q => wp_X8_shuffle Sm a1 a2 a3 Q) := by
  obtain ⟨hcf, hx, hcv, hg, hC, hM, -⟩ := id h
  obtain ⟨hW, hL, hd1, hd⟩ := CX_W h
  by_cases ha : isS a1 ∧ isS a2 ∧ isS a3
  · obtain ⟨s, hs, rfl⟩ := isS_of ha.1
    obtain ⟨a, ha2, rfl⟩ := isS_of ha.2.1
    obtain ⟨b, hb2, rfl⟩ := isS_of ha.2.2
    refine ⟨0, (va_up (rwK x) s (shK L d (rwK x a) (rwK x b)), A.2), rfl, fun Q hQ => ?_, fun Q hQ => ?_⟩
    · refine ns_b (fun _ => ns_b (fun _ => ns_a (fun _ => ⟨vin8 hs, vin8 ha2, vin8 hb2, ?_⟩) (fun z => absurd ha.2.2 z)) (fun z => absurd ha.2.1 z)) (fun z => absurd ha.1 z)
      rw [ix7 hs, ix7 ha2, ix7 hb2]
      refine cq_mingle hcv (kV7 hs) (kV7 ha2) (kV7 hb2) (by omega) (by omega) (fun S' g' hu hc' hf e => hQ S' (CR_V hC hu hc' (sm_fr hg hf (fun i hi hne => by omega) ?_)))
      rw [e, hg a ha2, hg b hb2]
      exact eqW_rf
    · refine sm_shuffle hM.1.1 hx (fun z => absurd ha z) (fun s' a' b' S' x' hs' ha' hb' e1 e2 e3 hu hn hag => hQ S' (MR_S hM hu hn ?_))
      have i1 := s_inj (by omega) (by omega) e1
      have i2 := s_inj (by omega) (by omega) e2
      have i3 := s_inj (by omega) (by omega) e3
      subst i1 i2 i3
      exact xr_ag hW hag (xr_if (fun s' w hs' hw => by rw [rwK_rs hW hw, shufV_K hL]))
  · refine ⟨-1, A, rfl, fun Q hQ => ?_, fun Q hQ => ?_⟩
    · exact ns_b (fun q1 => ns_b (fun q2 => ns_a (fun q3 => absurd ⟨q1, q2, q3⟩ ha) (fun _ => hQ _ hC)) (fun _ => hQ _ hC)) (fun _ => hQ _ hC)
    · exact sm_shuffle hM.1.1 hx (fun _ => hQ _ hM) (fun s' a' b' S' x' hs' ha' hb' e1 e2 e3 hu hn hag => absurd ⟨by rw [e1]; exact isS_n hs', by rw [e2]; exact isS_n ha', by rw [e3]; exact isS_n hb'⟩ ha)
theorem si_turn {a1 a2 : Int32} (h : CX L d Ln A Sc Sm x g) : SIM L d Ln A.2.2.1.1 (fun Q => wp_X7_turn Ln Sc a1 a2 Q) (fun Q => wp_X8_turn Sm a1 a2 Q) := by
  obtain ⟨hcf, hx, hcv, hg, hC, hM, -⟩ := id h
  obtain ⟨hW, hL, hd1, hd⟩ := CX_W h
  by_cases ha : isS a1 ∧ isS a2
  · obtain ⟨s, hs, rfl⟩ := isS_of ha.1
    obtain ⟨a, ha2, rfl⟩ := isS_of ha.2
    refine ⟨0, (va_up (rwK x) s (turnK L d (rwK x a)), A.2), rfl, fun Q hQ => ?_, fun Q hQ => ?_⟩
    · refine ns_b (fun _ => ns_a (fun _ => ⟨vin8 hs, vin8 ha2, ?_⟩) (fun z => absurd ha.2 z)) (fun z => absurd ha.1 z)
      rw [ix7 hs, ix7 ha2]
      refine cq_turn hcv (kV7 hs) (kV7 ha2) (by omega) (fun S' g' hu hc' hf e => hQ S' (CR_V hC hu hc' (sm_fr hg hf (fun i hi hne => by omega) ?_)))
      rw [e, hg a ha2]
      exact eqW_rf
    · refine sm_turn hM.1.1 hx (fun z => absurd ha z) (fun s' a' S' x' hs' ha' e1 e2 hu hn hag => hQ S' (MR_S hM hu hn ?_))
      have i1 := s_inj (by omega) (by omega) e1
      have i2 := s_inj (by omega) (by omega) e2
      subst i1 i2
      exact xr_ag hW hag (xr_if (fun s' w hs' hw => by rw [rwK_rs hW hw, turnV_K (fun j hj => (hx j hj).2) hL hW (by omega) hw]))
  · refine ⟨-1, A, rfl, fun Q hQ => ?_, fun Q hQ => ?_⟩
    · exact ns_b (fun q1 => ns_a (fun q2 => absurd ⟨q1, q2⟩ ha) (fun _ => hQ _ hC)) (fun _ => hQ _ hC)
    · exact sm_turn hM.1.1 hx (fun _ => hQ _ hM) (fun s' a' S' x' hs' ha' e1 e2 hu hn hag => absurd ⟨by rw [e1]; exact isS_n hs', by rw [e2]; exact isS_n ha'⟩ ha)
theorem nz_eq {f : Nat → Kf} (h : f 0 = 0) : eqW L d f (nzK f) := fun w _ => by
  unfold nzK
  by_cases e : w = 0
  · rw [if_pos e, e, h]
  · rw [if_neg e]
theorem si_exp {a1 a2 : Int32} (h : CX L d Ln A Sc Sm x g) : SIM L d Ln A.2.2.1.1 (fun Q => wp_X7_exp Ln Sc a1 a2 Q) (fun Q => wp_X8_exp Sm a1 a2 Q) := by
  obtain ⟨hcf, hx, hcv, hg, hC, hM, -⟩ := id h
  obtain ⟨hW, hL, hd1, hd⟩ := CX_W h
  by_cases ha : isS a1 ∧ isS a2
  · obtain ⟨s, hs, rfl⟩ := isS_of ha.1
    obtain ⟨a, ha2, rfl⟩ := isS_of ha.2
    obtain ⟨c1, c2, c3, c4⟩ := cell0 h ha2
    by_cases hv0 : x (364 * a) = 0
    · refine ⟨0, (va_up (rwK x) s (serK L d 0 (nzK (rwK x a))), A.2), rfl, fun Q hQ => ?_, fun Q hQ => ?_⟩
      · refine ns_b (fun _ => ns_a (fun _ => ?_) (fun z => absurd ha.2 z)) (fun z => absurd ha.1 z)
        rw [ix7 hs, ix7 ha2, c3]
        refine ⟨vin8 ha2, c1, c2, fun _ => ⟨vin8 hs, vin8 ha2, ?_⟩, fun z => absurd ((nI_0q c4).mpr hv0) z⟩
        refine cq_raise hcv (kV7 hs) (kV7 ha2) (by omega) (by omega) (fun S' g' hu hc' hf e => hQ S' (CR_V hC hu hc' (sm_fr hg hf (fun i hi hne => by omega) ?_)))
        rw [e, hg a ha2]
        have z0 : rwK x a 0 = 0 := by show kN (x (364 * a)) = 0; rw [hv0, kN_0]
        exact eqW_tr (exp_eq hL) (serK_c hL (nz_eq z0))
      · refine sm_seriesOf (how := 0) hM.1.1 hx (by decide) (fun z => absurd ha z) (fun s' a' hs' ha' e1 e2 hv => ?_) (fun s' a' S' hs' ha' e1 e2 hv hu hn => hQ S' (MR_S hM hu hn ?_))
        · have i2 := s_inj (by omega) (by omega) e2
          subst i2
          exact absurd hv0 hv
        · have i1 := s_inj (by omega) (by omega) e1
          have i2 := s_inj (by omega) (by omega) e2
          subst i1 i2
          exact xr_if (fun s' w hs' hw => seriesX_K hL hW hd (by decide) hw (by omega) (by omega) (by omega) (by omega))
    · refine ⟨-3, A, rfl, fun Q hQ => ?_, fun Q hQ => ?_⟩
      · refine ns_b (fun _ => ns_a (fun _ => ?_) (fun z => absurd ha.2 z)) (fun z => absurd ha.1 z)
        rw [ix7 hs, ix7 ha2, c3]
        exact ⟨vin8 ha2, c1, c2, fun z => absurd ((nI_0q c4).mp z) hv0, fun _ => hQ _ hC⟩
      · refine sm_seriesOf (how := 0) hM.1.1 hx (by decide) (fun z => absurd ha z) (fun s' a' hs' ha' e1 e2 hv => hQ _ hM) (fun s' a' S' hs' ha' e1 e2 hv hu hn => ?_)
        have i2 := s_inj (by omega) (by omega) e2
        subst i2
        exact absurd hv hv0
  · refine ⟨-1, A, rfl, fun Q hQ => ?_, fun Q hQ => ?_⟩
    · exact ns_b (fun q1 => ns_a (fun q2 => absurd ⟨q1, q2⟩ ha) (fun _ => hQ _ hC)) (fun _ => hQ _ hC)
    · exact sm_seriesOf (how := 0) hM.1.1 hx (by decide) (fun _ => hQ _ hM) (fun s' a' hs' ha' e1 e2 hv => absurd ⟨by rw [e1]; exact isS_n hs', by rw [e2]; exact isS_n ha'⟩ ha) (fun s' a' S' hs' ha' e1 e2 hv hu hn => absurd ⟨by rw [e1]; exact isS_n hs', by rw [e2]; exact isS_n ha'⟩ ha)
theorem si_log {a1 a2 : Int32} (h : CX L d Ln A Sc Sm x g) : SIM L d Ln A.2.2.1.1 (fun Q => wp_X7_log Ln Sc a1 a2 Q) (fun Q => wp_X8_log Sm a1 a2 Q) := by
  obtain ⟨hcf, hx, hcv, hg, hC, hM, -⟩ := id h
  obtain ⟨hW, hL, hd1, hd⟩ := CX_W h
  by_cases ha : isS a1 ∧ isS a2
  · obtain ⟨s, hs, rfl⟩ := isS_of ha.1
    obtain ⟨a, ha2, rfl⟩ := isS_of ha.2
    obtain ⟨c1, c2, c3, c4⟩ := cell0 h ha2
    by_cases hv0 : x (364 * a) = 1
    · refine ⟨0, (va_up (rwK x) s (serK L d 1 (nzK (rwK x a))), A.2), rfl, fun Q hQ => ?_, fun Q hQ => ?_⟩
      · refine ns_b (fun _ => ns_a (fun _ => ?_) (fun z => absurd ha.2 z)) (fun z => absurd ha.1 z)
        rw [ix7 hs, ix7 ha2, c3]
        refine ⟨vin8 ha2, c1, c2, fun _ => ⟨vin8 hs, vin8 ha2, ?_⟩, fun z => absurd ((nI_1q c4).mpr hv0) z⟩
        refine cq_unraise hcv (kV7 hs) (kV7 ha2) (fun S' g' hu hc' hf e => hQ S' (CR_V hC hu hc' (sm_fr hg hf (fun i hi hne => by omega) ?_)))
        rw [e, hg a ha2]
        exact log_eq hL hd1
      · refine sm_seriesOf (how := 1) hM.1.1 hx (by decide) (fun z => absurd ha z) (fun s' a' hs' ha' e1 e2 hv => ?_) (fun s' a' S' hs' ha' e1 e2 hv hu hn => hQ S' (MR_S hM hu hn ?_))
        · have i2 := s_inj (by omega) (by omega) e2
          subst i2
          exact absurd hv0 hv
        · have i1 := s_inj (by omega) (by omega) e1
          have i2 := s_inj (by omega) (by omega) e2
          subst i1 i2
          exact xr_if (fun s' w hs' hw => seriesX_K hL hW hd (by decide) hw (by omega) (by omega) (by omega) (by omega))
    · refine ⟨-3, A, rfl, fun Q hQ => ?_, fun Q hQ => ?_⟩
      · refine ns_b (fun _ => ns_a (fun _ => ?_) (fun z => absurd ha.2 z)) (fun z => absurd ha.1 z)
        rw [ix7 hs, ix7 ha2, c3]
        exact ⟨vin8 ha2, c1, c2, fun z => absurd ((nI_1q c4).mp z) hv0, fun _ => hQ _ hC⟩
      · refine sm_seriesOf (how := 1) hM.1.1 hx (by decide) (fun z => absurd ha z) (fun s' a' hs' ha' e1 e2 hv => hQ _ hM) (fun s' a' S' hs' ha' e1 e2 hv hu hn => ?_)
        have i2 := s_inj (by omega) (by omega) e2
        subst i2
        exact absurd hv hv0
  · refine ⟨-1, A, rfl, fun Q hQ => ?_, fun Q hQ => ?_⟩
    · exact ns_b (fun q1 => ns_a (fun q2 => absurd ⟨q1, q2⟩ ha) (fun _ => hQ _ hC)) (fun _ => hQ _ hC)
    · exact sm_seriesOf (how := 1) hM.1.1 hx (by decide) (fun _ => hQ _ hM) (fun s' a' hs' ha' e1 e2 hv => absurd ⟨by rw [e1]; exact isS_n hs', by rw [e2]; exact isS_n ha'⟩ ha) (fun s' a' S' hs' ha' e1 e2 hv hu hn => absurd ⟨by rw [e1]; exact isS_n hs', by rw [e2]; exact isS_n ha'⟩ ha)
theorem si_inverse {a1 a2 : Int32} (h : CX L d Ln A Sc Sm x g) : SIM L d Ln A.2.2.1.1 (fun Q => wp_X7_inverse Ln Sc a1 a2 Q) (fun Q => wp_X8_inverse Sm a1 a2 Q) := by
  obtain ⟨hcf, hx, hcv, hg, hC, hM, -⟩ := id h
  obtain ⟨hW, hL, hd1, hd⟩ := CX_W h
  by_cases ha : isS a1 ∧ isS a2
  · obtain ⟨s, hs, rfl⟩ := isS_of ha.1
    obtain ⟨a, ha2, rfl⟩ := isS_of ha.2
    obtain ⟨c1, c2, c3, c4⟩ := cell0 h ha2
    by_cases hv0 : x (364 * a) = 1
    · refine ⟨0, (va_up (rwK x) s (serK L d 2 (nzK (rwK x a))), A.2), rfl, fun Q hQ => ?_, fun Q hQ => ?_⟩
      · refine ns_b (fun _ => ns_a (fun _ => ?_) (fun z => absurd ha.2 z)) (fun z => absurd ha.1 z)
        rw [ix7 hs, ix7 ha2, c3]
        refine ⟨vin8 ha2, c1, c2, fun _ => ⟨vin8 hs, vin8 ha2, ?_⟩, fun z => absurd ((nI_1q c4).mpr hv0) z⟩
        refine cq_invert hcv (kV7 hs) (kV7 ha2) (fun S' g' hu hc' hf e => hQ S' (CR_V hC hu hc' (sm_fr hg hf (fun i hi hne => by omega) ?_)))
        rw [e, hg a ha2]
        exact inv_eq hL
      · refine sm_seriesOf (how := 2) hM.1.1 hx (by decide) (fun z => absurd ha z) (fun s' a' hs' ha' e1 e2 hv => ?_) (fun s' a' S' hs' ha' e1 e2 hv hu hn => hQ S' (MR_S hM hu hn ?_))
        · have i2 := s_inj (by omega) (by omega) e2
          subst i2
          exact absurd hv0 hv
        · have i1 := s_inj (by omega) (by omega) e1
          have i2 := s_inj (by omega) (by omega) e2
          subst i1 i2
          exact xr_if (fun s' w hs' hw => seriesX_K hL hW hd (by decide) hw (by omega) (by omega) (by omega) (by omega))
    · refine ⟨-3, A, rfl, fun Q hQ => ?_, fun Q hQ => ?_⟩
      · refine ns_b (fun _ => ns_a (fun _ => ?_) (fun z => absurd ha.2 z)) (fun z => absurd ha.1 z)
        rw [ix7 hs, ix7 ha2, c3]
        exact ⟨vin8 ha2, c1, c2, fun z => absurd ((nI_1q c4).mp z) hv0, fun _ => hQ _ hC⟩
      · refine sm_seriesOf (how := 2) hM.1.1 hx (by decide) (fun z => absurd ha z) (fun s' a' hs' ha' e1 e2 hv => hQ _ hM) (fun s' a' S' hs' ha' e1 e2 hv hu hn => ?_)
        have i2 := s_inj (by omega) (by omega) e2
        subst i2
        exact absurd hv hv0
  · refine ⟨-1, A, rfl, fun Q hQ => ?_, fun Q hQ => ?_⟩
    · exact ns_b (fun q1 => ns_a (fun q2 => absurd ⟨q1, q2⟩ ha) (fun _ => hQ _ hC)) (fun _ => hQ _ hC)
    · exact sm_seriesOf (how := 2) hM.1.1 hx (by decide) (fun _ => hQ _ hM) (fun s' a' hs' ha' e1 e2 hv => absurd ⟨by rw [e1]; exact isS_n hs', by rw [e2]; exact isS_n ha'⟩ ha) (fun s' a' S' hs' ha' e1 e2 hv hu hn => absurd ⟨by rw [e1]; exact isS_n hs', by rw [e2]; exact isS_n ha'⟩ ha)
end SJ
