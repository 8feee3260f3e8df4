/-! both answer alike: group, derive, replace, part, pair -/
section SM
variable {L d : Nat} {Ln : Nat → Nat} {A : AS} {Sc : cs_T} {Sm : ms_T} {x : Nat → Nat} {g : Nat → Nat → Kf}
theorem si_group {a1 a2 a3 : Int32} (h : CX L d Ln A Sc Sm x g) : SIM L d Ln A.2.2.1.1 (fun Q => wp_X7_group Ln Sc a1 a2 a3 Q) (fun Q => wp_X8_group Sm a1 a2 a3 Q) := by
  obtain ⟨hcf, hx, hcv, hg, hC, hM, -⟩ := id h
  obtain ⟨hW, hL, hd1, hd⟩ := CX_W h
  by_cases ha : isS a1 ∧ isS a2 ∧ isS a3
  · obtain ⟨s, hs, rfl⟩ := isS_of ha.1
    obtain ⟨a, ha2, rfl⟩ := isS_of ha.2.1
    obtain ⟨b, hb2, rfl⟩ := isS_of ha.2.2
    obtain ⟨c1, c2, c3, c4⟩ := cell0 h ha2
    obtain ⟨d1, d2, d3, d4⟩ := cell0 h hb2
    by_cases hv : x (364 * a) = 0 ∧ x (364 * b) = 0
    · have za : rwK x a 0 = 0 := by show kN (x (364 * a)) = 0; rw [hv.1, kN_0]
      have zb : rwK x b 0 = 0 := by show kN (x (364 * b)) = 0; rw [hv.2, kN_0]
      refine ⟨0, (va_up (rwK x) s (serK L d 1 (nzK (mulK L d (serK L d 0 (nzK (rwK x a))) (serK L d 0 (nzK (rwK x b)))))), A.2), rfl, fun Q hQ => ?_, fun Q hQ => ?_⟩
      · refine ns_b (fun _ => ns_b (fun _ => ns_a (fun _ => ?_) (fun z => absurd ha.2.2 z)) (fun z => absurd ha.2.1 z)) (fun z => absurd ha.1 z)
        rw [ix7 hs, ix7 ha2, ix7 hb2, c3, d3]
        refine ⟨vin8 ha2, c1, c2, fun z => absurd ((nI_0q c4).mpr hv.1) z, fun _ => ⟨vin8 hb2, d1, d2, fun _ => ⟨vin8 hs, vin8 ha2, vin8 hb2, ?_⟩, fun z => absurd ((nI_0q d4).mpr hv.2) z⟩⟩
        refine cq_compose hcv (kV7 hs) (kV7 ha2) (kV7 hb2) (by omega) (by omega) (fun S' g' hu hc' hf e => hQ S' (CR_V hC hu hc' (sm_fr hg hf (fun i hi hne => by omega) ?_)))
        rw [e, hg a ha2, hg b hb2]
        unfold grpK
        dsimp only
        exact eqW_tr (log_eq hL hd1) (serK_c hL (nzK_c (mulK_c hL (eqW_tr (exp_eq hL) (serK_c hL (nz_eq za))) (eqW_tr (exp_eq hL) (serK_c hL (nz_eq zb))))))
      · refine sm_group hM.1.1 hx (fun z => absurd ha z) (fun s' a' b' hs' ha' hb' e1 e2 e3 z => ?_) (fun s' a' b' S' hs' ha' hb' e1 e2 e3 _ _ hu hn => hQ S' (MR_S hM hu hn ?_))
        · have i2 := s_inj (by omega) (by omega) e2
          have i3 := s_inj (by omega) (by omega) e3
          subst i2 i3
          exact absurd hv z
        · have i1 := s_inj (by omega) (by omega) e1
          have i2 := s_inj (by omega) (by omega) e2
          have i3 := s_inj (by omega) (by omega) e3
          subst i1 i2 i3
          exact xr_if (fun s' w hs' hw => groupX_K hL hW hd hw (by omega) (by omega) hs')
    · refine ⟨-3, A, rfl, fun Q hQ => ?_, fun Q hQ => ?_⟩
      · refine ns_b (fun _ => ns_b (fun _ => ns_a (fun _ => ?_) (fun z => absurd ha.2.2 z)) (fun z => absurd ha.2.1 z)) (fun z => absurd ha.1 z)
        rw [ix7 hs, ix7 ha2, ix7 hb2, c3, d3]
        exact ⟨vin8 ha2, c1, c2, fun _ => hQ _ hC, fun z1 => ⟨vin8 hb2, d1, d2, fun z2 => absurd ⟨(nI_0q c4).mp z1, (nI_0q d4).mp z2⟩ hv, fun _ => hQ _ hC⟩⟩
      · refine sm_group hM.1.1 hx (fun z => absurd ha z) (fun s' a' b' hs' ha' hb' e1 e2 e3 z => hQ _ hM) (fun s' a' b' S' hs' ha' hb' e1 e2 e3 q1 q2 hu hn => ?_)
        have i2 := s_inj (by omega) (by omega) e2
        have i3 := s_inj (by omega) (by omega) e3
        subst i2 i3
        exact absurd ⟨q1, q2⟩ hv
  · refine ⟨-1, A, rfl, fun Q hQ => ?_, fun Q hQ => ?_⟩
    · exact ns_b (fun q1 => ns_b (fun q2 => ns_a (fun q3 => absurd ⟨q1, q2, q3⟩ ha) (fun _ => hQ _ hC)) (fun _ => hQ _ hC)) (fun _ => hQ _ hC)
    · exact sm_group hM.1.1 hx (fun _ => hQ _ hM) (fun s' a' b' hs' ha' hb' e1 e2 e3 _ => absurd ⟨by rw [e1]; exact isS_n hs', by rw [e2]; exact isS_n ha', by rw [e3]; exact isS_n hb'⟩ ha) (fun s' a' b' S' hs' ha' hb' e1 e2 e3 _ _ _ _ => absurd ⟨by rw [e1]; exact isS_n hs', by rw [e2]; exact isS_n ha', by rw [e3]; exact isS_n hb'⟩ ha)
theorem si_derive {a1 a2 a3 a4 : Int32} (h : CX L d Ln A Sc Sm x g) : SIM L d Ln A.2.2.1.1 (fun Q => wp_X7_derive Ln Sc a1 a2 a3 a4 Q) (fun Q => wp_X8_derive Sm a1 a2 a3 a4 Q) := by
  obtain ⟨hcf, hx, hcv, hg, hC, hM, -⟩ := id h
  obtain ⟨hW, hL, hd1, hd⟩ := CX_W h
  have hL4 := (cf_L hcf).2
  by_cases ha : isS a1 ∧ isS a2 ∧ isS a4 ∧ 0 ≤ a3.toInt ∧ a3.toInt < L
  · obtain ⟨s, hs, rfl⟩ := isS_of ha.1
    obtain ⟨a, ha2, rfl⟩ := isS_of ha.2.1
    obtain ⟨b, hb2, rfl⟩ := isS_of ha.2.2.1
    obtain ⟨y, hy, rfl⟩ := let_of ha.2.2.2 hL4
    refine ⟨0, (va_up (rwK x) s (dvK L d y (rwK x a) (rwK x b)), A.2), rfl, fun Q hQ => ?_, fun Q hQ => ?_⟩
    · refine ns_b (fun _ => ns_b (fun _ => ns_b (fun _ => nl_a (P := fun S4 => _ ∧ _ ∧ _ ∧ wp_X0_setInEach Ln S4 _ _ _ _ _) (R := fun S4 => Q (-1) S4) hcv.1 (fun _ => ⟨vin8 hs, vin8 ha2, vin8 hb2, ?_⟩) (fun z => absurd ha.2.2.2 z)) (fun z => absurd ha.2.2.1 z)) (fun z => absurd ha.2.1 z)) (fun z => absurd ha.1 z)
      rw [ix7 hs, ix7 ha2, ix7 hb2]
      refine cq_setInEach hcv (kV7 hs) (kV7 ha2) (kV7 hb2) (by omega) (by omega) hy (fun S' g' hu hc' hf e => hQ S' (CR_V hC hu hc' (sm_fr hg hf (fun i hi hne => by omega) ?_)))
      rw [e, hg a ha2, hg b hb2]
      exact eqW_rf
    · refine sm_derive hM.1.1 hx (fun z => absurd ha z) (fun s' a' y' b' S' x' hs' ha' hy' hb' e1 e2 e3 e4 hu hn hag => hQ S' (MR_S hM hu hn ?_))
      have i1 := s_inj (by omega) (by omega) e1
      have i2 := s_inj (by omega) (by omega) e2
      have i3 := s_inj (by omega) (by omega) e3
      have i4 := s_inj (by omega) (by omega) e4
      subst i1 i2 i3 i4
      refine xr_ag hW hag (xr_if (fun s' w hs' hw => ?_))
      rw [rwK_rs hW hw, acL_K, kN_0, ka_0', dvA_K hL]
      rfl
  · refine ⟨-1, A, rfl, fun Q hQ => ?_, fun Q hQ => ?_⟩
    · exact ns_b (fun q1 => ns_b (fun q2 => ns_b (fun q3 => nl_a (P := fun S4 => _ ∧ _ ∧ _ ∧ wp_X0_setInEach Ln S4 _ _ _ _ _) (R := fun S4 => Q (-1) S4) hcv.1 (fun q4 => absurd ⟨q1, q2, q3, q4⟩ ha) (fun _ => hQ _ hC)) (fun _ => hQ _ hC)) (fun _ => hQ _ hC)) (fun _ => hQ _ hC)
    · exact sm_derive hM.1.1 hx (fun _ => hQ _ hM) (fun s' a' y' b' S' x' hs' ha' hy' hb' e1 e2 e3 e4 hu hn hag => absurd ⟨by rw [e1]; exact isS_n hs', by rw [e2]; exact isS_n ha', by rw [e4]; exact isS_n hb', by rw [e3, nI_i (by omega)]; omega⟩ ha)
theorem si_replace {a1 a2 a3 a4 : Int32} (h : CX L d Ln A Sc Sm x g) : SIM L d Ln A.2.2.1.1 (fun Q => wp_X7_replace Ln Sc a1 a2 a3 a4 Q) (fun Q => wp_X8_replace Sm a1 a2 a3 a4 Q) := by
  obtain ⟨hcf, hx, hcv, hg, hC, hM, -⟩ := id h
  obtain ⟨hW, hL, hd1, hd⟩ := CX_W h
  have hL4 := (cf_L hcf).2
  by_cases ha : isS a1 ∧ isS a2 ∧ isS a4 ∧ 0 ≤ a3.toInt ∧ a3.toInt < L
  · obtain ⟨s, hs, rfl⟩ := isS_of ha.1
    obtain ⟨a, ha2, rfl⟩ := isS_of ha.2.1
    obtain ⟨b, hb2, rfl⟩ := isS_of ha.2.2.1
    obtain ⟨y, hy, rfl⟩ := let_of ha.2.2.2 hL4
    obtain ⟨d1, d2, d3, d4⟩ := cell0 h hb2
    by_cases hv : x (364 * b) = 0
    · have zb : g (7 + b) 0 = 0 := by rw [hg b hb2]; show kN (x (364 * b)) = 0; rw [hv, kN_0]
      refine ⟨0, (va_up (rwK x) s (rpK L d y (rwK x a) (rwK x b)), A.2), rfl, fun Q hQ => ?_, fun Q hQ => ?_⟩
      · refine ns_b (fun _ => ns_b (fun _ => ns_b (fun _ => nl_q hcv.1 (fun _ => ⟨fun _ => ?_, fun z => absurd rfl z⟩) (fun z => absurd ha.2.2.2 z)) (fun z => absurd ha.2.2.1 z)) (fun z => absurd ha.2.1 z)) (fun z => absurd ha.1 z)
        rw [ix7 hs, ix7 ha2, ix7 hb2, d3]
        refine ⟨vin8 hb2, d1, d2, fun _ => ⟨vin8 hs, vin8 ha2, vin8 hb2, ?_⟩, fun z => absurd ((nI_0q d4).mpr hv) z⟩
        refine cq_setInAll hcv (kV7 hs) (by omega) (by omega) hy zb (fun S' g' hu hc' hf e => hQ S' (CR_V hC hu hc' (sm_fr hg hf (fun i hi hne => by unfold kB; omega) ?_)))
        rw [hg a ha2, hg b hb2] at e
        exact e
      · refine sm_replace hM.1.1 hx (fun z => absurd ha z) (fun s' a' y' b' hs' ha' hy' hb' e1 e2 e3 e4 z => ?_) (fun s' a' y' b' S' hs' ha' hy' hb' e1 e2 e3 e4 _ hu hn => hQ S' (MR_S hM hu hn ?_))
        · have i4 := s_inj (by omega) (by omega) e4
          subst i4
          exact absurd hv z
        · have i1 := s_inj (by omega) (by omega) e1
          have i2 := s_inj (by omega) (by omega) e2
          have i3 := s_inj (by omega) (by omega) e3
          have i4 := s_inj (by omega) (by omega) e4
          subst i1 i2 i3 i4
          exact xr_if (fun s' w hs' hw => rpX_K hL hW hd1 (by omega) (by omega) hs' (fun j hj => (hx j hj).2) hw)
    · refine ⟨-3, A, rfl, fun Q hQ => ?_, fun Q hQ => ?_⟩
      · refine ns_b (fun _ => ns_b (fun _ => ns_b (fun _ => nl_q hcv.1 (fun _ => ⟨fun _ => ?_, fun z => absurd rfl z⟩) (fun z => absurd ha.2.2.2 z)) (fun z => absurd ha.2.2.1 z)) (fun z => absurd ha.2.1 z)) (fun z => absurd ha.1 z)
        rw [ix7 hs, ix7 ha2, ix7 hb2, d3]
        exact ⟨vin8 hb2, d1, d2, fun z => absurd ((nI_0q d4).mp z) hv, fun _ => hQ _ hC⟩
      · refine sm_replace hM.1.1 hx (fun z => absurd ha z) (fun s' a' y' b' hs' ha' hy' hb' e1 e2 e3 e4 z => hQ _ hM) (fun s' a' y' b' S' hs' ha' hy' hb' e1 e2 e3 e4 z hu hn => ?_)
        have i4 := s_inj (by omega) (by omega) e4
        subst i4
        exact absurd z hv
  · refine ⟨-1, A, rfl, fun Q hQ => ?_, fun Q hQ => ?_⟩
    · exact ns_b (fun q1 => ns_b (fun q2 => ns_b (fun q3 => nl_q hcv.1 (fun q4 => absurd ⟨q1, q2, q3, q4⟩ ha) (fun _ => ⟨fun z => absurd z (by decide), fun _ => hQ _ hC⟩)) (fun _ => hQ _ hC)) (fun _ => hQ _ hC)) (fun _ => hQ _ hC)
    · exact sm_replace hM.1.1 hx (fun _ => hQ _ hM) (fun s' a' y' b' hs' ha' hy' hb' e1 e2 e3 e4 _ => absurd ⟨by rw [e1]; exact isS_n hs', by rw [e2]; exact isS_n ha', by rw [e4]; exact isS_n hb', by rw [e3, nI_i (by omega)]; omega⟩ ha) (fun s' a' y' b' S' hs' ha' hy' hb' e1 e2 e3 e4 _ hu hn => absurd ⟨by rw [e1]; exact isS_n hs', by rw [e2]; exact isS_n ha', by rw [e4]; exact isS_n hb', by rw [e3, nI_i (by omega)]; omega⟩ ha)
theorem i_of {k : Int32} {n : Nat} (h0 : 0 ≤ k.toInt) (h1 : k.toInt ≤ n) (hn : n < 1000) : ∃ m, m ≤ n ∧ k = nI m := by
  refine ⟨k.toInt.toNat, by omega, ?_⟩
  apply Int32.toInt_inj.mp
  rw [nI_i (by omega)]
  omega
theorem si_part {a1 a2 a3 : Int32} (h : CX L d Ln A Sc Sm x g) : SIM L d Ln A.2.2.1.1 (fun Q => wp_X7_part Ln Sc a1 a2 a3 Q) (fun Q => wp_X8_part Sm a1 a2 a3 Q) := by
  obtain ⟨hcf, hx, hcv, hg, hC, hM, -⟩ := id h
  obtain ⟨hW, hL, hd1, hd⟩ := CX_W h
  have e0 : (0 : Int32).toInt = 0 := by decide
  have ed : (Sc.1 3).toInt = d := by rw [hcv.1.2.2.1, nI_i (by omega)]
  by_cases ha : isS a1 ∧ isS a2 ∧ 0 ≤ a3.toInt ∧ a3.toInt ≤ d
  · obtain ⟨s, hs, rfl⟩ := isS_of ha.1
    obtain ⟨a, ha2, rfl⟩ := isS_of ha.2.1
    obtain ⟨n, hn, rfl⟩ := i_of ha.2.2.1 ha.2.2.2 (by omega)
    refine ⟨0, (va_up (rwK x) s (kpK L n (rwK x a)), A.2), rfl, fun Q hQ => ?_, fun Q hQ => ?_⟩
    · refine ns_b (fun _ => ns_b (fun _ => ⟨fun z => ?_, fun _ => ⟨fun _ => ⟨vin8 hs, vin8 ha2, ?_⟩, fun z => ?_⟩⟩) (fun z => absurd ha.2.1 z)) (fun z => absurd ha.1 z)
      · rw [i32_lt, e0] at z; omega
      · rw [ix7 hs, ix7 ha2]
        refine cq_keep hcv (kV7 hs) (kV7 ha2) hn (fun S' hu hc' => hQ S' (CR_V hC hu hc' (sm_fr hg (fr_u (P := fun k => k = 7 + s) rfl) (fun i hi hne => by omega) ?_)))
        rw [va_up_self, hg a ha2]
        exact eqW_rf
      · rw [i32_le, ed] at z; omega
    · refine sm_part hM.1.1 hx (fun z => absurd ha z) (fun s' a' n' S' hs' ha' hn' e1 e2 e3 hu hnn => hQ S' (MR_S hM hu hnn ?_))
      have i1 := s_inj (by omega) (by omega) e1
      have i2 := s_inj (by omega) (by omega) e2
      have i3 := s_inj (by omega) (by omega) e3
      subst i1 i2 i3
      exact xr_if (fun s' w hs' hw => partX_K hW hn' hw)
  · refine ⟨-1, A, rfl, fun Q hQ => ?_, fun Q hQ => ?_⟩
    · refine ns_b (fun q1 => ns_b (fun q2 => ⟨fun z => hQ _ hC, fun z => ⟨fun z2 => absurd ⟨q1, q2, ?_, ?_⟩ ha, fun _ => hQ _ hC⟩⟩) (fun _ => hQ _ hC)) (fun _ => hQ _ hC)
      · rw [i32_lt, e0] at z; omega
      · rw [i32_le, ed] at z2; exact z2
    · exact sm_part hM.1.1 hx (fun _ => hQ _ hM) (fun s' a' n' S' hs' ha' hn' e1 e2 e3 hu hnn => absurd ⟨by rw [e1]; exact isS_n hs', by rw [e2]; exact isS_n ha', by rw [e3, nI_i (by omega)]; omega⟩ ha)
theorem si_pair {a1 a2 : Int32} (h : CX L d Ln A Sc Sm x g) : SIM L d Ln A.2.2.1.1 (fun Q => wp_X7_pair Ln Sc a1 a2 Q) (fun Q => wp_X8_pair Sm a1 a2 Q) := by
  obtain ⟨hcf, hx, hcv, hg, hC, hM, -⟩ := id h
  obtain ⟨hW, hL, hd1, hd⟩ := CX_W h
  by_cases ha : isS a1 ∧ isS a2
  · obtain ⟨s, hs, rfl⟩ := isS_of ha.1
    obtain ⟨a, ha2, rfl⟩ := isS_of ha.2
    refine ⟨nI (pairN x s a (ofs L (d + 1))), A, rfl, fun Q hQ => ?_, fun Q hQ => ?_⟩
    · refine ns_b (fun _ => ns_a (fun _ => ⟨vin8 hs, vin8 ha2, ?_⟩) (fun z => absurd ha.2 z)) (fun z => absurd ha.1 z)
      rw [ix7 hs, ix7 ha2]
      refine cq_inner hcv (kV7 hs) (kV7 ha2) ?_
      rw [hg s hs, hg a ha2, ← pairN_K, kI_N pairN_lt]
      exact hQ _ hC
    · refine sm_pair hM.1.1 hx (fun z => absurd ha z) (fun s' a' hs' ha' e1 e2 => ?_)
      have i1 := s_inj (by omega) (by omega) e1
      have i2 := s_inj (by omega) (by omega) e2
      subst i1 i2
      exact hQ _ hM
  · refine ⟨-1, A, rfl, fun Q hQ => ?_, fun Q hQ => ?_⟩
    · exact ns_b (fun q1 => ns_a (fun q2 => absurd ⟨q1, q2⟩ ha) (fun _ => hQ _ hC)) (fun _ => hQ _ hC)
    · exact sm_pair hM.1.1 hx (fun _ => hQ _ hM) (fun s' a' hs' ha' e1 e2 => absurd ⟨by rw [e1]; exact isS_n hs', by rw [e2]; exact isS_n ha'⟩ ha)
end SM
