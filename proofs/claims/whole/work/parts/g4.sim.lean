/-! both answer alike: schemes, counts, fractions -/
section SN
variable {L d : Nat} {Ln : Nat → Nat} {A : AS} {Sc : cs_T} {Sm : ms_T} {x : Nat → Nat} {g : Nat → Nat → Kf}
theorem cv_o {S S' : cs_T} (h : cv L d Ln S g) (h1 : ∀ j, j ≤ 3 → S'.1 j = S.1 j) (h2 : ∀ k, k ≤ 32 → S'.2.1 k = S.2.1 k) : cv L d Ln S' g := by
  obtain ⟨⟨c1, c2, c3, c4, c5, c6, c7⟩, a2, a3, a4, a5, a6, a7⟩ := h
  refine ⟨⟨c1, by rw [h1 2 (by decide)]; exact c2, by rw [h1 3 (by decide)]; exact c3, c4, c5, by rw [h2 0 (by decide)]; exact c6, by rw [h2 1 (by decide)]; exact c7⟩, by rw [h1 0 (by decide)]; exact a2, by rw [h1 1 (by decide)]; exact a3, a4, a5, by rw [h2 2 (by decide)]; exact a6, fun k j hk hj => ?_⟩
  unfold kV at hk
  rw [h2 k (by omega)]
  exact a7 k j (by unfold kV; omega) hj
theorem CR_s {S S' : cs_T} {st : Nat × (Nat → Nat) × (Nat → Kf)} (h : CR L d Ln A S) (h1 : ∀ j, j ≠ 9 → S'.1 j = S.1 j) (h2 : S'.2.2 = S.2.2) (h3 : ∀ k, k ≠ 38 → k ≠ 39 → S'.2.1 k = S.2.1 k) (hst : cst L Ln S' st.1 st.2.1 st.2.2) : CR L d Ln (A.1, st, A.2.2) S' := by
  obtain ⟨⟨g, a1, a1'⟩, a2, a3, ⟨a4, ⟨rk, rr, pp, a5, a6, a7, a7'⟩, a8, a9, a10⟩, a11⟩ := h
  refine ⟨⟨g, cv_o a1 (fun j hj => h1 j (by omega)) (fun k hk => h3 k (by omega) (by omega)), a1'⟩, ?_, hst, ⟨a4, ⟨rk, rr, pp, ?_, a6, ?_, ?_⟩, ?_, a9, a10⟩, ?_⟩
  · unfold cch at a2 ⊢
    rw [h3 36 (by decide) (by decide), h3 33 (by decide) (by decide), h3 34 (by decide) (by decide), h3 35 (by decide) (by decide)]
    exact a2
  · unfold clw at a5 ⊢
    rw [h3 42 (by decide) (by decide), h3 43 (by decide) (by decide), h3 40 (by decide) (by decide), h3 44 (by decide) (by decide), h3 47 (by decide) (by decide)]
    exact a5
  · rw [h2]; exact a7
  · rw [h2]; exact a7'
  · rw [h1 4 (by decide)]; exact a8
  · unfold tpC at a11 ⊢
    rw [h1 5 (by decide), h3 46 (by decide) (by decide)]
    exact a11
theorem ck_o {S S' : ms_T} (h : ck_ok L d S) (u1 : ∀ j, j ≤ 3 → S'.1 j = S.1 j) (u2 : ∀ k, k ≤ 7 → S'.2.1 k = S.2.1 k) (u3 : ∀ j, j < 25344 → S'.2.2 1 j = S.2.2 1 j) : ck_ok L d S' := by
  obtain ⟨⟨m1, m2, m3, m4, m5, m6, m7⟩, h2, h3, h4⟩ := h
  refine ⟨⟨m1, by rw [u1 0 (by decide)]; exact m2, by rw [u1 1 (by decide)]; exact m3, by rw [u1 2 (by decide)]; exact m4, by rw [u2 0 (by decide)]; exact m5, by rw [u2 1 (by decide)]; exact m6, by rw [u2 2 (by decide)]; exact m7⟩, by rw [u1 3 (by decide)]; exact h2, fun n v a b c => ?_, by rw [u2 7 (by decide)]; exact h4⟩
  obtain ⟨r1, r2⟩ := h3 n v a b c
  rw [u2 7 (by decide)]
  refine ⟨fun q => ?_, r2⟩
  have r1' := r1 q
  unfold rowOK at r1' ⊢
  rw [u2 7 (by decide), u2 3 (by decide), u2 6 (by decide), u2 4 (by decide), u2 5 (by decide)]
  obtain ⟨s1, s2, s3, s4, s5, s6⟩ := r1'
  refine ⟨s1, s2, s3, s4, s5, fun u hu => ?_⟩
  have hc : cnt L d (ofs L n + v) ≤ 98 := cnt_99 m1 (Nat.le_of_lt (pl_W b c))
  have hp : L ^ n ≤ 256 := by
    have := cf_pow m1 b
    omega
  rw [u3 _ (by omega)]
  exact s6 u hu
theorem MR_s {S S' : ms_T} {st : Nat × (Nat → Nat) × (Nat → Kf)} (h : MR L d A S) (u1 : ∀ j, j ≠ 4 → S'.1 j = S.1 j) (u2 : ∀ k, k ≠ 8 → S'.2.1 k = S.2.1 k) (u3 : ∀ k, k ≠ 4 → S'.2.2 k = S.2.2 k) (hst : stp L S' st.1 st.2.1 (fun i => (st.2.2 i).val)) : MR L d (A.1, st, A.2.2) S' := by
  obtain ⟨h1, ⟨x, hx, hX⟩, h3, h4, h5⟩ := h
  refine ⟨ck_o h1 (fun j hj => u1 j (by omega)) (fun k hk => u2 k (by omega)) (fun j _ => by rw [u3 1 (by decide)]), ⟨x, fun j hj => by rw [u3 0 (by decide)]; exact hx j hj, hX⟩, hst, ?_, ?_⟩
  · unfold lwp at h4 ⊢
    rw [u1 5 (by decide), u2 9 (by decide), u3 5 (by decide)]
    exact h4
  · unfold tap at h5 ⊢
    rw [u1 7 (by decide), u2 11 (by decide)]
    exact h5
theorem si_unstep (h : CX L d Ln A Sc Sm x g) : SIM L d Ln A.2.2.1.1 (fun Q => wp_X7_unstep Ln Sc Q) (fun Q => wp_X8_unstep Sm Q) := by
  obtain ⟨hcf, hx, hcv, hg, hC, hM, -⟩ := id h
  refine ⟨nI A.2.1.1, (A.1, (0, A.2.1.2), A.2.2), rfl, fun Q hQ => ?_, fun Q hQ => ?_⟩
  · rintro _ rfl
    have hst := hC.2.2.1
    rw [hst.1]
    refine hQ _ (CR_s hC (fun j hj => sF_o hj) rfl (fun _ _ _ => rfl) ⟨sF_s, Nat.zero_le _, hst.2.2.1, hst.2.2.2.1, fun i hi => absurd hi (Nat.not_lt_zero i)⟩)
  · refine sm_unstep ?_
    rw [hM.2.2.1.1]
    refine hQ _ (MR_s hM (fun j hj => by rw [sF_F, if_neg hj]) (fun _ _ => rfl) (fun _ _ => rfl) ⟨by rw [sF_F, if_pos rfl]; rfl, Nat.zero_le _, fun i hi => absurd hi (Nat.not_lt_zero i)⟩)
theorem si_step {a1 a2 a3 : Int32} (h : CX L d Ln A Sc Sm x g) : SIM L d Ln A.2.2.1.1 (fun Q => wp_X7_step Ln Sc a1 a2 a3 Q) (fun Q => wp_X8_step Sm a1 a2 a3 Q) := by
  obtain ⟨hcf, hx, hcv, hg, hC, hM, -⟩ := id h
  obtain ⟨hW, hL, hd1, hd⟩ := CX_W h
  have hL4 := (cf_L hcf).2
  have e9 : (99 : Int32).toInt = 99 := by decide
  have e9' : (-(99 : Int32)).toInt = -99 := by decide
  obtain ⟨t1, t2, t3, t4, t5⟩ := hC.2.2.1
  by_cases ha : 0 ≤ a1.toInt ∧ a1.toInt < L
  · obtain ⟨y, hy, rfl⟩ := let_of ha hL4
    by_cases hp : isQ a2 a3
    · have hpr : partN a2.toInt a3.toInt < PR := Nat.mod_lt _ (by decide)
      by_cases hk : A.2.1.1 = 12
      · refine ⟨-4, A, rfl, fun Q hQ => ?_, fun Q hQ => ?_⟩
        · refine nl_q hcv.1 (fun _ => ⟨fun _ => nf_a e9 e9' (fun _ => ⟨fun z => ?_, fun _ => hQ _ hC⟩) (fun z => absurd hp z), fun z => absurd rfl z⟩) (fun z => absurd ha z)
          rw [t1, hk] at z
          exact absurd z (by decide)
        · exact sm_step hM.1.1 hM.2.2.1 (fun z => absurd ha z) (fun _ _ _ z => absurd hp z) (fun _ _ _ _ _ => hQ _ hM) (fun _ _ _ _ z => absurd hk (by omega))
      · refine ⟨nI (A.2.1.1 + 1), (A.1, (A.2.1.1 + 1, (fun i => if i = A.2.1.1 then y else A.2.1.2.1 i), (fun i => if i = A.2.1.1 then kN (partN a2.toInt a3.toInt) else A.2.1.2.2 i)), A.2.2), rfl, fun Q hQ => ?_, fun Q hQ => ?_⟩
        · refine nl_q hcv.1 (fun _ => ⟨fun _ => nf_a e9 e9' (fun _ => ⟨fun _ => ?_, fun z => ?_⟩) (fun z => absurd hp z), fun z => absurd rfl z⟩) (fun z => absurd ha z)
          · refine cn_ratio hp.2.2.1 (by have := hp.2.2.2; omega) ⟨fun z => ?_, fun _ => ?_⟩
            · rw [t1] at z
              exact absurd z (nI_ge (a := A.2.1.1) (b := 12) (by omega) (by omega))
            have f9 : (cs_sI Sc 38 (Sc.1 9).toNatClampNeg (nI y)).1 9 = nI A.2.1.1 := t1
            have f9' : ∀ v, (cs_sI (cs_sI Sc 38 (Sc.1 9).toNatClampNeg (nI y)) 39 A.2.1.1 v).1 9 = nI A.2.1.1 := fun _ => t1
            rw [f9, nI_clamp (show A.2.1.1 < 2 ^ 31 by omega), f9', sF_s, t3, t4, t1, nI_clamp (show A.2.1.1 < 2 ^ 31 by omega), nI_1]
            refine ⟨vp_in_nI (by omega) (by decide), vp_in_nI (by omega) (by decide), ?_⟩
            refine hQ _ (CR_s hC (fun j hj => sF_o hj) rfl (fun k h38 h39 => ?_) ⟨sF_s, by show A.2.1.1 + 1 ≤ 12; omega, t3, t4, fun i hi => ?_⟩)
            · show (cs_sI (cs_sI Sc 38 A.2.1.1 (nI y)) 39 A.2.1.1 _).2.1 k = _
              rw [cI_r h39, cI_r h38]
            · show (cs_sI (cs_sI Sc 38 A.2.1.1 (nI y)) 39 A.2.1.1 _).2.1 38 i = _ ∧ _ ∧ (cs_sI (cs_sI Sc 38 A.2.1.1 (nI y)) 39 A.2.1.1 _).2.1 39 i = _
              dsimp only at hi ⊢
              rw [cI_r (by decide), cI_g, if_pos rfl, cI_g, if_pos rfl]
              by_cases e : i = A.2.1.1
              · rw [if_pos e, if_pos e, if_pos e, if_pos e]
                exact ⟨rfl, hy, (kI_N hpr).symm⟩
              · rw [if_neg e, if_neg e, if_neg e, if_neg e, cI_r (by decide)]
                exact t5 i (by omega)
          · rw [t1] at z
            exact absurd (show nI A.2.1.1 < nI 12 from (i32_lt _ _).mpr (by rw [nI_i (by omega), nI_i (by omega)]; omega)) z
        · refine sm_step hM.1.1 hM.2.2.1 (fun z => absurd ha z) (fun _ _ _ z => absurd hp z) (fun _ _ _ _ z => absurd z hk) (fun y' hy' e1 _ _ hst => ?_)
          have i1 := s_inj (by omega) (by omega) e1
          subst i1
          refine hQ _ (MR_s hM (fun j hj => ?_) (fun k hk2 => ?_) (fun k hk2 => ?_) ?_)
          · unfold stepS
            rw [sF_F, if_neg hj]
            rfl
          · unfold stepS
            rw [sF_I]
            show (ms_sI Sm 8 A.2.1.1 (nI y')).2.1 k = _
            rw [sI_r hk2]
          · exact va_up_ne _ _ hk2
          · have ef : (fun i => (if i = A.2.1.1 then kN (partN a2.toInt a3.toInt) else A.2.1.2.2 i).val) = (fun i => if i = A.2.1.1 then partN a2.toInt a3.toInt else (A.2.1.2.2 i).val) := by
              funext i
              by_cases e : i = A.2.1.1
              · rw [if_pos e, if_pos e, kN_v hpr]
              · rw [if_neg e, if_neg e]
            dsimp only
            rw [ef]
            exact hst
    · refine ⟨-2, A, rfl, fun Q hQ => ?_, fun Q hQ => ?_⟩
      · exact nl_q hcv.1 (fun _ => ⟨fun _ => nf_a e9 e9' (fun z => absurd z hp) (fun _ => hQ _ hC), fun z => absurd rfl z⟩) (fun z => absurd ha z)
      · exact sm_step hM.1.1 hM.2.2.1 (fun z => absurd ha z) (fun _ _ _ _ => hQ _ hM) (fun _ _ _ z => absurd z hp) (fun _ _ _ z => absurd z hp)
  · refine ⟨-1, A, rfl, fun Q hQ => ?_, fun Q hQ => ?_⟩
    · exact nl_q hcv.1 (fun z => absurd z ha) (fun _ => ⟨fun z => absurd z (by decide), fun _ => hQ _ hC⟩)
    · exact sm_step hM.1.1 hM.2.2.1 (fun _ => hQ _ hM) (fun y hy e => absurd (by rw [e, nI_i (by omega)]; omega) ha) (fun y hy e => absurd (by rw [e, nI_i (by omega)]; omega) ha) (fun y hy e => absurd (by rw [e, nI_i (by omega)]; omega) ha)
theorem mk_v {k : Nat} {ps : Nat → Kf} : (fun i => kN ((ps i).val)) = ps := by
  funext i
  exact kN_val _
theorem si_scheme {a : Int32} (h : CX L d Ln A Sc Sm x g) : SIM L d Ln A.2.2.1.1 (fun Q => wp_X7_scheme Ln Sc a Q) (fun Q => wp_X8_scheme Sm a Q) := by
  obtain ⟨hcf, hx, hcv, hg, hC, hM, -⟩ := id h
  obtain ⟨hW, hL, hd1, hd⟩ := CX_W h
  obtain ⟨t1, t2, t3, t4, t5⟩ := id hC.2.2.1
  by_cases ha : isS a
  · obtain ⟨s, hs, rfl⟩ := isS_of ha
    refine ⟨0, (va_up (rwK x) s (madeK L d A.2.1.1 A.2.1.2.1 A.2.1.2.2), A.2), rfl, fun Q hQ => ?_, fun Q hQ => ?_⟩
    · refine ns_a (fun _ => ⟨vin8 hs, ?_⟩) (fun z => absurd ha z)
      rw [ix7 hs]
      exact cq_make hcv (kV7 hs) hC.2.2.1 (fun S' g' hu hc' hf e => hQ S' (CR_V hC hu hc' (sm_fr hg hf (fun i hi hne => by omega) e)))
    · refine sm_scheme hM.1.1 hM.2.2.1 hx (fun z => absurd ha z) (fun s' S' hs' e hu hn => hQ S' (MR_S hM hu hn ?_))
      have i1 := s_inj (by omega) (by omega) e
      subst i1
      refine xr_if (fun s'' w hs'' hw => ?_)
      obtain ⟨k1, k2⟩ := makesX_K (x := x) (ls := A.2.1.2.1) (ps := fun i => (A.2.1.2.2 i).val) (k := A.2.1.1) (to := s') (s := s'') hL hW hd1 hd (fun i hi => (t5 i hi).2.1) (Or.inl hs'') hw
      by_cases q : s'' = s'
      · rw [if_pos q, k1 q, mk_v (k := 0)]
      · rw [if_neg q, k2 hs'' q]
  · refine ⟨-1, A, rfl, fun Q hQ => ?_, fun Q hQ => ?_⟩
    · exact ns_a (fun z => absurd z ha) (fun _ => hQ _ hC)
    · exact sm_scheme hM.1.1 hM.2.2.1 hx (fun _ => hQ _ hM) (fun s S' hs e _ _ => absurd (by rw [e]; exact isS_n hs) ha)
theorem ord_ex {f : Nat → Kf} : ∀ k m, m + k = d → (∀ n, 1 ≤ n → n ≤ m → okAt L f n) → ∃ r, ordR L d f r
  | 0, m, e, h => ⟨m, by omega, h, fun z => absurd z (by omega)⟩
  | k + 1, m, e, h => by
    by_cases q : okAt L f (m + 1)
    · refine ord_ex k (m + 1) (by omega) (fun n h1 h2 => ?_)
      by_cases e2 : n = m + 1
      · rw [e2]; exact q
      · exact h n h1 (by omega)
    · exact ⟨m, by omega, h, fun _ => q⟩
theorem si_order (h : CX L d Ln A Sc Sm x g) : SIM L d Ln A.2.2.1.1 (fun Q => wp_X7_order Ln Sc Q) (fun Q => wp_X8_order Sm Q) := by
  obtain ⟨hcf, hx, hcv, hg, hC, hM, hA⟩ := id h
  obtain ⟨hW, hL, hd1, hd⟩ := CX_W h
  obtain ⟨t1, t2, t3, t4, t5⟩ := id hC.2.2.1
  obtain ⟨r, hr⟩ := ord_ex (L := L) (d := d) (f := madeK L d A.2.1.1 A.2.1.2.1 A.2.1.2.2) d 0 (by omega) (fun n h1 h2 => absurd h1 (by omega))
  refine ⟨nI r, A, rfl, fun Q hQ => ?_, fun Q hQ => ?_⟩
  · refine cq_good hcv hC.2.2.1 (fun r' S' g' hu hc' hf hr' => ?_)
    rw [ordR_u hr' hr]
    have hX := sm_f0 (L := L) (d := d) hg hf (fun i hi => by omega)
    rw [← hA] at hX
    exact hQ S' (CR_V hC hu hc' hX)
  · refine sm_order hM.1.1 hM.2.2.1 hx (fun S' hu hn => ?_)
    have e : orN L d (fun w => makesX L d A.2.1.1 A.2.1.2.1 (fun i => (A.2.1.2.2 i).val) x 18 (364 * 18 + w)) (ofs L (d + 1)) 0 = r := by
      refine ordR_u (orN_R hL hd1 (fun w hw => ⟨(hn _ (by omega)).2, ?_⟩) made_0) hr
      obtain ⟨k1, k2⟩ := makesX_K (x := x) (ls := A.2.1.2.1) (ps := fun i => (A.2.1.2.2 i).val) (k := A.2.1.1) (to := 18) (s := 18) hL hW hd1 hd (fun i hi => (t5 i hi).2.1) (Or.inr rfl) hw
      rw [show kN (makesX L d A.2.1.1 A.2.1.2.1 (fun i => (A.2.1.2.2 i).val) x 18 (364 * 18 + w)) = rwK (makesX L d A.2.1.1 A.2.1.2.1 (fun i => (A.2.1.2.2 i).val) x 18) 18 w from rfl, k1 rfl, mk_v (k := 0)]
    rw [e]
    refine hQ S' (MR_S hM hu hn (fun s hs w hw => ?_))
    obtain ⟨k1, k2⟩ := makesX_K (x := x) (ls := A.2.1.2.1) (ps := fun i => (A.2.1.2.2 i).val) (k := A.2.1.1) (to := 18) (s := s) hL hW hd1 hd (fun i hi => (t5 i hi).2.1) (Or.inl hs) hw
    rw [k2 hs (by omega), hA]
theorem si_count {a : Int32} (h : CX L d Ln A Sc Sm x g) : SIM L d Ln A.2.2.1.1 (fun Q => wp_X7_count Ln Sc a Q) (fun Q => wp_X8_count Sm a Q) := by
  obtain ⟨hcf, hx, hcv, hg, hC, hM, hA⟩ := id h
  obtain ⟨hW, hL, hd1, hd⟩ := CX_W h
  have go : ∀ (k : Int32) (r : Int32), a = k → (∀ Q : Int32 → cs_T → Prop, Q r Sc → wp_X7_count Ln Sc a Q) → (∀ Q : Int32 → ms_T → Prop, Q r Sm → wp_X8_count Sm a Q) → SIM L d Ln A.2.2.1.1 (fun Q => wp_X7_count Ln Sc a Q) (fun Q => wp_X8_count Sm a Q) := fun k r _ c m => ⟨r, A, rfl, fun Q hQ => c Q (hQ _ hC), fun Q hQ => m Q (hQ _ hM)⟩
  have w6 : ∀ Q : Int32 → cs_T → Prop, Q (nI (ofs L (d + 1))) Sc → wp_X6_all Ln Sc Q := fun Q q => by
    unfold wp_X6_all
    rw [hcv.1.2.2.1, nI_1, hcv.1.2.2.2.2.1, nI_clamp (by omega), hcv.1.2.2.2.2.2.2 (d + 1) (by omega)]
    exact ⟨vp_in_nI (by omega) (by omega), q⟩
  by_cases h0 : a = 0
  · refine go 0 (nI L) h0 (fun Q q => ?_) (fun Q q => ?_)
    · subst h0
      exact ⟨fun _ => by rw [hcv.1.2.1]; exact q, fun z => absurd z (by decide), fun z => absurd z (by decide), fun z => absurd z (by decide), fun z => absurd z (by decide), fun z => absurd z (by decide), fun z => absurd z (by decide), fun z => absurd rfl z.1⟩
    · subst h0
      exact ⟨fun _ => by rw [hM.1.1.2.1]; exact q, fun z => absurd z (by decide), fun z => absurd z (by decide), fun z => absurd z (by decide), fun z => absurd z (by decide), fun z => absurd z (by decide), fun z => absurd z (by decide), fun z => absurd rfl z.1⟩
  by_cases h1 : a = 1
  · refine go 1 (nI d) h1 (fun Q q => ?_) (fun Q q => ?_)
    · subst h1
      exact ⟨fun z => absurd z (by decide), fun _ => by rw [hcv.1.2.2.1]; exact q, fun z => absurd z (by decide), fun z => absurd z (by decide), fun z => absurd z (by decide), fun z => absurd z (by decide), fun z => absurd z (by decide), fun z => absurd rfl z.2.1⟩
    · subst h1
      exact ⟨fun z => absurd z (by decide), fun _ => by rw [hM.1.1.2.2.1]; exact q, fun z => absurd z (by decide), fun z => absurd z (by decide), fun z => absurd z (by decide), fun z => absurd z (by decide), fun z => absurd z (by decide), fun z => absurd rfl z.2.1⟩
  by_cases h2 : a = 2
  · refine go 2 (nI (ofs L (d + 1))) h2 (fun Q q => ?_) (fun Q q => ?_)
    · subst h2
      exact ⟨fun z => absurd z (by decide), fun z => absurd z (by decide), fun _ => w6 _ q, fun z => absurd z (by decide), fun z => absurd z (by decide), fun z => absurd z (by decide), fun z => absurd z (by decide), fun z => absurd rfl z.2.2.1⟩
    · subst h2
      exact ⟨fun z => absurd z (by decide), fun z => absurd z (by decide), fun _ => by rw [hM.1.1.2.2.2.1]; exact q, fun z => absurd z (by decide), fun z => absurd z (by decide), fun z => absurd z (by decide), fun z => absurd z (by decide), fun z => absurd rfl z.2.2.1⟩
  by_cases h3 : a = 3
  · refine go 3 (nI (chC L d)) h3 (fun Q q => ?_) (fun Q q => ?_)
    · subst h3
      exact ⟨fun z => absurd z (by decide), fun z => absurd z (by decide), fun z => absurd z (by decide), fun _ => cq_all hcv.1 hC.2.1 q, fun z => absurd z (by decide), fun z => absurd z (by decide), fun z => absurd z (by decide), fun z => absurd rfl z.2.2.2.1⟩
    · subst h3
      exact ⟨fun z => absurd z (by decide), fun z => absurd z (by decide), fun z => absurd z (by decide), fun _ => by rw [hM.1.2.1]; exact q, fun z => absurd z (by decide), fun z => absurd z (by decide), fun z => absurd z (by decide), fun z => absurd rfl z.2.2.2.1⟩
  by_cases h4 : a = 4
  · refine go 4 (nI A.2.1.1) h4 (fun Q q => ?_) (fun Q q => ?_)
    · subst h4
      exact ⟨fun z => absurd z (by decide), fun z => absurd z (by decide), fun z => absurd z (by decide), fun z => absurd z (by decide), fun _ => by rw [hC.2.2.1.1]; exact q, fun z => absurd z (by decide), fun z => absurd z (by decide), fun z => absurd rfl z.2.2.2.2.1⟩
    · subst h4
      exact ⟨fun z => absurd z (by decide), fun z => absurd z (by decide), fun z => absurd z (by decide), fun z => absurd z (by decide), fun _ => by rw [hM.2.2.1.1]; exact q, fun z => absurd z (by decide), fun z => absurd z (by decide), fun z => absurd rfl z.2.2.2.2.1⟩
  by_cases h5 : a = 5
  · refine go 5 (nI A.2.2.1.1) h5 (fun Q q => ?_) (fun Q q => ?_)
    · subst h5
      exact ⟨fun z => absurd z (by decide), fun z => absurd z (by decide), fun z => absurd z (by decide), fun z => absurd z (by decide), fun z => absurd z (by decide), fun _ => by rw [hC.2.2.2.1.2.2.1]; exact q, fun z => absurd z (by decide), fun z => absurd rfl z.2.2.2.2.2.1⟩
    · subst h5
      exact ⟨fun z => absurd z (by decide), fun z => absurd z (by decide), fun z => absurd z (by decide), fun z => absurd z (by decide), fun z => absurd z (by decide), fun _ => by rw [hM.2.2.2.1.1]; exact q, fun z => absurd z (by decide), fun z => absurd rfl z.2.2.2.2.2.1⟩
  by_cases h6 : a = 6
  · refine go 6 (nI A.2.2.2.1) h6 (fun Q q => ?_) (fun Q q => ?_)
    · subst h6
      exact ⟨fun z => absurd z (by decide), fun z => absurd z (by decide), fun z => absurd z (by decide), fun z => absurd z (by decide), fun z => absurd z (by decide), fun z => absurd z (by decide), fun _ => by rw [hC.2.2.2.2.2.2.1]; exact q, fun z => absurd rfl z.2.2.2.2.2.2⟩
    · subst h6
      exact ⟨fun z => absurd z (by decide), fun z => absurd z (by decide), fun z => absurd z (by decide), fun z => absurd z (by decide), fun z => absurd z (by decide), fun z => absurd z (by decide), fun _ => by rw [hM.2.2.2.2.1]; exact q, fun z => absurd rfl z.2.2.2.2.2.2⟩
  · refine ⟨-1, A, rfl, fun Q hQ => ?_, fun Q hQ => ?_⟩
    · exact ⟨fun z => absurd z h0, fun z => absurd z h1, fun z => absurd z h2, fun z => absurd z h3, fun z => absurd z h4, fun z => absurd z h5, fun z => absurd z h6, fun _ => hQ _ hC⟩
    · exact ⟨fun z => absurd z h0, fun z => absurd z h1, fun z => absurd z h2, fun z => absurd z h3, fun z => absurd z h4, fun z => absurd z h5, fun z => absurd z h6, fun _ => hQ _ hM⟩
end SN
