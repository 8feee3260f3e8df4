/-! both answer alike: feed, size, read -/
section SR
variable {L d : Nat} {Ln : Nat → Nat} {A : AS} {Sc : cs_T} {Sm : ms_T} {x : Nat → Nat} {g : Nat → Nat → Kf}
theorem bv_sh {a : BitVec 64} {n : Nat} (hn : n + 8 ≤ 64) : a.sshiftRight n &&& 255#64 = a >>> n &&& 255#64 := by
  apply BitVec.eq_of_getLsbD_eq
  intro i hi
  rw [BitVec.getLsbD_and, BitVec.getLsbD_and]
  by_cases h8 : i < 8
  · rw [BitVec.getLsbD_sshiftRight, BitVec.getLsbD_ushiftRight, if_pos (by omega), decide_eq_false (show ¬ 64 ≤ i by omega)]
    rfl
  · have : (255#64).getLsbD i = false := by
      rw [BitVec.getLsbD_ofNat, Nat.testBit_lt_two_pow (show 255 < 2 ^ i from Nat.lt_of_lt_of_le (show 255 < 2 ^ 8 by decide) (Nat.pow_le_pow_right (by decide) (by omega))), Bool.and_false]
    rw [this, Bool.and_false, Bool.and_false]
theorem byt_c {w : Int64} {k : Nat} (hk : k < 8) : ((((w.toUInt64 >>> ((8 * nI k).toInt64.toUInt64 &&& Int64.toUInt64 63)).toInt64) &&& 255).toInt32) = nI (bytN w k) := by
  have e : ((w.toUInt64 >>> ((8 * nI k).toInt64.toUInt64 &&& Int64.toUInt64 63)).toInt64 &&& 255) = bytI w k := by
    apply Int64.toBitVec_inj.mp
    unfold bytI
    rw [Int64.toBitVec_and, Int64.toBitVec_and]
    have h1 : (w.toUInt64 >>> ((8 * nI k).toInt64.toUInt64 &&& Int64.toUInt64 63)).toInt64.toBitVec = w.toBitVec >>> (8 * k) := by
      have : ∀ k, k < 8 → ∀ b : BitVec 64, (UInt64.ofBitVec b >>> ((8 * nI k).toInt64.toUInt64 &&& Int64.toUInt64 63)).toBitVec = b >>> (8 * k) := by
        intro k hk b
        have hs : ((8 * nI k).toInt64.toUInt64 &&& Int64.toUInt64 63).toBitVec % 64 = BitVec.ofNat 64 (8 * k) := by
          match k, hk with
          | 0, _ => decide
          | 1, _ => decide
          | 2, _ => decide
          | 3, _ => decide
          | 4, _ => decide
          | 5, _ => decide
          | 6, _ => decide
          | 7, _ => decide
        rw [UInt64.toBitVec_shiftRight, hs, BitVec.ushiftRight_eq', BitVec.toNat_ofNat, Nat.mod_eq_of_lt (by omega)]
      exact this k hk w.toBitVec
    have h2 : (w >>> ((8 * nI k).toInt64 &&& 63)).toBitVec = w.toBitVec.sshiftRight (8 * k) := by
      have hs : ((8 * nI k).toInt64 &&& 63).toBitVec.smod 64 = BitVec.ofNat 64 (8 * k) := by
        match k, hk with
        | 0, _ => decide
        | 1, _ => decide
        | 2, _ => decide
        | 3, _ => decide
        | 4, _ => decide
        | 5, _ => decide
        | 6, _ => decide
        | 7, _ => decide
      rw [Int64.toBitVec_shiftRight, hs, BitVec.sshiftRight_eq', BitVec.toNat_ofNat, Nat.mod_eq_of_lt (by omega)]
    rw [h1, h2]
    exact (bv_sh (by omega)).symm
  rw [e, bytI_eq]
def upU (S S' : cs_T) : Prop := (∀ j, j ≠ 5 → S'.1 j = S.1 j) ∧ S'.2.2 = S.2.2 ∧ ∀ k, k ≠ 46 → S'.2.1 k = S.2.1 k
theorem CR_T {S S' : cs_T} {t : Nat} {b : Nat → Nat} (h : CR L d Ln A S) (hu : upU S S') (ht : tpC Ln t b S') : CR L d Ln (A.1, A.2.1, A.2.2.1, (t, b)) S' := by
  obtain ⟨h1, h2, h3⟩ := hu
  obtain ⟨⟨g, a1, a1'⟩, a2, a3, ⟨a4, ⟨rk, rr, pp, a5, a6, a7, a7'⟩, a8, a9, a10⟩, a11⟩ := h
  refine ⟨⟨g, cv_o a1 (fun j hj => h1 j (by omega)) (fun k hk => h3 k (by omega)), a1'⟩, ?_, ?_, ⟨a4, ⟨rk, rr, pp, ?_, a6, ?_, ?_⟩, ?_, a9, a10⟩, ht⟩
  · unfold cch at a2 ⊢
    rw [h3 36 (by decide), h3 33 (by decide), h3 34 (by decide), h3 35 (by decide)]
    exact a2
  · unfold cst at a3 ⊢
    rw [h3 38 (by decide), h3 39 (by decide), h1 9 (by decide)]
    exact a3
  · unfold clw at a5 ⊢
    rw [h3 42 (by decide), h3 43 (by decide), h3 40 (by decide), h3 44 (by decide), h3 47 (by decide)]
    exact a5
  · rw [h2]; exact a7
  · rw [h2]; exact a7'
  · rw [h1 4 (by decide)]; exact a8
theorem ct_append {t n : Nat} {b : Nat → Nat} {w : Int64} {Q : Int32 → cs_T → Prop} (h : tpC Ln t b Sc) (hn : t + n ≤ 100) (hn8 : n ≤ 8) (hq : ∀ S', upU Sc S' → tpC Ln (t + n) (fun i => if i < t then b i else bytN w (n - 1 - (i - t))) S' → Q (nI (t + n)) S') : ∀ f j S1, j + f = n → upU Sc S1 → tpC Ln (t + j) (fun i => if i < t then b i else bytN w (n - 1 - (i - t))) S1 → wp_X4_append_5 Ln Q (f + 1) S1 w (nI f - 1)
  | 0, j, S1, hj, hu, ht => by
    have : j = n := by omega
    subst this
    refine ⟨fun _ => ?_, fun z => absurd (by decide) z⟩
    rw [ht.2.2.1]
    exact hq S1 hu ht
  | f + 1, j, S1, hj, hu, ht => by
    rw [nI_pred]
    obtain ⟨t0, t1, t2, t3⟩ := ht
    refine ⟨fun z => absurd z (nI_pos (by omega)), fun _ => ⟨fun z => ?_, fun _ => ⟨by rw [t2, t0]; exact vp_in_nI (by omega) (by omega), ?_⟩⟩⟩
    · rw [t2] at z
      exact absurd z (nI_ge (a := t + j) (b := 100) (by omega) (by omega))
    rintro _ rfl
    have f5 : ∀ v, (cs_sI S1 46 (t + j) v).1 5 = nI (t + j) := fun _ => t2
    rw [byt_c (show f < 8 by omega), t2, nI_clamp (by omega), f5, nI_1, show nI f + (-1) = nI f - 1 from (Int32.sub_eq_add_neg _ 1).symm]
    refine ct_append h hn hn8 hq f (j + 1) _ (by omega) ⟨fun q hq => ?_, ?_, fun q hq => ?_⟩ ⟨t0, by omega, ?_, fun i hi => ?_⟩
    · rw [sF_o hq]; exact hu.1 q hq
    · exact hu.2.1
    · show (cs_sI S1 46 (t + j) _).2.1 q = _
      rw [cI_r hq]
      exact hu.2.2 q hq
    · rw [sF_s]; rfl
    · show (cs_sI S1 46 (t + j) _).2.1 46 i = _ ∧ _
      rw [cI_g, if_pos rfl]
      by_cases z : i = t + j
      · rw [if_pos z]
        dsimp only
        rw [if_neg (by omega), show n - 1 - (i - t) = f by omega]
        exact ⟨rfl, bytN_lt⟩
      · rw [if_neg z]; exact t3 i (by omega)
theorem si_feed {a1 : Int64} {a3 : Int32} (h : CX L d Ln A Sc Sm x g) : SIM L d Ln A.2.2.1.1 (fun Q => wp_X7_feed Ln Sc a1 a3 Q) (fun Q => wp_X8_feed Sm a1 a3 Q) := by
  obtain ⟨hcf, hx, hcv, hg, hC, hM, hA⟩ := id h
  have htp := hC.2.2.2.2
  have e1 : (1 : Int32).toInt = 1 := by decide
  have e8 : (8 : Int32).toInt = 8 := by decide
  have ht := htp.2.1
  by_cases hi : 1 ≤ a3.toInt ∧ a3.toInt ≤ 8
  · obtain ⟨n, hn, rfl⟩ := i_of (k := a3) (n := 8) (by omega) (by omega) (by decide)
    rw [nI_i (by omega)] at hi
    by_cases hf : A.2.2.2.1 + n ≤ 100
    · refine ⟨nI (A.2.2.2.1 + n), (A.1, A.2.1, A.2.2.1, (A.2.2.2.1 + n, fun i => if i < A.2.2.2.1 then A.2.2.2.2 i else bytN a1 (n - 1 - (i - A.2.2.2.1)))), rfl, fun Q hQ => ?_, fun Q hQ => ?_⟩
      · refine ⟨fun z => ?_, fun _ => ⟨fun _ => ⟨fun _ => ?_, fun z => ?_⟩, fun z => ?_⟩⟩
        · rw [i32_lt, e1, nI_i (by omega)] at z; omega
        · rintro _ rfl
          refine ⟨n + 1, ct_append (t := A.2.2.2.1) (b := A.2.2.2.2) htp hf hn (fun S' hu ht' => hQ _ (CR_T hC hu ht')) n 0 Sc (by omega) ⟨fun _ _ => rfl, rfl, fun _ _ => rfl⟩ ⟨htp.1, by omega, htp.2.2.1, fun i hi => ?_⟩⟩
          dsimp only
          rw [if_pos (by omega)]
          exact htp.2.2.2 i hi
        · rw [htp.2.2.1, nI_add] at z
          exact absurd (nI_le (a := A.2.2.2.1 + n) (b := 100) hf (by decide)) z
        · rw [i32_le, e8, nI_i (by omega)] at z; omega
      · refine sm_feed hM.2.2.2.2 (fun z => absurd (by rw [nI_i (by omega)]; omega) z) (fun n' _ _ e z => ?_) (fun n' S' _ _ e _ hu ht' => ?_)
        · have i1 := s_inj (by omega) (by omega) e
          subst i1
          exact absurd hf (by omega)
        · have i1 := s_inj (by omega) (by omega) e
          subst i1
          refine hQ _ (MR_G hM ⟨fun j hj => hu.1 j (by omega), fun k hk => hu.2.1 k (by omega), fun j _ => by rw [hu.2.2], by rw [hu.2.2], by rw [hu.2.2]⟩ ?_ ht')
          obtain ⟨x0, hx0, hX0⟩ := hM.2.1
          exact ⟨x0, fun j hj => by rw [hu.2.2]; exact hx0 j hj, hX0⟩
    · refine ⟨-4, A, rfl, fun Q hQ => ?_, fun Q hQ => ?_⟩
      · refine ⟨fun z => ?_, fun _ => ⟨fun _ => ⟨fun z => ?_, fun _ => hQ _ hC⟩, fun z => ?_⟩⟩
        · rw [i32_lt, e1, nI_i (by omega)] at z; omega
        · rw [htp.2.2.1, nI_add] at z
          exact absurd z (nI_ge (a := 100) (b := A.2.2.2.1 + n) (by omega) (by omega))
        · rw [i32_le, e8, nI_i (by omega)] at z; omega
      · refine sm_feed hM.2.2.2.2 (fun z => absurd (by rw [nI_i (by omega)]; omega) z) (fun n' _ _ e z => hQ _ hM) (fun n' S' _ _ e z hu ht' => ?_)
        have i1 := s_inj (by omega) (by omega) e
        subst i1
        exact absurd z hf
  · refine ⟨-2, A, rfl, fun Q hQ => ?_, fun Q hQ => ?_⟩
    · refine ⟨fun _ => hQ _ hC, fun z => ⟨fun z2 => absurd ⟨?_, ?_⟩ hi, fun _ => hQ _ hC⟩⟩
      · rw [i32_lt, e1] at z; omega
      · rw [i32_le, e8] at z2; exact z2
    · exact sm_feed hM.2.2.2.2 (fun _ => hQ _ hM) (fun n' q1 q2 e => absurd (by rw [e, nI_i (by omega)]; omega) hi) (fun n' S' q1 q2 e => absurd (by rw [e, nI_i (by omega)]; omega) hi)
theorem lw_v {vs : Nat → Nat → Kf} : (fun (k w : Nat) => kN ((fun i v => (vs i v).val) k w)) = vs := by
  funext k w
  exact kN_val _
theorem si_size {a : Int32} (hkr : KR L d) (h : CX L d Ln A Sc Sm x g) : SIM L d Ln A.2.2.1.1 (fun Q => wp_X7_size Ln Sc a Q) (fun Q => wp_X8_size Sm a Q) := by
  obtain ⟨hcf, hx, hcv, hg, hC, hM, hA⟩ := id h
  obtain ⟨hW, hL, hd1, hd⟩ := CX_W h
  have e1 : (1 : Int32).toInt = 1 := by decide
  have ed : (Sc.1 3).toInt = d := by rw [hcv.1.2.2.1, nI_i (by omega)]
  obtain ⟨l1, ⟨rk, rr, pp, l2, l3, l4, -⟩, l5, l6, l7⟩ := hC.2.2.2.1
  by_cases hi : 1 ≤ a.toInt ∧ a.toInt ≤ d
  · obtain ⟨n, hn, rfl⟩ := i_of (k := a) (n := d) (by omega) hi.2 (by omega)
    have h1 : 1 ≤ n := by rw [nI_i (by omega)] at hi; omega
    obtain ⟨r1, r2⟩ := l2.2.1 n h1 hn
    refine ⟨nI (lnN L d n - rk n), A, rfl, fun Q hQ => ?_, fun Q hQ => ?_⟩
    · refine ⟨fun z => ?_, fun _ => ⟨fun _ => cq_ofLength hcv.1 hC.2.1 h1 hn ?_, fun z => ?_⟩⟩
      · rw [i32_lt, e1] at z; omega
      · rw [nI_clamp (by omega), l1.1, r1, show cnt L d (ofs L (n + 1)) - cnt L d (ofs L n) = lnN L d n from rfl, pk_sub r2]
        exact ⟨vp_in_nI (by omega) (by omega), hQ _ hC⟩
      · rw [i32_le, ed] at z; omega
    · refine sm_size hM.1 hM.2.2.2.1 hkr (fun k hk => ⟨(l7 k hk).1, ?_⟩) (fun z => absurd hi z) (fun n' k r p S' h1' hn' e hu hs hk => ?_)
      · rw [show (fun w => kN ((fun i v => (A.2.2.1.2.2 i v).val) k w)) = A.2.2.1.2.2 k from congrFun lw_v k]
        exact (l7 k hk).2.2
      · have i1 := s_inj (by omega) (by omega) e
        subst i1
        rw [lw_v] at hs
        obtain ⟨q1, q2, q3⟩ := hs
        obtain ⟨w1, w2, w3⟩ := l3 n' h1 hn
        have ek : k = rk n' := Nat.le_antisymm (ech_cnt q1 w1 (fun i hi => w3 _ (q2 i hi))) (ech_cnt w1 q1 (fun i hi => q3 _ (w2 i hi)))
        rw [ek]
        refine hQ _ (MR_G (t := A.2.2.2.1) (b := A.2.2.2.2) hM ⟨fun j hj => hu.1 j (by omega), fun k hk => hu.2.1 k (by omega), fun j _ => by rw [hu.2.2 1 (by decide) (by decide) (by decide)], hu.2.2 4 (by decide) (by decide) (by decide), hu.2.2 5 (by decide) (by decide) (by decide)⟩ ?_ ?_)
        · obtain ⟨x0, hx0, hX0⟩ := hM.2.1
          exact ⟨x0, fun j hj => by rw [hu.2.2 0 (by decide) (by decide) (by decide)]; exact hx0 j hj, hX0⟩
        · have h5 := hM.2.2.2.2
          unfold tap at h5 ⊢
          rw [hu.1 7 (by decide), hu.2.1 11 (by decide)]
          exact h5
  · refine ⟨-1, A, rfl, fun Q hQ => ?_, fun Q hQ => ?_⟩
    · refine ⟨fun _ => hQ _ hC, fun z => ⟨fun z2 => absurd ⟨?_, ?_⟩ hi, fun _ => hQ _ hC⟩⟩
      · rw [i32_lt, e1] at z; omega
      · rw [i32_le, ed] at z2; exact z2
    · refine sm_size hM.1 hM.2.2.2.1 hkr (fun k hk => ⟨(l7 k hk).1, ?_⟩) (fun _ => hQ _ hM) (fun n' k r p S' h1' hn' e _ _ _ => absurd (by rw [e, nI_i (by omega)]; omega) hi)
      rw [show (fun w => kN ((fun i v => (A.2.2.1.2.2 i v).val) k w)) = A.2.2.1.2.2 k from congrFun lw_v k]
      exact (l7 k hk).2.2
theorem si_read {a : Int32} (h : CX L d Ln A Sc Sm x g) : SIM L d Ln A.2.2.1.1 (fun Q => wp_X7_read Ln Sc a Q) (fun Q => wp_X8_read Sm a Q) := by
  obtain ⟨hcf, hx, hcv, hg, hC, hM, hA⟩ := id h
  obtain ⟨hW, hL, hd1, hd⟩ := CX_W h
  have htp := hC.2.2.2.2
  have hX : smR L d (rwK x) g := fun i hi => by rw [hg i hi]; exact eqW_rf
  have hnx : nuX L d Sm (rwK x) := ⟨x, hx, fun _ _ => eqW_rf⟩
  have tc : ∀ S' : cs_T, S'.1 5 = 0 → tpC Ln 0 A.2.2.2.2 S' := fun S' e => ⟨htp.1, by omega, e, fun i hi => absurd hi (Nat.not_lt_zero i)⟩
  have tm : ∀ S' : ms_T, S'.1 7 = 0 → tap S' 0 A.2.2.2.2 := fun S' e => ⟨e, by omega, fun i hi => absurd hi (Nat.not_lt_zero i)⟩
  by_cases ha : isS a
  · obtain ⟨s, hs, rfl⟩ := isS_of ha
    by_cases q1 : (TX L d (bt A.2.2.2.1 A.2.2.2.2) (rwK x) 6 0).1 = false ∨ (TX L d (bt A.2.2.2.1 A.2.2.2.2) (rwK x) 6 0).2.1 < A.2.2.2.1
    · refine ⟨-10 - nI (TX L d (bt A.2.2.2.1 A.2.2.2.2) (rwK x) 6 0).2.1, (rwK x, A.2.1, A.2.2.1, (0, A.2.2.2.2)), rfl, fun Q hQ => ?_, fun Q hQ => ?_⟩
      · refine ns_a (fun _ => ⟨vin8 hs, ?_⟩) (fun z => absurd ha z)
        rw [ix7 hs]
        refine cq_tell hcv htp hX hs (fun _ S' g' hu hc' h5 he => hQ _ (CR_H hC (upH_Q hu) hc' (sm_eq hX he) (tc S' h5))) (fun r1 r2 => ?_) (fun v r1 r2 => ?_)
        · exact absurd q1 (by rw [r1, r2]; exact fun z => z.elim (fun z => by cases z) (fun z => absurd z (Nat.lt_irrefl _)))
        · exact absurd q1 (by rw [r1, r2]; exact fun z => z.elim (fun z => by cases z) (fun z => absurd z (Nat.lt_irrefl _)))
      · refine sm_read hM.1.1 hnx hM.2.2.2.2 (fun z => absurd ha z) (fun s' hs' e _ S' hu h7 hn => hQ _ (MR_G hM hu hn (tm S' h7))) (fun s' hs' e r1 r2 => ?_) (fun s' hs' e v r1 r2 => ?_)
        · exact absurd q1 (by rw [r1, r2]; exact fun z => z.elim (fun z => by cases z) (fun z => absurd z (Nat.lt_irrefl _)))
        · exact absurd q1 (by rw [r1, r2]; exact fun z => z.elim (fun z => by cases z) (fun z => absurd z (Nat.lt_irrefl _)))
    · cases hv : (TX L d (bt A.2.2.2.1 A.2.2.2.2) (rwK x) 6 0).2.2 with
      | none =>
        refine ⟨-9, (rwK x, A.2.1, A.2.2.1, (0, A.2.2.2.2)), rfl, fun Q hQ => ?_, fun Q hQ => ?_⟩
        · refine ns_a (fun _ => ⟨vin8 hs, ?_⟩) (fun z => absurd ha z)
          rw [ix7 hs]
          exact cq_tell hcv htp hX hs (fun z => absurd z q1) (fun _ _ _ S' g' hu hc' h5 he => hQ _ (CR_H hC (upH_Q hu) hc' (sm_eq hX he) (tc S' h5))) (fun v _ _ r3 => by rw [hv] at r3; cases r3)
        · exact sm_read hM.1.1 hnx hM.2.2.2.2 (fun z => absurd ha z) (fun s' hs' e z => absurd z q1) (fun s' hs' e _ _ _ S' hu h7 hn => hQ _ (MR_G hM hu hn (tm S' h7))) (fun s' hs' e v _ _ r3 => by rw [hv] at r3; cases r3)
      | some v =>
        refine ⟨0, (va_up (rwK x) s v, A.2.1, A.2.2.1, (0, A.2.2.2.2)), rfl, fun Q hQ => ?_, fun Q hQ => ?_⟩
        · refine ns_a (fun _ => ⟨vin8 hs, ?_⟩) (fun z => absurd ha z)
          rw [ix7 hs]
          refine cq_tell hcv htp hX hs (fun z => absurd z q1) (fun _ _ r3 => by rw [hv] at r3; cases r3) (fun v' _ _ r3 S' g' hu hc' h5 he hev => hQ _ (CR_H hC (upH_Q hu) hc' ?_ (tc S' h5)))
          rw [hv] at r3
          injection r3 with r3
          subst r3
          intro i hi
          by_cases e : i = s
          · rw [e, va_up_self]; exact hev
          · rw [va_up_ne _ _ e, he (7 + i) (by omega) (by omega) (by omega)]
            exact hX i hi
        · refine sm_read hM.1.1 hnx hM.2.2.2.2 (fun z => absurd ha z) (fun s' hs' e z => absurd z q1) (fun s' hs' e _ _ r3 => by rw [hv] at r3; cases r3) (fun s' hs' e v' _ _ r3 S' hu h7 hn => ?_)
          have i1 := s_inj (by omega) (by omega) e
          subst i1
          rw [hv] at r3
          injection r3 with r3
          subst r3
          exact hQ _ (MR_G hM hu hn (tm S' h7))
  · refine ⟨-1, A, rfl, fun Q hQ => ?_, fun Q hQ => ?_⟩
    · exact ns_a (fun z => absurd z ha) (fun _ => hQ _ hC)
    · exact sm_read hM.1.1 hnx hM.2.2.2.2 (fun _ => hQ _ hM) (fun s' hs' e => absurd (by rw [e]; exact isS_n hs') ha) (fun s' hs' e => absurd (by rw [e]; exact isS_n hs') ha) (fun s' hs' e => absurd (by rw [e]; exact isS_n hs') ha)
end SR
