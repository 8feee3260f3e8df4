/-! both answer alike: chiefs, shares -/
section SO
variable {L d : Nat} {Ln : Nat → Nat} {A : AS} {Sc : cs_T} {Sm : ms_T} {x : Nat → Nat} {g : Nat → Nat → Kf}
theorem ch_u {n v n' v' : Nat} (hcf : cf_ok L d) (h1 : 1 ≤ n) (hn : n ≤ d) (hv : v < L ^ n) (hc : chf L n v = true) (h1' : 1 ≤ n') (hn' : n' ≤ d) (hv' : v' < L ^ n') (hc' : chf L n' v' = true) (e : nI (cnt L d (ofs L n + v)) = nI (cnt L d (ofs L n' + v'))) : n' = n ∧ v' = v := by
  have c1 := cnt_99 hcf (Nat.le_of_lt (pl_W (L := L) hn hv))
  have c2 := cnt_99 hcf (Nat.le_of_lt (pl_W (L := L) hn' hv'))
  have e' : cnt L d (ofs L n + v) = cnt L d (ofs L n' + v') := (nI_eq (by omega) (by omega)).mp e
  rcases Nat.lt_trichotomy (ofs L n + v) (ofs L n' + v') with q | q | q
  · have := cnt_lt (d := d) h1 hn hv hc q
    omega
  · obtain ⟨q1, q2⟩ := place_inj hv hv' q
    exact ⟨q1.symm, q2.symm⟩
  · have := cnt_lt (d := d) h1' hn' hv' hc' q
    omega
def isC (L d : Nat) (i : Int32) : Prop := 0 ≤ i.toInt ∧ i.toInt < cnt L d (ofs L (d + 1))
theorem chf_ex {i : Int32} (hcf : cf_ok L d) (h : isC L d i) : ∃ n v, 1 ≤ n ∧ n ≤ d ∧ v < L ^ n ∧ chf L n v = true ∧ i = nI (cnt L d (ofs L n + v)) := by
  have c1 := cnt_99 hcf (Nat.le_refl (ofs L (d + 1)))
  unfold isC at h
  obtain ⟨n, v, a1, a2, a3, a4, a5, a6⟩ := chief_ex (L := L) (d := d) (i := i.toInt.toNat) (ofs L (d + 1)) (Nat.le_refl _) (by omega)
  refine ⟨n, v, a1, a2, a3, a4, ?_⟩
  apply Int32.toInt_inj.mp
  rw [a6, nI_i (by omega)]
  omega
theorem nc_q {n v : Nat} {Q : Int32 → cs_T → Prop} (h : cw_ok L d Ln Sc) (hc : cch L d Ln Sc) (h1 : 1 ≤ n) (hn : n ≤ d) (hv : v < L ^ n) (hcf : chf L n v = true) (hq : Q 0 Sc) : wp_X7_noChief Ln Sc (nI (cnt L d (ofs L n + v))) Q := by
  refine cq_noChief h hc (fun _ _ _ _ _ _ _ => hq) (fun z => absurd ?_ z)
  have c1 := cnt_99 h.1 (Nat.le_of_lt (pl_W (L := L) hn hv))
  have c2 := cnt_lt (d := d) h1 hn hv hcf (pl_W (L := L) hn hv)
  rw [nI_i (by omega)]
  omega
theorem nc_n {i : Int32} {Q : Int32 → cs_T → Prop} (h : cw_ok L d Ln Sc) (hc : cch L d Ln Sc) (hi : ¬ isC L d i) (hq : Q 1 Sc) : wp_X7_noChief Ln Sc i Q := by
  refine cq_noChief h hc (fun n v h1 hn hv hcf e => absurd ?_ hi) (fun _ => hq)
  have c1 := cnt_99 h.1 (Nat.le_of_lt (pl_W (L := L) hn hv))
  have c2 := cnt_lt (d := d) h1 hn hv hcf (pl_W (L := L) hn hv)
  unfold isC
  rw [e, nI_i (by omega)]
  omega
theorem isC_n {n v : Nat} (hcf : cf_ok L d) (h1 : 1 ≤ n) (hn : n ≤ d) (hv : v < L ^ n) (hc : chf L n v = true) : isC L d (nI (cnt L d (ofs L n + v))) ∧ cnt L d (ofs L n + v) < chC L d ∧ cnt L d (ofs L n + v) ≤ 98 := by
  have c1 := cnt_99 hcf (Nat.le_of_lt (pl_W (L := L) hn hv))
  have c2 := cnt_lt (d := d) h1 hn hv hc (pl_W (L := L) hn hv)
  unfold isC chC
  rw [nI_i (by omega)]
  omega
theorem si_lyndon {a : Int32} (h : CX L d Ln A Sc Sm x g) : SIM L d Ln A.2.2.1.1 (fun Q => wp_X7_lyndon Ln Sc a Q) (fun Q => wp_X8_lyndon Sm a Q) := by
  obtain ⟨hcf, hx, hcv, hg, hC, hM, hA⟩ := id h
  have hch := hC.2.1
  by_cases hi : isC L d a
  · obtain ⟨n, v, h1, hn, hv, hc, rfl⟩ := chf_ex hcf hi
    obtain ⟨-, k1, k2⟩ := isC_n hcf h1 hn hv hc
    refine ⟨nI (cdN L n v n), A, rfl, fun Q hQ => ?_, fun Q hQ => ?_⟩
    · refine nc_q hcv.1 hch h1 hn hv hc ⟨fun _ => ?_, fun z => absurd rfl z⟩
      rw [nI_clamp (by omega), hch.1, (hch.2.2.2.2.2.2 n v h1 hn hv hc).1]
      exact ⟨vp_in_nI k1 (by have := chC_98 hcf; omega), cq_told hcv.1 hn hv (hQ _ hC)⟩
    · refine sm_lyndon hM.1 (fun z => absurd hi z) (fun n' v' h1' hn' hv' hc' e => ?_)
      obtain ⟨e1, e2⟩ := ch_u hcf h1 hn hv hc h1' hn' hv' hc' e
      rw [e1, e2]
      exact hQ _ hM
  · refine ⟨-1, A, rfl, fun Q hQ => ?_, fun Q hQ => ?_⟩
    · exact nc_n hcv.1 hch hi ⟨fun z => absurd z (by decide), fun _ => hQ _ hC⟩
    · exact sm_lyndon hM.1 (fun _ => hQ _ hM) (fun n' v' h1' hn' hv' hc' e => absurd (by rw [e]; exact (isC_n hcf h1' hn' hv' hc').1) hi)
theorem si_lyndons {a : Int32} (h : CX L d Ln A Sc Sm x g) : SIM L d Ln A.2.2.1.1 (fun Q => wp_X7_lyndons Ln Sc a Q) (fun Q => wp_X8_lyndons Sm a Q) := by
  obtain ⟨hcf, hx, hcv, hg, hC, hM, hA⟩ := id h
  obtain ⟨hW, hL, hd1, hd⟩ := CX_W h
  have e1 : (1 : Int32).toInt = 1 := by decide
  have ed : (Sc.1 3).toInt = d := by rw [hcv.1.2.2.1, nI_i (by omega)]
  by_cases hi : 1 ≤ a.toInt ∧ a.toInt ≤ d
  · obtain ⟨n, hn, rfl⟩ := i_of (k := a) (n := d) (by omega) hi.2 (by omega)
    have h1 : 1 ≤ n := by rw [nI_i (by omega)] at hi; omega
    refine ⟨nI (cntn L d n (ofs L (d + 1))), A, rfl, fun Q hQ => ?_, fun Q hQ => ?_⟩
    · refine ⟨fun z => ?_, fun _ => ⟨fun _ => cq_ofLength hcv.1 hC.2.1 h1 hn ?_, fun z => ?_⟩⟩
      · rw [i32_lt, e1] at z; omega
      · rw [← cntn_of h1 hn]
        exact hQ _ hC
      · rw [i32_le, ed] at z; omega
    · refine sm_lyndons hM.1 (fun z => absurd hi z) (fun n' h1' hn' e => ?_)
      have i1 := s_inj (by omega) (by omega) e
      subst i1
      exact hQ _ hM
  · refine ⟨-1, A, rfl, fun Q hQ => ?_, fun Q hQ => ?_⟩
    · refine ⟨fun _ => hQ _ hC, fun z => ⟨fun z2 => absurd ⟨?_, ?_⟩ hi, fun _ => hQ _ hC⟩⟩
      · rw [i32_lt, e1] at z; omega
      · rw [i32_le, ed] at z2; exact z2
    · exact sm_lyndons hM.1 (fun _ => hQ _ hM) (fun n' h1' hn' e => absurd (by rw [e, nI_i (by omega)]; omega) hi)
theorem si_side {a1 a2 : Int32} (h : CX L d Ln A Sc Sm x g) : SIM L d Ln A.2.2.1.1 (fun Q => wp_X7_side Ln Sc a1 a2 Q) (fun Q => wp_X8_side Sm a1 a2 Q) := by
  obtain ⟨hcf, hx, hcv, hg, hC, hM, hA⟩ := id h
  have hch := hC.2.1
  have e0 : (0 : Int32).toInt = 0 := by decide
  have e1 : (1 : Int32).toInt = 1 := by decide
  by_cases hi : isC L d a1
  · obtain ⟨n, v, h1, hn, hv, hc, rfl⟩ := chf_ex hcf hi
    obtain ⟨-, k1, k2⟩ := isC_n hcf h1 hn hv hc
    obtain ⟨r1, r2, r3⟩ := hch.2.2.2.2.2.2 n v h1 hn hv hc
    have hC98 := chC_98 hcf
    by_cases hj : 0 ≤ a2.toInt ∧ a2.toInt ≤ 1
    · obtain ⟨w, hw, rfl⟩ := i_of (k := a2) (n := 1) hj.1 hj.2 (by decide)
      refine ⟨sideI L d n v w, A, rfl, fun Q hQ => ?_, fun Q hQ => ?_⟩
      · refine nc_q hcv.1 hch h1 hn hv hc ⟨fun z => absurd rfl z, fun _ => ⟨fun z => ?_, fun _ => ⟨fun _ => ⟨fun z => ?_, fun z => ?_⟩, fun z => ?_⟩⟩⟩
        · rw [i32_lt, e0] at z; omega
        · have ew : w = 1 := by
            have : w ≠ 0 := fun q => z (by rw [q]; rfl)
            omega
          subst ew
          rw [nI_clamp (by omega), hch.2.2.1, r3]
          exact ⟨vp_in_nI k1 (by omega), hQ _ hC⟩
        · have ew : w = 0 := (nI_eq (a := w) (b := 0) (by omega) (by omega)).mp z
          subst ew
          rw [nI_clamp (by omega), hch.2.1, r2]
          exact ⟨vp_in_nI k1 (by omega), hQ _ hC⟩
        · rw [i32_le, e1] at z; omega
      · refine sm_side hM.1 (fun z => absurd ⟨hi.1, hi.2, hj.1, hj.2⟩ z) (fun n' v' w' h1' hn' hv' hc' hw' e ew => ?_)
        obtain ⟨q1, q2⟩ := ch_u hcf h1 hn hv hc h1' hn' hv' hc' e
        have i1 := s_inj (by omega) (by omega) ew
        rw [q1, q2, i1]
        exact hQ _ hM
    · refine ⟨-1, A, rfl, fun Q hQ => ?_, fun Q hQ => ?_⟩
      · refine nc_q hcv.1 hch h1 hn hv hc ⟨fun z => absurd rfl z, fun _ => ⟨fun z => hQ _ hC, fun z => ⟨fun z2 => absurd ⟨?_, ?_⟩ hj, fun z => hQ _ hC⟩⟩⟩
        · rw [i32_lt, e0] at z; omega
        · rw [i32_le, e1] at z2; exact z2
      · exact sm_side hM.1 (fun _ => hQ _ hM) (fun n' v' w' h1' hn' hv' hc' hw' e ew => absurd (by rw [ew, nI_i (by omega)]; omega) hj)
  · refine ⟨-1, A, rfl, fun Q hQ => ?_, fun Q hQ => ?_⟩
    · exact nc_n hcv.1 hch hi ⟨fun _ => hQ _ hC, fun z => absurd z (by decide)⟩
    · exact sm_side hM.1 (fun _ => hQ _ hM) (fun n' v' w' h1' hn' hv' hc' hw' e ew => absurd (by rw [e]; exact (isC_n hcf h1' hn' hv' hc').1) hi)
theorem basisX_K {s n v s' w : Nat} (hW : ofs L (d + 1) ≤ 364) (hn : n ≤ d) (hw : w < ofs L (d + 1)) : rwK (basisX L d x s n v) s' w = if s' = s then plK L d (hom n (bsK L n v)) w else rwK x s' w := by
  obtain ⟨N, V, hN, hV, rfl⟩ := pl_ex hw
  have hm : ofs L (n + 1) ≤ ofs L (d + 1) := ofs_mono (by omega)
  have hm2 : ofs L (n + 1) = ofs L n + L ^ n := rfl
  rw [plK_at hN hV]
  unfold basisX rwK hom bsK
  by_cases q : s' = s
  · subst q
    rw [if_pos rfl]
    by_cases e : N = n
    · subst e
      rw [if_pos rfl, show 364 * s' + (ofs L N + V) = 364 * s' + ofs L N + V by omega, rsN_in hV]
    · rw [if_neg e, rsN_out ?_, rsN_row hW hw, if_pos rfl, kN_0]
      by_cases q2 : N < n
      · have := ofs_mono (L := L) (show N + 1 ≤ n by omega)
        have e2 : ofs L (N + 1) = ofs L N + L ^ N := rfl
        omega
      · have := ofs_mono (L := L) (show n + 1 ≤ N by omega)
        omega
  · rw [if_neg q, rsN_out (by omega), rsN_row hW hw, if_neg q]
theorem si_basis {a1 a2 : Int32} (h : CX L d Ln A Sc Sm x g) : SIM L d Ln A.2.2.1.1 (fun Q => wp_X7_basis Ln Sc a1 a2 Q) (fun Q => wp_X8_basis Sm a1 a2 Q) := by
  obtain ⟨hcf, hx, hcv, hg, hC, hM, hA⟩ := id h
  obtain ⟨hW, hL, hd1, hd⟩ := CX_W h
  have hd6 := cf_d hcf
  have hch := hC.2.1
  by_cases ha : isS a1
  · obtain ⟨s, hs, rfl⟩ := isS_of ha
    by_cases hi : isC L d a2
    · obtain ⟨n, v, h1, hn, hv, hc, rfl⟩ := chf_ex hcf hi
      refine ⟨0, (va_up (rwK x) s (plK L d (hom n (bsK L n v))), A.2), rfl, fun Q hQ => ?_, fun Q hQ => ?_⟩
      · refine ns_b (fun _ => nc_q hcv.1 hch h1 hn hv hc ⟨fun _ => ?_, fun z => absurd rfl z⟩) (fun z => absurd ha z)
        refine cq_weave 8 n v 0 Sc g _ (by omega) h1 hn hv hc (by omega) hcv hch (fun S1 g1 hu1 hc1 hf1 e1 => ?_)
        rw [ix7 hs]
        refine ⟨vin8 hs, vp_in_nI (n := 0) (by decide) (by decide), ?_⟩
        refine cq_copy (a := 15) hc1 (kV7 hs) (by unfold kV; omega) (fun S2 hu2 hc2 => hQ S2 (CR_V hC (upK_tr hu1 hu2) hc2 (sm_fr hg (fr_tr (fr_w hf1 (P' := fun k => k = 7 + s ∨ kX n 0 k) (fun k hk => Or.inr hk)) (fr_u (Or.inl rfl))) (fun i hi hne => by unfold kX; omega) ?_)))
        rw [va_up_self]
        exact e1
      · refine sm_basis hM.1 hx (fun z => absurd ⟨ha, hi.1, hi.2⟩ z) (fun s' n' v' S' hs' e h1' hn' hv' hc' e2 hu hnn => hQ S' (MR_S hM hu hnn ?_))
        obtain ⟨q1, q2⟩ := ch_u hcf h1 hn hv hc h1' hn' hv' hc' e2
        have i1 := s_inj (by omega) (by omega) e
        subst i1 q1 q2
        exact xr_if (fun s'' w hs'' hw => basisX_K hW hn' hw)
    · refine ⟨-1, A, rfl, fun Q hQ => ?_, fun Q hQ => ?_⟩
      · exact ns_b (fun _ => nc_n hcv.1 hch hi ⟨fun z => absurd z (by decide), fun _ => hQ _ hC⟩) (fun z => absurd ha z)
      · exact sm_basis hM.1 hx (fun _ => hQ _ hM) (fun s' n' v' S' hs' e h1' hn' hv' hc' e2 hu hnn => absurd (by rw [e2]; exact (isC_n hcf h1' hn' hv' hc').1) hi)
  · refine ⟨-1, A, rfl, fun Q hQ => ?_, fun Q hQ => ?_⟩
    · exact ns_b (fun z => absurd z ha) (fun _ => hQ _ hC)
    · exact sm_basis hM.1 hx (fun _ => hQ _ hM) (fun s' n' v' S' hs' e h1' hn' hv' hc' e2 hu hnn => absurd (by rw [e]; exact isS_n hs') ha)
theorem in_hom {n : Nat} {F R B : Nat → Kf} (hn : n ≤ d) (h : eqW L d R (plK L d (hom n B))) : ksum (ofs L (d + 1)) (fun j => F j * R j) = ksum (L ^ n) (fun V => F (ofs L n + V) * B V) := by
  rw [ksum_pl, ksum_c (h := fun m => if m = n then ksum (L ^ n) (fun V => F (ofs L n + V) * B V) else 0), ksum_if, if_pos (by omega)]
  intro m hm
  by_cases e : m = n
  · subst e
    rw [if_pos rfl]
    refine ksum_c (fun V hV => ?_)
    rw [h _ (pl_W hn hV), plK_at hn hV]
    unfold hom
    rw [if_pos rfl]
  · rw [if_neg e]
    refine ksum_z (fun V hV => ?_)
    rw [h _ (pl_W (by omega) hV), plK_at (by omega) hV]
    unfold hom
    rw [if_neg e]
    exact km_0' _
theorem si_share {a1 a2 : Int32} (hkr : KR L d) (h : CX L d Ln A Sc Sm x g) : SIM L d Ln A.2.2.1.1 (fun Q => wp_X7_share Ln Sc a1 a2 Q) (fun Q => wp_X8_share Sm a1 a2 Q) := by
  obtain ⟨hcf, hx, hcv, hg, hC, hM, hA⟩ := id h
  obtain ⟨hW, hL, hd1, hd⟩ := CX_W h
  have hd6 := cf_d hcf
  by_cases ha : isS a1
  · obtain ⟨s, hs, rfl⟩ := isS_of ha
    cases hw : wo L d a2 with
    | none =>
      refine ⟨-1, A, rfl, fun Q hQ => ?_, fun Q hQ => ?_⟩
      · exact pl_q hcv.1 (fun _ => ns_b (fun _ => ⟨fun z => absurd z (by decide), fun _ => hQ _ hC⟩) (fun z => absurd ha z)) (fun w e => by rw [hw] at e; cases e)
      · refine sm_share hM.1 hx (fun _ => hQ _ hM) (fun s' c w S' x' hs' e1 e2 hc hw' _ _ _ => ?_)
        rw [e2, wo_n hc, hw'] at hw
        cases hw
    | some w =>
      have hwl := wo_lt hL hw
      refine ⟨nI (shA L d (fun w => x (364 * s + w)) (ofs L (d + 1)) w), A, rfl, fun Q hQ => ?_, fun Q hQ => ?_⟩
      · refine pl_q hcv.1 (fun e => by rw [hw] at e; cases e) (fun w' e => ?_)
        rw [hw] at e
        injection e with e
        subst e
        obtain ⟨n, v, hn, hv, rfl⟩ := pl_ex hwl
        refine ns_b (fun _ => ⟨fun _ => ?_, fun z => absurd (nI_p (by omega)) z⟩) (fun z => absurd ha z)
        refine cq_measure (lv := 0) hcv hC.2.1.2.2.2.2.1 hn hv (by decide) (fun S1 g1 hu1 hc1 hf1 e1 => ?_)
        rw [ix7 hs]
        refine ⟨vin8 hs, vp_in_nI (n := 0) (by decide) (by decide), ?_⟩
        refine cq_inner (b := 15) hc1 (kV7 hs) (by unfold kV; omega) ?_
        rw [in_hom hn e1, hf1 _ (show ¬ kY n 0 (7 + s) by unfold kY; omega), hg s hs]
        have es := share_eq (L := L) (d := d) (g := fun w => x (364 * s + w)) hL (by omega) hn hv (hkr.1 n hn)
        rw [show (fun V => rwK x s (ofs L n + V) * sml L 8 n v V) = (fun V => kN ((fun w => x (364 * s + w)) (ofs L n + V)) * sml L 8 n v V) from rfl, es]
        unfold shr
        rw [kI_N (shA_lt (L := L) (d := d) (g := fun w => x (364 * s + w)) (j := ofs L n + v) (hx (364 * s + (ofs L n + v)) (by omega)).2 _)]
        have hX := sm_f0 (L := L) (d := d) hg hf1 (fun i hi => by unfold kY; omega)
        rw [← hA] at hX
        exact hQ S1 (CR_W hC hu1 hc1 hX)
      · refine sm_share hM.1 hx (fun z => ?_) (fun s' c w' S' x' hs' e1 e2 hc hw' hu hn hag => ?_)
        · rcases wo_no z with z | z
          · exact absurd ha z
          · rw [hw] at z; cases z
        · have i1 := s_inj (by omega) (by omega) e1
          subst i1
          rw [e2, wo_n hc, hw'] at hw
          injection hw with hw
          subst hw
          refine hQ S' (MR_X hM hu hn ?_)
          rw [hA]
          exact xr_a0 hW hag
  · refine ⟨-1, A, rfl, fun Q hQ => ?_, fun Q hQ => ?_⟩
    · exact pl_q hcv.1 (fun _ => ns_b (fun z => absurd z ha) (fun _ => hQ _ hC)) (fun _ _ => ns_b (fun z => absurd z ha) (fun _ => hQ _ hC))
    · exact sm_share hM.1 hx (fun _ => hQ _ hM) (fun s' c w' S' x' hs' e1 _ _ _ _ _ _ => absurd (by rw [e1]; exact isS_n hs') ha)
theorem lie_b {f : Nat → Nat} (hcf : cf_ok L d) (hkr : KR L d) (hf : ∀ w, w < ofs L (d + 1) → f w < PR) : lieB L d (shA L d f (ofs L (d + 1))) (ofs L (d + 1)) = true ↔ lieC L d (fun w => kN (f w)) := by
  have hd := cf_d hcf
  rw [lieB_all, lieC_iff (by have := cf_L hcf; omega) (by omega) (by omega) hkr]
  refine ⟨fun h w hw => ?_, fun h w hw => ?_⟩
  · rcases h w hw with q | q
    · exact Or.inl (by unfold shr; rw [q, kN_0])
    · exact Or.inr q
  · rcases h w hw with q | q
    · unfold shr at q
      refine Or.inl ?_
      have := congrArg Fin.val q
      rw [kN_v (shA_lt (hf w hw) _)] at this
      exact this
    · exact Or.inr q
theorem si_lie {a : Int32} (hkr : KR L d) (h : CX L d Ln A Sc Sm x g) : SIM L d Ln A.2.2.1.1 (fun Q => wp_X7_lie Ln Sc a Q) (fun Q => wp_X8_lie Sm a Q) := by
  obtain ⟨hcf, hx, hcv, hg, hC, hM, hA⟩ := id h
  obtain ⟨hW, hL, hd1, hd⟩ := CX_W h
  by_cases ha : isS a
  · obtain ⟨s, hs, rfl⟩ := isS_of ha
    have hlb := lie_b (f := fun w => x (364 * s + w)) hcf hkr (fun w hw => (hx _ (by omega)).2)
    refine ⟨b01 (lieB L d (shA L d (fun w => x (364 * s + w)) (ofs L (d + 1))) (ofs L (d + 1))), A, rfl, fun Q hQ => ?_, fun Q hQ => ?_⟩
    · refine ns_a (fun _ => ⟨vin8 hs, ?_⟩) (fun z => absurd ha z)
      rw [ix7 hs]
      refine cq_isLie hcv (kV7 hs) (by omega) (by omega) (fun S1 g1 hu1 hc1 hf1 hl => ⟨fun z => absurd z (by decide), fun _ => ?_⟩) (fun S1 g1 hu1 hc1 hf1 hl => ⟨fun _ => ?_, fun z => absurd rfl z⟩)
      · rw [hg s hs] at hl
        have e : lieB L d (shA L d (fun w => x (364 * s + w)) (ofs L (d + 1))) (ofs L (d + 1)) = true := hlb.mpr hl
        rw [e] at hQ
        have hX := sm_f0 (L := L) (d := d) hg hf1 (fun i hi => by unfold kP56; omega)
        rw [← hA] at hX
        exact hQ S1 (CR_V hC hu1 hc1 hX)
      · rw [hg s hs] at hl
        have e : lieB L d (shA L d (fun w => x (364 * s + w)) (ofs L (d + 1))) (ofs L (d + 1)) = false := by
          cases q : lieB L d (shA L d (fun w => x (364 * s + w)) (ofs L (d + 1))) (ofs L (d + 1)) with
          | false => rfl
          | true => exact absurd (hlb.mp q) hl
        rw [e] at hQ
        have hX := sm_f0 (L := L) (d := d) hg hf1 (fun i hi => by unfold kP56; omega)
        rw [← hA] at hX
        exact hQ S1 (CR_V hC hu1 hc1 hX)
    · refine sm_lie hM.1 hx (fun z => absurd ha z) (fun s' S' x' hs' e hu hn hag => ?_)
      have i1 := s_inj (by omega) (by omega) e
      subst i1
      refine hQ S' (MR_X hM hu hn ?_)
      rw [hA]
      exact xr_a0 hW hag
  · refine ⟨-1, A, rfl, fun Q hQ => ?_, fun Q hQ => ?_⟩
    · exact ns_a (fun z => absurd z ha) (fun _ => hQ _ hC)
    · exact sm_lie hM.1 hx (fun _ => hQ _ hM) (fun s' S' x' hs' e hu hn hag => absurd (by rw [e]; exact isS_n hs') ha)
end SO
