/-! both answer alike: table -/
section SQ
variable {L d : Nat} {Ln : Nat → Nat} {A : AS} {Sc : cs_T} {Sm : ms_T} {x : Nat → Nat} {g : Nat → Nat → Kf}
theorem blk_lt {n m : Nat} {B : Nat → Nat} (hB : ∀ w, B w < PR) (w : Nat) : blk L n m B w < PR := by
  unfold blk
  by_cases e : ofs L (n + m) ≤ w ∧ w < ofs L (n + m) + L ^ (n + m)
  · rw [if_pos e]; exact hB _
  · rw [if_neg e]; decide
theorem blk_at {n m N V : Nat} {B : Nat → Nat} (hV : V < L ^ N) : kN (blk L n m B (ofs L N + V)) = hom (n + m) (fun V => kN (B V)) N V := by
  unfold blk hom
  by_cases e : N = n + m
  · subst e
    rw [if_pos (by omega), if_pos rfl, Nat.add_sub_cancel_left]
  · rw [if_neg e, if_neg ?_, kN_0]
    intro z
    have e1 : ofs L (N + 1) = ofs L N + L ^ N := rfl
    have e2 : ofs L (n + m + 1) = ofs L (n + m) + L ^ (n + m) := rfl
    by_cases q : N < n + m
    · have := ofs_mono (L := L) (show N + 1 ≤ n + m by omega)
      omega
    · have := ofs_mono (L := L) (show n + m + 1 ≤ N by omega)
      omega
theorem brk_lt {A B : Nat → Nat} {n m w : Nat} : brk L A B n m w < PR := Nat.mod_lt _ (by decide)
theorem blk_sh {n m p t : Nat} {B : Nat → Nat} (hL : 1 ≤ L) (hd6 : d ≤ 6) (hkr : KR L d) (hp : p ≤ d) (ht : t < L ^ p) : kN (shA L d (blk L n m B) (ofs L (d + 1)) (ofs L p + t)) = ksum (L ^ p) (fun V => hom (n + m) (fun V => kN (B V)) p V * sml L 8 p t V) := by
  have es := share_eq (L := L) (d := d) (g := blk L n m B) hL (by omega) hp ht (hkr.1 p hp)
  unfold shr at es
  rw [← es]
  exact ksum_c (fun V hV => by rw [blk_at hV])
theorem nr_0 : nrI 0 = 0 := by decide
theorem blk_z {n m p t : Nat} {B : Nat → Nat} (hL : 1 ≤ L) (hd6 : d ≤ 6) (hkr : KR L d) (hB : ∀ w, B w < PR) (hp : p ≤ d) (ht : t < L ^ p) (hne : p ≠ n + m) : nrI (shA L d (blk L n m B) (ofs L (d + 1)) (ofs L p + t)) = 0 := by
  have e := blk_sh (n := n) (m := m) (B := B) hL hd6 hkr hp ht
  rw [ksum_z (fun V hV => by unfold hom; rw [if_neg hne, km_0])] at e
  have e2 := congrArg Fin.val e
  rw [kN_v (shA_lt (blk_lt hB _) _)] at e2
  rw [show shA L d (blk L n m B) (ofs L (d + 1)) (ofs L p + t) = 0 from e2]
  exact nr_0
theorem cm_hom {n m : Nat} {C1 C2 : Nat → Kf} {f h : Nat → Kf} (hL : 1 ≤ L) (hf : eqW L d f (plK L d (hom n C1))) (hh : eqW L d h (plK L d (hom m C2))) : eqW L d (fun j => mulK L d f h j + mulK L d h f j * kN 2147483646) (plK L d (hom (n + m) (fun V => C1 (V / L ^ m) * C2 (V % L ^ m) + C2 (V / L ^ n) * C1 (V % L ^ n) * kN 2147483646))) := fun w hw => by
  have m1 := mulK_pl hL hf hh w hw
  have m2 := mulK_pl hL hh hf w hw
  show mulK L d f h w + mulK L d h f w * kN 2147483646 = _
  rw [m1, m2]
  obtain ⟨N, V, hN, hV, rfl⟩ := pl_ex hw
  rw [plK_at hN hV, plK_at hN hV, plK_at hN hV, mulR_hom, mulR_hom]
  unfold hom
  by_cases e : N = n + m
  · rw [if_pos e, if_pos (by omega), if_pos e]
  · rw [if_neg e, if_neg (by omega), if_neg e, km_0, ka_0]
theorem ct_share {n v m u p t : Nat} {Q : Int32 → cs_T → Prop} (hkr : KR L d) (hcv : cv L d Ln Sc g) (hch : cch L d Ln Sc) (h1 : 1 ≤ n) (hn : n ≤ d) (hv : v < L ^ n) (hc1 : chf L n v = true) (h2 : 1 ≤ m) (hm : m ≤ d) (hu : u < L ^ m) (hc2 : chf L m u = true) (h3 : 1 ≤ p) (hp : p ≤ d) (ht : t < L ^ p) (hc3 : chf L p t = true)
    (hne : n + m ≠ p → Q 0 Sc) (hq : n + m = p → ∀ S' g', upK kW Sc S' → cv L d Ln S' g' → fr (fun k => k = 3 ∨ 15 ≤ k) g g' → Q (nI (shA L d (blk L n m (brk L (bas L n n v) (bas L m m u) n m)) (ofs L (d + 1)) (ofs L p + t))) S') : wp_X1_shareInBracket Ln Sc (nI (cnt L d (ofs L n + v))) (nI (cnt L d (ofs L m + u))) (nI (cnt L d (ofs L p + t))) Q := by
  have hcf := hcv.1.1
  have hL := cf_L hcf
  have hd := cf_d hcf
  have hC98 := chC_98 hcf
  obtain ⟨-, a1, a2⟩ := isC_n hcf h1 hn hv hc1
  obtain ⟨-, b1, b2⟩ := isC_n hcf h2 hm hu hc2
  obtain ⟨-, c1, c2⟩ := isC_n hcf h3 hp ht hc3
  have r1 := (hch.2.2.2.2.2.2 n v h1 hn hv hc1).1
  have r2 := (hch.2.2.2.2.2.2 m u h2 hm hu hc2).1
  have r3 := (hch.2.2.2.2.2.2 p t h3 hp ht hc3).1
  have in3 : vp_in (nI (cnt L d (ofs L p + t))) (Ln 33) := by rw [hch.1]; exact vp_in_nI c1 (by omega)
  unfold wp_X1_shareInBracket
  rw [nI_clamp (show cnt L d (ofs L n + v) < 2 ^ 31 by omega), nI_clamp (show cnt L d (ofs L m + u) < 2 ^ 31 by omega), nI_clamp (show cnt L d (ofs L p + t) < 2 ^ 31 by omega)]
  refine ⟨by rw [hch.1]; exact vp_in_nI a1 (by omega), ?_⟩
  rw [r1]
  refine cp_lengthOf hcv.1 hn hv ⟨by rw [hch.1]; exact vp_in_nI b1 (by omega), ?_⟩
  rw [r2]
  refine cp_lengthOf hcv.1 hm hu ?_
  rintro _ rfl
  refine ⟨in3, ?_⟩
  rw [r3, nI_add]
  refine cp_lengthOf hcv.1 hp ht ⟨fun z => ?_, fun z => hne (fun e => z (by rw [e]))⟩
  have e : n + m = p := (nI_eq (a := n + m) (b := p) (by omega) (by omega)).mp z
  subst e
  refine cq_weave 8 n v 0 Sc g _ (by omega) h1 hn hv hc1 (by omega) hcv hch (fun S1 g1 u1 cv1 f1 e1 => ?_)
  have hch1 := cch_up hch (upK_W u1)
  refine cq_weave 8 m u 1 S1 g1 _ (by omega) h2 hm hu hc2 (by omega) cv1 hch1 (fun S2 g2 u2 cv2 f2 e2 => ?_)
  have hch2 := cch_up hch1 (upK_W u2)
  refine ⟨vp_in_nI (n := 0) (by decide) (by decide), vp_in_nI (n := 0) (by decide) (by decide), vp_in_nI (n := 1) (by decide) (by decide), ?_⟩
  have k15 : kV 15 := by unfold kV; omega
  have k16 : kV 16 := by unfold kV; omega
  refine cq_commute (t := 15) (a := 15) (b := 16) cv2 k15 k15 k16 (by decide) (by decide) (fun S3 g3 u3 cv3 f3 e3 => ?_)
  have hch3 := cch_up hch2 (upK_W u3)
  have e15 : g2 15 = g1 15 := f2 15 (by unfold kX; omega)
  have c15 : eqW L d (g3 15) (plK L d (hom (n + m) (fun V => kN (brk L (bas L n n v) (bas L m m u) n m V)))) := by
    rw [e3]
    refine eqW_tr (cm_hom (n := n) (m := m) (by omega) (by rw [e15]; exact e1) e2) (fun w hw => ?_)
    obtain ⟨N, V, hN, hV, rfl⟩ := pl_ex hw
    rw [plK_at hN hV, plK_at hN hV]
    unfold hom
    by_cases e : N = n + m
    · rw [if_pos e, if_pos e]
      exact brk_K.symm
    · rw [if_neg e, if_neg e]
  refine ⟨in3, ?_⟩
  rw [(hch3.2.2.2.2.2.2 (n + m) t h3 hp ht hc3).1]
  refine cq_measure (lv := 1) cv3 hch3.2.2.2.2.1 hp ht (by decide) (fun S4 g4 u4 cv4 f4 e4 => ?_)
  refine ⟨vp_in_nI (n := 0) (by decide) (by decide), vp_in_nI (n := 1) (by decide) (by decide), ?_⟩
  refine cq_inner (a := 15) (b := 16) cv4 k15 k16 ?_
  rw [in_hom hp e4, f4 15 (by unfold kY; omega)]
  have es := blk_sh (n := n) (m := m) (B := brk L (bas L n n v) (bas L m m u) n m) (show 1 ≤ L by omega) hd.2 hkr hp ht
  rw [ksum_c (fun V hV => by rw [c15 _ (pl_W hp hV), plK_at hp hV]), ← es, kI_N (shA_lt (blk_lt (fun _ => brk_lt) _) _)]
  refine hq rfl S4 g4 (upK_tr (upK_W (upK_tr u1 (upK_tr u2 u3))) u4) cv4 ?_
  refine fr_tr (fr_w f1 ?_) (fr_tr (fr_w f2 ?_) (fr_tr (fr_w f3 ?_) (fr_w f4 ?_))) <;> intro k hk
  · unfold kX at hk; omega
  · unfold kX at hk; omega
  · omega
  · unfold kY at hk; omega
theorem si_table {a1 a2 a3 : Int32} (hkr : KR L d) (h : CX L d Ln A Sc Sm x g) : SIM L d Ln A.2.2.1.1 (fun Q => wp_X7_table Ln Sc a1 a2 a3 Q) (fun Q => wp_X8_table Sm a1 a2 a3 Q) := by
  obtain ⟨hcf, hx, hcv, hg, hC, hM, hA⟩ := id h
  obtain ⟨hW, hL, hd1, hd⟩ := CX_W h
  have hd6 := cf_d hcf
  have hch := hC.2.1
  by_cases hi : isC L d a1 ∧ isC L d a2 ∧ isC L d a3
  · obtain ⟨n, v, h1, hn, hv, hc1, rfl⟩ := chf_ex hcf hi.1
    obtain ⟨m, u, h2, hm, hu, hc2, rfl⟩ := chf_ex hcf hi.2.1
    obtain ⟨p, t, h3, hp, ht, hc3, rfl⟩ := chf_ex hcf hi.2.2
    refine ⟨if n + m = p then nrI (shA L d (blk L n m (brk L (bas L n n v) (bas L m m u) n m)) (ofs L (d + 1)) (ofs L p + t)) else 0, A, rfl, fun Q hQ => ?_, fun Q hQ => ?_⟩
    · refine nc_q hcv.1 hch h1 hn hv hc1 ⟨fun z => absurd rfl z, fun _ => nc_q hcv.1 hch h2 hm hu hc2 ⟨fun z => absurd rfl z, fun _ => nc_q hcv.1 hch h3 hp ht hc3 ⟨fun _ => ?_, fun z => absurd rfl z⟩⟩⟩
      refine ct_share hkr hcv hch h1 hn hv hc1 h2 hm hu hc2 h3 hp ht hc3 (fun e => ?_) (fun e S' g' hu' hc' hf => ?_)
      · rw [if_neg e] at hQ
        refine cn_near (a := 0) (by decide) ?_
        rw [nr_0]
        exact hQ _ hC
      · rw [if_pos e] at hQ
        refine cn_near (shA_lt (blk_lt (fun _ => brk_lt) _) _) (hQ _ ?_)
        have hX := sm_f0 (L := L) (d := d) hg hf (fun i hi => by omega)
        rw [← hA] at hX
        exact CR_W hC hu' hc' hX
    · refine sm_table hM.1 hx (fun z => absurd hi z) (fun n' v' m' u' p' t' h1' hn' hv' hc1' h2' hm' hu' hc2' h3' hp' ht' hc3' e1 e2 e3 hnm => ?_) (fun n' v' m' u' p' t' S' x' h1' hn' hv' hc1' h2' hm' hu' hc2' h3' hp' ht' hc3' e1 e2 e3 hnm hup hnu hag => ?_)
      · obtain ⟨q1, q2⟩ := ch_u hcf h1 hn hv hc1 h1' hn' hv' hc1' e1
        obtain ⟨q3, q4⟩ := ch_u hcf h2 hm hu hc2 h2' hm' hu' hc2' e2
        obtain ⟨q5, q6⟩ := ch_u hcf h3 hp ht hc3 h3' hp' ht' hc3' e3
        subst q1 q3 q5
        rw [if_neg (by omega)] at hQ
        exact hQ _ hM
      · obtain ⟨q1, q2⟩ := ch_u hcf h1 hn hv hc1 h1' hn' hv' hc1' e1
        obtain ⟨q3, q4⟩ := ch_u hcf h2 hm hu hc2 h2' hm' hu' hc2' e2
        obtain ⟨q5, q6⟩ := ch_u hcf h3 hp ht hc3 h3' hp' ht' hc3' e3
        subst q1 q2 q3 q4 q5 q6
        have hMX : MR L d A S' := by
          have := MR_X (X' := A.1) hM hup hnu (by rw [hA]; exact xr_a0 hW hag)
          exact this
        by_cases e : n' + m' = p'
        · rw [if_pos e] at hQ
          exact hQ _ hMX
        · rw [if_neg e] at hQ
          rw [blk_z hL hd6.2 hkr (fun _ => brk_lt) hp' ht' (fun z => e z.symm)]
          exact hQ _ hMX
  · refine ⟨-2147483648, A, rfl, fun Q hQ => ?_, fun Q hQ => ?_⟩
    · have hF : Q (-2147483648) Sc := hQ _ hC
      by_cases i1 : isC L d a1
      · obtain ⟨n, v, h1, hn, hv, hc1, rfl⟩ := chf_ex hcf i1
        by_cases i2 : isC L d a2
        · obtain ⟨m, u, h2, hm, hu, hc2, rfl⟩ := chf_ex hcf i2
          exact nc_q hcv.1 hch h1 hn hv hc1 ⟨fun z => absurd rfl z, fun _ => nc_q hcv.1 hch h2 hm hu hc2 ⟨fun z => absurd rfl z, fun _ => nc_n hcv.1 hch (fun i3 => hi ⟨i1, i2, i3⟩) ⟨fun z => absurd z (by decide), fun _ => hF⟩⟩⟩
        · exact nc_q hcv.1 hch h1 hn hv hc1 ⟨fun z => absurd rfl z, fun _ => nc_n hcv.1 hch i2 ⟨fun _ => hF, fun z => absurd z (by decide)⟩⟩
      · exact nc_n hcv.1 hch i1 ⟨fun _ => hF, fun z => absurd z (by decide)⟩
    · exact sm_table hM.1 hx (fun _ => hQ _ hM) (fun n' v' m' u' p' t' h1' hn' hv' hc1' h2' hm' hu' hc2' h3' hp' ht' hc3' e1 e2 e3 _ => absurd ⟨by rw [e1]; exact (isC_n hcf h1' hn' hv' hc1').1, by rw [e2]; exact (isC_n hcf h2' hm' hu' hc2').1, by rw [e3]; exact (isC_n hcf h3' hp' ht' hc3').1⟩ hi) (fun n' v' m' u' p' t' S' x' h1' hn' hv' hc1' h2' hm' hu' hc2' h3' hp' ht' hc3' e1 e2 e3 _ _ _ _ => absurd ⟨by rw [e1]; exact (isC_n hcf h1' hn' hv' hc1').1, by rw [e2]; exact (isC_n hcf h2' hm' hu' hc2').1, by rw [e3]; exact (isC_n hcf h3' hp' ht' hc3').1⟩ hi)
end SQ
