/-! both answer alike: numbers, fractions, words -/
section SK
variable {L d : Nat} {Ln : Nat → Nat} {A : AS} {Sc : cs_T} {Sm : ms_T} {x : Nat → Nat} {g : Nat → Nat → Kf}
def wo (L d : Nat) (wd : Int32) : Option Nat := if wd.toInt < 0 then none else wordN L d wd.toInt.toNat
theorem wo_n {c : Nat} (hc : c < 2 ^ 31) : wo L d (nI c) = wordN L d c := by
  unfold wo
  rw [nI_i hc, if_neg (by omega), Int.toNat_natCast]
theorem pl_q {wd : Int32} {Q : Int32 → cs_T → Prop} (h : cw_ok L d Ln Sc) (h0 : wo L d wd = none → Q (-1) Sc) (h1 : ∀ w, wo L d wd = some w → Q (nI w) Sc) : wp_X6_placeOf Ln Sc wd Q :=
  cq_place h (fun z => h0 (if_pos z)) (fun c e hc hw => h0 (by rw [e, wo_n hc]; exact hw)) (fun c w e hc hw => h1 w (by rw [e, wo_n hc]; exact hw))
theorem wo_no {r wd : Int32} (z : ¬ isS r ∨ wd.toInt < 0 ∨ ∃ c, wd = nI c ∧ c < 2 ^ 31 ∧ wordN L d c = none) : ¬ isS r ∨ wo L d wd = none := by
  rcases z with z | z | ⟨c, e, hc, hw⟩
  · exact Or.inl z
  · exact Or.inr (if_pos z)
  · exact Or.inr (by rw [e, wo_n hc]; exact hw)
theorem wo_lt {wd : Int32} {w : Nat} (hL : 1 ≤ L) (h : wo L d wd = some w) : w < ofs L (d + 1) := by
  unfold wo at h
  by_cases e : wd.toInt < 0
  · rw [if_pos e] at h; cases h
  · rw [if_neg e] at h; exact wordN_lt hL h
theorem nf_q {u v c : Int32} {m : Int} {Q : Int32 → Prop} (hc : c.toInt = m) (hn : (-c).toInt = -m) (h1 : -m ≤ u.toInt ∧ u.toInt ≤ m ∧ 1 ≤ v.toInt ∧ v.toInt ≤ m → Q 0) (h0 : ¬ (-m ≤ u.toInt ∧ u.toInt ≤ m ∧ 1 ≤ v.toInt ∧ v.toInt ≤ m) → Q 1) : wp_X7_noFraction u v c Q := by
  have e1 : (1 : Int32).toInt = 1 := by decide
  refine ⟨fun z => h0 (fun q => ?_), fun z => ⟨fun y => h0 (fun q => ?_), fun y => ⟨fun w => h0 (fun q => ?_), fun w => ⟨fun k => h1 ?_, fun k => h0 (fun q => ?_)⟩⟩⟩⟩
  · rw [i32_lt, hn] at z; omega
  · rw [i32_lt, hc] at y; omega
  · rw [i32_lt, e1] at w; omega
  · rw [i32_lt, hn] at z; rw [i32_lt, hc] at y; rw [i32_lt, e1] at w; rw [i32_le, hc] at k; omega
  · rw [i32_le, hc] at k; omega
theorem nf_a {u v c : Int32} {m : Int} {P R : Prop} (hc : c.toInt = m) (hn : (-c).toInt = -m) (h1 : -m ≤ u.toInt ∧ u.toInt ≤ m ∧ 1 ≤ v.toInt ∧ v.toInt ≤ m → P) (h0 : ¬ (-m ≤ u.toInt ∧ u.toInt ≤ m ∧ 1 ≤ v.toInt ∧ v.toInt ≤ m) → R) : wp_X7_noFraction u v c (fun r => (r = 0 → P) ∧ (¬ r = 0 → R)) := nf_q hc hn (fun q => ⟨fun _ => h1 q, fun z => absurd rfl z⟩) (fun q => ⟨fun z => absurd z (by decide), fun _ => h0 q⟩)
theorem sm_put2 {S : ms_T} {r wd u v : Int32} {Q : Int32 → ms_T → Prop} (h : mt_ok L d S) (hx : nums S x) (hno : ¬ isS r ∨ wo L d wd = none → Q (-1) S) (hbad : isS r → ∀ w, wo L d wd = some w → ¬ isP u v → Q (-2) S) (hq : ∀ s w S', s < 8 → r = nI s → wo L d wd = some w → isP u v → upS S S' → nums S' (rsN x (364 * s + w) 1 (fun _ => partN u.toInt v.toInt)) → Q 0 S') : wp_X8_put S r wd u v Q := by
  have hall := cf_all h.1
  have hL := cf_L h.1
  refine sp_wordOf h (fun hn => ?_) (fun c e hc hw => ?_) (fun c w e hc hw => ?_)
  · exact sm_isSum (fun s hs e => ⟨fun z => absurd z (by decide), fun _ => ⟨fun z => absurd rfl z, fun _ => hno (Or.inr (if_pos hn))⟩⟩) (fun hs => ⟨fun _ => hno (Or.inl hs), fun z => absurd rfl z⟩)
  · exact sm_isSum (fun s hs e1 => ⟨fun z => absurd z (by decide), fun _ => ⟨fun z => absurd rfl z, fun _ => hno (Or.inr (by rw [e, wo_n hc]; exact hw))⟩⟩) (fun hs => ⟨fun _ => hno (Or.inl hs), fun z => absurd rfl z⟩)
  · have hwl := wordN_lt (by omega) hw
    have hwo : wo L d wd = some w := by rw [e, wo_n hc]; exact hw
    refine sm_isSum (fun s hs e1 => ⟨fun z => absurd z (by decide), fun _ => ⟨fun _ => ?_, fun z => ?_⟩⟩) (fun hs => ⟨fun _ => hno (Or.inl hs), fun z => absurd rfl z⟩)
    · subst e1
      refine sm_isPart (fun hp => ⟨fun _ => ?_, fun z => absurd z (by decide)⟩) (fun hp => ⟨fun z => absurd rfl z, fun _ => hbad (isS_n hs) w hwo hp⟩)
      refine sp_partOf hp.1 hp.2.1 hp.2.2.1 hp.2.2.2 ⟨by rw [ix]; exact vp_in_nI (by omega) (by omega), ?_⟩
      rw [ix, nI_clamp (by omega)]
      exact hq s w _ hs rfl hwo hp upS_sJ (nums_one hx (Nat.mod_lt _ (by decide)))
    · exfalso
      have := congrArg Int32.toInt z
      rw [nI_i (by omega), show ((-1) : Int32).toInt = -1 from by decide] at this
      omega
theorem nI_p {w : Nat} (h : w < 1000) : (0 : Int32) ≤ nI w := nI_le (a := 0) (b := w) (Nat.zero_le _) (by omega)
theorem si_at {a1 a2 : Int32} (h : CX L d Ln A Sc Sm x g) : SIM L d Ln A.2.2.1.1 (fun Q => wp_X7_at Ln Sc a1 a2 Q) (fun Q => wp_X8_at Sm a1 a2 Q) := by
  obtain ⟨hcf, hx, hcv, hg, hC, hM, -⟩ := id h
  obtain ⟨hW, hL, hd1, hd⟩ := CX_W h
  by_cases ha : isS a1
  · obtain ⟨s, hs, rfl⟩ := isS_of ha
    cases hw : wo L d a2 with
    | none =>
      refine ⟨-1, A, rfl, fun Q hQ => ?_, fun Q hQ => ?_⟩
      · exact pl_q hcv.1 (fun _ => ns_b (fun _ => ⟨fun z => absurd z (by decide), fun _ => hQ _ hC⟩) (fun z => absurd ha z)) (fun w e => by rw [hw] at e; cases e)
      · refine sm_at hM.1.1 hx (fun _ => hQ _ hM) (fun s' c w hs' e1 e2 hc hw' => ?_)
        rw [e2, wo_n hc, hw'] at hw
        cases hw
    | some w =>
      have hwl := wo_lt hL hw
      have hv := (hx (364 * s + w) (by omega)).2
      refine ⟨nI (x (364 * s + w)), A, rfl, fun Q hQ => ?_, fun Q hQ => ?_⟩
      · refine pl_q hcv.1 (fun e => by rw [hw] at e; cases e) (fun w' e => ?_)
        rw [hw] at e
        injection e with e
        subst e
        refine ns_b (fun _ => ⟨fun _ => ?_, fun z => absurd (nI_p (by omega)) z⟩) (fun z => absurd ha z)
        rw [ix7 hs, cv_g hcv (kV7 hs) hwl, hg s hs]
        refine ⟨vin8 hs, by omega, by rw [hcv.2.2.2.1 _ (kV7 hs)]; exact vp_in_nI (by omega) (by omega), ?_⟩
        rw [show kI (rwK x s w) = nI (x (364 * s + w)) from kI_N hv]
        exact hQ _ hC
      · refine sm_at hM.1.1 hx (fun z => ?_) (fun s' c w' hs' e1 e2 hc hw' => ?_)
        · rcases wo_no z with z | z
          · exact absurd ha z
          · rw [hw] at z; cases z
        · have i1 := s_inj (by omega) (by omega) e1
          subst i1
          rw [e2, wo_n hc, hw'] at hw
          injection hw with hw
          subst hw
          exact hQ _ hM
  · refine ⟨-1, A, rfl, fun Q hQ => ?_, fun Q hQ => ?_⟩
    · exact pl_q hcv.1 (fun _ => ns_b (fun z => absurd z ha) (fun _ => hQ _ hC)) (fun _ _ => ns_b (fun z => absurd z ha) (fun _ => hQ _ hC))
    · exact sm_at hM.1.1 hx (fun _ => hQ _ hM) (fun s' c w' hs' e1 _ _ _ => absurd (by rw [e1]; exact isS_n hs') ha)
theorem si_put {a1 a2 a3 a4 : Int32} (h : CX L d Ln A Sc Sm x g) : SIM L d Ln A.2.2.1.1 (fun Q => wp_X7_put Ln Sc a1 a2 a3 a4 Q) (fun Q => wp_X8_put Sm a1 a2 a3 a4 Q) := by
  obtain ⟨hcf, hx, hcv, hg, hC, hM, -⟩ := id h
  obtain ⟨hW, hL, hd1, hd⟩ := CX_W h
  have e9 : (9999 : Int32).toInt = 9999 := by decide
  have e9' : (-(9999 : Int32)).toInt = -9999 := by decide
  by_cases ha : isS a1
  · obtain ⟨s, hs, rfl⟩ := isS_of ha
    cases hw : wo L d a2 with
    | none =>
      refine ⟨-1, A, rfl, fun Q hQ => ?_, fun Q hQ => ?_⟩
      · exact pl_q hcv.1 (fun _ => ns_b (fun _ => ⟨fun z => absurd z (by decide), fun _ => hQ _ hC⟩) (fun z => absurd ha z)) (fun w e => by rw [hw] at e; cases e)
      · exact sm_put2 hM.1.1 hx (fun _ => hQ _ hM) (fun _ w e _ => by rw [hw] at e; cases e) (fun s' w S' _ _ e _ _ _ => by rw [hw] at e; cases e)
    | some w =>
      have hwl := wo_lt hL hw
      by_cases hp : isP a3 a4
      · refine ⟨0, (va_up (rwK x) s (fun j => if j = w then kN (partN a3.toInt a4.toInt) else rwK x s j), A.2), rfl, fun Q hQ => ?_, fun Q hQ => ?_⟩
        · refine pl_q hcv.1 (fun e => by rw [hw] at e; cases e) (fun w' e => ?_)
          rw [hw] at e
          injection e with e
          subst e
          refine ns_b (fun _ => ⟨fun _ => nf_a e9 e9' (fun _ => ⟨vin8 hs, cn_ratio hp.2.2.1 hp.2.2.2 ?_⟩) (fun z => absurd hp z), fun z => absurd (nI_p (by omega)) z⟩) (fun z => absurd ha z)
          rw [ix7 hs, nI_clamp (by omega), ← kI_N (show partN a3.toInt a4.toInt < PR from Nat.mod_lt _ (by decide))]
          have hcs := cv_s (p := w) (c := kN (partN a3.toInt a4.toInt)) (r' := fun j => if j = w then kN (partN a3.toInt a4.toInt) else rwK x s j) hcv (kV7 hs) (fun j hj => by rw [hg s hs])
          refine ⟨by omega, by rw [hcv.2.2.2.1 _ (kV7 hs)]; exact vp_in_nI (by omega) (by omega), hQ _ (CR_V hC hcs.1 hcs.2 (sm_fr hg (fr_u (P := fun k => k = 7 + s) rfl) (fun i hi hne => by omega) (by rw [va_up_self]; exact eqW_rf)))⟩
        · refine sm_put2 hM.1.1 hx (fun z => ?_) (fun _ w' e z => absurd hp z) (fun s' w' S' hs' e1 e _ hu hn => hQ S' (MR_S hM hu hn ?_))
          · rcases z with z | z
            · exact absurd ha z
            · rw [hw] at z; cases z
          · have i1 := s_inj (by omega) (by omega) e1
            subst i1
            rw [hw] at e
            injection e with e
            subst e
            refine xr_if (fun s'' w'' hs'' hw'' => ?_)
            unfold rwK
            by_cases q : s'' = s'
            · rw [if_pos q, q]
              by_cases q2 : w'' = w
              · rw [if_pos q2, q2]
                exact congrArg kN (rsN_in (i := 0) (by decide))
              · rw [if_neg q2, rsN_out (by omega)]
            · rw [if_neg q, rsN_out (by omega)]
      · refine ⟨-2, A, rfl, fun Q hQ => ?_, fun Q hQ => ?_⟩
        · refine pl_q hcv.1 (fun e => by rw [hw] at e; cases e) (fun w' e => ?_)
          have hwl' := wo_lt hL e
          exact ns_b (fun _ => ⟨fun _ => nf_a e9 e9' (fun z => absurd z hp) (fun _ => hQ _ hC), fun z => absurd (nI_p (by omega)) z⟩) (fun z => absurd ha z)
        · refine sm_put2 hM.1.1 hx (fun z => ?_) (fun _ w' e z => hQ _ hM) (fun s' w' S' hs' e1 e z hu hn => absurd z hp)
          rcases z with z | z
          · exact absurd ha z
          · rw [hw] at z; cases z
  · refine ⟨-1, A, rfl, fun Q hQ => ?_, fun Q hQ => ?_⟩
    · exact pl_q hcv.1 (fun _ => ns_b (fun z => absurd z ha) (fun _ => hQ _ hC)) (fun _ _ => ns_b (fun z => absurd z ha) (fun _ => hQ _ hC))
    · exact sm_put2 hM.1.1 hx (fun _ => hQ _ hM) (fun z => absurd z ha) (fun s' w' S' hs' e1 _ _ _ _ => absurd (by rw [e1]; exact isS_n hs') ha)
theorem si_add {a1 a2 a3 a4 : Int32} (h : CX L d Ln A Sc Sm x g) : SIM L d Ln A.2.2.1.1 (fun Q => wp_X7_add Ln Sc a1 a2 a3 a4 Q) (fun Q => wp_X8_add Sm a1 a2 a3 a4 Q) := by
  obtain ⟨hcf, hx, hcv, hg, hC, hM, -⟩ := id h
  obtain ⟨hW, hL, hd1, hd⟩ := CX_W h
  have e9 : (9999 : Int32).toInt = 9999 := by decide
  have e9' : (-(9999 : Int32)).toInt = -9999 := by decide
  by_cases ha : isS a1 ∧ isS a2
  · obtain ⟨s, hs, rfl⟩ := isS_of ha.1
    obtain ⟨a, ha2, rfl⟩ := isS_of ha.2
    by_cases hp : isP a3 a4
    · refine ⟨0, (va_up (rwK x) s (fun j => rwK x s j + rwK x a j * kN (partN a3.toInt a4.toInt)), A.2), rfl, fun Q hQ => ?_, fun Q hQ => ?_⟩
      · refine ns_b (fun _ => ns_a (fun _ => nf_a e9 e9' (fun _ => ⟨vin8 hs, vin8 ha2, cn_ratio hp.2.2.1 hp.2.2.2 ?_⟩) (fun z => absurd hp z)) (fun z => absurd ha.2 z)) (fun z => absurd ha.1 z)
        rw [ix7 hs, ix7 ha2, ← kI_N (show partN a3.toInt a4.toInt < PR from Nat.mod_lt _ (by decide))]
        refine cq_amass hcv (kV7 hs) (kV7 ha2) (fun S' hu hc' => hQ S' (CR_V hC hu hc' (sm_fr hg (fr_u (P := fun k => k = 7 + s) rfl) (fun i hi hne => by omega) ?_)))
        rw [va_up_self, hg s hs, hg a ha2]
        exact eqW_rf
      · refine sm_add hM.1.1 hx (fun z => absurd ha z) (fun _ _ z => absurd hp z) (fun s' a' S' hs' ha' e1 e2 _ hu hn => hQ S' (MR_S hM hu hn ?_))
        have i1 := s_inj (by omega) (by omega) e1
        have i2 := s_inj (by omega) (by omega) e2
        subst i1 i2
        exact xr_if (fun s' w hs' hw => addX_K hW hw (by omega) (by omega))
    · refine ⟨-2, A, rfl, fun Q hQ => ?_, fun Q hQ => ?_⟩
      · exact ns_b (fun _ => ns_a (fun _ => nf_a e9 e9' (fun z => absurd z hp) (fun _ => hQ _ hC)) (fun z => absurd ha.2 z)) (fun z => absurd ha.1 z)
      · exact sm_add hM.1.1 hx (fun z => absurd ha z) (fun _ _ _ => hQ _ hM) (fun s' a' S' hs' ha' e1 e2 z hu hn => absurd z hp)
  · refine ⟨-1, A, rfl, fun Q hQ => ?_, fun Q hQ => ?_⟩
    · exact ns_b (fun q1 => ns_a (fun q2 => absurd ⟨q1, q2⟩ ha) (fun _ => hQ _ hC)) (fun _ => hQ _ hC)
    · exact sm_add hM.1.1 hx (fun _ => hQ _ hM) (fun q1 q2 => absurd ⟨q1, q2⟩ ha) (fun s' a' S' hs' ha' e1 e2 _ hu hn => absurd ⟨by rw [e1]; exact isS_n hs', by rw [e2]; exact isS_n ha'⟩ ha)
end SK
