/-! the class's reader: brackets, rounds -/
section RE
variable {L d : Nat} {Ln : Nat → Nat} {t : Nat} {b : Nat → Nat} {X : Nat → Nat → Kf}
def TxO (L d : Nat) (Ln : Nat → Nat) (t : Nat) (b : Nat → Nat) (X : Nat → Nat → Kf) (lv : Nat) (T : Nat → RS) (R : cs_T → Int32 → (cs_T → Prop) → Prop) : Prop :=
  ∀ S g k lk Q, rdC L d Ln t b S g k lk → smR L d X g → ((T k).1 = true → ∀ S' g' lk', upR S S' → rdC L d Ln t b S' g' (T k).2.1 lk' → fr (kR lv) g g' → accR L d lk (15 + 3 * lv) (T k).2.2 g' lk' → Q S') → ((T k).1 = false → postF L d Ln S g (T k).2.1 Q) → R S (nI lv) Q
theorem b_t {x : Bool} (h : ¬ x = false) : x = true := by
  cases x with
  | true => rfl
  | false => exact absurd rfl h
theorem kR_T {lv k : Nat} (h : kR (lv + 1) k) : kT lv k := by unfold kR at h; unfold kT; omega
theorem cr_bracket {R : cs_T → Int32 → (cs_T → Prop) → Prop} {T : Nat → RS} {ok : Bool} {S : cs_T} {g : Nat → Nat → Kf} {k lv : Nat} {lk0 lk : Int32} {acc : Option (Nat → Kf)} {Q : cs_T → Prop} (h : rdC L d Ln t b S g k lk) (hlv : lv ≤ 5) (hok : ok = decide (lv < 5)) (hT : okT t T) (hR : lv < 5 → TxO L d Ln t b X (lv + 1) T R) (hX : smR L d X g) (ha : accR L d lk0 (15 + (3 * lv + 1)) acc g lk) (h91 : bt t b k = 91)
    (hp : postK L d Ln t b lv S g lk0 acc (if ok = false then (false, k, none) else if (T (k + 1)).1 = false then (false, (T (k + 1)).2.1, none) else if bt t b (T (k + 1)).2.1 ≠ 44 then (false, (T (k + 1)).2.1, none)
     else if (T ((T (k + 1)).2.1 + 1)).1 = false then (false, (T ((T (k + 1)).2.1 + 1)).2.1, none) else if bt t b (T ((T (k + 1)).2.1 + 1)).2.1 ≠ 93 then (false, (T ((T (k + 1)).2.1 + 1)).2.1, none)
     else (true, (T ((T (k + 1)).2.1 + 1)).2.1 + 1, comO L d (T (k + 1)).2.2 (T ((T (k + 1)).2.1 + 1)).2.2)) Q) : wp_X4_readBracket R Ln S (nI lv) Q := by
  have hL : 1 ≤ L := Nat.le_of_lt (cf_L h.1.1.1).1
  have ht := h.2.1.2.1
  refine cr_opens (c := 91) h hlv (by decide) (fun _ h5 hr1 => ⟨fun _ => ?_, fun z => absurd z (by decide)⟩) (fun e => ⟨fun z => absurd rfl z, fun _ => ?_⟩)
  rotate_left
  · have : ok = false := by
      rw [hok]
      refine decide_eq_false (fun z => ?_)
      cases e with
      | inl e => exact e h91
      | inr e => exact e z
    rw [if_pos this] at hp
    exact rd_fault h (hp.2 rfl)
  have hokt : ¬ ok = false := by
    rw [hok, decide_eq_true h5]; exact fun z => by cases z
  rw [if_neg hokt] at hp
  rw [nI_1]
  have hkt := hr1.2.2.2.1
  have hT1 := hT (k + 1) hkt
  refine rq_wh (by omega) (hR h5 _ g (k + 1) lk _ hr1 hX (fun q1 S2 g2 lk2 hu2 hr2 hf2 ha2 => ?_) (fun q1 => ?_))
  rotate_left
  · rw [if_pos q1] at hp
    intro S' g' hu hc he h7
    exact cr_goesF h7 (by omega) ⟨fun z => absurd rfl z, fun _ => hp.2 rfl S' g' (upR_tr (upR_F (Or.inl rfl)) hu) hc he h7⟩
  rw [if_neg (by rw [q1]; decide)] at hp
  have u12 : upR S S2 := upR_tr (upR_F (Or.inl rfl)) hu2
  refine cr_goes (c := 44) hr2 (by decide) (fun e44 hr3 => ⟨fun _ => ?_, fun z => absurd z (by decide)⟩) (fun e44 => ⟨fun z => absurd rfl z, fun _ => ?_⟩)
  rotate_left
  · rw [if_pos e44] at hp
    exact rd_fault hr2 (pF_tr (hp.2 rfl) u12 (eq7_R hf2))
  rw [if_neg (fun z => z e44)] at hp
  refine rq_le hlv (cq_copy hr3.1 (by unfold kV; omega) (by unfold kV; omega) (fun S4 hu4 hc4 => ?_))
  have hr4 := rd_V hr3 hu4 hc4
  have u14 : upR S S4 := upR_tr u12 (upR_tr (upR_F (Or.inl rfl)) (upR_V hu4))
  have f4 : fr (kT lv) g (va_up g2 (15 + (3 * lv + 2)) (g2 (15 + 3 * (lv + 1)))) := fr_tr (fr_w hf2 (fun _ => kR_T)) (fr_u (by unfold kT; omega))
  have hT2 := hT ((T (k + 1)).2.1 + 1) hr3.2.2.2.1
  refine hR h5 _ _ ((T (k + 1)).2.1 + 1) lk2 _ hr4 (sm_eq hX (eq7_T f4)) (fun q2 S5 g5 lk5 hu5 hr5 hf5 ha5 => ?_) (fun q2 => ?_)
  rotate_left
  · rw [if_pos q2] at hp
    intro S' g' hu hc he h7
    exact cr_goesF h7 (by omega) ⟨fun z => absurd rfl z, fun _ => hp.2 rfl S' g' (upR_tr u14 hu) hc (eq7_tr (eq7_T f4) he) h7⟩
  rw [if_neg (by rw [q2]; decide)] at hp
  have u15 : upR S S5 := upR_tr u14 hu5
  have f5 : fr (kT lv) g g5 := fr_tr f4 (fr_w hf5 (fun _ => kR_T))
  refine cr_goes (c := 93) hr5 (by decide) (fun e93 hr6 => ⟨fun _ => ?_, fun z => absurd z (by decide)⟩) (fun e93 => ⟨fun z => absurd rfl z, fun _ => ?_⟩)
  rotate_left
  · rw [if_pos e93] at hp
    exact rd_fault hr5 (pF_tr (hp.2 rfl) u15 (eq7_T f5))
  rw [if_neg (fun z => z e93)] at hp
  refine rq_le hlv (cq_commute hr6.1 (by unfold kV; omega) (by unfold kV; omega) (by unfold kV; omega) (by omega) (by omega) (fun S7 g7 hu7 hc7 hf7 he7 => ?_))
  have hr7 := rd_V hr6 hu7 hc7
  refine rq_te hlv (rq_te hlv (cq_multiply hr7.1 (by unfold kV; omega) (by unfold kV; omega) (by unfold kV; omega) (by omega) (by omega) (fun S8 g8 hu8 hc8 hf8 he8 => ?_)))
  have hr8 := rd_V hr7 hu8 hc8
  refine hp.1 rfl S8 g8 lk5 (upR_tr u15 (upR_tr (upR_F (Or.inl rfl)) (upR_tr (upR_V hu7) (upR_V hu8)))) hr8 (fr_tr f5 (fr_tr (fr_w hf7 (fun j hj => by unfold kT; omega)) (fr_w hf8 (fun j hj => by unfold kT; omega)))) ?_
  refine acc_mul ha (fun x y hx hy => ?_) (fun z => ?_) (fun z => ?_)
  · cases hv1 : (T (k + 1)).2.2 with
    | none => rw [hv1] at hy; exact absurd hy (by unfold comO; exact fun q => by cases q)
    | some v1 =>
      cases hv2 : (T ((T (k + 1)).2.1 + 1)).2.2 with
      | none => rw [hv1, hv2] at hy; exact absurd hy (by unfold comO; exact fun q => by cases q)
      | some v2 =>
        rw [hv1, hv2] at hy
        have ey : (fun j => mulK L d v1 v2 j + mulK L d v2 v1 j * kN 2147483646) = y := by
          have : some (fun j => mulK L d v1 v2 j + mulK L d v2 v1 j * kN 2147483646) = some y := hy
          injection this
        obtain ⟨a1, a2⟩ := ha2.1 v1 hv1
        obtain ⟨c1, c2⟩ := ha5.1 v2 hv2
        refine ⟨c1.trans a1, ?_⟩
        have eleft : g5 (15 + (3 * lv + 2)) = g2 (15 + 3 * (lv + 1)) := by
          rw [hf5 _ (by unfold kR; omega), va_up_self]
        have etm : g7 (15 + (3 * lv + 1)) = g (15 + (3 * lv + 1)) := by
          rw [hf7 _ (by omega), hf5 _ (by unfold kR; omega), va_up_ne _ _ (by omega), hf2 _ (by unfold kR; omega)]
        rw [he8, he7, etm, ← ey]
        refine mulK_c hL (ha.1 x hx).2 (fun w hw => ?_)
        show mulK L d (g5 (15 + (3 * lv + 2))) (g5 (15 + 3 * (lv + 1))) w + mulK L d (g5 (15 + 3 * (lv + 1))) (g5 (15 + (3 * lv + 2))) w * kN 2147483646 = mulK L d v1 v2 w + mulK L d v2 v1 w * kN 2147483646
        rw [eleft, mulK_c hL a2 c2 w hw, mulK_c hL c2 a2 w hw]
  · cases hv2 : (T ((T (k + 1)).2.1 + 1)).2.2 with
    | none => exact ha5.2 hv2
    | some v2 =>
      rw [(ha5.1 v2 hv2).1]
      cases hv1 : (T (k + 1)).2.2 with
      | none => exact ha2.2 hv1
      | some v1 => rw [(ha2.1 v1 hv1).1]; exact z
  · cases hv2 : (T ((T (k + 1)).2.1 + 1)).2.2 with
    | none => exact ha5.2 hv2
    | some v2 =>
      rw [(ha5.1 v2 hv2).1]
      cases hv1 : (T (k + 1)).2.2 with
      | none => exact ha2.2 hv1
      | some v1 =>
        rw [hv1, hv2] at z
        exact absurd z (by unfold comO; exact fun q => by cases q)
/-- the end of a round: the term times the whole -/
theorem cr_round_end {R : cs_T → Int32 → (cs_T → Prop) → Prop} {S : cs_T} {g : Nat → Nat → Kf} {k lv : Nat} {lk : Int32} {Q : cs_T → Prop} (h : rdC L d Ln t b S g k lk) (hlv : lv < 5) (hq : ∀ S' g', upR S S' → rdC L d Ln t b S' g' k lk → fr (kT lv) g g' → g' (15 + (3 * lv + 1)) = mulK L d (g (15 + (3 * lv + 1))) (g (15 + 3 * (lv + 1))) → Q S') : wp_X4_readRound_117 R Ln Q S (nI lv) (15 + 3 * (lv + 1)) := by
  refine rq_te (by omega) (rq_te (by omega) (cq_multiply h.1 (by unfold kV; omega) (by unfold kV; omega) (by unfold kV; omega) (by omega) (by omega) (fun S8 g8 hu8 hc8 hf8 he8 => ?_)))
  exact hq S8 g8 (upR_V hu8) (rd_V h hu8 hc8) (fr_w hf8 (fun j hj => by unfold kT; omega)) he8
noncomputable def rdO (L d c : Nat) (v : Nat → Kf) : Option (Nat → Kf) := if c = 40 then some v else elO L d c (some v)
theorem rdO_c {c : Nat} {W v : Nat → Kf} (hL : 1 ≤ L) (h : eqW L d W v) (hw : 0 < ofs L (d + 1)) : (∀ y, rdO L d c v = some y → ∃ y', rdO L d c W = some y' ∧ eqW L d y' y) ∧ (rdO L d c v = none → rdO L d c W = none) := by
  have h0 := h 0 hw
  unfold rdO
  by_cases e : c = 40
  · rw [if_pos e, if_pos e]
    exact ⟨fun y hy => ⟨W, rfl, by injection hy with hy; rw [← hy]; exact h⟩, fun z => by cases z⟩
  · rw [if_neg e, if_neg e]
    unfold elO
    dsimp only
    rw [h0]
    by_cases e2 : c = 69
    · rw [if_pos e2, if_pos e2]
      by_cases e3 : v 0 = 0
      · rw [if_pos e3, if_pos e3]
        exact ⟨fun y hy => ⟨_, rfl, by injection hy with hy; rw [← hy]; exact serK_c hL (nzK_c h)⟩, fun z => by cases z⟩
      · rw [if_neg e3, if_neg e3]
        exact ⟨fun y hy => (by cases hy), fun _ => rfl⟩
    · rw [if_neg e2, if_neg e2]
      by_cases e3 : v 0 = 1
      · rw [if_pos e3, if_pos e3]
        exact ⟨fun y hy => ⟨_, rfl, by injection hy with hy; rw [← hy]; exact serK_c hL (nzK_c h)⟩, fun z => by cases z⟩
      · rw [if_neg e3, if_neg e3]
        exact ⟨fun y hy => (by cases hy), fun _ => rfl⟩
def postO (L d : Nat) (Ln : Nat → Nat) (t : Nat) (b : Nat → Nat) (lv c : Nat) (S : cs_T) (g : Nat → Nat → Kf) (k : Nat) (lk : Int32) (Q : cs_T → Prop) : Prop :=
  ∀ S' g' lk' z, upR S S' → rdC L d Ln t b S' g' k lk' → fr (kT lv) g g' → g' (15 + (3 * lv + 1)) = mulK L d (g (15 + (3 * lv + 1))) z → (∀ y, rdO L d c (g (15 + 3 * (lv + 1))) = some y → lk' = lk ∧ eqW L d z y) → (rdO L d c (g (15 + 3 * (lv + 1))) = none → lk' = 1) → Q S'
theorem cr_rlack {R : cs_T → Int32 → (cs_T → Prop) → Prop} {S : cs_T} {g : Nat → Nat → Kf} {k lv c : Nat} {lk : Int32} {Q : cs_T → Prop} (h : rdC L d Ln t b S g k lk) (hlv : lv < 5) (hc : c < 256) (hn : c ≠ 40 → rdO L d c (g (15 + 3 * (lv + 1))) = none) (hq : postO L d Ln t b lv c S g k lk Q) : wp_X4_readRound_106 R Ln Q S (nI lv) (nI c) (15 + 3 * (lv + 1)) := by
  refine ⟨fun z => ?_, fun z => ?_⟩
  · have ec : c = 40 := (nI_eq (a := c) (b := 40) (by omega) (by omega)).mp z
    refine cr_round_end h hlv (fun S1 g1 hu hr hf he => hq S1 g1 lk _ hu hr hf he (fun y hy => ⟨rfl, ?_⟩) (fun e => ?_))
    · unfold rdO at hy
      rw [if_pos ec] at hy
      injection hy with hy
      rw [← hy]
      exact fun _ _ => rfl
    · unfold rdO at e
      rw [if_pos ec] at e
      cases e
  · have ec : c ≠ 40 := fun e => z (by rw [e]; rfl)
    have hn' := hn ec
    have hr : rdC L d Ln t b (cs_sF S 8 1) g k 1 := ⟨cv_F h.1 (by decide), tp_up h.2.1 (upR_F (Or.inr (Or.inr rfl))), by rw [sF_o (by decide)]; exact h.2.2.1, h.2.2.2.1, by rw [sF_o (by decide)]; exact h.2.2.2.2.1, sF_s⟩
    refine cr_round_end hr hlv (fun S1 g1 hu hr1 hf he => hq S1 g1 1 _ (upR_tr (upR_F (Or.inr (Or.inr rfl))) hu) hr1 hf he (fun y hy => ?_) (fun e => rfl))
    rw [hn'] at hy
    cases hy
theorem cr_round_op {R : cs_T → Int32 → (cs_T → Prop) → Prop} {S : cs_T} {g : Nat → Nat → Kf} {k lv c : Nat} {lk : Int32} {Q : cs_T → Prop} (h : rdC L d Ln t b S g k lk) (hlv : lv < 5) (hc : c = 40 ∨ c = 69 ∨ c = 76) (hq : postO L d Ln t b lv c S g k lk Q) :
    ((¬ nI c = 69 → wp_X4_readRound_81 R Ln Q S (nI lv) (nI c) (15 + 3 * (lv + 1))) ∧ (nI c = 69 → (15 + 3 * (lv + 1)) < 47 ∧ vp_in ((0 : Int32)) (Ln (15 + 3 * (lv + 1))) ∧ ((¬ (S.2.1 (15 + 3 * (lv + 1)) ((0 : Int32)).toNatClampNeg) = 0 → wp_X4_readRound_81 R Ln Q S (nI lv) (nI c) (15 + 3 * (lv + 1))) ∧ ((S.2.1 (15 + 3 * (lv + 1)) ((0 : Int32)).toNatClampNeg) = 0 → wp_X0_raise Ln S (15 + 3 * (lv + 1)) (15 + 3 * (lv + 1)) (fun (S18 : cs_T) => wp_X4_readRound_117 R Ln Q S18 (nI lv) (15 + 3 * (lv + 1))))))) := by
  have hL : 1 ≤ L := Nat.le_of_lt (cf_L h.1.1.1).1
  have hd := cf_d h.1.1.1
  have hW := cv_W h.1
  have hkv : kV (15 + 3 * (lv + 1)) := by unfold kV; omega
  have hln : Ln (15 + 3 * (lv + 1)) = ofs L (d + 1) := h.1.2.2.2.1 _ hkv
  have hW0 : 0 < ofs L (d + 1) := hW.2
  have hin : vp_in ((0 : Int32)) (Ln (15 + 3 * (lv + 1))) := by
    rw [hln]
    exact vp_in_nI (n := 0) hW0 (by omega)
  have hrow : S.2.1 (15 + 3 * (lv + 1)) ((0 : Int32)).toNatClampNeg = kI (g (15 + 3 * (lv + 1)) 0) := h.1.2.2.2.2.2.2 _ 0 hkv hW0
  have h81 : (c = 69 → g (15 + 3 * (lv + 1)) 0 ≠ 0) → wp_X4_readRound_81 R Ln Q S (nI lv) (nI c) (15 + 3 * (lv + 1)) := fun h69 => by
    refine ⟨fun z => cr_rlack h hlv (by omega) (fun ec => ?_) hq, fun z => ⟨by omega, hin, ?_⟩⟩
    · have ec2 : c = 69 := by
        have : c ≠ 76 := fun e => z (by rw [e]; rfl)
        omega
      unfold rdO elO
      dsimp only
      rw [if_neg ec, if_pos ec2, if_neg (h69 ec2)]
    · have ec : c = 76 := (nI_eq (a := c) (b := 76) (by omega) (by omega)).mp z
      rw [hrow]
      refine ⟨fun z2 => cr_rlack h hlv (by omega) (fun _ => ?_) hq, fun z2 => ?_⟩
      · unfold rdO elO
        dsimp only
        rw [if_neg (by omega), if_neg (by omega), if_neg (fun e => z2 (by rw [e]; rfl))]
      · have e1 : g (15 + 3 * (lv + 1)) 0 = 1 := k_inj.mp (z2.trans kI_1.symm)
        refine cq_unraise h.1 hkv hkv (fun S1 g1 hu hcv hf he => cr_round_end (rd_V h hu hcv) hlv (fun S2 g2 hu2 hr2 hf2 he2 => ?_))
        have et : g1 (15 + (3 * lv + 1)) = g (15 + (3 * lv + 1)) := hf _ (by omega)
        rw [et, he] at he2
        refine hq S2 g2 lk _ (upR_tr (upR_V hu) hu2) hr2 (fr_tr (fr_w hf (fun j hj => by unfold kT; omega)) hf2) he2 (fun y hy => ⟨rfl, ?_⟩) (fun e => ?_)
        · unfold rdO elO at hy
          dsimp only at hy
          rw [if_neg (by omega), if_neg (by omega), if_pos e1] at hy
          injection hy with hy
          rw [← hy]
          exact log_eq hL (by omega)
        · unfold rdO elO at e
          dsimp only at e
          rw [if_neg (by omega), if_neg (by omega), if_pos e1] at e
          cases e
  refine ⟨fun z => h81 (fun e => absurd (by rw [e]; rfl) z), fun z => ⟨by omega, hin, ?_⟩⟩
  have ec : c = 69 := (nI_eq (a := c) (b := 69) (by omega) (by omega)).mp z
  rw [hrow]
  refine ⟨fun z2 => h81 (fun _ e => z2 (by rw [e]; rfl)), fun z2 => ?_⟩
  have e0 : g (15 + 3 * (lv + 1)) 0 = 0 := kI_z.mp z2
  refine cq_raise h.1 hkv hkv (by omega) (by omega) (fun S1 g1 hu hcv hf he => cr_round_end (rd_V h hu hcv) hlv (fun S2 g2 hu2 hr2 hf2 he2 => ?_))
  have et : g1 (15 + (3 * lv + 1)) = g (15 + (3 * lv + 1)) := hf _ (by omega)
  rw [et, he] at he2
  have enz : nzK (g (15 + 3 * (lv + 1))) = g (15 + 3 * (lv + 1)) := funext (fun j => by
    unfold nzK
    by_cases ej : j = 0
    · rw [if_pos ej, ej, e0]
    · rw [if_neg ej])
  refine hq S2 g2 lk _ (upR_tr (upR_V hu) hu2) hr2 (fr_tr (fr_w hf (fun j hj => by unfold kT; omega)) hf2) he2 (fun y hy => ⟨rfl, ?_⟩) (fun e => ?_)
  · unfold rdO elO at hy
    dsimp only at hy
    rw [if_neg (by omega), if_pos ec, if_pos e0] at hy
    injection hy with hy
    rw [← hy, enz]
    exact exp_eq hL
  · unfold rdO elO at e
    dsimp only at e
    rw [if_neg (by omega), if_pos ec, if_pos e0] at e
    cases e
end RE
