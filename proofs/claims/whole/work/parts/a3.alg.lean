/-! the class's products, series: multiply, commute, raise, unraise, invert, compose -/
def mulK (L d : Nat) (f h : Nat → Kf) : Nat → Kf := fun w => mulR L (at2 L f) (at2 L h) (wlen L d w) (w - ofs L (wlen L d w))
theorem mulK_at {L d n v : Nat} {f h : Nat → Kf} (hn : n ≤ d) (hv : v < L ^ n) : mulK L d f h (ofs L n + v) = mulR L (at2 L f) (at2 L h) n v := by
  unfold mulK
  rw [wlen_of hn hv, Nat.add_sub_cancel_left]
theorem pl_ex {L d w : Nat} (hw : w < ofs L (d + 1)) : ∃ n v, n ≤ d ∧ v < L ^ n ∧ w = ofs L n + v := by
  have h1 := wlen_lo (L := L) (m := d) (w := w)
  have h2 := wlen_hi (L := L) (m := d) (w := w) hw
  exact ⟨wlen L d w, w - ofs L (wlen L d w), wlen_le, by omega, by omega⟩
theorem gaA_K {L d j : Nat} {x y : Nat → Kf} {c : Kf} (hL : 1 ≤ L) (hj : j < ofs L (d + 1)) : gaA L x y c d j = mulK L d x y j * c := by
  obtain ⟨n, v, hn, hv, rfl⟩ := pl_ex hj
  rw [gaA_eq hL hn hv, mulK_at hn hv]
def unitK (c : Kf) : Nat → Kf := fun j => if j = 0 then c else 0
def nzK (f : Nat → Kf) : Nat → Kf := fun j => if j = 0 then 0 else f j
def fr (P : Nat → Prop) (g g' : Nat → Nat → Kf) : Prop := ∀ k, ¬ P k → g' k = g k
theorem fr_rf {P : Nat → Prop} {g : Nat → Nat → Kf} : fr P g g := fun _ _ => rfl
theorem fr_tr {P : Nat → Prop} {g g1 g2 : Nat → Nat → Kf} (h : fr P g g1) (h1 : fr P g1 g2) : fr P g g2 := fun k hk => (h1 k hk).trans (h k hk)
theorem fr_w {P P' : Nat → Prop} {g g1 : Nat → Nat → Kf} (h : fr P g g1) (hp : ∀ k, P k → P' k) : fr P' g g1 := fun k hk => h k (fun z => hk (hp k z))
theorem fr_u {P : Nat → Prop} {g : Nat → Nat → Kf} {t : Nat} {r : Nat → Kf} (h : P t) : fr P g (va_up g t r) := fun k hk => va_up_ne _ _ (fun z => hk (z ▸ h))
def exH (L d : Nat) (f : Nat → Kf) : Nat → Nat → Kf
  | 0 => unitK 1
  | i + 1 => fun j => unitK 1 j + mulK L d (exH L d f i) f j * kv (kN (d - i))
def lgH (L d : Nat) (f : Nat → Kf) : Nat → Nat → Kf
  | 0 => unitK (kv (kN d))
  | i + 1 => fun j => unitK (kv (kN (d - 1 - i))) j + mulK L d (lgH L d f i) f j * kN 2147483646
def inH (L d : Nat) (f : Nat → Kf) : Nat → Nat → Kf
  | 0 => unitK 1
  | i + 1 => fun j => unitK 1 j + mulK L d (inH L d f i) f j * kN 2147483646
section CM
variable {L d : Nat} {Ln : Nat → Nat} {S : cs_T} {g : Nat → Nat → Kf} {Q : cs_T → Prop} {t a b : Nat}
theorem kV_of {k : Nat} (h1 : 3 ≤ k) (h2 : k ≤ 32) : kV k := ⟨h1, h2⟩
theorem cq_gatherD {p q : Nat} {c : Kf} (h : cv L d Ln S g) (ht : kV t) (hp : kV p) (hq0 : kV q) (htp : p ≠ t) (htq : q ≠ t)
    (hq : ∀ S', upK kV S S' → cv L d Ln S' (va_up g t (fun j => g t j + mulK L d (g p) (g q) j * c)) → Q S') : wp_X0_gather Ln S t p q (kI c) (S.1 0) Q := by
  rw [h.2.1]
  have hL := cf_L h.1.1
  exact cq_gather h ht hp hq0 htp htq (Nat.le_refl _) (fun S' hu hc => hq S' hu (cv_tc hc (fun j hj => by rw [gaA_K (by omega) hj])))
theorem cq_multiply (h : cv L d Ln S g) (ht : kV t) (ha : kV a) (hb : kV b) (ha3 : a ≠ 3) (hb3 : b ≠ 3)
    (hq : ∀ S' g', upK kV S S' → cv L d Ln S' g' → fr (fun k => k = 3 ∨ k = t) g g' → g' t = mulK L d (g a) (g b) → Q S') : wp_X0_multiply Ln S t a b Q := by
  have h3 : kV 3 := by unfold kV; omega
  refine cq_fill h h3 (fun S1 hu1 hc1 => ?_)
  refine cq_gatherD (c := 1) hc1 h3 ha hb ha3 hb3 (fun S2 hu2 hc2 => ?_)
  rw [va_uu, va_up_self, va_up_ne _ _ ha3, va_up_ne _ _ hb3] at hc2
  have hc3 := cv_tc (r' := mulK L d (g a) (g b)) hc2 (fun j hj => by rw [ka_0', km_1])
  refine cq_copy hc3 ht h3 (fun S3 hu3 hc4 => ?_)
  rw [va_up_self] at hc4
  refine hq S3 _ (upK_tr hu1 (upK_tr hu2 hu3)) hc4 ?_ (va_up_self _ _ _)
  exact fr_tr (fr_u (Or.inl rfl)) (fr_u (Or.inr rfl))
theorem cq_commute (h : cv L d Ln S g) (ht : kV t) (ha : kV a) (hb : kV b) (ha3 : a ≠ 3) (hb3 : b ≠ 3)
    (hq : ∀ S' g', upK kV S S' → cv L d Ln S' g' → fr (fun k => k = 3 ∨ k = t) g g' → g' t = (fun j => mulK L d (g a) (g b) j + mulK L d (g b) (g a) j * kN 2147483646) → Q S') : wp_X0_commute Ln S t a b Q := by
  have h3 : kV 3 := by unfold kV; omega
  refine cq_fill h h3 (fun S1 hu1 hc1 => ?_)
  refine cq_gatherD (c := 1) hc1 h3 ha hb ha3 hb3 (fun S2 hu2 hc2 => ?_)
  rw [va_uu, va_up_self, va_up_ne _ _ ha3, va_up_ne _ _ hb3] at hc2
  have hc3 := cv_tc (r' := mulK L d (g a) (g b)) hc2 (fun j hj => by rw [ka_0', km_1])
  refine cq_gatherD (c := kN 2147483646) hc3 h3 hb ha hb3 ha3 (fun S3 hu3 hc4 => ?_)
  rw [va_uu, va_up_self, va_up_ne _ _ ha3, va_up_ne _ _ hb3] at hc4
  refine cq_copy hc4 ht h3 (fun S4 hu4 hc5 => ?_)
  rw [va_up_self] at hc5
  refine hq S4 _ (upK_tr hu1 (upK_tr hu2 (upK_tr hu3 hu4))) hc5 ?_ (va_up_self _ _ _)
  exact fr_tr (fr_u (Or.inl rfl)) (fr_u (Or.inr rfl))
def kP56 : Nat → Prop := fun k => k = 5 ∨ k = 6
theorem cv_pt {n : Nat} (h : cv L d Ln S g) (h1 : 1 ≤ n) (hn : n ≤ d) : vp_in (nI n) (Ln 2) ∧ S.2.1 2 (nI n).toNatClampNeg = kI (kv (kN n)) := by
  have := cf_d h.1.1
  refine ⟨?_, ?_⟩
  · rw [h.2.2.2.2.1]; exact vp_in_nI (by omega) (by omega)
  · rw [nI_clamp (by omega)]; exact h.2.2.2.2.2.1 n h1 hn
theorem cq_raise (h : cv L d Ln S g) (ht : kV t) (ha : kV a) (ha5 : a ≠ 5) (ha6 : a ≠ 6)
    (hq : ∀ S' g', upK kV S S' → cv L d Ln S' g' → fr (fun k => k = 5 ∨ k = 6 ∨ k = t) g g' → g' t = exH L d (g a) d → Q S') : wp_X0_raise Ln S t a Q := by
  have hd := cf_d h.1.1
  have k5 : kV 5 := by unfold kV; omega
  have k6 : kV 6 := by unfold kV; omega
  have main : ∀ m i S1 g1 so nx, m + i = d → (so = 5 ∧ nx = 6 ∨ so = 6 ∧ nx = 5) → upK kV S S1 → cv L d Ln S1 g1 → fr kP56 g g1 → g1 so = exH L d (g a) i → wp_X0_raise_23 Ln Q (m + 1) S1 t a so nx (nI m) := by
    intro m
    induction m with
    | zero =>
      intro i S1 g1 so nx hi hsn hu hc hf hs
      have hks : kV so := by rcases hsn with ⟨rfl, rfl⟩ | ⟨rfl, rfl⟩ <;> assumption
      have hi' : i = d := by omega
      subst hi'
      refine ⟨fun _ => cq_copy hc ht hks (fun S2 hu2 hc2 => ?_), fun z => absurd (by decide) z⟩
      refine hq S2 _ (upK_tr hu hu2) hc2 ?_ (by rw [va_up_self]; exact hs)
      exact fr_tr (fr_w hf (fun k hk => by unfold kP56 at hk; omega)) (fr_u (Or.inr (Or.inr rfl)))
    | succ m ih =>
      intro i S1 g1 so nx hi hsn hu hc hf hs
      have hks : kV so := by rcases hsn with ⟨rfl, rfl⟩ | ⟨rfl, rfl⟩ <;> assumption
      have hkn : kV nx := by rcases hsn with ⟨rfl, rfl⟩ | ⟨rfl, rfl⟩ <;> assumption
      have hne : so ≠ nx := by rcases hsn with ⟨rfl, rfl⟩ | ⟨rfl, rfl⟩ <;> decide
      have han : a ≠ nx := by rcases hsn with ⟨rfl, rfl⟩ | ⟨rfl, rfl⟩ <;> assumption
      refine ⟨fun z => absurd z (nI_nlt (show 1 ≤ m + 1 by omega) (by omega)), fun _ => cq_unit (c := 1) hc hkn (fun S2 hu2 hc2 => ?_)⟩
      have hp := cv_pt hc2 (n := m + 1) (by omega) (by omega)
      refine ⟨hp.1, ?_⟩
      rw [hp.2]
      refine cq_gatherD hc2 hkn hks ha hne han (fun S3 hu3 hc3 => ?_)
      rintro _ rfl
      rw [pk_m1]
      rw [va_uu, va_up_self, va_up_ne _ _ hne, va_up_ne _ _ han, hs, hf a (by unfold kP56; omega)] at hc3
      refine ih (i + 1) S3 _ nx so (by omega) (by omega) (upK_tr hu (upK_tr hu2 hu3)) hc3 ?_ ?_
      · refine fr_tr hf (fr_u ?_)
        unfold kP56; omega
      · rw [va_up_self]
        show _ = fun j => unitK 1 j + mulK L d (exH L d (g a) i) (g a) j * kv (kN (d - i))
        rw [show d - i = m + 1 by omega]
        rfl
  refine cq_unit (c := 1) h k5 (fun S1 hu1 hc1 => ?_)
  rintro _ rfl
  rw [hc1.2.1]
  exact ⟨d + 1, main d 0 S1 _ 5 6 rfl (Or.inl ⟨rfl, rfl⟩) hu1 hc1 (fr_u (Or.inl rfl)) (va_up_self _ _ _)⟩
def kP456 : Nat → Prop := fun k => k = 4 ∨ k = 5 ∨ k = 6
theorem cq_base (h : cv L d Ln S g) (ha : kV a) {Q2 : cs_T → Prop} (hq : ∀ S', upK kV S S' → cv L d Ln S' (va_up g 4 (nzK (g a))) → Q2 S') : wp_X0_copy Ln S 4 a (fun S8 => vp_in ((0 : Int32)) (Ln 4) ∧ Q2 (cs_sI S8 4 ((0 : Int32)).toNatClampNeg 0)) := by
  have k4 : kV 4 := by unfold kV; omega
  refine cq_copy h k4 ha (fun S1 hu hc => ?_)
  have hW := cv_W hc
  refine ⟨cv_in (j := 0) hc k4 hW.2, ?_⟩
  have hs := cv_s' (p := 0) (c := 0) (r' := nzK (g a)) hc k4 (fun j hj => rfl)
  exact hq _ (upK_tr hu hs.1) hs.2
theorem cq_unraise (h : cv L d Ln S g) (ht : kV t) (ha : kV a)
    (hq : ∀ S' g', upK kV S S' → cv L d Ln S' g' → fr (fun k => k = 4 ∨ k = 5 ∨ k = 6 ∨ k = t) g g' → g' t = mulK L d (lgH L d (nzK (g a)) (d - 1)) (nzK (g a)) → Q S') : wp_X0_unraise Ln S t a Q := by
  have hd := cf_d h.1.1
  have k5 : kV 5 := by unfold kV; omega
  have k6 : kV 6 := by unfold kV; omega
  have k4 : kV 4 := by unfold kV; omega
  have main : ∀ m i S1 g1 so nx, m + i = d - 1 → (so = 5 ∧ nx = 6 ∨ so = 6 ∧ nx = 5) → upK kV S S1 → cv L d Ln S1 g1 → fr kP456 g g1 → g1 4 = nzK (g a) → g1 so = lgH L d (nzK (g a)) i → wp_X0_unraise_49 Ln Q (m + 1) S1 t so nx (nI m) := by
    intro m
    induction m with
    | zero =>
      intro i S1 g1 so nx hi hsn hu hc hf h4 hs
      have hks : kV so := by rcases hsn with ⟨rfl, rfl⟩ | ⟨rfl, rfl⟩ <;> assumption
      have hkn : kV nx := by rcases hsn with ⟨rfl, rfl⟩ | ⟨rfl, rfl⟩ <;> assumption
      have hne : so ≠ nx := by rcases hsn with ⟨rfl, rfl⟩ | ⟨rfl, rfl⟩ <;> decide
      have hn4 : 4 ≠ nx := by rcases hsn with ⟨rfl, rfl⟩ | ⟨rfl, rfl⟩ <;> decide
      have hi' : i = d - 1 := by omega
      subst hi'
      refine ⟨fun _ => cq_fill hc hkn (fun S2 hu2 hc2 => ?_), fun z => absurd (by decide) z⟩
      refine cq_gatherD (c := 1) hc2 hkn hks k4 hne hn4 (fun S3 hu3 hc3 => ?_)
      rw [va_uu, va_up_self, va_up_ne _ _ hne, va_up_ne _ _ hn4, hs, h4] at hc3
      have hc4 := cv_tc (r' := mulK L d (lgH L d (nzK (g a)) (d - 1)) (nzK (g a))) hc3 (fun j hj => by rw [ka_0', km_1])
      refine cq_copy hc4 ht hkn (fun S4 hu4 hc5 => ?_)
      rw [va_up_self] at hc5
      refine hq S4 _ (upK_tr hu (upK_tr hu2 (upK_tr hu3 hu4))) hc5 ?_ (va_up_self _ _ _)
      refine fr_tr (fr_tr (fr_w hf (fun k hk => by unfold kP456 at hk; omega)) (fr_u ?_)) (fr_u (Or.inr (Or.inr (Or.inr rfl))))
      omega
    | succ m ih =>
      intro i S1 g1 so nx hi hsn hu hc hf h4 hs
      have hks : kV so := by rcases hsn with ⟨rfl, rfl⟩ | ⟨rfl, rfl⟩ <;> assumption
      have hkn : kV nx := by rcases hsn with ⟨rfl, rfl⟩ | ⟨rfl, rfl⟩ <;> assumption
      have hne : so ≠ nx := by rcases hsn with ⟨rfl, rfl⟩ | ⟨rfl, rfl⟩ <;> decide
      have hn4 : 4 ≠ nx := by rcases hsn with ⟨rfl, rfl⟩ | ⟨rfl, rfl⟩ <;> decide
      have hp := cv_pt hc (n := m + 1) (by omega) (by omega)
      refine ⟨fun z => absurd z (nI_nlt (show 1 ≤ m + 1 by omega) (by omega)), fun _ => ⟨hp.1, ?_⟩⟩
      rw [hp.2]
      refine cq_unit hc hkn (fun S2 hu2 hc2 => ?_)
      refine cq_gatherD (c := kN 2147483646) hc2 hkn hks k4 hne hn4 (fun S3 hu3 hc3 => ?_)
      rintro _ rfl
      rw [pk_m1]
      rw [va_uu, va_up_self, va_up_ne _ _ hne, va_up_ne _ _ hn4, hs, h4] at hc3
      refine ih (i + 1) S3 _ nx so (by omega) (by omega) (upK_tr hu (upK_tr hu2 hu3)) hc3 ?_ ?_ ?_
      · refine fr_tr hf (fr_u ?_)
        unfold kP456; omega
      · rw [va_up_ne _ _ hn4, h4]
      · rw [va_up_self]
        show _ = fun j => unitK (kv (kN (d - 1 - i))) j + mulK L d (lgH L d (nzK (g a)) i) (nzK (g a)) j * kN 2147483646
        rw [show d - 1 - i = m + 1 by omega]
        rfl
  refine cq_base (Q2 := fun S9 => vp_in (S9.1 0) (Ln 2) ∧ wp_X0_setToUnit Ln S9 5 (S9.2.1 2 (S9.1 0).toNatClampNeg) (fun (S11 : cs_T) => ∀ v5_12 : Int32, v5_12 = (S11.1 0) - 1 → ∃ n : Nat, wp_X0_unraise_49 Ln Q n S11 t 5 6 v5_12)) h ha (fun S1 hu1 hc1 => ?_)
  have hp := cv_pt hc1 (n := d) (by omega) (by omega)
  show vp_in (S1.1 0) (Ln 2) ∧ _
  rw [hc1.2.1]
  refine ⟨hp.1, ?_⟩
  rw [hp.2]
  refine cq_unit hc1 k5 (fun S2 hu2 hc2 => ?_)
  rintro _ rfl
  rw [hc2.2.1, show nI d - 1 = nI (d - 1) from pk_sub (b := 1) (by omega)]
  refine ⟨d - 1 + 1, main (d - 1) 0 S2 _ 5 6 rfl (Or.inl ⟨rfl, rfl⟩) (upK_tr hu1 hu2) hc2 ?_ ?_ (va_up_self _ _ _)⟩
  · exact fr_tr (fr_u (Or.inl rfl)) (fr_u (Or.inr (Or.inl rfl)))
  · rw [va_up_ne _ _ (by decide), va_up_self]
theorem cq_invert (h : cv L d Ln S g) (ht : kV t) (ha : kV a)
    (hq : ∀ S' g', upK kV S S' → cv L d Ln S' g' → fr (fun k => k = 4 ∨ k = 5 ∨ k = 6 ∨ k = t) g g' → g' t = inH L d (nzK (g a)) d → Q S') : wp_X0_invert Ln S t a Q := by
  have hd := cf_d h.1.1
  have k5 : kV 5 := by unfold kV; omega
  have k6 : kV 6 := by unfold kV; omega
  have k4 : kV 4 := by unfold kV; omega
  have main : ∀ m i S1 g1 so nx, m + i = d → (so = 5 ∧ nx = 6 ∨ so = 6 ∧ nx = 5) → upK kV S S1 → cv L d Ln S1 g1 → fr kP456 g g1 → g1 4 = nzK (g a) → g1 so = inH L d (nzK (g a)) i → wp_X0_invert_36 Ln Q (m + 1) S1 t so nx (nI (i + 1)) := by
    intro m
    induction m with
    | zero =>
      intro i S1 g1 so nx hi hsn hu hc hf h4 hs
      have hks : kV so := by rcases hsn with ⟨rfl, rfl⟩ | ⟨rfl, rfl⟩ <;> assumption
      have hi' : i = d := by omega
      subst hi'
      refine ⟨fun _ => cq_copy hc ht hks (fun S2 hu2 hc2 => ?_), fun z => absurd (by rw [hc.2.1]; exact nI_lt (by omega) (by omega)) z⟩
      refine hq S2 _ (upK_tr hu hu2) hc2 ?_ (by rw [va_up_self]; exact hs)
      exact fr_tr (fr_w hf (fun k hk => by unfold kP456 at hk; omega)) (fr_u (Or.inr (Or.inr (Or.inr rfl))))
    | succ m ih =>
      intro i S1 g1 so nx hi hsn hu hc hf h4 hs
      have hks : kV so := by rcases hsn with ⟨rfl, rfl⟩ | ⟨rfl, rfl⟩ <;> assumption
      have hkn : kV nx := by rcases hsn with ⟨rfl, rfl⟩ | ⟨rfl, rfl⟩ <;> assumption
      have hne : so ≠ nx := by rcases hsn with ⟨rfl, rfl⟩ | ⟨rfl, rfl⟩ <;> decide
      have hn4 : 4 ≠ nx := by rcases hsn with ⟨rfl, rfl⟩ | ⟨rfl, rfl⟩ <;> decide
      refine ⟨fun z => absurd z (by rw [hc.2.1]; exact nI_nlt (by omega) (by omega)), fun _ => cq_unit (c := 1) hc hkn (fun S2 hu2 hc2 => ?_)⟩
      refine cq_gatherD (c := kN 2147483646) hc2 hkn hks k4 hne hn4 (fun S3 hu3 hc3 => ?_)
      rintro _ rfl
      rw [nI_1]
      rw [va_uu, va_up_self, va_up_ne _ _ hne, va_up_ne _ _ hn4, hs, h4] at hc3
      refine ih (i + 1) S3 _ nx so (by omega) (by omega) (upK_tr hu (upK_tr hu2 hu3)) hc3 ?_ ?_ ?_
      · refine fr_tr hf (fr_u ?_)
        unfold kP456; omega
      · rw [va_up_ne _ _ hn4, h4]
      · rw [va_up_self]
        rfl
  refine cq_base (Q2 := fun S9 => wp_X0_setToUnit Ln S9 5 1 (fun (S7 : cs_T) => ∃ n : Nat, wp_X0_invert_36 Ln Q n S7 t 5 6 1)) h ha (fun S1 hu1 hc1 => ?_)
  refine cq_unit (c := 1) hc1 k5 (fun S2 hu2 hc2 => ?_)
  refine ⟨d + 1, main d 0 S2 _ 5 6 rfl (Or.inl ⟨rfl, rfl⟩) (upK_tr hu1 hu2) hc2 ?_ ?_ (va_up_self _ _ _)⟩
  · exact fr_tr (fr_u (Or.inl rfl)) (fr_u (Or.inr (Or.inl rfl)))
  · rw [va_up_ne _ _ (by decide), va_up_self]
/-- LOG of a product of EXPs -/
def grpK (L d : Nat) (f h : Nat → Kf) : Nat → Kf :=
  let z := nzK (mulK L d (exH L d f d) (exH L d h d))
  mulK L d (lgH L d z (d - 1)) z
theorem cq_compose (h : cv L d Ln S g) (ht : kV t) (ha : kV a) (hb : kV b) (ha8 : 7 ≤ a ∧ a ≤ 14) (hb8 : 7 ≤ b ∧ b ≤ 14)
    (hq : ∀ S' g', upK kV S S' → cv L d Ln S' g' → fr (fun k => k = 3 ∨ k = 4 ∨ k = 5 ∨ k = 6 ∨ k = 15 ∨ k = 16 ∨ k = t) g g' → g' t = grpK L d (g a) (g b) → Q S') : wp_X0_compose Ln S t a b Q := by
  have k15 : kV 15 := by unfold kV; omega
  have k16 : kV 16 := by unfold kV; omega
  have e18 : vp_in (0 : Int32) 18 := vp_in_nI (n := 0) (by decide) (by decide)
  have e18' : vp_in (1 : Int32) 18 := vp_in_nI (n := 1) (by decide) (by decide)
  refine ⟨e18, cq_raise (t := 15) h k15 ha (by omega) (by omega) (fun S1 g1 hu1 hc1 hf1 ht1 => ⟨e18', ?_⟩)⟩
  refine cq_raise (t := 16) hc1 k16 hb (by omega) (by omega) (fun S2 g2 hu2 hc2 hf2 ht2 => ⟨e18, e18, e18', ?_⟩)
  refine cq_multiply (t := 15) (a := 15) (b := 16) hc2 k15 k15 k16 (by decide) (by decide) (fun S3 g3 hu3 hc3 hf3 ht3 => ⟨e18, ?_⟩)
  refine cq_unraise (a := 15) hc3 ht k15 (fun S4 g4 hu4 hc4 hf4 ht4 => ?_)
  refine hq S4 g4 (upK_tr hu1 (upK_tr hu2 (upK_tr hu3 hu4))) hc4 ?_ ?_
  · refine fr_tr (fr_tr (fr_tr (fr_w hf1 ?_) (fr_w hf2 ?_)) (fr_w hf3 ?_)) (fr_w hf4 ?_) <;> intro k hk <;> omega
  · rw [ht4, ht3, hf2 15 (by decide), ht1, ht2, hf1 b (by omega)]
    rfl
end CM
