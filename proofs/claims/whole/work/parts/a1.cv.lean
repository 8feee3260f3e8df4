/-! the class's value rows -/
def kV : Nat → Prop := fun k => 3 ≤ k ∧ k ≤ 32
def cv (L d : Nat) (Ln : Nat → Nat) (S : cs_T) (g : Nat → Nat → Kf) : Prop :=
  cw_ok L d Ln S ∧ S.1 0 = nI d ∧ S.1 1 = nI L ∧ (∀ k, kV k → Ln k = ofs L (d + 1)) ∧ Ln 2 = d + 1 ∧ (∀ n, 1 ≤ n → n ≤ d → S.2.1 2 n = kI (kv (kN n))) ∧ ∀ k j, kV k → j < ofs L (d + 1) → S.2.1 k j = kI (g k j)
theorem cv_up {L d : Nat} {Ln : Nat → Nat} {S S' : cs_T} {g g' : Nat → Nat → Kf} (h : cv L d Ln S g) (hu : upK kV S S') (hg : ∀ k j, kV k → j < ofs L (d + 1) → S'.2.1 k j = kI (g' k j)) : cv L d Ln S' g' := by
  obtain ⟨h1, h2, h3, h4, h5, h6, h7⟩ := h
  refine ⟨cw_up h1 hu (fun z => absurd z.1 (by decide)) (fun z => absurd z.1 (by decide)), ?_, ?_, h4, h5, ?_, hg⟩
  · rw [hu.1]; exact h2
  · rw [hu.1]; exact h3
  · intro n a b
    rw [hu.2.2 2 (fun z => absurd z.1 (by decide))]
    exact h6 n a b
theorem cv_g {L d k j : Nat} {Ln : Nat → Nat} {S : cs_T} {g : Nat → Nat → Kf} (h : cv L d Ln S g) (hk : kV k) (hj : j < ofs L (d + 1)) : S.2.1 k (nI j).toNatClampNeg = kI (g k j) := by
  have := cf_all h.1.1
  rw [nI_clamp (by omega)]
  exact h.2.2.2.2.2.2 k j hk hj
theorem cv_in {L d k j : Nat} {Ln : Nat → Nat} {S : cs_T} {g : Nat → Nat → Kf} (h : cv L d Ln S g) (hk : kV k) (hj : j < ofs L (d + 1)) : vp_in (nI j) (Ln k) := by
  have := cf_all h.1.1
  rw [h.2.2.2.1 k hk]
  exact vp_in_nI hj (by omega)
theorem cv_c {L d : Nat} {Ln : Nat → Nat} {S : cs_T} {g g' : Nat → Nat → Kf} (h : cv L d Ln S g) (hg : ∀ k j, kV k → j < ofs L (d + 1) → g k j = g' k j) : cv L d Ln S g' :=
  cv_up h upK_rf (fun k j hk hj => by rw [h.2.2.2.2.2.2 k j hk hj, hg k j hk hj])
theorem va_uu {α : Type} {f : Nat → α} {k : Nat} {a b : α} : va_up (va_up f k a) k b = va_up f k b := by
  funext j
  by_cases h : j = k
  · subst h; rw [va_up_self, va_up_self]
  · rw [va_up_ne _ _ h, va_up_ne _ _ h, va_up_ne _ _ h]
theorem va_us {α : Type} {f : Nat → α} {k : Nat} : va_up f k (f k) = f := by
  funext j
  by_cases h : j = k
  · subst h; rw [va_up_self]
  · rw [va_up_ne _ _ h]
theorem upV_tr {S S1 S2 : cs_T} (h : upK kV S S1) (h1 : upK kV S1 S2) : upK kV S S2 := upK_tr h h1
theorem cv_s {L d t p : Nat} {Ln : Nat → Nat} {S : cs_T} {g : Nat → Nat → Kf} {r' : Nat → Kf} {c : Kf} (h : cv L d Ln S g) (ht : kV t) (hr : ∀ j, j < ofs L (d + 1) → r' j = if j = p then c else g t j) : upK kV S (cs_sI S t p (kI c)) ∧ cv L d Ln (cs_sI S t p (kI c)) (va_up g t r') := by
  have hu : upK kV S (cs_sI S t p (kI c)) := upK_sI ht
  refine ⟨hu, cv_up h hu (fun k j hk hj => ?_)⟩
  rw [cI_g]
  by_cases h1 : k = t
  · subst h1
    rw [if_pos rfl, va_up_self, hr j hj]
    by_cases h2 : j = p
    · rw [if_pos h2, if_pos h2]
    · rw [if_neg h2, if_neg h2]; exact h.2.2.2.2.2.2 k j hk hj
  · rw [if_neg h1, va_up_ne _ _ h1]; exact h.2.2.2.2.2.2 k j hk hj
/-- the same over a row that was set before -/
theorem cv_s' {L d t p : Nat} {Ln : Nat → Nat} {S : cs_T} {g : Nat → Nat → Kf} {r r' : Nat → Kf} {c : Kf} (h : cv L d Ln S (va_up g t r)) (ht : kV t) (hr : ∀ j, j < ofs L (d + 1) → r' j = if j = p then c else r j) : upK kV S (cs_sI S t p (kI c)) ∧ cv L d Ln (cs_sI S t p (kI c)) (va_up g t r') := by
  have := cv_s (p := p) (c := c) (r' := r') h ht (by rw [va_up_self]; exact hr)
  rw [va_uu] at this
  exact this
/-- a loop that counts up, one row changing -/
theorem lpR {L d t : Nat} {Ln : Nat → Nat} {S : cs_T} {g : Nat → Nat → Kf} (W : Nat → cs_T → Nat → Prop) (R : Nat → Nat → Kf) (i0 e : Nat) (hie : i0 ≤ e) (h : cv L d Ln S (va_up g t (R i0)))
    (hx : ∀ n S', upK kV S S' → cv L d Ln S' (va_up g t (R e)) → W (n + 1) S' e)
    (hs : ∀ n i S', i0 ≤ i → i < e → upK kV S S' → cv L d Ln S' (va_up g t (R i)) → (∀ S2, upK kV S S2 → cv L d Ln S2 (va_up g t (R (i + 1))) → W n S2 (i + 1)) → W (n + 1) S' i) : ∃ n, W n S i0 :=
  pk_loop (σ := cs_T) (fun n i s => W n s i) (fun i s => i0 ≤ i ∧ upK kV S s ∧ cv L d Ln s (va_up g t (R i))) e i0 S hie ⟨Nat.le_refl _, upK_rf, h⟩ (fun n s hI => hx n s hI.2.1 hI.2.2) (fun n i s hi hI hk => hs n i s hI.1 hi hI.2.1 hI.2.2 (fun S2 hu hc => hk S2 ⟨by omega, hu, hc⟩))
/-- a loop that counts up and changes nothing -/
theorem lp0 {S : cs_T} (W : Nat → cs_T → Nat → Prop) (i0 e : Nat) (hie : i0 ≤ e) (hx : ∀ n, W (n + 1) S e) (hs : ∀ n i, i0 ≤ i → i < e → W n S (i + 1) → W (n + 1) S i) : ∃ n, W n S i0 :=
  pk_loop (σ := cs_T) (fun n i s => W n s i) (fun i s => i0 ≤ i ∧ s = S) e i0 S hie ⟨Nat.le_refl _, rfl⟩ (fun n s hI => by obtain ⟨_, rfl⟩ := hI; exact hx n) (fun n i s hi hI hk => by obtain ⟨h0, rfl⟩ := hI; exact hs n i h0 hi (hk s ⟨by omega, rfl⟩))
section CQ
variable {L d : Nat} {Ln : Nat → Nat} {S : cs_T} {g : Nat → Nat → Kf} {Q : cs_T → Prop}
theorem cv_W (h : cv L d Ln S g) : ofs L (d + 1) ≤ 364 ∧ 0 < ofs L (d + 1) := by
  refine ⟨cf_all h.1.1, ?_⟩
  have h1 : ofs L 1 ≤ ofs L (d + 1) := ofs_mono (by omega)
  have h2 : ofs L 1 = 1 := by show 0 + L ^ 0 = 1; rw [Nat.pow_zero]
  omega
theorem kV_47 {k : Nat} (h : kV k) : k < 47 := by unfold kV at h; omega
theorem cv_t {t : Nat} {r : Nat → Kf} (h : cv L d Ln S g) (hr : ∀ j, j < ofs L (d + 1) → r j = g t j) : cv L d Ln S (va_up g t r) := cv_c h (fun k j hk hj => by
  by_cases h1 : k = t
  · subst h1; rw [va_up_self, hr j hj]
  · rw [va_up_ne _ _ h1])
theorem cv_tc {t : Nat} {r r' : Nat → Kf} (h : cv L d Ln S (va_up g t r)) (hr : ∀ j, j < ofs L (d + 1) → r j = r' j) : cv L d Ln S (va_up g t r') := by
  have := cv_t (r := r') h (fun j hj => by rw [va_up_self, hr j hj])
  rw [va_uu] at this
  exact this
theorem cq_fill {t : Nat} (h : cv L d Ln S g) (ht : kV t) (hq : ∀ S', upK kV S S' → cv L d Ln S' (va_up g t (fun _ => 0)) → Q S') : wp_J7_fill_53178 Ln S t 0 Q := by
  have hW := cv_W h
  refine ⟨kV_47 ht, ?_⟩
  rintro _ rfl
  rw [h.2.2.2.1 t ht]
  refine lpR (fun n s i => wp_J7_fill_53178_5 Ln Q n s t 0 (nI i) (nI (ofs L (d + 1)))) (fun i j => if j < i then 0 else g t j) 0 (ofs L (d + 1)) (Nat.zero_le _) (g := g) (t := t) (cv_t h (fun j _ => if_neg (Nat.not_lt_zero _))) ?_ ?_
  · intro n S' hu hc
    refine ⟨fun _ => hq S' hu (cv_c hc (fun k j hk hj => ?_)), fun z => absurd (nI_le (Nat.le_refl _) (by omega)) z⟩
    by_cases h1 : k = t
    · subst h1; rw [va_up_self, va_up_self, if_pos hj]
    · rw [va_up_ne _ _ h1, va_up_ne _ _ h1]
  · intro n i S' _ hi hu hc hk
    refine ⟨fun z => absurd z (nI_ge hi (by omega)), fun _ => ⟨kV_47 ht, cv_in hc ht hi, ?_⟩⟩
    rintro _ rfl
    rw [nI_1, nI_clamp (by omega)]
    have hs := cv_s' (p := i) (c := 0) (r' := fun j => if j < i + 1 then 0 else g t j) hc ht (fun j hj => by
      by_cases h1 : j = i
      · rw [if_pos h1, if_pos (by omega)]
      · rw [if_neg h1]
        by_cases h2 : j < i
        · rw [if_pos h2, if_pos (by omega)]
        · rw [if_neg h2, if_neg (by omega)])
    exact hk _ (upK_tr hu hs.1) hs.2
theorem cq_copy {t a : Nat} (h : cv L d Ln S g) (ht : kV t) (ha : kV a) (hq : ∀ S', upK kV S S' → cv L d Ln S' (va_up g t (g a)) → Q S') : wp_X0_copy Ln S t a Q := by
  have hW := cv_W h
  have e1 := h.2.2.2.1 t ht
  have e2 := h.2.2.2.1 a ha
  have ez : ((0 : Int32)).toNatClampNeg = 0 := rfl
  have ew : (nI (ofs L (d + 1))).toNatClampNeg = ofs L (d + 1) := nI_clamp (by omega)
  have hu : upK kV S (cs_sA S t (va_cpy (S.2.1 a) (S.2.1 t) 0 0 (ofs L (d + 1)))) := ⟨rfl, rfl, fun k hk => va_up_ne _ _ (fun z => hk (z ▸ ht))⟩
  unfold wp_X0_copy
  rw [e1, e2, ez, ew]
  refine ⟨kV_47 ha, kV_47 ht, by decide, by decide, nI_pos (by omega), by omega, by omega, hq _ hu (cv_up h hu (fun k j hk hj => ?_))⟩
  show va_up S.2.1 t _ k j = _
  by_cases h1 : k = t
  · subst h1
    rw [va_up_self, va_up_self, pk_cpy_in (by omega) (by omega)]
    rw [show 0 + (j - 0) = j by omega]
    exact h.2.2.2.2.2.2 a j ha hj
  · rw [va_up_ne _ _ h1, va_up_ne _ _ h1]; exact h.2.2.2.2.2.2 k j hk hj
theorem cq_unit {t : Nat} {c : Kf} (h : cv L d Ln S g) (ht : kV t) (hq : ∀ S', upK kV S S' → cv L d Ln S' (va_up g t (fun j => if j = 0 then c else 0)) → Q S') : wp_X0_setToUnit Ln S t (kI c) Q := by
  refine cq_fill h ht (fun S1 hu hc => ?_)
  have hW := cv_W hc
  refine ⟨kV_47 ht, cv_in (j := 0) hc ht hW.2, ?_⟩
  have hs := cv_s' (p := 0) (c := c) (r' := fun j => if j = 0 then c else 0) hc ht (fun j hj => rfl)
  exact hq _ (upK_tr hu hs.1) hs.2
theorem if_lt_succ {α : Type} {i j : Nat} {a b : α} : (if j < i + 1 then a else b) = if j = i then a else if j < i then a else b := by
  by_cases h1 : j = i
  · rw [if_pos h1, if_pos (by omega)]
  · rw [if_neg h1]
    by_cases h2 : j < i
    · rw [if_pos h2, if_pos (by omega)]
    · rw [if_neg h2, if_neg (by omega)]
theorem cq_amass {t a : Nat} {c : Kf} (h : cv L d Ln S g) (ht : kV t) (ha : kV a) (hq : ∀ S', upK kV S S' → cv L d Ln S' (va_up g t (fun j => g t j + g a j * c)) → Q S') : wp_X0_amass Ln S t a (kI c) Q := by
  have hW := cv_W h
  have e1 := h.2.2.2.1 t ht
  refine lpR (fun n s i => wp_X0_amass_3 Ln Q n s t a (kI c) (nI i)) (fun i j => if j < i then g t j + g a j * c else g t j) 0 (ofs L (d + 1)) (Nat.zero_le _) (g := g) (t := t) (cv_t h (fun j _ => rfl)) ?_ ?_
  · intro n S' hu hc
    refine ⟨kV_47 ht, fun _ => hq S' hu (cv_tc hc (fun j hj => if_pos hj)), fun z => absurd (by rw [e1]; exact nI_le (Nat.le_refl _) (by omega)) z⟩
  · intro n i S' _ hi hu hc hk
    have ea : (va_up g t (fun j => if j < i then g t j + g a j * c else g t j)) a i = g a i := by
      by_cases h1 : a = t
      · subst h1; rw [va_up_self, if_neg (Nat.lt_irrefl i)]
      · rw [va_up_ne _ _ h1]
    have et : (va_up g t (fun j => if j < i then g t j + g a j * c else g t j)) t i = g t i := by rw [va_up_self, if_neg (Nat.lt_irrefl i)]
    refine ⟨kV_47 ht, fun z => absurd z (by rw [e1]; exact nI_ge hi (by omega)), fun _ => ⟨kV_47 ha, cv_in hc ha hi, ?_⟩⟩
    rw [cv_g hc ha hi, ea, cv_g hc ht hi, et]
    have fin : ∀ S2, upK kV S S2 → cv L d Ln S2 (va_up g t (fun j => if j < i + 1 then g t j + g a j * c else g t j)) → wp_X0_amass_33 Ln (wp_X0_amass_3 Ln Q n) Q S2 t a (kI c) (nI i) := by
      intro S2 hu2 hc2
      rintro _ rfl
      rw [nI_1]
      exact hk S2 hu2 hc2
    refine ⟨fun z => fin S' hu (cv_tc hc (fun j hj => ?_)), fun _ => ⟨cv_in hc ht hi, cv_in hc ha hi, kn_more ⟨cv_in hc ht hi, ?_⟩⟩⟩
    · rw [if_lt_succ]
      by_cases h1 : j = i
      · subst h1
        rw [if_pos rfl, if_neg (Nat.lt_irrefl j), kI_z.mp z, km_0, ka_0]
      · rw [if_neg h1]
    · rw [nI_clamp (by omega)]
      have hs := cv_s' (p := i) (c := g t i + g a i * c) (r' := fun j => if j < i + 1 then g t j + g a j * c else g t j) hc ht (fun j hj => by
        rw [if_lt_succ]
        by_cases h1 : j = i
        · subst h1; rw [if_pos rfl]
        · rw [if_neg h1, if_neg h1])
      exact fin _ (upK_tr hu hs.1) hs.2
theorem cq_scale {t : Nat} {c : Kf} (h : cv L d Ln S g) (ht : kV t) (hq : ∀ S', upK kV S S' → cv L d Ln S' (va_up g t (fun j => g t j * c)) → Q S') : wp_X0_scale Ln S t (kI c) Q := by
  have hW := cv_W h
  have e1 := h.2.2.2.1 t ht
  refine lpR (fun n s i => wp_X0_scale_2 Ln Q n s t (kI c) (nI i)) (fun i j => if j < i then g t j * c else g t j) 0 (ofs L (d + 1)) (Nat.zero_le _) (g := g) (t := t) (cv_t h (fun j _ => rfl)) ?_ ?_
  · intro n S' hu hc
    refine ⟨kV_47 ht, fun _ => hq S' hu (cv_tc hc (fun j hj => if_pos hj)), fun z => absurd (by rw [e1]; exact nI_le (Nat.le_refl _) (by omega)) z⟩
  · intro n i S' _ hi hu hc hk
    refine ⟨kV_47 ht, fun z => absurd z (by rw [e1]; exact nI_ge hi (by omega)), fun _ => ⟨cv_in hc ht hi, ?_⟩⟩
    rw [cv_g hc ht hi, va_up_self, if_neg (Nat.lt_irrefl i)]
    refine kn_product ⟨cv_in hc ht hi, ?_⟩
    rintro _ rfl
    rw [nI_1, nI_clamp (by omega)]
    have hs := cv_s' (p := i) (c := g t i * c) (r' := fun j => if j < i + 1 then g t j * c else g t j) hc ht (fun j hj => by
      rw [if_lt_succ]
      by_cases h1 : j = i
      · subst h1; rw [if_pos rfl]
      · rw [if_neg h1, if_neg h1])
    exact hk _ (upK_tr hu hs.1) hs.2
end CQ
