/-! the reference's calls on sums: clear, times, bracket, exp, log, inverse, group, pair -/
def isS (r : Int32) : Prop := 0 ≤ r.toInt ∧ r.toInt ≤ 7
theorem isS_of {r : Int32} (h : isS r) : ∃ s, s < 8 ∧ r = nI s := by
  refine ⟨r.toInt.toNat, by have := h.1; have := h.2; omega, ?_⟩
  apply Int32.toInt_inj.mp
  have := h.1; have := h.2
  rw [nI_toInt (by omega)]
  omega
theorem sm_isSum {r : Int32} {Q : Int32 → Prop} (h1 : ∀ s, s < 8 → r = nI s → Q 1) (h0 : ¬ isS r → Q 0) : wp_X8_isSum r Q := by
  refine sp_isSum ?_
  by_cases h : 0 ≤ r.toInt ∧ r.toInt ≤ 7
  · rw [if_pos h]; obtain ⟨s, hs, e⟩ := isS_of h; exact h1 s hs e
  · rw [if_neg h]; exact h0 h
theorem sm_areSums {S : ms_T} {a b c : Int32} {Q : Int32 → ms_T → Prop} (h1 : ∀ i j k, i < 8 → j < 8 → k < 8 → a = nI i → b = nI j → c = nI k → Q 1 S) (h0 : ¬ (isS a ∧ isS b ∧ isS c) → Q 0 S) : wp_X8_areSums S a b c Q := by
  refine sm_isSum (fun i hi ei => ⟨fun h => absurd h (by decide), fun _ => sm_isSum (fun j hj ej => ⟨fun h => absurd h (by decide), fun _ => sm_isSum (fun k hk ek => ⟨fun h => absurd h (by decide), fun _ => h1 i j k hi hj hk ei ej ek⟩) (fun hn => ⟨fun _ => h0 (fun z => hn z.2.2), fun h => absurd rfl h⟩)⟩) (fun hn => ⟨fun _ => h0 (fun z => hn z.2.1), fun h => absurd rfl h⟩)⟩) (fun hn => ⟨fun _ => h0 (fun z => hn z.1), fun h => absurd rfl h⟩)
theorem sm_clear {L d : Nat} {S : ms_T} {x : Nat → Nat} {r : Int32} {Q : Int32 → ms_T → Prop} (h : mt_ok L d S) (hx : nums S x) (hno : ¬ isS r → Q (-1) S) (hq : ∀ s S', s < 8 → r = nI s → upS S S' → nums S' (rsN x (364 * s) (ofs L (d + 1)) (fun _ => 0)) → Q 0 S') : wp_X8_clear S r Q := by
  refine sm_isSum (fun s hs e => ⟨fun _ => ?_, fun z => absurd z (by decide)⟩) (fun hn => ⟨fun z => absurd rfl z, fun _ => hno hn⟩)
  subst e
  exact sn_clears h hx (by omega) (fun S' hu hx' => hq s S' hs rfl hu hx')
def timesX (L d : Nat) (x : Nat → Nat) (s a b : Nat) : Nat → Nat :=
  let x1 := rsN x (364 * 8) (ofs L (d + 1)) (fun w => mulW L d x a b w)
  rsN x1 (364 * s) (ofs L (d + 1)) (fun w => x1 (364 * 8 + w))
theorem sm_times {L d : Nat} {S : ms_T} {x : Nat → Nat} {r p q : Int32} {Q : Int32 → ms_T → Prop} (h : mt_ok L d S) (hx : nums S x) (hno : ¬ (isS r ∧ isS p ∧ isS q) → Q (-1) S) (hq : ∀ s a b S', s < 8 → a < 8 → b < 8 → r = nI s → p = nI a → q = nI b → upS S S' → nums S' (timesX L d x s a b) → Q 0 S') : wp_X8_times S r p q Q := by
  refine sm_areSums (fun s a b hs ha hb e1 e2 e3 => ⟨fun _ => ?_, fun z => absurd z (by decide)⟩) (fun hn => ⟨fun z => absurd rfl z, fun _ => hno hn⟩)
  subst e1 e2 e3
  refine sn_multiplies (s := 8) h hx (by decide) (by omega) (by omega) (by omega) (by omega) (fun S1 hu1 hx1 => ?_)
  exact sn_copies (a := 8) (mt_up h hu1) hx1 (by omega) (by decide) (fun S2 hu2 hx2 => hq s a b S2 hs ha hb rfl rfl rfl (upS_tr hu1 hu2) hx2)
def bracketX (L d : Nat) (x : Nat → Nat) (s a b : Nat) : Nat → Nat :=
  let x1 := rsN x (364 * 8) (ofs L (d + 1)) (fun w => mulW L d x a b w)
  let x2 := rsN x1 (364 * 9) (ofs L (d + 1)) (fun w => mulW L d x1 b a w)
  let x3 := rsN x2 (364 * 8) (ofs L (d + 1)) (fun w => (x2 (364 * 8 + w) + x2 (364 * 9 + w) * 2147483646) % PR)
  rsN x3 (364 * s) (ofs L (d + 1)) (fun w => x3 (364 * 8 + w))
theorem sn_bracketOf {L d s a b : Nat} {S : ms_T} {x : Nat → Nat} {Q : ms_T → Prop} (h : mt_ok L d S) (hx : nums S x) (hs : s < 36) (ha : a < 36) (hb : b < 36) (ha8 : a ≠ 8) (hb8 : b ≠ 8) (ha9 : a ≠ 9) (hb9 : b ≠ 9) (hq : ∀ S', upS S S' → nums S' (bracketX L d x s a b) → Q S') : wp_X8_bracketOf S (nI s) (nI a) (nI b) Q := by
  refine sn_multiplies (s := 8) h hx (by decide) ha hb ha8 hb8 (fun S1 hu1 hx1 => ?_)
  have h1 := mt_up h hu1
  refine sn_multiplies (s := 9) h1 hx1 (by decide) hb ha hb9 ha9 (fun S2 hu2 hx2 => ?_)
  have h2 := mt_up h1 hu2
  refine sn_adds (s := 8) (a := 9) (t := 2147483646) h2 hx2 (by decide) (by decide) (by decide) (fun S3 hu3 hx3 => ?_)
  exact sn_copies (a := 8) (mt_up h2 hu3) hx3 hs (by decide) (fun S4 hu4 hx4 => hq S4 (upS_tr (upS_tr (upS_tr hu1 hu2) hu3) hu4) hx4)
theorem sm_bracket {L d : Nat} {S : ms_T} {x : Nat → Nat} {r p q : Int32} {Q : Int32 → ms_T → Prop} (h : mt_ok L d S) (hx : nums S x) (hno : ¬ (isS r ∧ isS p ∧ isS q) → Q (-1) S) (hq : ∀ s a b S', s < 8 → a < 8 → b < 8 → r = nI s → p = nI a → q = nI b → upS S S' → nums S' (bracketX L d x s a b) → Q 0 S') : wp_X8_bracket S r p q Q := by
  refine sm_areSums (fun s a b hs ha hb e1 e2 e3 => ⟨fun _ => ?_, fun z => absurd z (by decide)⟩) (fun hn => ⟨fun z => absurd rfl z, fun _ => hno hn⟩)
  subst e1 e2 e3
  exact sn_bracketOf h hx (by omega) (by omega) (by omega) (by omega) (by omega) (by omega) (by omega) (fun S' hu hx' => hq s a b S' hs ha hb rfl rfl rfl hu hx')
def seriesX (L d how : Nat) (x : Nat → Nat) (s a : Nat) : Nat → Nat := rsN (serX L d how a x) (364 * s) (ofs L (d + 1)) (fun w => serX L d how a x (364 * 11 + w))
theorem lN_inj {a b : Nat} (ha : a < PR) (hb : b < PR) : lN a = lN b ↔ a = b := pk_lEQ (by have : PR = 2147483647 := rfl; omega) (by have : PR = 2147483647 := rfl; omega)
theorem sm_seriesOf {L d how : Nat} {S : ms_T} {x : Nat → Nat} {r p : Int32} {Q : Int32 → ms_T → Prop} (h : mt_ok L d S) (hx : nums S x) (hh : how < 3) (hno : ¬ (isS r ∧ isS p) → Q (-1) S) (hst : ∀ s a, s < 8 → a < 8 → r = nI s → p = nI a → x (364 * a) ≠ (if how = 0 then 0 else 1) → Q (-3) S) (hq : ∀ s a S', s < 8 → a < 8 → r = nI s → p = nI a → x (364 * a) = (if how = 0 then 0 else 1) → upS S S' → nums S' (seriesX L d how x s a) → Q 0 S') : wp_X8_seriesOf S r p (nI how) Q := by
  refine sm_isSum (fun s hs e1 => ⟨fun z => absurd z (by decide), fun _ => ?_⟩) (fun hn => ⟨fun _ => hno (fun z => hn z.1), fun z => absurd rfl z⟩)
  refine sm_isSum (fun a ha e2 => ⟨fun _ => ?_, fun z => absurd z (by decide)⟩) (fun hn => ⟨fun z => absurd rfl z, fun _ => hno (fun z => hn z.2)⟩)
  subst e1 e2
  have hxa := hx (364 * a) (by omega)
  refine ⟨by rw [ix0]; exact vp_in_nI (by omega) (by omega), ?_⟩
  have fin : ∀ v, v = (if how = 0 then 0 else 1) → wp_X8_seriesOf_35 Q S (nI s) (nI a) (nI how) (S.2.2 0 (364 * nI a).toNatClampNeg) (lN v) := by
    intro v hv
    have hvP : v < PR := by
      subst hv
      by_cases e : how = 0
      · rw [if_pos e]; decide
      · rw [if_neg e]; decide
    rw [ix0, nI_clamp (by omega), hxa.1]
    refine ⟨fun e => ?_, fun e => ?_⟩
    · exact sn_series h hx hh (by omega) (by omega) (fun S' hu hx' => hq s a S' hs ha rfl rfl (by rw [← hv]; exact (lN_inj hxa.2 hvP).mp e) hu hx')
    · exact hst s a hs ha rfl rfl (fun z => e (by rw [hv, z]))
  refine ⟨fun hne => ?_, fun he => ?_⟩
  · have e0 : how ≠ 0 := fun e => hne (by rw [e]; rfl)
    exact fin 1 (by rw [if_neg e0])
  · have e0 : how = 0 := (nI_eq (show how < 2 ^ 31 by omega) (by decide)).mp (show nI how = nI 0 from he)
    exact fin 0 (by rw [if_pos e0])
/-- the sum of the products of two rows, over the first k places -/
def pairN (x : Nat → Nat) (a b : Nat) : Nat → Nat
  | 0 => 0
  | k + 1 => (pairN x a b k + x (364 * a + k) * x (364 * b + k)) % PR
theorem pairN_lt {x : Nat → Nat} {a b : Nat} : ∀ {k : Nat}, pairN x a b k < PR
  | 0 => (by decide : 0 < PR)
  | _ + 1 => Nat.mod_lt _ (by decide)
theorem sm_pair {L d : Nat} {S : ms_T} {x : Nat → Nat} {p q : Int32} {Q : Int32 → ms_T → Prop} (h : mt_ok L d S) (hx : nums S x) (hno : ¬ (isS p ∧ isS q) → Q (-1) S) (hq : ∀ a b, a < 8 → b < 8 → p = nI a → q = nI b → Q (nI (pairN x a b (ofs L (d + 1)))) S) : wp_X8_pair S p q Q := by
  refine sm_isSum (fun a ha e1 => ⟨fun z => absurd z (by decide), fun _ => ?_⟩) (fun hn => ⟨fun _ => hno (fun z => hn z.1), fun z => absurd rfl z⟩)
  refine sm_isSum (fun b hb e2 => ⟨fun _ => ?_, fun z => absurd z (by decide)⟩) (fun hn => ⟨fun z => absurd rfl z, fun _ => hno (fun z => hn z.2)⟩)
  have hW := mt_W h
  have main : ∀ k w, w + k = ofs L (d + 1) → wp_X8_pair_21 Q (k + 1) S (nI a) (nI b) (lN (pairN x a b w)) (nI w) := by
    intro k
    induction k with
    | zero =>
      intro w hw
      have : w = ofs L (d + 1) := by omega
      subst this
      refine ⟨fun _ => ?_, fun z => absurd ?_ z⟩
      · rw [lN_i]; exact hq a b ha hb e1 e2
      · rw [hW.1]; exact nI_le (Nat.le_refl _) (by omega)
    | succ k ih =>
      intro w hw
      have hxa := hx (364 * a + w) (by omega)
      have hxb := hx (364 * b + w) (by omega)
      refine ⟨fun z => absurd z ?_, fun _ => ⟨?_, ?_, ?_⟩⟩
      · rw [hW.1]; exact nI_ge (by omega) (by omega)
      · rw [ix]; exact vp_in_nI (by omega) (by omega)
      · rw [ix]; exact vp_in_nI (by omega) (by omega)
      · rintro _ rfl _ rfl
        rw [ix, ix, nI_clamp (by omega), nI_clamp (by omega), hxa.1, hxb.1, rl_add pairN_lt hxa.2 hxb.2, nI_1]
        exact ih (w + 1) (by omega)
  subst e1 e2
  exact ⟨_, main (ofs L (d + 1)) 0 (by omega)⟩
