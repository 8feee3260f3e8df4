/-! the reference's sums as rows of ring numbers -/
def nk (L d : Nat) (S : ms_T) (y : Nat → Nat → Kf) : Prop := mt_ok L d S ∧ ∃ x, nums S x ∧ ∀ s w, s < 36 → w < ofs L (d + 1) → rwK x s w = y s w
section NK
variable {L d : Nat} {S : ms_T} {y : Nat → Nat → Kf} {Q : ms_T → Prop}
theorem nk_W (h : nk L d S y) : ofs L (d + 1) ≤ 364 ∧ 1 ≤ L := ⟨cf_all h.1.1, Nat.le_of_lt (cf_L h.1.1).1⟩
theorem nk_rs {S' : ms_T} {x f : Nat → Nat} {r : Nat → Kf} {s : Nat} (hm : mt_ok L d S') (hx : nums S' (rsN x (364 * s) (ofs L (d + 1)) f)) (hy : ∀ s w, s < 36 → w < ofs L (d + 1) → rwK x s w = y s w) (hf : ∀ w, w < ofs L (d + 1) → kN (f w) = r w) : nk L d S' (va_up y s r) := by
  refine ⟨hm, _, hx, fun s' w hs' hw => ?_⟩
  rw [rwK_rs (cf_all hm.1) hw]
  by_cases e : s' = s
  · rw [if_pos e, e, va_up_self]; exact hf w hw
  · rw [if_neg e, va_up_ne _ _ e]; exact hy s' w hs' hw
theorem nk_clears {s : Nat} (h : nk L d S y) (hs : s < 36) (hq : ∀ S', upS S S' → nk L d S' (va_up y s (fun _ => 0)) → Q S') : wp_X8_clears S (nI s) Q := by
  obtain ⟨hm, x, hx, hy⟩ := h
  exact sn_clears hm hx hs (fun S' hu hx' => hq S' hu (nk_rs (mt_up hm hu) hx' hy (fun w hw => rfl)))
theorem nk_copies {s a : Nat} (h : nk L d S y) (hs : s < 36) (ha : a < 36) (hq : ∀ S' r, upS S S' → eqW L d r (y a) → nk L d S' (va_up y s r) → Q S') : wp_X8_copies S (nI s) (nI a) Q := by
  obtain ⟨hm, x, hx, hy⟩ := h
  exact sn_copies hm hx hs ha (fun S' hu hx' => hq S' (rwK x a) hu (fun w hw => hy a w ha hw) (nk_rs (mt_up hm hu) hx' hy (fun w hw => rfl)))
theorem nk_adds {s a : Nat} {c : Kf} (h : nk L d S y) (hs : s < 36) (ha : a < 36) (hq : ∀ S' r, upS S S' → eqW L d r (fun w => y s w + y a w * c) → nk L d S' (va_up y s r) → Q S') : wp_X8_adds S (nI s) (nI a) (kL c) Q := by
  obtain ⟨hm, x, hx, hy⟩ := h
  refine sn_adds hm hx hs ha c.isLt (fun S' hu hx' => hq S' (fun w => rwK x s w + rwK x a w * c) hu (fun w hw => ?_) (nk_rs (mt_up hm hu) hx' hy (fun w hw => ?_)))
  · show rwK x s w + rwK x a w * c = y s w + y a w * c
    rw [hy s w hs hw, hy a w ha hw]
  · show kN ((x (364 * s + w) + x (364 * a + w) * c.val) % PR) = kN (x (364 * s + w)) + kN (x (364 * a + w)) * c
    rw [kN_mod, kN_add, kN_mul, kN_val]
theorem nk_mul {s a b : Nat} (h : nk L d S y) (hs : s < 36) (ha : a < 36) (hb : b < 36) (has : a ≠ s) (hbs : b ≠ s) (hq : ∀ S' r, upS S S' → eqW L d r (mulK L d (y a) (y b)) → nk L d S' (va_up y s r) → Q S') : wp_X8_multiplies S (nI s) (nI a) (nI b) Q := by
  have hL := (nk_W h).2
  obtain ⟨hm, x, hx, hy⟩ := h
  exact sn_multiplies hm hx hs ha hb has hbs (fun S' hu hx' => hq S' (mulK L d (rwK x a) (rwK x b)) hu (mulK_c hL (fun w hw => hy a w ha hw) (fun w hw => hy b w hb hw)) (nk_rs (mt_up hm hu) hx' hy (fun w hw => mulW_K)))
theorem nk_ones {s : Nat} (h : nk L d S y) (hs : s < 36) (hq : ∀ S', upS S S' → nk L d S' (va_up y s (unitK 1)) → Q S') : wp_X8_ones S (nI s) Q := by
  have hW := (nk_W h).1
  obtain ⟨hm, x, hx, hy⟩ := h
  refine sn_ones hm hx hs (fun S' hu hx' => hq S' hu ⟨mt_up hm hu, _, hx', fun s' w hs' hw => ?_⟩)
  unfold rwK rsN
  by_cases e : s' = s
  · subst e
    rw [va_up_self]
    by_cases e0 : w = 0
    · rw [if_pos (by omega)]
      show kN 1 = if w = 0 then (1 : Kf) else 0
      rw [if_pos e0]; rfl
    · rw [if_neg (by omega), if_pos (by omega)]
      show kN 0 = if w = 0 then (1 : Kf) else 0
      rw [if_neg e0]; rfl
  · rw [if_neg (by omega), if_neg (by omega), va_up_ne _ _ e]
    exact hy s' w hs' hw
theorem nk_set {s w0 : Nat} {c : Kf} (h : nk L d S y) (hs : s < 36) (hw0 : w0 < ofs L (d + 1)) : nk L d (ms_sJ S 0 (364 * s + w0) (kL c)) (va_up y s (fun w => if w = w0 then c else y s w)) := by
  have hW := (nk_W h).1
  obtain ⟨hm, x, hx, hy⟩ := h
  refine ⟨mt_up hm ⟨rfl, rfl, fun k hk => va_up_ne _ _ hk⟩, fun j => if j = 364 * s + w0 then c.val else x j, fun j hj => ?_, fun s' w hs' hw => ?_⟩
  · show (va_up S.2.2 0 (vp_updL (S.2.2 0) (364 * s + w0) (kL c))) 0 j = lN (if j = 364 * s + w0 then c.val else x j) ∧ (if j = 364 * s + w0 then c.val else x j) < PR
    rw [va_up_self]
    unfold vp_updL
    by_cases e : j = 364 * s + w0
    · rw [if_pos e, if_pos e]; exact ⟨rfl, c.isLt⟩
    · rw [if_neg e, if_neg e]; exact hx j hj
  · unfold rwK
    dsimp only
    by_cases e : s' = s
    · subst e
      rw [va_up_self]
      by_cases e0 : w = w0
      · rw [if_pos (by omega), if_pos e0, kN_val]
      · rw [if_neg (by omega), if_neg e0]; exact hy s' w hs' hw
    · rw [if_neg (by omega), va_up_ne _ _ e]
      exact hy s' w hs' hw
theorem nk_bracketOf {s a b : Nat} (h : nk L d S y) (hs : s < 36) (ha : a < 36) (hb : b < 36) (ha8 : a ≠ 8) (hb8 : b ≠ 8) (ha9 : a ≠ 9) (hb9 : b ≠ 9) (hq : ∀ S' y', upS S S' → (∀ s', s' < 36 → s' ≠ 8 → s' ≠ 9 → s' ≠ s → eqW L d (y' s') (y s')) → (s ≠ 8 → s ≠ 9 → eqW L d (y' s) (fun w => mulK L d (y a) (y b) w + mulK L d (y b) (y a) w * kN 2147483646)) → nk L d S' y' → Q S') : wp_X8_bracketOf S (nI s) (nI a) (nI b) Q := by
  have hL := (nk_W h).2
  have hW := (nk_W h).1
  obtain ⟨hm, x, hx, hy⟩ := h
  refine sn_bracketOf hm hx hs ha hb ha8 hb8 ha9 hb9 (fun S' hu hx' => hq S' (rwK (bracketX L d x s a b)) hu (fun s' hs' h8 h9 hne w hw => ?_) (fun h8 h9 w hw => ?_) ⟨mt_up hm hu, _, hx', fun _ _ _ _ => rfl⟩)
  · rw [bracketX_K hL hW hw h8 h9 ha8 hb8, if_neg hne]
    exact hy s' w hs' hw
  · rw [bracketX_K hL hW hw h8 h9 ha8 hb8, if_pos rfl, mulK_c hL (fun w hw => hy a w ha hw) (fun w hw => hy b w hb hw) w hw, mulK_c hL (fun w hw => hy b w hb hw) (fun w hw => hy a w ha hw) w hw]
theorem nk_series {how to a : Nat} (h : nk L d S y) (hh : how < 3) (hto : to < 36) (ha : a < 36) (hq : ∀ S' y', upS S S' → (∀ s', s' < 36 → s' ≠ 9 → s' ≠ 10 → s' ≠ 11 → s' ≠ 12 → s' ≠ to → eqW L d (y' s') (y s')) → eqW L d (y' to) (serK L d how (nzK (y a))) → nk L d S' y' → Q S') : wp_X8_series S (nI to) (nI a) (nI how) Q := by
  have hL := (nk_W h).2
  have hW := (nk_W h).1
  have hd := cf_d h.1.1
  obtain ⟨hm, x, hx, hy⟩ := h
  have hW0 : 0 < ofs L (d + 1) := by
    have h1 : ofs L 1 ≤ ofs L (d + 1) := ofs_mono (by omega)
    have h2 : ofs L 1 = 1 := by show 0 + L ^ 0 = 1; rw [Nat.pow_zero]
    omega
  obtain ⟨k1, k2⟩ := serX_K (how := how) (a := a) (x := x) hL hW hW0 hh (show d < 100 by omega)
  refine sn_series hm hx hh hto ha (fun S' hu hx' => hq S' (rwK (rsN (serX L d how a x) (364 * to) (ofs L (d + 1)) (fun w => serX L d how a x (364 * 11 + w)))) hu (fun s' hs' h9 h10 h11 h12 hne w hw => ?_) (fun w hw => ?_) ⟨mt_up hm hu, _, hx', fun _ _ _ _ => rfl⟩)
  · rw [rwK_rs hW hw, if_neg hne]
    show kN (serX L d how a x (364 * s' + w)) = y s' w
    rw [k1 s' w h9 h10 h11 h12 hw]
    exact hy s' w hs' hw
  · rw [rwK_rs hW hw, if_pos rfl]
    show rwK (serX L d how a x) 11 w = _
    rw [k2 w hw]
    exact serK_c hL (nzK_c (fun w hw => hy a w ha hw)) w hw
end NK
