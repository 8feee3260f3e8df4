/-! the reference's rows of sums: clears, copies, adds, ones -/
def rs (g : Nat → Int64) (b n : Nat) (f : Nat → Int64) : Nat → Int64 := fun j => if b ≤ j ∧ j < b + n then f (j - b) else g j
def mJ (S : ms_T) (k : Nat) (g : Nat → Int64) : ms_T := (S.1, S.2.1, va_up S.2.2 k g)
theorem mJ_s {S : ms_T} {k i : Nat} {g : Nat → Int64} {v : Int64} : ms_sJ (mJ S k g) k i v = mJ S k (vp_updL g i v) := by
  unfold ms_sJ mJ
  dsimp only
  rw [va_up_self, bx_uu]
theorem mJ_self {S : ms_T} {k : Nat} : mJ S k (S.2.2 k) = S := by
  unfold mJ
  have : va_up S.2.2 k (S.2.2 k) = S.2.2 := by
    funext j
    unfold va_up
    by_cases h : j = k
    · rw [if_pos h, h]
    · rw [if_neg h]
  rw [this]
theorem mJ_g {S : ms_T} {k : Nat} {g : Nat → Int64} : (mJ S k g).2.2 k = g := va_up_self _ _ _
theorem rs_0 {g f : Nat → Int64} {b : Nat} : rs g b 0 f = g := by
  funext j; unfold rs; rw [if_neg (by omega)]
theorem rs_succ {g f : Nat → Int64} {b n : Nat} : vp_updL (rs g b n f) (b + n) (f n) = rs g b (n + 1) f := by
  funext j
  unfold vp_updL rs
  by_cases h : j = b + n
  · subst h
    rw [if_pos rfl, if_pos (by omega), Nat.add_sub_cancel_left]
  · rw [if_neg h]
    by_cases h2 : b ≤ j ∧ j < b + n
    · rw [if_pos h2, if_pos (by omega)]
    · rw [if_neg h2, if_neg (by omega)]
theorem rs_out {g f : Nat → Int64} {b n j : Nat} (h : j < b ∨ b + n ≤ j) : rs g b n f j = g j := by
  unfold rs; rw [if_neg (by omega)]
theorem rs_in {g f : Nat → Int64} {b n i : Nat} (h : i < n) : rs g b n f (b + i) = f i := by
  unfold rs; rw [if_pos (by omega), Nat.add_sub_cancel_left]
theorem ix {s w : Nat} : (364 * nI s) + nI w = nI (364 * s + w) := by
  rw [show (364 : Int32) = nI 364 from rfl, pk_mul, nI_add]
theorem ix0 {s : Nat} : 364 * nI s = nI (364 * s) := by
  rw [show (364 : Int32) = nI 364 from rfl, pk_mul]
theorem sp_clears {S : ms_T} {s W : Nat} {Q : ms_T → Prop} (hW : S.1 2 = nI W) (h364 : W ≤ 364) (hs : s < 36) (hq : Q (mJ S 0 (rs (S.2.2 0) (364 * s) W (fun _ => 0)))) : wp_X8_clears S (nI s) Q := by
  have main : ∀ k w, w + k = W → wp_X8_clears_2 Q (k + 1) (mJ S 0 (rs (S.2.2 0) (364 * s) w (fun _ => 0))) (nI s) (nI w) := by
    intro k
    induction k with
    | zero =>
      intro w hw
      have : w = W := by omega
      subst this
      refine ⟨fun _ => hq, fun h => absurd ?_ h⟩
      show S.1 2 ≤ nI w
      rw [hW]; exact nI_le (Nat.le_refl _) (by omega)
    | succ k ih =>
      intro w hw
      refine ⟨fun h => absurd h ?_, fun _ => ⟨?_, ?_⟩⟩
      · show ¬ S.1 2 ≤ nI w
        rw [hW]; exact nI_ge (by omega) (by omega)
      · rw [ix]; exact vp_in_nI (by omega) (by omega)
      · rintro _ rfl
        rw [ix, nI_clamp (by omega), mJ_s, rs_succ (f := fun _ => 0), nI_1]
        exact ih (w + 1) (by omega)
  have h0 := main W 0 (by omega)
  rw [rs_0, mJ_self] at h0
  exact ⟨W + 1, h0⟩
theorem sp_copies {S : ms_T} {s a W : Nat} {Q : ms_T → Prop} (hW : S.1 2 = nI W) (h364 : W ≤ 364) (hs : s < 36) (ha : a < 36) (hq : Q (mJ S 0 (rs (S.2.2 0) (364 * s) W (fun w => S.2.2 0 (364 * a + w))))) : wp_X8_copies S (nI s) (nI a) Q := by
  have main : ∀ k w, w + k = W → wp_X8_copies_2 Q (k + 1) (mJ S 0 (rs (S.2.2 0) (364 * s) w (fun w => S.2.2 0 (364 * a + w)))) (nI s) (nI a) (nI w) := by
    intro k
    induction k with
    | zero =>
      intro w hw
      have : w = W := by omega
      subst this
      refine ⟨fun _ => hq, fun h => absurd ?_ h⟩
      show S.1 2 ≤ nI w
      rw [hW]; exact nI_le (Nat.le_refl _) (by omega)
    | succ k ih =>
      intro w hw
      refine ⟨fun h => absurd h ?_, fun _ => ⟨?_, ?_, ?_⟩⟩
      · show ¬ S.1 2 ≤ nI w
        rw [hW]; exact nI_ge (by omega) (by omega)
      · rw [ix]; exact vp_in_nI (by omega) (by omega)
      · rw [ix]; exact vp_in_nI (by omega) (by omega)
      · rintro _ rfl
        rw [ix, ix, nI_clamp (by omega), nI_clamp (by omega), mJ_g, rs_out (j := 364 * a + w) (by rcases Nat.lt_trichotomy a s with h | h | h <;> omega), mJ_s, rs_succ (f := fun w => S.2.2 0 (364 * a + w)), nI_1]
        exact ih (w + 1) (by omega)
  have h0 := main W 0 (by omega)
  rw [rs_0, mJ_self] at h0
  exact ⟨W + 1, h0⟩
theorem sp_adds {S : ms_T} {s a W : Nat} {t : Int64} {Q : ms_T → Prop} (hW : S.1 2 = nI W) (h364 : W ≤ 364) (hs : s < 36) (ha : a < 36) (hq : Q (mJ S 0 (rs (S.2.2 0) (364 * s) W (fun w => xr_remL (S.2.2 0 (364 * s + w) + S.2.2 0 (364 * a + w) * t) 2147483647)))) : wp_X8_adds S (nI s) (nI a) t Q := by
  have main : ∀ k w, w + k = W → wp_X8_adds_3 Q (k + 1) (mJ S 0 (rs (S.2.2 0) (364 * s) w (fun w => xr_remL (S.2.2 0 (364 * s + w) + S.2.2 0 (364 * a + w) * t) 2147483647))) (nI s) (nI a) t (nI w) := by
    intro k
    induction k with
    | zero =>
      intro w hw
      have : w = W := by omega
      subst this
      refine ⟨fun _ => hq, fun h => absurd ?_ h⟩
      show S.1 2 ≤ nI w
      rw [hW]; exact nI_le (Nat.le_refl _) (by omega)
    | succ k ih =>
      intro w hw
      refine ⟨fun h => absurd h ?_, fun _ => ⟨?_, ?_, ?_, ?_⟩⟩
      · show ¬ S.1 2 ≤ nI w
        rw [hW]; exact nI_ge (by omega) (by omega)
      · rw [ix]; exact vp_in_nI (by omega) (by omega)
      · rw [ix]; exact vp_in_nI (by omega) (by omega)
      · rw [ix]; exact vp_in_nI (by omega) (by omega)
      · rintro _ rfl
        rw [ix, ix, nI_clamp (by omega), nI_clamp (by omega), mJ_g, rs_out (j := 364 * a + w) (by rcases Nat.lt_trichotomy a s with h | h | h <;> omega), rs_out (j := 364 * s + w) (by omega), mJ_s, rs_succ (f := fun w => xr_remL (S.2.2 0 (364 * s + w) + S.2.2 0 (364 * a + w) * t) 2147483647), nI_1]
        exact ih (w + 1) (by omega)
  have h0 := main W 0 (by omega)
  rw [rs_0, mJ_self] at h0
  exact ⟨W + 1, h0⟩
theorem sp_ones {S : ms_T} {s W : Nat} {Q : ms_T → Prop} (hW : S.1 2 = nI W) (h364 : W ≤ 364) (hs : s < 36) (hq : Q (mJ S 0 (vp_updL (rs (S.2.2 0) (364 * s) W (fun _ => 0)) (364 * s) 1))) : wp_X8_ones S (nI s) Q := by
  refine sp_clears hW h364 hs ⟨?_, ?_⟩
  · rw [ix0]; exact vp_in_nI (by omega) (by omega)
  · rw [ix0, nI_clamp (by omega), mJ_s]
    exact hq
