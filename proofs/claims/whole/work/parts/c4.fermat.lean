/-! the prime; every number but 0 has its reciprocal -/
def nodB : Nat → Nat → Bool
  | 0, _ => true
  | k + 1, i => cond (Nat.beq (2147483647 % i) 0) false (nodB k (i + 2))
theorem nodB_of : ∀ {k i : Nat}, nodB k i = true → ∀ j, j < k → 2147483647 % (i + 2 * j) ≠ 0
  | 0, i, _, j, h => by omega
  | k + 1, i, h, j, hj => by
    unfold nodB at h
    rw [beq_d] at h
    by_cases e : 2147483647 % i = 0
    · rw [decide_eq_true e] at h
      exact absurd (show false = true from h) Bool.false_ne_true
    · rw [decide_eq_false e] at h
      cases j with
      | zero => exact e
      | succ j =>
        have := nodB_of (show nodB k (i + 2) = true from h) j (by omega)
        rwa [show i + 2 * (j + 1) = i + 2 + 2 * j by omega]
set_option maxRecDepth 1000000 in
theorem nod_ok : nodB 23170 3 = true := by decide +kernel
theorem pr_div {e : Nat} (he : e ∣ PR) (h1 : 2 ≤ e) (h2 : e < PR) : False := by
  have small : ∀ e, e ∣ PR → 2 ≤ e → e ≤ 46340 → False := by
    intro e he h1 h2
    have hm : PR % e = 0 := Nat.mod_eq_zero_of_dvd he
    by_cases ho : e % 2 = 0
    · have : 2 ∣ PR := Nat.dvd_trans (Nat.dvd_of_mod_eq_zero ho) he
      exact absurd (Nat.mod_eq_zero_of_dvd this) (by decide)
    · have := nodB_of nod_ok ((e - 3) / 2) (by omega)
      rw [show 3 + 2 * ((e - 3) / 2) = e by omega] at this
      exact this hm
  obtain ⟨f, hf⟩ := he
  by_cases hs : e ≤ 46340
  · exact small e ⟨f, hf⟩ h1 hs
  · by_cases hs2 : f ≤ 46340
    · refine small f ⟨e, by rw [Nat.mul_comm]; exact hf⟩ ?_ hs2
      by_cases h0 : f = 0
      · rw [h0, Nat.mul_zero] at hf
        exact absurd hf (by decide)
      · by_cases h3 : f = 1
        · rw [h3, Nat.mul_one] at hf
          omega
        · omega
    · have : 46341 * 46341 ≤ e * f := Nat.mul_le_mul (by omega) (by omega)
      rw [← hf] at this
      exact absurd this (by decide)
theorem pr_cop {k : Nat} (h1 : 1 ≤ k) (h2 : k < PR) : Nat.Coprime PR k := by
  have hg : Nat.gcd PR k ∣ PR := Nat.gcd_dvd_left _ _
  have hg2 : Nat.gcd PR k ∣ k := Nat.gcd_dvd_right _ _
  have hle : Nat.gcd PR k ≤ k := Nat.le_of_dvd (by omega) hg2
  have hpos : 0 < Nat.gcd PR k := Nat.gcd_pos_of_pos_right _ (by omega)
  show Nat.gcd PR k = 1
  by_cases e : Nat.gcd PR k = 1
  · exact e
  · exact (pr_div hg (by omega) (by omega)).elim
theorem k_dom {a b : Kf} (h : a * b = 0) (ha : a ≠ 0) : b = 0 := by
  have h1 := congrArg Fin.val h
  rw [k_mul] at h1
  have hd : PR ∣ a.val * b.val := Nat.dvd_of_mod_eq_zero h1
  have ha0 : a.val ≠ 0 := fun e => ha (Fin.ext e)
  have hb := Nat.Coprime.dvd_of_dvd_mul_left (pr_cop (by omega) a.isLt) hd
  have : b.val = 0 := by
    by_cases e : b.val = 0
    · exact e
    · have := Nat.le_of_dvd (by omega) hb
      have := b.isLt
      have e2 : PR = 2147483647 := rfl
      omega
  exact Fin.ext this
/-! binomials -/
def bin : Nat → Nat → Nat
  | _, 0 => 1
  | 0, _ + 1 => 0
  | n + 1, k + 1 => bin n k + bin n (k + 1)
theorem bin_0 (n : Nat) : bin n 0 = 1 := by cases n <;> rfl
theorem bin_hi : ∀ n k, n < k → bin n k = 0
  | 0, 0, h => by omega
  | 0, k + 1, _ => rfl
  | n + 1, 0, h => by omega
  | n + 1, k + 1, h => by
    show bin n k + bin n (k + 1) = 0
    rw [bin_hi n k (by omega), bin_hi n (k + 1) (by omega)]
theorem bin_n : ∀ n, bin n n = 1
  | 0 => rfl
  | n + 1 => by
    show bin n n + bin n (n + 1) = 1
    rw [bin_n n, bin_hi n (n + 1) (by omega)]
theorem bin_abs : ∀ n k, (k + 1) * bin (n + 1) (k + 1) = (n + 1) * bin n k
  | 0, 0 => rfl
  | 0, k + 1 => by
    rw [bin_hi (0 + 1) (k + 1 + 1) (by omega), bin_hi 0 (k + 1) (by omega), Nat.mul_zero, Nat.mul_zero]
  | n + 1, 0 => by
    show 1 * (bin (n + 1) 0 + bin (n + 1) 1) = (n + 1 + 1) * bin (n + 1) 0
    have h : 1 * bin (n + 1) 1 = (n + 1) * bin n 0 := bin_abs n 0
    rw [bin_0] at h
    rw [bin_0]
    omega
  | n + 1, k + 1 => by
    have h1 := bin_abs n k
    have h2 := bin_abs n (k + 1)
    show (k + 1 + 1) * (bin (n + 1) (k + 1) + bin (n + 1) (k + 1 + 1)) = (n + 1 + 1) * (bin n k + bin n (k + 1))
    have e : bin (n + 1) (k + 1) = bin n k + bin n (k + 1) := rfl
    rw [Nat.mul_add, h2, Nat.succ_mul (k + 1), h1, e, Nat.mul_add (n + 1 + 1), Nat.succ_mul (n + 1), Nat.succ_mul (n + 1)]
    omega
theorem bin_pr {k : Nat} (h1 : 1 ≤ k) (h2 : k < PR) : kN (bin PR k) = 0 := by
  obtain ⟨j, rfl⟩ : ∃ j, k = j + 1 := ⟨k - 1, by omega⟩
  have h := bin_abs (PR - 1) j
  rw [show PR - 1 + 1 = PR from rfl] at h
  have hd : PR ∣ (j + 1) * bin PR (j + 1) := ⟨_, h⟩
  have := Nat.Coprime.dvd_of_dvd_mul_left (pr_cop h1 h2) hd
  rw [← kN_mod, Nat.mod_eq_zero_of_dvd this]; rfl
theorem bin_thm (a : Kf) : ∀ n, kpw (a + 1) n = ksum (n + 1) (fun k => kN (bin n k) * kpw a k)
  | 0 => by
    show (1 : Kf) = 0 + kN 1 * 1
    rw [ka_0', kN_1, km_1]
  | n + 1 => by
    show kpw (a + 1) n * (a + 1) = _
    rw [bin_thm a n, kd_l, km_1, ksum_f (n := n + 1), ← ksum_mr]
    have e1 : ksum (n + 1) (fun k => kN (bin (n + 1) (k + 1)) * kpw a (k + 1)) = ksum (n + 1) (fun k => kN (bin n k) * kpw a k * a) + ksum (n + 1) (fun k => kN (bin n (k + 1)) * kpw a (k + 1)) := by
      rw [← ksum_a]
      refine ksum_c (fun k _ => ?_)
      show kN (bin n k + bin n (k + 1)) * (kpw a k * a) = _
      rw [kN_add, kd_r, km_a]
      rfl
    have e2 : ksum (n + 1) (fun k => kN (bin n (k + 1)) * kpw a (k + 1)) = ksum n (fun k => kN (bin n (k + 1)) * kpw a (k + 1)) := by
      show ksum n _ + kN (bin n (n + 1)) * _ = _
      rw [bin_hi n (n + 1) (by omega), kN_0, km_0, ka_0]
    rw [e1, e2, ksum_f (n := n) (f := fun k => kN (bin n k) * kpw a k), bin_0, bin_0]
    rw [← ka_a, ← ka_a, ka_c (kN 1 * kpw a 0)]
theorem frosh (a : Kf) : kpw (a + 1) PR = kpw a PR + 1 := by
  rw [bin_thm]
  have e : PR + 1 = (PR - 1 + 1) + 1 := rfl
  rw [e]
  show ksum (PR - 1 + 1) _ + kN (bin PR PR) * kpw a PR = _
  rw [ksum_f (n := PR - 1), ksum_z (n := PR - 1) (fun i hi => by rw [bin_pr (by omega) (by omega), km_0]), ka_0, bin_n, bin_0, kN_1, km_1', ka_c]
  show _ + 1 * (1 : Kf) = _
  rw [km_1, km_1']
theorem kpw_1 : ∀ n, kpw (1 : Kf) n = 1
  | 0 => rfl
  | n + 1 => by show kpw 1 n * 1 = 1; rw [kpw_1 n, km_1]
theorem fermat (n : Nat) : kpw (kN n) PR = kN n := by
  induction n with
  | zero =>
    show kpw (kN 0) (PR - 1 + 1) = kN 0
    show kpw (kN 0) (PR - 1) * kN 0 = kN 0
    rw [kN_0, km_0']
  | succ n ih => rw [kN_add, kN_1, frosh, ih]
theorem kpw_sq (b : Kf) : ∀ e, kpw (b * b) e = kpw b (2 * e)
  | 0 => rfl
  | e + 1 => by
    show kpw (b * b) e * (b * b) = kpw b (2 * e) * b * b
    rw [kpw_sq b e, km_a]
theorem pm_K : ∀ n r b e, e < 2 ^ n → kN (pm n r b e) = kN r * kpw (kN b) e
  | 0, r, b, e, h => by
    rw [Nat.pow_zero] at h
    have : e = 0 := by omega
    subst this
    show kN r = kN r * 1
    rw [km_1]
  | n + 1, r, b, e, h => by
    unfold pm
    by_cases h0 : e = 0
    · rw [if_pos h0, h0]
      show kN r = kN r * 1
      rw [km_1]
    · rw [if_neg h0, pm_K n _ _ _ (by rw [Nat.pow_succ] at h; omega), kN_mod, kN_mul, kpw_sq]
      by_cases h1 : e % 2 = 1
      · rw [if_pos h1, kN_mod, kN_mul, km_a]
        refine congrArg (kN r * ·) ?_
        have : e = 2 * (e / 2) + 1 := by omega
        conv => rhs; rw [this]
        show _ = kpw (kN b) (2 * (e / 2)) * kN b
        rw [km_c]
      · rw [if_neg h1]
        refine congrArg (kN r * ·) ?_
        rw [show 2 * (e / 2) = e by omega]
theorem kv_pw (a : Kf) : kv a = kpw a 2147483645 := by
  have h := pm_K 31 1 a.val 2147483645 (by decide)
  rw [kN_val, kN_1, km_1'] at h
  rw [← h]
  unfold kv
  refine Fin.ext ?_
  show nv a.val = nv a.val % 2147483647
  exact (Nat.mod_eq_of_lt (nv_lt a.isLt)).symm
theorem kv_inv {a : Kf} (ha : a ≠ 0) : a * kv a = 1 := by
  have h := fermat a.val
  rw [kN_val] at h
  have h2 : kpw a PR = a * kv a * a := by
    rw [kv_pw]
    show kpw a 2147483645 * a * a = _
    rw [km_c (kpw a 2147483645) a]
  rw [h2] at h
  have h3 : a * (a * kv a + -1) = 0 := by
    rw [kd_l, km_c a (a * kv a), h, kn_m', km_1, kn_c']
  have h4 := k_dom h3 ha
  have h5 := kn_u (a := -1) (b := a * kv a) (by rw [ka_c]; exact h4)
  rw [h5, kn_n]
