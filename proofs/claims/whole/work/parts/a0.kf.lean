/-! numbers modulo the prime as a ring; the class's value rows (3 .. 32) told by functions; loops over them -/
abbrev Kf : Type := Fin 2147483647
def kI (a : Kf) : Int32 := nI a.val
def kL (a : Kf) : Int64 := lN a.val
def kN (n : Nat) : Kf := ⟨n % 2147483647, Nat.mod_lt _ (by decide)⟩
theorem kN_v {n : Nat} (h : n < PR) : (kN n).val = n := Nat.mod_eq_of_lt h
theorem kN_val (a : Kf) : kN a.val = a := Fin.ext (Nat.mod_eq_of_lt a.isLt)
theorem k_31 (a : Kf) : a.val < 2 ^ 31 := PR_31 a.isLt
theorem k_inj {a b : Kf} : kI a = kI b ↔ a = b := by
  refine ⟨fun h => Fin.ext ?_, fun h => by rw [h]⟩
  have h1 := congrArg Int32.toInt h
  unfold kI at h1
  rw [nI_toInt (k_31 a), nI_toInt (k_31 b)] at h1
  omega
theorem kI_0 : kI 0 = 0 := rfl
theorem kI_1 : kI 1 = 1 := rfl
theorem kI_z {a : Kf} : kI a = 0 ↔ a = 0 := by rw [← kI_0, k_inj]
theorem kI_N {n : Nat} (h : n < PR) : kI (kN n) = nI n := by unfold kI; rw [kN_v h]
theorem kL_z {a : Kf} : kL a = 0 ↔ a = 0 := by
  unfold kL
  rw [lN_0 a.isLt]
  exact ⟨fun h => Fin.ext h, fun h => by rw [h]; rfl⟩
theorem k_mul (a b : Kf) : (a * b).val = a.val * b.val % PR := Fin.val_mul a b
theorem k_add (a b : Kf) : (a + b).val = (a.val + b.val) % PR := Fin.val_add a b
theorem k_more (r a b : Kf) : (r + a * b).val = (r.val + a.val * b.val) % PR := by
  rw [k_add, k_mul, Nat.add_mod_mod]
theorem k_sub (a b : Kf) : (a - b).val = (a.val + (PR - b.val)) % PR := by
  rw [Fin.sub_def]
  show (2147483647 - b.val + a.val) % 2147483647 = _
  rw [Nat.add_comm]
theorem kn_product {a b : Kf} {Q : Int32 → Prop} (hq : Q (kI (a * b))) : wp_X3_product (kI a) (kI b) Q := by
  unfold kI at hq ⊢
  rw [k_mul] at hq
  exact cn_product a.isLt b.isLt hq
theorem kn_more {r a b : Kf} {Q : Int32 → Prop} (hq : Q (kI (r + a * b))) : wp_X3_productMore (kI r) (kI a) (kI b) Q := by
  unfold kI at hq ⊢
  rw [k_more] at hq
  exact cn_more r.isLt a.isLt b.isLt hq
theorem kn_plus {a b : Kf} {Q : Int32 → Prop} (hq : Q (kI (a + b))) : wp_X3_plus (kI a) (kI b) Q := by
  unfold kI at hq ⊢
  rw [k_add] at hq
  exact cn_plus a.isLt b.isLt hq
theorem kn_minus {a b : Kf} {Q : Int32 → Prop} (hq : Q (kI (a - b))) : wp_X3_minus (kI a) (kI b) Q := by
  unfold kI at hq ⊢
  rw [k_sub] at hq
  exact cn_minus a.isLt b.isLt hq
def kv (a : Kf) : Kf := ⟨nv a.val, nv_lt a.isLt⟩
theorem kn_recip {a : Kf} {Q : Int32 → Prop} (hq : Q (kI (kv a))) : wp_X3_reciprocal (kI a) Q := cn_recip a.isLt hq
theorem kl_of (a : Kf) : (kI a).toInt64 = kL a := nI_l (k_31 a)
theorem kl_mul (a b : Kf) : xr_remL (kL a * kL b) 2147483647 = kL (a * b) := by
  unfold kL
  rw [rl_mul a.isLt b.isLt, k_mul]
theorem kl_more (r a b : Kf) : (xr_remL (kL r + kL a * kL b) 2147483647).toInt32 = kI (r + a * b) := by
  unfold kL kI
  rw [rl_add r.isLt a.isLt b.isLt, k_more, lN_i]
/-! ring rows -/
theorem ka_c (a b : Kf) : a + b = b + a := Lean.Grind.Fin.add_comm a b
theorem ka_a (a b c : Kf) : a + b + c = a + (b + c) := Lean.Grind.Fin.add_assoc a b c
theorem km_c (a b : Kf) : a * b = b * a := Lean.Grind.Fin.mul_comm a b
theorem km_a (a b c : Kf) : a * b * c = a * (b * c) := Lean.Grind.Fin.mul_assoc a b c
theorem ka_0 (a : Kf) : a + 0 = a := Lean.Grind.Fin.add_zero a
theorem ka_0' (a : Kf) : 0 + a = a := by rw [ka_c, ka_0]
theorem km_0 (a : Kf) : 0 * a = 0 := Lean.Grind.Fin.zero_mul a
theorem km_0' (a : Kf) : a * 0 = 0 := by rw [km_c, km_0]
theorem km_1 (a : Kf) : a * 1 = a := Lean.Grind.Fin.mul_one a
theorem km_1' (a : Kf) : 1 * a = a := by rw [km_c, km_1]
theorem kd_l (a b c : Kf) : a * (b + c) = a * b + a * c := Lean.Grind.Fin.left_distrib a b c
theorem kd_r (a b c : Kf) : (a + b) * c = a * c + b * c := by rw [km_c, kd_l, km_c c a, km_c c b]
theorem ka_4 (a b c e : Kf) : (a + b) + (c + e) = (a + c) + (b + e) := by
  rw [ka_a, ka_a, ← ka_a b c e, ka_c b c, ka_a c b e]
theorem ks_n (a b : Kf) : a - b = a + -b := Lean.Grind.Fin.sub_eq_add_neg a b
theorem kn_c (a : Kf) : -a + a = 0 := Lean.Grind.Fin.neg_add_cancel a
theorem kn_c' (a : Kf) : a + -a = 0 := by rw [ka_c, kn_c]
theorem ka_cancel {a b c : Kf} (h : a + b = a + c) : b = c := by
  have h1 := congrArg (fun z => -a + z) h
  simp only [← ka_a, kn_c, ka_0'] at h1
  exact h1
theorem kn_u {a b : Kf} (h : a + b = 0) : b = -a := ka_cancel (a := a) (by rw [h, kn_c'])
theorem kn_0 : -(0 : Kf) = 0 := (kn_u (ka_0 0)).symm
theorem kn_m (a b : Kf) : -a * b = -(a * b) := kn_u (by rw [← kd_r, kn_c', km_0])
theorem kn_m' (a b : Kf) : a * -b = -(a * b) := by rw [km_c, kn_m, km_c]
theorem kn_a (a b : Kf) : -(a + b) = -a + -b := (kn_u (by rw [ka_4, kn_c', kn_c', ka_0])).symm
theorem kn_n (a : Kf) : - -a = a := (kn_u (kn_c a)).symm
theorem k_m1 : (kN 2147483646) = -1 := rfl
theorem k_sum0 {a b : Kf} (h : b = 0) : a + b = a := by rw [h, ka_0]
/-! sums -/
def ksum : Nat → (Nat → Kf) → Kf
  | 0, _ => 0
  | n + 1, f => ksum n f + f n
theorem ksum_c {f h : Nat → Kf} : ∀ {n : Nat}, (∀ i, i < n → f i = h i) → ksum n f = ksum n h
  | 0, _ => rfl
  | n + 1, e => by
    show ksum n f + f n = ksum n h + h n
    rw [ksum_c (fun i hi => e i (by omega)), e n (by omega)]
theorem ksum_0 : ∀ {n : Nat}, ksum n (fun _ => 0) = 0
  | 0 => rfl
  | n + 1 => by
    show ksum n _ + 0 = 0
    rw [ksum_0, ka_0]
theorem ksum_z {f : Nat → Kf} {n : Nat} (h : ∀ i, i < n → f i = 0) : ksum n f = 0 := by rw [ksum_c h, ksum_0]
theorem ksum_a {f h : Nat → Kf} : ∀ {n : Nat}, ksum n (fun i => f i + h i) = ksum n f + ksum n h
  | 0 => (ka_0 0).symm
  | n + 1 => by
    show ksum n _ + (f n + h n) = (ksum n f + f n) + (ksum n h + h n)
    rw [ksum_a, ka_4]
theorem ksum_ml {f : Nat → Kf} {c : Kf} : ∀ {n : Nat}, ksum n (fun i => c * f i) = c * ksum n f
  | 0 => (km_0' c).symm
  | n + 1 => by
    show ksum n _ + c * f n = c * (ksum n f + f n)
    rw [ksum_ml, kd_l]
theorem ksum_mr {f : Nat → Kf} {c : Kf} {n : Nat} : ksum n (fun i => f i * c) = ksum n f * c := by
  rw [km_c, ← ksum_ml]
  exact ksum_c (fun i _ => km_c _ _)
theorem ksum_f {f : Nat → Kf} : ∀ {n : Nat}, ksum (n + 1) f = f 0 + ksum n (fun i => f (i + 1))
  | 0 => by show 0 + f 0 = f 0 + 0; rw [ka_0, ka_0']
  | n + 1 => by
    show ksum (n + 1) f + f (n + 1) = f 0 + (ksum n (fun i => f (i + 1)) + f (n + 1))
    rw [ksum_f, ka_a]
theorem ksum_rev {f : Nat → Kf} : ∀ {n : Nat}, ksum n f = ksum n (fun i => f (n - 1 - i))
  | 0 => rfl
  | n + 1 => by
    rw [ksum_f (f := fun i => f (n + 1 - 1 - i))]
    show ksum n f + f n = f (n + 1 - 1 - 0) + ksum n (fun i => f (n + 1 - 1 - (i + 1)))
    rw [ka_c, ksum_rev, show n + 1 - 1 - 0 = n by omega]
    refine congrArg (f n + ·) (ksum_c (fun i hi => ?_))
    rw [show n + 1 - 1 - (i + 1) = n - 1 - i by omega]
theorem ksum_app {f : Nat → Kf} {m : Nat} : ∀ {n : Nat}, ksum (m + n) f = ksum m f + ksum n (fun i => f (m + i))
  | 0 => (ka_0 _).symm
  | n + 1 => by
    show ksum (m + n) f + f (m + n) = ksum m f + (ksum n _ + f (m + n))
    rw [ksum_app, ka_a]
theorem ksum_if {f : Nat → Kf} {a : Nat} : ∀ {n : Nat}, ksum n (fun i => if i = a then f i else 0) = if a < n then f a else 0
  | 0 => rfl
  | n + 1 => by
    show ksum n _ + (if n = a then f n else 0) = _
    rw [ksum_if]
    by_cases h : n = a
    · subst h
      rw [if_pos rfl, if_neg (Nat.lt_irrefl n), if_pos (Nat.lt_succ_self n), ka_0']
    · rw [if_neg h, ka_0]
      by_cases h1 : a < n
      · rw [if_pos h1, if_pos (by omega)]
      · rw [if_neg h1, if_neg (by omega)]
theorem ksum_sw {f : Nat → Nat → Kf} {m : Nat} : ∀ {n : Nat}, ksum n (fun i => ksum m (fun j => f i j)) = ksum m (fun j => ksum n (fun i => f i j))
  | 0 => (ksum_0).symm
  | n + 1 => by
    show ksum n _ + ksum m (fun j => f n j) = ksum m (fun j => ksum n (fun i => f i j) + f n j)
    rw [ksum_sw, ← ksum_a]
