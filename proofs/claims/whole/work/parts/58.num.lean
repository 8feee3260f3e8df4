/-! numbers: what the reference's static methods answer, in Nat -/
abbrev PR : Nat := 2147483647
theorem i64_lt (a b : Int64) : a < b ↔ a.toInt < b.toInt := Int64.lt_iff_toInt_lt
theorem i64_le (a b : Int64) : a ≤ b ↔ a.toInt ≤ b.toInt := Int64.le_iff_toInt_le
theorem i32_lt (a b : Int32) : a < b ↔ a.toInt < b.toInt := Int32.lt_iff_toInt_lt
theorem i32_le (a b : Int32) : a ≤ b ↔ a.toInt ≤ b.toInt := Int32.le_iff_toInt_le
theorem i64_nlt {a b : Int64} : ¬ a < b ↔ b ≤ a := by rw [i64_lt, i64_le]; omega
theorem i64_nle {a b : Int64} : ¬ a ≤ b ↔ b < a := by rw [i64_lt, i64_le]; omega
theorem i32_nlt {a b : Int32} : ¬ a < b ↔ b ≤ a := by rw [i32_lt, i32_le]; omega
theorem i32_nle {a b : Int32} : ¬ a ≤ b ↔ b < a := by rw [i32_lt, i32_le]; omega
theorem sp_in {a b c : Int64} {Q : Int32 → Prop} (h : Q (if b ≤ a ∧ a ≤ c then 1 else 0)) : wp_X8_in a b c Q := by
  refine ⟨fun h1 => ?_, fun h1 => ⟨fun h2 => ?_, fun h2 => ?_⟩⟩
  · rwa [if_neg (fun q => i64_nlt.mpr q.1 h1)] at h
  · rwa [if_neg (fun q => i64_nlt.mpr q.2 h2)] at h
  · rwa [if_pos ⟨i64_nlt.mp h1, i64_nlt.mp h2⟩] at h
/-- the power loop: fuel, so far, base, exponent -/
def pm : Nat → Nat → Nat → Nat → Nat
  | 0, r, _, _ => r
  | n + 1, r, b, e => if e = 0 then r else pm n (if e % 2 = 1 then r * b % PR else r) (b * b % PR) (e / 2)
def nv (a : Nat) : Nat := pm 31 1 a 2147483645
theorem lt_sq {a b : Nat} (ha : a < PR) (hb : b < PR) : a * b < 2 ^ 63 := by
  have : a * b ≤ 2147483647 * 2147483647 := Nat.mul_le_mul (Nat.le_of_lt ha) (Nat.le_of_lt hb)
  omega
theorem rl_mul {a b : Nat} (ha : a < PR) (hb : b < PR) : xr_remL (lN a * lN b) 2147483647 = lN (a * b % PR) := by
  rw [lN_mul]
  exact pk_lRem (lt_sq ha hb) (by decide) (by decide)
theorem lN_and1 {n : Nat} (h : n < 2 ^ 63) : ((lN n) &&& 1 = 1) ↔ n % 2 = 1 := by
  have hb : (lN n &&& 1) = lN (n % 2) := by
    apply Int64.toBitVec_inj.mp
    rw [Int64.toBitVec_and]
    apply BitVec.eq_of_toNat_eq
    rw [BitVec.toNat_and]
    show (BitVec.ofNat 64 n).toNat &&& 1 = (BitVec.ofNat 64 (n % 2)).toNat
    rw [BitVec.toNat_ofNat, BitVec.toNat_ofNat, Nat.mod_eq_of_lt (show n < 2 ^ 64 by omega), Nat.mod_eq_of_lt (show n % 2 < 2 ^ 64 by omega), Nat.and_one_is_mod]
  rw [hb]
  constructor
  · intro h1
    have := congrArg Int64.toInt h1
    rw [lN_toInt (by omega)] at this
    have h2 : (1 : Int64).toInt = 1 := by decide
    rw [h2] at this
    omega
  · intro h1
    rw [h1]; rfl
theorem lN_shr1 {n : Nat} (h : n < 2 ^ 63) : lN n >>> (((1 : Int32)).toInt64 &&& 63) = lN (n / 2) := by
  apply Int64.toInt_inj.mp
  rw [pk_lT (show n / 2 < 2 ^ 63 by omega)]
  have h1 : ((((1 : Int32)).toInt64 &&& 63) : Int64) = 1 := by decide
  rw [h1]
  show ((lN n).toBitVec.sshiftRight' ((1 : Int64).toBitVec.smod 64)).toInt = _
  rw [show ((1 : Int64).toBitVec.smod 64) = 1#64 from by decide]
  rw [BitVec.sshiftRight_eq', BitVec.toInt_sshiftRight]
  show (lN n).toInt >>> 1 = _
  rw [pk_lT h]
  simp [Int.shiftRight_eq_div_pow]
theorem sp_inv_loop {Q : Int64 → Prop} : ∀ (n : Nat) (r b e : Nat), r < PR → b < PR → e < 2 ^ 63 → e < 2 ^ n → Q (lN (pm n r b e)) → wp_X8_inverted_10 Q (n + 1) (lN r) (lN b) (lN e) := by
  intro n
  induction n with
  | zero =>
    intro r b e hr hb he hn hq
    have : e = 0 := by omega
    subst this
    refine ⟨fun _ => hq, fun h => absurd (show lN 0 ≤ 0 by decide) h⟩
  | succ n ih =>
    intro r b e hr hb he hn hq
    by_cases h0 : e = 0
    · subst h0
      refine ⟨fun _ => ?_, fun h => absurd (show lN 0 ≤ 0 by decide) h⟩
      simpa [pm] using hq
    · have hq' : Q (lN (pm n (if e % 2 = 1 then r * b % PR else r) (b * b % PR) (e / 2))) := by
        simpa [pm, h0] using hq
      have hle : ¬ lN e ≤ 0 := by
        rw [show (0 : Int64) = lN 0 from rfl, pk_lLE he (by decide)]; omega
      have hrest : ∀ r', r' < PR → Q (lN (pm n r' (b * b % PR) (e / 2))) → wp_X8_inverted_38 (wp_X8_inverted_10 Q (n + 1)) Q (lN b) (lN e) (lN r') := by
        intro r' hr' hq2 v4 e4 v6 e6
        rw [e4, e6, rl_mul hb hb, lN_shr1 he]
        exact ih r' (b * b % PR) (e / 2) hr' (Nat.mod_lt _ (by decide)) (by omega) (by rw [Nat.pow_succ] at hn; omega) hq2
      refine ⟨fun h => absurd h hle, fun _ => ⟨fun h => ?_, fun h => ?_⟩⟩
      · rw [lN_and1 he] at h
        rw [if_neg h] at hq'
        exact hrest r hr hq'
      · rw [lN_and1 he] at h
        rw [if_pos h] at hq'
        rw [rl_mul hr hb]
        exact hrest _ (Nat.mod_lt _ (by decide)) hq'
theorem sp_inverted {Q : Int64 → Prop} {a : Nat} (ha : a < PR) (hq : Q (lN (nv a))) : wp_X8_inverted (lN a) Q :=
  ⟨32, sp_inv_loop 31 1 a 2147483645 (by decide) ha (by decide) (by decide) hq⟩
