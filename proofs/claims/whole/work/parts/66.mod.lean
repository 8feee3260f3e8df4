/-! the reference's mod of a difference, fractions -/
theorem l_sub {a b : Nat} (ha : a < PR) (hb : b < PR) : (lN a - lN b).toInt = (a : Int) - b := by
  have hP : PR = 2147483647 := rfl
  rw [Int64.toInt_sub, pk_lT (show a < 2 ^ 63 by omega), pk_lT (show b < 2 ^ 63 by omega)]
  simp only [Int.bmod]
  split <;> omega
theorem l_div0 {v : Int64} (h1 : -2147483647 < v.toInt) (h2 : v.toInt < 2147483647) : xr_remL v 2147483647 = v := by
  have hd : v / 2147483647 = 0 := by
    apply Int64.toInt_inj.mp
    rw [Int64.toInt_div_of_ne_right _ _ (by decide), show (2147483647 : Int64).toInt = 2147483647 from by decide, show (0 : Int64).toInt = 0 from by decide]
    by_cases h : 0 ≤ v.toInt
    · exact Int.tdiv_eq_zero_of_lt h h2
    · have e : v.toInt = -(-v.toInt) := by omega
      rw [e, Int.neg_tdiv, Int.tdiv_eq_zero_of_lt (by omega) (by omega)]
      rfl
  show v - v / 2147483647 * 2147483647 = v
  rw [hd]
  simp
theorem sp_mod {a b : Nat} {Q : Int64 → Prop} (ha : a < PR) (hb : b < PR) (hq : Q (lN ((a + (PR - b)) % PR))) : wp_X8_mod (lN a - lN b) Q := by
  have hP : PR = 2147483647 := rfl
  have hz := l_sub ha hb
  rintro _ rfl
  rw [l_div0 (by omega) (by omega)]
  by_cases h : b ≤ a
  · have e : (a + (PR - b)) % PR = a - b := by
      rw [show a + (PR - b) = (a - b) + PR by omega, Nat.add_mod_right, Nat.mod_eq_of_lt (by omega)]
    rw [e] at hq
    rw [lN_sub h]
    refine ⟨fun _ => hq, fun z => absurd ?_ z⟩
    rw [i64_le, pk_lT (show a - b < 2 ^ 63 by omega)]
    show (0 : Int64).toInt ≤ _
    rw [show (0 : Int64).toInt = 0 from by decide]; omega
  · have e : (a + (PR - b)) % PR = a + (PR - b) := Nat.mod_eq_of_lt (by omega)
    rw [e] at hq
    refine ⟨fun z => absurd z ?_, fun _ => ?_⟩
    · rw [i64_le, hz, show (0 : Int64).toInt = 0 from by decide]; omega
    · have e2 : lN a - lN b + 2147483647 = lN (a + (PR - b)) := by
        apply Int64.toInt_inj.mp
        rw [Int64.toInt_add, hz, pk_lT (show a + (PR - b) < 2 ^ 63 by omega), show (2147483647 : Int64).toInt = 2147483647 from by decide]
        simp only [Int.bmod]
        split <;> omega
      rw [e2]; exact hq
/-- an int's number -/
def numI (z : Int) : Nat := (z % 2147483647).toNat
theorem sp_modI {r : Int32} {Q : Int64 → Prop} (h1 : -2147483647 < r.toInt) (h2 : r.toInt < 2147483647) (hq : Q (lN (numI r.toInt))) : wp_X8_mod r.toInt64 Q := by
  have hz : r.toInt64.toInt = r.toInt := Int32.toInt_toInt64 r
  rintro _ rfl
  rw [l_div0 (by omega) (by omega)]
  refine ⟨fun z => ?_, fun z => ?_⟩
  · rw [i64_le, hz, show (0 : Int64).toInt = 0 from by decide] at z
    have e : r.toInt64 = lN (numI r.toInt) := by
      apply Int64.toInt_inj.mp
      unfold numI
      rw [hz, pk_lT (by omega)]
      omega
    rw [e]; exact hq
  · rw [i64_le, hz, show (0 : Int64).toInt = 0 from by decide] at z
    have e : r.toInt64 + 2147483647 = lN (numI r.toInt) := by
      apply Int64.toInt_inj.mp
      unfold numI
      rw [Int64.toInt_add, hz, show (2147483647 : Int64).toInt = 2147483647 from by decide, pk_lT (by omega)]
      simp only [Int.bmod]
      split <;> omega
    rw [e]; exact hq
theorem numI_lt {z : Int} : numI z < PR := by
  have hP : PR = 2147483647 := rfl
  unfold numI; omega
/-- the number of a fraction -/
def partN (up down : Int) : Nat := numI up * nv down.toNat % PR
theorem sp_partOf {u v : Int32} {Q : Int64 → Prop} (hu1 : -9999 ≤ u.toInt) (hu2 : u.toInt ≤ 9999) (hv1 : 1 ≤ v.toInt) (hv2 : v.toInt ≤ 9999) (hq : Q (lN (partN u.toInt v.toInt))) : wp_X8_partOf u v Q := by
  have hP : PR = 2147483647 := rfl
  refine sp_modI (by omega) (by omega) ?_
  have e : v.toInt64 = lN v.toInt.toNat := by
    apply Int64.toInt_inj.mp
    rw [Int32.toInt_toInt64, pk_lT (by omega)]
    omega
  rw [e]
  refine sp_inverted (by omega) ?_
  rw [rl_mul numI_lt (nv_lt (by omega))]
  exact hq
def isP (u v : Int32) : Prop := -9999 ≤ u.toInt ∧ u.toInt ≤ 9999 ∧ 1 ≤ v.toInt ∧ v.toInt ≤ 9999
theorem sp_inI {r : Int32} {a b : Int64} {Q : Int32 → Prop} (h1 : a.toInt ≤ r.toInt → r.toInt ≤ b.toInt → Q 1) (h0 : ¬ (a.toInt ≤ r.toInt ∧ r.toInt ≤ b.toInt) → Q 0) : wp_X8_in r.toInt64 a b Q := by
  refine sp_in ?_
  by_cases h : a ≤ r.toInt64 ∧ r.toInt64 ≤ b
  · rw [if_pos h]
    rw [i64_le, i64_le, Int32.toInt_toInt64] at h
    exact h1 h.1 h.2
  · rw [if_neg h]
    rw [i64_le, i64_le, Int32.toInt_toInt64] at h
    exact h0 h
theorem sm_isPart {u v : Int32} {Q : Int32 → Prop} (h1 : isP u v → Q 1) (h0 : ¬ isP u v → Q 0) : wp_X8_isPart u v Q := by
  have e1 : ((-9999) : Int64).toInt = -9999 := by decide
  have e2 : (9999 : Int64).toInt = 9999 := by decide
  have e3 : (1 : Int64).toInt = 1 := by decide
  refine sp_inI (fun a1 a2 => ⟨fun z => absurd z (by decide), fun _ => ?_⟩) (fun hn => ⟨fun _ => h0 (fun z => hn ?_), fun z => absurd rfl z⟩)
  · refine sp_inI (fun b1 b2 => ⟨fun z => absurd z (by decide), fun _ => h1 ?_⟩) (fun hn => ⟨fun _ => h0 (fun z => hn ?_), fun z => absurd rfl z⟩)
    · rw [e1] at a1; rw [e2] at a2 b2; rw [e3] at b1
      exact ⟨a1, a2, b1, b2⟩
    · rw [e3, e2]; exact ⟨z.2.2.1, z.2.2.2⟩
  · rw [e1, e2]; exact ⟨z.1, z.2.1⟩
