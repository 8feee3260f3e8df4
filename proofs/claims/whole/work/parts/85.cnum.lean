/-! the class's numbers, in Nat -/
theorem PR_31 {a : Nat} (h : a < PR) : a < 2 ^ 31 := by
  have : PR = 2147483647 := rfl
  omega
theorem cn_product {a b : Nat} {Q : Int32 → Prop} (ha : a < PR) (hb : b < PR) (hq : Q (nI (a * b % PR))) : wp_X3_product (nI a) (nI b) Q := by
  unfold wp_X3_product
  rw [nI_l (PR_31 ha), nI_l (PR_31 hb), rl_mul ha hb, lN_i]
  exact hq
theorem cn_more {r a b : Nat} {Q : Int32 → Prop} (hr : r < PR) (ha : a < PR) (hb : b < PR) (hq : Q (nI ((r + a * b) % PR))) : wp_X3_productMore (nI r) (nI a) (nI b) Q := by
  unfold wp_X3_productMore
  rw [nI_l (PR_31 hr), nI_l (PR_31 ha), nI_l (PR_31 hb), rl_add hr ha hb, lN_i]
  exact hq
theorem i_sub {a b : Nat} (ha : a < 2 ^ 31) (hb : b < 2 ^ 31) : (nI a - nI b).toInt = (a : Int) - b := by
  rw [Int32.toInt_sub, nI_toInt ha, nI_toInt hb]
  simp only [Int.bmod]
  split <;> omega
theorem i_subP {a b : Nat} (ha : a < PR) (hb : b ≤ PR) (h : a < b) : nI a - nI b + 2147483647 = nI (a + (PR - b)) := by
  have hP : PR = 2147483647 := rfl
  apply Int32.toInt_inj.mp
  rw [Int32.toInt_add, i_sub (by omega) (by omega), show (2147483647 : Int32).toInt = 2147483647 from by decide, nI_toInt (by omega)]
  simp only [Int.bmod]
  split <;> omega
theorem cn_minus {a b : Nat} {Q : Int32 → Prop} (ha : a < PR) (hb : b < PR) (hq : Q (nI ((a + (PR - b)) % PR))) : wp_X3_minus (nI a) (nI b) Q := by
  have hP : PR = 2147483647 := rfl
  have hi := i_sub (PR_31 ha) (PR_31 hb)
  rintro _ rfl
  by_cases h : b ≤ a
  · have e : (a + (PR - b)) % PR = a - b := by
      rw [show a + (PR - b) = (a - b) + PR by omega, Nat.add_mod_right, Nat.mod_eq_of_lt (by omega)]
    rw [e] at hq
    rw [pk_sub h]
    exact ⟨fun _ => hq, fun z => absurd (nI_pos' (by omega)) z⟩
  · have e : (a + (PR - b)) % PR = a + (PR - b) := Nat.mod_eq_of_lt (by omega)
    rw [e] at hq
    refine ⟨fun z => ?_, fun _ => ?_⟩
    · rw [i32_le, hi, show (0 : Int32).toInt = 0 from by decide] at z
      omega
    · rw [i_subP ha (by omega) (by omega)]
      exact hq
theorem cn_plus {a b : Nat} {Q : Int32 → Prop} (ha : a < PR) (hb : b < PR) (hq : Q (nI ((a + b) % PR))) : wp_X3_plus (nI a) (nI b) Q := by
  have hP : PR = 2147483647 := rfl
  have e0 : (2147483647 : Int32) - nI b = nI (PR - b) := by
    rw [show (2147483647 : Int32) = nI 2147483647 from by decide, pk_sub (by omega)]
  have hi := i_sub (a := a) (b := PR - b) (PR_31 ha) (by omega)
  unfold wp_X3_plus
  rw [e0]
  rintro _ rfl
  by_cases h : PR - b ≤ a
  · have e : (a + b) % PR = a - (PR - b) := by
      rw [show a + b = (a - (PR - b)) + PR by omega, Nat.add_mod_right, Nat.mod_eq_of_lt (by omega)]
    rw [e] at hq
    rw [pk_sub h]
    exact ⟨fun _ => hq, fun z => absurd (nI_pos' (by omega)) z⟩
  · have e : (a + b) % PR = a + (PR - (PR - b)) := by
      rw [show PR - (PR - b) = b by omega]; exact Nat.mod_eq_of_lt (by omega)
    rw [e] at hq
    refine ⟨fun z => ?_, fun _ => ?_⟩
    · rw [i32_le, hi, show (0 : Int32).toInt = 0 from by decide] at z
      omega
    · rw [i_subP ha (by omega) (by omega)]
      exact hq
theorem sh31 : ∀ i, i < 31 → ((nI i &&& 31).toBitVec.smod 32).toNat = i := by decide
theorem shb31 {c i : Nat} (hc : c < 2 ^ 31) (hi : i < 31) : (nI c >>> (nI i &&& 31)) &&& 1 = nI (c / 2 ^ i % 2) := by
  rw [pk_shrN hc _ i (sh31 i hi)]
  have : c / 2 ^ i ≤ c := Nat.div_le_self _ _
  exact pk_andN (show c / 2 ^ i < 2 ^ 32 by omega) 1 (by decide)
theorem cn_recip {a : Nat} {Q : Int32 → Prop} (ha : a < PR) (hq : Q (nI (nv a))) : wp_X3_reciprocal (nI a) Q := by
  have main : ∀ f i so sq, i + f = 31 → so < PR → sq < PR → nv a = pm f so sq (2147483645 / 2 ^ i) → wp_X3_reciprocal_10 Q (f + 1) 2147483645 (nI sq) (nI so) (nI i) := by
    intro f
    induction f with
    | zero =>
      intro i so sq hi h1 h2 he
      have : i = 31 := by omega
      subst this
      refine ⟨fun _ => ?_, fun z => absurd (by decide) z⟩
      rw [he] at hq
      exact hq
    | succ f ih =>
      intro i so sq hi h1 h2 he
      have hp : 0 < 2 ^ i := Nat.two_pow_pos i
      have hne : 2147483645 / 2 ^ i ≠ 0 := by
        have h30 : 2 ^ i ≤ 2 ^ 30 := Nat.pow_le_pow_right (by decide) (by omega)
        have := Nat.div_pos (show 2 ^ i ≤ 2147483645 by omega) hp
        omega
      have he' : nv a = pm f (if 2147483645 / 2 ^ i % 2 = 1 then so * sq % PR else so) (sq * sq % PR) (2147483645 / 2 ^ (i + 1)) := by
        rw [he]
        show (if 2147483645 / 2 ^ i = 0 then so else _) = _
        rw [if_neg hne, Nat.pow_succ, ← Nat.div_div_eq_div_mul]
      have step : ∀ so', so' < PR → nv a = pm f so' (sq * sq % PR) (2147483645 / 2 ^ (i + 1)) → wp_X3_reciprocal_33 (wp_X3_reciprocal_10 Q (f + 1)) Q 2147483645 (nI sq) (nI so') (nI i) := by
        intro so' hs he2
        refine cn_product h2 h2 ?_
        rintro _ rfl
        rw [nI_1]
        exact ih (i + 1) so' _ (by omega) hs (Nat.mod_lt _ (by decide)) he2
      refine ⟨fun z => absurd z (by rw [show (31 : Int32) = nI 31 from rfl]; exact nI_ge (by omega) (by omega)), fun _ => ?_⟩
      rw [show (2147483645 : Int32) = nI 2147483645 from by decide, shb31 (by decide) (by omega)]
      refine ⟨fun hz => ?_, fun hz => ?_⟩
      · have e : ¬ 2147483645 / 2 ^ i % 2 = 1 := fun q => hz (by rw [q]; rfl)
        rw [if_neg e] at he'
        exact step so h1 he'
      · have e : 2147483645 / 2 ^ i % 2 = 1 := (nI_eq (by omega) (by decide)).mp (show nI (2147483645 / 2 ^ i % 2) = nI 1 from hz)
        rw [if_pos e] at he'
        exact cn_product h1 h2 (step _ (Nat.mod_lt _ (by decide)) he')
  exact ⟨32, main 31 0 1 a (by decide) (by decide) ha rfl⟩
theorem i_xor {x : Int32} {m : Nat} (hm : m < 2 ^ 31) : (0 ≤ (x ^^^ nI m) ↔ 0 ≤ x.toInt) := by
  rw [i32_le, show (0 : Int32).toInt = 0 from by decide]
  have h1 : (x ^^^ nI m).toBitVec.msb = x.toBitVec.msb := by
    rw [Int32.toBitVec_xor, BitVec.msb_xor]
    have : (nI m).toBitVec.msb = false := by
      rw [BitVec.msb_eq_toInt]
      have h2 : (nI m).toBitVec.toInt = m := nI_toInt hm
      rw [h2]
      exact decide_eq_false (by omega)
    rw [this, Bool.xor_false]
  rw [BitVec.msb_eq_toInt, BitVec.msb_eq_toInt] at h1
  have h3 : ((x ^^^ nI m).toBitVec.toInt < 0) ↔ (x.toBitVec.toInt < 0) := by
    constructor
    · intro q
      have := h1 ▸ decide_eq_true q
      exact of_decide_eq_true this
    · intro q
      have := h1.symm ▸ decide_eq_true q
      exact of_decide_eq_true this
  show 0 ≤ (x ^^^ nI m).toBitVec.toInt ↔ 0 ≤ x.toBitVec.toInt
  omega
theorem i_rem {x : Int32} {m : Nat} (h0 : 0 < m) (hm : m < 2 ^ 31) : (xr_remI x (nI m)).toInt = x.toInt.tmod m := by
  have hmi : (nI m).toInt = m := nI_toInt hm
  have hne : nI m ≠ -1 := fun e => by
    have := congrArg Int32.toInt e
    rw [hmi, show ((-1) : Int32).toInt = -1 from by decide] at this
    omega
  have l1 : x.toInt.tmod m < m := Int.tmod_lt_of_pos _ (by omega)
  have l2 : -(m : Int) < x.toInt.tmod m := by
    have := Int.lt_tmod_of_pos x.toInt (show (0 : Int) < m by omega)
    omega
  show (x - x / nI m * nI m).toInt = _
  rw [Int32.toInt_sub, Int32.toInt_mul, Int32.toInt_div_of_ne_right _ _ hne, hmi, Int.sub_bmod_bmod, Int.mul_comm, ← Int.tmod_def]
  simp only [Int.bmod]
  split <;> omega
theorem cn_floorMod {x : Int32} {m : Nat} {Q : Int32 → Prop} (h0 : 0 < m) (hm : m < 2 ^ 31) (hq : Q (nI (x.toInt % m).toNat)) : wp_J9_floorMod_7cf53 x (nI m) Q := by
  have l3 : x.toInt % (m : Int) < m := Int.emod_lt_of_pos _ (by omega)
  have l4 : 0 ≤ x.toInt % (m : Int) := Int.emod_nonneg _ (by omega)
  have hr := i_rem (x := x) h0 hm
  have ht : x.toInt.tmod m = x.toInt % m - if 0 ≤ x.toInt ∨ (m : Int) ∣ x.toInt then 0 else (m : Int) := by
    have := Int.tmod_eq_emod (a := x.toInt) (b := (m : Int))
    rw [this]
    by_cases z : 0 ≤ x.toInt ∨ (m : Int) ∣ x.toInt
    · rw [if_pos z, if_pos z]; rfl
    · rw [if_neg z, if_neg z]; rfl
  have fin : ∀ y : Int32, y.toInt = x.toInt % m → Q y := by
    intro y hy
    have : y = nI (x.toInt % m).toNat := by
      apply Int32.toInt_inj.mp
      rw [hy, nI_toInt (by omega)]
      omega
    rw [this]
    exact hq
  refine ⟨nI_ne h0 hm, ?_⟩
  rintro _ rfl
  rw [i_xor hm]
  refine ⟨fun hp => fin _ ?_, fun hn => ⟨fun hz => fin _ ?_, fun hz => fin _ ?_⟩⟩
  · rw [hr, ht, if_pos (Or.inl hp), Int.sub_zero]
  · have e0 := congrArg Int32.toInt hz
    rw [hr, show (0 : Int32).toInt = 0 from by decide] at e0
    rw [hr]
    by_cases z : 0 ≤ x.toInt ∨ (m : Int) ∣ x.toInt
    · rw [ht, if_pos z, Int.sub_zero]
    · rw [if_neg z] at ht
      omega
  · have e0 : ¬ x.toInt.tmod m = 0 := fun q => hz (Int32.toInt_inj.mp (by rw [hr, q]; decide))
    by_cases z : 0 ≤ x.toInt ∨ (m : Int) ∣ x.toInt
    · exfalso
      rcases z with z | z
      · exact hn z
      · rw [if_pos (Or.inr z), Int.emod_eq_zero_of_dvd z] at ht
        omega
    · rw [if_neg z] at ht
      rw [Int32.toInt_add, hr, nI_toInt hm]
      simp only [Int.bmod]
      split <;> omega
theorem cn_ratio {u v : Int32} {Q : Int32 → Prop} (hv1 : 1 ≤ v.toInt) (hv2 : v.toInt ≤ 9999) (hq : Q (nI (partN u.toInt v.toInt))) : wp_X3_ratio u v Q := by
  obtain ⟨b, hb, rfl⟩ := nI_of (x := v) (by rw [i32_lt, show (0 : Int32).toInt = 0 from by decide]; omega)
  rw [nI_i hb] at hv1 hv2 hq
  have hP : PR = 2147483647 := rfl
  refine cn_floorMod (m := 2147483647) (by decide) (by decide) ?_
  refine cn_recip (by omega) ?_
  have h1 : (u.toInt % ((2147483647 : Nat) : Int)).toNat < PR := by
    have : u.toInt % ((2147483647 : Nat) : Int) < 2147483647 := Int.emod_lt_of_pos _ (by decide)
    omega
  refine cn_product h1 (nv_lt (by omega)) ?_
  unfold partN numI at hq
  rw [show ((b : Int)).toNat = b from rfl] at hq
  exact hq
theorem cn_near {a : Nat} {Q : Int32 → Prop} (ha : a < PR) (hq : Q (nrI a)) : wp_X3_nearNought (nI a) Q := by
  unfold nrI at hq
  refine ⟨fun h => ?_, fun h => ?_⟩
  · have : a ≤ 1073741823 := (nI_leI (PR_31 ha) (by decide)).mp (show nI a ≤ nI 1073741823 from h)
    rw [if_pos this] at hq; exact hq
  · have : ¬ a ≤ 1073741823 := fun z => h (nI_le z (by decide) : nI a ≤ nI 1073741823)
    rw [if_neg this] at hq; exact hq
