/-! the reference's fraction -/
def frN (a w : Nat) : Nat → Nat → Int32
  | 0, _ => -2147483648
  | f + 1, q => if a * q % PR ≤ 1000000 then (if w = 0 then nI (a * q % PR) else nI q) else if a * q % PR < 2146483647 then frN a w f (q + 1) else (if w = 0 then nI (a * q % PR) - nI PR else nI q)
theorem sm_fraction {S : ms_T} {r k : Int32} {Q : Int32 → ms_T → Prop} (hno : ¬ (0 ≤ r.toInt ∧ r.toInt ≤ 2147483646 ∧ 0 ≤ k.toInt ∧ k.toInt ≤ 1) → Q (-2147483648) S) (hq : ∀ a w, a < PR → w < 2 → r = nI a → k = nI w → Q (frN a w 1000 1) S) : wp_X8_fraction S r k Q := by
  have hP : PR = 2147483647 := rfl
  have e0 : (0 : Int64).toInt = 0 := by decide
  have e1 : (1 : Int64).toInt = 1 := by decide
  have e2 : (2147483646 : Int64).toInt = 2147483646 := by decide
  have z0 : (0 : Int32).toInt = 0 := by decide
  refine sp_inI (fun a1 a2 => ⟨fun z => absurd z (by decide), fun _ => ?_⟩) (fun hn => ⟨fun _ => hno (fun z => hn (by rw [e0, e2]; exact ⟨z.1, z.2.1⟩)), fun z => absurd rfl z⟩)
  refine sp_inI (fun b1 b2 => ⟨fun _ => ?_, fun z => absurd z (by decide)⟩) (fun hn => ⟨fun z => absurd rfl z, fun _ => hno (fun z => hn (by rw [e0, e1]; exact z.2.2))⟩)
  rw [e0] at a1 b1
  rw [e2] at a2
  rw [e1] at b2
  obtain ⟨a, ha31, rfl⟩ := nI_of (x := r) (by rw [i32_lt, z0]; omega)
  obtain ⟨w, hw31, rfl⟩ := nI_of (x := k) (by rw [i32_lt, z0]; omega)
  rw [nI_i ha31] at a2
  rw [nI_i hw31] at b2
  have ha : a < PR := by omega
  have hw : w < 2 := by omega
  have main : ∀ f q, q + f = 1001 → 1 ≤ q → frN a w f q = frN a w 1000 1 → wp_X8_fraction_27 Q (f + 1) S (nI a) (nI w) (nI q) := by
    intro f
    induction f with
    | zero =>
      intro q hf h1 he
      have : q = 1001 := by omega
      subst this
      refine ⟨fun _ => ?_, fun z => absurd (by decide) z⟩
      have := hq a w ha hw rfl rfl
      rw [← he] at this
      exact this
    | succ f ih =>
      intro q hf h1 he
      have hlt : a * q % PR < PR := Nat.mod_lt _ (by decide)
      have hres := hq a w ha hw rfl rfl
      rw [← he] at hres
      unfold frN at hres he
      have hwz : nI w = 0 ↔ w = 0 := nI_eq (b := 0) (by omega) (by decide)
      refine ⟨fun z => absurd z ?_, fun _ => ?_⟩
      · rw [show (1000 : Int32) = nI 1000 from rfl]; exact nI_nlt (by omega) (by decide)
      · rintro _ rfl
        rw [nI_64 (show a < 2 ^ 31 by omega), nI_64 (show q < 2 ^ 31 by omega), rl_mul ha (by omega), show (1000000 : Int64) = lN 1000000 from rfl, show (2146483647 : Int64) = lN 2146483647 from rfl, pk_lLT (by omega) (by omega), pk_lLT (by omega) (by omega), hwz]
        refine ⟨fun c1 => ⟨fun c2 => ?_, fun c2 => ?_⟩, fun c1 => ?_⟩
        · rintro _ rfl
          rw [nI_1]
          rw [if_neg (by omega), if_pos c2] at he
          exact ih (q + 1) (by omega) (by omega) he
        · rw [if_neg (by omega), if_neg c2] at hres
          refine ⟨fun c3 => ?_, fun c3 => ?_⟩
          · rw [if_neg c3] at hres; exact hres
          · rw [if_pos c3] at hres
            have e3 : (lN (a * q % PR) - 2147483647).toInt32 = nI (a * q % PR) - nI PR := by
              rw [show (2147483647 : Int64) = lN PR from rfl, Int64.toInt32_sub, lN_i, lN_i]
            rw [e3]; exact hres
        · rw [if_pos (by omega)] at hres
          refine ⟨fun c3 => ?_, fun c3 => ?_⟩
          · rw [if_neg c3] at hres; exact hres
          · rw [if_pos c3] at hres
            rw [lN_i]; exact hres
  exact ⟨1001, main 1000 1 (by decide) (by decide) rfl⟩
theorem sm_unstep {S : ms_T} {Q : Int32 → ms_T → Prop} (hq : Q (S.1 4) (ms_sF S 4 0)) : wp_X8_unstep S Q := by
  rintro _ rfl
  exact hq
