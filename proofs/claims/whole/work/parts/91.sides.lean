/-! the class's lengthOf and findSides, in numbers -/
theorem cp_lengthOf {L d n v : Nat} {Ln : Nat → Nat} {S : cs_T} {Q : Int32 → cs_T → Prop} (h : cw_ok L d Ln S) (hn : n ≤ d) (hv : v < L ^ n) (hq : Q (nI n) S) : wp_X6_lengthOf Ln S (nI (ofs L n + v)) Q := by
  have hcf := h.1
  have hd := cf_d hcf
  have hw := cf_w hcf hn hv
  have main : ∀ f m, m + f = d → wp_X6_lengthOf_4 Ln Q (f + 1) S (nI (ofs L n + v)) (nI (if m ≤ n then m else n)) (nI (m + 1)) := by
    intro f
    induction f with
    | zero =>
      intro m hm
      have : m = d := by omega
      subst this
      have e : (if m ≤ n then m else n) = n := by
        by_cases z : m ≤ n
        · rw [if_pos z]; omega
        · rw [if_neg z]
      rw [e]
      exact ⟨fun _ => hq, fun z => absurd (by rw [h.2.2.1]; exact nI_lt (by omega) (by omega)) z⟩
    | succ f ih =>
      intro m hm
      have hall := cf_all hcf
      have hle : ofs L (m + 1) ≤ ofs L (d + 1) := ofs_mono (by omega)
      have hi := ih (m + 1) (by omega)
      refine ⟨fun z => absurd z (by rw [h.2.2.1]; exact nI_nlt (by omega) (by omega)), fun _ => ⟨by rw [h.2.2.2.2.1]; exact vp_in_nI (by omega) (by omega), ?_⟩⟩
      rw [cw_s h (by omega)]
      refine ⟨fun z => ?_, fun z => ?_⟩
      · have hlt : ofs L n + v < ofs L (m + 1) := (nI_ltI (by omega) (by omega)).mp z
        have hmn : n ≤ m := by
          by_cases y : n ≤ m
          · exact y
          · have : ofs L (m + 1) ≤ ofs L n := ofs_mono (by omega)
            omega
        rintro _ rfl
        rw [nI_1]
        have e : (if m ≤ n then m else n) = if m + 1 ≤ n then m + 1 else n := by
          rw [if_neg (show ¬ m + 1 ≤ n by omega)]
          by_cases y : m ≤ n
          · rw [if_pos y]; omega
          · rw [if_neg y]
        rw [e]
        exact hi
      · have hge : ¬ ofs L n + v < ofs L (m + 1) := fun q => z (nI_lt q (by omega))
        have hmn : m + 1 ≤ n := by
          by_cases y : m + 1 ≤ n
          · exact y
          · have h1 : ofs L (n + 1) ≤ ofs L (m + 1) := ofs_mono (by omega)
            have h2 : ofs L (n + 1) = ofs L n + L ^ n := rfl
            omega
        rintro _ rfl
        rw [nI_1]
        rw [if_pos hmn] at hi
        exact hi
  have h0 := main d 0 (by omega)
  rw [if_pos (Nat.zero_le _)] at h0
  exact ⟨_, h0⟩
def k2 : Nat → Prop := fun k => k = 34 ∨ k = 35
theorem cp_findSides {L d n v C : Nat} {Ln : Nat → Nat} {S : cs_T} {Q : cs_T → Prop} (h : cw_ok L d Ln S) (h33 : Ln 33 = C) (h34 : Ln 34 = C) (h35 : Ln 35 = C) (h46 : Ln 46 = ofs L (d + 1)) (hC : C ≤ 98) (h1 : 1 ≤ n) (hn : n ≤ d) (hv : v < L ^ n) (hc : chf L n v = true) (hi : cnt L d (ofs L n + v) < C) (hw : S.2.1 33 (cnt L d (ofs L n + v)) = nI (ofs L n + v)) (hnu : ∀ u, u < ofs L (d + 1) → S.2.1 46 u = if cfP L d u = true then nI (cnt L d u) else -1)
    (hq : ∀ S', upK k2 S S' → (∀ j, j ≠ cnt L d (ofs L n + v) → S'.2.1 34 j = S.2.1 34 j ∧ S'.2.1 35 j = S.2.1 35 j) → S'.2.1 34 (cnt L d (ofs L n + v)) = sideI L d n v 0 → S'.2.1 35 (cnt L d (ofs L n + v)) = sideI L d n v 1 → Q S') : wi_X1_findSides Ln S (nI (cnt L d (ofs L n + v))) Q := by
  have hcf := h.1
  have hL := cf_L hcf
  have hd := cf_d hcf
  have hall := cf_all hcf
  have n34 : k2 34 := Or.inl rfl
  have n35 : k2 35 := Or.inr rfl
  have z0 : ¬ k2 0 := by unfold k2; omega
  have z1 : ¬ k2 1 := by unfold k2; omega
  have z33 : ¬ k2 33 := by unfold k2; omega
  have z46 : ¬ k2 46 := by unfold k2; omega
  have hpw := cf_w hcf hn hv
  obtain ⟨i, hie⟩ : ∃ i, i = cnt L d (ofs L n + v) := ⟨_, rfl⟩
  rw [← hie] at hi hw hq ⊢
  have hnum : ∀ m u, 1 ≤ m → m ≤ d → u < L ^ m → S.2.1 46 (ofs L m + u) = if chf L m u = true then nI (cnt L d (ofs L m + u)) else -1 := fun m u a b c => by
    rw [hnu _ (ofs_all b c), cfP_of a b c]
  obtain ⟨S0, hS0⟩ : ∃ S0, S0 = cs_sI (cs_sI S 34 i (-1)) 35 i (-1) := ⟨_, rfl⟩
  have hu0 : upK k2 S S0 := by rw [hS0]; exact upK_tr (upK_sI n34) (upK_sI n35)
  have hw0 := cw_up h hu0 z0 z1
  have e35 : S0.2.1 35 i = -1 := by rw [hS0, cI_g, if_pos rfl, if_pos rfl]
  have e34 : S0.2.1 34 i = -1 := by rw [hS0, cI_r (by decide), cI_g, if_pos rfl, if_pos rfl]
  have ej : ∀ j, j ≠ i → S0.2.1 34 j = S.2.1 34 j ∧ S0.2.1 35 j = S.2.1 35 j := fun j hj => by
    rw [hS0]
    refine ⟨?_, ?_⟩
    · rw [cI_r (by decide), cI_g, if_pos rfl, if_neg hj]
    · rw [cI_g, if_pos rfl, if_neg hj, cI_r (by decide)]
  unfold wi_X1_findSides
  rw [h33, h34, h35, nI_clamp (show i < 2 ^ 31 by omega), ← hS0, hu0.2.2 33 z33, hw]
  refine ⟨vp_in_nI hi (by omega), vp_in_nI hi (by omega), vp_in_nI hi (by omega), ?_⟩
  refine cp_lengthOf hw0 hn hv ⟨vp_in_nI hi (by omega), by rw [hw0.2.2.2.2.1]; exact vp_in_nI (by omega) (by omega), ?_⟩
  rw [hu0.2.2 33 z33, hw, cw_s hw0 (by omega), pk_sub (by omega), Nat.add_sub_cancel_left]
  rintro _ rfl _ rfl
  by_cases hn1 : n = 1
  · subst hn1
    refine ⟨1, fun _ => hq S0 hu0 ej ?_ ?_, fun z => absurd (by decide) z⟩
    · rw [e34]; rfl
    · rw [e35]; rfl
  · have h2 : 2 ≤ n := by omega
    obtain ⟨q1, q2, q3, q4⟩ := sd_spec (L := L) (v := v) h2
    have q5 := std_ok hcf h2 hn hv hc
    have s0 : sideI L d n v 0 = nI (cnt L d (lfP L n v)) := by unfold sideI; rw [if_neg hn1, if_pos rfl]
    have s1 : sideI L d n v 1 = nI (cnt L d (rgP L n v)) := by unfold sideI; rw [if_neg hn1, if_neg (by decide)]
    have main : ∀ f e, e = n - sd L n v + f → e ≤ n - 1 → wi_X1_findSides_51 Ln Q (f + 2) S0 (nI i) (nI n) (nI v) (nI e) := by
      intro f
      induction f with
      | zero =>
        intro e he hen
        have he' : e = n - sd L n v := by omega
        subst he'
        have pe := cf_pow hcf (show n - sd L n v ≤ d by omega)
        have hve : v % L ^ (n - sd L n v) < L ^ (n - sd L n v) := Nat.mod_lt _ pe.1
        have hvb : v / L ^ (n - sd L n v) < L ^ sd L n v := div_pow_lt (by omega) (by omega) hv
        have he1 := ofs_all (L := L) (show n - sd L n v ≤ d by omega) hve
        have hb1 := ofs_all (L := L) (show sd L n v ≤ d by omega) hvb
        have pn := cf_pow hcf hn
        have c1 : cnt L d (ofs L (n - sd L n v) + v % L ^ (n - sd L n v)) ≤ 98 := cnt_99 hcf (Nat.le_of_lt he1)
        refine ⟨fun z => absurd z (by rw [show (1 : Int32) = nI 1 from rfl]; exact nI_nlt (by omega) (by omega)), fun _ => ?_⟩
        rw [h35, nI_clamp (show i < 2 ^ 31 by omega), e35]
        refine ⟨vp_in_nI hi (by omega), fun z => absurd rfl z, fun _ => ?_⟩
        rw [cw_s hw0 (by omega), cw_p hw0 (by omega), ri_rem (by omega) (by omega) (by omega), nI_add, h46, hw0.2.2.2.2.1, hw0.2.2.2.1, nI_clamp (show ofs L (n - sd L n v) + v % L ^ (n - sd L n v) < 2 ^ 31 by omega), hu0.2.2 46 z46, hnum _ _ (by omega) (by omega) hve, if_pos q3]
        refine ⟨vp_in_nI (by omega) (by omega), vp_in_nI (by omega) (by omega), nI_ne (by omega) (by omega), vp_in_nI he1 (by omega), ?_⟩
        rintro _ rfl
        refine ⟨fun z => absurd z (nI_m1 (by omega)), fun _ => ?_⟩
        rw [pk_sub (show n - sd L n v ≤ n by omega), show n - (n - sd L n v) = sd L n v by omega]
        obtain ⟨S1, hS1⟩ : ∃ S1, S1 = cs_sI S0 35 i (nI (cnt L d (ofs L (n - sd L n v) + v % L ^ (n - sd L n v)))) := ⟨_, rfl⟩
        rw [← hS1]
        have hu1 : upK k2 S S1 := by rw [hS1]; exact upK_tr hu0 (upK_sI n35)
        have hw1 := cw_up h hu1 z0 z1
        rw [cw_p hw1 (by omega), cw_s hw1 (by omega), pk_div (by omega) (by omega) (by omega), nI_add, nI_clamp (show ofs L (sd L n v) + v / L ^ (n - sd L n v) < 2 ^ 31 by have := Nat.zero_le (v / L ^ (n - sd L n v)); omega), h34, hu1.2.2 46 z46, hnum _ _ q1 (by omega) hvb, if_pos q5]
        refine ⟨vp_in_nI hi (by omega), vp_in_nI (by omega) (by omega), vp_in_nI (by omega) (by omega), nI_ne (by omega) (by omega), vp_in_nI hb1 (by omega), vp_in_nI hi (by omega), ?_⟩
        rintro _ rfl
        obtain ⟨S2, hS2⟩ : ∃ S2, S2 = cs_sI S1 34 i (nI (cnt L d (ofs L (sd L n v) + v / L ^ (n - sd L n v)))) := ⟨_, rfl⟩
        rw [← hS2]
        have hu2 : upK k2 S S2 := by rw [hS2]; exact upK_tr hu1 (upK_sI n34)
        have f35 : S2.2.1 35 i = nI (cnt L d (ofs L (n - sd L n v) + v % L ^ (n - sd L n v))) := by rw [hS2, cI_r (by decide), hS1, cI_g, if_pos rfl, if_pos rfl]
        have f34 : S2.2.1 34 i = nI (cnt L d (ofs L (sd L n v) + v / L ^ (n - sd L n v))) := by rw [hS2, cI_g, if_pos rfl, if_pos rfl]
        have fj : ∀ j, j ≠ i → S2.2.1 34 j = S.2.1 34 j ∧ S2.2.1 35 j = S.2.1 35 j := fun j hj => by
          rw [hS2]
          refine ⟨?_, ?_⟩
          · rw [cI_g, if_pos rfl, if_neg hj, hS1, cI_r (by decide)]; exact (ej j hj).1
          · rw [cI_r (by decide), hS1, cI_g, if_pos rfl, if_neg hj]; exact (ej j hj).2
        have fin := hq S2 hu2 fj (by rw [f34, s0]; rfl) (by rw [f35, s1]; rfl)
        refine ⟨fun _ => fin, fun _ => ⟨by rw [h35]; exact vp_in_nI hi (by omega), fun _ => fin, fun z => ?_⟩⟩
        rw [nI_clamp (show i < 2 ^ 31 by omega), f35] at z
        exact absurd z (nI_m1 (by omega))
      | succ f ih =>
        intro e he hen
        have pe := cf_pow hcf (show e ≤ d by omega)
        have hve : v % L ^ e < L ^ e := Nat.mod_lt _ pe.1
        have he1 := ofs_all (L := L) (show e ≤ d by omega) hve
        have pn := cf_pow hcf hn
        have hno : chf L e (v % L ^ e) = false := by
          have := q4 (n - e) (by omega) (by omega)
          rw [show n - (n - e) = e by omega] at this
          exact this
        refine ⟨fun z => absurd z (by rw [show (1 : Int32) = nI 1 from rfl]; exact nI_nlt (by omega) (by omega)), fun _ => ?_⟩
        rw [h35, nI_clamp (show i < 2 ^ 31 by omega), e35]
        refine ⟨vp_in_nI hi (by omega), fun z => absurd rfl z, fun _ => ?_⟩
        rw [cw_s hw0 (by omega), cw_p hw0 (by omega), ri_rem (by omega) (by omega) (by omega), nI_add, h46, hw0.2.2.2.2.1, hw0.2.2.2.1, nI_clamp (show ofs L e + v % L ^ e < 2 ^ 31 by omega), hu0.2.2 46 z46, hnum _ _ (by omega) (by omega) hve, if_neg (by rw [hno]; decide)]
        refine ⟨vp_in_nI (by omega) (by omega), vp_in_nI (by omega) (by omega), nI_ne (by omega) (by omega), vp_in_nI he1 (by omega), ?_⟩
        rintro _ rfl
        refine ⟨fun _ => ?_, fun z => absurd rfl z⟩
        rintro _ rfl
        obtain ⟨t, rfl⟩ : ∃ t, e = t + 1 := ⟨e - 1, by omega⟩
        rw [pk_m1]
        exact ih t (by omega) (by omega)
    refine ⟨sd L n v - 1 + 2, ?_⟩
    rw [show (1 : Int32) = nI 1 from rfl, pk_sub (show 1 ≤ n by omega)]
    exact main (sd L n v - 1) (n - 1) (by omega) (Nat.le_refl _)
