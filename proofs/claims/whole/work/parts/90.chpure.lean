/-! the class's chiefs: spell, headLength, findChiefs, findSides, in numbers -/
theorem cI_g {S : cs_T} {k i k' j : Nat} {v : Int32} : (cs_sI S k i v).2.1 k' j = if k' = k then (if j = i then v else S.2.1 k j) else S.2.1 k' j := by
  unfold cs_sI va_up upd
  by_cases h : k' = k
  · rw [if_pos h]; simp [h]
  · rw [if_neg h]; simp [h]
theorem cI_r {S : cs_T} {k i k' : Nat} {v : Int32} (h : k' ≠ k) : (cs_sI S k i v).2.1 k' = S.2.1 k' := va_up_ne _ _ h
theorem cI_F {S : cs_T} {k i : Nat} {v : Int32} : (cs_sI S k i v).1 = S.1 := rfl
theorem cI_R {S : cs_T} {k i : Nat} {v : Int32} : (cs_sI S k i v).2.2 = S.2.2 := rfl
/-- letters, degree, powers and starts of the class -/
def cw_ok (L d : Nat) (Ln : Nat → Nat) (S : cs_T) : Prop := cf_ok L d ∧ S.1 2 = nI L ∧ S.1 3 = nI d ∧ Ln 0 = d + 1 ∧ Ln 1 = d + 2 ∧ (∀ n, n ≤ d → S.2.1 0 n = nI (L ^ n)) ∧ ∀ n, n ≤ d + 1 → S.2.1 1 n = nI (ofs L n)
/-- only arrays of these indices may differ -/
def upK (P : Nat → Prop) (S S' : cs_T) : Prop := S'.1 = S.1 ∧ S'.2.2 = S.2.2 ∧ ∀ k, ¬ P k → S'.2.1 k = S.2.1 k
theorem upK_rf {P : Nat → Prop} {S : cs_T} : upK P S S := ⟨rfl, rfl, fun _ _ => rfl⟩
theorem upK_tr {P : Nat → Prop} {S S1 S2 : cs_T} (h : upK P S S1) (h1 : upK P S1 S2) : upK P S S2 := ⟨h1.1.trans h.1, h1.2.1.trans h.2.1, fun k hk => (h1.2.2 k hk).trans (h.2.2 k hk)⟩
theorem upK_sI {P : Nat → Prop} {S : cs_T} {k i : Nat} {v : Int32} (h : P k) : upK P S (cs_sI S k i v) := ⟨rfl, rfl, fun j hj => cI_r (fun e => hj (e ▸ h))⟩
theorem upK_w {P P' : Nat → Prop} {S S' : cs_T} (h : upK P S S') (hp : ∀ k, P k → P' k) : upK P' S S' := ⟨h.1, h.2.1, fun k hk => h.2.2 k (fun z => hk (hp k z))⟩
theorem cw_up {L d : Nat} {Ln : Nat → Nat} {P : Nat → Prop} {S S' : cs_T} (h : cw_ok L d Ln S) (hu : upK P S S') (h0 : ¬ P 0) (h1 : ¬ P 1) : cw_ok L d Ln S' := by
  obtain ⟨u1, u2, u3⟩ := hu
  unfold cw_ok at h ⊢
  rw [u1, u3 0 h0, u3 1 h1]
  exact h
theorem cw_s {L d n : Nat} {Ln : Nat → Nat} {S : cs_T} (h : cw_ok L d Ln S) (hn : n ≤ d + 1) : S.2.1 1 (nI n).toNatClampNeg = nI (ofs L n) := by
  have := cf_d h.1
  rw [nI_clamp (by omega)]; exact h.2.2.2.2.2.2 n hn
theorem cw_p {L d n : Nat} {Ln : Nat → Nat} {S : cs_T} (h : cw_ok L d Ln S) (hn : n ≤ d) : S.2.1 0 (nI n).toNatClampNeg = nI (L ^ n) := by
  have := cf_d h.1
  rw [nI_clamp (by omega)]; exact h.2.2.2.2.2.1 n hn
theorem cp_spell {L d n v : Nat} {Ln : Nat → Nat} {S : cs_T} {Q : cs_T → Prop} (h : cw_ok L d Ln S) (h37 : Ln 37 = d) (hn : n ≤ d) (hv : v < L ^ n) (hq : ∀ S', upK (fun k => k = 37) S S' → (∀ i, i < n → S'.2.1 37 i = nI (ltr L n v i)) → Q S') : wp_X1_spell Ln S (nI (ofs L n + v)) (nI n) Q := by
  have hcf := h.1
  have hL := cf_L hcf
  have hd := cf_d hcf
  have hp := cf_pow hcf hn
  refine ⟨by rw [h.2.2.2.2.1]; exact vp_in_nI (by omega) (by omega), ?_⟩
  rw [cw_s h (by omega), pk_sub (by omega), Nat.add_sub_cancel_left]
  rintro _ rfl _ rfl
  have main : ∀ f j S1, j + f = n → upK (fun k => k = 37) S S1 → (∀ i, n - j ≤ i → i < n → S1.2.1 37 i = nI (ltr L n v i)) → wp_X1_spell_17 Ln Q (f + 1) S1 (nI (v / L ^ j)) (nI (n - j) - 1) := by
    intro f
    induction f with
    | zero =>
      intro j S1 hj hu hi
      have : j = n := by omega
      subst this
      exact ⟨fun _ => hq S1 hu (fun i hi' => hi i (by omega) hi'), fun z => absurd (by rw [Nat.sub_self]; decide) z⟩
    | succ f ih =>
      intro j S1 hj hu hi
      have hw := cw_up h hu (by decide) (by decide)
      have ek : nI (n - j) - 1 = nI (n - j - 1) := by
        obtain ⟨t, ht⟩ : ∃ t, n - j = t + 1 := ⟨n - j - 1, by omega⟩
        rw [ht]; exact nI_pred t
      have hvj : v / L ^ j ≤ v := Nat.div_le_self _ _
      rw [ek]
      refine ⟨fun z => absurd z (nI_pos (by omega)), fun _ => ?_⟩
      rw [cI_F, hw.2.1, ri_rem (by omega) (by omega) (by omega), pk_div (by omega) (by omega) (by omega), nI_clamp (by omega)]
      refine ⟨nI_ne (by omega) (by omega), by rw [h37]; exact vp_in_nI (by omega) (by omega), nI_ne (by omega) (by omega), ?_⟩
      rintro _ rfl _ rfl
      rw [Nat.div_div_eq_div_mul, ← Nat.pow_succ, show nI (n - j - 1) + (-1) = nI (n - (j + 1)) - 1 from by rw [show n - (j + 1) = n - j - 1 by omega]; exact (Int32.sub_eq_add_neg _ 1).symm]
      refine ih (j + 1) _ (by omega) (upK_tr hu (upK_sI rfl)) (fun i h1 h2 => ?_)
      rw [cI_g, if_pos rfl]
      by_cases z : i = n - j - 1
      · rw [if_pos z]
        unfold ltr
        rw [show n - 1 - i = j by omega]
      · rw [if_neg z]; exact hi i (by omega) h2
  have h0 := main n 0 S (by omega) upK_rf (fun i a b => by omega)
  rw [Nat.pow_zero, Nat.div_one, Nat.sub_zero] at h0
  exact ⟨_, h0⟩
/-- Duval's way: fuel, letters, the end, the beginning, the one compared, the next -/
def dvN (a : Nat → Nat) (to fr : Nat) : Nat → Nat → Nat → Nat
  | 0, c, n => n - c
  | f + 1, c, n => if to ≤ n then n - c else if a n < a c then n - c else if a n ≤ a c then dvN a to fr f (c + 1) (n + 1) else dvN a to fr f fr (n + 1)
def hdl (L n v : Nat) : Nat := dvN (ltr L n v) n 0 n 0 1
theorem cp_head {Ln : Nat → Nat} {S : cs_T} {Q : Int32 → cs_T → Prop} {a : Nat → Nat} {fr to : Nat} (ht : to ≤ Ln 37) (h31 : Ln 37 < 2 ^ 31) (hf : fr < to) (ha : ∀ i, fr ≤ i → i < to → S.2.1 37 i = nI (a i) ∧ a i < 2 ^ 31) (hq : Q (nI (dvN a to fr (to - fr) fr (fr + 1))) S) : wp_X1_headLength Ln S (nI fr) (nI to) Q := by
  unfold wp_X1_headLength
  rw [nI_1]
  rintro _ rfl
  obtain ⟨X, hX⟩ : ∃ X, X = dvN a to fr (to - fr) fr (fr + 1) := ⟨_, rfl⟩
  rw [← hX] at hq
  have main : ∀ f c n, fr ≤ c → c < n → n ≤ to → to ≤ n + f → X = dvN a to fr f c n → wp_X1_headLength_7 Ln Q (f + 1) S (nI fr) (nI to) (nI c) (nI n) := by
    intro f
    induction f with
    | zero =>
      intro c n h1 h2 h3 h4 he
      rw [he] at hq
      refine ⟨fun _ => ?_, fun z => absurd (nI_le (by omega) (by omega)) z⟩
      rw [pk_sub (by omega)]
      exact hq
    | succ f ih =>
      intro c n h1 h2 h3 h4 he
      unfold dvN at he
      refine ⟨fun z => ?_, fun z => ?_⟩
      · have : to ≤ n := (nI_leI (by omega) (by omega)).mp z
        rw [if_pos this] at he
        rw [he] at hq
        rw [pk_sub (by omega)]
        exact hq
      · have hn : ¬ to ≤ n := fun q => z (nI_le q (by omega))
        rw [if_neg hn] at he
        have an := ha n (by omega) (by omega)
        have ac := ha c (by omega) (by omega)
        rw [nI_clamp (show n < 2 ^ 31 by omega), nI_clamp (show c < 2 ^ 31 by omega), an.1, ac.1]
        refine ⟨vp_in_nI (by omega) h31, vp_in_nI (by omega) h31, fun y => ?_, fun y => ⟨vp_in_nI (by omega) h31, vp_in_nI (by omega) h31, fun x => ?_, fun x => ?_⟩⟩
        · have : a n < a c := (nI_ltI an.2 ac.2).mp y
          rw [if_pos this] at he
          rw [he] at hq
          rw [pk_sub (by omega)]
          exact hq
        · have y' : ¬ a n < a c := fun q => y (nI_lt q ac.2)
          have x' : a n ≤ a c := (nI_leI an.2 ac.2).mp x
          rw [if_neg y', if_pos x'] at he
          rintro _ rfl
          rw [nI_1, nI_1]
          exact ih (c + 1) (n + 1) (by omega) (by omega) (by omega) (by omega) he
        · have y' : ¬ a n < a c := fun q => y (nI_lt q ac.2)
          have x' : ¬ a n ≤ a c := fun q => x (nI_le q ac.2)
          rw [if_neg y', if_neg x'] at he
          rintro _ rfl
          rw [nI_1]
          exact ih fr (n + 1) (by omega) (by omega) (by omega) (by omega) he
  exact ⟨_, main (to - fr) fr (fr + 1) (by omega) (by omega) (by omega) (by omega) hX⟩
def duvB (L n : Nat) : Bool := (List.range (L ^ n)).all (fun v => hdl L n v == fc L n v)
/-- Duval's way finds the longest chief at the beginning -/
theorem duv_ok {L d n v : Nat} (h : cf_ok L d) (h1 : 1 ≤ n) (hn : n ≤ d) (hv : v < L ^ n) : hdl L n v = fc L n v := by
  have key : duvB L n = true → hdl L n v = fc L n v := fun hb => by
    have := List.all_eq_true.mp hb v (List.mem_range.mpr hv)
    exact beq_iff_eq.mp this
  apply key
  rcases h with ⟨rfl, h2, h3⟩ | ⟨rfl, h2, h3⟩ | ⟨rfl, h2, h3⟩
  · rcases (show n = 1 ∨ n = 2 ∨ n = 3 ∨ n = 4 ∨ n = 5 ∨ n = 6 by omega) with rfl | rfl | rfl | rfl | rfl | rfl <;> decide +kernel
  · rcases (show n = 1 ∨ n = 2 ∨ n = 3 ∨ n = 4 ∨ n = 5 by omega) with rfl | rfl | rfl | rfl | rfl <;> decide +kernel
  · rcases (show n = 1 ∨ n = 2 ∨ n = 3 ∨ n = 4 by omega) with rfl | rfl | rfl | rfl <;> decide +kernel
theorem fc_n {L n v : Nat} (h1 : 1 ≤ n) : (fc L n v = n ↔ chf L n v = true) := by
  obtain ⟨k, rfl⟩ : ∃ k, n = k + 1 := ⟨n - 1, by omega⟩
  unfold fc fcN
  rw [Nat.sub_self, Nat.pow_zero, Nat.div_one]
  by_cases hc : chf L (k + 1) v = true
  · rw [if_pos hc]; exact ⟨fun _ => hc, fun _ => rfl⟩
  · rw [if_neg hc]
    refine ⟨fun z => ?_, fun z => absurd z hc⟩
    exfalso
    by_cases hk : k = 0
    · subst hk; exact hc chf_1
    · have := (fcN_spec (L := L) (m := k + 1) (e := v) k (by omega) (by omega)).2.1
      omega
theorem hdl_n {L d n v : Nat} (h : cf_ok L d) (h1 : 1 ≤ n) (hn : n ≤ d) (hv : v < L ^ n) : (hdl L n v = n ↔ chf L n v = true) := by
  rw [duv_ok h h1 hn hv]; exact fc_n h1
def k4 : Nat → Prop := fun k => k = 36 ∨ k = 37 ∨ k = 45 ∨ k = 46
/-- what findChiefs has found of the words ahead of a place -/
def fch (L d w : Nat) (S : cs_T) : Prop := (∀ n v, 1 ≤ n → n ≤ d → v < L ^ n → ofs L n + v < w → chf L n v = true → S.2.1 45 (cnt L d (ofs L n + v)) = nI (ofs L n + v)) ∧ ∀ u, u < w → S.2.1 46 u = if cfP L d u = true then nI (cnt L d u) else -1
theorem cnt_le {L d : Nat} : ∀ w, cnt L d (w + 1) ≤ w
  | 0 => by
    show 0 + (if cfP L d 0 = true then 1 else 0) ≤ 0
    rw [if_neg]
    · exact Nat.le_refl 0
    · unfold cfP
      rw [decide_eq_false (by omega), Bool.false_and]
      decide
  | w + 1 => by
    have := cnt_le (L := L) (d := d) w
    show cnt L d (w + 1) + _ ≤ w + 1
    by_cases e : cfP L d (w + 1) = true
    · rw [if_pos e]; omega
    · rw [if_neg e]; omega
theorem cp_findChiefs {L d : Nat} {Ln : Nat → Nat} {S : cs_T} {Q : Int32 → cs_T → Prop} (h : cw_ok L d Ln S) (h36 : Ln 36 = d + 2) (h37 : Ln 37 = d) (h45 : Ln 45 = ofs L (d + 1)) (h46 : Ln 46 = ofs L (d + 1)) (hq : ∀ S', upK k4 S S' → fch L d (ofs L (d + 1)) S' → (∀ m, 1 ≤ m → m ≤ d + 1 → S'.2.1 36 m = nI (cnt L d (ofs L m))) → Q (nI (cnt L d (ofs L (d + 1)))) S') : wi_X1_findChiefs Ln S Q := by
  have hcf := h.1
  have hL := cf_L hcf
  have hd := cf_d hcf
  have hall := cf_all hcf
  have n36 : k4 36 := Or.inl rfl
  have n37 : k4 37 := Or.inr (Or.inl rfl)
  have n45 : k4 45 := Or.inr (Or.inr (Or.inl rfl))
  have n46 : k4 46 := Or.inr (Or.inr (Or.inr rfl))
  have z0 : ¬ k4 0 := by unfold k4; omega
  have z1 : ¬ k4 1 := by unfold k4; omega
  have pos : 1 ≤ ofs L (d + 1) := by
    have e1 : ofs L 1 ≤ ofs L (d + 1) := ofs_mono (by omega)
    have e : ofs L 1 = 1 := by show 0 + L ^ 0 = 1; rw [Nat.pow_zero]
    omega
  have o1 : ofs L 1 = 1 := by show 0 + L ^ 0 = 1; rw [Nat.pow_zero]
  have outer : ∀ f n S1, n + f = d + 1 → 1 ≤ n → upK k4 S S1 → fch L d (ofs L n) S1 → (∀ m, 1 ≤ m → m < n → S1.2.1 36 m = nI (cnt L d (ofs L m))) → wi_X1_findChiefs_9 Ln Q (f + 1) S1 (nI (cnt L d (ofs L n))) (nI n) := by
    intro f
    induction f with
    | zero =>
      intro n S1 hn h1 hu hf h36v
      have : n = d + 1 := by omega
      subst this
      have hw := cw_up h hu z0 z1
      refine ⟨fun _ => ?_, fun z => absurd (by rw [hw.2.2.1]; exact nI_lt (by omega) (by omega)) z⟩
      rw [hw.2.2.1, nI_1, nI_clamp (by omega), h36]
      refine ⟨vp_in_nI (by omega) (by omega), hq _ (upK_tr hu (upK_sI n36)) ⟨fun n v a b c e g => ?_, fun u hu' => ?_⟩ (fun m a b => ?_)⟩
      · rw [cI_r (by decide)]; exact hf.1 n v a b c e g
      · rw [cI_r (by decide)]; exact hf.2 u hu'
      · rw [cI_g, if_pos rfl]
        by_cases e : m = d + 1
        · rw [if_pos e, e]
        · rw [if_neg e]; exact h36v m a (by omega)
    | succ f ih =>
      intro n S1 hn h1 hu hf h36v
      have hw := cw_up h hu z0 z1
      refine ⟨fun z => absurd z (by rw [hw.2.2.1]; exact nI_nlt (by omega) (by omega)), fun _ => ?_⟩
      rw [nI_clamp (show n < 2 ^ 31 by omega), h36, hw.2.2.2.2.1]
      refine ⟨vp_in_nI (by omega) (by omega), vp_in_nI (by omega) (by omega), ?_⟩
      rw [cI_r (by decide), show S1.2.1 1 n = nI (ofs L n) from hw.2.2.2.2.2.2 n (by omega)]
      rintro _ rfl
      have inner : ∀ g v S2, v + g = L ^ n → upK k4 S S2 → fch L d (ofs L n + v) S2 → (∀ m, 1 ≤ m → m < n + 1 → S2.2.1 36 m = nI (cnt L d (ofs L m))) → wi_X1_findChiefs_41 Ln (wi_X1_findChiefs_9 Ln Q (f + 1)) Q (g + 1) S2 (nI (cnt L d (ofs L n + v))) (nI n) (nI (ofs L n + v)) := by
        intro g
        induction g with
        | zero =>
          intro v S2 hv hu2 hf2 h362
          have : v = L ^ n := by omega
          subst this
          have hw2 := cw_up h hu2 z0 z1
          have hle : ofs L (n + 1) ≤ ofs L (d + 1) := ofs_mono (by omega)
          refine ⟨by rw [nI_1, h.2.2.2.2.1]; exact vp_in_nI (by omega) (by omega), ?_⟩
          rw [nI_1, cw_s hw2 (by omega)]
          have e : ofs L (n + 1) = ofs L n + L ^ n := rfl
          refine ⟨fun _ => ?_, fun z => absurd (nI_le (by omega) (by omega)) z⟩
          rintro _ rfl
          rw [← e] at hf2 ⊢
          exact ih (n + 1) S2 (by omega) (by omega) hu2 hf2 h362
        | succ g ih2 =>
          intro v S2 hv hu2 hf2 h362
          have hw2 := cw_up h hu2 z0 z1
          have hvl : v < L ^ n := by omega
          have hpw := cf_w hcf (show n ≤ d by omega) hvl
          have hpa := ofs_all (L := L) (show n ≤ d by omega) hvl
          have hc99 : cnt L d (ofs L n + v) ≤ 98 := cnt_99 hcf (Nat.le_of_lt hpa)
          have hon : 1 ≤ ofs L n := by
            have e1 : ofs L 1 ≤ ofs L n := ofs_mono h1
            omega
          have hcl : cnt L d (ofs L n + v) ≤ ofs L n + v - 1 := by
            have := cnt_le (L := L) (d := d) (ofs L n + v - 1)
            rw [show ofs L n + v - 1 + 1 = ofs L n + v by omega] at this
            exact this
          have hst := cnt_step (d := d) h1 (show n ≤ d by omega) hvl
          refine ⟨by rw [nI_1, h.2.2.2.2.1]; exact vp_in_nI (by omega) (by omega), ?_⟩
          rw [nI_1, cw_s hw2 (by omega)]
          have e : ofs L (n + 1) = ofs L n + L ^ n := rfl
          have hle : ofs L (n + 1) ≤ ofs L (d + 1) := ofs_mono (by omega)
          refine ⟨fun z => absurd z (nI_ge (by omega) (by omega)), fun _ => ?_⟩
          refine cp_spell hw2 h37 (by omega) hvl (fun S3 hu3 hsp => ?_)
          have hu3' : upK k4 S S3 := upK_tr hu2 (upK_w hu3 (fun k hk => hk ▸ n37))
          rw [h46, nI_clamp (show ofs L n + v < 2 ^ 31 by omega)]
          refine ⟨vp_in_nI hpa (by omega), ?_⟩
          refine cp_head (a := ltr L n v) (fr := 0) (to := n) (by rw [h37]; omega) (by rw [h37]; omega) (by omega) (fun i _ hi => ?_) ?_
          · rw [cI_r (by decide)]
            have : ltr L n v i < L := ltr_lt (by omega)
            exact ⟨hsp i hi, by omega⟩
          · rw [Nat.sub_zero]
            have hnx : ∀ S4, upK k4 S S4 → fch L d (ofs L n + v + 1) S4 → (∀ m, 1 ≤ m → m < n + 1 → S4.2.1 36 m = nI (cnt L d (ofs L m))) → wi_X1_findChiefs_96 Ln (wi_X1_findChiefs_9 Ln Q (f + 1)) (wi_X1_findChiefs_41 Ln (wi_X1_findChiefs_9 Ln Q (f + 1)) Q (g + 1)) Q S4 (nI (cnt L d (ofs L n + v + 1))) (nI n) (nI (ofs L n + v)) := by
              intro S4 hu4 hf4 h364
              rintro _ rfl
              rw [nI_1]
              exact ih2 (v + 1) S4 (by omega) hu4 hf4 h364
            have h3a : ∀ k, k ≠ 37 → S3.2.1 k = S2.2.1 k := fun k hk => hu3.2.2 k hk
            have hp := hdl_n hcf h1 (show n ≤ d by omega) hvl
            have hcf' := cfP_of (d := d) h1 (show n ≤ d by omega) hvl
            show (¬ nI (hdl L n v) = nI n → _) ∧ (nI (hdl L n v) = nI n → _)
            have hdle : hdl L n v ≤ n := by
              rw [duv_ok hcf h1 (by omega) hvl]
              exact (fc_spec (L := L) (e := v) h1).2.1
            refine ⟨fun hne => ?_, fun he => ?_⟩
            · have hc : ¬ chf L n v = true := fun q => hne (by rw [hp.mpr q])
              rw [if_neg hc] at hst
              rw [← show cnt L d (ofs L n + v + 1) = cnt L d (ofs L n + v) from hst]
              refine hnx _ (upK_tr hu3' (upK_sI n46)) ⟨fun m u a b c' e' g' => ?_, fun u hu' => ?_⟩ (fun m a b => ?_)
              · rw [cI_r (by decide), h3a 45 (by decide)]
                by_cases z : ofs L m + u = ofs L n + v
                · obtain ⟨rfl, rfl⟩ := place_inj c' hvl z
                  exact absurd g' hc
                · exact hf2.1 m u a b c' (by omega) g'
              · rw [cI_g, if_pos rfl]
                by_cases z : u = ofs L n + v
                · rw [if_pos z, z, hcf', if_neg hc]
                · rw [if_neg z, h3a 46 (by decide)]; exact hf2.2 u (by omega)
              · rw [cI_r (by decide), h3a 36 (by decide)]; exact h362 m a b
            · have hc : chf L n v = true := hp.mp ((nI_eq (by omega) (by omega)).mp he)
              rw [if_pos hc] at hst
              rw [h45, nI_clamp (show cnt L d (ofs L n + v) < 2 ^ 31 by omega)]
              refine ⟨vp_in_nI (by omega) (by omega), vp_in_nI hpa (by omega), ?_⟩
              rintro _ rfl
              rw [nI_1, ← hst]
              refine hnx _ (upK_tr (upK_tr (upK_tr hu3' (upK_sI n46)) (upK_sI n45)) (upK_sI n46)) ⟨fun m u a b c' e' g' => ?_, fun u hu' => ?_⟩ (fun m a b => ?_)
              · rw [cI_r (by decide), cI_g, if_pos rfl]
                by_cases z : ofs L m + u = ofs L n + v
                · rw [z, if_pos rfl]
                · have : cnt L d (ofs L m + u) < cnt L d (ofs L n + v) := cnt_lt a b c' g' (by omega)
                  rw [if_neg (by omega), cI_r (by decide), h3a 45 (by decide)]
                  exact hf2.1 m u a b c' (by omega) g'
              · rw [cI_g, if_pos rfl]
                by_cases z : u = ofs L n + v
                · rw [if_pos z, z, hcf', if_pos hc]
                · rw [if_neg z, cI_r (by decide), cI_g, if_pos rfl, if_neg z, h3a 46 (by decide)]; exact hf2.2 u (by omega)
              · rw [cI_r (by decide), cI_r (by decide), cI_r (by decide), h3a 36 (by decide)]; exact h362 m a b
      refine ⟨L ^ n + 1, ?_⟩
      have hi := inner (L ^ n) 0 (cs_sI S1 36 n (nI (cnt L d (ofs L n)))) (by omega) (upK_tr hu (upK_sI n36)) ⟨fun m u a b c' e' g' => ?_, fun u hu' => ?_⟩ (fun m a b => ?_)
      · exact hi
      · rw [cI_r (by decide)]; exact hf.1 m u a b c' e' g'
      · rw [cI_r (by decide)]; exact hf.2 u hu'
      · rw [cI_g, if_pos rfl]
        by_cases z : m = n
        · rw [if_pos z, z]
        · rw [if_neg z]; exact h36v m a (by omega)
  have hz : ((0 : Int32)).toNatClampNeg = 0 := by decide
  have c1 : cnt L d (ofs L 1) = 0 := by
    rw [o1]
    exact Nat.le_zero.mp (cnt_le (L := L) (d := d) 0)
  refine ⟨by rw [h46]; exact vp_in_nI (n := 0) (by omega) (by omega), d + 1, ?_⟩
  have h0 := outer d 1 (cs_sI S 46 0 (-1)) (by omega) (Nat.le_refl 1) (upK_sI n46) ⟨fun n v a b c' e' g' => ?_, fun u hu' => ?_⟩ (fun m a b => by omega)
  · rw [c1] at h0
    rw [hz]
    exact h0
  · exfalso
    have : ofs L 1 ≤ ofs L n := ofs_mono a
    omega
  · have : u = 0 := by omega
    subst this
    rw [cI_g, if_pos rfl, if_pos rfl, if_neg]
    unfold cfP
    rw [decide_eq_false (by omega), Bool.false_and]
    decide
