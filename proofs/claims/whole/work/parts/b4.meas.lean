/-! the class's sums that measure shares -/
theorem dvN_sh {a a' : Nat → Nat} {fr n : Nat} (ha : ∀ i, i < n → a (fr + i) = a' i) : ∀ f c x, c < x → dvN a (fr + n) fr f (fr + c) (fr + x) = dvN a' n 0 f c x
  | 0, c, x, h => by show fr + x - (fr + c) = x - c; omega
  | f + 1, c, x, h => by
    unfold dvN
    by_cases h1 : n ≤ x
    · rw [if_pos (show fr + n ≤ fr + x by omega), if_pos h1]; omega
    · rw [if_neg (show ¬ fr + n ≤ fr + x by omega), if_neg h1, ha x (by omega), ha c (by omega)]
      by_cases h2 : a' x < a' c
      · rw [if_pos h2, if_pos h2]; omega
      · rw [if_neg h2, if_neg h2]
        by_cases h3 : a' x ≤ a' c
        · rw [if_pos h3, if_pos h3]
          exact dvN_sh ha f (c + 1) (x + 1) (by omega)
        · rw [if_neg h3, if_neg h3]
          have := dvN_sh ha f 0 (x + 1) (by omega)
          rwa [Nat.add_zero] at this
theorem md_dg {L u a b : Nat} (hb : b < a) : u % L ^ a / L ^ b % L = u / L ^ b % L := by
  rw [show L ^ a = L ^ b * L ^ (a - b) by rw [← Nat.pow_add]; congr 1; omega, Nat.mod_mul_right_div_self, Nat.mod_mod_of_dvd]
  rw [show a - b = (a - b - 1) + 1 by omega, Nat.pow_succ]
  exact Nat.dvd_mul_left _ _
theorem ltr_hd {L m u h i : Nat} (hh : h ≤ m) (hi : i < h) : ltr L h (u / L ^ (m - h)) i = ltr L m u i := by
  unfold ltr
  rw [Nat.div_div_eq_div_mul, ← Nat.pow_add, show m - h + (h - 1 - i) = m - 1 - i by omega]
theorem ltr_rs {L m u h i : Nat} (hi : i < m - h) : ltr L (m - h) (u % L ^ (m - h)) i = ltr L m u (h + i) := by
  unfold ltr
  rw [md_dg (by omega), show m - h - 1 - i = m - 1 - (h + i) by omega]
/-- how often the first chief stands at the beginning -/
def htN (b : Nat → Nat) (m h : Nat) : Nat → Nat → Nat
  | 0, x => x / h
  | f + 1, x => if m ≤ x then x / h else if b x = b (x - h) then htN b m h f (x + 1) else x / h
def htL (L m u h : Nat) : Nat := htN (ltr L m u) m h m h
/-- what measures the share of the word (m, u), at the word V of that length -/
def sml (L : Nat) : Nat → Nat → Nat → Nat → Kf
  | 0, _, _, _ => 0
  | f + 1, m, u, V => if m = 0 then 1 else if fc L m u = m then (if V / L ^ (m - 1) = u / L ^ (m - 1) then sml L f (m - 1) (u % L ^ (m - 1)) (V % L ^ (m - 1)) else 0) else
    shR L m (hom (m - fc L m u) (sml L f (m - fc L m u) (u % L ^ (m - fc L m u)))) (hom (fc L m u) (sml L f (fc L m u) (u / L ^ (m - fc L m u)))) V * kv (kN (htL L m u (fc L m u)))
section CE
variable {L d : Nat} {Ln : Nat → Nat}
theorem cq_headTimes {S : cs_T} {Q : Int32 → cs_T → Prop} {b : Nat → Nat} {fr m h : Nat} (hto : fr + m ≤ Ln 37) (h31 : Ln 37 < 2 ^ 31) (h0 : 1 ≤ h) (hm : h ≤ m) (hb : ∀ i, i < m → S.2.1 37 (fr + i) = nI (b i) ∧ b i < 2 ^ 31) (hq : Q (nI (htN b m h m h)) S) : wp_X1_headTimes Ln S (nI fr) (nI (fr + m)) (nI h) Q := by
  have main : ∀ f x, m ≤ x + f → h ≤ x → x ≤ m → Q (nI (htN b m h f x)) S → wp_X1_headTimes_5 Ln Q (f + 1) S (nI fr) (nI (fr + m)) (nI h) (nI (fr + x)) := by
    intro f
    induction f with
    | zero =>
      intro x hx hhx hxm hq
      refine ⟨fun _ => ⟨nI_ne h0 (by omega), ?_⟩, fun z => absurd (nI_le (by omega) (by omega)) z⟩
      rw [pk_sub (by omega), Nat.add_sub_cancel_left, pk_div (by omega) (by omega) (by omega)]
      exact hq
    | succ f ih =>
      intro x hx hhx hxm hq
      have hend : Q (nI (x / h)) S → ¬ nI h = 0 ∧ Q ((nI (fr + x) - nI fr) / nI h) S := fun q => ⟨nI_ne h0 (by omega), by
        rw [pk_sub (by omega), Nat.add_sub_cancel_left, pk_div (by omega) (by omega) (by omega)]
        exact q⟩
      unfold htN at hq
      refine pk_le (fr + m) (fr + x) (fun hle => ?_) (fun hgt => ?_)
      · rw [if_pos (by omega)] at hq
        exact hend hq
      · rw [if_neg (by omega)] at hq
        rw [pk_sub (show h ≤ fr + x by omega), nI_clamp (by omega), nI_clamp (by omega), show fr + x - h = fr + (x - h) by omega, (hb x (by omega)).1, (hb (x - h) (by omega)).1]
        have b1 := (hb x (by omega)).2
        have b2 := (hb (x - h) (by omega)).2
        refine ⟨vp_in_nI (by omega) h31, vp_in_nI (by omega) h31, ?_⟩
        rw [nI_eq b1 b2]
        refine ⟨fun z => ?_, fun z => ?_⟩
        · rw [if_neg z] at hq
          exact hend hq
        · rw [if_pos z] at hq
          rintro _ rfl
          rw [nI_1]
          exact ih (x + 1) (by omega) (by omega) (by omega) hq
  unfold wp_X1_headTimes
  rw [nI_add]
  rintro _ rfl
  exact ⟨m + 1, main m h (by omega) (Nat.le_refl _) hm hq⟩
theorem cq_fillB {S : cs_T} {g : Nat → Nat → Kf} {t lo e : Nat} {Q : cs_T → Prop} (h : cv L d Ln S g) (ht : kV t) (hlo : lo ≤ e) (he : e ≤ ofs L (d + 1)) (hq : ∀ S', upK kV S S' → cv L d Ln S' (va_up g t (fun j => if lo ≤ j ∧ j < e then 0 else g t j)) → Q S') : wp_J7_fill_fda19 Ln S t (nI lo) (nI e) 0 Q := by
  have hW := cv_W h
  refine ⟨kV_47 ht, ?_⟩
  rw [h.2.2.2.1 t ht]
  refine ⟨fun _ => ⟨fun _ => ⟨fun _ => ?_, fun z => absurd (nI_le he (by omega)) z⟩, fun z => absurd (nI_pos' (by omega)) z⟩, fun z => absurd (nI_le hlo (by omega)) z⟩
  refine lpR (fun n s i => wp_J7_fill_fda19_10 Ln Q n s t (nI e) 0 (nI i)) (fun i j => if lo ≤ j ∧ j < i then 0 else g t j) lo e hlo (g := g) (t := t) (cv_t h (fun j _ => if_neg (by omega))) ?_ ?_
  · intro n S' hu hc
    exact ⟨fun _ => hq S' hu hc, fun z => absurd (nI_le (Nat.le_refl _) (by omega)) z⟩
  · intro n i S' hli hi hu hc hk
    refine ⟨fun z => absurd z (nI_ge hi (by omega)), fun _ => ⟨kV_47 ht, cv_in hc ht (by omega), ?_⟩⟩
    rintro _ rfl
    rw [nI_1, nI_clamp (by omega)]
    have hs := cv_s' (p := i) (c := 0) (r' := fun j => if lo ≤ j ∧ j < i + 1 then 0 else g t j) hc ht (fun j hj => by
      by_cases e1 : j = i
      · rw [if_pos e1, if_pos (by omega)]
      · rw [if_neg e1]
        by_cases e2 : lo ≤ j ∧ j < i
        · rw [if_pos e2, if_pos (by omega)]
        · rw [if_neg e2, if_neg (by omega)])
    exact hk _ (upK_tr hu hs.1) hs.2
theorem cq_setAhead {S : cs_T} {g : Nat → Nat → Kf} {t c m : Nat} {A : Nat → Kf} {Q : cs_T → Prop} (h : cv L d Ln S g) (ht : kV t) (hc : c < L) (hm1 : 1 ≤ m) (hm : m ≤ d) (hA : eqW L d (g t) (plK L d (hom (m - 1) A)))
    (hq : ∀ S' r, upK kV S S' → cv L d Ln S' (va_up g t r) → eqW L d r (plK L d (hom m (fun V => if V / L ^ (m - 1) = c then A (V % L ^ (m - 1)) else 0))) → Q S') : wp_X1_setAhead Ln S t (nI c) (nI (m - 1)) Q := by
  have hcf := h.1.1
  have hd := cf_d hcf
  have hL := cf_L hcf
  have hW := cv_W h
  have hp1 := cf_pow hcf (n := m - 1) (by omega)
  have hpw := cv_pw h (n := m - 1) (by omega)
  have hs0 := cv_st h (n := m - 1) (by omega)
  have hs1 := cv_st h (n := m) (by omega)
  have e1 : ofs L m = ofs L (m - 1) + L ^ (m - 1) := by
    conv => lhs; rw [show m = m - 1 + 1 by omega]
    rfl
  have hmW : ofs L m + L ^ m ≤ ofs L (d + 1) := ofs_mono (L := L) (show m + 1 ≤ d + 1 by omega)
  have epm : L ^ m = L ^ (m - 1) * L := by
    conv => lhs; rw [show m = m - 1 + 1 by omega]
    exact Nat.pow_succ ..
  have hcp : c * L ^ (m - 1) + L ^ (m - 1) ≤ L ^ m := by
    have : (c + 1) * L ^ (m - 1) ≤ L * L ^ (m - 1) := Nat.mul_le_mul_right _ hc
    rw [Nat.succ_mul] at this
    rw [epm, Nat.mul_comm (L ^ (m - 1)) L]
    exact this
  unfold wp_X1_setAhead
  rw [hpw.2]
  refine ⟨hpw.1, ?_⟩
  rintro _ rfl
  rw [hs0.2]
  refine ⟨hs0.1, ?_⟩
  rintro _ rfl
  rw [nI_1, show m - 1 + 1 = m by omega, hs1.2, pk_mul, nI_add]
  refine ⟨hs1.1, ?_⟩
  rintro _ rfl
  rw [nI_clamp (by omega), nI_clamp (by omega), nI_clamp (by omega), nI_add, h.2.2.2.1 t ht]
  refine ⟨kV_47 ht, nI_pos (by omega), nI_pos (by omega), nI_pos (by omega), by omega, by omega, ?_⟩
  have hu : upK kV S (cs_sA S t (va_cpy (S.2.1 t) (S.2.1 t) (ofs L (m - 1)) (ofs L m + c * L ^ (m - 1)) (L ^ (m - 1)))) := ⟨rfl, rfl, fun k hk => va_up_ne _ _ (fun z => hk (z ▸ ht))⟩
  have hc2 : cv L d Ln (cs_sA S t (va_cpy (S.2.1 t) (S.2.1 t) (ofs L (m - 1)) (ofs L m + c * L ^ (m - 1)) (L ^ (m - 1)))) (va_up g t (fun j => if ofs L m + c * L ^ (m - 1) ≤ j ∧ j < ofs L m + c * L ^ (m - 1) + L ^ (m - 1) then g t (ofs L (m - 1) + (j - (ofs L m + c * L ^ (m - 1)))) else g t j)) := cv_up h hu (fun k j hk hj => by
    show va_up S.2.1 t _ k j = _
    by_cases h1 : k = t
    · subst h1
      rw [va_up_self, va_up_self]
      unfold va_cpy
      by_cases h2 : ofs L m + c * L ^ (m - 1) ≤ j ∧ j < ofs L m + c * L ^ (m - 1) + L ^ (m - 1)
      · rw [if_pos h2, if_pos h2]
        exact h.2.2.2.2.2.2 k _ hk (by omega)
      · rw [if_neg h2, if_neg h2]
        exact h.2.2.2.2.2.2 k j hk hj
    · rw [va_up_ne _ _ h1, va_up_ne _ _ h1]; exact h.2.2.2.2.2.2 k j hk hj)
  refine cq_fillB hc2 ht (by omega) (by omega) (fun S3 hu3 hc3 => ?_)
  rw [va_uu, va_up_self] at hc3
  refine hq S3 _ (upK_tr hu hu3) hc3 (fun w hw => ?_)
  obtain ⟨N, V, hN, hV, rfl⟩ := pl_ex hw
  rw [plK_at hN hV]
  have hAt : ∀ N V, N ≤ d → V < L ^ N → g t (ofs L N + V) = hom (m - 1) A N V := fun N V hN hV => by rw [hA _ (pl_W hN hV), plK_at hN hV]
  have eN : ofs L (N + 1) = ofs L N + L ^ N := rfl
  by_cases hNm : N = m
  · subst hNm
    rw [if_neg (by omega)]
    have hdv := Nat.div_add_mod V (L ^ (N - 1))
    have hml := Nat.mod_lt V (show 0 < L ^ (N - 1) by omega)
    have hml0 := Nat.zero_le (V % L ^ (N - 1))
    show _ = if N = N then (if V / L ^ (N - 1) = c then A (V % L ^ (N - 1)) else 0) else 0
    rw [if_pos rfl]
    by_cases hVc : V / L ^ (N - 1) = c
    · have eV : V = c * L ^ (N - 1) + V % L ^ (N - 1) := by rw [← hVc, Nat.mul_comm]; exact hdv.symm
      rw [if_pos hVc, if_pos ⟨by omega, by omega⟩, show ofs L N + V - (ofs L N + c * L ^ (N - 1)) = V % L ^ (N - 1) by omega, hAt (N - 1) _ (by omega) hml]
      unfold hom
      rw [if_pos rfl]
    · rw [if_neg hVc, if_neg, hAt N V hN hV]
      · unfold hom
        rw [if_neg (by omega)]
      · rintro ⟨q1, q2⟩
        refine hVc ?_
        have e3 : V = (V - c * L ^ (N - 1)) + L ^ (N - 1) * c := by rw [Nat.mul_comm (L ^ (N - 1)) c]; omega
        rw [e3, Nat.add_mul_div_left _ _ (by omega), Nat.div_eq_of_lt (by omega), Nat.zero_add]
  · have hout : ¬ (ofs L m + c * L ^ (m - 1) ≤ ofs L N + V ∧ ofs L N + V < ofs L m + c * L ^ (m - 1) + L ^ (m - 1)) := by
      rintro ⟨q1, q2⟩
      by_cases h3 : N < m
      · have : ofs L (N + 1) ≤ ofs L m := ofs_mono (by omega)
        omega
      · have : ofs L (m + 1) ≤ ofs L N := ofs_mono (by omega)
        have h4 : ofs L (m + 1) = ofs L m + L ^ m := rfl
        omega
    unfold hom
    rw [if_neg hNm]
    by_cases h5 : N = m - 1
    · subst h5
      rw [if_pos ⟨by omega, by omega⟩]
    · rw [if_neg, if_neg hout, hAt N V hN hV]
      · unfold hom
        rw [if_neg h5]
      · rintro ⟨q1, q2⟩
        by_cases h3 : N < m - 1
        · have : ofs L (N + 1) ≤ ofs L (m - 1) := ofs_mono (by omega)
          omega
        · have : ofs L m ≤ ofs L N := ofs_mono (by omega)
          omega
def kY (m lv : Nat) : Nat → Prop := fun k => k = 3 ∨ (15 + lv ≤ k ∧ k ≤ 15 + lv + m)
theorem shR_c {x x' y y' : Nat → Nat → Kf} (hL : 1 ≤ L) : ∀ n v (x x' y y' : Nat → Nat → Kf), v < L ^ n → (∀ m u, m ≤ n → u < L ^ m → x m u = x' m u) → (∀ m u, m ≤ n → u < L ^ m → y m u = y' m u) → shR L n x y v = shR L n x' y' v
  | 0, v, x, x', y, y', hv, hx, hy => by
    show x 0 0 * y 0 0 = x' 0 0 * y' 0 0
    rw [hx 0 0 (by omega) (by rw [Nat.pow_zero]; decide), hy 0 0 (by omega) (by rw [Nat.pow_zero]; decide)]
  | n + 1, v, x, x', y, y', hv, hx, hy => by
    have hc : v % L < L := Nat.mod_lt _ hL
    have hdv : v / L < L ^ n := by rw [Nat.div_lt_iff_lt_mul hL, ← Nat.pow_succ]; exact hv
    show shR L n (drL L (v % L) x) y (v / L) + shR L n x (drL L (v % L) y) (v / L) = shR L n (drL L (v % L) x') y' (v / L) + shR L n x' (drL L (v % L) y') (v / L)
    rw [shR_c (x := x) (x' := x) (y := x) (y' := x) hL n (v / L) (drL L (v % L) x) (drL L (v % L) x') y y' hdv (fun m u hm hu => hx (m + 1) _ (by omega) (pow_app hu hc)) (fun m u hm hu => hy m u (by omega) hu), shR_c (x := x) (x' := x) (y := x) (y' := x) hL n (v / L) x x' (drL L (v % L) y) (drL L (v % L) y') hdv (fun m u hm hu => hx m u (by omega) hu) (fun m u hm hu => hy (m + 1) _ (by omega) (pow_app hu hc))]
theorem shR_hom0 {A B : Nat → Kf} : ∀ N n m V, N ≠ n + m → shR L N (hom n A) (hom m B) V = 0
  | 0, n, m, V, h => by
    show (if 0 = n then _ else (0 : Kf)) * (if 0 = m then _ else (0 : Kf)) = 0
    by_cases h1 : 0 = n
    · rw [if_neg (show ¬ 0 = m by omega), km_0']
    · rw [if_neg h1, km_0]
  | N + 1, n, m, V, h => by
    have d1 : ∀ n A, drL L (V % L) (hom n A) = if n = 0 then (fun _ _ => 0) else hom (n - 1) (fun u => A (L * u + V % L)) := by
      intro n A
      funext a b
      show (if a + 1 = n then A (L * b + V % L) else 0) = _
      by_cases h0 : n = 0
      · rw [if_pos h0, if_neg (by omega)]
      · rw [if_neg h0]
        show _ = if a = n - 1 then _ else 0
        by_cases e : a + 1 = n
        · rw [if_pos e, if_pos (by omega)]
        · rw [if_neg e, if_neg (by omega)]
    have z1 : ∀ N (y : Nat → Nat → Kf) V, shR L N (fun _ _ => 0) y V = 0 := by
      intro N
      induction N with
      | zero => intro y V; exact km_0 _
      | succ N ih =>
        intro y V
        show shR L N (fun _ _ => 0) y _ + shR L N (fun _ _ => 0) _ _ = 0
        rw [ih, ih, ka_0]
    have z2 : ∀ N (x : Nat → Nat → Kf) V, shR L N x (fun _ _ => 0) V = 0 := by
      intro N
      induction N with
      | zero => intro y V; exact km_0' _
      | succ N ih =>
        intro y V
        show shR L N _ (fun _ _ => 0) _ + shR L N _ (fun _ _ => 0) _ = 0
        rw [ih, ih, ka_0]
    show shR L N (drL L (V % L) (hom n A)) (hom m B) (V / L) + shR L N (hom n A) (drL L (V % L) (hom m B)) (V / L) = 0
    rw [d1, d1]
    have p1 : shR L N (if n = 0 then (fun _ _ => 0) else hom (n - 1) (fun u => A (L * u + V % L))) (hom m B) (V / L) = 0 := by
      by_cases h0 : n = 0
      · rw [if_pos h0, z1]
      · rw [if_neg h0, shR_hom0 N (n - 1) m _ (by omega)]
    have p2 : shR L N (hom n A) (if m = 0 then (fun _ _ => 0) else hom (m - 1) (fun u => B (L * u + V % L))) (V / L) = 0 := by
      by_cases h0 : m = 0
      · rw [if_pos h0, z2]
      · rw [if_neg h0, shR_hom0 N n (m - 1) _ (by omega)]
    rw [p1, p2, ka_0]
theorem cq_measureS : ∀ f fo m u lv (S : cs_T) (g : Nat → Nat → Kf) (Q : cs_T → Prop), m < f → fo + m ≤ d → u < L ^ m → lv + m + 1 < 18 → cv L d Ln S g → Ln 37 = d → (∀ i, i < m → S.2.1 37 (fo + i) = nI (ltr L m u i)) →
    (∀ S' g', upK kV S S' → cv L d Ln S' g' → fr (kY m lv) g g' → eqW L d (g' (15 + lv)) (plK L d (hom m (sml L f m u))) → Q S') → wp_X1_measureSpelled Ln f S (nI fo) (nI (fo + m)) (nI lv) Q := by
  intro f
  induction f with
  | zero => intro fo m u lv S g Q hf; omega
  | succ f ih =>
    intro fo m u lv S g Q hf hfm hu hlv h h37 hlt hq
    have hcf := h.1.1
    have hd := cf_d hcf
    have hL := cf_L hcf
    have hW := cv_W h
    have hcl : (nI lv).toNatClampNeg = lv := nI_clamp (by omega)
    have hks : kV (15 + lv) := by unfold kV; omega
    refine ⟨vp_in_nI (by omega) (by decide), ?_⟩
    rw [hcl]
    refine pk_le (fo + m) fo (fun hle => ?_) (fun hgt => ?_)
    · have hm0 : m = 0 := by omega
      subst hm0
      refine cq_unit (c := 1) h hks (fun S1 hu1 hc1 => hq S1 _ hu1 hc1 (fr_u (Or.inr ⟨Nat.le_refl _, by omega⟩)) (fun w hw => ?_))
      rw [va_up_self]
      obtain ⟨N, V, hN, hV, rfl⟩ := pl_ex hw
      rw [plK_at hN hV]
      unfold hom sml
      rw [if_pos rfl]
      by_cases h0 : N = 0
      · rw [if_pos h0, if_pos ((ofs_0 (by omega) hV).mpr h0)]
      · rw [if_neg h0, if_neg (fun z => h0 ((ofs_0 (by omega) hV).mp z))]
    · have hm1 : 1 ≤ m := by omega
      have hfc := fc_spec (L := L) (e := u) hm1
      have hll : ∀ i, ltr L m u i < L := fun i => ltr_lt (by omega)
      refine ⟨fun _ => ?_, fun z => absurd (by rw [nI_1]; exact nI_lt (by omega) (by decide)) z⟩
      refine cp_head (a := fun i => ltr L m u (i - fo)) (by omega) (by omega) (by omega) (fun i h1 h2 => ?_) ?_
      · have := hlt (i - fo) (by omega)
        rw [show fo + (i - fo) = i by omega] at this
        exact ⟨this, by have := hll (i - fo); omega⟩
      have ehd : dvN (fun i => ltr L m u (i - fo)) (fo + m) fo (fo + m - fo) fo (fo + 1) = fc L m u := by
        have := dvN_sh (a := fun i => ltr L m u (i - fo)) (a' := ltr L m u) (fr := fo) (n := m) (fun i hi => by show ltr L m u (fo + i - fo) = _; rw [Nat.add_sub_cancel_left]) (fo + m - fo) 0 1 (by decide)
        rw [Nat.add_zero] at this
        rw [this, Nat.add_sub_cancel_left]
        exact duv_ok hcf hm1 (by omega) hu
      rw [ehd, pk_sub (by omega), Nat.add_sub_cancel_left, nI_eq (by omega) (by omega)]
      refine ⟨fun hne => ?_, fun heq => ?_⟩
      · have hdl : u / L ^ (m - fc L m u) < L ^ fc L m u := div_pow_lt' (by omega) hfc.2.1 hu
        have hmr : u % L ^ (m - fc L m u) < L ^ (m - fc L m u) := Nat.mod_lt _ (Nat.pow_pos (by omega))
        have hkn : kV (15 + (lv + 1)) := by unfold kV; omega
        rw [nI_add, nI_1, show nI (fo + m) = nI (fo + fc L m u + (m - fc L m u)) by rw [show fo + fc L m u + (m - fc L m u) = fo + m by omega]]
        refine ih (fo + fc L m u) (m - fc L m u) (u % L ^ (m - fc L m u)) lv S g _ (by omega) (by omega) hmr (by omega) h h37 (fun i hi => ?_) (fun S1 g1 hu1 hc1 hf1 hr1 => ?_)
        · rw [ltr_rs hi, show fo + fc L m u + i = fo + (fc L m u + i) by omega]
          exact hlt _ (by omega)
        have e37 : S1.2.1 37 = S.2.1 37 := hu1.2.2 37 (by unfold kV; omega)
        refine ih fo (fc L m u) (u / L ^ (m - fc L m u)) (lv + 1) S1 g1 _ (by omega) (by omega) hdl (by omega) hc1 h37 (fun i hi => ?_) (fun S2 g2 hu2 hc2 hf2 hr2 => ⟨vp_in_nI (by omega) (by decide), ?_⟩)
        · rw [ltr_hd hfc.2.1 hi, e37]
          exact hlt _ (by omega)
        rw [nI_clamp (show lv + 1 < 2 ^ 31 by omega)]
        refine cq_mingle hc2 hks hks hkn (by omega) (by omega) (fun S3 g3 hu3 hc3 hf3 ht3 => ?_)
        have e37' : S3.2.1 37 = S.2.1 37 := (hu3.2.2 37 (by unfold kV; omega)).trans ((hu2.2.2 37 (by unfold kV; omega)).trans e37)
        rw [show fo + fc L m u + (m - fc L m u) = fo + m by omega]
        refine cq_headTimes (b := ltr L m u) (by omega) (by omega) hfc.1 hfc.2.1 (fun i hi => ⟨by rw [e37']; exact hlt i hi, by have := hll i; omega⟩) ?_
        have hht : htN (ltr L m u) m (fc L m u) m (fc L m u) ≤ m + m := by
          have : ∀ f x, x ≤ m → htN (ltr L m u) m (fc L m u) f x ≤ m := by
            intro f
            induction f with
            | zero => intro x hx; exact Nat.le_trans (Nat.div_le_self _ _) hx
            | succ f ih2 =>
              intro x hx
              unfold htN
              by_cases c1 : m ≤ x
              · rw [if_pos c1]; exact Nat.le_trans (Nat.div_le_self _ _) hx
              · rw [if_neg c1]
                by_cases c2 : ltr L m u x = ltr L m u (x - fc L m u)
                · rw [if_pos c2]; exact ih2 (x + 1) (by omega)
                · rw [if_neg c2]; exact Nat.le_trans (Nat.div_le_self _ _) hx
          have := this m (fc L m u) hfc.2.1
          omega
        rw [show nI (htN (ltr L m u) m (fc L m u) m (fc L m u)) = kI (kN (htL L m u (fc L m u))) from (kI_N (n := htL L m u (fc L m u)) (by unfold htL; have : PR = 2147483647 := rfl; omega)).symm]
        refine kn_recip (cq_scale hc3 hks (fun S4 hu4 hc4 => hq S4 _ (upK_tr hu1 (upK_tr hu2 (upK_tr hu3 hu4))) hc4 ?_ (fun w hw => ?_)))
        · refine fr_tr (fr_tr (fr_tr (fr_w hf1 ?_) (fr_w hf2 ?_)) (fr_w hf3 ?_)) (fr_u ?_)
          · intro k hk; unfold kY at *; omega
          · intro k hk; unfold kY at *; omega
          · intro k hk; unfold kY; omega
          · exact Or.inr ⟨Nat.le_refl _, by omega⟩
        · rw [va_up_self, ht3]
          have e15 : g2 (15 + lv) = g1 (15 + lv) := hf2 _ (by unfold kY; omega)
          rw [e15]
          obtain ⟨N, V, hN, hV, rfl⟩ := pl_ex hw
          rw [shK_at hN hV, plK_at hN hV]
          have ec := shR_c (L := L) (x := fun _ _ => 0) (x' := fun _ _ => 0) (y := fun _ _ => 0) (y' := fun _ _ => 0) (by omega) N V (at2 L (g1 (15 + lv))) (hom (m - fc L m u) (sml L f (m - fc L m u) (u % L ^ (m - fc L m u)))) (at2 L (g2 (15 + (lv + 1)))) (hom (fc L m u) (sml L f (fc L m u) (u / L ^ (m - fc L m u)))) hV (fun k z hk hz => by
            show g1 (15 + lv) (ofs L k + z) = _
            rw [hr1 _ (pl_W (by omega) hz), plK_at (by omega) hz]) (fun k z hk hz => by
            show g2 (15 + (lv + 1)) (ofs L k + z) = _
            rw [hr2 _ (pl_W (by omega) hz), plK_at (by omega) hz])
          rw [ec]
          by_cases hNm : N = m
          · subst hNm
            show _ = if N = N then sml L (f + 1) N u V else 0
            rw [if_pos rfl]
            conv => rhs; unfold sml
            rw [if_neg (by omega), if_neg hne]
          · show _ = if N = m then _ else 0
            rw [if_neg hNm, shR_hom0 N _ _ V (by omega), km_0]
      · have hmr : u % L ^ (m - 1) < L ^ (m - 1) := Nat.mod_lt _ (Nat.pow_pos (by omega))
        rw [nI_1, show nI (fo + m) = nI (fo + 1 + (m - 1)) by rw [show fo + 1 + (m - 1) = fo + m by omega]]
        refine ih (fo + 1) (m - 1) (u % L ^ (m - 1)) lv S g _ (by omega) (by omega) hmr (by omega) h h37 (fun i hi => ?_) (fun S1 g1 hu1 hc1 hf1 hr1 => ?_)
        · have := ltr_rs (L := L) (m := m) (u := u) (h := 1) hi
          rw [this, show fo + 1 + i = fo + (1 + i) by omega]
          exact hlt _ (by omega)
        have e37 : S1.2.1 37 = S.2.1 37 := hu1.2.2 37 (by unfold kV; omega)
        refine ⟨by rw [h37]; exact vp_in_nI (by omega) (by omega), ?_⟩
        have el : S1.2.1 37 fo = nI (ltr L m u 0) := by rw [e37]; exact hlt 0 (by omega)
        rw [nI_clamp (by omega), el, heq, show nI m - 1 = nI (m - 1) from pk_sub (b := 1) (by omega)]
        refine cq_setAhead hc1 hks (hll 0) hm1 (by omega) hr1 (fun S2 r hu2 hc2 hr2 => hq S2 _ (upK_tr hu1 hu2) hc2 ?_ (fun w hw => ?_))
        · refine fr_tr (fr_w hf1 ?_) (fr_u (Or.inr ⟨Nat.le_refl _, by omega⟩))
          intro k hk; unfold kY at *; omega
        · rw [va_up_self, hr2 w hw]
          obtain ⟨N, V, hN, hV, rfl⟩ := pl_ex hw
          rw [plK_at hN hV, plK_at hN hV]
          unfold hom
          by_cases hNm : N = m
          · subst hNm
            rw [if_pos rfl, if_pos rfl]
            conv => rhs; unfold sml
            rw [if_neg (by omega), if_pos heq]
            have : ltr L N u 0 = u / L ^ (N - 1) := by
              unfold ltr
              rw [show N - 1 - 0 = N - 1 by omega]
              refine Nat.mod_eq_of_lt ?_
              have := div_pow_lt' (L := L) (m := N) (k := 1) (by omega) hm1 hu
              rwa [Nat.pow_one] at this
            rw [this]
          · rw [if_neg hNm, if_neg hNm]
end CE
