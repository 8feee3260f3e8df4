/-! the class's reader -/
def hvI (t : Nat) (b : Nat → Nat) (k : Nat) : Int32 := if k < t then nI (b k) else -1
def upR (S S' : cs_T) : Prop := (∀ j, j ≠ 6 → j ≠ 7 → j ≠ 8 → S'.1 j = S.1 j) ∧ S'.2.2 = S.2.2 ∧ ∀ k, ¬ kV k → S'.2.1 k = S.2.1 k
theorem upR_rf {S : cs_T} : upR S S := ⟨fun _ _ _ _ => rfl, rfl, fun _ _ => rfl⟩
theorem upR_tr {S S1 S2 : cs_T} (h : upR S S1) (h1 : upR S1 S2) : upR S S2 := ⟨fun j a b c => (h1.1 j a b c).trans (h.1 j a b c), h1.2.1.trans h.2.1, fun k a => (h1.2.2 k a).trans (h.2.2 k a)⟩
theorem upR_V {S S' : cs_T} (h : upK kV S S') : upR S S' := ⟨fun j _ _ _ => by rw [h.1], h.2.1, h.2.2⟩
theorem sF_o {S : cs_T} {k j : Nat} {v : Int32} (h : j ≠ k) : (cs_sF S k v).1 j = S.1 j := by
  unfold cs_sF
  exact va_up_ne _ _ h
theorem upR_F {S : cs_T} {j : Nat} {v : Int32} (hj : j = 6 ∨ j = 7 ∨ j = 8) : upR S (cs_sF S j v) := ⟨fun i a b c => sF_o (by omega), rfl, fun _ _ => rfl⟩
theorem cv_F {L d : Nat} {Ln : Nat → Nat} {S : cs_T} {g : Nat → Nat → Kf} {j : Nat} {v : Int32} (h : cv L d Ln S g) (hj : 4 ≤ j) : cv L d Ln (cs_sF S j v) g := by
  obtain ⟨⟨c1, c2, c3, c4, c5, c6, c7⟩, h2, h3, h4, h5, h6, h7⟩ := h
  exact ⟨⟨c1, by rw [sF_o (by omega)]; exact c2, by rw [sF_o (by omega)]; exact c3, c4, c5, c6, c7⟩, by rw [sF_o (by omega)]; exact h2, by rw [sF_o (by omega)]; exact h3, h4, h5, h6, h7⟩
section RC
variable {L d : Nat} {Ln : Nat → Nat} {t : Nat} {b : Nat → Nat} {X : Nat → Nat → Kf}
def tpC (Ln : Nat → Nat) (t : Nat) (b : Nat → Nat) (S : cs_T) : Prop := Ln 46 = 100 ∧ t ≤ 100 ∧ S.1 5 = nI t ∧ ∀ i, i < t → S.2.1 46 i = nI (b i) ∧ b i < 256
def rdC (L d : Nat) (Ln : Nat → Nat) (t : Nat) (b : Nat → Nat) (S : cs_T) (g : Nat → Nat → Kf) (k : Nat) (lk : Int32) : Prop := cv L d Ln S g ∧ tpC Ln t b S ∧ S.1 6 = nI k ∧ k ≤ t ∧ S.1 7 = -1 ∧ S.1 8 = lk
theorem tp_up {S S' : cs_T} (h : tpC Ln t b S) (hu : upR S S') : tpC Ln t b S' := by
  unfold tpC at h ⊢
  rw [hu.1 5 (by decide) (by decide) (by decide), hu.2.2 46 (by unfold kV; omega)]
  exact h
theorem rd_V {S S' : cs_T} {g g' : Nat → Nat → Kf} {k : Nat} {lk : Int32} (h : rdC L d Ln t b S g k lk) (hu : upK kV S S') (hc : cv L d Ln S' g') : rdC L d Ln t b S' g' k lk := by
  obtain ⟨h1, h2, h3, h4, h5, h6⟩ := h
  exact ⟨hc, tp_up h2 (upR_V hu), by rw [hu.1]; exact h3, h4, by rw [hu.1]; exact h5, by rw [hu.1]; exact h6⟩
theorem rd_pl {S : cs_T} {g : Nat → Nat → Kf} {k : Nat} {lk : Int32} (h : rdC L d Ln t b S g k lk) (hk : k < t) : rdC L d Ln t b (cs_sF S 6 (S.1 6 + 1)) g (k + 1) lk := by
  obtain ⟨h1, h2, h3, h4, h5, h6⟩ := h
  exact ⟨cv_F h1 (by decide), tp_up h2 (upR_F (Or.inl rfl)), by rw [sF_s, h3, nI_1], hk, by rw [sF_o (by decide)]; exact h5, by rw [sF_o (by decide)]; exact h6⟩
theorem hv_eq {k c : Nat} {S : cs_T} (h : tpC Ln t b S) (hc : c < 256) : hvI t b k = nI c ↔ bt t b k = c := by
  unfold hvI bt
  by_cases e : k < t
  · rw [if_pos e, if_pos e]
    exact nI_eq (by have := (h.2.2.2 k e).2; omega) (by omega)
  · rw [if_neg e, if_neg e]
    exact ⟨fun z => absurd z.symm (nI_m1 (by omega)), fun z => by omega⟩
theorem cr_hand {S : cs_T} {g : Nat → Nat → Kf} {k : Nat} {lk : Int32} {Q : Int32 → cs_T → Prop} (h : rdC L d Ln t b S g k lk) (hq : Q (hvI t b k) S) : wp_X4_hand Ln S Q := by
  obtain ⟨h1, ⟨t1, t2, t3, t4⟩, h3, h4, h5, h6⟩ := h
  unfold wp_X4_hand
  rw [t3, h3]
  unfold hvI at hq
  refine pk_le t k (fun hle => ?_) (fun hlt => ?_)
  · rwa [if_neg (by omega)] at hq
  · rw [if_pos hlt] at hq
    rw [nI_clamp (by omega), (t4 k hlt).1]
    exact ⟨by rw [t1]; exact vp_in_nI (by omega) (by decide), hq⟩
theorem cr_digit {S S0 : cs_T} {k : Nat} {Q : Int32 → cs_T → Prop} (h : tpC Ln t b S0) (h1 : dgP (bt t b k) → Q 1 S) (h0 : ¬ dgP (bt t b k) → Q 0 S) : wp_X4_isDigit Ln S (hvI t b k) Q := by
  unfold hvI
  by_cases e : k < t
  · have hb : bt t b k = b k := if_pos e
    have h256 := (h.2.2.2 k e).2
    rw [if_pos e]
    rw [hb] at h1 h0
    refine pk_lt (b k) 48 (fun q => h0 (by unfold dgP; omega)) (fun q => pk_lt 57 (b k) (fun q2 => h0 (by unfold dgP; omega)) (fun q2 => h1 ⟨q, q2⟩))
  · have hb : bt t b k = 256 := if_neg e
    rw [if_neg e]
    exact ⟨fun _ => h0 (by rw [hb]; unfold dgP; omega), fun z => absurd (by decide) z⟩
theorem cr_letter {S S0 : cs_T} {g : Nat → Nat → Kf} {k : Nat} {Q : Int32 → cs_T → Prop} (hc : cv L d Ln S g) (h : tpC Ln t b S0) (h1 : ltP L (bt t b k) → Q 1 S) (h0 : ¬ ltP L (bt t b k) → Q 0 S) : wp_X4_isLetter Ln S (hvI t b k) Q := by
  have hL := cf_L hc.1.1
  unfold hvI wp_X4_isLetter
  rw [hc.1.2.1, show (97 : Int32) = nI 97 from rfl, nI_add]
  by_cases e : k < t
  · have hb : bt t b k = b k := if_pos e
    have h256 := (h.2.2.2 k e).2
    rw [if_pos e]
    rw [hb] at h1 h0
    refine pk_lt (b k) 97 (fun q => h0 (by unfold ltP; omega)) (fun q => pk_le (97 + L) (b k) (fun q2 => h0 (by unfold ltP; omega)) (fun q2 => h1 ⟨q, q2⟩))
  · have hb : bt t b k = 256 := if_neg e
    rw [if_neg e]
    exact ⟨fun _ => h0 (by rw [hb]; unfold ltP; omega), fun z => absurd (by decide) z⟩
theorem cr_ch {S0 : cs_T} {k c : Nat} {A B : Prop} (h : tpC Ln t b S0) (hc : c < 256) (h1 : bt t b k = c → A) (h0 : bt t b k ≠ c → B) : (hvI t b k = nI c → A) ∧ (¬ hvI t b k = nI c → B) := by
  rw [hv_eq h hc]
  exact ⟨h1, h0⟩
theorem cr_ch' {S0 : cs_T} {k c : Nat} {A B : Prop} (h : tpC Ln t b S0) (hc : c < 256) (h1 : bt t b k = c → A) (h0 : bt t b k ≠ c → B) : (¬ hvI t b k = nI c → B) ∧ (hvI t b k = nI c → A) := by
  rw [hv_eq h hc]
  exact ⟨h0, h1⟩
theorem cr_begins {S : cs_T} {g : Nat → Nat → Kf} {k : Nat} {Q : Int32 → cs_T → Prop} (hc : cv L d Ln S g) (h : tpC Ln t b S) (h1 : bgP L (bt t b k) → Q 1 S) (h0 : ¬ bgP L (bt t b k) → Q 0 S) : wp_X4_beginsFactor Ln S (hvI t b k) Q := by
  refine cr_digit h (fun q => ⟨fun _ => h1 (Or.inl q), fun z => absurd z (by decide)⟩) (fun q => ⟨fun z => absurd rfl z, fun _ => ?_⟩)
  refine cr_letter hc h (fun q2 => ⟨fun _ => h1 (Or.inr (Or.inl q2)), fun z => absurd z (by decide)⟩) (fun q2 => ⟨fun z => absurd rfl z, fun _ => ?_⟩)
  refine cr_ch (c := 114) h (by decide) (fun q3 => h1 (by unfold bgP; omega)) (fun q3 => ?_)
  refine cr_ch (c := 91) h (by decide) (fun q4 => h1 (by unfold bgP; omega)) (fun q4 => ?_)
  refine cr_ch (c := 40) h (by decide) (fun q5 => h1 (by unfold bgP; omega)) (fun q5 => ?_)
  refine cr_ch (c := 69) h (by decide) (fun q6 => h1 (by unfold bgP; omega)) (fun q6 => ?_)
  exact cr_ch' (c := 76) h (by decide) (fun q7 => h1 (by unfold bgP; omega)) (fun q7 => h0 (by unfold bgP; omega))
theorem cr_number {S : cs_T} {g : Nat → Nat → Kf} {k : Nat} {lk : Int32} {Q : Int32 → cs_T → Prop} (h : rdC L d Ln t b S g k lk) (hq : ∀ S', upR S S' → rdC L d Ln t b S' g (k + dgn (bt t b) 4 k) lk → Q (nI (nmv (bt t b) k (dgn (bt t b) 4 k))) S') : wp_X4_readNumber Ln S Q := by
  have hle := dgn_le (f := bt t b) 4 k
  have ht100 := h.2.1.2.1
  have hb57 : ∀ n, n ≤ dgn (bt t b) 4 k → nmv (bt t b) k n < 10 ^ n := fun n hn => nmv_lt n (fun i hi => (dgn_dg 4 k i (by omega)).2)
  refine pk_loop (σ := cs_T) (fun f i s => wp_X4_readNumber_4 Ln Q f s (nI (nmv (bt t b) k i)) (nI i)) (fun i s => upR S s ∧ rdC L d Ln t b s g (k + i) lk) (dgn (bt t b) 4 k) 0 S (Nat.zero_le _) ⟨upR_rf, h⟩ ?_ ?_
  · rintro f s ⟨hu, hr⟩
    refine ⟨fun _ => hq s hu hr, fun z => ?_⟩
    have hlt : dgn (bt t b) 4 k < 4 := by
      by_cases e : dgn (bt t b) 4 k < 4
      · exact e
      · exact absurd (nI_le (a := 4) (by omega) (by omega)) z
    refine cr_hand hr (cr_digit hr.2.1 (fun q => absurd q (dgn_end 4 k hlt)) (fun q => ⟨fun _ => hq s hu hr, fun z => absurd rfl z⟩))
  · rintro f i s hi ⟨hu, hr⟩ hk
    have hdg := dgn_dg (f := bt t b) 4 k i hi
    have hkt : k + i < t := bt_t (t := t) (b := b) (c := bt t b (k + i)) rfl (by omega)
    have hbk : bt t b (k + i) = b (k + i) := if_pos hkt
    refine ⟨fun z => absurd z (nI_ge (a := i) (b := 4) (by omega) (by omega)), fun _ => cr_hand hr (cr_digit hr.2.1 (fun q => ⟨fun z => absurd z (by decide), fun _ => cr_hand hr ?_⟩) (fun q => absurd hdg q))⟩
    have hnv := hb57 i (by omega)
    have h104 : (10 : Nat) ^ i ≤ 10 ^ 4 := Nat.pow_le_pow_right (by decide) (by omega)
    have ehv : hvI t b (k + i) = nI (b (k + i)) := if_pos hkt
    have e10 : (10 : Nat) ^ 4 = 10000 := by decide
    have hdg' : 48 ≤ b (k + i) ∧ b (k + i) ≤ 57 := by rw [← hbk]; exact hdg
    rw [ehv, show (10 : Int32) = nI 10 from rfl, pk_mul, nI_add, show (48 : Int32) = nI 48 from rfl, pk_sub (by omega)]
    rintro _ rfl _ rfl
    rw [nI_1]
    have hr2 := rd_pl hr hkt
    have en : nmv (bt t b) k i * 10 + b (k + i) - 48 = nmv (bt t b) k (i + 1) := by
      show _ = nmv (bt t b) k i * 10 + (bt t b (k + i) - 48)
      rw [hbk]
      omega
    rw [en]
    exact hk _ ⟨upR_tr hu (upR_F (Or.inl rfl)), hr2⟩
/-! factors -/
def kR (lv : Nat) : Nat → Prop := fun k => (3 ≤ k ∧ k ≤ 6) ∨ 15 + 3 * lv ≤ k
def kT (lv : Nat) : Nat → Prop := fun k => (3 ≤ k ∧ k ≤ 6) ∨ 15 + 3 * lv + 1 ≤ k
def accR (L d : Nat) (lk0 : Int32) (row : Nat) (acc : Option (Nat → Kf)) (g : Nat → Nat → Kf) (lk : Int32) : Prop := (∀ v, acc = some v → lk = lk0 ∧ eqW L d (g row) v) ∧ (acc = none → lk = 1)
def postF (L d : Nat) (Ln : Nat → Nat) (S : cs_T) (g : Nat → Nat → Kf) (f : Nat) (Q : cs_T → Prop) : Prop := ∀ S' g', upR S S' → cv L d Ln S' g' → (∀ k, 7 ≤ k → k ≤ 14 → g' k = g k) → S'.1 7 = nI f → Q S'
theorem mul_unit {x y : Nat → Kf} {c : Kf} (hL : 1 ≤ L) (hx : eqW L d x y) : eqW L d (fun j => x j * c) (mulK L d y (unitK c)) := fun w hw => by
  obtain ⟨n, v, hn, hv, rfl⟩ := pl_ex hw
  rw [mulK_at hn hv]
  have : mulR L (at2 L y) (at2 L (unitK c)) n v = mulR L (at2 L y) (fun m u => un2 m u * c) n v := mulR_c hL hv (fun _ _ _ _ => rfl) (fun m u hm hu => by
    show (if ofs L m + u = 0 then c else 0) = (if m = 0 then 1 else 0) * c
    by_cases e : m = 0
    · rw [if_pos e, if_pos ((ofs_0 hL hu).mpr e), km_1']
    · rw [if_neg e, if_neg (fun z => e ((ofs_0 hL hu).mp z)), km_0])
  rw [this, mulR_mr, mulR_1r]
  show x (ofs L n + v) * c = _
  rw [hx _ hw]
  rfl
theorem mul_let {x y : Nat → Kf} {c : Nat} (hL : 1 ≤ L) (hx : eqW L d x y) : eqW L d (mlK L d x c) (mulK L d y (plK L d (lt2 c))) := fun w hw => by
  rw [mlK_eq hw]
  obtain ⟨n, v, hn, hv, rfl⟩ := pl_ex hw
  rw [mulK_at hn hv, wlen_of hn hv, Nat.add_sub_cancel_left]
  exact mulR_c hL hv (fun m u hm hu => eqW_at hx (by omega) hu) (fun m u hm hu => (plK_at (by omega) hu).symm)
theorem acc_mul {lk0 lk lk' : Int32} {row : Nat} {acc v : Option (Nat → Kf)} {g g' : Nat → Nat → Kf} (h : accR L d lk0 row acc g lk) (h1 : ∀ x y, acc = some x → v = some y → lk' = lk ∧ eqW L d (g' row) (mulK L d x y)) (h2 : lk = 1 → lk' = 1) (h3 : v = none → lk' = 1) : accR L d lk0 row (mulO L d acc v) g' lk' := by
  refine ⟨fun z hz => ?_, fun hz => ?_⟩
  · cases acc with
    | none => exact absurd hz (by unfold mulO; exact fun q => by cases q)
    | some x =>
      cases v with
      | none => exact absurd hz (by unfold mulO; exact fun q => by cases q)
      | some y =>
        have e : mulK L d x y = z := by
          have : some (mulK L d x y) = some z := hz
          injection this
        obtain ⟨a1, a2⟩ := h1 x y rfl rfl
        exact ⟨a1.trans (h.1 x rfl).1, by rw [← e]; exact a2⟩
  · cases acc with
    | none => exact h2 (h.2 rfl)
    | some x =>
      cases v with
      | none => exact h3 rfl
      | some y =>
        have : some (mulK L d x y) = none := hz
        cases this
theorem mul_o {lv : Nat} (hlv : lv ≤ 5) : (3 * nI lv + 1).toNatClampNeg = 3 * lv + 1 ∧ (3 * nI lv).toNatClampNeg = 3 * lv ∧ (3 * nI lv + 2).toNatClampNeg = 3 * lv + 2 ∧ vp_in (3 * nI lv) 18 ∧ vp_in (3 * nI lv + 1) 18 ∧ vp_in (3 * nI lv + 2) 18 := by
  have e : (3 : Int32) * nI lv = nI (3 * lv) := by rw [show (3 : Int32) = nI 3 from rfl, pk_mul]
  rw [e, nI_1, show nI (3 * lv) + 2 = nI (3 * lv + 2) from nI_add _ 2]
  exact ⟨nI_clamp (by omega), nI_clamp (by omega), nI_clamp (by omega), vp_in_nI (by omega) (by decide), vp_in_nI (by omega) (by decide), vp_in_nI (by omega) (by decide)⟩
end RC
