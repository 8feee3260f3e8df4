/-! the reference's reading: texts by levels -/
section MH
variable {L d t : Nat} {b : Nat → Nat} {X : Nat → Nat → Kf} {S0 : ms_T} {Q : Int32 → ms_T → Prop}
def TxM (L t : Nat) (b : Nat → Nat) (S0 : ms_T) (Q : Int32 → ms_T → Prop) (D : Nat) (T : Nat → RS) : Prop :=
  ∀ S m k, rM L t b S0 S D m → (∀ i, i < D → m i < 256) → k ≤ t → ((T k).1 = true → ∀ S' st, rM L t b S0 S' D m → stp2 L st (bt t b (T k).2.1) → bt t b (T k).2.1 ≠ 43 → bt t b (T k).2.1 ≠ 45 → RdW Q S' (T k).2.1 st) → ((T k).1 = false → ∀ S', upM S0 S' → Q (nI (T k).2.1) S') → RdW Q S k 0
theorem rM_m {S : ms_T} {D : Nat} {m m' : Nat → Nat} (h : rM L t b S0 S D m) (he : ∀ i, i < D → m' i = m i) : rM L t b S0 S D m' := by
  obtain ⟨h1, h2, h3, h4, h5, h6, h7⟩ := h
  exact ⟨h1, h2, h3, h4, h5, h6, fun i hi => by rw [he i hi]; exact h7 i hi⟩
theorem rs_aft {S : ms_T} {D k st c : Nat} {m : Nat → Nat} (h : rM L t b S0 S (D + 1) m) (hk : k ≤ t) (hs : stp2 L st (bt t b k)) (h43 : bt t b k ≠ 43) (h45 : bt t b k ≠ 45) (hm : ∀ i, i < D + 1 → m i < 256) (hc : m D = c) (hc3 : c = 91 ∨ c = 93 ∨ c = 40)
    (hcm : c = 91 → bt t b k = 44 → RdW Q (ms_sI S 12 D 93) (k + 1) 0) (hcl : (c = 40 ∧ bt t b k = 41) ∨ (c = 93 ∧ bt t b k = 93) → RdW Q (ms_sF S 8 (nI D)) (k + 1) 1)
    (hno : ¬ ((c = 91 ∧ bt t b k = 44) ∨ (c = 40 ∧ bt t b k = 41) ∨ (c = 93 ∧ bt t b k = 93)) → Q (nI k) S) : RdW Q S k st := by
  by_cases e : k = t
  · subst e
    have h256 : bt k b k = 256 := if_neg (Nat.lt_irrefl _)
    exact rs_end h (by unfold stp2 at hs; omega) (fun z => absurd z (by omega)) (fun _ => hno (by rw [h256]; omega))
  · have hmc : m (D + 1 - 1) = c := hc
    refine rs_close h (by omega) hs h43 h45 hm (fun q1 _ q2 => hcm (hmc.symm.trans q2) q1) (fun _ q => hcl ?_) (fun q => hno (fun z => q ⟨by omega, ?_⟩))
    · rw [hmc] at q; omega
    · rw [hmc]; omega
theorem rs_factor {T : Nat → RS} {ok : Bool} {S : ms_T} {D k st : Nat} {m : Nat → Nat} (h : rM L t b S0 S D m) (hm : ∀ i, i < D → m i < 256) (hk : k ≤ t) (hs : st ≤ 1) (hok : ok = decide (D < 5)) (hT : okT t T) (hTx : D < 5 → TxM L t b S0 Q (D + 1) T) (hb : bgP L (bt t b k))
    (h1 : (facR L d (bt t b) X ok T k).1 = true → ∀ S', rM L t b S0 S' D m → RdW Q S' (facR L d (bt t b) X ok T k).2.1 1) (h0 : (facR L d (bt t b) X ok T k).1 = false → ∀ S', upM S0 S' → Q (nI (facR L d (bt t b) X ok T k).2.1) S') : RdW Q S k st := by
  have hD := h.2.2.2.2.2.1
  have hL4 := h.2.2.2.1
  unfold facR at h1 h0
  by_cases q1 : 48 ≤ bt t b k ∧ bt t b k ≤ 57
  · rw [if_pos q1] at h1
    exact rs_flat h hk hs rfl (Or.inl q1) (by rw [if_pos q1]; exact h1 rfl S h)
  rw [if_neg q1] at h1 h0
  by_cases q2 : 97 ≤ bt t b k ∧ bt t b k < 97 + L
  · rw [if_pos q2] at h1
    exact rs_flat h hk hs rfl (Or.inr q2) (by rw [if_neg q1]; exact h1 rfl S h)
  rw [if_neg q2] at h1 h0
  by_cases q3 : bt t b k = 114
  · rw [if_pos q3] at h1 h0
    refine rs_sum h hk hs q3 (fun e => ?_) (fun e => ?_)
    · rw [if_pos e] at h1
      exact h1 rfl S h
    · rw [if_neg e] at h0
      exact h0 rfl S h.1
  rw [if_neg q3] at h1 h0
  by_cases q4 : bt t b k = 91
  · rw [if_pos q4] at h1 h0
    have hkt := bt_t q4 (by decide)
    refine rs_br h hk hs q4 (fun e => ?_) (fun e => ?_)
    · have : ok = false := by rw [hok]; exact decide_eq_false (by omega)
      rw [if_pos this] at h0
      exact h0 rfl S h.1
    · have hokt : ¬ ok = false := by rw [hok, decide_eq_true e]; exact fun z => by cases z
      rw [if_neg hokt] at h1 h0
      have m1 : ∀ i, i < D + 1 → (fun i => if i = D then 91 else m i) i < 256 := fun i hi => by
        dsimp only
        by_cases ei : i = D
        · rw [if_pos ei]; decide
        · rw [if_neg ei]; exact hm i (by omega)
      have hT1 := hT (k + 1) hkt
      refine hTx e _ _ (k + 1) (rM_push (c := 91) h e) m1 hkt (fun r1 S2 st2 hr2 hs2 a43 a45 => ?_) (fun r1 S' hu => ?_)
      rotate_left
      · rw [if_pos r1] at h0
        exact h0 rfl S' hu
      rw [if_neg (by rw [r1]; decide)] at h1 h0
      refine rs_aft hr2 hT1.1 hs2 a43 a45 m1 (c := 91) (if_pos rfl) (Or.inl rfl) (fun _ e44 => ?_) (fun z => by omega) (fun z => ?_)
      rotate_left
      · rw [if_pos (fun e44 => z (Or.inl ⟨rfl, e44⟩))] at h0
        exact h0 rfl S2 hr2.1
      rw [if_neg (fun z => z e44)] at h1 h0
      have hk2 := bt_t e44 (by decide)
      have hr3 := rM_mark (c := 93) hr2 (Nat.succ_pos D)
      have m2 : ∀ i, i < D + 1 → (fun i => if i = D + 1 - 1 then 93 else (fun i => if i = D then 91 else m i) i) i < 256 := fun i hi => by
        dsimp only
        by_cases ei : i = D
        · rw [if_pos (by omega)]; decide
        · rw [if_neg (by omega), if_neg ei]; exact hm i (by omega)
      have hT2 := hT ((T (k + 1)).2.1 + 1) hk2
      refine hTx e _ _ ((T (k + 1)).2.1 + 1) hr3 m2 hk2 (fun r2 S4 st4 hr4 hs4 c43 c45 => ?_) (fun r2 S' hu => ?_)
      rotate_left
      · rw [if_pos r2] at h0
        exact h0 rfl S' hu
      rw [if_neg (by rw [r2]; decide)] at h1 h0
      refine rs_aft hr4 hT2.1 hs4 c43 c45 m2 (c := 93) (if_pos (by omega)) (Or.inr (Or.inl rfl)) (fun z _ => by omega) (fun z => ?_) (fun z => ?_)
      rotate_left
      · rw [if_pos (fun e93 => z (Or.inr (Or.inr ⟨rfl, e93⟩)))] at h0
        exact h0 rfl S4 hr4.1
      have e93 : bt t b (T ((T (k + 1)).2.1 + 1)).2.1 = 93 := by omega
      rw [if_neg (fun z => z e93)] at h1
      refine h1 rfl _ (rM_m (rM_pop hr4 (Nat.succ_pos D)) (fun i hi => ?_))
      rw [if_neg (by omega), if_neg (by omega)]
  rw [if_neg q4] at h1 h0
  have hc : bt t b k = 40 ∨ bt t b k = 69 ∨ bt t b k = 76 := by
    unfold bgP dgP ltP at hb
    omega
  refine rs_rd h hk hs hc (fun e => ?_) (fun e40 e => ?_)
  · have : bt t b (if bt t b k = 40 then k else k + 1) ≠ 40 ∨ ok = false := by
      cases e with
      | inl e => exact Or.inl e
      | inr e => exact Or.inr (by rw [hok]; exact decide_eq_false (by omega))
    rw [if_pos this] at h0
    exact h0 rfl S h.1
  · have hokt : ¬ (bt t b (if bt t b k = 40 then k else k + 1) ≠ 40 ∨ ok = false) := by
      rw [hok, decide_eq_true e]
      intro z
      cases z with
      | inl z => exact z e40
      | inr z => cases z
    rw [if_neg hokt] at h1 h0
    have m1 : ∀ i, i < D + 1 → (fun i => if i = D then 40 else m i) i < 256 := fun i hi => by
      dsimp only
      by_cases ei : i = D
      · rw [if_pos ei]; decide
      · rw [if_neg ei]; exact hm i (by omega)
    have hk1 := bt_t e40 (by decide)
    have hT1 := hT ((if bt t b k = 40 then k else k + 1) + 1) hk1
    refine hTx e _ _ _ (rM_push (c := 40) h e) m1 hk1 (fun r1 S2 st2 hr2 hs2 a43 a45 => ?_) (fun r1 S' hu => ?_)
    rotate_left
    · rw [if_pos r1] at h0
      exact h0 rfl S' hu
    rw [if_neg (by rw [r1]; decide)] at h1 h0
    refine rs_aft hr2 hT1.1 hs2 a43 a45 m1 (c := 40) (if_pos rfl) (Or.inr (Or.inr rfl)) (fun z _ => by omega) (fun z => ?_) (fun z => ?_)
    rotate_left
    · rw [if_pos (fun e41 => z (Or.inr (Or.inl ⟨rfl, e41⟩)))] at h0
      exact h0 rfl S2 hr2.1
    have e41 : bt t b (T ((if bt t b k = 40 then k else k + 1) + 1)).2.1 = 41 := by omega
    rw [if_neg (fun z => z e41)] at h1
    refine h1 rfl _ (rM_m (rM_pop hr2 (Nat.succ_pos D)) (fun i hi => ?_))
    rw [if_neg (by omega)]
end MH
