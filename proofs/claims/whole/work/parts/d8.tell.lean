/-! the class's tell -/
section RH
variable {L d : Nat} {Ln : Nat → Nat} {t : Nat} {b : Nat → Nat} {X : Nat → Nat → Kf}
def upQ (S S' : cs_T) : Prop := (∀ j, j ≠ 5 → j ≠ 6 → j ≠ 7 → j ≠ 8 → S'.1 j = S.1 j) ∧ S'.2.2 = S.2.2 ∧ ∀ k, ¬ kV k → S'.2.1 k = S.2.1 k
theorem upQ_R {S S' : cs_T} (h : upR S S') : upQ S S' := ⟨fun j _ a b c => h.1 j a b c, h.2⟩
theorem upQ_tr {S S1 S2 : cs_T} (h : upQ S S1) (h1 : upQ S1 S2) : upQ S S2 := ⟨fun j a b c e => (h1.1 j a b c e).trans (h.1 j a b c e), h1.2.1.trans h.2.1, fun k a => (h1.2.2 k a).trans (h.2.2 k a)⟩
theorem upQ_5 {S : cs_T} {v : Int32} : upQ S (cs_sF S 5 v) := ⟨fun i a _ _ _ => sF_o a, rfl, fun _ _ => rfl⟩
theorem ct_fault {S0 S : cs_T} {g0 g : Nat → Nat → Kf} {f : Nat} {i : Nat} {Q : Int32 → cs_T → Prop} (hf : f ≤ 100) (hu : upR S0 S) (hc : cv L d Ln S g) (he : eq7 g0 g) (h7 : S.1 7 = nI f) (hq : ∀ S' g', upQ S0 S' → cv L d Ln S' g' → S'.1 5 = 0 → eq7 g0 g' → Q (-10 - nI f) S') : wp_X4_tell_46 Ln Q S i := by
  have h75 : (cs_sF S 5 0).1 7 = nI f := by rw [sF_o (by decide)]; exact h7
  have h := hq (cs_sF S 5 0) g (upQ_tr (upQ_R hu) upQ_5) (cv_F hc (by decide)) sF_s he
  unfold wp_X4_tell_46
  rw [h75]
  exact ⟨fun z => absurd z (nI_nl hf), fun _ => h⟩
theorem cq_tell {S : cs_T} {g : Nat → Nat → Kf} {i : Nat} {Q : Int32 → cs_T → Prop} (h : cv L d Ln S g) (htp : tpC Ln t b S) (hX : smR L d X g) (hi : i < 8)
    (hF : (TX L d (bt t b) X 6 0).1 = false ∨ (TX L d (bt t b) X 6 0).2.1 < t → ∀ S' g', upQ S S' → cv L d Ln S' g' → S'.1 5 = 0 → eq7 g g' → Q (-10 - nI (TX L d (bt t b) X 6 0).2.1) S')
    (hN : (TX L d (bt t b) X 6 0).1 = true → (TX L d (bt t b) X 6 0).2.1 = t → (TX L d (bt t b) X 6 0).2.2 = none → ∀ S' g', upQ S S' → cv L d Ln S' g' → S'.1 5 = 0 → eq7 g g' → Q (-9) S')
    (hS : ∀ v, (TX L d (bt t b) X 6 0).1 = true → (TX L d (bt t b) X 6 0).2.1 = t → (TX L d (bt t b) X 6 0).2.2 = some v → ∀ S' g', upQ S S' → cv L d Ln S' g' → S'.1 5 = 0 → (∀ k, 7 ≤ k → k ≤ 14 → k ≠ 7 + i → g' k = g k) → eqW L d (g' (7 + i)) v → Q 0 S') : wp_X4_tell Ln S (7 + i) Q := by
  have hL4 := (cf_L h.1.1).2
  have ht := htp.2.1
  have hpl := TX_pl (L := L) (d := d) (t := t) (b := b) (X := X) hL4 6 0 (Nat.zero_le _)
  have u0 : upR S (cs_sF (cs_sF (cs_sF S 6 0) 7 (-1)) 8 0) := upR_tr (upR_F (Or.inl rfl)) (upR_tr (upR_F (Or.inr (Or.inl rfl))) (upR_F (Or.inr (Or.inr rfl))))
  have hr : rdC L d Ln t b (cs_sF (cs_sF (cs_sF S 6 0) 7 (-1)) 8 0) g 0 0 := by
    refine ⟨cv_F (cv_F (cv_F h (by decide)) (by decide)) (by decide), tp_up htp u0, ?_, Nat.zero_le _, ?_, sF_s⟩
    · rw [sF_o (by decide), sF_o (by decide), sF_s]; rfl
    · rw [sF_o (by decide), sF_s]
  refine cr_text (m := 2) hL4 5 (Nat.le_refl _) _ g 0 0 _ hr hX (fun q S1 g1 lk1 hu1 hr1 hf1 ha1 => ⟨fun z => ?_, fun _ => ⟨fun z => ?_, fun z => ?_⟩⟩) (fun q S1 g1 hu1 hc1 he1 h7 => ⟨fun _ => ?_, fun z => ?_⟩)
  · exact absurd z (by rw [hr1.2.2.2.2.1]; decide)
  · rw [hr1.2.1.2.2.1, hr1.2.2.1] at z
    have et : (TX L d (bt t b) X 6 0).2.1 = t := by
      by_cases e : (TX L d (bt t b) X 6 0).2.1 = t
      · exact e
      · exact absurd z (nI_ge (a := (TX L d (bt t b) X 6 0).2.1) (b := t) (by omega) (by omega))
    have h57 : (cs_sF S1 5 0).1 7 = -1 := by rw [sF_o (by decide)]; exact hr1.2.2.2.2.1
    have h58 : (cs_sF S1 5 0).1 8 = lk1 := by rw [sF_o (by decide)]; exact hr1.2.2.2.2.2
    unfold wp_X4_tell_46
    rw [h57, h58]
    have u5 : upQ S (cs_sF S1 5 0) := upQ_tr (upQ_R (upR_tr u0 hu1)) upQ_5
    have c5 : cv L d Ln (cs_sF S1 5 0) g1 := cv_F hr1.1 (by decide)
    refine ⟨fun _ => ?_, fun z => absurd (by decide) z⟩
    cases hv : (TX L d (bt t b) X 6 0).2.2 with
    | none =>
      have e1 : lk1 = 1 := ha1.2 hv
      rw [e1]
      exact ⟨fun z => absurd z (by decide), fun _ => hN q et hv _ g1 u5 c5 sF_s (eq7_R hf1)⟩
    | some v =>
      obtain ⟨e1, e2⟩ := ha1.1 v hv
      rw [e1]
      refine ⟨fun _ => rq_wh (lv := 0) (by decide) (cq_copy c5 (by unfold kV; omega) (by unfold kV; omega) (fun S2 hu2 hc2 => ?_)), fun z => absurd rfl z⟩
      refine hS v q et hv S2 _ (upQ_tr u5 (upQ_R (upR_V hu2))) hc2 (by rw [hu2.1]; exact sF_s) (fun k h1 h2 h3 => ?_) ?_
      · rw [va_up_ne _ _ h3]
        exact eq7_R hf1 k h1 h2
      · rw [va_up_self]
        exact e2
  · rw [hr1.2.1.2.2.1, hr1.2.2.1] at z
    have et : (TX L d (bt t b) X 6 0).2.1 < t := by
      by_cases e : (TX L d (bt t b) X 6 0).2.1 < t
      · exact e
      · exact absurd (nI_le (a := t) (b := (TX L d (bt t b) X 6 0).2.1) (by omega) (by omega)) z
    exact ct_fault (f := (TX L d (bt t b) X 6 0).2.1) (by omega) (upR_tr u0 (upR_tr hu1 (upR_F (Or.inr (Or.inl rfl))))) (cv_F hr1.1 (by decide)) (eq7_R hf1) (by rw [sF_s]; exact hr1.2.2.1) (hF (Or.inr et))
  · exact ct_fault (f := (TX L d (bt t b) X 6 0).2.1) (by omega) (upR_tr u0 hu1) hc1 he1 h7 (hF (Or.inl q))
  · exact absurd (nI_le (a := 0) (b := (TX L d (bt t b) X 6 0).2.1) (Nat.zero_le _) (by omega)) (by rw [h7] at z; exact z)
end RH
