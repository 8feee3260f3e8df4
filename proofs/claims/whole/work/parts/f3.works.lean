/-! the reference's works: closes -/
section WN
variable {L d t : Nat} {b : Nat → Nat} {S0 S : ms_T} {y : Nat → Nat → Kf} {D : Nat} {sg : Nat → Kf} {mk : Nat → Nat} {br : Int32} {Q : ms_T → Prop}
theorem kL_1 {a : Kf} : kL a = 1 ↔ a = 1 := by
  refine ⟨fun h => ?_, fun h => by rw [h]; rfl⟩
  have e : (kL a).toInt32 = (1 : Int64).toInt32 := by rw [h]
  unfold kL at e
  rw [lN_i] at e
  exact k_inj.mp (e.trans (by decide))
theorem nk_cell {s w : Nat} (h : nk L d S y) (hs : s < 36) (hw : w < ofs L (d + 1)) : S.2.2 0 (364 * s + w) = kL (y s w) := by
  have hW := (nk_W h).1
  obtain ⟨hm, x, hx, hy⟩ := h
  obtain ⟨h1, h2⟩ := hx (364 * s + w) (by omega)
  rw [h1, ← hy s w hs hw]
  unfold kL rwK
  rw [kN_v h2]
theorem nk_W0 (h : nk L d S y) : 0 < ofs L (d + 1) := by
  have h1 : ofs L 1 ≤ ofs L (d + 1) := ofs_mono (by omega)
  have h2 : ofs L 1 = 1 := by show 0 + L ^ 0 = 1; rw [Nat.pow_zero]
  omega
theorem wk_117 {o : Option (Nat → Kf)} {y0 : Nat → Nat → Kf} {c : Nat} {s0 : Int32} (h : wM L d t b S0 S y (D + 1) sg mk br) (hc : c = 69 ∨ c = 76) (h01 : s0 = 0 ∨ s0 = 1) (hk : kp L d (kpC D) y0 y) (hs1 : eqW L d (y (14 + 3 * D + 1)) (y0 (14 + 3 * D + 1))) (hs : ∀ u, o = some u → s0 = 0 ∧ eqW L d (serK L d (if c = 69 then 0 else 1) (nzK (y (14 + 3 * (D + 1))))) u) (hn : o = none → s0 = 1) (hq : pstC L d t b S0 y0 D sg mk o Q) : wp_X8_closes_117 Q S (nI (14 + 3 * (D + 1))) (nI c) s0 := by
  have h1 := wM_10 (v := s0) h
  refine ⟨h01, wk_slot (j := 1) h1.2.2.2.1 ⟨fun z => ?_, fun z => ?_⟩⟩
  · have e : c ≠ 69 := fun e => z (by rw [e]; rfl)
    rw [if_neg e] at hs
    exact wk_141 (how := 1) h1 (by decide) hk hs1 hs hn hq
  · have e : c = 69 := (nI_eq (a := c) (b := 69) (by omega) (by omega)).mp z
    rw [if_pos e] at hs
    exact wk_141 (how := 0) h1 (by decide) hk hs1 hs hn hq
theorem wk_79 {y0 : Nat → Nat → Kf} {c : Nat} {V : Nat → Kf} (h : wM L d t b S0 S y (D + 1) sg mk 0) (hc : c = 69 ∨ c = 76) (hk : kp L d (kpC D) y0 y) (hs1 : eqW L d (y (14 + 3 * D + 1)) (y0 (14 + 3 * D + 1))) (hV : eqW L d (y (14 + 3 * (D + 1))) V) (hq : pstC L d t b S0 y0 D sg mk (rdO L d c V) Q) : wp_X8_closes_79 Q S (nI (14 + 3 * (D + 1))) (nI c) := by
  have hD := h.2.2.2.2.1
  have hL := (nk_W h.2.2.1).2
  have hW0 := nk_W0 h.2.2.1
  have hcell : S.2.2 0 (364 * (14 + 3 * (D + 1))) = kL (V 0) := by
    rw [← hV 0 hW0]
    exact nk_cell (s := 14 + 3 * (D + 1)) (w := 0) h.2.2.1 (by omega) hW0
  have e364 : (364 : Int32) * nI (14 + 3 * (D + 1)) = nI (364 * (14 + 3 * (D + 1))) := by rw [show (364 : Int32) = nI 364 from rfl, pk_mul]
  unfold wp_X8_closes_79
  refine ⟨fun z => absurd h.2.2.2.2.2.1 z, fun _ => ?_⟩
  rw [e364, nI_clamp (by omega), hcell]
  have er : rdO L d c V = if c = 69 then (if V 0 = 0 then some (serK L d 0 (nzK V)) else none) else (if V 0 = 1 then some (serK L d 1 (nzK V)) else none) := by
    unfold rdO elO
    dsimp only
    rw [if_neg (by omega)]
  rw [er] at hq
  refine ⟨vp_in_nI (by omega) (by decide), fun z => ?_, fun z => ?_⟩
  · have e : c ≠ 69 := fun e => z (by rw [e]; rfl)
    rw [if_neg e] at hq
    refine ⟨fun q => ?_, fun q => ?_⟩
    · rw [if_pos (kL_1.mp q)] at hq
      refine wk_117 h hc (Or.inl rfl) hk hs1 (fun u hu => ⟨rfl, ?_⟩) (fun z => by cases z) hq
      injection hu with hu
      rw [if_neg e, ← hu]
      exact serK_c hL (nzK_c hV)
    · rw [if_neg (fun q2 => q (kL_1.mpr q2))] at hq
      exact wk_117 h hc (Or.inr rfl) hk hs1 (fun u hu => by cases hu) (fun _ => rfl) hq
  · have e : c = 69 := (nI_eq (a := c) (b := 69) (by omega) (by omega)).mp z
    rw [if_pos e] at hq
    refine ⟨fun q => ?_, fun q => ?_⟩
    · rw [if_pos (kL_z.mp q)] at hq
      refine wk_117 h hc (Or.inl rfl) hk hs1 (fun u hu => ⟨rfl, ?_⟩) (fun z => by cases z) hq
      injection hu with hu
      rw [if_pos e, ← hu]
      exact serK_c hL (nzK_c hV)
    · rw [if_neg (fun q2 => q (kL_z.mpr q2))] at hq
      exact wk_117 h hc (Or.inr rfl) hk hs1 (fun u hu => by cases hu) (fun _ => rfl) hq
theorem wk_closes {a : Nat} (h : wM L d t b S0 S y (D + 1) sg mk 0) (ha : a = 93 ∨ (a = 41 ∧ (mk (D + 1) = 40 ∨ mk (D + 1) = 69 ∨ mk (D + 1) = 76))) (hq : pstC L d t b S0 y D sg mk (clV L d a (mk (D + 1)) (y (14 + 3 * (D + 1) + 2)) (fun w => y (14 + 3 * (D + 1)) w + y (14 + 3 * (D + 1) + 1) w * sg (D + 1))) Q) : wp_X8_closes S (nI a) Q := by
  have hD := h.2.2.2.2.1
  have hL := (nk_W h.2.2.1).2
  refine wk_closesTerm h (fun S1 y1 h1 hk1 e0 e1 => wk_slot (j := 0) h1.2.2.2.1 ⟨by rw [h1.2.2.2.1]; exact vp_in_nI (by omega) (by decide), ?_⟩)
  have emk : S1.2.1 13 (S1.1 9).toNatClampNeg = nI (mk (D + 1)) := by
    rw [h1.2.2.2.1, nI_clamp (by omega)]
    exact (h1.2.2.2.2.2.2 (D + 1) (Nat.le_refl _)).2
  rw [emk]
  rintro _ rfl
  have hkC : kp L d (kpC D) y y1 := kp_w hk1 (fun s hs => by unfold kpC; omega)
  have hs1 : eqW L d (y1 (14 + 3 * D + 1)) (y (14 + 3 * D + 1)) := hk1 _ (by omega) (by omega)
  refine ⟨fun z => ?_, fun z => ?_⟩
  · have ea : a = 41 ∧ (mk (D + 1) = 40 ∨ mk (D + 1) = 69 ∨ mk (D + 1) = 76) := by
      cases ha with
      | inl e => exact absurd (by rw [e]; rfl) z
      | inr e => exact e
    have ecl : ∀ Lf V, clV L d a (mk (D + 1)) Lf V = rdO L d (mk (D + 1)) V := fun Lf V => if_neg (by omega)
    rw [ecl] at hq
    have f79 : mk (D + 1) = 69 ∨ mk (D + 1) = 76 → wp_X8_closes_79 Q S1 (nI (14 + 3 * (D + 1))) (nI (mk (D + 1))) := fun e => wk_79 h1 e hkC hs1 e0 hq
    refine ⟨fun q => f79 (Or.inl ((nI_eq (a := mk (D + 1)) (b := 69) (by omega) (by omega)).mp q)), fun q69 => ⟨fun q76 => ?_, fun q => f79 (Or.inr ((nI_eq (a := mk (D + 1)) (b := 76) (by omega) (by omega)).mp q))⟩⟩
    have e40 : mk (D + 1) = 40 := by
      have n69 : mk (D + 1) ≠ 69 := fun e => q69 (by rw [e]; rfl)
      have n76 : mk (D + 1) ≠ 76 := fun e => q76 (by rw [e]; rfl)
      omega
    refine nk_copies (s := 8) h1.2.2.1 (by decide) (by omega) (fun S2 r2 hu2 e2 hn2 => ?_)
    refine wk_168 (wM_S h1 hu2 hn2) (kp_tr hkC (kp_u (by unfold kpC; omega))) (by rw [va_up_ne _ _ (by omega)]; exact hs1) (fun u hu => ⟨rfl, ?_⟩) (fun e => ?_) hq
    · unfold rdO at hu
      rw [if_pos e40] at hu
      injection hu with hu
      rw [va_up_self, ← hu]
      exact eqW_tr e2 e0
    · unfold rdO at e
      rw [if_pos e40] at e
      cases e
  · have ea : a = 93 := by
      cases ha with
      | inl e => exact e
      | inr e => exact absurd z (by rw [e.1]; decide)
    have ecl : ∀ Lf V, clV L d a (mk (D + 1)) Lf V = some (fun j => mulK L d Lf V j + mulK L d V Lf j * kN 2147483646) := fun Lf V => if_pos ea
    rw [ecl] at hq
    refine wk_slot (j := 1) h1.2.2.2.1 (wk_slot (j := 2) h1.2.2.2.1 (nk_bracketOf h1.2.2.1 (by omega) (by omega) (by omega) (by omega) (by omega) (by omega) (by omega) (fun S2 y2 hu2 hk2 e2 hn2 => ?_)))
    have h2 := wM_S h1 hu2 hn2
    refine wk_slot (j := 1) h2.2.2.2.1 (nk_copies (s := 8) hn2 (by decide) (by omega) (fun S3 r3 hu3 e3 hn3 => ?_))
    have hk2' : kp L d (kpC D) y1 y2 := fun s hs hns => by
      unfold kpC at hns
      exact hk2 s hs (by omega) (by omega) (by omega)
    refine wk_168 (wM_S h2 hu3 hn3) (kp_tr (kp_tr hkC hk2') (kp_u (by unfold kpC; omega))) ?_ (fun u hu => ⟨rfl, ?_⟩) (fun e => by cases e) hq
    · rw [va_up_ne _ _ (by omega)]
      exact eqW_tr (hk2 _ (by omega) (by omega) (by omega) (by omega)) hs1
    · injection hu with hu
      rw [va_up_self, ← hu]
      refine eqW_tr e3 (eqW_tr (e2 (by omega) (by omega)) (fun w hw => ?_))
      have el : eqW L d (y1 (14 + 3 * (D + 1) + 2)) (y (14 + 3 * (D + 1) + 2)) := hk1 _ (by omega) (by omega)
      show mulK L d (y1 (14 + 3 * (D + 1) + 2)) (y1 (14 + 3 * (D + 1))) w + mulK L d (y1 (14 + 3 * (D + 1))) (y1 (14 + 3 * (D + 1) + 2)) w * kN 2147483646 = _
      rw [mulK_c hL el e0 w hw, mulK_c hL e0 el w hw]
end WN
