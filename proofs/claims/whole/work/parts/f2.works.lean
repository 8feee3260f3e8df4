/-! the reference's works: closing a frame -/
section WL
variable {L d t : Nat} {b : Nat → Nat} {S0 S : ms_T} {y : Nat → Nat → Kf} {D : Nat} {sg : Nat → Kf} {mk : Nat → Nat} {br : Int32} {Q : ms_T → Prop}
theorem nk_F {j : Nat} {v : Int32} (h : nk L d S y) (hj : 3 ≤ j) : nk L d (ms_sF S j v) y := by
  obtain ⟨⟨m1, m2, m3, m4, m5⟩, x, hx, hy⟩ := h
  refine ⟨⟨m1, ?_, ?_, ?_, m5⟩, x, hx, hy⟩
  · rw [sF_F, if_neg (by omega)]; exact m2
  · rw [sF_F, if_neg (by omega)]; exact m3
  · rw [sF_F, if_neg (by omega)]; exact m4
theorem wM_9 (h : wM L d t b S0 S y (D + 1) sg mk br) : wM L d t b S0 (ms_sF S 9 (S.1 9 - 1)) y D sg mk br := by
  obtain ⟨h1, h2, h3, h4, h5, h6, h7⟩ := h
  refine ⟨upW_tr h1 ⟨fun j a c => ?_, fun _ _ => rfl, fun _ _ _ => rfl⟩, h2, nk_F h3 (by decide), ?_, by omega, ?_, fun i hi => h7 i (by omega)⟩
  · rw [sF_F, if_neg a]
  · rw [sF_F, if_pos rfl, h4, show (1 : Int32) = nI 1 from rfl, pk_sub (by omega)]; rfl
  · rw [sF_F, if_neg (by decide)]; exact h6
theorem wM_10 {v : Int32} (h : wM L d t b S0 S y D sg mk br) : wM L d t b S0 (ms_sF S 10 v) y D sg mk v := by
  obtain ⟨h1, h2, h3, h4, h5, h6, h7⟩ := h
  refine ⟨upW_tr h1 ⟨fun j a c => ?_, fun _ _ => rfl, fun _ _ _ => rfl⟩, h2, nk_F h3 (by decide), ?_, h5, ?_, h7⟩
  · rw [sF_F, if_neg c]
  · rw [sF_F, if_neg (by decide)]; exact h4
  · rw [sF_F, if_pos rfl]
noncomputable def clV (L d a c : Nat) (Lf V : Nat → Kf) : Option (Nat → Kf) := if a = 93 then some (fun j => mulK L d Lf V j + mulK L d V Lf j * kN 2147483646) else rdO L d c V
def kpC (D : Nat) : Nat → Prop := fun s => (8 ≤ s ∧ s ≤ 12) ∨ s = 14 + 3 * D + 1 ∨ 14 + 3 * (D + 1) ≤ s
def pstC (L d t : Nat) (b : Nat → Nat) (S0 : ms_T) (y : Nat → Nat → Kf) (D : Nat) (sg : Nat → Kf) (mk : Nat → Nat) (o : Option (Nat → Kf)) (Q : ms_T → Prop) : Prop :=
  ∀ S' y' br', wM L d t b S0 S' y' D sg mk br' → kp L d (kpC D) y y' → (∀ u, o = some u → br' = 0 ∧ eqW L d (y' (14 + 3 * D + 1)) (mulK L d (y (14 + 3 * D + 1)) u)) → (o = none → br' = 1) → Q S'
theorem wk_168 {o : Option (Nat → Kf)} {y0 : Nat → Nat → Kf} (h : wM L d t b S0 S y (D + 1) sg mk br) (hk : kp L d (kpC D) y0 y) (hs1 : eqW L d (y (14 + 3 * D + 1)) (y0 (14 + 3 * D + 1))) (hs : ∀ u, o = some u → br = 0 ∧ eqW L d (y 8) u) (hn : o = none → br = 1) (hq : pstC L d t b S0 y0 D sg mk o Q) : wp_X8_closes_168 Q S := by
  have hL := (nk_W h.2.2.1).2
  refine wk_factor (wM_9 h) (fun S1 y1 h1 hk1 e1 => ?_)
  refine hq S1 y1 br h1 (kp_tr hk (kp_w hk1 (fun s hs => by unfold kpC; omega))) (fun u hu => ⟨(hs u hu).1, ?_⟩) hn
  exact eqW_tr e1 (mulK_c hL hs1 (hs u hu).2)
theorem wk_141 {o : Option (Nat → Kf)} {y0 : Nat → Nat → Kf} {how : Nat} (h : wM L d t b S0 S y (D + 1) sg mk br) (hh : how < 2) (hk : kp L d (kpC D) y0 y) (hs1 : eqW L d (y (14 + 3 * D + 1)) (y0 (14 + 3 * D + 1))) (hs : ∀ u, o = some u → br = 0 ∧ eqW L d (serK L d how (nzK (y (14 + 3 * (D + 1))))) u) (hn : o = none → br = 1) (hq : pstC L d t b S0 y0 D sg mk o Q) : wp_X8_closes_141 Q S (nI (14 + 3 * (D + 1) + 1)) (nI (14 + 3 * (D + 1))) (nI how) := by
  have hD := h.2.2.2.2.1
  refine nk_series h.2.2.1 (by omega) (by omega) (by omega) (fun S1 y1 hu1 hk1 e1 hn1 => ?_)
  have h1 := wM_S h hu1 hn1
  refine wk_slot (j := 1) h1.2.2.2.1 (nk_copies (s := 8) hn1 (by decide) (by omega) (fun S2 r2 hu2 e2 hn2 => ?_))
  refine wk_168 (wM_S h1 hu2 hn2) (kp_tr hk (fun s hs hns => ?_)) ?_ (fun u hu => ⟨(hs u hu).1, ?_⟩) hn hq
  · unfold kpC at hns
    rw [va_up_ne _ _ (by omega)]
    exact hk1 s hs (by omega) (by omega) (by omega) (by omega) (by omega)
  · rw [va_up_ne _ _ (by omega)]
    exact eqW_tr (hk1 _ (by omega) (by omega) (by omega) (by omega) (by omega) (by omega)) hs1
  · rw [va_up_self]
    exact eqW_tr e2 (eqW_tr e1 (hs u hu).2)
end WL
