/-! the reference's works: one byte's step -/
def WkW (t : Nat) (Q : ms_T → Prop) (S : ms_T) (k : Nat) : Prop := ∀ n, t < n + k → wp_X8_works_18 Q n S (nI k)
section WS
variable {L d t : Nat} {b : Nat → Nat} {S0 S : ms_T} {y : Nat → Nat → Kf} {D : Nat} {sg : Nat → Kf} {mk : Nat → Nat} {br : Int32} {Q : ms_T → Prop}
theorem wM_bb (h : wM L d t b S0 S y D sg mk br) : ∀ i, i < t → b i < 256 := fun i hi => (h.2.1.2.2 i hi).2
theorem ws_353 {n k j : Nat} {S' : ms_T} (hn : t < n + 1 + k) (hj : 1 ≤ j) (hq : WkW t Q S' (k + j)) : wp_X8_works_353 (wp_X8_works_18 Q n) Q S' (nI k) (nI j) := by
  rintro _ rfl
  rw [nI_add]
  exact hq n (by omega)
theorem ws_end (h : wM L d t b S0 S y D sg mk br) (hq : ∀ S' y', wM L d t b S0 S' y' D sg mk br → kp L d (fun s => s = 14 + 3 * D ∨ s = 14 + 3 * D + 1) y y' → eqW L d (y' (14 + 3 * D)) (fun w => y (14 + 3 * D) w + y (14 + 3 * D + 1) w * sg D) → Q S') : WkW t Q S t := by
  intro n hn
  have ht := h.2.1.2.1
  match n, hn with
  | 0, hn => exact absurd hn (by omega)
  | n + 1, hn =>
    exact ⟨fun _ => wk_closesTerm h (fun S1 y1 h1 hk1 e0 _ => hq S1 y1 h1 hk1 e0), fun z => absurd (by rw [(wM_tap h).1]; exact nI_le (a := t) (b := t) (Nat.le_refl _) (by omega)) z⟩
theorem ws_broken {k : Nat} (h : wM L d t b S0 S y D sg mk 1) (hq : ∀ S' y', wM L d t b S0 S' y' D sg mk 1 → kp L d (fun s => s = 14 + 3 * D ∨ s = 14 + 3 * D + 1) y y' → Q S') (hk : k ≤ t) : WkW t Q S k := by
  intro n hn
  match n, hn with
  | 0, hn => exact absurd hn (by omega)
  | n + 1, hn =>
    have f := wk_closesTerm (Q := Q) h (fun S1 y1 h1 hk1 _ _ => hq S1 y1 h1 hk1)
    exact ⟨fun _ => f, fun _ => ⟨fun _ => f, fun z => absurd (h.2.2.2.2.2.1.symm.trans z) (by decide)⟩⟩
theorem ws_head {k : Nat} (h : wM L d t b S0 S y D sg mk 0) (hk : k < t) : ∀ {P : Int32 → ms_T → Prop} {A B : Prop}, P (hvI t b k) S → (S.1 7 ≤ nI k → A) ∧ (¬ S.1 7 ≤ nI k → (¬ S.1 10 = 0 → B) ∧ (S.1 10 = 0 → wp_X8_byteAt S (nI k) P)) := fun {P A B} hq => by
  have ht := h.2.1.2.1
  refine ⟨fun z => ?_, fun _ => ⟨fun z => absurd h.2.2.2.2.2.1 z, fun _ => mr_byte (wM_tap h) (by omega) hq⟩⟩
  rw [(wM_tap h).1] at z
  exact absurd z (nI_ge (a := k) (b := t) (by omega) (by omega))
def postW (L d t : Nat) (b : Nat → Nat) (S0 : ms_T) (y : Nat → Nat → Kf) (D : Nat) (sg : Nat → Kf) (mk : Nat → Nat) (v : Nat → Kf) (Q : ms_T → Prop) : Prop :=
  ∀ S' y', wM L d t b S0 S' y' D sg mk 0 → kp L d (fun s => s = 8 ∨ s = 9 ∨ s = 14 + 3 * D + 1) y y' → eqW L d (y' (14 + 3 * D + 1)) (mulK L d (y (14 + 3 * D + 1)) v) → Q S'
theorem wk_fac8 {r v : Nat → Kf} {S' : ms_T} (h : wM L d t b S0 S' (va_up y 8 r) D sg mk 0) (hr : eqW L d r v) (hq : postW L d t b S0 y D sg mk v Q) : wp_X8_factor S' Q := by
  have hL := (nk_W h.2.2.1).2
  have hD := h.2.2.2.2.1
  refine wk_factor h (fun S1 y1 h1 hk1 e1 => hq S1 y1 h1 (kp_tr (kp_u (Or.inl rfl)) (kp_w hk1 (fun s hs => by omega))) ?_)
  rw [va_up_self, va_up_ne _ _ (by omega)] at e1
  exact eqW_tr e1 (mulK_c hL eqW_rf hr)
theorem wM_set8 {w0 : Nat} {c : Kf} {r : Nat → Kf} (h : wM L d t b S0 S (va_up y 8 r) D sg mk br) (hw : w0 < ofs L (d + 1)) : wM L d t b S0 (ms_sJ S 0 (2912 + w0) (kL c)) (va_up y 8 (fun w => if w = w0 then c else r w)) D sg mk br := by
  have hn := nk_set (s := 8) (w0 := w0) (c := c) h.2.2.1 (by decide) hw
  have e : va_up (va_up y 8 r) 8 (fun w => if w = w0 then c else va_up y 8 r 8 w) = va_up y 8 (fun w => if w = w0 then c else r w) := by
    funext s
    by_cases q : s = 8
    · rw [q, va_up_self, va_up_self, va_up_self]
    · rw [va_up_ne _ _ q, va_up_ne _ _ q, va_up_ne _ _ q]
  rw [e] at hn
  exact wM_S h ⟨rfl, rfl, fun k hk => va_up_ne _ _ hk⟩ hn
theorem ws_num {k : Nat} (h : wM L d t b S0 S y D sg mk 0) (hk : k < t) (hd : dgP (bt t b k)) (hq : postW L d t b S0 y D sg mk (unitK (kN (nmv (bt t b) k (dgn (bt t b) 4 k)))) (fun S' => WkW t Q S' (k + dgn (bt t b) 4 k))) : WkW t Q S k := by
  intro n hn
  have ht := h.2.1.2.1
  have hpos := dgn_pos (f := bt t b) hd
  have hle := dgn_le (f := bt t b) 4 k
  match n, hn with
  | 0, hn => exact absurd hn (by omega)
  | n + 1, hn =>
    refine ws_head h hk (mr_digit (wM_bb h) (fun _ => ⟨fun z => absurd z (by decide), fun _ => mr_digits (wM_tap h) (by omega) ?_⟩) (fun q => absurd hd q))
    refine nk_clears (s := 8) h.2.2.1 (by decide) (fun S1 hu1 hn1 => ?_)
    have h1 := wM_S h hu1 hn1
    refine wk_number (wM_tap h1) (by omega) hle (fun i hi => dgn_dg 4 k i hi) ⟨vp_in_nI (n := 2912) (by decide) (by decide), ?_⟩
    have hnm : nmv (bt t b) k (dgn (bt t b) 4 k) < 10000 := Nat.lt_of_lt_of_le (nmv_lt _ (fun i hi => (dgn_dg 4 k i hi).2)) (Nat.pow_le_pow_right (by decide) hle)
    rw [← kI_N (show nmv (bt t b) k (dgn (bt t b) 4 k) < PR by unfold PR; omega), kl_of]
    exact wk_fac8 (wM_set8 (w0 := 0) h1 (nk_W0 h.2.2.1)) eqW_rf (fun S2 y2 h2 hk2 e2 => ws_353 hn hpos (hq S2 y2 h2 hk2 e2))
theorem ws_sum {k : Nat} (h : wM L d t b S0 S y D sg mk 0) (hk : k < t) (hc : bt t b k = 114) (h1 : 48 ≤ bt t b (k + 1)) (h2 : bt t b (k + 1) ≤ 55) (hq : postW L d t b S0 y D sg mk (y (bt t b (k + 1) - 48)) (fun S' => WkW t Q S' (k + 2))) : WkW t Q S k := by
  intro n hn
  have ht := h.2.1.2.1
  match n, hn with
  | 0, hn => exact absurd hn (by omega)
  | n + 1, hn =>
    refine ws_head h hk (mr_digit (wM_bb h) (fun q => absurd q (by rw [hc]; unfold dgP; omega)) (fun _ => ⟨fun _ => mr_ch' (c := 114) (wM_bb h) (by decide) (fun _ => ?_) (fun e => absurd hc e), fun z => absurd rfl z⟩))
    rw [nI_1]
    have hkt : k + 1 < t := bt_t (t := t) (b := b) rfl (show bt t b (k + 1) < 256 by omega)
    have hv : hvI t b (k + 1) = nI (bt t b (k + 1)) := by
      rw [show bt t b (k + 1) = b (k + 1) from if_pos hkt]; exact if_pos hkt
    refine mr_byte (wM_tap h) (by omega) ?_
    rw [hv, show (48 : Int32) = nI 48 from rfl, pk_sub h1]
    refine nk_copies (s := 8) h.2.2.1 (by decide) (by omega) (fun S1 r1 hu1 e1 hn1 => ?_)
    exact wk_fac8 (wM_S h hu1 hn1) e1 (fun S2 y2 h2 hk2 e2 => ws_353 (j := 2) hn (by decide) (hq S2 y2 h2 hk2 e2))
end WS
