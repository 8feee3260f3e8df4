/-! the reference's works: the other bytes' steps -/
section WT
variable {L d t : Nat} {b : Nat → Nat} {S0 S : ms_T} {y : Nat → Nat → Kf} {D : Nat} {sg : Nat → Kf} {mk : Nat → Nat} {br : Int32} {Q : ms_T → Prop}
theorem hv_bt {k : Nat} (hk : k < t) : hvI t b k = nI (bt t b k) := by
  rw [show bt t b k = b k from if_pos hk]; exact if_pos hk
theorem wM_sg {s : Kf} {v : Int64} (h : wM L d t b S0 S y D sg mk br) (hv : v = kL s) : vp_in (S.1 9) 8 ∧ wM L d t b S0 (ms_sJ S 8 (S.1 9).toNatClampNeg v) y D (fun i => if i = D then s else sg i) mk br := by
  obtain ⟨h1, h2, h3, h4, h5, h6, h7⟩ := h
  rw [h4, nI_clamp (by omega)]
  refine ⟨vp_in_nI (by omega) (by decide), upW_tr h1 ⟨fun j a c => rfl, fun k a => rfl, fun k a c => va_up_ne _ _ c⟩, h2, ?_, h4, h5, h6, fun i hi => ⟨?_, (h7 i hi).2⟩⟩
  · obtain ⟨⟨m1, m2, m3, m4, m5, m6, m7⟩, x, hx, hy⟩ := h3
    exact ⟨⟨m1, m2, m3, m4, m5, m6, m7⟩, x, fun j hj => hx j hj, hy⟩
  · show va_up S.2.2 8 (vp_updL (S.2.2 8) D v) 8 i = kL (if i = D then s else sg i)
    rw [va_up_self]
    unfold vp_updL
    by_cases e : i = D
    · rw [if_pos e, if_pos e]; exact hv
    · rw [if_neg e, if_neg e]; exact (h7 i hi).1
theorem lt_row {c : Nat} (hd : 1 ≤ d) (hc : c < L) : eqW L d (fun w => if w = ofs L 1 + c then (1 : Kf) else 0) (plK L d (lt2 c)) := fun w hw => by
  obtain ⟨n, v, hn, hv, rfl⟩ := pl_ex hw
  rw [plK_at hn hv]
  unfold lt2
  dsimp only
  by_cases e : n = 1 ∧ v = c
  · rw [if_pos e, if_pos (by rw [e.1, e.2])]
  · rw [if_neg e, if_neg (fun q => e (place_inj hv (by rw [Nat.pow_one]; exact hc) q))]
theorem ws_letter {k : Nat} (h : wM L d t b S0 S y D sg mk 0) (hk : k < t) (hc : ltP L (bt t b k)) (hq : postW L d t b S0 y D sg mk (plK L d (lt2 (bt t b k - 97))) (fun S' => WkW t Q S' (k + 1))) : WkW t Q S k := by
  have hL4 := (cf_L h.2.2.1.1.1).2
  have hd := (cf_d h.2.2.1.1.1).1
  unfold ltP at hc
  intro n hn
  have ht := h.2.1.2.1
  have hbb := wM_bb h
  match n, hn with
  | 0, hn => exact absurd hn (by omega)
  | n + 1, hn =>
    refine ws_head h hk (mr_digit hbb (fun q => absurd q (by unfold dgP; omega)) (fun _ => ⟨fun _ => mr_ch' (c := 114) hbb (by decide) (fun e => absurd e (by omega)) (fun _ => mr_ch' (c := 47) hbb (by decide) (fun e => absurd e (by omega)) (fun _ => mr_ch (c := 43) hbb (by decide) (fun e => absurd e (by omega)) (fun _ => mr_ch' (c := 45) hbb (by decide) (fun e => absurd e (by omega)) (fun _ => mr_ch' (c := 44) hbb (by decide) (fun e => absurd e (by omega)) (fun _ => mr_ch (c := 41) hbb (by decide) (fun e => absurd e (by omega)) (fun _ => mr_ch' (c := 93) hbb (by decide) (fun e => absurd e (by omega)) (fun _ => mr_ch (c := 91) hbb (by decide) (fun e => absurd e (by omega)) (fun _ => mr_ch' (c := 40) hbb (by decide) (fun e => absurd e (by omega)) (fun _ => mr_ch (c := 69) hbb (by decide) (fun e => absurd e (by omega)) (fun _ => mr_ch' (c := 76) hbb (by decide) (fun e => absurd e (by omega)) (fun _ => ?_))))))))))), fun z => absurd rfl z⟩))
    refine nk_clears (s := 8) h.2.2.1 (by decide) (fun S1 hu1 hn1 => ?_)
    have h1 := wM_S h hu1 hn1
    have e1 : S1.2.1 1 ((1 : Int32)).toNatClampNeg = nI (ofs L 1) := hn1.1.2.2.2.2.2.1 1 (by omega)
    have eo : ofs L 1 = 1 := by show 0 + L ^ 0 = 1; rw [Nat.pow_zero]
    have e2 : 2912 + S1.2.1 1 ((1 : Int32)).toNatClampNeg + hvI t b k - 97 = nI (2912 + (ofs L 1 + (bt t b k - 97))) := by
      rw [e1, hv_bt hk, show (2912 : Int32) = nI 2912 from rfl, show (97 : Int32) = nI 97 from rfl, nI_add, nI_add, pk_sub (by omega)]
      exact congrArg nI (by omega)
    have hw : ofs L 1 + (bt t b k - 97) < ofs L (d + 1) := pl_W (n := 1) (by omega) (by rw [Nat.pow_one]; omega)
    have hW := (nk_W h.2.2.1).1
    rw [e2, nI_clamp (by omega)]
    refine ⟨vp_in_nI (n := 1) (by decide) (by decide), vp_in_nI (by omega) (by decide), ?_⟩
    exact wk_fac8 (wM_set8 (c := 1) h1 hw) (lt_row (by omega) (by omega)) (fun S2 y2 h2 hk2 e2 => ws_353 (j := 1) hn (by decide) (hq S2 y2 h2 hk2 e2))
theorem ws_div {k : Nat} (h : wM L d t b S0 S y D sg mk 0) (hk : k < t) (hc : bt t b k = 47) (hq : postW L d t b S0 y D sg mk (unitK (kv (kN (nmv (bt t b) (k + 1) (dgn (bt t b) 4 (k + 1)))))) (fun S' => WkW t Q S' (k + 1 + dgn (bt t b) 4 (k + 1)))) : WkW t Q S k := by
  have hle := dgn_le (f := bt t b) 4 (k + 1)
  intro n hn
  have ht := h.2.1.2.1
  have hbb := wM_bb h
  match n, hn with
  | 0, hn => exact absurd hn (by omega)
  | n + 1, hn =>
    refine ws_head h hk (mr_digit hbb (fun q => absurd q (by unfold dgP; omega)) (fun _ => ⟨fun _ => mr_ch' (c := 114) hbb (by decide) (fun e => absurd e (by omega)) (fun _ => mr_ch' (c := 47) hbb (by decide) (fun e => ?_) (fun e => absurd hc e)), fun z => absurd rfl z⟩))
    rw [nI_1]
    refine mr_digits (wM_tap h) (by omega) ?_
    rintro _ rfl
    refine nk_clears (s := 8) h.2.2.1 (by decide) (fun S1 hu1 hn1 => ?_)
    have h1 := wM_S h hu1 hn1
    have en : 1 + nI (dgn (bt t b) 4 (k + 1)) - 1 = nI (dgn (bt t b) 4 (k + 1)) := by
      rw [show (1 : Int32) = nI 1 from rfl, nI_add, pk_sub (by omega)]
      exact congrArg nI (by omega)
    rw [en]
    refine wk_number (wM_tap h1) (by omega) hle (fun i hi => dgn_dg 4 (k + 1) i hi) ?_
    have hnm : nmv (bt t b) (k + 1) (dgn (bt t b) 4 (k + 1)) < 10000 := Nat.lt_of_lt_of_le (nmv_lt _ (fun i hi => (dgn_dg 4 (k + 1) i hi).2)) (Nat.pow_le_pow_right (by decide) hle)
    rw [← kI_N (show nmv (bt t b) (k + 1) (dgn (bt t b) 4 (k + 1)) < PR by unfold PR; omega), kl_of]
    refine km_inv ⟨vp_in_nI (n := 2912) (by decide) (by decide), ?_⟩
    refine wk_fac8 (wM_set8 (w0 := 0) h1 (nk_W0 h.2.2.1)) eqW_rf (fun S2 y2 h2 hk2 e2 => ?_)
    rw [show (1 : Int32) = nI 1 from rfl, nI_add]
    refine ws_353 hn (by omega) ?_
    rw [show k + (1 + dgn (bt t b) 4 (k + 1)) = k + 1 + dgn (bt t b) 4 (k + 1) by omega]
    exact hq S2 y2 h2 hk2 e2
def postS (L d t : Nat) (b : Nat → Nat) (S0 : ms_T) (y : Nat → Nat → Kf) (D : Nat) (sg : Nat → Kf) (mk : Nat → Nat) (s : Kf) (Q : ms_T → Prop) : Prop :=
  ∀ S' y', wM L d t b S0 S' y' D (fun i => if i = D then s else sg i) mk 0 → kp L d (fun s => s = 14 + 3 * D ∨ s = 14 + 3 * D + 1) y y' → eqW L d (y' (14 + 3 * D)) (fun w => y (14 + 3 * D) w + y (14 + 3 * D + 1) w * sg D) → eqW L d (y' (14 + 3 * D + 1)) (unitK 1) → Q S'
theorem ws_plus {k : Nat} (h : wM L d t b S0 S y D sg mk 0) (hk : k < t) (hc : bt t b k = 43) (hq : postS L d t b S0 y D sg mk 1 (fun S' => WkW t Q S' (k + 1))) : WkW t Q S k := by
  intro n hn
  have ht := h.2.1.2.1
  have hbb := wM_bb h
  match n, hn with
  | 0, hn => exact absurd hn (by omega)
  | n + 1, hn =>
    refine ws_head h hk (mr_digit hbb (fun q => absurd q (by unfold dgP; omega)) (fun _ => ⟨fun _ => mr_ch' (c := 114) hbb (by decide) (fun e => absurd e (by omega)) (fun _ => mr_ch' (c := 47) hbb (by decide) (fun e => absurd e (by omega)) (fun _ => mr_ch (c := 43) hbb (by decide) (fun e => wk_closesTerm h (fun S1 y1 h1 hk1 e0 e1 => ⟨fun z => absurd ((hb_eq (c := 43) hbb (by decide)).mpr hc) z, fun _ => ?_⟩)) (fun e => absurd hc e))), fun z => absurd rfl z⟩))
    obtain ⟨a1, a2⟩ := wM_sg (s := 1) (v := 1) h1 rfl
    exact ⟨a1, ws_353 (j := 1) hn (by decide) (hq _ y1 a2 hk1 e0 e1)⟩
theorem ws_minus {k : Nat} (h : wM L d t b S0 S y D sg mk 0) (hk : k < t) (hc : bt t b k = 45) (hq : postS L d t b S0 y D sg mk (kN 2147483646) (fun S' => WkW t Q S' (k + 1))) : WkW t Q S k := by
  intro n hn
  have ht := h.2.1.2.1
  have hbb := wM_bb h
  match n, hn with
  | 0, hn => exact absurd hn (by omega)
  | n + 1, hn =>
    refine ws_head h hk (mr_digit hbb (fun q => absurd q (by unfold dgP; omega)) (fun _ => ⟨fun _ => mr_ch' (c := 114) hbb (by decide) (fun e => absurd e (by omega)) (fun _ => mr_ch' (c := 47) hbb (by decide) (fun e => absurd e (by omega)) (fun _ => mr_ch (c := 43) hbb (by decide) (fun e => absurd e (by omega)) (fun _ => mr_ch' (c := 45) hbb (by decide) (fun e => wk_closesTerm h (fun S1 y1 h1 hk1 e0 e1 => ⟨fun _ => ?_, fun z => absurd (hc.symm.trans ((hb_eq (c := 43) hbb (by decide)).mp z)) (by decide)⟩)) (fun e => absurd hc e)))), fun z => absurd rfl z⟩))
    obtain ⟨a1, a2⟩ := wM_sg (s := kN 2147483646) (v := 2147483646) h1 (by decide)
    exact ⟨a1, ws_353 (j := 1) hn (by decide) (hq _ y1 a2 hk1 e0 e1)⟩
theorem ws_comma {k : Nat} (h : wM L d t b S0 S y D sg mk 0) (hk : k < t) (hc : bt t b k = 44) (hq : ∀ S' y', wM L d t b S0 S' y' D (fun i => if i = D then 1 else sg i) mk 0 → kp L d (fun s => s = 14 + 3 * D ∨ s = 14 + 3 * D + 1 ∨ s = 14 + 3 * D + 2) y y' → eqW L d (y' (14 + 3 * D)) (fun _ => 0) → eqW L d (y' (14 + 3 * D + 1)) (unitK 1) → eqW L d (y' (14 + 3 * D + 2)) (fun w => y (14 + 3 * D) w + y (14 + 3 * D + 1) w * sg D) → WkW t Q S' (k + 1)) : WkW t Q S k := by
  have hD := h.2.2.2.2.1
  intro n hn
  have ht := h.2.1.2.1
  have hbb := wM_bb h
  match n, hn with
  | 0, hn => exact absurd hn (by omega)
  | n + 1, hn =>
    refine ws_head h hk (mr_digit hbb (fun q => absurd q (by unfold dgP; omega)) (fun _ => ⟨fun _ => mr_ch' (c := 114) hbb (by decide) (fun e => absurd e (by omega)) (fun _ => mr_ch' (c := 47) hbb (by decide) (fun e => absurd e (by omega)) (fun _ => mr_ch (c := 43) hbb (by decide) (fun e => absurd e (by omega)) (fun _ => mr_ch' (c := 45) hbb (by decide) (fun e => absurd e (by omega)) (fun _ => mr_ch' (c := 44) hbb (by decide) (fun e => wk_closesTerm h (fun S1 y1 h1 hk1 e0 e1 => wk_slot (j := 2) h1.2.2.2.1 (wk_slot (j := 0) h1.2.2.2.1 ?_))) (fun e => absurd hc e))))), fun z => absurd rfl z⟩))
    refine nk_copies h1.2.2.1 (by omega) (by omega) (fun S2 r2 hu2 e2 hn2 => ?_)
    have h2 := wM_S h1 hu2 hn2
    refine wk_slot (j := 0) h2.2.2.2.1 (nk_clears hn2 (by omega) (fun S3 hu3 hn3 => ?_))
    have h3 := wM_S h2 hu3 hn3
    obtain ⟨a1, a2⟩ := wM_sg (s := 1) (v := 1) h3 rfl
    refine ⟨a1, ws_353 (j := 1) hn (by decide) (hq _ _ a2 (kp_tr (kp_w hk1 (fun s hs => by omega)) (kp_tr (kp_u (Or.inr (Or.inr rfl))) (kp_u (Or.inl rfl)))) ?_ ?_ ?_)⟩
    · show eqW L d (va_up _ (14 + 3 * D) (fun _ => 0) (14 + 3 * D)) _
      rw [va_up_self]
      exact eqW_rf
    · show eqW L d (va_up _ (14 + 3 * D) (fun _ => 0) (14 + 3 * D + 1)) _
      rw [va_up_ne _ _ (by omega), va_up_ne _ _ (by omega)]
      exact e1
    · show eqW L d (va_up _ (14 + 3 * D) (fun _ => 0) (14 + 3 * D + 2)) _
      rw [va_up_ne _ _ (by omega), va_up_self]
      exact eqW_tr e2 e0
def postP (L d t : Nat) (b : Nat → Nat) (S0 : ms_T) (y : Nat → Nat → Kf) (D : Nat) (sg : Nat → Kf) (mk : Nat → Nat) (c : Nat) (Q : ms_T → Prop) : Prop :=
  ∀ S' y', wM L d t b S0 S' y' (D + 1) (fun i => if i = D + 1 then 1 else sg i) (fun i => if i = D + 1 then c else mk i) 0 → kp L d (fun s => s = 14 + 3 * (D + 1) ∨ s = 14 + 3 * (D + 1) + 1) y y' → eqW L d (y' (14 + 3 * (D + 1))) (fun _ => 0) → eqW L d (y' (14 + 3 * (D + 1) + 1)) (unitK 1) → Q S'
theorem wk_open {c : Nat} (h : wM L d t b S0 S y D sg mk 0) (hD : D < 5) (hq : postP L d t b S0 y D sg mk c Q) : wp_X8_opensFrame S (nI c) Q :=
  wk_opens h.1 h.2.1 h.2.2.1 (by rw [h.2.2.2.1, nI_1]) (by omega) h.2.2.2.2.2.1 (fun i hi => h.2.2.2.2.2.2 i (by omega)) hq
theorem ws_br {k : Nat} (h : wM L d t b S0 S y D sg mk 0) (hk : k < t) (hD : D < 5) (hc : bt t b k = 91) (hq : postP L d t b S0 y D sg mk 91 (fun S' => WkW t Q S' (k + 1))) : WkW t Q S k := by
  intro n hn
  have ht := h.2.1.2.1
  have hbb := wM_bb h
  match n, hn with
  | 0, hn => exact absurd hn (by omega)
  | n + 1, hn =>
    refine ws_head h hk (mr_digit hbb (fun q => absurd q (by unfold dgP; omega)) (fun _ => ⟨fun _ => mr_ch' (c := 114) hbb (by decide) (fun e => absurd e (by omega)) (fun _ => mr_ch' (c := 47) hbb (by decide) (fun e => absurd e (by omega)) (fun _ => mr_ch (c := 43) hbb (by decide) (fun e => absurd e (by omega)) (fun _ => mr_ch' (c := 45) hbb (by decide) (fun e => absurd e (by omega)) (fun _ => mr_ch' (c := 44) hbb (by decide) (fun e => absurd e (by omega)) (fun _ => mr_ch (c := 41) hbb (by decide) (fun e => absurd e (by omega)) (fun _ => mr_ch' (c := 93) hbb (by decide) (fun e => absurd e (by omega)) (fun _ => mr_ch (c := 91) hbb (by decide) (fun e => ?_) (fun e => absurd hc e)))))))), fun z => absurd rfl z⟩))
    rw [hv_bt hk, hc]
    exact wk_open h hD (fun S1 y1 h1 hk1 e0 e1 => ws_353 (j := 1) hn (by decide) (hq S1 y1 h1 hk1 e0 e1))
theorem ws_pa {k : Nat} (h : wM L d t b S0 S y D sg mk 0) (hk : k < t) (hD : D < 5) (hc : bt t b k = 40) (hq : postP L d t b S0 y D sg mk 40 (fun S' => WkW t Q S' (k + 1))) : WkW t Q S k := by
  intro n hn
  have ht := h.2.1.2.1
  have hbb := wM_bb h
  match n, hn with
  | 0, hn => exact absurd hn (by omega)
  | n + 1, hn =>
    refine ws_head h hk (mr_digit hbb (fun q => absurd q (by unfold dgP; omega)) (fun _ => ⟨fun _ => mr_ch' (c := 114) hbb (by decide) (fun e => absurd e (by omega)) (fun _ => mr_ch' (c := 47) hbb (by decide) (fun e => absurd e (by omega)) (fun _ => mr_ch (c := 43) hbb (by decide) (fun e => absurd e (by omega)) (fun _ => mr_ch' (c := 45) hbb (by decide) (fun e => absurd e (by omega)) (fun _ => mr_ch' (c := 44) hbb (by decide) (fun e => absurd e (by omega)) (fun _ => mr_ch (c := 41) hbb (by decide) (fun e => absurd e (by omega)) (fun _ => mr_ch' (c := 93) hbb (by decide) (fun e => absurd e (by omega)) (fun _ => mr_ch (c := 91) hbb (by decide) (fun e => absurd e (by omega)) (fun _ => mr_ch' (c := 40) hbb (by decide) (fun e => ?_) (fun e => absurd hc e))))))))), fun z => absurd rfl z⟩))
    rw [hv_bt hk, hc]
    exact wk_open h hD (fun S1 y1 h1 hk1 e0 e1 => ws_353 (j := 1) hn (by decide) (hq S1 y1 h1 hk1 e0 e1))
theorem ws_ex {k : Nat} (h : wM L d t b S0 S y D sg mk 0) (hk : k < t) (hD : D < 5) (hc : bt t b k = 69) (hq : postP L d t b S0 y D sg mk 69 (fun S' => WkW t Q S' (k + 2))) : WkW t Q S k := by
  intro n hn
  have ht := h.2.1.2.1
  have hbb := wM_bb h
  match n, hn with
  | 0, hn => exact absurd hn (by omega)
  | n + 1, hn =>
    refine ws_head h hk (mr_digit hbb (fun q => absurd q (by unfold dgP; omega)) (fun _ => ⟨fun _ => mr_ch' (c := 114) hbb (by decide) (fun e => absurd e (by omega)) (fun _ => mr_ch' (c := 47) hbb (by decide) (fun e => absurd e (by omega)) (fun _ => mr_ch (c := 43) hbb (by decide) (fun e => absurd e (by omega)) (fun _ => mr_ch' (c := 45) hbb (by decide) (fun e => absurd e (by omega)) (fun _ => mr_ch' (c := 44) hbb (by decide) (fun e => absurd e (by omega)) (fun _ => mr_ch (c := 41) hbb (by decide) (fun e => absurd e (by omega)) (fun _ => mr_ch' (c := 93) hbb (by decide) (fun e => absurd e (by omega)) (fun _ => mr_ch (c := 91) hbb (by decide) (fun e => absurd e (by omega)) (fun _ => mr_ch' (c := 40) hbb (by decide) (fun e => absurd e (by omega)) (fun _ => mr_ch (c := 69) hbb (by decide) (fun e => ?_) (fun e => absurd hc e)))))))))), fun z => absurd rfl z⟩))
    rw [hv_bt hk, hc]
    exact wk_open h hD (fun S1 y1 h1 hk1 e0 e1 => ws_353 (j := 2) hn (by decide) (hq S1 y1 h1 hk1 e0 e1))
theorem ws_lo {k : Nat} (h : wM L d t b S0 S y D sg mk 0) (hk : k < t) (hD : D < 5) (hc : bt t b k = 76) (hq : postP L d t b S0 y D sg mk 76 (fun S' => WkW t Q S' (k + 2))) : WkW t Q S k := by
  intro n hn
  have ht := h.2.1.2.1
  have hbb := wM_bb h
  match n, hn with
  | 0, hn => exact absurd hn (by omega)
  | n + 1, hn =>
    refine ws_head h hk (mr_digit hbb (fun q => absurd q (by unfold dgP; omega)) (fun _ => ⟨fun _ => mr_ch' (c := 114) hbb (by decide) (fun e => absurd e (by omega)) (fun _ => mr_ch' (c := 47) hbb (by decide) (fun e => absurd e (by omega)) (fun _ => mr_ch (c := 43) hbb (by decide) (fun e => absurd e (by omega)) (fun _ => mr_ch' (c := 45) hbb (by decide) (fun e => absurd e (by omega)) (fun _ => mr_ch' (c := 44) hbb (by decide) (fun e => absurd e (by omega)) (fun _ => mr_ch (c := 41) hbb (by decide) (fun e => absurd e (by omega)) (fun _ => mr_ch' (c := 93) hbb (by decide) (fun e => absurd e (by omega)) (fun _ => mr_ch (c := 91) hbb (by decide) (fun e => absurd e (by omega)) (fun _ => mr_ch' (c := 40) hbb (by decide) (fun e => absurd e (by omega)) (fun _ => mr_ch (c := 69) hbb (by decide) (fun e => absurd e (by omega)) (fun _ => mr_ch' (c := 76) hbb (by decide) (fun e => ?_) (fun e => absurd hc e))))))))))), fun z => absurd rfl z⟩))
    rw [hv_bt hk, hc]
    exact wk_open h hD (fun S1 y1 h1 hk1 e0 e1 => ws_353 (j := 2) hn (by decide) (hq S1 y1 h1 hk1 e0 e1))
theorem ws_cb {k : Nat} (h : wM L d t b S0 S y (D + 1) sg mk 0) (hk : k < t) (hc : bt t b k = 93) (ha : 93 = 93 ∨ (93 = 41 ∧ (mk (D + 1) = 40 ∨ mk (D + 1) = 69 ∨ mk (D + 1) = 76))) (hq : pstC L d t b S0 y D sg mk (clV L d 93 (mk (D + 1)) (y (14 + 3 * (D + 1) + 2)) (fun w => y (14 + 3 * (D + 1)) w + y (14 + 3 * (D + 1) + 1) w * sg (D + 1))) (fun S' => WkW t Q S' (k + 1))) : WkW t Q S k := by
  intro n hn
  have ht := h.2.1.2.1
  have hbb := wM_bb h
  match n, hn with
  | 0, hn => exact absurd hn (by omega)
  | n + 1, hn =>
    refine ws_head h hk (mr_digit hbb (fun q => absurd q (by unfold dgP; omega)) (fun _ => ⟨fun _ => mr_ch' (c := 114) hbb (by decide) (fun e => absurd e (by omega)) (fun _ => mr_ch' (c := 47) hbb (by decide) (fun e => absurd e (by omega)) (fun _ => mr_ch (c := 43) hbb (by decide) (fun e => absurd e (by omega)) (fun _ => mr_ch' (c := 45) hbb (by decide) (fun e => absurd e (by omega)) (fun _ => mr_ch' (c := 44) hbb (by decide) (fun e => absurd e (by omega)) (fun _ => mr_ch (c := 41) hbb (by decide) (fun e => absurd e (by omega)) (fun _ => mr_ch' (c := 93) hbb (by decide) (fun e => ?_) (fun e => absurd hc e))))))), fun z => absurd rfl z⟩))
    rw [hv_bt hk, hc]
    exact wk_closes h ha (fun S1 y1 br1 h1 hk1 e0 e1 => ws_353 (j := 1) hn (by decide) (hq S1 y1 br1 h1 hk1 e0 e1))
theorem ws_cp {k : Nat} (h : wM L d t b S0 S y (D + 1) sg mk 0) (hk : k < t) (hc : bt t b k = 41) (ha : 41 = 93 ∨ (41 = 41 ∧ (mk (D + 1) = 40 ∨ mk (D + 1) = 69 ∨ mk (D + 1) = 76))) (hq : pstC L d t b S0 y D sg mk (clV L d 41 (mk (D + 1)) (y (14 + 3 * (D + 1) + 2)) (fun w => y (14 + 3 * (D + 1)) w + y (14 + 3 * (D + 1) + 1) w * sg (D + 1))) (fun S' => WkW t Q S' (k + 1))) : WkW t Q S k := by
  intro n hn
  have ht := h.2.1.2.1
  have hbb := wM_bb h
  match n, hn with
  | 0, hn => exact absurd hn (by omega)
  | n + 1, hn =>
    refine ws_head h hk (mr_digit hbb (fun q => absurd q (by unfold dgP; omega)) (fun _ => ⟨fun _ => mr_ch' (c := 114) hbb (by decide) (fun e => absurd e (by omega)) (fun _ => mr_ch' (c := 47) hbb (by decide) (fun e => absurd e (by omega)) (fun _ => mr_ch (c := 43) hbb (by decide) (fun e => absurd e (by omega)) (fun _ => mr_ch' (c := 45) hbb (by decide) (fun e => absurd e (by omega)) (fun _ => mr_ch' (c := 44) hbb (by decide) (fun e => absurd e (by omega)) (fun _ => mr_ch (c := 41) hbb (by decide) (fun e => ?_) (fun e => absurd hc e)))))), fun z => absurd rfl z⟩))
    rw [hv_bt hk, hc]
    exact wk_closes h ha (fun S1 y1 br1 h1 hk1 e0 e1 => ws_353 (j := 1) hn (by decide) (hq S1 y1 br1 h1 hk1 e0 e1))
end WT
