/-! the reference's works: its state and its small steps -/
def upW (S S' : ms_T) : Prop := (∀ j, j ≠ 9 → j ≠ 10 → S'.1 j = S.1 j) ∧ (∀ k, k ≠ 13 → S'.2.1 k = S.2.1 k) ∧ ∀ k, k ≠ 0 → k ≠ 8 → S'.2.2 k = S.2.2 k
theorem upW_rf {S : ms_T} : upW S S := ⟨fun _ _ _ => rfl, fun _ _ => rfl, fun _ _ _ => rfl⟩
theorem upW_tr {S S1 S2 : ms_T} (h : upW S S1) (h1 : upW S1 S2) : upW S S2 := ⟨fun j a c => (h1.1 j a c).trans (h.1 j a c), fun k a => (h1.2.1 k a).trans (h.2.1 k a), fun k a c => (h1.2.2 k a c).trans (h.2.2 k a c)⟩
theorem upW_S {S S' : ms_T} (h : upS S S') : upW S S' := ⟨fun j _ _ => by rw [h.1], fun k _ => by rw [h.2.1], fun k a _ => h.2.2 k a⟩
def kp (L d : Nat) (P : Nat → Prop) (y y' : Nat → Nat → Kf) : Prop := ∀ s, s < 36 → ¬ P s → eqW L d (y' s) (y s)
theorem eqW_rf {L d : Nat} {f : Nat → Kf} : eqW L d f f := fun _ _ => rfl
theorem eqW_tr {L d : Nat} {f g h : Nat → Kf} (a : eqW L d f g) (c : eqW L d g h) : eqW L d f h := fun w hw => (a w hw).trans (c w hw)
theorem kp_rf {L d : Nat} {P : Nat → Prop} {y : Nat → Nat → Kf} : kp L d P y y := fun _ _ _ => eqW_rf
theorem kp_tr {L d : Nat} {P : Nat → Prop} {y y1 y2 : Nat → Nat → Kf} (h : kp L d P y y1) (h1 : kp L d P y1 y2) : kp L d P y y2 := fun s a c => eqW_tr (h1 s a c) (h s a c)
theorem kp_w {L d : Nat} {P P' : Nat → Prop} {y y1 : Nat → Nat → Kf} (h : kp L d P y y1) (hp : ∀ s, P s → P' s) : kp L d P' y y1 := fun s a c => h s a (fun z => c (hp s z))
theorem kp_u {L d : Nat} {P : Nat → Prop} {y : Nat → Nat → Kf} {s : Nat} {r : Nat → Kf} (h : P s) : kp L d P y (va_up y s r) := fun s' _ c => by
  have e : s' ≠ s := fun z => c (by rw [z]; exact h)
  rw [va_up_ne _ _ e]
  exact eqW_rf
def wM (L d t : Nat) (b : Nat → Nat) (S0 S : ms_T) (y : Nat → Nat → Kf) (D : Nat) (sg : Nat → Kf) (mk : Nat → Nat) (br : Int32) : Prop :=
  upW S0 S ∧ tap S0 t b ∧ nk L d S y ∧ S.1 9 = nI D ∧ D ≤ 5 ∧ S.1 10 = br ∧ ∀ i, i ≤ D → S.2.2 8 i = kL (sg i) ∧ S.2.1 13 i = nI (mk i)
section WK
variable {L d t : Nat} {b : Nat → Nat} {S0 S : ms_T} {y : Nat → Nat → Kf} {D : Nat} {sg : Nat → Kf} {mk : Nat → Nat} {br : Int32} {Q : ms_T → Prop}
theorem wM_tap (h : wM L d t b S0 S y D sg mk br) : tap S t b := by
  obtain ⟨⟨u1, u2, u3⟩, ⟨t1, t2, t3⟩, h3⟩ := h
  exact ⟨by rw [u1 7 (by decide) (by decide)]; exact t1, t2, by rw [u2 11 (by decide)]; exact t3⟩
theorem wM_S {S' : ms_T} {y' : Nat → Nat → Kf} (h : wM L d t b S0 S y D sg mk br) (hu : upS S S') (hn : nk L d S' y') : wM L d t b S0 S' y' D sg mk br := by
  obtain ⟨h1, h2, h3, h4, h5, h6, h7⟩ := h
  exact ⟨upW_tr h1 (upW_S hu), h2, hn, by rw [hu.1]; exact h4, h5, by rw [hu.1]; exact h6, fun i hi => by rw [hu.2.2 8 (by decide), hu.2.1]; exact h7 i hi⟩
theorem wk_slot {j : Nat} {P : Int32 → Prop} (h : S.1 9 = nI D) (hq : P (nI (14 + 3 * D + j))) : wp_X8_slot (S.1 9) (nI j) P := by
  unfold wp_X8_slot
  rw [h, show (3 : Int32) = nI 3 from rfl, show (14 : Int32) = nI 14 from rfl, pk_mul, nI_add, nI_add]
  exact hq
theorem wk_factor (h : wM L d t b S0 S y D sg mk br) (hq : ∀ S' y', wM L d t b S0 S' y' D sg mk br → kp L d (fun s => s = 9 ∨ s = 14 + 3 * D + 1) y y' → eqW L d (y' (14 + 3 * D + 1)) (mulK L d (y (14 + 3 * D + 1)) (y 8)) → Q S') : wp_X8_factor S Q := by
  have hD := h.2.2.2.2.1
  refine wk_slot (j := 1) h.2.2.2.1 (nk_mul (s := 9) (b := 8) h.2.2.1 (by decide) (by omega) (by decide) (by omega) (by decide) (fun S1 r1 hu1 e1 hn1 => ?_))
  have h1 := wM_S h hu1 hn1
  refine wk_slot (j := 1) h1.2.2.2.1 (nk_copies (a := 9) hn1 (by omega) (by decide) (fun S2 r2 hu2 e2 hn2 => ?_))
  refine hq S2 _ (wM_S h1 hu2 hn2) (kp_tr (kp_u (Or.inl rfl)) (kp_u (Or.inr rfl))) ?_
  rw [va_up_self]
  rw [va_up_self] at e2
  exact eqW_tr e2 e1
theorem wk_closesTerm (h : wM L d t b S0 S y D sg mk br) (hq : ∀ S' y', wM L d t b S0 S' y' D sg mk br → kp L d (fun s => s = 14 + 3 * D ∨ s = 14 + 3 * D + 1) y y' → eqW L d (y' (14 + 3 * D)) (fun w => y (14 + 3 * D) w + y (14 + 3 * D + 1) w * sg D) → eqW L d (y' (14 + 3 * D + 1)) (unitK 1) → Q S') : wp_X8_closesTerm S Q := by
  have hD := h.2.2.2.2.1
  refine wk_slot (j := 0) h.2.2.2.1 (wk_slot (j := 1) h.2.2.2.1 ⟨by rw [h.2.2.2.1]; exact vp_in_nI (by omega) (by decide), ?_⟩)
  have e8 : S.2.2 8 (S.1 9).toNatClampNeg = kL (sg D) := by
    rw [h.2.2.2.1, nI_clamp (by omega)]
    exact (h.2.2.2.2.2.2 D (Nat.le_refl _)).1
  rw [e8]
  refine nk_adds h.2.2.1 (by omega) (by omega) (fun S1 r1 hu1 e1 hn1 => ?_)
  have h1 := wM_S h hu1 hn1
  refine wk_slot (j := 1) h1.2.2.2.1 (nk_ones hn1 (by omega) (fun S2 hu2 hn2 => ?_))
  refine hq S2 _ (wM_S h1 hu2 hn2) (kp_tr (kp_u (Or.inl rfl)) (kp_u (Or.inr rfl))) ?_ ?_
  · rw [va_up_ne _ _ (by omega)]
    show eqW L d (va_up y (14 + 3 * D) r1 (14 + 3 * D)) _
    rw [va_up_self]
    exact e1
  · rw [va_up_self]
    exact eqW_rf
theorem wk_opens {D1 c : Nat} (hu : upW S0 S) (htp : tap S0 t b) (hn : nk L d S y) (h9 : S.1 9 + 1 = nI D1) (hD1 : D1 ≤ 5) (h10 : S.1 10 = br) (hc : ∀ i, i < D1 → S.2.2 8 i = kL (sg i) ∧ S.2.1 13 i = nI (mk i))
    (hq : ∀ S' y', wM L d t b S0 S' y' D1 (fun i => if i = D1 then 1 else sg i) (fun i => if i = D1 then c else mk i) br → kp L d (fun s => s = 14 + 3 * D1 ∨ s = 14 + 3 * D1 + 1) y y' → eqW L d (y' (14 + 3 * D1)) (fun _ => 0) → eqW L d (y' (14 + 3 * D1 + 1)) (unitK 1) → Q S') : wp_X8_opensFrame S (nI c) Q := by
  have e9 : (ms_sF S 9 (S.1 9 + 1)).1 9 = nI D1 := by rw [sF_F, if_pos rfl]; exact h9
  have e9' : ∀ v, (ms_sI (ms_sF S 9 (S.1 9 + 1)) 13 D1 v).1 9 = nI D1 := fun v => e9
  unfold wp_X8_opensFrame
  rw [e9, nI_clamp (by omega), e9', nI_clamp (by omega)]
  refine ⟨vp_in_nI (by omega) (by decide), vp_in_nI (by omega) (by decide), ?_⟩
  have hw : wM L d t b S0 (ms_sJ (ms_sI (ms_sF S 9 (S.1 9 + 1)) 13 D1 (nI c)) 8 D1 1) y D1 (fun i => if i = D1 then 1 else sg i) (fun i => if i = D1 then c else mk i) br := by
    refine ⟨upW_tr hu ⟨fun j a c2 => ?_, fun k a => ?_, fun k a c2 => ?_⟩, htp, ?_, e9, hD1, h10, fun i hi => ⟨?_, ?_⟩⟩
    · show (ms_sF S 9 (S.1 9 + 1)).1 j = S.1 j
      rw [sF_F, if_neg a]
    · show (ms_sI (ms_sF S 9 (S.1 9 + 1)) 13 D1 (nI c)).2.1 k = S.2.1 k
      rw [sI_r a, sF_I]
    · exact va_up_ne _ _ c2
    · obtain ⟨⟨m1, m2, m3, m4, m5, m6, m7⟩, x, hx, hy⟩ := hn
      refine ⟨⟨m1, m2, m3, m4, m5, m6, m7⟩, x, fun j hj => ?_, hy⟩
      exact hx j hj
    · show va_up S.2.2 8 (vp_updL (S.2.2 8) D1 1) 8 i = kL (if i = D1 then 1 else sg i)
      rw [va_up_self]
      unfold vp_updL
      by_cases e : i = D1
      · rw [if_pos e, if_pos e]; rfl
      · rw [if_neg e, if_neg e]; exact (hc i (by omega)).1
    · show (ms_sI (ms_sF S 9 (S.1 9 + 1)) 13 D1 (nI c)).2.1 13 i = nI (if i = D1 then c else mk i)
      rw [sI_g, if_pos rfl]
      by_cases e : i = D1
      · rw [if_pos e, if_pos e]
      · rw [if_neg e, if_neg e, sF_I]; exact (hc i (by omega)).2
  refine wk_slot (j := 0) hw.2.2.2.1 (nk_clears hw.2.2.1 (by omega) (fun S1 hu1 hn1 => ?_))
  have h1 := wM_S hw hu1 hn1
  refine wk_slot (j := 1) h1.2.2.2.1 (nk_ones hn1 (by omega) (fun S2 hu2 hn2 => ?_))
  refine hq S2 _ (wM_S h1 hu2 hn2) (kp_tr (kp_u (Or.inl rfl)) (kp_u (Or.inr rfl))) ?_ ?_
  · rw [va_up_ne _ _ (by omega)]
    show eqW L d (va_up y (14 + 3 * D1) (fun _ => 0) (14 + 3 * D1)) _
    rw [va_up_self]
    exact eqW_rf
  · rw [va_up_self]
    exact eqW_rf
theorem wk_number {k n : Nat} {P : Int32 → ms_T → Prop} (h : tap S t b) (hk : k + n ≤ 200) (hn : n ≤ 4) (hd : ∀ i, i < n → dgP (bt t b (k + i))) (hq : P (nI (nmv (bt t b) k n)) S) : wp_X8_number S (nI k) (nI n) P := by
  refine pk_loop (σ := Unit) (fun f i _ => wp_X8_number_5 P f S (nI k) (nI n) (nI (nmv (bt t b) k i)) (nI i)) (fun i _ => True) n 0 () (Nat.zero_le _) trivial ?_ ?_
  · rintro f _ _
    exact ⟨fun _ => hq, fun z => absurd (nI_le (a := n) (b := n) (Nat.le_refl _) (by omega)) z⟩
  · rintro f i _ hi _ hk2
    refine ⟨fun z => absurd z (nI_ge (a := i) (b := n) (by omega) (by omega)), fun _ => ?_⟩
    have hdi := hd i hi
    have hkt : k + i < t := bt_t (t := t) (b := b) rfl (show bt t b (k + i) < 256 by unfold dgP at hdi; omega)
    have hv : hvI t b (k + i) = nI (bt t b (k + i)) := by
      rw [show bt t b (k + i) = b (k + i) from if_pos hkt]; exact if_pos hkt
    rw [nI_add]
    refine mr_byte h (by omega) ?_
    rw [hv, show (10 : Int32) = nI 10 from rfl, pk_mul, nI_add, show (48 : Int32) = nI 48 from rfl, pk_sub (by unfold dgP at hdi; omega)]
    rintro _ rfl _ rfl
    rw [nI_1, show 10 * nmv (bt t b) k i + bt t b (k + i) - 48 = nmv (bt t b) k (i + 1) by
      show _ = nmv (bt t b) k i * 10 + (bt t b (k + i) - 48)
      unfold dgP at hdi
      omega]
    exact hk2 () trivial
end WK
