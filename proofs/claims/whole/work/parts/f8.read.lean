/-! the reference's read -/
def upG (S S' : ms_T) : Prop := (∀ j, j ≤ 5 → S'.1 j = S.1 j) ∧ (∀ k, k ≤ 9 → S'.2.1 k = S.2.1 k) ∧ (∀ j, j < 25344 → S'.2.2 1 j = S.2.2 1 j) ∧ S'.2.2 4 = S.2.2 4 ∧ S'.2.2 5 = S.2.2 5
def nuX (L d : Nat) (S : ms_T) (X : Nat → Nat → Kf) : Prop := ∃ x, nums S x ∧ ∀ s, s < 8 → eqW L d (rwK x s) (X s)
section WX
variable {L d t : Nat} {b : Nat → Nat} {X : Nat → Nat → Kf} {S : ms_T}
theorem upG_rf {S : ms_T} : upG S S := ⟨fun _ _ => rfl, fun _ _ => rfl, fun _ _ => rfl, rfl, rfl⟩
theorem upG_tr {S S1 S2 : ms_T} (h : upG S S1) (h1 : upG S1 S2) : upG S S2 := ⟨fun j a => (h1.1 j a).trans (h.1 j a), fun j a => (h1.2.1 j a).trans (h.2.1 j a), fun j a => (h1.2.2.1 j a).trans (h.2.2.1 j a), h1.2.2.2.1.trans h.2.2.2.1, h1.2.2.2.2.trans h.2.2.2.2⟩
theorem upG_S {S S' : ms_T} (h : upS S S') : upG S S' := ⟨fun j _ => by rw [h.1], fun k _ => by rw [h.2.1], fun j _ => by rw [h.2.2 1 (by decide)], h.2.2 4 (by decide), h.2.2 5 (by decide)⟩
theorem upG_X {S S' : ms_T} (h : upX S S') : upG S S' := ⟨fun j _ => by rw [h.1], fun k _ => by rw [h.2.1], h.2.2.1, h.2.2.2 4 (by decide), h.2.2.2 5 (by decide)⟩
theorem upG_W {S S' : ms_T} (h : upW S S') : upG S S' := ⟨fun j a => h.1 j (by omega) (by omega), fun k a => h.2.1 k (by omega), fun j _ => by rw [h.2.2 1 (by decide) (by decide)], h.2.2 4 (by decide) (by decide), h.2.2 5 (by decide) (by decide)⟩
theorem upG_M {S S' : ms_T} (h : upM S S') : upG S S' := ⟨fun j a => h.1 j (by omega), fun k a => h.2.1 k (by omega), fun j _ => by rw [h.2.2], by rw [h.2.2], by rw [h.2.2]⟩
theorem upG_F {S : ms_T} {j : Nat} {v : Int32} (hj : 6 ≤ j) : upG S (ms_sF S j v) := ⟨fun i a => by rw [sF_F, if_neg (by omega)], fun _ _ => rfl, fun _ _ => rfl, rfl, rfl⟩
theorem nuX_nk {y : Nat → Nat → Kf} (h : nk L d S y) (hX : sm8 L d X y) : nuX L d S X := by
  obtain ⟨hm, x, hx, hy⟩ := h
  exact ⟨x, hx, fun s hs w hw => (hy s w (by omega) hw).trans (hX s hs w hw)⟩
theorem sm_works {Q : ms_T → Prop} {y : Nat → Nat → Kf} (hn : nk L d S y) (hX : sm8 L d X y) (htp : tap S t b) (h1 : (TX L d (bt t b) X 6 0).1 = true) (hp : (TX L d (bt t b) X 6 0).2.1 = t)
    (hN : (TX L d (bt t b) X 6 0).2.2 = none → ∀ S', upW S S' → S'.1 10 = 1 → ∀ y', nk L d S' y' → sm8 L d X y' → Q S')
    (hS : ∀ v, (TX L d (bt t b) X 6 0).2.2 = some v → ∀ S', upW S S' → S'.1 10 = 0 → ∀ y', nk L d S' y' → sm8 L d X y' → eqW L d (y' 14) v → Q S') : wp_X8_works S Q := by
  have ht := htp.2.1
  have hu0 : upW S (ms_sF (ms_sF S 9 (-1)) 10 0) := ⟨fun j a c => by rw [sF_F, if_neg c, sF_F, if_neg a], fun _ _ => rfl, fun _ _ _ => rfl⟩
  refine wk_opens (L := L) (d := d) (t := t) (b := b) (S0 := S) (y := y) (D1 := 0) (sg := fun _ => 1) (mk := fun _ => 40) (br := 0) (c := 40) hu0 htp (nk_F (nk_F hn (by decide)) (by decide)) ?_ (by decide) ?_ (fun i hi => absurd hi (Nat.not_lt_zero i)) (fun S1 y1 h2 hk1 e0 e1 => ⟨t + 1, ?_⟩)
  · rw [sF_F, if_neg (by decide), sF_F, if_pos rfl]; rfl
  · rw [sF_F, if_pos rfl]
  refine ws_TX (X := X) ht 5 (Nat.le_refl _) S1 y1 _ _ 0 h2 (if_pos rfl) (sm8_k hX hk1 (fun s hs => by omega)) e0 e1 (Nat.zero_le _) h1 (fun v hv S2 y2 sg2 h3 hk2 _ e2 => ?_) (fun e S' hb => ?_) (t + 1) (by omega)
  · rw [hp]
    refine ws_end h3 (fun S3 y3 h4 hk3 e3 => ?_)
    exact hS v hv S3 h4.1 h4.2.2.2.2.2.1 y3 h4.2.2.1 (sm8_k (sm8_k (sm8_k hX hk1 (fun s hs => by omega)) hk2 (fun s hs => by unfold kpD; omega)) hk3 (fun s hs => by omega)) (eqW_tr e3 e2)
  · obtain ⟨b1, b2, y', b3, b4⟩ := hb
    exact hN e S' b1 b2 y' b3 b4
theorem sm_read {r : Int32} {Q : Int32 → ms_T → Prop} (h : mt_ok L d S) (hX : nuX L d S X) (htp : tap S t b) (hno : ¬ isS r → Q (-1) S)
    (hF : ∀ s, s < 8 → r = nI s → (TX L d (bt t b) X 6 0).1 = false ∨ (TX L d (bt t b) X 6 0).2.1 < t → ∀ S', upG S S' → S'.1 7 = 0 → nuX L d S' X → Q (-10 - nI (TX L d (bt t b) X 6 0).2.1) S')
    (hN : ∀ s, s < 8 → r = nI s → (TX L d (bt t b) X 6 0).1 = true → (TX L d (bt t b) X 6 0).2.1 = t → (TX L d (bt t b) X 6 0).2.2 = none → ∀ S', upG S S' → S'.1 7 = 0 → nuX L d S' X → Q (-9) S')
    (hS : ∀ s, s < 8 → r = nI s → ∀ v, (TX L d (bt t b) X 6 0).1 = true → (TX L d (bt t b) X 6 0).2.1 = t → (TX L d (bt t b) X 6 0).2.2 = some v → ∀ S', upG S S' → S'.1 7 = 0 → nuX L d S' (va_up X s v) → Q 0 S') : wp_X8_read S r Q := by
  have hcf := h.1
  have hL4 := (cf_L hcf).2
  have hpl := TX_pl (L := L) (d := d) (t := t) (b := b) (X := X) hL4 6 0 (Nat.zero_le _)
  have ht := htp.2.1
  refine sm_isSum (fun s hs e => ⟨fun _ => ?_, fun z => absurd z (by decide)⟩) (fun hn => ⟨fun z => absurd rfl z, fun _ => hno hn⟩)
  obtain ⟨x, hx, hxX⟩ := hX
  refine sm_reads (d := d) (X := X) (b := b) hL4 h.2.1 htp (fun q S1 hu1 => ⟨fun z => absurd z (nI_m1 (by omega)), fun _ => ?_⟩) (fun q1 q2 S1 hu1 => ⟨fun _ => ?_, fun z => absurd rfl z⟩)
  · refine hF s hs e q _ (upG_tr (upG_M hu1) (upG_F (by decide))) (by rw [sF_F, if_pos rfl]) ⟨x, fun j hj => ?_, hxX⟩
    show S1.2.2 0 j = lN (x j) ∧ x j < PR
    rw [hu1.2.2]
    exact hx j hj
  have hx1 : nums S1 x := fun j hj => by rw [hu1.2.2]; exact hx j hj
  have hm1 : mt_ok L d S1 := by
    obtain ⟨m1, m2, m3, m4, m5, m6, m7⟩ := h
    exact ⟨m1, by rw [hu1.1 0 (by decide)]; exact m2, by rw [hu1.1 1 (by decide)]; exact m3, by rw [hu1.1 2 (by decide)]; exact m4, by rw [hu1.2.1 0 (by decide)]; exact m5, by rw [hu1.2.1 1 (by decide)]; exact m6, by rw [hu1.2.1 2 (by decide)]; exact m7⟩
  have ht1 : tap S1 t b := by
    obtain ⟨t1, t2, t3⟩ := htp
    exact ⟨by rw [hu1.1 7 (by decide)]; exact t1, t2, by rw [hu1.2.1 11 (by decide)]; exact t3⟩
  have hn1 : nk L d S1 (rwK x) := ⟨hm1, x, hx1, fun _ _ _ _ => rfl⟩
  refine sm_works hn1 hxX ht1 q1 q2 (fun e0 S2 hu2 h10 y2 hn2 hX2 => ⟨fun z => ?_, fun _ => ?_⟩) (fun v hv S2 hu2 h10 y2 hn2 hX2 e2 => ⟨fun _ => ?_, fun z => ?_⟩)
  · rw [sF_F, if_neg (by decide), h10] at z
    exact absurd z (by decide)
  · exact hN s hs e q1 q2 e0 _ (upG_tr (upG_M hu1) (upG_tr (upG_W hu2) (upG_F (by decide)))) (by rw [sF_F, if_pos rfl]) (nuX_nk (nk_F hn2 (by decide)) hX2)
  · refine wk_slot (D := 0) (j := 0) (S := ms_sF (ms_sF S2 7 0) 9 0) rfl ?_
    rw [e]
    refine nk_copies (a := 14) (nk_F (j := 7) (v := 0) hn2 (by decide)) (by omega) (by decide) (fun S3 r3 hu3 e3 hn3 => ?_)
    refine hS s hs e v q1 q2 hv S3 (upG_tr (upG_M hu1) (upG_tr (upG_W hu2) (upG_tr (upG_F (by decide)) (upG_S hu3)))) (by rw [hu3.1, sF_F, if_pos rfl]) (nuX_nk hn3 (fun s' hs' => ?_))
    by_cases q : s' = s
    · rw [q, va_up_self, va_up_self]
      exact eqW_tr e3 e2
    · rw [va_up_ne _ _ q, va_up_ne _ _ q]
      exact hX2 s' hs'
  · rw [sF_F, if_neg (by decide)] at z
    exact absurd h10 z
end WX
