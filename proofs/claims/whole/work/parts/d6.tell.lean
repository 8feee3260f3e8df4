/-! the class's reader: factors, terms, texts, tell -/
section RF
variable {L d : Nat} {Ln : Nat → Nat} {t : Nat} {b : Nat → Nat} {X : Nat → Nat → Kf}
theorem cr_round21 {R : cs_T → Int32 → (cs_T → Prop) → Prop} {T : Nat → RS} {ok : Bool} {S : cs_T} {g : Nat → Nat → Kf} {k lv c : Nat} {lk0 lk : Int32} {acc : Option (Nat → Kf)} {Q : cs_T → Prop} (h : rdC L d Ln t b S g k lk) (hlv : lv ≤ 5) (hok : ok = decide (lv < 5)) (hT : okT t T) (hR : lv < 5 → TxO L d Ln t b X (lv + 1) T R) (hX : smR L d X g) (ha : accR L d lk0 (15 + (3 * lv + 1)) acc g lk) (hc : c = 40 ∨ c = 69 ∨ c = 76)
    (hp : postK L d Ln t b lv S g lk0 acc (if bt t b k ≠ 40 ∨ ok = false then (false, k, none) else if (T (k + 1)).1 = false then (false, (T (k + 1)).2.1, none) else if bt t b (T (k + 1)).2.1 ≠ 41 then (false, (T (k + 1)).2.1, none)
     else (true, (T (k + 1)).2.1 + 1, if c = 40 then (T (k + 1)).2.2 else elO L d c (T (k + 1)).2.2)) Q) : wp_X4_readRound_21 R Ln Q S (nI lv) (nI c) := by
  have hL : 1 ≤ L := Nat.le_of_lt (cf_L h.1.1.1).1
  have ht := h.2.1.2.1
  have hW := cv_W h.1
  refine cr_opens (c := 40) h hlv (by decide) (fun e40 h5 hr1 => ⟨fun _ => ?_, fun z => absurd z (by decide)⟩) (fun e => ⟨fun z => absurd rfl z, fun _ => ?_⟩)
  rotate_left
  · have : bt t b k ≠ 40 ∨ ok = false := by
      cases e with
      | inl e => exact Or.inl e
      | inr e => exact Or.inr (by rw [hok]; exact decide_eq_false e)
    rw [if_pos this] at hp
    exact rd_fault h (hp.2 rfl)
  have hokt : ¬ (bt t b k ≠ 40 ∨ ok = false) := by
    rw [hok, decide_eq_true h5]
    intro z
    cases z with
    | inl z => exact z e40
    | inr z => cases z
  rw [if_neg hokt] at hp
  rw [nI_1]
  have hT1 := hT (k + 1) hr1.2.2.2.1
  refine rq_wh (by omega) (hR h5 _ g (k + 1) lk _ hr1 hX (fun q1 S2 g2 lk2 hu2 hr2 hf2 ha2 => ?_) (fun q1 => ?_))
  rotate_left
  · rw [if_pos q1] at hp
    intro S' g' hu hcv he h7
    exact cr_goesF h7 (by omega) ⟨fun z => absurd rfl z, fun _ => hp.2 rfl S' g' (upR_tr (upR_F (Or.inl rfl)) hu) hcv he h7⟩
  rw [if_neg (by rw [q1]; decide)] at hp
  have u12 : upR S S2 := upR_tr (upR_F (Or.inl rfl)) hu2
  refine cr_goes (c := 41) hr2 (by decide) (fun e41 hr3 => ⟨fun _ => ?_, fun z => absurd z (by decide)⟩) (fun e41 => ⟨fun z => absurd rfl z, fun _ => ?_⟩)
  rotate_left
  · rw [if_pos e41] at hp
    exact rd_fault hr2 (pF_tr (hp.2 rfl) u12 (eq7_R hf2))
  rw [if_neg (fun z => z e41)] at hp
  refine cr_round_op hr3 h5 hc (fun S4 g4 lk4 z hu4 hr4 hf4 he4 hs4 hn4 => ?_)
  refine hp.1 rfl S4 g4 lk4 (upR_tr u12 (upR_tr (upR_F (Or.inl rfl)) hu4)) hr4 (fr_tr (fr_w hf2 (fun _ => kR_T)) hf4) ?_
  have etm : g2 (15 + (3 * lv + 1)) = g (15 + (3 * lv + 1)) := hf2 _ (by unfold kR; omega)
  have hlk4 : lk2 = 1 → lk4 = 1 := fun q => by
    cases hz : rdO L d c (g2 (15 + 3 * (lv + 1))) with
    | none => exact hn4 hz
    | some y => rw [(hs4 y hz).1]; exact q
  refine acc_mul ha (fun x y hx hy => ?_) (fun q => ?_) (fun q => ?_)
  · cases hv : (T (k + 1)).2.2 with
    | none =>
      rw [hv] at hy
      exact absurd hy (by
        by_cases e : c = 40
        · rw [if_pos e]; exact fun q => by cases q
        · rw [if_neg e]; exact fun q => by cases q)
    | some v =>
      rw [hv] at hy
      obtain ⟨a1, a2⟩ := ha2.1 v hv
      obtain ⟨y', hy1, hy2⟩ := (rdO_c hL a2 hW.2).1 y hy
      obtain ⟨c1, c2⟩ := hs4 y' hy1
      refine ⟨c1.trans a1, ?_⟩
      rw [he4, etm]
      exact mulK_c hL (ha.1 x hx).2 (fun w hw => (c2 w hw).trans (hy2 w hw))
  · refine hlk4 ?_
    cases hv : (T (k + 1)).2.2 with
    | none => exact ha2.2 hv
    | some v => rw [(ha2.1 v hv).1]; exact q
  · cases hv : (T (k + 1)).2.2 with
    | none => exact hlk4 (ha2.2 hv)
    | some v =>
      rw [hv] at q
      exact hn4 ((rdO_c hL (ha2.1 v hv).2 hW.2).2 q)
theorem pK_tr {lv : Nat} {S S1 : cs_T} {g : Nat → Nat → Kf} {lk0 : Int32} {acc : Option (Nat → Kf)} {r : RS} {Q : cs_T → Prop} (h : postK L d Ln t b lv S g lk0 acc r Q) (hu : upR S S1) : postK L d Ln t b lv S1 g lk0 acc r Q := ⟨fun q S' g' lk' a c e f => h.1 q S' g' lk' (upR_tr hu a) c e f, fun q => pF_tr (h.2 q) hu (fun _ _ _ => rfl)⟩
theorem cr_round {R : cs_T → Int32 → (cs_T → Prop) → Prop} {T : Nat → RS} {ok : Bool} {S : cs_T} {g : Nat → Nat → Kf} {k lv : Nat} {lk0 lk : Int32} {acc : Option (Nat → Kf)} {Q : cs_T → Prop} (h : rdC L d Ln t b S g k lk) (hlv : lv ≤ 5) (hok : ok = decide (lv < 5)) (hT : okT t T) (hR : lv < 5 → TxO L d Ln t b X (lv + 1) T R) (hX : smR L d X g) (ha : accR L d lk0 (15 + (3 * lv + 1)) acc g lk) (hc : bt t b k = 40 ∨ bt t b k = 69 ∨ bt t b k = 76)
    (hp : postK L d Ln t b lv S g lk0 acc (if bt t b (if bt t b k = 40 then k else k + 1) ≠ 40 ∨ ok = false then (false, (if bt t b k = 40 then k else k + 1), none)
  else if (T ((if bt t b k = 40 then k else k + 1) + 1)).1 = false then (false, (T ((if bt t b k = 40 then k else k + 1) + 1)).2.1, none)
  else if bt t b (T ((if bt t b k = 40 then k else k + 1) + 1)).2.1 ≠ 41 then (false, (T ((if bt t b k = 40 then k else k + 1) + 1)).2.1, none)
  else (true, (T ((if bt t b k = 40 then k else k + 1) + 1)).2.1 + 1, if bt t b k = 40 then (T ((if bt t b k = 40 then k else k + 1) + 1)).2.2 else elO L d (bt t b k) (T ((if bt t b k = 40 then k else k + 1) + 1)).2.2)) Q) : wp_X4_readRound R Ln S (nI lv) Q := by
  have hkt : k < t := bt_t (t := t) (b := b) rfl (by omega)
  have hv : hvI t b k = nI (bt t b k) := by
    rw [show bt t b k = b k from if_pos hkt]; exact if_pos hkt
  refine cr_hand h ?_
  refine cr_ch (c := 40) h.2.1 (by decide) (fun e => ?_) (fun e => ?_)
  · rw [hv]
    simp only [if_pos e] at hp
    refine cr_round21 h hlv hok hT hR hX ha hc ?_
    simp only [if_pos e]
    exact hp
  · rw [hv]
    simp only [if_neg e] at hp
    refine cr_round21 (rd_pl h hkt) hlv hok hT hR hX ha hc (pK_tr ?_ (upR_F (Or.inl rfl)))
    simp only [if_neg e]
    exact hp
theorem cr_factor {R : cs_T → Int32 → (cs_T → Prop) → Prop} {T : Nat → RS} {ok : Bool} {S : cs_T} {g : Nat → Nat → Kf} {k lv : Nat} {lk0 lk : Int32} {acc : Option (Nat → Kf)} {Q : cs_T → Prop} (h : rdC L d Ln t b S g k lk) (hlv : lv ≤ 5) (hok : ok = decide (lv < 5)) (hT : okT t T) (hR : lv < 5 → TxO L d Ln t b X (lv + 1) T R) (hX : smR L d X g) (ha : accR L d lk0 (15 + (3 * lv + 1)) acc g lk) (hb : bgP L (bt t b k))
    (hp : postK L d Ln t b lv S g lk0 acc (facR L d (bt t b) X ok T k) Q) : wp_X4_readFactor R Ln S (nI lv) Q := by
  have hL : 1 ≤ L := Nat.le_of_lt (cf_L h.1.1.1).1
  have hL4 := (cf_L h.1.1.1).2
  unfold facR at hp
  refine cr_hand h (cr_digit h.2.1 (fun q => ⟨fun z => absurd z (by decide), fun _ => ?_⟩) (fun q => ⟨fun _ => ?_, fun z => absurd rfl z⟩))
  · rw [if_pos q] at hp
    refine rq_te hlv (cr_number h (fun S1 hu1 hr1 => ?_))
    have hn : nmv (bt t b) k (dgn (bt t b) 4 k) < 10000 := Nat.lt_of_lt_of_le (nmv_lt _ (fun i hi => (dgn_dg 4 k i hi).2)) (Nat.pow_le_pow_right (by decide) (dgn_le 4 k))
    rw [← kI_N (show nmv (bt t b) k (dgn (bt t b) 4 k) < PR by unfold PR; omega)]
    refine cq_scale hr1.1 (by unfold kV; omega) (fun S2 hu hc => ?_)
    refine hp.1 rfl S2 _ lk (upR_tr hu1 (upR_V hu)) (rd_V hr1 hu hc) (fr_u (by unfold kT; omega)) ?_
    refine acc_mul ha (fun x y hx hy => ⟨rfl, ?_⟩) (fun z => z) (fun z => by cases z)
    rw [va_up_self]
    have ey : unitK (kN (nmv (bt t b) k (dgn (bt t b) 4 k))) = y := by
      have : some (unitK (kN (nmv (bt t b) k (dgn (bt t b) 4 k)))) = some y := hy
      injection this
    rw [← ey]
    exact mul_unit hL (ha.1 x hx).2
  · rw [if_neg q] at hp
    refine cr_letter h.1 h.2.1 (fun q2 => ⟨fun z => absurd z (by decide), fun _ => ?_⟩) (fun q2 => ⟨fun _ => ?_, fun z => absurd rfl z⟩)
    · rw [if_pos q2] at hp
      have hkt : k < t := bt_t (t := t) (b := b) rfl (show bt t b k < 256 by unfold ltP at q2; omega)
      have hv : hvI t b k = nI (bt t b k) := by
        rw [show bt t b k = b k from if_pos hkt]; exact if_pos hkt
      have hr := rd_pl h hkt
      rw [hv, show (97 : Int32) = nI 97 from rfl, pk_sub q2.1]
      refine rq_te hlv (cq_byLetter hr.1 (by unfold kV; omega) (by omega) (by unfold ltP at q2; omega) (fun S2 g2 hu hc hf he => ?_))
      refine hp.1 rfl S2 g2 lk (upR_tr (upR_F (Or.inl rfl)) (upR_V hu)) (rd_V hr hu hc) (fr_w hf (fun j hj => by unfold kT; omega)) ?_
      refine acc_mul ha (fun x y hx hy => ⟨rfl, ?_⟩) (fun z => z) (fun z => by cases z)
      have ey : plK L d (lt2 (bt t b k - 97)) = y := by
        have : some (plK L d (lt2 (bt t b k - 97))) = some y := hy
        injection this
      rw [he, ← ey]
      exact mul_let hL (ha.1 x hx).2
    · rw [if_neg q2] at hp
      refine cr_ch' (c := 114) h.2.1 (by decide) (fun e => ?_) (fun e => ?_)
      · rw [if_pos e] at hp
        have hkt : k < t := bt_t e (by decide)
        exact cr_sum (rd_pl h hkt) hlv hX ha (pK_tr hp (upR_F (Or.inl rfl)))
      · rw [if_neg e] at hp
        refine cr_ch' (c := 91) h.2.1 (by decide) (fun e2 => ?_) (fun e2 => ?_)
        · rw [if_pos e2] at hp
          exact cr_bracket h hlv hok hT hR hX ha e2 hp
        · rw [if_neg e2] at hp
          refine cr_round h hlv hok hT hR hX ha ?_ hp
          unfold bgP at hb
          omega
end RF
