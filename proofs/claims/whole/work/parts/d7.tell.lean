/-! the class's reader: terms, texts, tell -/
section RG
variable {L d : Nat} {Ln : Nat → Nat} {t : Nat} {b : Nat → Nat} {X : Nat → Nat → Kf}
theorem nI_nl {f : Nat} (h : f ≤ 100) : ¬ nI f < 0 := (pk_lt (A := False) (B := True) f 0 (fun z => by omega) (fun _ => trivial)).1
def postT (L d : Nat) (Ln : Nat → Nat) (t : Nat) (b : Nat → Nat) (P : Nat → Prop) (row : Nat) (S : cs_T) (g : Nat → Nat → Kf) (lk0 : Int32) (r : RS) (Q : cs_T → Prop) : Prop :=
  (r.1 = true → ∀ S' g' lk', upR S S' → rdC L d Ln t b S' g' r.2.1 lk' → fr P g g' → accR L d lk0 row r.2.2 g' lk' → Q S') ∧ (r.1 = false → postF L d Ln S g r.2.1 Q)
theorem pT_tr {P : Nat → Prop} {row : Nat} {S S1 : cs_T} {g g1 : Nat → Nat → Kf} {lk0 : Int32} {r : RS} {Q : cs_T → Prop} (h : postT L d Ln t b P row S g lk0 r Q) (hu : upR S S1) (hf : fr P g g1) (he : eq7 g g1) : postT L d Ln t b P row S1 g1 lk0 r Q := ⟨fun q S' g' lk' a c e f => h.1 q S' g' lk' (upR_tr hu a) c (fr_tr hf e) f, fun q => pF_tr (h.2 q) hu he⟩
theorem cr_term71 {R : cs_T → Int32 → (cs_T → Prop) → Prop} {S : cs_T} {g : Nat → Nat → Kf} {k lv : Nat} {lk0 lk : Int32} {acc : Option (Nat → Kf)} {Q : cs_T → Prop} (h : rdC L d Ln t b S g k lk) (hlv : lv ≤ 5) (ha : accR L d lk0 (15 + (3 * lv + 1)) acc g lk) (hp : postT L d Ln t b (kT lv) (15 + (3 * lv + 1)) S g lk0 (trE L d (bt t b) k acc) Q) : wp_X4_readTerm_71 R Ln Q S (nI lv) := by
  unfold trE at hp
  refine cr_hand h (cr_ch' (c := 47) h.2.1 (by decide) (fun e => ?_) (fun e => ?_))
  · rw [if_pos e] at hp
    have hkt := bt_t e (by decide)
    have hp2 := pT_tr (g1 := g) hp (upR_F (j := 6) (v := S.1 6 + 1) (Or.inl rfl)) fr_rf (fun _ _ _ => rfl)
    refine cr_div (rd_pl h hkt) hlv ha ?_
    by_cases q : (48 ≤ bt t b (k + 1) ∧ bt t b (k + 1) ≤ 57) ∧ bt t b (k + 1) ≠ 48
    · rw [if_pos q] at hp2 ⊢
      exact hp2
    · rw [if_neg q] at hp2 ⊢
      exact ⟨fun z => absurd z Bool.false_ne_true, hp2.2⟩
  · rw [if_neg e] at hp
    exact hp.1 rfl S g lk upR_rf h fr_rf ha
theorem cr_term35 {R : cs_T → Int32 → (cs_T → Prop) → Prop} {T : Nat → RS} {ok : Bool} {lv : Nat} {lk0 : Int32} {Q : cs_T → Prop} (hL4 : L ≤ 4) (hlv : lv ≤ 5) (hok : ok = decide (lv < 5)) (hT : okT t T) (hR : lv < 5 → TxO L d Ln t b X (lv + 1) T R) :
    ∀ n S g k lk acc, n ≤ 100 → rdC L d Ln t b S g k lk → smR L d X g → accR L d lk0 (15 + (3 * lv + 1)) acc g lk → postT L d Ln t b (kT lv) (15 + (3 * lv + 1)) S g lk0 (trL L d (bt t b) X ok T n k acc) Q → wp_X4_readTerm_35 R Ln Q (n + 1) S (nI lv) (nI (100 - n))
  | 0, S, g, k, lk, acc, hn, h, hX, ha, hp => ⟨fun _ => cr_term71 h hlv ha hp, fun z => absurd (nI_le (a := 100) (Nat.le_refl _) (by decide)) z⟩
  | n + 1, S, g, k, lk, acc, hn, h, hX, ha, hp => by
    have ht := h.2.1.2.1
    unfold trL at hp
    refine ⟨fun z => absurd z (nI_ge (a := 100 - (n + 1)) (b := 100) (by omega) (by omega)), fun _ => cr_hand h (cr_begins h.1 h.2.1 (fun q => ⟨fun z => absurd z (by decide), fun _ => ?_⟩) (fun q => ⟨fun _ => ?_, fun z => absurd rfl z⟩))⟩
    · rw [if_pos q] at hp
      have hfl := fac_pl (L := L) (d := d) (X := X) (ok := ok) hT h.2.2.2.1 q hL4
      refine cr_factor h hlv hok hT hR hX ha q ⟨fun e S' g' lk' hu hr hf hac => ⟨fun _ => ?_, fun z => ?_⟩, fun e => ?_⟩
      · rintro _ rfl
        rw [nI_1, show 100 - (n + 1) + 1 = 100 - n by omega]
        rw [if_neg (by rw [e]; decide)] at hp
        exact cr_term35 hL4 hlv hok hT hR n S' g' _ lk' _ (by omega) hr (sm_eq hX (eq7_T hf)) hac (pT_tr hp hu hf (eq7_T hf))
      · exact absurd (show S'.1 7 < 0 by rw [hr.2.2.2.2.1]; decide) z
      · rw [if_pos e] at hp
        intro S' g' hu hc he h7
        have h70 : ¬ S'.1 7 < 0 := by
          rw [h7]
          exact nI_nl (by omega)
        exact ⟨fun z => absurd z h70, fun _ => hp.2 rfl S' g' hu hc he h7⟩
    · rw [if_neg q] at hp
      exact cr_term71 h hlv ha hp
theorem cr_term {R : cs_T → Int32 → (cs_T → Prop) → Prop} {T : Nat → RS} {ok : Bool} {lv k : Nat} {lk : Int32} {S : cs_T} {g : Nat → Nat → Kf} {Q : cs_T → Prop} (h : rdC L d Ln t b S g k lk) (hlv : lv ≤ 5) (hok : ok = decide (lv < 5)) (hT : okT t T) (hR : lv < 5 → TxO L d Ln t b X (lv + 1) T R) (hX : smR L d X g) (hp : postT L d Ln t b (kT lv) (15 + (3 * lv + 1)) S g lk (trR L d (bt t b) X ok T k) Q) : wp_X4_readTerm R Ln S (nI lv) Q := by
  have hL4 := (cf_L h.1.1.1).2
  refine rq_te hlv (cq_unit (c := 1) h.1 (by unfold kV; omega) (fun S1 hu hc => ?_))
  have h1 := rd_V h hu hc
  have hfu : fr (kT lv) g (va_up g (15 + (3 * lv + 1)) (fun j => if j = 0 then (1 : Kf) else 0)) := fr_u (by unfold kT; omega)
  unfold trR at hp
  refine cr_hand h1 (cr_begins h1.1 h1.2.1 (fun q => ⟨fun _ => ⟨101, ?_⟩, fun z => absurd z (by decide)⟩) (fun q => ⟨fun z => absurd rfl z, fun _ => ?_⟩))
  · rw [if_pos q] at hp
    refine cr_term35 hL4 hlv hok hT hR 100 S1 _ k lk (some (unitK 1)) (Nat.le_refl _) h1 (sm_eq hX (eq7_T hfu)) ⟨fun v hv => ⟨rfl, ?_⟩, fun z => by cases z⟩ (pT_tr hp (upR_V hu) hfu (eq7_T hfu))
    injection hv with hv
    rw [va_up_self, ← hv]
    exact fun _ _ => rfl
  · rw [if_neg q] at hp
    exact rd_fault h1 (pF_tr (hp.2 rfl) (upR_V hu) (eq7_T hfu))
theorem acc_add {lk0 lk lk' : Int32} {row trow : Nat} {acc v : Option (Nat → Kf)} {s : Kf} {g g1 g2 : Nat → Nat → Kf} (h : accR L d lk0 row acc g lk) (h1 : accR L d lk trow v g1 lk') (hw : g1 row = g row) (he : g2 row = fun j => g1 row j + g1 trow j * s) : accR L d lk0 row (addO acc s v) g2 lk' := by
  have hm : lk = 1 → lk' = 1 := fun z => by
    cases hv : v with
    | none => exact h1.2 hv
    | some y => rw [(h1.1 y hv).1]; exact z
  refine ⟨fun z hz => ?_, fun hz => ?_⟩
  · cases acc with
    | none => exact absurd hz (by unfold addO; exact fun q => by cases q)
    | some x =>
      cases v with
      | none => exact absurd hz (by unfold addO; exact fun q => by cases q)
      | some y =>
        have e : (fun j => x j + y j * s) = z := by
          have : some (fun j => x j + y j * s) = some z := hz
          injection this
        obtain ⟨a1, a2⟩ := h.1 x rfl
        obtain ⟨c1, c2⟩ := h1.1 y rfl
        refine ⟨c1.trans a1, ?_⟩
        rw [he, ← e]
        intro w hw2
        show g1 row w + g1 trow w * s = x w + y w * s
        rw [hw, a2 w hw2, c2 w hw2]
  · cases acc with
    | none => exact hm (h.2 rfl)
    | some x =>
      cases v with
      | none => exact h1.2 rfl
      | some y =>
        have : some (fun j => x j + y j * s) = none := hz
        cases this
theorem kT_R {lv k : Nat} (h : kT lv k) : kR lv k := by unfold kT at h; unfold kR; omega
theorem cr_text16 {R : cs_T → Int32 → (cs_T → Prop) → Prop} {T : Nat → RS} {ok : Bool} {lv : Nat} {lk0 : Int32} {Q : cs_T → Prop} (hL4 : L ≤ 4) (hlv : lv ≤ 5) (hok : ok = decide (lv < 5)) (hT : okT t T) (hR : lv < 5 → TxO L d Ln t b X (lv + 1) T R) :
    ∀ n S g k lk s acc, n ≤ 100 → rdC L d Ln t b S g k lk → smR L d X g → accR L d lk0 (15 + 3 * lv) acc g lk → postT L d Ln t b (kR lv) (15 + 3 * lv) S g lk0 (txL L d (bt t b) X ok T n k s acc) Q → wp_X4_readText_16 R Ln Q (n + 1) S (nI lv) (15 + 3 * lv) (kI s) (nI (100 - n))
  | 0, S, g, k, lk, s, acc, hn, h, hX, ha, hp => ⟨fun _ => hp.1 rfl S g lk upR_rf h fr_rf ha, fun z => absurd (nI_le (a := 100) (Nat.le_refl _) (by decide)) z⟩
  | n + 1, S, g, k, lk, s, acc, hn, h, hX, ha, hp => by
    have ht := h.2.1.2.1
    have htl := trR_pl (L := L) (d := d) (b := b) (X := X) (ok := ok) hT hL4 h.2.2.2.1
    unfold txL at hp
    refine ⟨fun z => absurd z (nI_ge (a := 100 - (n + 1)) (b := 100) (by omega) (by omega)), fun _ => cr_term h hlv hok hT hR hX ⟨fun e S1 g1 lk1 hu1 hr1 hf1 ha1 => ⟨fun _ => ?_, fun z => ?_⟩, fun e => ?_⟩⟩
    · rw [if_neg (by rw [e]; decide)] at hp
      refine rq_te hlv (cq_amass hr1.1 (by unfold kV; omega) (by unfold kV; omega) (fun S2 hu2 hc2 => ?_))
      have hr2 := rd_V hr1 hu2 hc2
      have ew : g1 (15 + 3 * lv) = g (15 + 3 * lv) := hf1 _ (by unfold kT; omega)
      have ha2 : accR L d lk0 (15 + 3 * lv) (addO acc s (trR L d (bt t b) X ok T k).2.2) (va_up g1 (15 + 3 * lv) (fun j => g1 (15 + 3 * lv) j + g1 (15 + (3 * lv + 1)) j * s)) lk1 := acc_add ha ha1 ew (va_up_self _ _ _)
      have hf2 : fr (kR lv) g (va_up g1 (15 + 3 * lv) (fun j => g1 (15 + 3 * lv) j + g1 (15 + (3 * lv + 1)) j * s)) := fr_tr (fr_w hf1 (fun _ => kT_R)) (fr_u (by unfold kR; omega))
      have hu : upR S S2 := upR_tr hu1 (upR_V hu2)
      have go : ∀ c : Nat, c = 43 ∨ c = 45 → bt t b (trR L d (bt t b) X ok T k).2.1 = c → wp_X4_readText_71 R Ln (wp_X4_readText_16 R Ln Q (n + 1)) Q S2 (nI lv) (15 + 3 * lv) (nI (100 - (n + 1))) (hvI t b (trR L d (bt t b) X ok T k).2.1) := fun c hc ec => by
        have hkt : (trR L d (bt t b) X ok T k).2.1 < t := bt_t ec (by omega)
        rw [if_pos (by omega)] at hp
        have hr3 := rd_pl hr2 hkt
        have hp3 := pT_tr hp (upR_tr hu (upR_F (j := 6) (v := S2.1 6 + 1) (Or.inl rfl))) hf2 (eq7_R hf2)
        have i := cr_text16 hL4 hlv hok hT hR n _ _ _ lk1 _ _ (by omega) hr3 (sm_eq hX (eq7_R hf2)) ha2 hp3
        refine cr_ch' (c := 43) hr2.2.1 (by decide) (fun q => ?_) (fun q => ?_)
        · rintro _ rfl
          rw [nI_1, show 100 - (n + 1) + 1 = 100 - n by omega]
          rw [if_pos q] at i
          exact i
        · rintro _ rfl
          rw [nI_1, show 100 - (n + 1) + 1 = 100 - n by omega]
          rw [if_neg q, kI_N (by unfold PR; omega)] at i
          exact i
      refine cr_hand hr2 ?_
      refine cr_ch (c := 43) hr2.2.1 (by decide) (fun q => go 43 (Or.inl rfl) q) (fun q => ?_)
      refine cr_ch (c := 45) hr2.2.1 (by decide) (fun q2 => go 45 (Or.inr rfl) q2) (fun q2 => ?_)
      rw [if_neg (by omega)] at hp
      exact hp.1 rfl S2 _ lk1 hu hr2 hf2 ha2
    · exact absurd (show S1.1 7 < 0 by rw [hr1.2.2.2.2.1]; decide) z
    · rw [if_pos e] at hp
      intro S' g' hu hc he h7
      have h70 : ¬ S'.1 7 < 0 := by
        rw [h7]
        exact nI_nl (by omega)
      exact ⟨fun z => absurd z h70, fun _ => hp.2 rfl S' g' hu hc he h7⟩
theorem cr_text (hL4 : L ≤ 4) : ∀ D m, D ≤ 5 → TxO L d Ln t b X (5 - D) (TX L d (bt t b) X (D + 1)) (wp_X4_readText Ln (D + 1 + m))
  | D, m, hD => fun S g k lk Q h hX h1 h0 => by
    rw [show D + 1 + m = (D + m) + 1 by omega]
    show wq_X4_readText (wp_X4_readText Ln (D + m)) Ln S (nI (5 - D)) Q
    unfold wq_X4_readText
    refine rq_wh (by omega) (cq_fill h.1 (by unfold kV; omega) (fun S1 hu hc => ⟨101, ?_⟩))
    have hr := rd_V h hu hc
    have hfu : fr (kR (5 - D)) g (va_up g (15 + 3 * (5 - D)) (fun _ => (0 : Kf))) := fr_u (by unfold kR; omega)
    refine cr_text16 (T := TX L d (bt t b) X D) (ok := decide (1 ≤ D)) (lv := 5 - D) (lk0 := lk) hL4 (by omega) ?_ (TX_pl hL4 D) (fun h5 => ?_) 100 S1 _ k lk 1 (some (fun _ => 0)) (Nat.le_refl _) hr (sm_eq hX (eq7_R hfu)) ⟨fun v hv => ⟨rfl, ?_⟩, fun z => by cases z⟩ (pT_tr ⟨h1, h0⟩ (upR_V hu) hfu (eq7_R hfu))
    · exact decide_eq_decide.mpr (by omega)
    · match D, hD, h5 with
      | 0, _, h5 => exact absurd h5 (by omega)
      | D' + 1, hD, h5 =>
        have i := cr_text hL4 D' m (by omega)
        rw [show 5 - D' = 5 - (D' + 1) + 1 by omega] at i
        exact i
    · injection hv with hv
      rw [va_up_self, ← hv]
      exact fun _ _ => rfl
end RG
