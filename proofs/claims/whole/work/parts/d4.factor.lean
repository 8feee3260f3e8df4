/-! the class's reader: a factor -/
section RD
variable {L d : Nat} {Ln : Nat → Nat} {t : Nat} {b : Nat → Nat} {X : Nat → Nat → Kf}
def smR (L d : Nat) (X g : Nat → Nat → Kf) : Prop := ∀ i, i < 8 → eqW L d (g (7 + i)) (X i)
def eq7 (g g' : Nat → Nat → Kf) : Prop := ∀ k, 7 ≤ k → k ≤ 14 → g' k = g k
theorem eq7_R {lv : Nat} {g g' : Nat → Nat → Kf} (h : fr (kR lv) g g') : eq7 g g' := fun k a c => h k (by unfold kR; omega)
theorem eq7_T {lv : Nat} {g g' : Nat → Nat → Kf} (h : fr (kT lv) g g') : eq7 g g' := fun k a c => h k (by unfold kT; omega)
theorem eq7_tr {g g1 g2 : Nat → Nat → Kf} (h : eq7 g g1) (h1 : eq7 g1 g2) : eq7 g g2 := fun k a c => (h1 k a c).trans (h k a c)
theorem sm_eq {g g' : Nat → Nat → Kf} (h : smR L d X g) (he : eq7 g g') : smR L d X g' := fun i hi => by
  rw [he (7 + i) (by omega) (by omega)]; exact h i hi
theorem pF_tr {S S1 : cs_T} {g g1 : Nat → Nat → Kf} {f : Nat} {Q : cs_T → Prop} (h : postF L d Ln S g f Q) (hu : upR S S1) (he : eq7 g g1) : postF L d Ln S1 g1 f Q := fun S' g' a c e q => h S' g' (upR_tr hu a) c (fun k x y => (e k x y).trans (he k x y)) q
theorem rd_fault {S : cs_T} {g : Nat → Nat → Kf} {k : Nat} {lk : Int32} {Q : cs_T → Prop} (h : rdC L d Ln t b S g k lk) (hp : postF L d Ln S g k Q) : Q (cs_sF S 7 (S.1 6)) := hp _ g (upR_F (Or.inr (Or.inl rfl))) (cv_F h.1 (by decide)) (fun _ _ _ => rfl) (by rw [sF_s]; exact h.2.2.1)
theorem rq_wh {S : cs_T} {lv : Nat} {Q : Nat → cs_T → Prop} (hlv : lv ≤ 5) (hq : Q (15 + 3 * lv) S) : wp_X4_wholeOf Ln S (nI lv) Q := by
  have h := mul_o hlv
  exact ⟨h.2.2.2.1, by rw [h.2.1]; exact hq⟩
theorem rq_te {S : cs_T} {lv : Nat} {Q : Nat → cs_T → Prop} (hlv : lv ≤ 5) (hq : Q (15 + (3 * lv + 1)) S) : wp_X4_termOf Ln S (nI lv) Q := by
  have h := mul_o hlv
  exact ⟨h.2.2.2.2.1, by rw [h.1]; exact hq⟩
theorem rq_le {S : cs_T} {lv : Nat} {Q : Nat → cs_T → Prop} (hlv : lv ≤ 5) (hq : Q (15 + (3 * lv + 2)) S) : wp_X4_leftOf Ln S (nI lv) Q := by
  have h := mul_o hlv
  exact ⟨h.2.2.2.2.2, by rw [h.2.2.1]; exact hq⟩
theorem cr_opens {S : cs_T} {g : Nat → Nat → Kf} {k lv c : Nat} {lk : Int32} {Q : Int32 → cs_T → Prop} (h : rdC L d Ln t b S g k lk) (hlv : lv ≤ 5) (hc : c < 256) (h1 : bt t b k = c → lv < 5 → rdC L d Ln t b (cs_sF S 6 (S.1 6 + 1)) g (k + 1) lk → Q 1 (cs_sF S 6 (S.1 6 + 1))) (h0 : bt t b k ≠ c ∨ ¬ lv < 5 → Q 0 (cs_sF S 7 (S.1 6))) : wp_X4_opens Ln S (nI c) (nI lv) Q := by
  refine cr_hand h (cr_ch' h.2.1 hc (fun e => ?_) (fun e => h0 (Or.inl e)))
  exact pk_lt lv 5 (fun q => h1 e q (rd_pl h (bt_t e hc))) (fun q => h0 (Or.inr (by omega)))
theorem cr_goes {S : cs_T} {g : Nat → Nat → Kf} {k c : Nat} {lk : Int32} {Q : Int32 → cs_T → Prop} (h : rdC L d Ln t b S g k lk) (hc : c < 256) (h1 : bt t b k = c → rdC L d Ln t b (cs_sF S 6 (S.1 6 + 1)) g (k + 1) lk → Q 1 (cs_sF S 6 (S.1 6 + 1))) (h0 : bt t b k ≠ c → Q 0 (cs_sF S 7 (S.1 6))) : wp_X4_goesOn Ln S (nI c) Q := by
  have h7 : ¬ (0 : Int32) ≤ S.1 7 := by rw [h.2.2.2.2.1]; decide
  refine ⟨fun z => absurd z h7, fun _ => cr_hand h (cr_ch' h.2.1 hc (fun e => h1 e (rd_pl h (bt_t e hc))) (fun e => ⟨fun z => absurd z h7, fun _ => h0 e⟩))⟩
theorem cr_goesF {S : cs_T} {f : Nat} {c : Int32} {Q : Int32 → cs_T → Prop} (h7 : S.1 7 = nI f) (hf : f ≤ 100) (hq : Q 0 S) : wp_X4_goesOn Ln S c Q := by
  have h : (0 : Int32) ≤ S.1 7 := by rw [h7]; exact nI_le (a := 0) (Nat.zero_le _) (by omega)
  exact ⟨fun _ => ⟨fun _ => hq, fun z => absurd h z⟩, fun z => absurd h z⟩
theorem ns_lt : ∀ c : Fin 48, nI c.val - 48 < 0 := by decide
theorem cr_noSum {S : cs_T} {k : Nat} {Q : Int32 → Prop} (h : tpC Ln t b S) (h1 : 48 ≤ bt t b k → bt t b k ≤ 55 → k < t → hvI t b k - 48 = nI (bt t b k - 48) → Q 0) (h0 : ¬ (48 ≤ bt t b k ∧ bt t b k ≤ 55) → Q 1) : wp_X7_noSum (hvI t b k - 48) Q := by
  by_cases e : k < t
  · have hb : bt t b k = b k := if_pos e
    have hv : hvI t b k = nI (b k) := if_pos e
    have h256 := (h.2.2.2 k e).2
    rw [hb] at h1 h0
    rw [hv] at h1 ⊢
    by_cases q : 48 ≤ b k
    · have es : nI (b k) - (48 : Int32) = nI (b k - 48) := pk_sub (a := b k) (b := 48) q
      rw [es] at h1 ⊢
      refine ⟨fun z => absurd z ?_, fun _ => pk_lt (b k - 48) 8 (fun q2 => h1 q (by omega) e rfl) (fun q2 => h0 (by omega))⟩
      exact (pk_lt (A := False) (B := True) (b k - 48) 0 (fun z => by omega) (fun _ => trivial)).1
    · have := ns_lt ⟨b k, by omega⟩
      exact ⟨fun _ => h0 (by omega), fun z => absurd this z⟩
  · have hb : bt t b k = 256 := if_neg e
    have hv : hvI t b k = -1 := if_neg e
    rw [hb] at h0
    rw [hv]
    exact ⟨fun _ => h0 (by omega), fun z => absurd (by decide) z⟩
theorem acc_w {lk0 lk : Int32} {row : Nat} {acc : Option (Nat → Kf)} {g g' : Nat → Nat → Kf} (h : accR L d lk0 row acc g lk) (he : g' row = g row) : accR L d lk0 row acc g' lk := ⟨fun v hv => by rw [he]; exact h.1 v hv, h.2⟩
def postK (L d : Nat) (Ln : Nat → Nat) (t : Nat) (b : Nat → Nat) (lv : Nat) (S : cs_T) (g : Nat → Nat → Kf) (lk0 : Int32) (acc : Option (Nat → Kf)) (r : RS) (Q : cs_T → Prop) : Prop :=
  (r.1 = true → ∀ S' g' lk', upR S S' → rdC L d Ln t b S' g' r.2.1 lk' → fr (kT lv) g g' → accR L d lk0 (15 + (3 * lv + 1)) (mulO L d acc r.2.2) g' lk' → Q S') ∧ (r.1 = false → postF L d Ln S g r.2.1 Q)
theorem cr_sum {S : cs_T} {g : Nat → Nat → Kf} {k lv : Nat} {lk0 lk : Int32} {acc : Option (Nat → Kf)} {Q : cs_T → Prop} (h : rdC L d Ln t b S g k lk) (hlv : lv ≤ 5) (hX : smR L d X g) (ha : accR L d lk0 (15 + (3 * lv + 1)) acc g lk) (hp : postK L d Ln t b lv S g lk0 acc (if 48 ≤ bt t b k ∧ bt t b k ≤ 55 then (true, k + 1, some (X (bt t b k - 48))) else (false, k, none)) Q) : wp_X4_readSum Ln S (nI lv) Q := by
  have hL : 1 ≤ L := Nat.le_of_lt (cf_L h.1.1.1).1
  refine cr_hand h ?_
  rintro _ rfl
  refine cr_noSum h.2.1 (fun q1 q2 q3 q4 => ⟨fun _ => ?_, fun z => absurd rfl z⟩) (fun q => ⟨fun z => absurd z (by decide), fun _ => ?_⟩)
  · rw [if_pos ⟨q1, q2⟩] at hp
    have hr := rd_pl h q3
    rw [q4]
    refine rq_te hlv (rq_te hlv ⟨vp_in_nI (by omega) (by decide), ?_⟩)
    rw [nI_clamp (by omega)]
    refine cq_multiply hr.1 (by unfold kV; omega) (by unfold kV; omega) (by unfold kV; omega) (by omega) (by omega) (fun S2 g2 hu hc hf he => ?_)
    refine hp.1 rfl S2 g2 lk (upR_tr (upR_F (Or.inl rfl)) (upR_V hu)) (rd_V hr hu hc) (fr_w hf (fun j hj => by unfold kT; omega)) ?_
    refine acc_mul ha (fun x y hx hy => ⟨rfl, ?_⟩) (fun z => z) (fun z => by cases z)
    rw [he]
    have ey : X (bt t b k - 48) = y := by
      have : some (X (bt t b k - 48)) = some y := hy
      injection this
    exact mulK_c hL (ha.1 x hx).2 (by rw [← ey]; exact hX _ (by omega))
  · rw [if_neg q] at hp
    exact rd_fault h (hp.2 rfl)
theorem cr_div {S : cs_T} {g : Nat → Nat → Kf} {k lv : Nat} {lk0 lk : Int32} {acc : Option (Nat → Kf)} {Q : cs_T → Prop} (h : rdC L d Ln t b S g k lk) (hlv : lv ≤ 5) (ha : accR L d lk0 (15 + (3 * lv + 1)) acc g lk) (hp : postK L d Ln t b lv S g lk0 acc (if (48 ≤ bt t b k ∧ bt t b k ≤ 57) ∧ bt t b k ≠ 48 then (true, k + dgn (bt t b) 4 k, some (unitK (kv (kN (nmv (bt t b) k (dgn (bt t b) 4 k)))))) else (false, k, none)) Q) : wp_X4_readDivisor Ln S (nI lv) Q := by
  have hL : 1 ≤ L := Nat.le_of_lt (cf_L h.1.1.1).1
  refine cr_hand h (cr_digit h.2.1 (fun q => ⟨fun z => absurd z (by decide), fun _ => cr_hand h (cr_ch' (c := 48) h.2.1 (by decide) (fun q2 => ?_) (fun q2 => ?_))⟩) (fun q => ⟨fun _ => ?_, fun z => absurd rfl z⟩))
  · rw [if_neg (fun z => z.2 q2)] at hp
    exact rd_fault h (hp.2 rfl)
  · rw [if_pos ⟨q, q2⟩] at hp
    refine rq_te hlv (cr_number h (fun S1 hu1 hr1 => ?_))
    have hn : nmv (bt t b) k (dgn (bt t b) 4 k) < 10000 := Nat.lt_of_lt_of_le (nmv_lt _ (fun i hi => (dgn_dg 4 k i hi).2)) (Nat.pow_le_pow_right (by decide) (dgn_le 4 k))
    rw [← kI_N (show nmv (bt t b) k (dgn (bt t b) 4 k) < PR by unfold PR; omega)]
    refine kn_recip (cq_scale hr1.1 (by unfold kV; omega) (fun S2 hu hc => ?_))
    refine hp.1 rfl S2 _ lk (upR_tr hu1 (upR_V hu)) (rd_V hr1 hu hc) (fr_u (by unfold kT; omega)) ?_
    refine acc_mul ha (fun x y hx hy => ⟨rfl, ?_⟩) (fun z => z) (fun z => by cases z)
    rw [va_up_self]
    have ey : unitK (kv (kN (nmv (bt t b) k (dgn (bt t b) 4 k)))) = y := by
      have : some (unitK (kv (kN (nmv (bt t b) k (dgn (bt t b) 4 k))))) = some y := hy
      injection this
    rw [← ey]
    exact mul_unit hL (ha.1 x hx).2
  · rw [if_neg (fun z => q z.1)] at hp
    exact rd_fault h (hp.2 rfl)
end RD
