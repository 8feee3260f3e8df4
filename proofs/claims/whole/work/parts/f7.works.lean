/-! the reference's works: terms, texts -/
section WV
variable {L d t : Nat} {b : Nat → Nat} {X : Nat → Nat → Kf} {S0 : ms_T} {Q : ms_T → Prop}
theorem b_nf {x : Bool} (h : ¬ x = false) : x = true := by cases x with | true => rfl | false => exact absurd rfl h
theorem ws_fac {T : Nat → RS} {ok : Bool} {S : ms_T} {y : Nat → Nat → Kf} {D : Nat} {sg : Nat → Kf} {mk : Nat → Nat} {k : Nat} (h : wM L d t b S0 S y D sg mk 0) (hX : sm8 L d X y) (hk : k ≤ t) (hok : ok = decide (D < 5)) (hT : okT t T) (hTx : D < 5 → TxW L d t b X S0 Q (D + 1) T) (hb : bgP L (bt t b k)) (hf : (facR L d (bt t b) X ok T k).1 = true)
    (hS : ∀ v, (facR L d (bt t b) X ok T k).2.2 = some v → ∀ S' y', wM L d t b S0 S' y' D sg mk 0 → kp L d (kpF D) y y' → eqW L d (y' (14 + 3 * D + 1)) (mulK L d (y (14 + 3 * D + 1)) v) → WkW t Q S' (facR L d (bt t b) X ok T k).2.1)
    (hN : (facR L d (bt t b) X ok T k).2.2 = none → ∀ S', bkW L d X S0 S' → Q S') : WkW t Q S k := by
  have hL := (nk_W h.2.2.1).2
  have hL4 := (cf_L h.2.2.1.1.1).2
  have hkt : k < t := bt_t (t := t) (b := b) (c := bt t b k) rfl (by unfold bgP dgP ltP at hb; omega)
  unfold facR at hf hS hN
  by_cases q1 : 48 ≤ bt t b k ∧ bt t b k ≤ 57
  · rw [if_pos q1] at hS
    exact ws_num h hkt q1 (fun S' y' h' hk' e' => hS _ rfl S' y' h' (kpF_W hk') e')
  rw [if_neg q1] at hf hS hN
  by_cases q2 : 97 ≤ bt t b k ∧ bt t b k < 97 + L
  · rw [if_pos q2] at hS
    exact ws_letter h hkt q2 (fun S' y' h' hk' e' => hS _ rfl S' y' h' (kpF_W hk') e')
  rw [if_neg q2] at hf hS hN
  by_cases q3 : bt t b k = 114
  · rw [if_pos q3] at hf hS hN
    by_cases q : 48 ≤ bt t b (k + 1) ∧ bt t b (k + 1) ≤ 55
    · rw [if_pos q] at hS
      exact ws_sum h hkt q3 q.1 q.2 (fun S' y' h' hk' e' => hS _ rfl S' y' h' (kpF_W hk') (eqW_tr e' (mulK_c hL eqW_rf (hX _ (by omega)))))
    · rw [if_neg q] at hf
      exact absurd hf Bool.false_ne_true
  rw [if_neg q3] at hf hS hN
  by_cases q4 : bt t b k = 91
  · rw [if_pos q4] at hf hS hN
    by_cases g1 : ok = false
    · rw [if_pos g1] at hf; exact absurd hf Bool.false_ne_true
    rw [if_neg g1] at hf hS hN
    have hD : D < 5 := of_decide_eq_true (hok.symm.trans (b_nf g1))
    by_cases g2 : (T (k + 1)).1 = false
    · rw [if_pos g2] at hf; exact absurd hf Bool.false_ne_true
    rw [if_neg g2] at hf hS hN
    by_cases g3 : bt t b (T (k + 1)).2.1 = 44
    rotate_left
    · rw [if_pos g3] at hf; exact absurd hf Bool.false_ne_true
    rw [if_neg (fun z => z g3)] at hf hS hN
    by_cases g4 : (T ((T (k + 1)).2.1 + 1)).1 = false
    · rw [if_pos g4] at hf; exact absurd hf Bool.false_ne_true
    rw [if_neg g4] at hf hS hN
    by_cases g5 : bt t b (T ((T (k + 1)).2.1 + 1)).2.1 = 93
    rotate_left
    · rw [if_pos g5] at hf; exact absurd hf Bool.false_ne_true
    rw [if_neg (fun z => z g5)] at hf hS hN
    exact ws_brac h hX hkt hD hT (hTx hD) q4 (b_nf g2) g3 (b_nf g4) g5 hS hN
  rw [if_neg q4] at hf hS hN
  have key : ∀ k1, k1 = (if bt t b k = 40 then k else k + 1) → (bt t b k1 = 40 ∧ ok = true) ∧ (T (k1 + 1)).1 = true ∧ bt t b (T (k1 + 1)).2.1 = 41 := by
    rintro k1 rfl
    by_cases g1 : bt t b (if bt t b k = 40 then k else k + 1) ≠ 40 ∨ ok = false
    · rw [if_pos g1] at hf; exact absurd hf Bool.false_ne_true
    rw [if_neg g1] at hf
    by_cases g2 : (T ((if bt t b k = 40 then k else k + 1) + 1)).1 = false
    · rw [if_pos g2] at hf; exact absurd hf Bool.false_ne_true
    rw [if_neg g2] at hf
    by_cases g3 : bt t b (T ((if bt t b k = 40 then k else k + 1) + 1)).2.1 = 41
    rotate_left
    · rw [if_pos g3] at hf; exact absurd hf Bool.false_ne_true
    refine ⟨⟨?_, b_nf (fun z => g1 (Or.inr z))⟩, b_nf g2, g3⟩
    by_cases e : bt t b (if bt t b k = 40 then k else k + 1) = 40
    · exact e
    · exact absurd (Or.inl e) g1
  obtain ⟨⟨g1, g0⟩, g2, g3⟩ := key _ rfl
  have n1 : ¬ (bt t b (if bt t b k = 40 then k else k + 1) ≠ 40 ∨ ok = false) := fun z => z.elim (fun z => z g1) (fun z => by rw [g0] at z; cases z)
  have n2 : ¬ (T ((if bt t b k = 40 then k else k + 1) + 1)).1 = false := fun z => by rw [g2] at z; cases z
  rw [if_neg n1, if_neg n2, if_neg (fun z => z g3)] at hS hN
  have hD : D < 5 := of_decide_eq_true (hok.symm.trans g0)
  have hlt1 := bt_t g1 (by decide)
  have hcc : bt t b k = 40 ∨ bt t b k = 69 ∨ bt t b k = 76 := by unfold bgP dgP ltP at hb; omega
  refine ws_paren (k1 := (if bt t b k = 40 then k else k + 1) + 1) (c := bt t b k) h hX hkt hD (hTx hD) hcc hlt1 (fun hp => ?_) g2 g3 hS hN
  by_cases e : bt t b k = 40
  · rw [if_pos e, e] at hp
    exact ws_pa h hkt hD e hp
  · rw [if_neg e] at hp
    by_cases e2 : bt t b k = 69
    · rw [e2] at hp
      exact ws_ex h hkt hD e2 hp
    · have e3 : bt t b k = 76 := by omega
      rw [e3] at hp
      exact ws_lo h hkt hD e3 hp
theorem mulO_n {x : Option (Nat → Kf)} : mulO L d x none = none := by cases x <;> rfl
theorem addO_n {x : Option (Nat → Kf)} {s : Kf} : addO x s none = none := by cases x <;> rfl
theorem trE_n {f : Nat → Nat} {k : Nat} : (trE L d f k none).2.2 = none := by
  unfold trE
  by_cases e : f k = 47
  · rw [if_pos e]
    by_cases e2 : (48 ≤ f (k + 1) ∧ f (k + 1) ≤ 57) ∧ f (k + 1) ≠ 48
    · rw [if_pos e2]; rfl
    · rw [if_neg e2]
  · rw [if_neg e]
theorem trL_n {f : Nat → Nat} {ok : Bool} {T : Nat → RS} : ∀ n k, (trL L d f X ok T n k none).2.2 = none
  | 0, k => trE_n
  | n + 1, k => by
    unfold trL
    by_cases e : dgP (f k) ∨ ltP L (f k) ∨ f k = 114 ∨ f k = 91 ∨ f k = 40 ∨ f k = 69 ∨ f k = 76
    · rw [if_pos e]
      by_cases e2 : (facR L d f X ok T k).1 = false
      · rw [if_pos e2]
      · rw [if_neg e2]; exact trL_n n _
    · rw [if_neg e]; exact trE_n
theorem txL_n {f : Nat → Nat} {ok : Bool} {T : Nat → RS} : ∀ n k s, (txL L d f X ok T n k s none).2.2 = none
  | 0, k, s => rfl
  | n + 1, k, s => by
    unfold txL
    by_cases e : (trR L d f X ok T k).1 = false
    · rw [if_pos e]
    · rw [if_neg e]
      by_cases e2 : f (trR L d f X ok T k).2.1 = 43 ∨ f (trR L d f X ok T k).2.1 = 45
      · rw [if_pos e2]; exact txL_n n _ _
      · rw [if_neg e2]; rfl
theorem ws_trE {S : ms_T} {y : Nat → Nat → Kf} {D : Nat} {sg : Nat → Kf} {mk : Nat → Nat} {k : Nat} {a : Nat → Kf} (h : wM L d t b S0 S y D sg mk 0) (hk : k ≤ t) (ha : eqW L d (y (14 + 3 * D + 1)) a) (hf : (trE L d (bt t b) k (some a)).1 = true)
    (hS : ∀ v, (trE L d (bt t b) k (some a)).2.2 = some v → ∀ S' y', wM L d t b S0 S' y' D sg mk 0 → kp L d (kpF D) y y' → eqW L d (y' (14 + 3 * D + 1)) v → WkW t Q S' (trE L d (bt t b) k (some a)).2.1) : WkW t Q S k := by
  have hL := (nk_W h.2.2.1).2
  unfold trE at hf hS
  by_cases e : bt t b k = 47
  · rw [if_pos e] at hf hS
    by_cases e2 : (48 ≤ bt t b (k + 1) ∧ bt t b (k + 1) ≤ 57) ∧ bt t b (k + 1) ≠ 48
    · rw [if_pos e2] at hS
      exact ws_div h (bt_t e (by decide)) e (fun S' y' h' hk' e' => hS _ rfl S' y' h' (kpF_W hk') (eqW_tr e' (mulK_c hL ha eqW_rf)))
    · rw [if_neg e2] at hf
      exact absurd hf Bool.false_ne_true
  · rw [if_neg e] at hS
    exact hS a rfl S y h kp_rf ha
theorem ws_trL {T : Nat → RS} {ok : Bool} {D : Nat} {mk : Nat → Nat} {sg : Nat → Kf} (hok : ok = decide (D < 5)) (hT : okT t T) (hTx : D < 5 → TxW L d t b X S0 Q (D + 1) T) :
    ∀ n S y k a, wM L d t b S0 S y D sg mk 0 → sm8 L d X y → k ≤ t → eqW L d (y (14 + 3 * D + 1)) a → (trL L d (bt t b) X ok T n k (some a)).1 = true →
      (∀ v, (trL L d (bt t b) X ok T n k (some a)).2.2 = some v → ∀ S' y', wM L d t b S0 S' y' D sg mk 0 → kp L d (kpF D) y y' → eqW L d (y' (14 + 3 * D + 1)) v → WkW t Q S' (trL L d (bt t b) X ok T n k (some a)).2.1) →
      ((trL L d (bt t b) X ok T n k (some a)).2.2 = none → ∀ S', bkW L d X S0 S' → Q S') → WkW t Q S k
  | 0, S, y, k, a, h, hX, hk, ha, hf, hS, hN => ws_trE h hk ha hf hS
  | n + 1, S, y, k, a, h, hX, hk, ha, hf, hS, hN => by
    have hL := (nk_W h.2.2.1).2
    have hL4 := (cf_L h.2.2.1.1.1).2
    unfold trL at hf hS hN
    by_cases q : bgP L (bt t b k)
    · rw [if_pos (show dgP (bt t b k) ∨ ltP L (bt t b k) ∨ bt t b k = 114 ∨ bt t b k = 91 ∨ bt t b k = 40 ∨ bt t b k = 69 ∨ bt t b k = 76 from q)] at hf hS hN
      have hfl := fac_pl (L := L) (d := d) (X := X) (ok := ok) hT hk q hL4
      by_cases e : (facR L d (bt t b) X ok T k).1 = false
      · rw [if_pos e] at hf; exact absurd hf Bool.false_ne_true
      rw [if_neg e] at hf hS hN
      refine ws_fac (X := X) (ok := ok) h hX hk hok hT hTx q (b_nf e) (fun v hv S1 y1 h1 hk1 e1 => ?_) (fun ev => ?_)
      · rw [hv] at hf hS hN
        exact ws_trL hok hT hTx n S1 y1 _ (mulK L d a v) h1 (sm8_k hX hk1 (fun s hs => by unfold kpF; omega)) hfl.1 (eqW_tr e1 (mulK_c hL ha eqW_rf)) hf (fun v2 hv2 S2 y2 h2 hk2 e2 => hS v2 hv2 S2 y2 h2 (kp_tr hk1 hk2) e2) hN
      · rw [ev, mulO_n] at hN
        exact hN (trL_n n _)
    · rw [if_neg (show ¬ (dgP (bt t b k) ∨ ltP L (bt t b k) ∨ bt t b k = 114 ∨ bt t b k = 91 ∨ bt t b k = 40 ∨ bt t b k = 69 ∨ bt t b k = 76) from q)] at hf hS hN
      exact ws_trE h hk ha hf hS
theorem ws_txL {T : Nat → RS} {ok : Bool} {D : Nat} {mk : Nat → Nat} (hok : ok = decide (D < 5)) (hT : okT t T) (hTx : D < 5 → TxW L d t b X S0 Q (D + 1) T) :
    ∀ n S y sg k A, wM L d t b S0 S y D sg mk 0 → sm8 L d X y → k ≤ t → eqW L d (y (14 + 3 * D)) A → eqW L d (y (14 + 3 * D + 1)) (unitK 1) → 1 ≤ n → t ≤ n + k → (txL L d (bt t b) X ok T n k (sg D) (some A)).1 = true →
      (∀ v, (txL L d (bt t b) X ok T n k (sg D) (some A)).2.2 = some v → ∀ S' y' sg', wM L d t b S0 S' y' D sg' mk 0 → kp L d (kpD D) y y' → (∀ i, i < D → sg' i = sg i) → eqW L d (fun w => y' (14 + 3 * D) w + y' (14 + 3 * D + 1) w * sg' D) v → WkW t Q S' (txL L d (bt t b) X ok T n k (sg D) (some A)).2.1) →
      ((txL L d (bt t b) X ok T n k (sg D) (some A)).2.2 = none → ∀ S', bkW L d X S0 S' → Q S') → WkW t Q S k
  | 0, S, y, sg, k, A, h, hX, hk, hA, hu, hn1, hn, hf, hS, hN => absurd hn1 (by omega)
  | n + 1, S, y, sg, k, A, h, hX, hk, hA, hu, hn1, hn, hf, hS, hN => by
    have hL := (nk_W h.2.2.1).2
    have hL4 := (cf_L h.2.2.1.1.1).2
    have hD5 := h.2.2.2.2.1
    have htl := trR_pl (L := L) (d := d) (b := b) (X := X) (ok := ok) hT hL4 hk
    unfold txL at hf hS hN
    by_cases g0 : (trR L d (bt t b) X ok T k).1 = false
    · rw [if_pos g0] at hf; exact absurd hf Bool.false_ne_true
    rw [if_neg g0] at hf hS hN
    have hlt := htl.2 (b_nf g0)
    have q : bgP L (bt t b k) := by
      by_cases q : bgP L (bt t b k)
      · exact q
      · exact absurd (by unfold trR; rw [if_neg q]) g0
    have etr : trR L d (bt t b) X ok T k = trL L d (bt t b) X ok T 100 k (some (unitK 1)) := by
      unfold trR
      rw [if_pos q]
    have sumE : ∀ {y1 : Nat → Nat → Kf} {v : Nat → Kf}, kp L d (kpF D) y y1 → eqW L d (y1 (14 + 3 * D + 1)) v → eqW L d (fun w => y1 (14 + 3 * D) w + y1 (14 + 3 * D + 1) w * sg D) (fun w => A w + v w * sg D) := fun {y1 v} hk1 e1 w hw => by
      show y1 (14 + 3 * D) w + y1 (14 + 3 * D + 1) w * sg D = A w + v w * sg D
      rw [hk1 _ (by omega) (by unfold kpF; omega) w hw, hA w hw, e1 w hw]
    refine ws_trL (X := X) (ok := ok) hok hT hTx 100 S y k (unitK 1) h hX hk hu (by rw [← etr]; exact b_nf g0) (fun v hv S1 y1 h1 hk1 e1 => ?_) (fun ev => ?_)
    rotate_left
    · rw [← etr] at ev
      rw [ev, addO_n] at hN
      by_cases g : bt t b (trR L d (bt t b) X ok T k).2.1 = 43 ∨ bt t b (trR L d (bt t b) X ok T k).2.1 = 45
      · rw [if_pos g] at hN
        exact hN (txL_n n _ _)
      · rw [if_neg g] at hN
        exact hN rfl
    rw [← etr] at hv ⊢
    rw [hv] at hf hS hN
    have hX1 : sm8 L d X y1 := sm8_k hX hk1 (fun s hs => by unfold kpF; omega)
    have hkD : kp L d (kpD D) y y1 := kp_w hk1 (fun s hs => by unfold kpF at hs; unfold kpD; omega)
    by_cases g : bt t b (trR L d (bt t b) X ok T k).2.1 = 43 ∨ bt t b (trR L d (bt t b) X ok T k).2.1 = 45
    · rw [if_pos g] at hf hS hN
      have hkt := bt_t (t := t) (b := b) rfl (show bt t b (trR L d (bt t b) X ok T k).2.1 < 256 by omega)
      have next : ∀ s, (if bt t b (trR L d (bt t b) X ok T k).2.1 = 43 then (1 : Kf) else kN 2147483646) = s → postS L d t b S0 y1 D sg mk s (fun S' => WkW t Q S' ((trR L d (bt t b) X ok T k).2.1 + 1)) := by
        intro s es S2 y2 h2 hk2 e2 e2'
        rw [es] at hf hS hN
        have esD : (if D = D then s else sg D) = s := if_pos rfl
        refine ws_txL hok hT hTx n S2 y2 (fun i => if i = D then s else sg i) _ (fun w => A w + v w * sg D) h2 (sm8_k hX1 hk2 (fun s hs => by omega)) hkt (eqW_tr e2 (sumE hk1 e1)) e2' (by omega) (by omega) (by rw [esD]; exact hf) (fun v3 hv3 S3 y3 sg3 h3 hk3 hsg3 e3 => ?_) (fun e => hN (by rw [esD] at e; exact e))
        rw [esD] at hv3 ⊢
        refine hS v3 hv3 S3 y3 sg3 h3 (kp_tr hkD (kp_tr (kp_w hk2 (fun s hs => by unfold kpD; omega)) hk3)) (fun i hi => ?_) e3
        rw [hsg3 i hi]
        exact if_neg (by omega)
      by_cases g43 : bt t b (trR L d (bt t b) X ok T k).2.1 = 43
      · exact ws_plus h1 hkt g43 (next 1 (if_pos g43))
      · have g45 : bt t b (trR L d (bt t b) X ok T k).2.1 = 45 := by omega
        exact ws_minus h1 hkt g45 (next _ (if_neg g43))
    · rw [if_neg g] at hf hS hN
      exact hS _ rfl S1 y1 sg h1 hkD (fun _ _ => rfl) (sumE hk1 e1)
theorem ws_TX (ht : t ≤ 100) : ∀ e, e ≤ 5 → TxW L d t b X S0 Q (5 - e) (TX L d (bt t b) X (e + 1))
  | e, he => fun S y sg mk k h hs hX h0 hu hk hf hS hN => by
    have hL4 := (cf_L h.2.2.1.1.1).2
    have e1 : TX L d (bt t b) X (e + 1) k = txL L d (bt t b) X (decide (1 ≤ e)) (TX L d (bt t b) X e) 100 k (sg (5 - e)) (some (fun _ => 0)) := by rw [hs]; rfl
    rw [e1] at hf hS hN
    refine ws_txL (ok := decide (1 ≤ e)) (D := 5 - e) (decide_eq_decide.mpr (by omega)) (TX_pl hL4 e) (fun h5 => ?_) 100 S y sg k (fun _ => 0) h hX hk h0 hu (by decide) (by omega) hf hS hN
    match e, he, h5 with
    | 0, _, h5 => exact absurd h5 (by omega)
    | e' + 1, he, h5 =>
      have i := ws_TX ht e' (by omega)
      rw [show 5 - e' = 5 - (e' + 1) + 1 by omega] at i
      exact i
end WV
