/-! the reference's works: factors -/
section WU
variable {L d t : Nat} {b : Nat → Nat} {X : Nat → Nat → Kf} {S0 : ms_T} {Q : ms_T → Prop}
def bkW (L d : Nat) (X : Nat → Nat → Kf) (S0 S : ms_T) : Prop := upW S0 S ∧ S.1 10 = 1 ∧ ∃ y, nk L d S y ∧ ∀ s, s < 8 → eqW L d (y s) (X s)
def kpD (D : Nat) : Nat → Prop := fun s => (8 ≤ s ∧ s ≤ 13) ∨ s = 14 + 3 * D ∨ s = 14 + 3 * D + 1 ∨ 14 + 3 * (D + 1) ≤ s
def kpF (D : Nat) : Nat → Prop := fun s => (8 ≤ s ∧ s ≤ 13) ∨ s = 14 + 3 * D + 1 ∨ 14 + 3 * (D + 1) ≤ s
def sm8 (L d : Nat) (X y : Nat → Nat → Kf) : Prop := ∀ s, s < 8 → eqW L d (y s) (X s)
theorem sm8_k {P : Nat → Prop} {y y' : Nat → Nat → Kf} (h : sm8 L d X y) (hk : kp L d P y y') (hP : ∀ s, s < 8 → ¬ P s) : sm8 L d X y' := fun s hs => eqW_tr (hk s (by omega) (hP s hs)) (h s hs)
def TxW (L d t : Nat) (b : Nat → Nat) (X : Nat → Nat → Kf) (S0 : ms_T) (Q : ms_T → Prop) (D : Nat) (T : Nat → RS) : Prop :=
  ∀ S y sg mk k, wM L d t b S0 S y D sg mk 0 → sg D = 1 → sm8 L d X y → eqW L d (y (14 + 3 * D)) (fun _ => 0) → eqW L d (y (14 + 3 * D + 1)) (unitK 1) → k ≤ t → (T k).1 = true →
    (∀ v, (T k).2.2 = some v → ∀ S' y' sg', wM L d t b S0 S' y' D sg' mk 0 → kp L d (kpD D) y y' → (∀ i, i < D → sg' i = sg i) → eqW L d (fun w => y' (14 + 3 * D) w + y' (14 + 3 * D + 1) w * sg' D) v → WkW t Q S' (T k).2.1) →
    ((T k).2.2 = none → ∀ S', bkW L d X S0 S' → Q S') → WkW t Q S k
theorem wM_c {S : ms_T} {y : Nat → Nat → Kf} {D : Nat} {sg sg' : Nat → Kf} {mk mk' : Nat → Nat} {br : Int32} (h : wM L d t b S0 S y D sg mk br) (h1 : ∀ i, i ≤ D → sg' i = sg i) (h2 : ∀ i, i ≤ D → mk' i = mk i) : wM L d t b S0 S y D sg' mk' br := by
  obtain ⟨a1, a2, a3, a4, a5, a6, a7⟩ := h
  exact ⟨a1, a2, a3, a4, a5, a6, fun i hi => by rw [h1 i hi, h2 i hi]; exact a7 i hi⟩
theorem ws_brk {S : ms_T} {y : Nat → Nat → Kf} {D : Nat} {sg : Nat → Kf} {mk : Nat → Nat} {k : Nat} (h : wM L d t b S0 S y D sg mk 1) (hX : sm8 L d X y) (hk : k ≤ t) (hq : ∀ S', bkW L d X S0 S' → Q S') : WkW t Q S k :=
  ws_broken h (fun S' y' h' hk' => hq S' ⟨h'.1, h'.2.2.2.2.2.1, y', h'.2.2.1, sm8_k hX hk' (fun s hs => by omega)⟩) hk
theorem kpF_W {D : Nat} {y y' : Nat → Nat → Kf} (h : kp L d (fun s => s = 8 ∨ s = 9 ∨ s = 14 + 3 * D + 1) y y') : kp L d (kpF D) y y' := kp_w h (fun s hs => by unfold kpF; omega)
theorem ws_paren {T : Nat → RS} {S : ms_T} {y : Nat → Nat → Kf} {D : Nat} {sg : Nat → Kf} {mk : Nat → Nat} {k c k1 : Nat} (h : wM L d t b S0 S y D sg mk 0) (hX : sm8 L d X y) (hk : k < t) (hD : D < 5) (hTx : TxW L d t b X S0 Q (D + 1) T) (hc : c = 40 ∨ c = 69 ∨ c = 76) (hk1 : k1 ≤ t)
    (hop : postP L d t b S0 y D sg mk c (fun S' => WkW t Q S' k1) → WkW t Q S k) (hT1 : (T k1).1 = true) (h41 : bt t b (T k1).2.1 = 41)
    (hS : ∀ v, (if c = 40 then (T k1).2.2 else elO L d c (T k1).2.2) = some v → ∀ S' y', wM L d t b S0 S' y' D sg mk 0 → kp L d (kpF D) y y' → eqW L d (y' (14 + 3 * D + 1)) (mulK L d (y (14 + 3 * D + 1)) v) → WkW t Q S' ((T k1).2.1 + 1))
    (hN : (if c = 40 then (T k1).2.2 else elO L d c (T k1).2.2) = none → ∀ S', bkW L d X S0 S' → Q S') : WkW t Q S k := by
  have hL := (nk_W h.2.2.1).2
  have hW0 := nk_W0 h.2.2.1
  have hkt2 := bt_t h41 (by decide)
  refine hop (fun S1 y1 h1 hk1' e0 e1 => ?_)
  have hX1 : sm8 L d X y1 := sm8_k hX hk1' (fun s hs => by omega)
  refine hTx S1 y1 _ _ k1 h1 (if_pos rfl) hX1 e0 e1 hk1 hT1 (fun v hv S2 y2 sg2 h2 hk2 hsg hV => ?_) (fun e => hN ?_)
  rotate_left
  · by_cases q : c = 40
    · rw [if_pos q]; exact e
    · rw [if_neg q, e]; rfl
  have hX2 : sm8 L d X y2 := sm8_k hX1 hk2 (fun s hs => by unfold kpD; omega)
  have emk : (fun i => if i = D + 1 then c else mk i) (D + 1) = c := if_pos rfl
  refine ws_cp h2 hkt2 h41 (Or.inr ⟨rfl, ?_⟩) (fun S3 y3 br3 h3 hk3 hs3 hn3 => ?_)
  · rw [if_pos rfl]; exact hc
  have ecl : clV L d 41 ((fun i => if i = D + 1 then c else mk i) (D + 1)) (y2 (14 + 3 * (D + 1) + 2)) (fun w => y2 (14 + 3 * (D + 1)) w + y2 (14 + 3 * (D + 1) + 1) w * sg2 (D + 1)) = rdO L d c (fun w => y2 (14 + 3 * (D + 1)) w + y2 (14 + 3 * (D + 1) + 1) w * sg2 (D + 1)) := by
    rw [emk]; exact if_neg (by decide)
  rw [ecl] at hs3 hn3
  have hrd := rdO_c (c := c) hL hV hW0
  have hev : (if c = 40 then (T k1).2.2 else elO L d c (T k1).2.2) = rdO L d c v := by
    unfold rdO
    rw [hv]
  rw [hev] at hS hN
  have hX3 : sm8 L d X y3 := sm8_k hX2 hk3 (fun s hs => by unfold kpC; omega)
  have hm3 : wM L d t b S0 S3 y3 D sg mk br3 := wM_c h3 (fun i hi => by rw [hsg i (by omega)]; exact (if_neg (by omega)).symm) (fun i hi => (if_neg (by omega)).symm)
  have hk13 : kp L d (kpF D) y y3 := kp_tr (kp_w hk1' (fun s hs => by unfold kpF; omega)) (kp_tr (kp_w hk2 (fun s hs => by unfold kpD at hs; unfold kpF; omega)) (kp_w hk3 (fun s hs => by unfold kpC at hs; unfold kpF; omega)))
  cases er : rdO L d c v with
  | none =>
    have e1 := hn3 (hrd.2 er)
    subst e1
    exact ws_brk hm3 hX3 hkt2 (hN er)
  | some u =>
    obtain ⟨u', eu', hu'⟩ := hrd.1 u er
    obtain ⟨e1, e2⟩ := hs3 u' eu'
    subst e1
    have hD1 : D + 1 ≤ 5 := hD
    refine hS u er S3 y3 hm3 hk13 (eqW_tr e2 (mulK_c hL ?_ hu'))
    exact eqW_tr (hk2 _ (by omega) (by unfold kpD; omega)) (hk1' _ (by omega) (by omega))
theorem ws_brac {T : Nat → RS} {S : ms_T} {y : Nat → Nat → Kf} {D : Nat} {sg : Nat → Kf} {mk : Nat → Nat} {k : Nat} (h : wM L d t b S0 S y D sg mk 0) (hX : sm8 L d X y) (hk : k < t) (hD : D < 5) (hT : okT t T) (hTx : TxW L d t b X S0 Q (D + 1) T) (hc : bt t b k = 91)
    (hT1 : (T (k + 1)).1 = true) (h44 : bt t b (T (k + 1)).2.1 = 44) (hT2 : (T ((T (k + 1)).2.1 + 1)).1 = true) (h93 : bt t b (T ((T (k + 1)).2.1 + 1)).2.1 = 93)
    (hS : ∀ v, comO L d (T (k + 1)).2.2 (T ((T (k + 1)).2.1 + 1)).2.2 = some v → ∀ S' y', wM L d t b S0 S' y' D sg mk 0 → kp L d (kpF D) y y' → eqW L d (y' (14 + 3 * D + 1)) (mulK L d (y (14 + 3 * D + 1)) v) → WkW t Q S' ((T ((T (k + 1)).2.1 + 1)).2.1 + 1))
    (hN : comO L d (T (k + 1)).2.2 (T ((T (k + 1)).2.1 + 1)).2.2 = none → ∀ S', bkW L d X S0 S' → Q S') : WkW t Q S k := by
  have hL := (nk_W h.2.2.1).2
  have hD1 : D + 1 ≤ 5 := hD
  have hk1t := bt_t h44 (by decide)
  have hk2t := bt_t h93 (by decide)
  generalize ep1 : (T (k + 1)).2.1 = p1 at *
  generalize ep2 : (T (p1 + 1)).2.1 = p2 at *
  refine ws_br h hk hD hc (fun S1 y1 h1 hk1 e0 e1 => ?_)
  have hX1 : sm8 L d X y1 := sm8_k hX hk1 (fun s hs => by omega)
  refine hTx S1 y1 _ _ (k + 1) h1 (if_pos rfl) hX1 e0 e1 hk hT1 (fun v1 hv1 S2 y2 sg2 h2 hk2 hsg2 hV1 => ?_) (fun e => hN (by rw [e]; rfl))
  rw [ep1]
  have hX2 : sm8 L d X y2 := sm8_k hX1 hk2 (fun s hs => by unfold kpD; omega)
  refine ws_comma h2 hk1t h44 (fun S3 y3 h3 hk3 c0 c1 c2 => ?_)
  have hX3 : sm8 L d X y3 := sm8_k hX2 hk3 (fun s hs => by omega)
  refine hTx S3 y3 _ _ (p1 + 1) h3 (if_pos rfl) hX3 c0 c1 hk1t hT2 (fun v2 hv2 S4 y4 sg4 h4 hk4 hsg4 hV2 => ?_) (fun e => hN (by rw [e, hv1]; rfl))
  rw [ep2]
  have hX4 : sm8 L d X y4 := sm8_k hX3 hk4 (fun s hs => by unfold kpD; omega)
  refine ws_cb h4 hk2t h93 (Or.inl rfl) (fun S5 y5 br5 h5 hk5 hs5 hn5 => ?_)
  rw [show ∀ a Lf V, clV L d 93 a Lf V = some (fun j => mulK L d Lf V j + mulK L d V Lf j * kN 2147483646) from fun a Lf V => if_pos rfl] at hs5 hn5
  obtain ⟨e5, m5⟩ := hs5 _ rfl
  subst e5
  have hm5 : wM L d t b S0 S5 y5 D sg mk 0 := wM_c h5 (fun i hi => by rw [hsg4 i (by omega), if_neg (by omega), hsg2 i (by omega)]; exact (if_neg (by omega)).symm) (fun i hi => (if_neg (by omega)).symm)
  have hk15 : kp L d (kpF D) y y5 := kp_tr (kp_w hk1 (fun s hs => by unfold kpF; omega)) (kp_tr (kp_w hk2 (fun s hs => by unfold kpD at hs; unfold kpF; omega)) (kp_tr (kp_w hk3 (fun s hs => by unfold kpF; omega)) (kp_tr (kp_w hk4 (fun s hs => by unfold kpD at hs; unfold kpF; omega)) (kp_w hk5 (fun s hs => by unfold kpC at hs; unfold kpF; omega)))))
  refine hS (fun j => mulK L d v1 v2 j + mulK L d v2 v1 j * kN 2147483646) (by rw [hv1, hv2]; rfl) S5 y5 hm5 hk15 (eqW_tr m5 (mulK_c hL ?_ ?_))
  · exact eqW_tr (hk4 _ (by omega) (by unfold kpD; omega)) (eqW_tr (hk3 _ (by omega) (by omega)) (eqW_tr (hk2 _ (by omega) (by unfold kpD; omega)) (hk1 _ (by omega) (by omega))))
  · have el : eqW L d (y4 (14 + 3 * (D + 1) + 2)) v1 := eqW_tr (hk4 _ (by omega) (by unfold kpD; omega)) (eqW_tr c2 hV1)
    intro w hw
    show mulK L d (y4 (14 + 3 * (D + 1) + 2)) (fun w => y4 (14 + 3 * (D + 1)) w + y4 (14 + 3 * (D + 1) + 1) w * sg4 (D + 1)) w + mulK L d (fun w => y4 (14 + 3 * (D + 1)) w + y4 (14 + 3 * (D + 1) + 1) w * sg4 (D + 1)) (y4 (14 + 3 * (D + 1) + 2)) w * kN 2147483646 = mulK L d v1 v2 w + mulK L d v2 v1 w * kN 2147483646
    rw [mulK_c hL el hV2 w hw, mulK_c hL hV2 el w hw]
end WU
