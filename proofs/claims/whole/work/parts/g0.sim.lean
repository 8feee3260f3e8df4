/-! one state of both: sums, steps, laws, tape -/
abbrev AS : Type := (Nat → Nat → Kf) × (Nat × (Nat → Nat) × (Nat → Kf)) × (Nat × (Nat → Nat) × (Nat → Nat → Kf)) × (Nat × (Nat → Nat))
def MR (L d : Nat) (A : AS) (S : ms_T) : Prop := ck_ok L d S ∧ nuX L d S A.1 ∧ stp L S A.2.1.1 A.2.1.2.1 (fun i => (A.2.1.2.2 i).val) ∧ lwp L d S A.2.2.1.1 A.2.2.1.2.1 (fun i v => (A.2.2.1.2.2 i v).val) ∧ tap S A.2.2.2.1 A.2.2.2.2
def lawOK (L d : Nat) (l : Nat × (Nat → Nat) × (Nat → Nat → Kf)) : Prop := ∀ k, k < l.1 → 1 ≤ l.2.1 k ∧ l.2.1 k ≤ d ∧ lieD L (l.2.1 k) (l.2.2 k)
def CL (L d : Nat) (Ln : Nat → Nat) (l : Nat × (Nat → Nat) × (Nat → Nat → Kf)) (S : cs_T) : Prop := lwL L d Ln ∧ (∃ rk rr pp, clw L d S rk rr pp ∧ LAW L d l.1 l.2.1 l.2.2 rk rr pp ∧ (S.2.2 = none → ∀ n, 1 ≤ n → n ≤ d → rk n = 0) ∧ (S.2.2 = none ↔ l.1 = 0)) ∧ S.1 4 = nI l.1 ∧ l.1 ≤ 4 ∧ lawOK L d l
def CR (L d : Nat) (Ln : Nat → Nat) (A : AS) (S : cs_T) : Prop := (∃ g, cv L d Ln S g ∧ smR L d A.1 g) ∧ cch L d Ln S ∧ cst L Ln S A.2.1.1 A.2.1.2.1 A.2.1.2.2 ∧ CL L d Ln A.2.2.1 S ∧ tpC Ln A.2.2.2.1 A.2.2.2.2 S
def SIM (L d : Nat) (Ln : Nat → Nat) (K : Nat) (wc : (Int32 → cs_T → Prop) → Prop) (wm : (Int32 → ms_T → Prop) → Prop) : Prop :=
  ∃ (r : Int32) (A' : AS), A'.2.2.1.1 = K ∧ (∀ Q, (∀ S', CR L d Ln A' S' → Q r S') → wc Q) ∧ (∀ Q, (∀ S', MR L d A' S' → Q r S') → wm Q)
def upH (S S' : cs_T) : Prop := (∀ j, j ≤ 4 ∨ j = 9 → S'.1 j = S.1 j) ∧ S'.2.2 = S.2.2 ∧ ∀ k, ¬ kW k → S'.2.1 k = S.2.1 k
section SI
variable {L d : Nat} {Ln : Nat → Nat} {A : AS}
theorem upH_K {S S' : cs_T} (h : upK kW S S') : upH S S' := ⟨fun j _ => by rw [h.1], h.2⟩
theorem upH_Q {S S' : cs_T} (h : upQ S S') : upH S S' := ⟨fun j a => h.1 j (by omega) (by omega) (by omega) (by omega), h.2.1, fun k hk => h.2.2 k (fun z => hk (Or.inl z))⟩
theorem ck_G {S S' : ms_T} (h : ck_ok L d S) (hu : upG S S') : ck_ok L d S' := by
  obtain ⟨⟨m1, m2, m3, m4, m5, m6, m7⟩, h2, h3, h4⟩ := h
  obtain ⟨u1, u2, u3, u4, u5⟩ := hu
  refine ⟨⟨m1, by rw [u1 0 (by decide)]; exact m2, by rw [u1 1 (by decide)]; exact m3, by rw [u1 2 (by decide)]; exact m4, by rw [u2 0 (by decide)]; exact m5, by rw [u2 1 (by decide)]; exact m6, by rw [u2 2 (by decide)]; exact m7⟩, by rw [u1 3 (by decide)]; exact h2, fun n v a b c => ?_, by rw [u2 7 (by decide)]; exact h4⟩
  obtain ⟨r1, r2⟩ := h3 n v a b c
  rw [u2 7 (by decide)]
  refine ⟨fun q => ?_, r2⟩
  have r1' := r1 q
  unfold rowOK at r1' ⊢
  rw [u2 7 (by decide), u2 3 (by decide), u2 6 (by decide), u2 4 (by decide), u2 5 (by decide)]
  obtain ⟨s1, s2, s3, s4, s5, s6⟩ := r1'
  refine ⟨s1, s2, s3, s4, s5, fun u hu => ?_⟩
  have hc : cnt L d (ofs L n + v) ≤ 98 := cnt_99 m1 (Nat.le_of_lt (pl_W b c))
  have hp : L ^ n ≤ 256 := by
    have := cf_pow m1 b
    omega
  rw [u3 _ (by omega)]
  exact s6 u hu
theorem MR_G {S S' : ms_T} {X' : Nat → Nat → Kf} {t : Nat} {b : Nat → Nat} (h : MR L d A S) (hu : upG S S') (hx : nuX L d S' X') (ht : tap S' t b) : MR L d (X', A.2.1, A.2.2.1, (t, b)) S' := by
  obtain ⟨h1, h2, h3, h4, h5⟩ := h
  refine ⟨ck_G h1 hu, hx, ?_, ?_, ht⟩
  · unfold stp at h3 ⊢
    rw [hu.1 4 (by decide), hu.2.1 8 (by decide), hu.2.2.2.1]
    exact h3
  · unfold lwp at h4 ⊢
    rw [hu.1 5 (by decide), hu.2.1 9 (by decide), hu.2.2.2.2]
    exact h4
theorem MR_S {S S' : ms_T} {x' : Nat → Nat} {X' : Nat → Nat → Kf} (h : MR L d A S) (hu : upS S S') (hx : nums S' x') (hX : ∀ s, s < 8 → eqW L d (rwK x' s) (X' s)) : MR L d (X', A.2) S' := by
  refine MR_G (t := A.2.2.2.1) (b := A.2.2.2.2) h (upG_S hu) ⟨x', hx, hX⟩ ?_
  have h5 := h.2.2.2.2
  unfold tap at h5 ⊢
  rw [hu.1, hu.2.1]
  exact h5
theorem MR_X {S S' : ms_T} {x' : Nat → Nat} {X' : Nat → Nat → Kf} (h : MR L d A S) (hu : upX S S') (hx : nums S' x') (hX : ∀ s, s < 8 → eqW L d (rwK x' s) (X' s)) : MR L d (X', A.2) S' := by
  refine MR_G (t := A.2.2.2.1) (b := A.2.2.2.2) h (upG_X hu) ⟨x', hx, hX⟩ ?_
  have h5 := h.2.2.2.2
  unfold tap at h5 ⊢
  rw [hu.1, hu.2.1]
  exact h5
theorem CR_H {S S' : cs_T} {g' X' : Nat → Nat → Kf} {t : Nat} {b : Nat → Nat} (h : CR L d Ln A S) (hu : upH S S') (hc : cv L d Ln S' g') (hX : smR L d X' g') (ht : tpC Ln t b S') : CR L d Ln (X', A.2.1, A.2.2.1, (t, b)) S' := by
  obtain ⟨h1, h2, h3, ⟨h4, ⟨rk, rr, pp, h5, h6, h7, h7'⟩, h8, h9, h10⟩, h11⟩ := h
  have nW : ∀ k, 33 ≤ k → k ≠ 37 → S'.2.1 k = S.2.1 k := fun k a b => hu.2.2 k (by unfold kW; omega)
  refine ⟨⟨g', hc, hX⟩, ?_, ?_, ⟨h4, ⟨rk, rr, pp, ?_, h6, ?_, ?_⟩, ?_, h9, h10⟩, ht⟩
  · unfold cch at h2 ⊢
    rw [nW 36 (by decide) (by decide), nW 33 (by decide) (by decide), nW 34 (by decide) (by decide), nW 35 (by decide) (by decide)]
    exact h2
  · unfold cst at h3 ⊢
    rw [nW 38 (by decide) (by decide), nW 39 (by decide) (by decide), hu.1 9 (Or.inr rfl)]
    exact h3
  · unfold clw at h5 ⊢
    rw [nW 42 (by decide) (by decide), nW 43 (by decide) (by decide), nW 40 (by decide) (by decide), nW 44 (by decide) (by decide), nW 47 (by decide) (by decide)]
    exact h5
  · rw [hu.2.1]; exact h7
  · rw [hu.2.1]; exact h7'
  · rw [hu.1 4 (Or.inl (by decide))]; exact h8
theorem CR_W {S S' : cs_T} {g' X' : Nat → Nat → Kf} (h : CR L d Ln A S) (hu : upK kW S S') (hc : cv L d Ln S' g') (hX : smR L d X' g') : CR L d Ln (X', A.2) S' := by
  refine CR_H (t := A.2.2.2.1) (b := A.2.2.2.2) h (upH_K hu) hc hX ?_
  have h5 := h.2.2.2.2
  unfold tpC at h5 ⊢
  rw [hu.1, hu.2.2 46 (by unfold kW; omega)]
  exact h5
theorem CR_V {S S' : cs_T} {g' X' : Nat → Nat → Kf} (h : CR L d Ln A S) (hu : upK kV S S') (hc : cv L d Ln S' g') (hX : smR L d X' g') : CR L d Ln (X', A.2) S' := CR_W h (upK_W hu) hc hX
/-- both stand over the same numbers -/
def CX (L d : Nat) (Ln : Nat → Nat) (A : AS) (Sc : cs_T) (Sm : ms_T) (x : Nat → Nat) (g : Nat → Nat → Kf) : Prop := cf_ok L d ∧ nums Sm x ∧ cv L d Ln Sc g ∧ (∀ s, s < 8 → g (7 + s) = rwK x s) ∧ CR L d Ln A Sc ∧ MR L d A Sm ∧ A.1 = rwK x
theorem CX_in {Sc : cs_T} {Sm : ms_T} (hc : CR L d Ln A Sc) (hm : MR L d A Sm) : ∃ A' x g, CX L d Ln A' Sc Sm x g ∧ A'.2 = A.2 := by
  obtain ⟨x, hx, hX⟩ := hm.2.1
  obtain ⟨g, hg, hgX⟩ := hc.1
  have hg' : cv L d Ln Sc (fun k => if 7 ≤ k ∧ k ≤ 14 then rwK x (k - 7) else g k) := by
    refine cv_c hg (fun k j hk hj => ?_)
    by_cases e : 7 ≤ k ∧ k ≤ 14
    · rw [if_pos e, hX (k - 7) (by omega) j hj]
      have := hgX (k - 7) (by omega) j hj
      rwa [show 7 + (k - 7) = k by omega] at this
    · rw [if_neg e]
  have hs : ∀ s, s < 8 → (fun k => if 7 ≤ k ∧ k ≤ 14 then rwK x (k - 7) else g k) (7 + s) = rwK x s := fun s hs => by
    dsimp only
    rw [if_pos (by omega), Nat.add_sub_cancel_left]
  refine ⟨(rwK x, A.2), x, _, ⟨hm.1.1.1, hx, hg', hs, ?_, ?_, rfl⟩, rfl⟩
  · exact ⟨⟨_, hg', fun i hi w hw => congrFun (hs i hi) w⟩, hc.2⟩
  · exact ⟨hm.1, ⟨x, hx, fun _ _ => eqW_rf⟩, hm.2.2⟩
theorem sm_fr {P : Nat → Prop} {g g' : Nat → Nat → Kf} {x : Nat → Nat} {s : Nat} {v : Nat → Kf} (hg : ∀ i, i < 8 → g (7 + i) = rwK x i) (hf : fr P g g') (hP : ∀ i, i < 8 → i ≠ s → ¬ P (7 + i)) (hv : eqW L d (g' (7 + s)) v) : smR L d (va_up (rwK x) s v) g' := fun i hi => by
  by_cases e : i = s
  · rw [e, va_up_self]; exact hv
  · rw [va_up_ne _ _ e, hf _ (hP i hi e), hg i hi]
    exact eqW_rf
theorem sm_f0 {P : Nat → Prop} {g g' : Nat → Nat → Kf} {x : Nat → Nat} (hg : ∀ i, i < 8 → g (7 + i) = rwK x i) (hf : fr P g g') (hP : ∀ i, i < 8 → ¬ P (7 + i)) : smR L d (rwK x) g' := fun i hi => by
  rw [hf _ (hP i hi), hg i hi]
  exact eqW_rf
theorem xr_if {x' x : Nat → Nat} {s : Nat} {v : Nat → Kf} (h : ∀ s' w, s' < 8 → w < ofs L (d + 1) → rwK x' s' w = if s' = s then v w else rwK x s' w) : ∀ s', s' < 8 → eqW L d (rwK x' s') (va_up (rwK x) s v s') := fun s' hs' w hw => by
  rw [h s' w hs' hw]
  by_cases e : s' = s
  · rw [if_pos e, e, va_up_self]
  · rw [if_neg e, va_up_ne _ _ e]
theorem xr_ag {x' y x : Nat → Nat} {s : Nat} {v : Nat → Kf} (hW : ofs L (d + 1) ≤ 364) (ha : agr x' y) (h : ∀ s', s' < 8 → eqW L d (rwK y s') (va_up (rwK x) s v s')) : ∀ s', s' < 8 → eqW L d (rwK x' s') (va_up (rwK x) s v s') := fun s' hs' w hw => by
  rw [← h s' hs' w hw]
  unfold rwK
  rw [ha _ (by omega)]
theorem xr_a0 {x' x : Nat → Nat} (hW : ofs L (d + 1) ≤ 364) (ha : agr x' x) : ∀ s', s' < 8 → eqW L d (rwK x' s') (rwK x s') := fun s' hs' w hw => by
  unfold rwK
  rw [ha _ (by omega)]
theorem isS_n {s : Nat} (h : s < 8) : isS (nI s) := by
  unfold isS
  rw [nI_i (by omega)]
  omega
theorem ns_q {a : Int32} {Q : Int32 → Prop} (h1 : isS a → Q 0) (h0 : ¬ isS a → Q 1) : wp_X7_noSum a Q := by
  have e0 : (0 : Int32).toInt = 0 := by decide
  have e8 : (8 : Int32).toInt = 8 := by decide
  unfold isS at h1 h0
  refine ⟨fun z => h0 (fun q => ?_), fun z => ⟨fun y => h1 ?_, fun y => h0 (fun q => ?_)⟩⟩
  · rw [i32_lt, e0] at z; omega
  · rw [i32_lt, e0] at z; rw [i32_lt, e8] at y; omega
  · rw [i32_lt, e8] at y; omega
theorem ns_a {a : Int32} {P R : Prop} (h1 : isS a → P) (h0 : ¬ isS a → R) : wp_X7_noSum a (fun r => (r = 0 → P) ∧ (¬ r = 0 → R)) := ns_q (fun h => ⟨fun _ => h1 h, fun z => absurd rfl z⟩) (fun h => ⟨fun z => absurd z (by decide), fun _ => h0 h⟩)
theorem ns_b {a : Int32} {P R : Prop} (h1 : isS a → P) (h0 : ¬ isS a → R) : wp_X7_noSum a (fun r => (¬ r = 0 → R) ∧ (r = 0 → P)) := ns_q (fun h => ⟨fun z => absurd rfl z, fun _ => h1 h⟩) (fun h => ⟨fun _ => h0 h, fun z => absurd z (by decide)⟩)
theorem vin8 {s : Nat} (h : s < 8) : vp_in (nI s) 8 := vp_in_nI h (by decide)
theorem ix7 {s : Nat} (h : s < 8) : 7 + (nI s).toNatClampNeg = 7 + s := by rw [nI_clamp (by omega)]
theorem kV7 {s : Nat} (h : s < 8) : kV (7 + s) := by unfold kV; omega
theorem CX_W {Sc : cs_T} {Sm : ms_T} {x : Nat → Nat} {g : Nat → Nat → Kf} (h : CX L d Ln A Sc Sm x g) : ofs L (d + 1) ≤ 364 ∧ 1 ≤ L ∧ 1 ≤ d ∧ d < 100 := ⟨cf_all h.1, by have := cf_L h.1; omega, by have := cf_d h.1; omega, by have := cf_d h.1; omega⟩
end SI
