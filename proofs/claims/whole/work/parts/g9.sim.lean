/-! both answer alike: relate -/
section SS
variable {L d : Nat} {Ln : Nat → Nat} {A : AS} {Sc : cs_T} {Sm : ms_T} {x : Nat → Nat} {g : Nat → Nat → Kf}
theorem lie_1 {A : Nat → Kf} : lieD L 1 A := fun w _ => by
  show A w = A w * kN 1
  rw [kN_1, km_1]
theorem rl_spec {f : Nat → Nat} : ∀ w, ((rlF L d f w).1 = none → ∀ u, u < w → f u = 0) ∧ (∀ n, (rlF L d f w).1 = some n → (rlF L d f w).2 = false → (∃ u, u < w ∧ f u ≠ 0) ∧ ∀ u, u < w → f u ≠ 0 → wlen L d u = n) ∧ (∀ n, (rlF L d f w).1 = some n → ∃ u, u < w ∧ f u ≠ 0 ∧ wlen L d u = n) ∧ ((rlF L d f w).2 = true → ∃ u u', u < w ∧ u' < w ∧ f u ≠ 0 ∧ f u' ≠ 0 ∧ wlen L d u ≠ wlen L d u')
  | 0 => ⟨fun _ u hu => absurd hu (Nat.not_lt_zero u), fun n h => (by cases h), fun n h => (by cases h), fun h => (by cases h)⟩
  | w + 1 => by
    obtain ⟨i1, i2, i3, i4⟩ := rl_spec (f := f) w
    unfold rlF
    by_cases e : f w = 0
    · rw [if_pos e]
      refine ⟨fun h u hu => ?_, fun n h1 h2 => ?_, fun n h => ?_, fun h => ?_⟩
      · by_cases q : u = w
        · rw [q]; exact e
        · exact i1 h u (by omega)
      · obtain ⟨⟨u, a1, a2⟩, a3⟩ := i2 n h1 h2
        refine ⟨⟨u, by omega, a2⟩, fun u hu hne => ?_⟩
        by_cases q : u = w
        · rw [q] at hne; exact absurd e hne
        · exact a3 u (by omega) hne
      · obtain ⟨u, a1, a2, a3⟩ := i3 n h
        exact ⟨u, by omega, a2, a3⟩
      · obtain ⟨u, u', a1, a2, a3⟩ := i4 h
        exact ⟨u, u', by omega, by omega, a3⟩
    · rw [if_neg e]
      refine ⟨fun h => (by cases h), fun n h1 h2 => ?_, fun n h1 => ?_, fun h => ?_⟩
      · have en : wlen L d w = n := Option.some.inj h1
        have h2' : (rlF L d f w).2 = false ∧ (decide ((rlF L d f w).1 ≠ none) && decide ((rlF L d f w).1 ≠ some (wlen L d w))) = false := Bool.or_eq_false_iff.mp h2
        refine ⟨⟨w, by omega, e⟩, fun u hu hne => ?_⟩
        by_cases q : u = w
        · rw [q]; exact en
        · cases ho : (rlF L d f w).1 with
          | none => exact absurd (i1 ho u (by omega)) hne
          | some m =>
            have := (i2 m ho h2'.1).2 u (by omega) hne
            rw [ho] at h2'
            have h3 := h2'.2
            rw [decide_eq_true (show (some m : Option Nat) ≠ none by intro z; cases z), Bool.true_and, decide_eq_false_iff_not] at h3
            have h4 : some m = some (wlen L d w) := by
              by_cases z : some m = some (wlen L d w)
              · exact z
              · exact absurd z h3
            rw [this, ← en]
            exact Option.some.inj h4
      · exact ⟨w, by omega, e, Option.some.inj h1⟩
      · rcases Bool.or_eq_true_iff.mp h with q | q
        · obtain ⟨u, u', a1, a2, a3⟩ := i4 q
          exact ⟨u, u', by omega, by omega, a3⟩
        · obtain ⟨q1, q2⟩ := (Bool.and_eq_true _ _).mp q
          rw [decide_eq_true_eq] at q1 q2
          cases ho : (rlF L d f w).1 with
          | none => exact absurd ho q1
          | some m =>
            obtain ⟨u, a1, a2, a3⟩ := i3 m ho
            refine ⟨u, w, by omega, by omega, a2, e, ?_⟩
            rw [a3]
            intro z
            exact q2 (by rw [ho, z])
theorem on_u {f : Nat → Kf} {n u : Nat} (h : onl L d f n) (hu : u < ofs L (d + 1)) (hf : f u ≠ 0) : wlen L d u = n := by
  obtain ⟨m, v, hm, hv, rfl⟩ := pl_ex hu
  rw [wlen_of hm hv]
  by_cases e : m = n
  · exact e
  · exact absurd (h.2.2 m hm e v hv) hf
theorem on_of {f : Nat → Kf} {n : Nat} (h1 : ∃ u, u < ofs L (d + 1) ∧ f u ≠ 0) (h2 : ∀ u, u < ofs L (d + 1) → f u ≠ 0 → wlen L d u = n) : onl L d f n := by
  obtain ⟨u, hu, hf⟩ := h1
  have e := h2 u hu hf
  obtain ⟨m, v, hm, hv, rfl⟩ := pl_ex hu
  rw [wlen_of hm hv] at e
  subst e
  refine ⟨hm, ⟨v, hv, hf⟩, fun m' hm' hne v' hv' => ?_⟩
  by_cases z : f (ofs L m' + v') = 0
  · exact z
  · have := h2 _ (pl_W hm' hv') z
    rw [wlen_of hm' hv'] at this
    exact absurd this hne
theorem rl_on {f : Nat → Nat} {n : Nat} (hf : ∀ w, w < ofs L (d + 1) → f w < PR) (h : rlF L d f (ofs L (d + 1)) = (some n, false)) : onl L d (fun w => kN (f w)) n := by
  obtain ⟨i1, i2, i3, i4⟩ := rl_spec (L := L) (d := d) (f := f) (ofs L (d + 1))
  obtain ⟨⟨u, a1, a2⟩, a3⟩ := i2 n (by rw [h]) (by rw [h])
  have nz : ∀ w, w < ofs L (d + 1) → (kN (f w) ≠ 0 ↔ f w ≠ 0) := fun w hw => by
    refine ⟨fun z e => z (by rw [e, kN_0]), fun z e => z ?_⟩
    have := congrArg Fin.val e
    rw [kN_v (hf w hw)] at this
    exact this
  exact on_of ⟨u, a1, (nz u a1).mpr a2⟩ (fun u hu hne => a3 u hu ((nz u hu).mp hne))
theorem rl_no {f : Nat → Nat} {n : Nat} (hf : ∀ w, w < ofs L (d + 1) → f w < PR) (h : (rlF L d f (ofs L (d + 1))).1 = none ∨ (rlF L d f (ofs L (d + 1))).2 = true) : ¬ onl L d (fun w => kN (f w)) n := by
  obtain ⟨i1, i2, i3, i4⟩ := rl_spec (L := L) (d := d) (f := f) (ofs L (d + 1))
  have nz : ∀ w, w < ofs L (d + 1) → (kN (f w) ≠ 0 ↔ f w ≠ 0) := fun w hw => by
    refine ⟨fun z e => z (by rw [e, kN_0]), fun z e => z ?_⟩
    have := congrArg Fin.val e
    rw [kN_v (hf w hw)] at this
    exact this
  intro ho
  rcases h with h | h
  · obtain ⟨hn, ⟨v, hv, hne⟩, -⟩ := ho
    exact hne (by show kN (f (ofs L n + v)) = 0; rw [i1 h _ (pl_W hn hv), kN_0])
  · obtain ⟨u, u', a1, a2, a3, a4, a5⟩ := i4 h
    exact a5 ((on_u ho a1 ((nz u a1).mpr a3)).trans (on_u ho a2 ((nz u' a2).mpr a4)).symm)
theorem on_i {f : Nat → Kf} {n m : Nat} (h : onl L d f n) (h' : onl L d f m) : m = n := by
  obtain ⟨hn, ⟨v, hv, hne⟩, -⟩ := h
  have := on_u h' (pl_W hn hv) hne
  rw [wlen_of hn hv] at this
  exact this.symm
theorem CR_l {S S' : cs_T} {K q : Nat} {ns : Nat → Nat} {vs : Nat → Nat → Kf} {rk : Nat → Nat} {rr : Nat → Nat → Nat → Kf} {pp : Nat → Nat → Nat} (h : CR L d Ln A S) (h1 : S'.1 = S.1) (h2 : S'.2.2 = some q) (h3 : ∀ k, ¬ kZ k → S'.2.1 k = S.2.1 k) (hcl : clw L d S' rk rr pp) (hlaw : LAW L d K ns vs rk rr pp) (hK : K ≤ 4) (hK0 : K ≠ 0) (hok : lawOK L d (K, ns, vs)) : CR L d Ln (A.1, A.2.1, (K, ns, vs), A.2.2.2) (cs_sF S' 4 (nI K)) := by
  obtain ⟨⟨g, a1, a1'⟩, a2, a3, ⟨a4, a5, a8, a9, a10⟩, a11⟩ := h
  have n3 : ∀ k, k ≤ 39 ∨ k = 46 → S'.2.1 k = S.2.1 k := fun k hk => h3 k (by unfold kZ; omega)
  have f1 : ∀ j, j ≠ 4 → (cs_sF S' 4 (nI K)).1 j = S.1 j := fun j hj => by rw [sF_o hj, h1]
  refine ⟨⟨g, cv_o a1 (fun j hj => f1 j (by omega)) (fun k hk => n3 k (by omega)), a1'⟩, ?_, ?_, ⟨a4, ⟨rk, rr, pp, hcl, hlaw, ?_, ?_⟩, sF_s, hK, hok⟩, ?_⟩
  · show cch L d Ln S'
    unfold cch at a2 ⊢
    rw [n3 36 (by decide), n3 33 (by decide), n3 34 (by decide), n3 35 (by decide)]
    exact a2
  · unfold cst at a3 ⊢
    rw [f1 9 (by decide), show (cs_sF S' 4 (nI K)).2.1 38 = S.2.1 38 from n3 38 (by decide), show (cs_sF S' 4 (nI K)).2.1 39 = S.2.1 39 from n3 39 (by decide)]
    exact a3
  · intro z
    exact absurd (h2.symm.trans z) (by intro q; cases q)
  · exact ⟨fun z => absurd (h2.symm.trans z) (by intro q; cases q), fun z => absurd z hK0⟩
  · unfold tpC at a11 ⊢
    rw [f1 5 (by decide), show (cs_sF S' 4 (nI K)).2.1 46 = S.2.1 46 from n3 46 (by decide)]
    exact a11
theorem ct_enact {a l : Nat} {Q : Int32 → cs_T → Prop} (hkr : KR L d) (hC : CR L d Ln A Sc) (hcv : cv L d Ln Sc g) (ha : kV a) (hl1 : 1 ≤ l) (hld : l ≤ d) (hK : A.2.2.1.1 < 4) (hlie : lieD L l (fun w => g a (ofs L l + w)))
    (hq : ∀ S', CR L d Ln (A.1, A.2.1, (A.2.2.1.1 + 1, va_up A.2.2.1.2.1 A.2.2.1.1 l, va_up A.2.2.1.2.2 A.2.2.1.1 (fun w => g a (ofs L l + w))), A.2.2.2) S' → Q (nI A.2.2.1.1) S') : wp_X2_enact Ln Sc a (nI l) Q := by
  have hcf := hcv.1.1
  have hd := cf_d hcf
  obtain ⟨l1, ⟨rk, rr, pp, l2, l3, l4, l4'⟩, l5, l6, l7⟩ := id hC.2.2.2.1
  have hlaw : lawOK L d (A.2.2.1.1 + 1, va_up A.2.2.1.2.1 A.2.2.1.1 l, va_up A.2.2.1.2.2 A.2.2.1.1 (fun w => g a (ofs L l + w))) := fun k hk => by
    dsimp only at hk ⊢
    by_cases e : k = A.2.2.1.1
    · rw [e, va_up_self, va_up_self]; exact ⟨hl1, hld, hlie⟩
    · rw [va_up_ne _ _ e, va_up_ne _ _ e]; exact l7 k (by omega)
  refine ⟨fun q e => ?_, fun e => ?_⟩
  · exact cl_enact27 hcv hC.2.1 l1 hkr ha hl1 hld (by omega) l5 e l2 l3 (fun k hk => ⟨(hlaw k hk).1, (hlaw k hk).2.2⟩) (fun S' rk' rr' pp' c1 c2 c3 => hq _ (CR_l hC c3.1 (c3.2.1.trans e) c3.2.2 c1 c2 (by omega) (by omega) hlaw))
  · have e42 := (l2.1 (d + 1) (Nat.le_refl _)).1
    have hb := rw_b hcf
    rw [hcv.1.2.2.1, nI_1, nI_clamp (by omega), e42, l1.2.2.1, l1.2.2.2.2.2.2, nI_clamp (by omega)]
    refine ⟨vp_in_nI (by omega) (by omega), nI_pos (by omega), rfl, by omega, fun q => ?_⟩
    have r0 := l4 e
    have u47 : ∀ k, k ≠ 47 → va_up Sc.2.1 47 (fun _ => (0 : Int32)) k = Sc.2.1 k := fun k hk => va_up_ne _ _ hk
    have hcv2 : cv L d Ln (Sc.1, va_up Sc.2.1 47 (fun _ => 0), some q) g := cv_o hcv (fun _ _ => rfl) (fun k hk => u47 k (by omega))
    have hch2 : cch L d Ln (Sc.1, va_up Sc.2.1 47 (fun _ => 0), some q) := by
      have a2 := hC.2.1
      unfold cch at a2 ⊢
      dsimp only
      rw [u47 36 (by decide), u47 33 (by decide), u47 34 (by decide), u47 35 (by decide)]
      exact a2
    have hcl2 : clw L d (Sc.1, va_up Sc.2.1 47 (fun _ => 0), some q) rk rr pp := by
      refine ⟨?_, ?_, fun n i h1 hn hi => absurd hi (by rw [r0 n h1 hn]; exact Nat.not_lt_zero i)⟩
      · dsimp only
        rw [u47 42 (by decide), u47 43 (by decide)]
        exact l2.1
      · dsimp only
        rw [u47 40 (by decide)]
        exact l2.2.1
    refine cl_enact27 (S := (Sc.1, va_up Sc.2.1 47 (fun _ => 0), some q)) (q := q) hcv2 hch2 l1 hkr ha hl1 hld (by omega) l5 rfl hcl2 l3 (fun k hk => ⟨(hlaw k hk).1, (hlaw k hk).2.2⟩) (fun S' rk' rr' pp' c1 c2 c3 => hq _ (CR_l (q := q) hC c3.1 c3.2.1 (fun k hk => ?_) c1 c2 (by omega) (by omega) hlaw))
    rw [c3.2.2 k hk]
    exact u47 k (fun z => hk (by unfold kZ; omega))
def mcA (K : Nat) : Nat := if K = 0 then 1 else 0
def msA (Ln : Nat → Nat) (K : Nat) : Nat := if K = 0 then Ln 47 else 0
theorem mc_A (h : CR L d Ln A Sc) : cs_mc Sc = mcA A.2.2.1.1 ∧ cs_ms Ln Sc = msA Ln A.2.2.1.1 := by
  obtain ⟨l1, ⟨rk, rr, pp, l2, l3, l4, l4'⟩, l5⟩ := h.2.2.2.1
  unfold cs_mc cs_ms mcA msA
  cases e : Sc.2.2 with
  | none =>
    have := l4'.mp e
    rw [if_pos this, if_pos this]
    exact ⟨rfl, rfl⟩
  | some q =>
    have : ¬ A.2.2.1.1 = 0 := fun z => by rw [l4'.mpr z] at e; cases e
    rw [if_neg this, if_neg this]
    exact ⟨rfl, rfl⟩
theorem si_relate {a : Int32} (hkr : KR L d) (h : CX L d Ln A Sc Sm x g) : ∃ (r : Int32) (A' : AS) (mc ms : Nat), (mc + mcA A'.2.2.1.1 ≤ mcA A.2.2.1.1 ∧ ms + msA Ln A'.2.2.1.1 ≤ msA Ln A.2.2.1.1) ∧ (∀ Q, (∀ S', CR L d Ln A' S' → Q r S') → wp_X7_relate Ln mc ms Sc a Q) ∧ (∀ Q, (∀ S', MR L d A' S' → Q r S') → wp_X8_relate Sm a Q) := by
  have hmc := mc_A h.2.2.2.2.1
  have hz : ∀ K, 0 + mcA K ≤ mcA K ∧ 0 + msA Ln K ≤ msA Ln K := fun K => ⟨by omega, by omega⟩
  obtain ⟨hcf, hx, hcv, hg, hC, hM, hA⟩ := id h
  obtain ⟨hW, hL, hd1, hd⟩ := CX_W h
  have e1 : (1 : Int32).toInt = 1 := by decide
  by_cases ha : isS a
  · obtain ⟨s, hs, rfl⟩ := isS_of ha
    have hf : ∀ w, w < ofs L (d + 1) → (fun w => x (364 * s + w)) w < PR := fun w hw => (hx _ (by omega)).2
    have hlb := lie_b (f := fun w => x (364 * s + w)) hcf hkr hf
    by_cases q0 : (rlF L d (fun w => x (364 * s + w)) (ofs L (d + 1))).1 = none ∨ (rlF L d (fun w => x (364 * s + w)) (ofs L (d + 1))).2 = true
    · refine ⟨-3, A, 0, 0, hz _, fun Q hQ => ?_, fun Q hQ => ?_⟩
      · refine ns_a (fun _ => ⟨vin8 hs, ?_⟩) (fun z => absurd ha z)
        rw [ix7 hs]
        refine cq_onlyLength hcv (kV7 hs) (fun n ho => ?_) (fun _ => ⟨fun _ => hQ _ hC, fun z => absurd (by decide) z⟩)
        rw [hg s hs] at ho
        exact absurd ho (rl_no hf q0)
      · refine sm_relate hM.1 hx hM.2.2.2.1 (fun z => absurd ha z) (fun s' hs' e _ => hQ _ hM) (fun s' n S' x' hs' e er => ?_) (fun s' n S' x' hs' e er => ?_) (fun s' n S1 S' x' hs' e er => ?_)
        all_goals
          have i1 := s_inj (by omega) (by omega) e
          subst i1
          rw [er] at q0
          rcases q0 with q0 | q0 <;> cases q0
    · obtain ⟨n, en⟩ : ∃ n, rlF L d (fun w => x (364 * s + w)) (ofs L (d + 1)) = (some n, false) := by
        cases e1 : (rlF L d (fun w => x (364 * s + w)) (ofs L (d + 1))).1 with
        | none => exact absurd (Or.inl e1) q0
        | some n =>
          cases e2 : (rlF L d (fun w => x (364 * s + w)) (ofs L (d + 1))).2 with
          | true => exact absurd (Or.inr e2) q0
          | false => exact ⟨n, Prod.ext e1 e2⟩
      have hon : onl L d (rwK x s) n := rl_on hf en
      have hnd : n ≤ d := hon.1
      have hMX : ∀ S' x', upX Sm S' → nums S' x' → agr x' x → MR L d A S' := fun S' x' hu hn hag => by
        have := MR_X (X' := A.1) hM hu hn (by rw [hA]; exact xr_a0 hW hag)
        exact this
      have hCX : ∀ S' g', upK kV Sc S' → cv L d Ln S' g' → fr kP56 g g' → CR L d Ln A S' := fun S' g' hu hc' hf' => by
        have hX := sm_f0 (L := L) (d := d) hg hf' (fun i hi => by unfold kP56; omega)
        rw [← hA] at hX
        exact CR_V hC hu hc' hX
      cases eb : lieB L d (shA L d (fun w => x (364 * s + w)) (ofs L (d + 1))) (ofs L (d + 1)) with
      | false =>
        have hnl : ¬ lieC L d (rwK x s) := fun z => by rw [hlb.mpr z] at eb; cases eb
        refine ⟨-3, A, 0, 0, hz _, fun Q hQ => ?_, fun Q hQ => ?_⟩
        · refine ns_a (fun _ => ⟨vin8 hs, ?_⟩) (fun z => absurd ha z)
          rw [ix7 hs]
          refine cq_onlyLength hcv (kV7 hs) (fun n' ho => ⟨fun _ => hQ _ hC, fun _ => ⟨vin8 hs, ?_⟩⟩) (fun _ => ⟨fun _ => hQ _ hC, fun z => absurd (by decide) z⟩)
          refine cq_isLie hcv (kV7 hs) (by omega) (by omega) (fun S1 g1 hu1 hc1 hf1 hl => ?_) (fun S1 g1 hu1 hc1 hf1 hl => ⟨fun z => absurd rfl z, fun _ => hQ _ (hCX S1 g1 hu1 hc1 hf1)⟩)
          rw [hg s hs] at hl
          exact absurd hl hnl
        · refine sm_relate hM.1 hx hM.2.2.2.1 (fun z => absurd ha z) (fun s' hs' e z => ?_) (fun s' n' S' x' hs' e er el hu hn hag => hQ _ (hMX S' x' hu hn hag)) (fun s' n' S' x' hs' e er el => ?_) (fun s' n' S1 S' x' hs' e er el => ?_)
          · exact hQ _ hM
          all_goals
            have i1 := s_inj (by omega) (by omega) e
            subst i1
            rw [eb] at el
            cases el
      | true =>
        have hl : lieC L d (rwK x s) := hlb.mp eb
        have hn1 : 1 ≤ n := by
          by_cases z : n = 0
          · subst z
            obtain ⟨-, ⟨v, hv, hne⟩, -⟩ := hon
            rw [Nat.pow_zero] at hv
            have : v = 0 := by omega
            subst this
            exact absurd hl.1 hne
          · omega
        by_cases hK : A.2.2.1.1 = 4
        · refine ⟨-4, A, 0, 0, hz _, fun Q hQ => ?_, fun Q hQ => ?_⟩
          · refine ns_a (fun _ => ⟨vin8 hs, ?_⟩) (fun z => absurd ha z)
            rw [ix7 hs]
            refine cq_onlyLength hcv (kV7 hs) (fun n' ho => ⟨fun z => ?_, fun _ => ⟨vin8 hs, ?_⟩⟩) (fun z => absurd (by rw [hg s hs]; exact hon) (z n))
            · rw [hg s hs] at ho
              have := on_i hon ho
              rw [i32_lt, e1, nI_i (by omega)] at z
              omega
            refine cq_isLie hcv (kV7 hs) (by omega) (by omega) (fun S1 g1 hu1 hc1 hf1 _ => ⟨fun _ => ⟨fun z => ?_, fun _ => hQ _ (hCX S1 g1 hu1 hc1 hf1)⟩, fun z => absurd z (by decide)⟩) (fun S1 g1 hu1 hc1 hf1 z => absurd (by rw [hg s hs]; exact hl) z)
            rw [hu1.1, hC.2.2.2.1.2.2.1, hK] at z
            exact absurd z (by decide)
          · refine sm_relate hM.1 hx hM.2.2.2.1 (fun z => absurd ha z) (fun s' hs' e z => ?_) (fun s' n' S' x' hs' e er el hu hn hag => ?_) (fun s' n' S' x' hs' e er el _ hu hn hag => hQ _ (hMX S' x' hu hn hag)) (fun s' n' S1 S' x' hs' e er el z => absurd hK (by omega))
            · have i1 := s_inj (by omega) (by omega) e
              subst i1
              exact absurd z q0
            · have i1 := s_inj (by omega) (by omega) e
              subst i1
              rw [eb] at el
              cases el
        · have hK4 : A.2.2.1.1 < 4 := by
            have := hC.2.2.2.1.2.2.2.1
            omega
          have hlie : lieD L n (fun w => rwK x s (ofs L n + w)) := by
            by_cases z : n = 1
            · subst z
              exact lie_1
            · exact hl.2 n (by omega) hnd
          refine ⟨nI A.2.2.1.1, (A.1, A.2.1, (A.2.2.1.1 + 1, va_up A.2.2.1.2.1 A.2.2.1.1 n, va_up A.2.2.1.2.2 A.2.2.1.1 (fun w => rwK x s (ofs L n + w))), A.2.2.2), cs_mc Sc, cs_ms Ln Sc, ⟨by rw [hmc.1]; unfold mcA; rw [if_neg (Nat.succ_ne_zero _)]; exact Nat.le_refl _, by rw [hmc.2]; unfold msA; rw [if_neg (Nat.succ_ne_zero _)]; exact Nat.le_refl _⟩, fun Q hQ => ?_, fun Q hQ => ?_⟩
          · refine ns_a (fun _ => ⟨vin8 hs, ?_⟩) (fun z => absurd ha z)
            rw [ix7 hs]
            refine cq_onlyLength hcv (kV7 hs) (fun n' ho => ?_) (fun z => absurd (by rw [hg s hs]; exact hon) (z n))
            rw [hg s hs] at ho
            have en' := on_i hon ho
            subst en'
            refine ⟨fun z => ?_, fun _ => ⟨vin8 hs, ?_⟩⟩
            · rw [i32_lt, e1, nI_i (by omega)] at z
              omega
            refine cq_isLie hcv (kV7 hs) (by omega) (by omega) (fun S1 g1 hu1 hc1 hf1 _ => ⟨fun _ => ⟨fun _ => ⟨vin8 hs, ?_, ?_, ?_⟩, fun z => ?_⟩, fun z => absurd z (by decide)⟩) (fun S1 g1 hu1 hc1 hf1 z => absurd (by rw [hg s hs]; exact hl) z)
            · unfold cs_mc; rw [hu1.2.1]
            · unfold cs_ms; rw [hu1.2.1]
            · have eg : g1 (7 + s) = rwK x s := by rw [hf1 _ (by unfold kP56; omega), hg s hs]
              refine ct_enact hkr (hCX S1 g1 hu1 hc1 hf1) hc1 (kV7 hs) hn1 hnd hK4 (by rw [eg]; exact hlie) (fun S' hC' => hQ _ ?_)
              rw [eg] at hC'
              exact hC'
            · rw [hu1.1, hC.2.2.2.1.2.2.1] at z
              exact absurd (show nI A.2.2.1.1 < nI 4 from (i32_lt _ _).mpr (by rw [nI_i (by omega), nI_i (by omega)]; omega)) z
          · refine sm_relate hM.1 hx hM.2.2.2.1 (fun z => absurd ha z) (fun s' hs' e z => ?_) (fun s' n' S' x' hs' e er el hu hn hag => ?_) (fun s' n' S' x' hs' e er el z => absurd z hK) (fun s' n' S1 S' x' hs' e er el _ hu h0 h5 h9 hJ hn hag hlw => ?_)
            · have i1 := s_inj (by omega) (by omega) e
              subst i1
              exact absurd z q0
            · have i1 := s_inj (by omega) (by omega) e
              subst i1
              rw [eb] at el
              cases el
            · have i1 := s_inj (by omega) (by omega) e
              subst i1
              rw [en] at er
              have en' : n = n' := Option.some.inj (congrArg Prod.fst er)
              subst en'
              have hM1 := hMX S1 x'
              refine hQ _ ⟨ck_o hM.1 (fun j hj => by rw [h5 j (by omega), hu.1]) (fun k hk => by rw [h9 k (by omega), hu.2.1]) (fun j hj => by rw [hJ 1 (by decide)]; exact hu.2.2.1 j hj), ⟨x', hn, ?_⟩, ?_, ?_, ?_⟩
              · show ∀ s, s < 8 → eqW L d (rwK x' s) (A.1 s)
                rw [hA]
                exact xr_a0 hW hag
              · have h3 := hM.2.2.1
                unfold stp at h3 ⊢
                rw [h5 4 (by decide), hu.1, h9 8 (by decide), hu.2.1, hJ 4 (by decide), hu.2.2.2 4 (by decide)]
                exact h3
              · obtain ⟨w1, w2, w3⟩ := hlw
                refine ⟨w1, w2, fun i hi => ?_⟩
                have w4 := w3 i hi
                dsimp only at hi w4 ⊢
                by_cases q : i = A.2.2.1.1
                · rw [if_pos q, if_pos q] at w4
                  rw [q, va_up_self, va_up_self]
                  rw [q] at w4
                  obtain ⟨z1, z2, z3⟩ := w4
                  refine ⟨z1, z2, fun v hv => ?_⟩
                  have hxl := (hx (364 * s' + (ofs L n + v)) (by have := pl_W (L := L) hnd hv; omega)).2
                  rw [show (rwK x s' (ofs L n + v)).val = x (364 * s' + (ofs L n + v)) from kN_v hxl]
                  exact z3 v hv
                · rw [if_neg q, if_neg q] at w4
                  rw [va_up_ne _ _ q, va_up_ne _ _ q]
                  exact w4
              · have h6 := hM.2.2.2.2
                unfold tap at h6 ⊢
                rw [h5 7 (by decide), hu.1, h9 11 (by decide), hu.2.1]
                exact h6
  · refine ⟨-1, A, 0, 0, hz _, fun Q hQ => ?_, fun Q hQ => ?_⟩
    · exact ns_a (fun z => absurd z ha) (fun _ => hQ _ hC)
    · exact sm_relate hM.1 hx hM.2.2.2.1 (fun _ => hQ _ hM) (fun s' hs' e => absurd (by rw [e]; exact isS_n hs') ha) (fun s' n' S' x' hs' e => absurd (by rw [e]; exact isS_n hs') ha) (fun s' n' S' x' hs' e => absurd (by rw [e]; exact isS_n hs') ha) (fun s' n' S1 S' x' hs' e => absurd (by rw [e]; exact isS_n hs') ha)
end SS
