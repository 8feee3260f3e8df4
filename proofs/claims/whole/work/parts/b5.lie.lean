/-! the class's test of LIE (Dynkin), and what measures shares of a word -/
def laN (L e w : Nat) : Nat := w / L ^ e * L ^ e + w % L ^ e % L * L ^ (e - 1) + w % L ^ e / L
theorem laN_lt {L e w n : Nat} (hL : 1 ≤ L) (h1 : 1 ≤ e) (hn : e ≤ n) (hw : w < L ^ n) : laN L e w < L ^ n := by
  have hLe : 0 < L ^ e := Nat.pow_pos hL
  have hml := Nat.mod_lt w hLe
  have hq : w % L ^ e / L < L ^ (e - 1) := dv_lt hL h1 hml
  have hc : w % L ^ e % L < L := Nat.mod_lt _ hL
  have hb : w % L ^ e % L * L ^ (e - 1) + w % L ^ e / L < L ^ e := by
    have := pv_lt (L := L) (m := 1) (n := e - 1) (by rw [Nat.pow_one]; exact hc) hq
    rwa [show 1 + (e - 1) = e by omega] at this
  have hf : w / L ^ e < L ^ (n - e) := by
    rw [Nat.div_lt_iff_lt_mul hLe, ← Nat.pow_add, Nat.sub_add_cancel hn]
    exact hw
  have := pv_lt hf hb
  rw [Nat.sub_add_cancel hn] at this
  unfold laN
  omega
def dyN (L : Nat) (A : Nat → Kf) : Nat → Nat → Kf
  | 0 => A
  | e + 1 => fun w => dyN L A e w - dyN L A e (laN L (e + 2) w)
def lieD (L n : Nat) (A : Nat → Kf) : Prop := ∀ w, w < L ^ n → dyN L A (n - 1) w = A w * kN n
section CL
variable {L d : Nat} {Ln : Nat → Nat} {S : cs_T} {g : Nat → Nat → Kf}
theorem cq_lastAhead {e w n : Nat} {Q : Int32 → cs_T → Prop} (h : cv L d Ln S g) (h1 : 1 ≤ e) (hen : e ≤ n) (hn : n ≤ d) (hw : w < L ^ n) (hq : Q (nI (laN L e w)) S) : wp_X0_lastAhead Ln S (nI w) (nI e) Q := by
  have hcf := h.1.1
  have hd := cf_d hcf
  have hL := cf_L hcf
  have hpn := cf_pow hcf (n := n) hn
  have hpe := cf_pow hcf (n := e) (by omega)
  have hp := cv_pw h (n := e) (by omega)
  have hp1 := cv_pw h (n := e - 1) (by omega)
  have hml := Nat.mod_lt w (show 0 < L ^ e by omega)
  have hdl := Nat.div_le_self w (L ^ e)
  unfold wp_X0_lastAhead
  rw [hp.2, pk_div (by omega) (by omega) (by omega), ri_rem (by omega) (by omega) (by omega), show nI e - 1 = nI (e - 1) from pk_sub (b := 1) (by omega), hp1.2, h.2.2.1]
  refine ⟨hp.1, nI_ne (by omega) (by omega), ?_⟩
  rintro _ rfl
  refine ⟨hp.1, nI_ne (by omega) (by omega), ?_⟩
  rintro _ rfl
  refine ⟨hp.1, nI_ne (by omega) (by omega), hp1.1, nI_ne (by omega) (by omega), ?_⟩
  rw [pk_mul, ri_rem (by omega) (by omega) (by omega), pk_mul, nI_add, pk_div (by omega) (by omega) (by omega), nI_add]
  exact hq
theorem cq_isLieAt {a n : Nat} {Q : Int32 → cs_T → Prop} (h : cv L d Ln S g) (ha : kV a) (ha5 : a ≠ 5) (ha6 : a ≠ 6) (h2 : 2 ≤ n) (hn : n ≤ d)
    (h1 : ∀ S' g', upK kV S S' → cv L d Ln S' g' → fr kP56 g g' → lieD L n (fun w => g a (ofs L n + w)) → Q 1 S')
    (h0 : ∀ S' g', upK kV S S' → cv L d Ln S' g' → fr kP56 g g' → ¬ lieD L n (fun w => g a (ofs L n + w)) → Q 0 S') : wp_X0_isLieAt Ln S a (nI n) Q := by
  have hcf := h.1.1
  have hd := cf_d hcf
  have hL := cf_L hcf
  have hW := cv_W h
  have k5 : kV 5 := by unfold kV; omega
  have k6 : kV 6 := by unfold kV; omega
  have hpn := cf_pow hcf (n := n) hn
  have hp := cv_pw h (n := n) hn
  have hs := cv_st h (n := n) (by omega)
  have hnW : ofs L n + L ^ n ≤ ofs L (d + 1) := ofs_mono (L := L) (show n + 1 ≤ d + 1 by omega)
  have ez : ((0 : Int32)).toNatClampNeg = 0 := rfl
  unfold wp_X0_isLieAt
  rw [hs.2, hp.2, nI_clamp (show ofs L n < 2 ^ 31 by omega), nI_clamp (show L ^ n < 2 ^ 31 by omega), ez, h.2.2.2.1 a ha, h.2.2.2.1 5 k5]
  refine ⟨hs.1, hp.1, kV_47 ha, nI_pos (by omega), by decide, nI_pos (by omega), by omega, by omega, ?_⟩
  have hu0 : upK kV S (cs_sA S 5 (va_cpy (S.2.1 a) (S.2.1 5) (ofs L n) 0 (L ^ n))) := ⟨rfl, rfl, fun k hk => va_up_ne _ _ (fun z => hk (z ▸ k5))⟩
  have hc0 : cv L d Ln (cs_sA S 5 (va_cpy (S.2.1 a) (S.2.1 5) (ofs L n) 0 (L ^ n))) (va_up g 5 (fun j => if j < L ^ n then g a (ofs L n + j) else g 5 j)) := cv_up h hu0 (fun k j hk hj => by
    show va_up S.2.1 5 _ k j = _
    by_cases e : k = 5
    · subst e
      rw [va_up_self, va_up_self]
      unfold va_cpy
      by_cases e2 : j < L ^ n
      · rw [if_pos ⟨Nat.zero_le _, by omega⟩, if_pos e2, Nat.sub_zero]
        exact h.2.2.2.2.2.2 a _ ha (by omega)
      · rw [if_neg (by omega), if_neg e2]
        exact h.2.2.2.2.2.2 5 j hk hj
    · rw [va_up_ne _ _ e, va_up_ne _ _ e]; exact h.2.2.2.2.2.2 k j hk hj)
  generalize cs_sA S 5 (va_cpy (S.2.1 a) (S.2.1 5) (ofs L n) 0 (L ^ n)) = S0 at hu0 hc0
  have main : ∀ m e S1 g1 so nx, m + e = n - 1 → (so = 5 ∧ nx = 6 ∨ so = 6 ∧ nx = 5) → upK kV S S1 → cv L d Ln S1 g1 → fr kP56 g g1 → (∀ w, w < L ^ n → g1 so w = dyN L (fun w => g a (ofs L n + w)) e w) → wp_X0_isLieAt_32 Ln Q (m + 1) S1 a (nI n) so nx (nI (e + 2)) := by
    intro m
    induction m with
    | zero =>
      intro e S1 g1 so nx he hsn hu hc hf hr
      have hks : kV so := by rcases hsn with ⟨rfl, rfl⟩ | ⟨rfl, rfl⟩ <;> assumption
      have he' : e = n - 1 := by omega
      subst he'
      refine ⟨fun _ => ?_, fun z => absurd (nI_lt (by omega) (by omega)) z⟩
      have hp1 := cv_pw hc (n := n) hn
      have hs1 := cv_st hc (n := n) (by omega)
      have ega : g1 a = g a := hf a (by unfold kP56; omega)
      refine pk_loop (σ := Unit) (fun k w _ => wp_X0_isLieAt_99 Ln Q k S1 a (nI n) so (nI w)) (fun w _ => ∀ u, u < w → dyN L (fun w => g a (ofs L n + w)) (n - 1) u = g a (ofs L n + u) * kN n) (L ^ n) 0 () (Nat.zero_le _) (fun u hu => absurd hu (Nat.not_lt_zero u)) ?_ ?_
      · intro k _ hI
        refine ⟨hp1.1, ?_⟩
        rw [hp1.2]
        exact ⟨fun _ => h1 S1 g1 hu hc hf hI, fun z => absurd (nI_le (Nat.le_refl _) (by omega)) z⟩
      · intro k w _ hw hI hk
        have hwW : ofs L n + w < ofs L (d + 1) := by omega
        refine ⟨hp1.1, ?_⟩
        rw [hp1.2]
        refine ⟨fun z => absurd z (nI_ge hw (by omega)), fun _ => ⟨kV_47 hks, cv_in hc hks (by omega), hs1.1, kV_47 ha, ?_⟩⟩
        rw [hs1.2, nI_add]
        refine ⟨cv_in hc ha hwW, ?_⟩
        rw [cv_g hc ha hwW, cv_g hc hks (by omega), ega, hr w hw]
        have hkn : wp_X3_product (kI (g a (ofs L n + w))) (kI (kN n)) (fun r18 : Int32 => ((kI (dyN L (fun w => g a (ofs L n + w)) (n - 1) w) = r18 → ∀ v5_19 : Int32, v5_19 = nI w + 1 → wp_X0_isLieAt_99 Ln Q k S1 a (nI n) so v5_19) ∧ (¬ kI (dyN L (fun w => g a (ofs L n + w)) (n - 1) w) = r18 → Q 0 S1))) := by
          refine kn_product ?_
          rw [k_inj]
          refine ⟨fun z => ?_, fun z => h0 S1 g1 hu hc hf (fun q => z (q w hw))⟩
          rintro _ rfl
          rw [nI_1]
          refine hk () (fun u hu' => ?_)
          by_cases e : u = w
          · rw [e]; exact z
          · exact hI u (by omega)
        rw [kI_N (show n < PR by have : PR = 2147483647 := rfl; omega)] at hkn
        exact hkn
    | succ m ih =>
      intro e S1 g1 so nx he hsn hu hc hf hr
      have hks : kV so := by rcases hsn with ⟨rfl, rfl⟩ | ⟨rfl, rfl⟩ <;> assumption
      have hkn : kV nx := by rcases hsn with ⟨rfl, rfl⟩ | ⟨rfl, rfl⟩ <;> assumption
      have hne : so ≠ nx := by rcases hsn with ⟨rfl, rfl⟩ | ⟨rfl, rfl⟩ <;> decide
      refine ⟨fun z => absurd z (nI_nlt (by omega) (by omega)), fun _ => ?_⟩
      refine lpR (S := S1) (L := L) (d := d) (Ln := Ln) (g := g1) (t := nx) (fun k s w => wp_X0_isLieAt_41 Ln (wp_X0_isLieAt_32 Ln Q (m + 1)) Q k s a (nI n) so nx (nI (e + 2)) (nI w)) (fun w j => if j < w then dyN L (fun w => g a (ofs L n + w)) (e + 1) j else g1 nx j) 0 (L ^ n) (Nat.zero_le _) (cv_t hc (fun j _ => if_neg (Nat.not_lt_zero _))) ?_ ?_
      · intro k S2 hu2 hc2
        have hp2 := cv_pw hc2 (n := n) hn
        refine ⟨hp2.1, ?_⟩
        rw [hp2.2]
        refine ⟨fun _ => ?_, fun z => absurd (nI_le (Nat.le_refl _) (by omega)) z⟩
        rintro _ rfl
        rw [nI_1]
        refine ih (e + 1) S2 _ nx so (by omega) (by omega) (upK_tr hu hu2) hc2 (fr_tr hf (fr_u (by unfold kP56; omega))) (fun w hw => ?_)
        rw [va_up_self, if_pos hw]
      · intro k w S2 _ hw hu2 hc2 hk2
        have hp2 := cv_pw hc2 (n := n) hn
        have hla := laN_lt (L := L) (e := e + 2) (w := w) (n := n) (by omega) (by omega) (by omega) hw
        refine ⟨hp2.1, ?_⟩
        rw [hp2.2]
        refine ⟨fun z => absurd z (nI_ge hw (by omega)), fun _ => ⟨kV_47 hks, cv_in hc2 hks (by omega), ?_⟩⟩
        refine cq_lastAhead hc2 (by omega) (show e + 2 ≤ n by omega) hn hw ⟨cv_in hc2 hks (by omega), ?_⟩
        rw [cv_g hc2 hks (by omega), cv_g hc2 hks (by omega), va_up_ne _ _ hne, hr w hw, hr _ hla]
        refine kn_minus ⟨kV_47 hkn, cv_in hc2 hkn (by omega), ?_⟩
        rintro _ rfl
        rw [nI_1, nI_clamp (by omega)]
        have hs := cv_s' (p := w) (c := dyN L (fun w => g a (ofs L n + w)) (e + 1) w) (r' := fun j => if j < w + 1 then dyN L (fun w => g a (ofs L n + w)) (e + 1) j else g1 nx j) hc2 hkn (fun j hj => by
          rw [if_lt_succ]
          by_cases e1 : j = w
          · rw [if_pos e1, if_pos e1, e1]
          · rw [if_neg e1, if_neg e1])
        exact hk2 _ (upK_tr hu2 hs.1) hs.2
  exact ⟨n - 1 + 1, main (n - 1) 0 S0 _ 5 6 (by omega) (Or.inl ⟨rfl, rfl⟩) hu0 hc0 (fr_u (Or.inl rfl)) (fun w hw => by rw [va_up_self, if_pos hw]; rfl)⟩
theorem dyN_0 {A : Nat → Kf} {n : Nat} (hL : 1 ≤ L) (h : ∀ w, w < L ^ n → A w = 0) : ∀ e, e + 1 ≤ n → ∀ w, w < L ^ n → dyN L A e w = 0
  | 0, _, w, hw => h w hw
  | e + 1, he, w, hw => by
    show dyN L A e w - dyN L A e (laN L (e + 2) w) = 0
    rw [dyN_0 hL h e (by omega) w hw, dyN_0 hL h e (by omega) _ (laN_lt hL (by omega) (by omega) hw), ks_n, kn_c']
/-- the class's LIE -/
def lieC (L d : Nat) (f : Nat → Kf) : Prop := f 0 = 0 ∧ ∀ n, 2 ≤ n → n ≤ d → lieD L n (fun w => f (ofs L n + w))
theorem lieC_c {f f' : Nat → Kf} (hd : 1 ≤ d) (hL : 1 ≤ L) (h : eqW L d f f') : lieC L d f → lieC L d f' := by
  rintro ⟨h0, h1⟩
  have hW : 0 < ofs L (d + 1) := by
    have := pl_W (L := L) (d := d) (n := 0) (v := 0) (by omega) (by rw [Nat.pow_zero]; decide)
    omega
  refine ⟨by rw [← h 0 hW]; exact h0, fun n h2 hn w hw => ?_⟩
  have hA : ∀ w, w < L ^ n → f (ofs L n + w) = f' (ofs L n + w) := fun w hw => h _ (pl_W hn hw)
  have hdy : ∀ e, e + 1 ≤ n → ∀ w, w < L ^ n → dyN L (fun w => f (ofs L n + w)) e w = dyN L (fun w => f' (ofs L n + w)) e w := by
    intro e
    induction e with
    | zero => intro _ w hw; exact hA w hw
    | succ e ih =>
      intro he w hw
      show dyN L _ e w - dyN L _ e _ = dyN L _ e w - dyN L _ e _
      rw [ih (by omega) w hw, ih (by omega) _ (laN_lt hL (by omega) (by omega) hw)]
  have := h1 n h2 hn w hw
  rw [hdy (n - 1) (by omega) w hw] at this
  rw [this]
  show f (ofs L n + w) * kN n = f' (ofs L n + w) * kN n
  rw [hA w hw]
theorem cq_isLie {a : Nat} {Q : Int32 → cs_T → Prop} (h : cv L d Ln S g) (ha : kV a) (ha5 : a ≠ 5) (ha6 : a ≠ 6)
    (h1 : ∀ S' g', upK kV S S' → cv L d Ln S' g' → fr kP56 g g' → lieC L d (g a) → Q 1 S')
    (h0 : ∀ S' g', upK kV S S' → cv L d Ln S' g' → fr kP56 g g' → ¬ lieC L d (g a) → Q 0 S') : wp_X0_isLie Ln S a Q := by
  have hcf := h.1.1
  have hd := cf_d hcf
  have hL := cf_L hcf
  have hW := cv_W h
  have e0 : S.2.1 a ((0 : Int32)).toNatClampNeg = kI (g a 0) := cv_g (j := 0) h ha hW.2
  refine ⟨kV_47 ha, cv_in (j := 0) h ha hW.2, ?_⟩
  rw [e0, kI_z]
  refine ⟨fun hz => ?_, fun hz => h0 S g upK_rf h fr_rf (fun q => hz q.1)⟩
  have key := pk_loop (σ := cs_T) (fun k n s => wp_X0_isLie_10 Ln Q k s a (nI n)) (fun n s => 2 ≤ n ∧ upK kV S s ∧ ∃ g1, cv L d Ln s g1 ∧ fr kP56 g g1 ∧ ∀ m, 2 ≤ m → m < n → lieD L m (fun w => g a (ofs L m + w))) (d + 1) 2 S (by omega) ⟨Nat.le_refl _, upK_rf, g, h, fr_rf, fun m q1 q2 => by omega⟩ ?_ ?_
  · exact key
  · rintro k s ⟨_, hu, g1, hc, hf, hI⟩
    exact ⟨fun _ => h1 s g1 hu hc hf ⟨hz, fun m q1 q2 => hI m q1 (by omega)⟩, fun z => absurd (by rw [hc.2.1]; exact nI_lt (by omega) (by omega)) z⟩
  · rintro k n s hn ⟨hn2, hu, g1, hc, hf, hI⟩ hk
    have ega : g1 a = g a := hf a (by unfold kP56; omega)
    have go : ∀ S2 g2, upK kV S S2 → cv L d Ln S2 g2 → fr kP56 g g2 → lieD L n (fun w => g a (ofs L n + w)) → wp_X0_isLie_38 Ln (wp_X0_isLie_10 Ln Q k) Q S2 a (nI n) := by
      intro S2 g2 hu2 hc2 hf2 hl
      rintro _ rfl
      rw [nI_1]
      refine hk S2 ⟨by omega, hu2, g2, hc2, hf2, fun m q1 q2 => ?_⟩
      by_cases e : m = n
      · rw [e]; exact hl
      · exact hI m q1 (by omega)
    refine ⟨fun z => absurd z (by rw [hc.2.1]; exact nI_nlt (by omega) (by omega)), fun _ => ?_⟩
    refine cq_isNought hc ha (by omega) (fun hno => ⟨fun _ => go s g1 hu hc hf ?_, fun z => absurd z (by decide)⟩) (fun v hv hv0 => ⟨fun z => absurd rfl z, fun _ => ?_⟩)
    · rw [ega] at hno
      intro w hw
      rw [dyN_0 (by omega) hno (n - 1) (by omega) w hw]
      show 0 = g a (ofs L n + w) * _
      rw [hno w hw, km_0]
    · refine cq_isLieAt hc ha ha5 ha6 hn2 (by omega) (fun S2 g2 hu2 hc2 hf2 hl => ⟨fun _ => go S2 g2 (upK_tr hu hu2) hc2 (fr_tr hf hf2) (by rw [← ega]; exact hl), fun z => absurd z (by decide)⟩) (fun S2 g2 hu2 hc2 hf2 hl => ⟨fun z => absurd rfl z, fun _ => h0 S2 g2 (upK_tr hu hu2) hc2 (fr_tr hf hf2) (fun q => hl ?_)⟩)
      rw [ega]
      exact q.2 n hn2 (by omega)
theorem cv_37 {S' : cs_T} (h : cv L d Ln S g) (hu : upK (fun k => k = 37) S S') : cv L d Ln S' g := by
  obtain ⟨h1, h2, h3, h4, h5, h6, h7⟩ := h
  refine ⟨cw_up h1 hu (by decide) (by decide), ?_, ?_, h4, h5, ?_, ?_⟩
  · rw [hu.1]; exact h2
  · rw [hu.1]; exact h3
  · rw [hu.2.2 2 (by decide)]; exact h6
  · intro k j hk hj
    rw [hu.2.2 k (by unfold kV at hk; show ¬ k = 37; omega)]
    exact h7 k j hk hj
theorem cq_measure {n v lv : Nat} {Q : cs_T → Prop} (h : cv L d Ln S g) (h37 : Ln 37 = d) (hn : n ≤ d) (hv : v < L ^ n) (hlv : lv ≤ 1)
    (hq : ∀ S' g', upK kW S S' → cv L d Ln S' g' → fr (kY n lv) g g' → eqW L d (g' (15 + lv)) (plK L d (hom n (sml L 8 n v))) → Q S') : wp_X1_measure Ln S (nI (ofs L n + v)) (nI lv) Q := by
  have hd := cf_d h.1.1
  refine cp_lengthOf h.1 hn hv (cp_spell h.1 h37 hn hv (fun S1 hu1 hsp => ?_))
  have := cq_measureS (L := L) (d := d) (Ln := Ln) 8 0 n v lv S1 g Q (by omega) (by omega) hv (by omega) (cv_37 h hu1) h37 (fun i hi => by rw [Nat.zero_add]; exact hsp i hi) (fun S2 g2 hu2 hc2 hf2 hr2 => hq S2 g2 (upK_tr (upK_w hu1 (fun k hk => Or.inr hk)) (upK_W hu2)) hc2 hf2 hr2)
  rw [Nat.zero_add] at this
  exact this
end CL
