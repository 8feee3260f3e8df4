/-! the class's laws: settle, brackets with letters, enact -/
section CX
variable {L d : Nat} {Ln : Nat → Nat}
/-- closed under sums -/
def clo (V : (Nat → Kf) → Prop) : Prop := ∀ (N : Nat) (c : Nat → Kf) (u : Nat → Nat → Kf), (∀ j, j < N → V (u j)) → V (fun w => ksum N (fun j => c j * u j w))
/-- what settling a row comes to -/
def stl (M k : Nat) (r : Nat → Nat → Kf) (h : Nat → Kf) (k' : Nat) (r' : Nat → Nat → Kf) (p' : Nat → Nat) : Prop := ech M k' r' p' ∧ k ≤ k' ∧ (∀ i, i < k → r' i = r i) ∧ spn M k' r' h ∧ ∀ V, clo V → V h → (∀ i, i < k → V (r i)) → ∀ i, i < k' → V (r' i)
theorem rdE_clo {r : Nat → Nat → Kf} {p : Nat → Nat} {h : Nat → Kf} {k : Nat} {c : Kf} {V : (Nat → Kf) → Prop} (hV : clo V) (hh : V h) (hr : ∀ i, i < k → V (r i)) : V (fun w => rdE r p h k w * c) := by
  obtain ⟨a, ha⟩ := rdE_spn (r := r) (p := p) h k
  have := hV (k + 1) (fun j => if j < k then -(a j * c) else c) (fun j => if j < k then r j else h) (fun j hj => by
    by_cases e : j < k
    · show V (if j < k then r j else h)
      rw [if_pos e]; exact hr j e
    · show V (if j < k then r j else h)
      rw [if_neg e]; exact hh)
  have e : (fun w => ksum (k + 1) (fun j => (if j < k then -(a j * c) else c) * (if j < k then r j else h) w)) = fun w => rdE r p h k w * c := by
    funext w
    show ksum k _ + (if k < k then _ else c) * (if k < k then r k else h) w = _
    rw [if_neg (Nat.lt_irrefl k), if_neg (Nat.lt_irrefl k), ksum_c (h := fun j => (a j * r j w) * (-c)) (fun j hj => ?_), ksum_mr, ha w, kd_l, km_c c, km_c c, kn_m', ← ka_a, ka_c (-_), ka_a, kn_c, ka_0]
    rw [if_pos hj, if_pos hj, kn_m, kn_m', km_a, km_a, km_c c]
  rw [e] at this
  exact this
theorem stl_dep {M k : Nat} {r : Nat → Nat → Kf} {p : Nat → Nat} {h : Nat → Kf} (he : ech M k r p) (hz : ∀ w, w < M → rdE r p h k w = 0) : stl M k r h k r p := ⟨he, Nat.le_refl _, fun _ _ => rfl, spn_dep hz, fun _ _ _ hr => hr⟩
theorem stl_ins {M k q : Nat} {r : Nat → Nat → Kf} {p : Nat → Nat} {h : Nat → Kf} (he : ech M k r p) (hq : q < M) (h0 : ∀ w, w < q → rdE r p h k w = 0) (hne : rdE r p h k q ≠ 0) : stl M k r h (k + 1) (va_up r k (fun w => rdE r p h k w * kv (rdE r p h k q))) (va_up p k q) := by
  have e1 : ∀ i, i < k → va_up r k (fun w => rdE r p h k w * kv (rdE r p h k q)) i = r i := fun i hi => va_up_ne _ _ (by omega)
  refine ⟨ech_ins he hq h0 hne e1 (fun i hi => va_up_ne _ _ (by omega)) (fun w _ => by rw [va_up_self]) (va_up_self _ _ _), Nat.le_succ _, e1, spn_ins hne e1 (fun w _ => by rw [va_up_self]), fun V hV hh hr i hi => ?_⟩
  by_cases e : i = k
  · rw [e, va_up_self]
    exact rdE_clo hV hh hr
  · rw [va_up_ne _ _ e]
    exact hr i (by omega)
theorem lieD_clo {n : Nat} : clo (lieD L n) := fun N c u h => lieD_sum h
theorem fstnz {M : Nat} {f : Nat → Kf} (h : ¬ ∀ w, w < M → f w = 0) : ∃ q, q < M ∧ f q ≠ 0 ∧ ∀ w, w < q → f w = 0 := by
  have hex : ∃ q, q < M ∧ f q ≠ 0 := by
    by_cases e : ∃ q, q < M ∧ f q ≠ 0
    · exact e
    · exact absurd (fun w hw => by
        by_cases e2 : f w = 0
        · exact e2
        · exact absurd ⟨w, hw, e2⟩ e) h
  obtain ⟨q, ⟨h1, h2⟩, h3⟩ := pk_least _ hex
  refine ⟨q, h1, h2, fun w hw => ?_⟩
  by_cases e : f w = 0
  · exact e
  · exact absurd ⟨by omega, e⟩ (h3 w hw)
/-- where all there can be is there, the rest depends -/
theorem stl_full {n k : Nat} {r : Nat → Nat → Kf} {p : Nat → Nat} {h : Nat → Kf} (hL : 1 ≤ L) (h6 : d ≤ 6) (h1 : 1 ≤ n) (hn : n ≤ d) (hk : KR L d) (he : ech (L ^ n) k r p) (hr : ∀ i, i < k → lieD L n (r i)) (hh : lieD L n h) (hf : lnN L d n ≤ k) : ∀ w, w < L ^ n → rdE r p h k w = 0 := by
  by_cases e : ∀ w, w < L ^ n → rdE r p h k w = 0
  · exact e
  · exfalso
    obtain ⟨q, h2, h3, h4⟩ := fstnz e
    have hs := stl_ins he h2 h4 h3
    have := ech_chf hL h6 h1 hn hk hs.1 (fun i hi => hs.2.2.2.2 _ lieD_clo hh hr i hi)
    unfold lnN at hf
    omega
theorem cl_settle {S : cs_T} {g : Nat → Nat → Kf} {rk : Nat → Nat} {rr : Nat → Nat → Nat → Kf} {pp : Nat → Nat → Nat} {n q : Nat} {h : Nat → Kf} {Q : cs_T → Prop} (hc : cv L d Ln S g) (hch : cch L d Ln S) (hLn : lwL L d Ln) (hkr : KR L d) (hl : clw L d S rk rr pp) (hq2 : S.2.2 = some q) (h1 : 1 ≤ n) (hn : n ≤ d) (he : ech (L ^ n) (rk n) (rr n) (pp n)) (hrl : ∀ i, i < rk n → lieD L n (rr n i)) (hhl : lieD L n h) (hh : hnd L S n h)
    (hq : ∀ S' rk' rr' pp', upK kZ S S' → S'.2.1 41 = S.2.1 41 → clw L d S' rk' rr' pp' → (∀ m, m ≠ n → rk' m = rk m ∧ rr' m = rr m ∧ pp' m = pp m) → stl (L ^ n) (rk n) (rr n) h (rk' n) (rr' n) (pp' n) → Q S') : wp_X2_settle Ln S (nI n) Q := by
  have hcf := hc.1.1
  have hd := cf_d hcf
  have hL := cf_L hcf
  have hpn := cf_pow hcf (n := n) hn
  have hLd : L ^ n ≤ L ^ d := Nat.pow_le_pow_right (by omega) hn
  have hC := chC_98 hcf
  have e40 := (hl.2.1 n h1 hn).1
  have hrk := (hl.2.1 n h1 hn).2
  have hln : lnN L d n ≤ 98 := by
    have := pv_lt' (L := L) (d := d) (n := n) (i := lnN L d n - 1) h1 hn
    by_cases e : lnN L d n = 0
    · omega
    · have := this (by omega)
      omega
  have hcl : (nI n).toNatClampNeg = n := nI_clamp (by omega)
  refine ⟨by rw [hLn.1]; exact vp_in_nI (by omega) (by omega), cq_ofLength hc.1 hch h1 hn ?_⟩
  rw [hcl, e40]
  refine pk_lt (rk n) (lnN L d n) (fun hlt => ?_) (fun hge => hq S rk rr pp upK_rf rfl hl (fun _ _ => ⟨rfl, rfl, rfl⟩) (stl_dep he (stl_full (by omega) (by omega) h1 hn hkr he hrl hhl hge)))
  refine pk_loop (σ := cs_T) (fun k i s => wp_X2_settle_20 Ln Q k s (nI n) (nI i)) (fun i s => upK k45 S s ∧ hnd L s n (rdE (rr n) (pp n) h i)) (rk n) 0 S (Nat.zero_le _) ⟨upK_rf, hh⟩ ?_ ?_
  · rintro k s ⟨hu, hI⟩
    have hl' := clw_45 hl hu
    have hc' := cv_Z hc (k45_Z hu)
    have hp2 := cv_pw hc' (n := n) hn
    refine ⟨by rw [hLn.1]; exact vp_in_nI (by omega) (by omega), ?_⟩
    rw [hcl, (hl'.2.1 n h1 hn).1]
    refine ⟨fun _ => ?_, fun z => absurd (nI_le (Nat.le_refl _) (by omega)) z⟩
    refine pk_loop (σ := Unit) (fun k v _ => wp_X2_settle_44 Ln Q k s (nI n) (nI v)) (fun v _ => ∀ w, w < v → rdE (rr n) (pp n) h (rk n) w = 0) (L ^ n) 0 () (Nat.zero_le _) (fun w hw => absurd hw (Nat.not_lt_zero w)) ?_ ?_
    · intro k2 _ hz
      refine ⟨hp2.1, ?_⟩
      rw [hp2.2]
      refine ⟨fun _ => ⟨hp2.1, ?_⟩, fun z => absurd (nI_le (Nat.le_refl _) (by omega)) z⟩
      rw [hp2.2]
      exact ⟨fun _ => hq s rk rr pp (k45_Z hu) (hu.2.2 41 (by unfold k45; decide)) hl' (fun _ _ => ⟨rfl, rfl, rfl⟩) (stl_dep he hz), fun z => absurd (nI_le (Nat.le_refl _) (by omega)) z⟩
    · intro k2 v _ hv hz hk2
      have e45 := hI v hv
      refine ⟨hp2.1, ?_⟩
      rw [hp2.2]
      refine ⟨fun z => absurd z (nI_ge hv (by omega)), fun _ => ⟨by rw [hLn.2.2.2.2.2.1]; exact vp_in_nI (by omega) (by have := cf_pow hcf (n := d) (Nat.le_refl _); omega), ?_⟩⟩
      rw [nI_clamp (by omega), e45, kI_z]
      refine ⟨fun hne => ⟨hp2.1, ?_⟩, fun hz0 => ?_⟩
      · rw [hp2.2]
        refine ⟨fun z => absurd z (nI_ge hv (by omega)), fun _ => ?_⟩
        refine cl_keep hc' hLn hl' (by rw [hu.2.1]; exact hq2) h1 hn hlt hv hI (fun S' hu' h41 hl2 => hq S' _ _ _ (upK_tr (k45_Z hu) hu') (h41.trans (hu.2.2 41 (by unfold k45; decide))) hl2 (fun m hm => ⟨va_up_ne _ _ hm, va_up_ne _ _ hm, va_up_ne _ _ hm⟩) ?_)
        rw [va_up_self, va_up_self, va_up_self]
        exact stl_ins he hv hz hne
      · rintro _ rfl
        rw [nI_1]
        refine hk2 () (fun w hw => ?_)
        by_cases e : w = v
        · rw [e]; exact hz0
        · exact hz w (by omega)
  · rintro k i s hi ⟨hu, hI⟩ hk
    have hl' := clw_45 hl hu
    have hc' := cv_Z hc (k45_Z hu)
    refine ⟨by rw [hLn.1]; exact vp_in_nI (by omega) (by omega), ?_⟩
    rw [hcl, (hl'.2.1 n h1 hn).1]
    refine ⟨fun z => absurd z (nI_ge hi (by omega)), fun _ => ?_⟩
    refine cl_strip hc' hLn hl' (by rw [hu.2.1]; exact hq2) h1 hn hi (he.1 i hi).1 (he.1 i hi).2.2 hI (fun S' hu' hh' => ?_)
    rintro _ rfl
    rw [nI_1]
    exact hk S' ⟨upK_tr hu hu', hh'⟩
theorem cl_fill45 {S : cs_T} {e : Nat} {Q : cs_T → Prop} (he : e ≤ Ln 45) (h31 : Ln 45 < 2 ^ 31) (hq : ∀ S', upK k45 S S' → (∀ w, w < e → S'.2.1 45 w = kI 0) → Q S') : wp_J7_fill_fda19 Ln S 45 0 (nI e) 0 Q := by
  refine ⟨by decide, ?_⟩
  refine ⟨fun _ => ⟨fun _ => ⟨fun _ => ?_, fun z => absurd (nI_le he h31) z⟩, fun z => absurd (by decide) z⟩, fun z => absurd (nI_le (a := 0) (Nat.zero_le _) (by omega)) z⟩
  refine pk_loop (σ := cs_T) (fun k i s => wp_J7_fill_fda19_10 Ln Q k s 45 (nI e) 0 (nI i)) (fun i s => upK k45 S s ∧ ∀ w, w < i → s.2.1 45 w = kI 0) e 0 S (Nat.zero_le _) ⟨upK_rf, fun w hw => absurd hw (Nat.not_lt_zero w)⟩ ?_ ?_
  · rintro k s ⟨hu, hI⟩
    exact ⟨fun _ => hq s hu hI, fun z => absurd (nI_le (Nat.le_refl _) (by omega)) z⟩
  · rintro k i s hi ⟨hu, hI⟩ hk
    refine ⟨fun z => absurd z (nI_ge hi (by omega)), fun _ => ⟨by decide, vp_in_nI (by omega) h31, ?_⟩⟩
    rintro _ rfl
    rw [nI_1, nI_clamp (by omega)]
    refine hk _ ⟨upK_tr hu (upK_sI rfl), fun w hw => ?_⟩
    rw [cI_g, if_pos rfl]
    by_cases e : w = i
    · rw [if_pos e]; rfl
    · rw [if_neg e]; exact hI w (by omega)
def hbU (L old x : Nat) (row : Nat → Kf) (V w : Nat) : Kf := (if V = x * old + w then row w else 0) + (if V = w * L + x then row w else 0) * kN 2147483646
theorem hbU_br {m x V : Nat} {row : Nat → Kf} (hL : 1 ≤ L) (hx : x < L) (hV : V < L ^ (m + 1)) : ksum (L ^ m) (fun w => hbU L (L ^ m) x row V w) = brX L m x row V := by
  have hLm : 0 < L ^ m := Nat.pow_pos hL
  have hdv : V / L < L ^ m := by rw [Nat.div_lt_iff_lt_mul hL, ← Nat.pow_succ]; exact hV
  have d1 := Nat.div_add_mod V (L ^ m)
  have d2 := Nat.div_add_mod V L
  unfold hbU brX
  rw [ksum_a, ksum_mr]
  refine congr (congrArg _ ?_) (congrArg (· * kN 2147483646) ?_)
  · by_cases e : V / L ^ m = x
    · rw [if_pos e, ksum_c (h := fun w => if w = V % L ^ m then row w else 0) (fun w hw => ?_), ksum_if, if_pos (Nat.mod_lt _ hLm)]
      by_cases e2 : w = V % L ^ m
      · rw [if_pos e2, if_pos (by rw [e2, ← e, Nat.mul_comm]; exact d1.symm)]
      · rw [if_neg e2, if_neg (fun z => e2 (by rw [z, Nat.mul_comm, Nat.mul_add_mod, Nat.mod_eq_of_lt hw]))]
    · rw [if_neg e]
      refine ksum_z (fun w hw => if_neg (fun z => e ?_))
      rw [z, Nat.mul_comm, Nat.mul_add_div hLm, Nat.div_eq_of_lt hw, Nat.add_zero]
  · by_cases e : V % L = x
    · rw [if_pos e, ksum_c (h := fun w => if w = V / L then row w else 0) (fun w hw => ?_), ksum_if, if_pos hdv]
      by_cases e2 : w = V / L
      · rw [if_pos e2, if_pos (by rw [e2, ← e, Nat.mul_comm]; exact d2.symm)]
      · rw [if_neg e2, if_neg (fun z => e2 (by rw [z, Nat.mul_comm]; exact (dm_app hx).1.symm))]
    · rw [if_neg e]
      refine ksum_z (fun w hw => if_neg (fun z => e ?_))
      rw [z, Nat.mul_comm]; exact (dm_app hx).2
theorem cl_bracket {S : cs_T} {g : Nat → Nat → Kf} {rk : Nat → Nat} {rr : Nat → Nat → Nat → Kf} {pp : Nat → Nat → Nat} {m i x q : Nat} {Q : cs_T → Prop} (hc : cv L d Ln S g) (hLn : lwL L d Ln) (hl : clw L d S rk rr pp) (hq2 : S.2.2 = some q) (h1 : 1 ≤ m) (hn : m + 1 ≤ d) (hi : i < rk m) (hx : x < L)
    (hq : ∀ S', upK k45 S S' → hnd L S' (m + 1) (brX L m x (rr m i)) → Q S') : wp_X2_bracketToHand Ln S (nI (m + 1)) (nI i) (nI x) Q := by
  have hcf := hc.1.1
  have hd := cf_d hcf
  have hL := cf_L hcf
  have hpm := cf_pow hcf (n := m) (by omega)
  have hpn := cf_pow hcf (n := m + 1) hn
  have hLd : L ^ (m + 1) ≤ L ^ d := Nat.pow_le_pow_right (by omega) hn
  have hpd := cf_pow hcf (n := d) (Nat.le_refl _)
  have hrw := rw_b hcf
  have hrk := (hl.2.1 m h1 (by omega)).2
  have hpw := cv_pw hc (n := m) (by omega)
  have hpw1 := cv_pw hc (n := m + 1) hn
  have hcl : (nI m).toNatClampNeg = m := nI_clamp (by omega)
  have e42 := (hl.1 m (by omega)).1
  unfold wp_X2_bracketToHand
  rw [show nI (m + 1) - 1 = nI m from pk_sub (b := 1) (by omega), hpw.2, hpw1.2]
  refine ⟨hpw.1, ?_⟩
  rintro _ rfl
  rw [hcl, e42, pk_mul, nI_add]
  refine ⟨by rw [hLn.2.2.1]; exact vp_in_nI (by omega) (by omega), ?_⟩
  rintro _ rfl
  refine ⟨hpw1.1, cl_fill45 (by rw [hLn.2.2.2.2.2.1]; exact hLd) (by rw [hLn.2.2.2.2.2.1]; omega) (fun S1 hu1 hz1 => ?_)⟩
  refine pk_loop (σ := cs_T) (fun k w s => wp_X2_bracketToHand_49 Ln Q k s (nI x) (nI (L ^ m)) (nI (rwN L d m + i * L ^ m)) (nI w)) (fun w s => upK k45 S s ∧ ∀ V, V < L ^ (m + 1) → s.2.1 45 V = kI (ksum w (fun w => hbU L (L ^ m) x (rr m i) V w))) (L ^ m) 0 S1 (Nat.zero_le _) ⟨hu1, fun V hV => hz1 V hV⟩ ?_ ?_
  · rintro k s ⟨hu, hI⟩
    exact ⟨fun _ => hq s hu (fun V hV => by rw [hI V hV, hbU_br (by omega) hx hV]), fun z => absurd (nI_le (Nat.le_refl _) (by omega)) z⟩
  · rintro k w s hw ⟨hu, hI⟩ hk
    have hl' := clw_45 hl hu
    have hrow := (hl'.2.2 m i h1 (by omega) hi).2 w hw
    have hin := rw_in (L := L) h1 (show m ≤ d by omega) (show i < lnN L d m by omega) hw
    have ha : x * L ^ m + w < L ^ (m + 1) := by
      have := pv_lt (L := L) (m := 1) (n := m) (u := x) (v := w) (by rw [Nat.pow_one]; exact hx) hw
      rwa [Nat.add_comm 1 m] at this
    have hb : w * L + x < L ^ (m + 1) := by rw [Nat.mul_comm]; exact pow_app hw hx
    have e2 : s.1 2 = nI L := by rw [hu.1]; exact hc.1.2.1
    have hq3 : s.2.2 = some q := by rw [hu.2.1]; exact hq2
    refine ⟨fun z => absurd z (nI_ge hw (by omega)), fun _ => ?_⟩
    rw [pk_mul, nI_add]
    rintro _ rfl
    rw [e2, pk_mul, nI_add]
    rintro _ rfl
    refine ⟨by rw [hLn.2.2.2.2.2.1]; exact vp_in_nI (by omega) (by omega), q, hq3, ?_⟩
    rw [nI_add]
    refine ⟨by rw [hLn.2.2.2.2.2.2]; exact vp_in_nI (by omega) (by omega), ?_⟩
    rw [nI_clamp (show x * L ^ m + w < 2 ^ 31 by omega), nI_clamp (show rwN L d m + i * L ^ m + w < 2 ^ 31 by omega), nI_clamp (show w * L + x < 2 ^ 31 by omega), hrow, hI _ ha]
    refine kn_plus ⟨by rw [hLn.2.2.2.2.2.1]; exact vp_in_nI (by omega) (by omega), by rw [hLn.2.2.2.2.2.1]; exact vp_in_nI (by omega) (by omega), q, hq3, by rw [hLn.2.2.2.2.2.2]; exact vp_in_nI (by omega) (by omega), ?_⟩
    have er : (cs_sI s 45 (x * L ^ m + w) (kI (ksum w (fun w' => hbU L (L ^ m) x (rr m i) (x * L ^ m + w) w') + rr m i w))).2.1 47 (rwN L d m + i * L ^ m + w) = kI (rr m i w) := by rw [cI_r (by decide)]; exact hrow
    have eb : (cs_sI s 45 (x * L ^ m + w) (kI (ksum w (fun w' => hbU L (L ^ m) x (rr m i) (x * L ^ m + w) w') + rr m i w))).2.1 45 (w * L + x) = kI (ksum w (fun w' => hbU L (L ^ m) x (rr m i) (w * L + x) w') + (if w * L + x = x * L ^ m + w then rr m i w else 0)) := by
      rw [cI_g, if_pos rfl]
      by_cases e : w * L + x = x * L ^ m + w
      · rw [if_pos e, if_pos e, e]
      · rw [if_neg e, if_neg e, ka_0]
        exact hI _ hb
    rw [er, eb]
    refine kn_minus ⟨by rw [hLn.2.2.2.2.2.1]; exact vp_in_nI (by omega) (by omega), ?_⟩
    rintro _ rfl
    rw [nI_1]
    refine hk _ ⟨upK_tr hu (upK_tr (upK_sI rfl) (upK_sI rfl)), fun V hV => ?_⟩
    rw [cI_g, if_pos rfl]
    show _ = kI (ksum w _ + hbU L (L ^ m) x (rr m i) V w)
    unfold hbU
    by_cases e : V = w * L + x
    · rw [if_pos e, if_pos e, ← e, ks_n, ka_a, k_m1, kn_m', km_1]
    · rw [if_neg e, cI_g, if_pos rfl, if_neg e, km_0, ka_0]
      by_cases e3 : V = x * L ^ m + w
      · rw [if_pos e3, if_pos e3, ← e3]
      · rw [if_neg e3, if_neg e3, ka_0]
        exact hI V hV
end CX
