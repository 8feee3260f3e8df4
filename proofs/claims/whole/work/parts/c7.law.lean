/-! the class's laws: strip, keep, settle, brackets with letters -/
theorem cnt_1 {L d : Nat} : cnt L d (ofs L 1) = 0 := by
  show cnt L d (0 + L ^ 0) = 0
  rw [Nat.pow_zero]
  rfl
theorem pv_eq {L d : Nat} : ∀ n, pvN L d (n + 1) = cnt L d (ofs L (n + 1))
  | 0 => by
    rw [cnt_1]
    rfl
  | n + 1 => by
    have hm : cnt L d (ofs L (n + 1)) ≤ cnt L d (ofs L (n + 1 + 1)) := cnt_mono (ofs_mono (by omega))
    show pvN L d (n + 1) + (if n + 1 = 0 then 0 else lnN L d (n + 1)) = _
    rw [if_neg (by omega), pv_eq n]
    unfold lnN
    omega
theorem pv_lt' {L d n i : Nat} (h1 : 1 ≤ n) (hn : n ≤ d) (hi : i < lnN L d n) : pvN L d n + i < chC L d := by
  obtain ⟨m, rfl⟩ : ∃ m, n = m + 1 := ⟨n - 1, by omega⟩
  have hm : cnt L d (ofs L (m + 1 + 1)) ≤ cnt L d (ofs L (d + 1)) := cnt_mono (ofs_mono (by omega))
  unfold lnN at hi
  rw [pv_eq]
  unfold chC
  omega
theorem pv_mono {L d n : Nat} (h1 : 1 ≤ n) : pvN L d (n + 1) = pvN L d n + lnN L d n := by
  show pvN L d n + (if n = 0 then 0 else lnN L d n) = _
  rw [if_neg (by omega)]
theorem rw_s {L d n : Nat} (h1 : 1 ≤ n) : rwN L d (n + 1) = rwN L d n + lnN L d n * L ^ n := by
  show rwN L d n + (if n = 0 then 0 else lnN L d n * L ^ n) = _
  rw [if_neg (by omega)]
theorem rw_mono {L d a : Nat} : ∀ b, a ≤ b → rwN L d a ≤ rwN L d b
  | 0, h => by rw [show a = 0 by omega]; exact Nat.le_refl _
  | b + 1, h => by
    by_cases e : a = b + 1
    · rw [e]; exact Nat.le_refl _
    · have := rw_mono (L := L) (d := d) b (show a ≤ b by omega)
      show rwN L d a ≤ rwN L d b + _
      omega
theorem pvm {L d a : Nat} : ∀ b, a ≤ b → pvN L d a ≤ pvN L d b
  | 0, h => by rw [show a = 0 by omega]; exact Nat.le_refl _
  | b + 1, h => by
    by_cases e : a = b + 1
    · rw [e]; exact Nat.le_refl _
    · have := pvm (L := L) (d := d) b (show a ≤ b by omega)
      show pvN L d a ≤ pvN L d b + _
      omega
theorem rw_le {L d : Nat} (h : cf_ok L d) : ∀ n, n ≤ d → rwN L d (n + 1) ≤ 256 * cnt L d (ofs L (n + 1))
  | 0, _ => by show 0 + 0 ≤ _; omega
  | n + 1, hn => by
    have ih := rw_le h n (by omega)
    have hp := cf_pow h (n := n + 1) hn
    have hm : cnt L d (ofs L (n + 1)) ≤ cnt L d (ofs L (n + 1 + 1)) := cnt_mono (ofs_mono (by omega))
    rw [rw_s (by omega)]
    have : lnN L d (n + 1) * L ^ (n + 1) ≤ lnN L d (n + 1) * 256 := Nat.mul_le_mul_left _ hp.2
    unfold lnN at this ⊢
    omega
theorem rw_b {L d : Nat} (h : cf_ok L d) : rwN L d (d + 1) ≤ 25088 := by
  have h1 := rw_le h d (Nat.le_refl _)
  have h2 := cnt_99 h (Nat.le_refl (ofs L (d + 1)))
  omega
/-- a place of a row -/
theorem rw_in {L d n i w : Nat} (h1 : 1 ≤ n) (hn : n ≤ d) (hi : i < lnN L d n) (hw : w < L ^ n) : rwN L d n + i * L ^ n + w < rwN L d (n + 1) ∧ rwN L d (n + 1) ≤ rwN L d (d + 1) := by
  refine ⟨?_, rw_mono _ (by omega)⟩
  rw [rw_s h1]
  have : (i + 1) * L ^ n ≤ lnN L d n * L ^ n := Nat.mul_le_mul_right _ hi
  rw [Nat.succ_mul] at this
  omega
theorem rw_inj {L d n i w n' i' w' : Nat} (h1 : 1 ≤ n) (hi : i < lnN L d n) (hw : w < L ^ n) (h1' : 1 ≤ n') (hi' : i' < lnN L d n') (hw' : w' < L ^ n') (hn : n ≤ d) (hn' : n' ≤ d) (e : rwN L d n + i * L ^ n + w = rwN L d n' + i' * L ^ n' + w') : n = n' ∧ i = i' ∧ w = w' := by
  have a := rw_in (L := L) h1 hn hi hw
  have a' := rw_in (L := L) h1' hn' hi' hw'
  have hnn : n = n' := by
    rcases Nat.lt_trichotomy n n' with q | q | q
    · have := rw_mono (L := L) (d := d) n' (show n + 1 ≤ n' by omega)
      omega
    · exact q
    · have := rw_mono (L := L) (d := d) n (show n' + 1 ≤ n by omega)
      omega
  subst hnn
  have e2 : i * L ^ n + w = i' * L ^ n + w' := by omega
  have hL : 0 < L ^ n := by omega
  have d1 : (i * L ^ n + w) / L ^ n = i := by rw [Nat.mul_comm, Nat.mul_add_div hL, Nat.div_eq_of_lt hw, Nat.add_zero]
  have d2 : (i' * L ^ n + w') / L ^ n = i' := by rw [Nat.mul_comm, Nat.mul_add_div hL, Nat.div_eq_of_lt hw', Nat.add_zero]
  have hii : i = i' := by rw [← d1, e2, d2]
  subst hii
  exact ⟨rfl, rfl, by omega⟩
def lwL (L d : Nat) (Ln : Nat → Nat) : Prop := Ln 40 = d + 1 ∧ Ln 41 = d + 1 ∧ Ln 42 = d + 2 ∧ Ln 43 = d + 2 ∧ Ln 44 = chC L d ∧ Ln 45 = L ^ d ∧ Ln 47 = rwN L d (d + 1)
def clw (L d : Nat) (S : cs_T) (rk : Nat → Nat) (rr : Nat → Nat → Nat → Kf) (pp : Nat → Nat → Nat) : Prop :=
  (∀ n, n ≤ d + 1 → S.2.1 42 n = nI (rwN L d n) ∧ S.2.1 43 n = nI (pvN L d n)) ∧ (∀ n, 1 ≤ n → n ≤ d → S.2.1 40 n = nI (rk n) ∧ rk n ≤ lnN L d n) ∧ ∀ n i, 1 ≤ n → n ≤ d → i < rk n → S.2.1 44 (pvN L d n + i) = nI (pp n i) ∧ ∀ w, w < L ^ n → S.2.1 47 (rwN L d n + i * L ^ n + w) = kI (rr n i w)
def hnd (L : Nat) (S : cs_T) (n : Nat) (h : Nat → Kf) : Prop := ∀ w, w < L ^ n → S.2.1 45 w = kI (h w)
def kZ : Nat → Prop := fun k => k = 40 ∨ k = 41 ∨ k = 44 ∨ k = 45 ∨ k = 47
section CW
variable {L d : Nat} {Ln : Nat → Nat}
theorem cv_Z {S S' : cs_T} {g : Nat → Nat → Kf} (h : cv L d Ln S g) (hu : upK kZ S S') : cv L d Ln S' g := by
  obtain ⟨h1, h2, h3, h4, h5, h6, h7⟩ := h
  refine ⟨cw_up h1 hu (by unfold kZ; decide) (by unfold kZ; decide), ?_, ?_, h4, h5, ?_, ?_⟩
  · rw [hu.1]; exact h2
  · rw [hu.1]; exact h3
  · rw [hu.2.2 2 (by unfold kZ; decide)]; exact h6
  · intro k j hk hj
    rw [hu.2.2 k (by unfold kV at hk; unfold kZ; omega)]
    exact h7 k j hk hj
theorem cch_Z {S S' : cs_T} (h : cch L d Ln S) (hu : upK kZ S S') : cch L d Ln S' := by
  unfold cch at h ⊢
  rw [hu.2.2 33 (by unfold kZ; decide), hu.2.2 34 (by unfold kZ; decide), hu.2.2 35 (by unfold kZ; decide), hu.2.2 36 (by unfold kZ; decide)]
  exact h
def k45 : Nat → Prop := fun k => k = 45
theorem k45_Z {S S' : cs_T} (hu : upK k45 S S') : upK kZ S S' := upK_w hu (fun k hk => by unfold k45 at hk; unfold kZ; omega)
theorem clw_45 {S S' : cs_T} {rk : Nat → Nat} {rr : Nat → Nat → Nat → Kf} {pp : Nat → Nat → Nat} (h : clw L d S rk rr pp) (hu : upK k45 S S') : clw L d S' rk rr pp := by
  unfold clw at h ⊢
  rw [hu.2.2 40 (by unfold k45; decide), hu.2.2 42 (by unfold k45; decide), hu.2.2 43 (by unfold k45; decide), hu.2.2 44 (by unfold k45; decide), hu.2.2 47 (by unfold k45; decide)]
  exact h
theorem cl_strip {S : cs_T} {g : Nat → Nat → Kf} {rk : Nat → Nat} {rr : Nat → Nat → Nat → Kf} {pp : Nat → Nat → Nat} {n i q : Nat} {h : Nat → Kf} {Q : cs_T → Prop} (hc : cv L d Ln S g) (hLn : lwL L d Ln) (hl : clw L d S rk rr pp) (hq2 : S.2.2 = some q) (h1 : 1 ≤ n) (hn : n ≤ d) (hi : i < rk n) (hp : pp n i < L ^ n) (hz : ∀ w, w < pp n i → rr n i w = 0) (hh : hnd L S n h)
    (hq : ∀ S', upK k45 S S' → hnd L S' n (fun w => h w + rr n i w * (0 - h (pp n i))) → Q S') : wp_X2_strip Ln S (nI n) (nI i) Q := by
  have hcf := hc.1.1
  have hd := cf_d hcf
  have hL := cf_L hcf
  have hpn := cf_pow hcf (n := n) hn
  have hLd : L ^ n ≤ L ^ d := Nat.pow_le_pow_right (by omega) hn
  have hpd := cf_pow hcf (n := d) (Nat.le_refl _)
  have hrk := (hl.2.1 n h1 hn).2
  have hrw := rw_b hcf
  have hC := chC_98 hcf
  have hpv := pv_lt' (L := L) h1 hn (show i < lnN L d n by omega)
  have hpw := cv_pw hc (n := n) hn
  have e42 := (hl.1 n (by omega)).1
  have e43 := (hl.1 n (by omega)).2
  have hcl : (nI n).toNatClampNeg = n := nI_clamp (by omega)
  unfold wp_X2_strip
  rw [hcl, e43, nI_add]
  refine ⟨by rw [hLn.2.2.2.1]; exact vp_in_nI (by omega) (by omega), by rw [hLn.2.2.2.2.1]; exact vp_in_nI hpv (by omega), ?_⟩
  rw [nI_clamp (by omega), (hl.2.2 n i h1 hn hi).1]
  rintro _ rfl
  refine ⟨by rw [hLn.2.2.2.2.2.1]; exact vp_in_nI (by omega) (by omega), ?_⟩
  rw [nI_clamp (by omega), hh _ hp]
  refine kn_minus (a := 0) ⟨by rw [hLn.2.2.1]; exact vp_in_nI (by omega) (by omega), hpw.1, ?_⟩
  have e0 : S.2.1 0 n = nI (L ^ n) := by have := hpw.2; rwa [hcl] at this
  rw [e42, e0, pk_mul, nI_add]
  rintro _ rfl
  by_cases hf : 0 - h (pp n i) = 0
  · refine ⟨1, ?_⟩
    have hend : Q S := hq S upK_rf (fun w hw => by
      show S.2.1 45 w = kI (h w + rr n i w * (0 - h (pp n i)))
      rw [hf, km_0', ka_0]; exact hh w hw)
    exact ⟨hpw.1, fun _ => hend, fun _ => ⟨fun _ => hend, fun z => absurd (kI_z.mpr hf) z⟩⟩
  · refine pk_loop (σ := cs_T) (fun k w s => wp_X2_strip_49 Ln Q k s (nI n) (kI (0 - h (pp n i))) (nI (rwN L d n + i * L ^ n)) (nI w)) (fun w s => upK k45 S s ∧ ∀ u, u < L ^ n → s.2.1 45 u = kI (if u < w then h u + rr n i u * (0 - h (pp n i)) else h u)) (L ^ n) (pp n i) S (Nat.le_of_lt hp) ⟨upK_rf, fun u hu => ?_⟩ ?_ ?_
    · rw [hh u hu]
      by_cases e : u < pp n i
      · rw [if_pos e, hz u e, km_0, ka_0]
      · rw [if_neg e]
    · rintro k s ⟨hu, hI⟩
      have hp2 := cv_pw (cv_Z hc (k45_Z hu)) (n := n) hn
      refine ⟨hp2.1, ?_⟩
      rw [hp2.2]
      refine ⟨fun _ => hq s hu (fun w hw => by rw [hI w hw, if_pos hw]), fun z => absurd (nI_le (Nat.le_refl _) (by omega)) z⟩
    · rintro k w s hw ⟨hu, hI⟩ hk
      have hp2 := cv_pw (cv_Z hc (k45_Z hu)) (n := n) hn
      have hin := rw_in (L := L) h1 hn (show i < lnN L d n by omega) hw
      have hrow := ((clw_45 hl hu).2.2 n i h1 hn hi).2 w hw
      refine ⟨hp2.1, ?_⟩
      rw [hp2.2]
      refine ⟨fun z => absurd z (nI_ge hw (by omega)), fun _ => ⟨fun z => absurd (kI_z.mp z) hf, fun _ => ⟨by rw [hLn.2.2.2.2.2.1]; exact vp_in_nI (by omega) (by omega), q, by rw [hu.2.1]; exact hq2, ?_⟩⟩⟩
      rw [nI_add]
      refine ⟨by rw [hLn.2.2.2.2.2.2]; exact vp_in_nI (by omega) (by omega), ?_⟩
      rw [nI_clamp (by omega), nI_clamp (by omega), hrow, hI w hw, if_neg (Nat.lt_irrefl w)]
      refine kn_more ⟨by rw [hLn.2.2.2.2.2.1]; exact vp_in_nI (by omega) (by omega), ?_⟩
      rintro _ rfl
      rw [nI_1]
      refine hk _ ⟨upK_tr hu (upK_sI rfl), fun u hu' => ?_⟩
      rw [cI_g, if_pos rfl, if_lt_succ]
      by_cases e : u = w
      · subst e
        rw [if_pos rfl, if_pos rfl]
      · rw [if_neg e, if_neg e]
        exact hI u hu'
theorem cl_keep {S : cs_T} {g : Nat → Nat → Kf} {rk : Nat → Nat} {rr : Nat → Nat → Nat → Kf} {pp : Nat → Nat → Nat} {n pv q : Nat} {h : Nat → Kf} {Q : cs_T → Prop} (hc : cv L d Ln S g) (hLn : lwL L d Ln) (hl : clw L d S rk rr pp) (hq2 : S.2.2 = some q) (h1 : 1 ≤ n) (hn : n ≤ d) (hlt : rk n < lnN L d n) (hp : pv < L ^ n) (hh : hnd L S n h)
    (hq : ∀ S', upK kZ S S' → S'.2.1 41 = S.2.1 41 → clw L d S' (va_up rk n (rk n + 1)) (va_up rr n (va_up (rr n) (rk n) (fun w => h w * kv (h pv)))) (va_up pp n (va_up (pp n) (rk n) pv)) → Q S') : wp_X2_keep Ln S (nI n) (nI pv) Q := by
  have hcf := hc.1.1
  have hd := cf_d hcf
  have hL := cf_L hcf
  have hpn := cf_pow hcf (n := n) hn
  have hLd : L ^ n ≤ L ^ d := Nat.pow_le_pow_right (by omega) hn
  have hpd := cf_pow hcf (n := d) (Nat.le_refl _)
  have hrw := rw_b hcf
  have hC := chC_98 hcf
  have hpv := pv_lt' (L := L) h1 hn hlt
  have hpw := cv_pw hc (n := n) hn
  have e42 := (hl.1 n (by omega)).1
  have e40 := (hl.2.1 n h1 hn).1
  have hcl : (nI n).toNatClampNeg = n := nI_clamp (by omega)
  have e0 : S.2.1 0 n = nI (L ^ n) := by have := hpw.2; rwa [hcl] at this
  have hkZ47 : kZ 47 := by unfold kZ; decide
  unfold wp_X2_keep
  refine ⟨by rw [hLn.2.2.2.2.2.1]; exact vp_in_nI (by omega) (by omega), ?_⟩
  rw [nI_clamp (by omega), hh _ hp]
  refine kn_recip ⟨by rw [hLn.2.2.1]; exact vp_in_nI (by omega) (by omega), by rw [hLn.1]; exact vp_in_nI (by omega) (by omega), hpw.1, ?_⟩
  rw [hcl, e42, e40, e0, pk_mul, nI_add]
  rintro _ rfl
  refine pk_loop (σ := cs_T) (fun k w s => wp_X2_keep_38 Ln Q k s (nI n) (nI pv) (kI (kv (h pv))) (nI (rwN L d n + rk n * L ^ n)) (nI w)) (fun w s => upK (fun k => k = 47) S s ∧ (∀ j, (j < rwN L d n + rk n * L ^ n ∨ rwN L d n + rk n * L ^ n + L ^ n ≤ j) → s.2.1 47 j = S.2.1 47 j) ∧ ∀ u, u < w → s.2.1 47 (rwN L d n + rk n * L ^ n + u) = kI (h u * kv (h pv))) (L ^ n) 0 S (Nat.zero_le _) ⟨upK_rf, fun _ _ => rfl, fun u hu => absurd hu (Nat.not_lt_zero u)⟩ ?_ ?_
  · rintro k s ⟨hu, hout, hI⟩
    have hu47 : upK kZ S s := upK_w hu (fun k hk => by rw [hk]; exact hkZ47)
    have hp2 := cv_pw (cv_Z hc hu47) (n := n) hn
    have e43 : s.2.1 43 n = nI (pvN L d n) := by rw [hu.2.2 43 (by decide)]; exact (hl.1 n (by omega)).2
    have e40' : s.2.1 40 n = nI (rk n) := by rw [hu.2.2 40 (by decide)]; exact e40
    refine ⟨hp2.1, ?_⟩
    rw [hp2.2]
    refine ⟨fun _ => ?_, fun z => absurd (nI_le (Nat.le_refl _) (by omega)) z⟩
    rw [hcl, e43, e40', nI_add]
    refine ⟨by rw [hLn.2.2.2.1]; exact vp_in_nI (by omega) (by omega), by rw [hLn.1]; exact vp_in_nI (by omega) (by omega), by rw [hLn.2.2.2.2.1]; exact vp_in_nI hpv (by omega), by rw [hLn.1]; exact vp_in_nI (by omega) (by omega), by rw [hLn.1]; exact vp_in_nI (by omega) (by omega), ?_⟩
    rw [nI_clamp (by omega)]
    have hu2 : upK kZ S (cs_sI (cs_sI s 44 (pvN L d n + rk n) (nI pv)) 40 n ((cs_sI s 44 (pvN L d n + rk n) (nI pv)).2.1 40 n + 1)) := upK_tr hu47 (upK_tr (upK_sI (by unfold kZ; decide)) (upK_sI (by unfold kZ; decide)))
    refine hq _ hu2 ?_ ⟨fun m hm => ?_, fun m m1 hm => ?_, fun m i m1 hm hi => ?_⟩
    · rw [cI_r (by decide), cI_r (by decide), hu.2.2 41 (by decide)]
    · rw [cI_r (by decide), cI_r (by decide), cI_r (by decide), cI_r (by decide), hu.2.2 42 (by decide), hu.2.2 43 (by decide)]
      exact hl.1 m hm
    · have e4 : (cs_sI s 44 (pvN L d n + rk n) (nI pv)).2.1 40 = S.2.1 40 := by rw [cI_r (by decide), hu.2.2 40 (by decide)]
      rw [cI_g, if_pos rfl, e4]
      by_cases e : m = n
      · subst e
        rw [if_pos rfl, va_up_self, e40, nI_1]
        exact ⟨rfl, hlt⟩
      · rw [if_neg e, va_up_ne _ _ e]
        exact hl.2.1 m m1 hm
    · rw [cI_r (show 44 ≠ 40 by decide), cI_r (show 47 ≠ 40 by decide), cI_r (show 47 ≠ 44 by decide), cI_g, if_pos rfl]
      by_cases e : m = n
      · subst e
        rw [va_up_self] at hi
        rw [va_up_self, va_up_self]
        by_cases e2 : i = rk m
        · subst e2
          rw [if_pos rfl, va_up_self, va_up_self]
          exact ⟨rfl, fun w hw => hI w hw⟩
        · rw [if_neg (by omega), va_up_ne _ _ e2, va_up_ne _ _ e2, hu.2.2 44 (by decide)]
          have hold := hl.2.2 m i m1 hm (by omega)
          refine ⟨hold.1, fun w hw => ?_⟩
          rw [hout _ (Or.inl ?_)]
          · exact hold.2 w hw
          · have : (i + 1) * L ^ m ≤ rk m * L ^ m := Nat.mul_le_mul_right _ (by omega)
            rw [Nat.succ_mul] at this
            omega
      · rw [va_up_ne _ _ e] at hi
        rw [va_up_ne _ _ e, va_up_ne _ _ e, hu.2.2 44 (by decide)]
        have hold := hl.2.2 m i m1 hm hi
        have hmr := (hl.2.1 m m1 hm).2
        refine ⟨?_, fun w hw => ?_⟩
        · rw [if_neg, hold.1]
          intro z
          rcases Nat.lt_trichotomy m n with q1 | q1 | q1
          · have a1 := pvm (L := L) (d := d) n (show m + 1 ≤ n by omega)
            rw [pv_mono m1] at a1
            omega
          · exact e q1
          · have a1 := pvm (L := L) (d := d) m (show n + 1 ≤ m by omega)
            rw [pv_mono h1] at a1
            omega
        · rw [hout, hold.2 w hw]
          by_cases z : rwN L d m + i * L ^ m + w < rwN L d n + rk n * L ^ n
          · exact Or.inl z
          · refine Or.inr ?_
            by_cases z2 : rwN L d n + rk n * L ^ n + L ^ n ≤ rwN L d m + i * L ^ m + w
            · exact z2
            · exfalso
              obtain ⟨u, hu'⟩ : ∃ u, rwN L d m + i * L ^ m + w = rwN L d n + rk n * L ^ n + u := ⟨rwN L d m + i * L ^ m + w - (rwN L d n + rk n * L ^ n), by omega⟩
              exact e (rw_inj m1 (by omega) hw h1 hlt (show u < L ^ n by omega) hm hn hu').1
  · rintro k w s hw ⟨hu, hout, hI⟩ hk
    have hu47 : upK kZ S s := upK_w hu (fun k hk => by rw [hk]; exact hkZ47)
    have hp2 := cv_pw (cv_Z hc hu47) (n := n) hn
    have hin := rw_in (L := L) h1 hn hlt hw
    have e45 : s.2.1 45 w = kI (h w) := by rw [hu.2.2 45 (by decide)]; exact hh w hw
    refine ⟨hp2.1, ?_⟩
    rw [hp2.2]
    refine ⟨fun z => absurd z (nI_ge hw (by omega)), fun _ => ⟨q, by rw [hu.2.1]; exact hq2, by rw [hLn.2.2.2.2.2.1]; exact vp_in_nI (by omega) (by omega), ?_⟩⟩
    rw [nI_clamp (by omega), e45]
    refine kn_product ⟨by rw [nI_add, hLn.2.2.2.2.2.2]; exact vp_in_nI (by omega) (by omega), ?_⟩
    rintro _ rfl
    rw [nI_1, nI_add, nI_clamp (by omega)]
    refine hk _ ⟨upK_tr hu (upK_sI rfl), fun j hj => ?_, fun u hu' => ?_⟩
    · rw [cI_g, if_pos rfl, if_neg (by omega)]
      exact hout j hj
    · rw [cI_g, if_pos rfl]
      by_cases e : u = w
      · subst e
        rw [if_pos rfl]
      · rw [if_neg (by omega)]
        exact hI u (by omega)
end CW
