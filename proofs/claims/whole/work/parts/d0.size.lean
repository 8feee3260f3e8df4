/-! the reference's size -/
theorem km_mod {a b : Kf} {Q : Int64 → Prop} (hq : Q (kL (a - b))) : wp_X8_mod (kL a - kL b) Q := by
  unfold kL at hq ⊢
  rw [k_sub] at hq
  exact sp_mod a.isLt b.isLt hq
theorem km_inv {a : Kf} {Q : Int64 → Prop} (hq : Q (kL (kv a))) : wp_X8_inverted (kL a) Q := sp_inverted a.isLt hq
theorem kL_N {n : Nat} (h : n < PR) : kL (kN n) = lN n := by unfold kL; rw [kN_v h]
/-- what size may change -/
def upY (S S' : ms_T) : Prop := (∀ k, k ≠ 6 → S'.1 k = S.1 k) ∧ (∀ k, k ≠ 10 → S'.2.1 k = S.2.1 k) ∧ ∀ k, k ≠ 2 → k ≠ 6 → k ≠ 7 → S'.2.2 k = S.2.2 k
theorem upY_rf {S : ms_T} : upY S S := ⟨fun _ _ => rfl, fun _ _ => rfl, fun _ _ _ _ => rfl⟩
theorem upY_tr {S S1 S2 : ms_T} (h : upY S S1) (h1 : upY S1 S2) : upY S S2 := ⟨fun k a => (h1.1 k a).trans (h.1 k a), fun k a => (h1.2.1 k a).trans (h.2.1 k a), fun k a b c => (h1.2.2 k a b c).trans (h.2.2 k a b c)⟩
theorem upY_J {S : ms_T} {k i : Nat} {v : Int64} (hk : k = 2 ∨ k = 6 ∨ k = 7) : upY S (ms_sJ S k i v) := ⟨fun _ _ => rfl, fun _ _ => rfl, fun j a b c => sJ_r (by omega)⟩
theorem upY_I {S : ms_T} {i : Nat} {v : Int32} : upY S (ms_sI S 10 i v) := ⟨fun _ _ => rfl, fun k a => sI_r a, fun _ _ _ _ => rfl⟩
theorem upY_F {S : ms_T} {v : Int32} : upY S (ms_sF S 6 v) := ⟨fun k a => by rw [sF_F, if_neg a], fun _ _ => rfl, fun _ _ _ _ => rfl⟩
theorem mt_Y {L d : Nat} {S S' : ms_T} (h : mt_ok L d S) (hu : upY S S') : mt_ok L d S' := by
  unfold mt_ok at h ⊢
  rw [hu.1 0 (by decide), hu.1 1 (by decide), hu.1 2 (by decide), hu.2.1 0 (by decide), hu.2.1 1 (by decide), hu.2.1 2 (by decide)]
  exact h
theorem ck_Y {L d : Nat} {S S' : ms_T} (h : ck_ok L d S) (hu : upY S S') : ck_ok L d S' := by
  obtain ⟨h1, h2, h3, h4⟩ := h
  refine ⟨mt_Y h1 hu, ?_, ?_, ?_⟩
  · rw [hu.1 3 (by decide)]; exact h2
  · intro n v a b c
    have := h3 n v a b c
    unfold rowOK at this ⊢
    rw [hu.2.1 7 (by decide), hu.2.1 3 (by decide), hu.2.1 6 (by decide), hu.2.1 4 (by decide), hu.2.1 5 (by decide), hu.2.2 1 (by decide) (by decide) (by decide)]
    exact this
  · rw [hu.2.1 7 (by decide)]; exact h4
/-- the reference's rows -/
def rsp (M : Nat) (S : ms_T) (k : Nat) (r : Nat → Nat → Kf) (p : Nat → Nat) : Prop := S.1 6 = nI k ∧ ∀ i, i < k → S.2.1 10 i = nI (p i) ∧ ∀ w, w < M → S.2.2 6 (256 * i + w) = kL (r i w)
def prd (M : Nat) (S : ms_T) (h : Nat → Kf) : Prop := ∀ w, w < M → S.2.2 2 w = kL (h w)
section SZ
variable {L d : Nat}
theorem ln_98 (h : cf_ok L d) {m : Nat} (m1 : 1 ≤ m) (m2 : m ≤ d) : lnN L d m ≤ 98 := by
  have hC := chC_98 h
  by_cases e : lnN L d m = 0
  · omega
  · have := pv_lt' (L := L) (d := d) (n := m) (i := lnN L d m - 1) m1 m2 (by omega)
    omega
theorem ix6 {i w : Nat} : (256 * nI i) + nI w = nI (256 * i + w) := by
  rw [show (256 : Int32) = nI 256 from rfl, pk_mul, nI_add]
theorem sm_spans {S : ms_T} {n k : Nat} {r : Nat → Nat → Kf} {p : Nat → Nat} {h : Nat → Kf} {Q : ms_T → Prop} (hm : mt_ok L d S) (hkr : KR L d) (h1 : 1 ≤ n) (hn : n ≤ d) (hr : rsp (L ^ n) S k r p) (he : ech (L ^ n) k r p) (hrl : ∀ i, i < k → lieD L n (r i)) (hhl : lieD L n h) (hh : prd (L ^ n) S h)
    (hq : ∀ S' k' r' p', upY S S' → S'.2.2 7 = S.2.2 7 → rsp (L ^ n) S' k' r' p' → stl (L ^ n) k r h k' r' p' → Q S') : wp_X8_spansMore S (nI n) Q := by
  have hcf := hm.1
  have hd := cf_d hcf
  have hL := cf_L hcf
  have hpn := cf_pow hcf (n := n) hn
  have hk98 : k ≤ 98 := Nat.le_trans (ech_chf (by omega) (by omega) h1 hn hkr he hrl) (ln_98 hcf h1 hn)
  have hp : ∀ S', upY S S' → S'.2.1 0 (nI n).toNatClampNeg = nI (L ^ n) := fun S' hu => mt_p (mt_Y hm hu) (by omega)
  have h8 : vp_in (nI n) 8 := vp_in_nI (by omega) (by decide)
  refine pk_loop (σ := ms_T) (fun f i s => wp_X8_spansMore_2 Q f s (nI n) (nI i)) (fun i s => upY S s ∧ s.2.2 7 = S.2.2 7 ∧ s.2.2 6 = S.2.2 6 ∧ s.1 6 = S.1 6 ∧ s.2.1 10 = S.2.1 10 ∧ prd (L ^ n) s (rdE r p h i)) k 0 S (Nat.zero_le _) ⟨upY_rf, rfl, rfl, rfl, rfl, hh⟩ ?_ ?_
  · rintro f s ⟨hu, h7, h6, hF, hI, hpr⟩
    refine ⟨fun _ => ?_, fun z => absurd (by rw [hF, hr.1]; exact nI_le (Nat.le_refl _) (by omega)) z⟩
    refine pk_loop (σ := Unit) (fun f v _ => wp_X8_spansMore_93 Q f s (nI n) (nI v)) (fun v _ => ∀ w, w < v → rdE r p h k w = 0) (L ^ n) 0 () (Nat.zero_le _) (fun w hw => absurd hw (Nat.not_lt_zero w)) ?_ ?_
    · intro f2 _ hz
      refine ⟨h8, ?_⟩
      rw [hp s hu]
      refine ⟨fun _ => ⟨h8, ?_⟩, fun z => absurd (nI_le (Nat.le_refl _) (by omega)) z⟩
      rw [hp s hu]
      refine ⟨fun z => absurd rfl z, fun _ => hq s k r p hu h7 ⟨by rw [hF]; exact hr.1, fun i hi => by rw [hI, h6]; exact hr.2 i hi⟩ (stl_dep he hz)⟩
    · intro f2 v _ hv hz hk2
      have e2 := hpr v hv
      refine ⟨h8, ?_⟩
      rw [hp s hu]
      refine ⟨fun z => absurd z (nI_ge hv (by omega)), fun _ => ⟨vp_in_nI (by omega) (by decide), ?_⟩⟩
      rw [nI_clamp (by omega), e2, kL_z]
      refine ⟨fun hne => ⟨h8, ?_⟩, fun hz0 => ?_⟩
      · rw [hp s hu]
        refine ⟨fun _ => ⟨vp_in_nI (by omega) (by decide), ?_⟩, fun z => absurd ((nI_eq (by omega) (by omega)).mp z) (by omega)⟩
        rw [nI_clamp (by omega), e2]
        refine km_inv ?_
        have hst := stl_ins he hv hz hne
        have hk1 : k + 1 ≤ 98 := Nat.le_trans (ech_chf (by omega) (by omega) h1 hn hkr hst.1 (fun i hi => hst.2.2.2.2 _ lieD_clo hhl hrl i hi)) (ln_98 hcf h1 hn)
        refine pk_loop (σ := ms_T) (fun f w s2 => wp_X8_spansMore_144 Q f s2 (nI n) (nI v) (kL (kv (rdE r p h k v))) (nI w)) (fun w s2 => upY s s2 ∧ s2.2.2 7 = s.2.2 7 ∧ s2.2.2 2 = s.2.2 2 ∧ s2.1 6 = s.1 6 ∧ s2.2.1 10 = s.2.1 10 ∧ (∀ j, (j < 256 * k ∨ 256 * k + 256 ≤ j) → s2.2.2 6 j = s.2.2 6 j) ∧ ∀ u, u < w → s2.2.2 6 (256 * k + u) = kL (rdE r p h k u * kv (rdE r p h k v))) (L ^ n) 0 s (Nat.zero_le _) ⟨upY_rf, rfl, rfl, rfl, rfl, fun _ _ => rfl, fun u hu' => absurd hu' (Nat.not_lt_zero u)⟩ ?_ ?_
        · rintro f3 s2 ⟨hu2, g7, g2, gF, gI, gout, gI6⟩
          refine ⟨h8, ?_⟩
          rw [hp s2 (upY_tr hu hu2)]
          refine ⟨fun _ => ?_, fun z => absurd (nI_le (Nat.le_refl _) (by omega)) z⟩
          have eF : s2.1 6 = nI k := by rw [gF, hF]; exact hr.1
          rw [eF]
          refine ⟨vp_in_nI (by omega) (by decide), ?_⟩
          rw [nI_clamp (by omega)]
          have eF2 : (ms_sI s2 10 k (nI v)).1 6 = nI k := by rw [sI_F]; exact eF
          rw [eF2, nI_1]
          refine hq _ (k + 1) _ _ (upY_tr hu (upY_tr hu2 (upY_tr upY_I upY_F))) ?_ ⟨?_, fun i hi => ?_⟩ hst
          · rw [sF_J, sI_J, g7, h7]
          · rw [sF_F, if_pos rfl]
          · rw [sF_I, sF_J, sI_J, sI_g, if_pos rfl]
            by_cases e : i = k
            · subst e
              rw [if_pos rfl, va_up_self, va_up_self]
              exact ⟨rfl, fun w hw => gI6 w hw⟩
            · rw [if_neg e, va_up_ne _ _ e, va_up_ne _ _ e, gI, hI]
              have hold := hr.2 i (by omega)
              refine ⟨hold.1, fun w hw => ?_⟩
              rw [gout _ (Or.inl (by omega)), h6]
              exact hold.2 w hw
        · rintro f3 w s2 hw ⟨hu2, g7, g2, gF, gI, gout, gI6⟩ hk3
          have eF : s2.1 6 = nI k := by rw [gF, hF]; exact hr.1
          refine ⟨h8, ?_⟩
          rw [hp s2 (upY_tr hu hu2)]
          refine ⟨fun z => absurd z (nI_ge hw (by omega)), fun _ => ⟨vp_in_nI (by omega) (by decide), ?_⟩⟩
          rw [eF, ix6]
          refine ⟨vp_in_nI (by omega) (by decide), ?_⟩
          rw [nI_clamp (by omega), nI_clamp (by omega), g2, hpr w hw, kl_mul]
          rintro _ rfl
          rw [nI_1]
          refine hk3 _ ⟨upY_tr hu2 (upY_J (by omega)), by rw [sJ_r (by decide)]; exact g7, by rw [sJ_r (by decide)]; exact g2, gF, gI, fun j hj => ?_, fun u hu' => ?_⟩
          · rw [sJ_g, if_pos rfl, if_neg (by omega)]
            exact gout j hj
          · rw [sJ_g, if_pos rfl]
            by_cases e : u = w
            · rw [e, if_pos rfl]
            · rw [if_neg (by omega)]
              exact gI6 u (by omega)
      · rintro _ rfl
        rw [nI_1]
        refine hk2 () (fun w hw => ?_)
        by_cases e : w = v
        · rw [e]; exact hz0
        · exact hz w (by omega)
  · rintro f i s hi ⟨hu, h7, h6, hF, hI, hpr⟩ hk
    have hrow := hr.2 i hi
    have hpi := he.1 i hi
    refine ⟨fun z => absurd z (by rw [hF, hr.1]; exact nI_ge hi (by omega)), fun _ => ⟨vp_in_nI (by omega) (by decide), ?_⟩⟩
    rw [nI_clamp (by omega), hI, hrow.1]
    refine ⟨vp_in_nI (by omega) (by decide), ?_⟩
    rw [nI_clamp (by omega), hpr _ hpi.1]
    rintro _ rfl
    have fin : ∀ s2, upY S s2 → s2.2.2 7 = S.2.2 7 → s2.2.2 6 = S.2.2 6 → s2.1 6 = S.1 6 → s2.2.1 10 = S.2.1 10 → prd (L ^ n) s2 (rdE r p h (i + 1)) → wp_X8_spansMore_85 (wp_X8_spansMore_2 Q f) Q s2 (nI n) (nI i) := by
      intro s2 a1 a2 a3 a4 a5 a6
      rintro _ rfl
      rw [nI_1]
      exact hk s2 ⟨a1, a2, a3, a4, a5, a6⟩
    by_cases hz : rdE r p h i (p i) = 0
    · have hfin := fin s hu h7 h6 hF hI (fun w hw => by
        show _ = kL (rdE r p h i w + r i w * (0 - rdE r p h i (p i)))
        rw [hz, ks_n, kn_0, ka_0, km_0', ka_0]
        exact hpr w hw)
      exact ⟨1, h8, fun _ => hfin, fun _ => ⟨fun _ => hfin, fun z => absurd (kL_z.mpr hz) z⟩⟩
    · refine pk_loop (σ := ms_T) (fun f2 w s2 => wp_X8_spansMore_25 (wp_X8_spansMore_2 Q f) Q f2 s2 (nI n) (nI i) (kL (rdE r p h i (p i))) (nI w)) (fun w s2 => upY S s2 ∧ s2.2.2 7 = S.2.2 7 ∧ s2.2.2 6 = S.2.2 6 ∧ s2.1 6 = S.1 6 ∧ s2.2.1 10 = S.2.1 10 ∧ ∀ u, u < L ^ n → s2.2.2 2 u = kL (if u < w then rdE r p h (i + 1) u else rdE r p h i u)) (L ^ n) 0 s (Nat.zero_le _) ⟨hu, h7, h6, hF, hI, fun u hu' => by rw [if_neg (Nat.not_lt_zero u)]; exact hpr u hu'⟩ ?_ ?_
      · rintro f2 s2 ⟨a1, a2, a3, a4, a5, a6⟩
        refine ⟨h8, ?_⟩
        rw [hp s2 a1]
        exact ⟨fun _ => fin s2 a1 a2 a3 a4 a5 (fun w hw => by rw [a6 w hw, if_pos hw]), fun z => absurd (nI_le (Nat.le_refl _) (by omega)) z⟩
      · rintro f2 w s2 hw ⟨a1, a2, a3, a4, a5, a6⟩ hk2
        refine ⟨h8, ?_⟩
        rw [hp s2 a1]
        refine ⟨fun z => absurd z (nI_ge hw (by omega)), fun _ => ⟨fun z => absurd (kL_z.mp z) hz, fun _ => ⟨vp_in_nI (by omega) (by decide), ?_⟩⟩⟩
        rw [ix6]
        refine ⟨vp_in_nI (by omega) (by decide), ?_⟩
        rw [nI_clamp (show w < 2 ^ 31 by omega), nI_clamp (show 256 * i + w < 2 ^ 31 by omega), a6 w hw, if_neg (Nat.lt_irrefl w), a3, hrow.2 w hw, kl_mul]
        refine km_mod ⟨vp_in_nI (by omega) (by decide), ?_⟩
        rintro _ rfl
        rw [nI_1]
        refine hk2 _ ⟨upY_tr a1 (upY_J (by omega)), by rw [sJ_r (by decide)]; exact a2, by rw [sJ_r (by decide)]; exact a3, a4, a5, fun u hu' => ?_⟩
        rw [sJ_g, if_pos rfl, if_lt_succ]
        by_cases e : u = w
        · subst e
          rw [if_pos rfl, if_pos rfl]
          show _ = kL (rdE r p h i u + r i u * (0 - rdE r p h i (p i)))
          rw [ks_n, ks_n, ka_0', kn_m', km_c]
        · rw [if_neg e, if_neg e]
          exact a6 u hu'
end SZ
