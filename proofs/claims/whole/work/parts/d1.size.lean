/-! the reference's size: what it spans is what the laws bring about -/
section SY
variable {L d : Nat}
def nbX (L m x : Nat) (u : Nat → Kf) : Nat → Kf := fun w => (if w % L = x then u (w / L) else 0) - (if w / L ^ m = x then u (w % L ^ m) else 0)
theorem nbX_br {m x : Nat} {u : Nat → Kf} (w : Nat) : nbX L m x u w = ksum 1 (fun _ => kN 2147483646 * brX L m x u w) := by
  show _ = 0 + kN 2147483646 * brX L m x u w
  unfold nbX brX
  rw [ka_0', k_m1, kn_m, km_1', kn_m', km_1, kn_a, kn_n, ks_n, ka_c]
theorem br_nbX {m x : Nat} {u : Nat → Kf} (w : Nat) : brX L m x u w = ksum 1 (fun _ => kN 2147483646 * nbX L m x u w) := by
  show _ = 0 + kN 2147483646 * nbX L m x u w
  unfold nbX brX
  rw [ka_0', k_m1, kn_m, km_1', kn_m', km_1, ks_n, kn_a, kn_n, ka_c]
/-- a stage of size: the rows of length m span all of that length -/
def SPN (L K : Nat) (ns : Nat → Nat) (vs : Nat → Nat → Kf) (m k : Nat) (r : Nat → Nat → Kf) (p : Nat → Nat) : Prop := ech (L ^ m) k r p ∧ (∀ i, i < k → gnV L K ns vs m (r i)) ∧ ∀ v, gnV L K ns vs m v → spn (L ^ m) k r v
theorem sm_size {S : ms_T} {K : Nat} {ns : Nat → Nat} {vs : Nat → Nat → Nat} {a : Int32} {Q : Int32 → ms_T → Prop} (h : ck_ok L d S) (hl : lwp L d S K ns vs) (hkr : KR L d) (hlw : ∀ k, k < K → 1 ≤ ns k ∧ lieD L (ns k) (fun w => kN (vs k w))) (hno : ¬ (1 ≤ a.toInt ∧ a.toInt ≤ d) → Q (-1) S)
    (hq : ∀ n k r p S', 1 ≤ n → n ≤ d → a = nI n → upY S S' → SPN L K ns (fun k w => kN (vs k w)) n k r p → k ≤ lnN L d n → Q (nI (lnN L d n - k)) S') : wp_X8_size S a Q := by
  have hm := h.1
  have hcf := hm.1
  have hd := cf_d hcf
  have hL := cf_L hcf
  have e1 : S.1 1 = nI d := hm.2.2.1
  have hlie : ∀ n v, 1 ≤ n → n ≤ d → gnV L K ns (fun k w => kN (vs k w)) n v → lieD L n v := fun n v n1 n2 hv => gn_lie (by omega) (by omega) hkr hlw n1 n2 hv
  unfold wp_X8_size
  rw [e1]
  refine sp_inI (fun q1 q2 => ⟨fun _ => ?_, fun z => absurd z (by decide)⟩) (fun z => ⟨fun q => absurd rfl q, fun _ => hno (fun q => z ⟨?_, ?_⟩)⟩)
  · rw [nI_l (by omega), pk_lT (by omega)] at q2
    have q1' : 1 ≤ a.toInt := q1
    obtain ⟨n, hn1, hnd, rfl⟩ : ∃ n, 1 ≤ n ∧ n ≤ d ∧ a = nI n := by
      refine ⟨a.toInt.toNat, by omega, by omega, ?_⟩
      apply Int32.toInt_inj.mp
      rw [nI_toInt (by omega)]
      omega
    clear q1 q2 q1'
    refine pk_loop (σ := ms_T) (fun f m s => wp_X8_size_23 Q f s (nI n) (nI m)) (fun m s => 1 ≤ m ∧ upY S s ∧ ∃ k r p, rsp (L ^ (m - 1)) s k r p ∧ k ≤ 98 ∧ (m = 1 → k = 0) ∧ SPN L K ns (fun k w => kN (vs k w)) (m - 1) k r p) (n + 1) 1 (ms_sF S 6 0) (by omega) ⟨Nat.le_refl _, upY_F, 0, fun _ _ => 0, fun _ => 0, ⟨by rw [sF_F, if_pos rfl]; rfl, fun i hi => absurd hi (Nat.not_lt_zero i)⟩, by omega, fun _ => rfl, ⟨fun i hi => absurd hi (Nat.not_lt_zero i), fun i j _ hj => absurd hj (Nat.not_lt_zero j)⟩, fun i hi => absurd hi (Nat.not_lt_zero i), fun v hv => ⟨fun _ => 0, fun w hw => ?_⟩⟩ ?_ ?_
    · have hw0 : w = 0 := by
        have : L ^ (1 - 1) = 1 := Nat.pow_zero L
        omega
      rw [hw0]
      exact hv
    · rintro f s ⟨_, hu, k, r, p, hr, hk98, _, hsp⟩
      rw [Nat.add_sub_cancel] at hr hsp
      refine ⟨fun _ => ?_, fun z => absurd (nI_lt (by omega) (by omega)) z⟩
      refine sp_manyOf (ck_Y h hu) hnd ?_
      have hkl := ech_chf (by omega) (by omega) hn1 hnd hkr hsp.1 (fun i hi => hlie n _ hn1 hnd (hsp.2.1 i hi))
      rw [hr.1, cntn_of hn1 hnd, pk_sub hkl]
      exact hq n k r p s hn1 hnd rfl hu hsp hkl
    · rintro f m s hmn ⟨hm1, hu, k, r, p, hr, hk98, hk0, hsp⟩ hk
      have hmd : m ≤ d := by omega
      have hpm := cf_pow hcf (n := m) hmd
      have hpm1 := cf_pow hcf (n := m - 1) (by omega)
      have h8 : vp_in (nI m) 8 := vp_in_nI (by omega) (by decide)
      have hp : ∀ S', upY S S' → S'.2.1 0 (nI m).toNatClampNeg = nI (L ^ m) := fun S' hu => mt_p (mt_Y hm hu) (by omega)
      have hp1 : ∀ S', upY S S' → S'.2.1 0 (nI (m - 1)).toNatClampNeg = nI (L ^ (m - 1)) := fun S' hu => mt_p (mt_Y hm hu) (by omega)
      have h81 : vp_in (nI (m - 1)) 8 := vp_in_nI (by omega) (by decide)
      refine ⟨fun z => absurd z (nI_nlt (by omega) (by omega)), fun _ => ?_⟩
      rw [hr.1]
      rintro _ rfl
      -- the rows are kept aside
      refine pk_loop (σ := ms_T) (fun f2 j s2 => wp_X8_size_36 (wp_X8_size_23 Q f) Q f2 s2 (nI n) (nI m) (nI k) (nI j)) (fun j s2 => upY S s2 ∧ s2.2.2 6 = s.2.2 6 ∧ ∀ i, i < j → s2.2.2 7 i = s.2.2 6 i) (256 * k) 0 s (Nat.zero_le _) ⟨hu, rfl, fun i hi => absurd hi (Nat.not_lt_zero i)⟩ ?_ ?_
      · rintro f2 s2 ⟨hu2, h26, h27⟩
        have e256 : (256 : Int32) * nI k = nI (256 * k) := by rw [show (256 : Int32) = nI 256 from rfl, pk_mul]
        unfold wp_X8_size_36 wb_X8_size_36
        rw [e256]
        refine ⟨fun _ => ?_, fun z => absurd (nI_le (Nat.le_refl _) (by omega)) z⟩
        have hold : ∀ i w, i < k → w < L ^ (m - 1) → (ms_sF s2 6 0).2.2 7 (256 * i + w) = kL (r i w) := fun i w hi hw => by
          rw [sF_J, h27 _ (by omega)]
          exact (hr.2 i hi).2 w hw
        have hu3 : upY S (ms_sF s2 6 0) := upY_tr hu2 upY_F
        have hrs0 : rsp (L ^ m) (ms_sF s2 6 0) 0 (fun _ _ => 0) (fun _ => 0) := ⟨by rw [sF_F, if_pos rfl]; rfl, fun i hi => absurd hi (Nat.not_lt_zero i)⟩
        generalize ms_sF s2 6 0 = s3 at hold hu3 hrs0
        -- brackets with letters
        refine pk_loop (σ := ms_T) (fun f3 i s => wp_X8_size_74 (wp_X8_size_23 Q f) Q f3 s (nI n) (nI m) (nI k) (nI i)) (fun i s => upY S s ∧ (∀ i w, i < k → w < L ^ (m - 1) → s.2.2 7 (256 * i + w) = kL (r i w)) ∧ ∃ k' r' p', rsp (L ^ m) s k' r' p' ∧ ech (L ^ m) k' r' p' ∧ (∀ i, i < k' → gnV L K ns (fun k w => kN (vs k w)) m (r' i)) ∧ ∀ j x, j < i → x < L → spn (L ^ m) k' r' (brX L (m - 1) x (r j))) k 0 s3 (Nat.zero_le _) ⟨hu3, hold, 0, fun _ _ => 0, fun _ => 0, hrs0, ⟨fun i hi => absurd hi (Nat.not_lt_zero i), fun i j _ hj => absurd hj (Nat.not_lt_zero j)⟩, fun i hi => absurd hi (Nat.not_lt_zero i), fun j x hj => absurd hj (Nat.not_lt_zero j)⟩ ?_ ?_
        · rintro f3 s4 ⟨hu4, hold4, k4, r4, p4, hr4, he4, hg4, hb4⟩
          refine ⟨fun _ => ?_, fun z => absurd (nI_le (Nat.le_refl _) (by omega)) z⟩
          -- laws of this length
          refine pk_loop (σ := ms_T) (fun f4 i s => wp_X8_size_229 (wp_X8_size_23 Q f) Q f4 s (nI n) (nI m) (nI i)) (fun i s => upY S s ∧ ∃ k' r' p', rsp (L ^ m) s k' r' p' ∧ ech (L ^ m) k' r' p' ∧ (∀ i, i < k' → gnV L K ns (fun k w => kN (vs k w)) m (r' i)) ∧ (∀ j x, j < k → x < L → spn (L ^ m) k' r' (brX L (m - 1) x (r j))) ∧ ∀ j, j < i → ns j = m → spn (L ^ m) k' r' (fun w => kN (vs j w))) K 0 s4 (Nat.zero_le _) ⟨hu4, k4, r4, p4, hr4, he4, hg4, hb4, fun j hj => absurd hj (Nat.not_lt_zero j)⟩ ?_ ?_
          · rintro f4 s5 ⟨hu5, k5, r5, p5, hr5, he5, hg5, hb5, hlw5⟩
            refine ⟨fun _ => ?_, fun z => absurd (by rw [hu5.1 5 (by decide), hl.1]; have := hl.2.1; exact nI_le (Nat.le_refl _) (by omega)) z⟩
            rintro _ rfl
            rw [nI_1]
            have hk5 := ech_chf (by omega) (by omega) hm1 hmd hkr he5 (fun i hi => hlie m _ hm1 hmd (hg5 i hi))
            refine hk s5 ⟨by omega, hu5, k5, r5, p5, ?_, Nat.le_trans hk5 (ln_98 hcf hm1 hmd), fun z => by omega, ?_⟩
            · rw [Nat.add_sub_cancel]; exact hr5
            · rw [Nat.add_sub_cancel]
              refine ⟨he5, hg5, fun v hv => ?_⟩
              obtain ⟨m', rfl⟩ : ∃ m', m = m' + 1 := ⟨m - 1, by omega⟩
              obtain ⟨u, c, hu', hvw⟩ := hv
              rw [Nat.add_sub_cancel] at hsp hb5
              have hbr : ∀ x, x < L → spn (L ^ (m' + 1)) k5 r5 (brX L m' x (u x)) := fun x hx => by
                obtain ⟨a, ha⟩ := hsp.2.2 (u x) (hu' x hx)
                refine spn_c (spn_sum (c := a) (u := fun i => brX L m' x (r i)) (N := k) (fun i hi => hb5 i x hi hx)) (fun w hw => ?_)
                rw [← brX_lin]
                exact brX_c (by omega) (fun z hz => (ha z hz).symm) hw
              have s1 := spn_sum (M := L ^ (m' + 1)) (k := k5) (r := r5) (N := L) (c := fun _ => 1) (u := fun x => brX L m' x (u x)) hbr
              have s2 := spn_sum (M := L ^ (m' + 1)) (k := k5) (r := r5) (N := K) (c := fun k => if ns k = m' + 1 then c k else 0) (u := fun k => if ns k = m' + 1 then (fun w => kN (vs k w)) else fun _ => 0) (fun j hj => by
                by_cases e : ns j = m' + 1
                · rw [if_pos e]; exact hlw5 j hj e
                · rw [if_neg e]; exact ⟨fun _ => 0, fun w _ => (ksum_z (fun i _ => km_0 _)).symm⟩)
              refine spn_c (spn_add s1 s2) (fun w hw => ?_)
              rw [hvw w hw]
              refine congr (congrArg _ (ksum_c (fun x _ => km_1' _))) (ksum_c (fun k _ => ?_))
              by_cases e : ns k = m' + 1
              · rw [if_pos e, if_pos e, if_pos e]
              · rw [if_neg e, if_neg e, if_neg e, km_0]
          · rintro f4 i s5 hi ⟨hu5, k5, r5, p5, hr5, he5, hg5, hb5, hlw5⟩ hk4
            have hlw := hl.2.2 i hi
            have h4 := hl.2.1
            refine ⟨fun z => absurd z (by rw [hu5.1 5 (by decide), hl.1]; exact nI_ge hi (by omega)), fun _ => ⟨vp_in_nI (by omega) (by decide), ?_⟩⟩
            rw [nI_clamp (by omega), hu5.2.1 9 (by decide), hlw.1, nI_eq (by omega) (by omega)]
            refine ⟨fun hne => ?_, fun heq => ?_⟩
            · rintro _ rfl
              rw [nI_1]
              refine hk4 s5 ⟨hu5, k5, r5, p5, hr5, he5, hg5, hb5, fun j hj he => ?_⟩
              by_cases e : j = i
              · rw [e] at he; exact absurd he hne
              · exact hlw5 j (by omega) he
            · refine pk_loop (σ := ms_T) (fun f5 w s => wp_X8_size_252 (wp_X8_size_23 Q f) (wp_X8_size_229 (wp_X8_size_23 Q f) Q f4) Q f5 s (nI n) (nI m) (nI i) (nI w)) (fun w s => upY S s ∧ rsp (L ^ m) s k5 r5 p5 ∧ ∀ u, u < w → s.2.2 2 u = kL (kN (vs i u))) (L ^ m) 0 s5 (Nat.zero_le _) ⟨hu5, hr5, fun u hu' => absurd hu' (Nat.not_lt_zero u)⟩ ?_ ?_
              · rintro f5 s6 ⟨hu6, hr6, hp6⟩
                refine ⟨h8, ?_⟩
                rw [hp s6 hu6]
                refine ⟨fun _ => ?_, fun z => absurd (nI_le (Nat.le_refl _) (by omega)) z⟩
                have hgl : gnV L K ns (fun k w => kN (vs k w)) m (fun w => kN (vs i w)) := by
                  obtain ⟨m', rfl⟩ : ∃ m', m = m' + 1 := ⟨m - 1, by omega⟩
                  exact gn_law (vs := fun k w => kN (vs k w)) (by omega) hi heq
                refine sm_spans (mt_Y hm hu6) hkr hm1 hmd hr6 he5 (fun i hi => hlie m _ hm1 hmd (hg5 i hi)) (hlie m _ hm1 hmd hgl) hp6 (fun s7 k7 r7 p7 hu7 _ hr7 hst => ?_)
                rintro _ rfl
                rw [nI_1]
                obtain ⟨t1, t2, t3, t4, t5⟩ := hst
                have up7 : ∀ v, spn (L ^ m) k5 r5 v → spn (L ^ m) k7 r7 v := fun v hv => spn_up hv t2 (fun i hi w _ => by rw [t3 i hi])
                refine hk4 s7 ⟨upY_tr hu6 hu7, k7, r7, p7, hr7, t1, t5 _ (gn_clo (by omega)) hgl hg5, fun j x q1 q2 => up7 _ (hb5 j x q1 q2), fun j hj he => ?_⟩
                by_cases e : j = i
                · rw [e]; exact t4
                · exact up7 _ (hlw5 j (by omega) he)
              · rintro f5 w s6 hw ⟨hu6, hr6, hp6⟩ hk5
                have hlv := hlw.2.2 w (by rw [heq]; exact hw)
                refine ⟨h8, ?_⟩
                rw [hp s6 hu6]
                refine ⟨fun z => absurd z (nI_ge hw (by omega)), fun _ => ?_⟩
                rw [ix6]
                refine ⟨vp_in_nI (by omega) (by decide), vp_in_nI (by omega) (by decide), ?_⟩
                rintro _ rfl
                rw [nI_1, nI_clamp (show w < 2 ^ 31 by omega), nI_clamp (show 256 * i + w < 2 ^ 31 by omega), hu6.2.2 5 (by decide) (by decide) (by decide), hlv.1, ← kL_N hlv.2]
                refine hk5 _ ⟨upY_tr hu6 (upY_J (by omega)), ⟨hr6.1, fun i hi => by rw [sJ_r (by decide)]; exact hr6.2 i hi⟩, fun u hu' => ?_⟩
                rw [sJ_g, if_pos rfl]
                by_cases e : u = w
                · rw [e, if_pos rfl]
                · rw [if_neg e]; exact hp6 u (by omega)
        · rintro f3 i s4 hi ⟨hu4, hold4, k4, r4, p4, hr4, he4, hg4, hb4⟩ hk3
          have hm2 : 2 ≤ m := by
            by_cases e : m = 1
            · have := hk0 e
              omega
            · omega
          refine ⟨fun z => absurd z (nI_ge hi (by omega)), fun _ => ?_⟩
          refine pk_loop (σ := ms_T) (fun f4 x s => wp_X8_size_83 (wp_X8_size_23 Q f) (wp_X8_size_74 (wp_X8_size_23 Q f) Q f3) Q f4 s (nI n) (nI m) (nI k) (nI i) (nI x)) (fun x s => upY S s ∧ (∀ i w, i < k → w < L ^ (m - 1) → s.2.2 7 (256 * i + w) = kL (r i w)) ∧ ∃ k' r' p', rsp (L ^ m) s k' r' p' ∧ ech (L ^ m) k' r' p' ∧ (∀ i, i < k' → gnV L K ns (fun k w => kN (vs k w)) m (r' i)) ∧ (∀ j x, j < i → x < L → spn (L ^ m) k' r' (brX L (m - 1) x (r j))) ∧ ∀ y, y < x → spn (L ^ m) k' r' (brX L (m - 1) y (r i))) L 0 s4 (Nat.zero_le _) ⟨hu4, hold4, k4, r4, p4, hr4, he4, hg4, hb4, fun y hy => absurd hy (Nat.not_lt_zero y)⟩ ?_ ?_
          · rintro f4 s5 ⟨hu5, hold5, k5, r5, p5, hr5, he5, hg5, hb5, hy5⟩
            refine ⟨fun _ => ?_, fun z => absurd (by rw [(mt_Y hm hu5).2.1]; exact nI_le (Nat.le_refl _) (by omega)) z⟩
            rintro _ rfl
            rw [nI_1]
            refine hk3 s5 ⟨hu5, hold5, k5, r5, p5, hr5, he5, hg5, fun j x q1 q2 => ?_⟩
            by_cases e : j = i
            · rw [e]; exact hy5 x q2
            · exact hb5 j x (by omega) q2
          · rintro f4 x s5 hx ⟨hu5, hold5, k5, r5, p5, hr5, he5, hg5, hb5, hy5⟩ hk4
            refine ⟨fun z => absurd z (by rw [(mt_Y hm hu5).2.1]; exact nI_ge hx (by omega)), fun _ => ?_⟩
            have em : m = m - 1 + 1 := by omega
            refine pk_loop (σ := ms_T) (fun f5 w s => wp_X8_size_95 (wp_X8_size_23 Q f) (wp_X8_size_74 (wp_X8_size_23 Q f) Q f3) (wp_X8_size_83 (wp_X8_size_23 Q f) (wp_X8_size_74 (wp_X8_size_23 Q f) Q f3) Q f4) Q f5 s (nI n) (nI m) (nI k) (nI i) (nI x) (nI w)) (fun w s => upY S s ∧ (∀ i w, i < k → w < L ^ (m - 1) → s.2.2 7 (256 * i + w) = kL (r i w)) ∧ rsp (L ^ m) s k5 r5 p5 ∧ ∀ u, u < w → s.2.2 2 u = kL (nbX L (m - 1) x (r i) u)) (L ^ m) 0 s5 (Nat.zero_le _) ⟨hu5, hold5, hr5, fun u hu' => absurd hu' (Nat.not_lt_zero u)⟩ ?_ ?_
            · rintro f5 s6 ⟨hu6, hold6, hr6, hp6⟩
              refine ⟨h8, ?_⟩
              rw [hp s6 hu6]
              refine ⟨fun _ => ?_, fun z => absurd (nI_le (Nat.le_refl _) (by omega)) z⟩
              have hgb : gnV L K ns (fun k w => kN (vs k w)) m (nbX L (m - 1) x (r i)) := by
                have g1 := gn_br (L := L) (x := x) (by omega) hx (hsp.2.1 i hi)
                rw [← em] at g1
                exact gn_c (gn_sum (by omega) (N := 1) (c := fun _ => kN 2147483646) (r := fun _ => brX L (m - 1) x (r i)) (fun _ _ => g1)) (fun w _ => (nbX_br w).symm)
              refine sm_spans (mt_Y hm hu6) hkr hm1 hmd hr6 he5 (fun i hi => hlie m _ hm1 hmd (hg5 i hi)) (hlie m _ hm1 hmd hgb) hp6 (fun s7 k7 r7 p7 hu7 h77 hr7 hst => ?_)
              rintro _ rfl
              rw [nI_1]
              obtain ⟨t1, t2, t3, t4, t5⟩ := hst
              have up7 : ∀ v, spn (L ^ m) k5 r5 v → spn (L ^ m) k7 r7 v := fun v hv => spn_up hv t2 (fun i hi w _ => by rw [t3 i hi])
              refine hk4 s7 ⟨upY_tr hu6 hu7, fun i w a1 a2 => by rw [h77]; exact hold6 i w a1 a2, k7, r7, p7, hr7, t1, t5 _ (gn_clo (by omega)) hgb hg5, fun j x q1 q2 => up7 _ (hb5 j x q1 q2), fun y hy => ?_⟩
              by_cases e : y = x
              · rw [e]
                exact spn_c (spn_sum (N := 1) (c := fun _ => kN 2147483646) (u := fun _ => nbX L (m - 1) x (r i)) (fun _ _ => t4)) (fun w _ => (br_nbX w).symm)
              · exact up7 _ (hy5 y (by omega))
            · rintro f5 w s6 hw ⟨hu6, hold6, hr6, hp6⟩ hk5
              have hdl : w / L < L ^ (m - 1) := dv_lt (by omega) (by omega) hw
              have hml : w % L ^ (m - 1) < L ^ (m - 1) := Nat.mod_lt _ (by omega)
              have hmL : w % L < L := Nat.mod_lt _ (by omega)
              have hdm : w / L ^ (m - 1) ≤ w := Nat.div_le_self _ _
              have hdm0 := Nat.zero_le (w / L ^ (m - 1))
              have hml0 := Nat.zero_le (w % L ^ (m - 1))
              have eL : s6.1 0 = nI L := (mt_Y hm hu6).2.1
              have fin : ∀ A B : Kf, A - B = nbX L (m - 1) x (r i) w → wp_X8_size_186 (wp_X8_size_23 Q f) (wp_X8_size_74 (wp_X8_size_23 Q f) Q f3) (wp_X8_size_83 (wp_X8_size_23 Q f) (wp_X8_size_74 (wp_X8_size_23 Q f) Q f3) Q f4) (wp_X8_size_95 (wp_X8_size_23 Q f) (wp_X8_size_74 (wp_X8_size_23 Q f) Q f3) (wp_X8_size_83 (wp_X8_size_23 Q f) (wp_X8_size_74 (wp_X8_size_23 Q f) Q f3) Q f4) Q f5) Q s6 (nI n) (nI m) (nI k) (nI i) (nI x) (nI w) (kL A) (kL B) := by
                intro A B hAB
                refine km_mod ⟨vp_in_nI (by omega) (by decide), ?_⟩
                rintro _ rfl
                rw [nI_1, nI_clamp (by omega), hAB]
                refine hk5 _ ⟨upY_tr hu6 (upY_J (by omega)), fun i w a1 a2 => by rw [sJ_r (by decide)]; exact hold6 i w a1 a2, ⟨hr6.1, fun i hi => by rw [sJ_r (by decide)]; exact hr6.2 i hi⟩, fun u hu' => ?_⟩
                rw [sJ_g, if_pos rfl]
                by_cases e : u = w
                · rw [e, if_pos rfl]
                · rw [if_neg e]; exact hp6 u (by omega)
              have mid : ∀ A : Kf, A = (if w % L = x then r i (w / L) else 0) → wp_X8_size_141 (wp_X8_size_23 Q f) (wp_X8_size_74 (wp_X8_size_23 Q f) Q f3) (wp_X8_size_83 (wp_X8_size_23 Q f) (wp_X8_size_74 (wp_X8_size_23 Q f) Q f3) Q f4) (wp_X8_size_95 (wp_X8_size_23 Q f) (wp_X8_size_74 (wp_X8_size_23 Q f) Q f3) (wp_X8_size_83 (wp_X8_size_23 Q f) (wp_X8_size_74 (wp_X8_size_23 Q f) Q f3) Q f4) Q f5) Q s6 (nI n) (nI m) (nI k) (nI i) (nI x) (nI w) (kL A) := by
                intro A hA
                unfold wp_X8_size_141
                rw [show nI m - 1 = nI (m - 1) from pk_sub (b := 1) (by omega), hp1 s6 hu6, pk_div (by omega) (by omega) (by omega), ri_rem (by omega) (by omega) (by omega), ix6, nI_clamp (show 256 * i + w % L ^ (m - 1) < 2 ^ 31 by omega), hold6 i _ hi hml, nI_eq (by omega) (by omega)]
                refine ⟨h81, nI_ne (by omega) (by omega), fun hne => fin A 0 ?_, fun heq => ⟨h81, nI_ne (by omega) (by omega), vp_in_nI (by omega) (by decide), fin A _ ?_⟩⟩
                · unfold nbX
                  rw [hA, if_neg hne]
                · unfold nbX
                  rw [hA, if_pos heq]
              refine ⟨h8, ?_⟩
              rw [hp s6 hu6]
              refine ⟨fun z => absurd z (nI_ge hw (by omega)), fun _ => ?_⟩
              rw [eL, ri_rem (by omega) (by omega) (by omega), pk_div (by omega) (by omega) (by omega), ix6, nI_clamp (show 256 * i + w / L < 2 ^ 31 by omega), hold6 i _ hi hdl, nI_eq (by omega) (by omega)]
              refine ⟨nI_ne (by omega) (by omega), fun hne => mid 0 (by rw [if_neg hne]), fun heq => ⟨nI_ne (by omega) (by omega), vp_in_nI (by omega) (by decide), mid _ (by rw [if_pos heq])⟩⟩
      · rintro f2 j s2 hj ⟨hu2, h26, h27⟩ hk2
        have e256 : (256 : Int32) * nI k = nI (256 * k) := by rw [show (256 : Int32) = nI 256 from rfl, pk_mul]
        unfold wp_X8_size_36 wb_X8_size_36
        rw [e256]
        refine ⟨fun z => absurd z (nI_ge hj (by omega)), fun _ => ⟨vp_in_nI (by omega) (by decide), vp_in_nI (by omega) (by decide), ?_⟩⟩
        rintro _ rfl
        rw [nI_1, nI_clamp (by omega)]
        refine hk2 _ ⟨upY_tr hu2 (upY_J (by omega)), by rw [sJ_r (by decide)]; exact h26, fun i hi => ?_⟩
        rw [sJ_g, if_pos rfl]
        by_cases e : i = j
        · rw [e, if_pos rfl, h26]
        · rw [if_neg e]; exact h27 i (by omega)
  · exact q.1
  · rw [nI_l (by omega), pk_lT (by omega)]
    exact q.2
end SY
