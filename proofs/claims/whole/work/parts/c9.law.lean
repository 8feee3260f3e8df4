/-! a law more: what the class's rows span -/
section CY
variable {L d : Nat} {Ln : Nat → Nat}
def LAW (L d K : Nat) (ns : Nat → Nat) (vs : Nat → Nat → Kf) (rk : Nat → Nat) (rr : Nat → Nat → Nat → Kf) (pp : Nat → Nat → Nat) : Prop := ∀ n, 1 ≤ n → n ≤ d → ech (L ^ n) (rk n) (rr n) (pp n) ∧ (∀ i, i < rk n → gnV L K ns vs n (rr n i)) ∧ ∀ v, gnV L K ns vs n v → spn (L ^ n) (rk n) (rr n) v
theorem sA_s {S : cs_T} {k : Nat} {f : Nat → Int32} : (cs_sA S k f).2.1 k = f := by
  unfold cs_sA
  exact va_up_self _ _ _
theorem sF_s {S : cs_T} {k : Nat} {v : Int32} : (cs_sF S k v).1 k = v := by
  unfold cs_sF
  exact va_up_self _ _ _
theorem gn_clo {K n : Nat} {ns : Nat → Nat} {vs : Nat → Nat → Kf} (hL : 1 ≤ L) : clo (gnV L K ns vs n) := fun N c u h => gn_sum hL h
theorem spn_clo {M k : Nat} {r : Nat → Nat → Kf} : clo (spn M k r) := fun N c u h => spn_sum h
theorem spn_add {M k : Nat} {r : Nat → Nat → Kf} {u v : Nat → Kf} (hu : spn M k r u) (hv : spn M k r v) : spn M k r (fun w => u w + v w) := by
  obtain ⟨a, ha⟩ := hu
  obtain ⟨b, hb⟩ := hv
  refine ⟨fun i => a i + b i, fun w hw => ?_⟩
  show u w + v w = _
  rw [ha w hw, hb w hw, ← ksum_a]
  exact ksum_c (fun i _ => by rw [kd_r])
/-- a law of a greater length changes nothing here -/
theorem gn_lt {K l : Nat} {ns : Nat → Nat} {vs : Nat → Nat → Kf} {h : Nat → Kf} : ∀ {n : Nat} {v : Nat → Kf}, n < l → gnV L (K + 1) (va_up ns K l) (va_up vs K h) n v → gnV L K ns vs n v
  | 0, v, _, hv => hv
  | n + 1, v, hn, ⟨u, c, hu, hv⟩ => by
    refine ⟨u, c, fun x hx => gn_lt (by omega) (hu x hx), fun w hw => ?_⟩
    rw [hv w hw]
    refine congrArg (_ + ·) ?_
    show ksum K _ + (if va_up ns K l K = n + 1 then _ else 0) = _
    rw [va_up_self, if_neg (by omega), ka_0]
    exact ksum_c (fun k hk => by rw [va_up_ne _ _ (by omega), va_up_ne _ _ (by omega)])
/-- a stage of enacting -/
def Est (L d K : Nat) (ns : Nat → Nat) (vs : Nat → Nat → Kf) (rk0 : Nat → Nat) (rr0 : Nat → Nat → Nat → Kf) (n : Nat) (S : cs_T) (rk : Nat → Nat) (rr : Nat → Nat → Nat → Kf) (pp : Nat → Nat → Nat) : Prop := clw L d S rk rr pp ∧ (∀ m, 1 ≤ m → m ≤ d → S.2.1 41 m = nI (rk0 m) ∧ ech (L ^ m) (rk m) (rr m) (pp m) ∧ (∀ i, i < rk m → gnV L K ns vs m (rr m i)) ∧ rk0 m ≤ rk m ∧ ∀ i, i < rk0 m → rr m i = rr0 m i) ∧ ∀ m, 1 ≤ m → m < n → m ≤ d → ∀ v, gnV L K ns vs m v → spn (L ^ m) (rk m) (rr m) v
theorem cl_enact81 {S0 : cs_T} {g : Nat → Nat → Kf} {K l q many : Nat} {ns : Nat → Nat} {vs : Nat → Nat → Kf} {h : Nat → Kf} {rk0 : Nat → Nat} {rr0 : Nat → Nat → Nat → Kf} {Q : Int32 → cs_T → Prop} (hc : cv L d Ln S0 g) (hch : cch L d Ln S0) (hq2 : S0.2.2 = some q) (h4 : S0.1 4 = nI many) (hLn : lwL L d Ln) (hkr : KR L d) (hl1 : 1 ≤ l) (hmany : many ≤ 3)
    (hold : ∀ n, 1 ≤ n → n ≤ d → ∀ v, gnV L K ns vs n v → spn (L ^ n) (rk0 n) (rr0 n) v) (hold2 : ∀ n, 1 ≤ n → n ≤ d → ∀ i, i < rk0 n → gnV L K ns vs n (rr0 n i)) (hlw : ∀ k, k < K + 1 → 1 ≤ va_up ns K l k ∧ lieD L (va_up ns K l k) (va_up vs K h k))
    (hq : ∀ S' rk rr pp, upK kZ S0 S' → clw L d S' rk rr pp → LAW L d (K + 1) (va_up ns K l) (va_up vs K h) rk rr pp → Q (nI many) (cs_sF S' 4 (nI (many + 1)))) :
    ∀ k n S rk rr pp, n + k = d + 1 → l + 1 ≤ n → upK kZ S0 S → Est L d (K + 1) (va_up ns K l) (va_up vs K h) rk0 rr0 n S rk rr pp → wp_X2_enact_81 Ln Q (k + 1) S (nI n) := by
  intro k
  induction k with
  | zero =>
    intro n S rk rr pp hk hln hU hE
    have hd := cf_d hc.1.1
    refine ⟨fun _ => ?_, fun z => absurd (by rw [(cv_Z hc hU).1.2.2.1]; exact nI_lt (by omega) (by omega)) z⟩
    have := hq S rk rr pp hU hE.1 (fun m m1 m2 => ⟨(hE.2.1 m m1 m2).2.1, (hE.2.1 m m1 m2).2.2.1, hE.2.2 m m1 (by omega) m2⟩)
    rw [hU.1, h4, nI_1, sF_s, show nI (many + 1) - 1 = nI many from pk_sub (b := 1) (by omega)]
    exact this
  | succ k ih =>
    intro n S rk rr pp hk hln hU hE
    have hcf := hc.1.1
    have hd := cf_d hcf
    have hL := cf_L hcf
    obtain ⟨m, rfl⟩ : ∃ m, n = m + 1 := ⟨n - 1, by omega⟩
    have hm1 : 1 ≤ m := by omega
    have hEm := hE.2.1 m hm1 (by omega)
    have hrkm := (hE.1.2.1 m hm1 (by omega)).2
    have hln98 : ∀ m, 1 ≤ m → m ≤ d → lnN L d m ≤ 98 := fun m m1 m2 => by
      have hC := chC_98 hcf
      by_cases e : lnN L d m = 0
      · omega
      · have := pv_lt' (L := L) (d := d) (n := m) (i := lnN L d m - 1) m1 m2 (by omega)
        omega
    have hl98 := hln98 m hm1 (by omega)
    refine ⟨fun z => absurd z (by rw [(cv_Z hc hU).1.2.2.1]; exact nI_nlt (by omega) (by omega)), fun _ => ?_⟩
    rw [show nI (m + 1) - 1 = nI m from pk_sub (b := 1) (by omega), nI_clamp (by omega), hEm.1]
    refine ⟨by rw [hLn.2.1]; exact vp_in_nI (by omega) (by omega), ?_⟩
    rintro _ rfl
    -- the rows of length m + 1 as far as they are: i, x processed
    refine pk_loop (σ := cs_T) (fun k2 i s => wp_X2_enact_102 Ln (wp_X2_enact_81 Ln Q (k + 1)) Q k2 s (nI (m + 1)) (nI i)) (fun i s => rk0 m ≤ i ∧ upK kZ S0 s ∧ ∃ rk' rr' pp', Est L d (K + 1) (va_up ns K l) (va_up vs K h) rk0 rr0 (m + 1) s rk' rr' pp' ∧ rk' m = rk m ∧ rr' m = rr m ∧ ∀ j x, rk0 m ≤ j → j < i → x < L → spn (L ^ (m + 1)) (rk' (m + 1)) (rr' (m + 1)) (brX L m x (rr m j))) (rk m) (rk0 m) S hEm.2.2.2.1 ⟨Nat.le_refl _, hU, rk, rr, pp, hE, rfl, rfl, fun j x q1 q2 _ => by omega⟩ ?_ ?_
    · rintro k2 s ⟨_, hU2, rk2, rr2, pp2, hE2, e1, e2, hsp⟩
      refine ⟨by rw [show nI (m + 1) - 1 = nI m from pk_sub (b := 1) (by omega), hLn.1]; exact vp_in_nI (by omega) (by omega), ?_⟩
      rw [show nI (m + 1) - 1 = nI m from pk_sub (b := 1) (by omega), nI_clamp (by omega), (hE2.1.2.1 m hm1 (by omega)).1, e1]
      refine ⟨fun _ => ?_, fun z => absurd (nI_le (Nat.le_refl _) (by omega)) z⟩
      rintro _ rfl
      rw [nI_1]
      refine ih (m + 1 + 1) s rk2 rr2 pp2 (by omega) (by omega) hU2 ⟨hE2.1, hE2.2.1, fun m' m1 m2 m3 => ?_⟩
      by_cases em : m' = m + 1
      · subst em
        intro v hv
        obtain ⟨u, c, hu, hvw⟩ := hv
        have hEn := hE2.2.1 (m + 1) (by omega) (by omega)
        -- old ones
        have hup : ∀ v, gnV L K ns vs (m + 1) v → spn (L ^ (m + 1)) (rk2 (m + 1)) (rr2 (m + 1)) v := fun v hv => spn_up (hold (m + 1) (by omega) (by omega) v hv) hEn.2.2.2.1 (fun i hi w _ => by rw [hEn.2.2.2.2 i hi])
        have hbr : ∀ x, x < L → spn (L ^ (m + 1)) (rk2 (m + 1)) (rr2 (m + 1)) (brX L m x (u x)) := fun x hx => by
          have hsu := hE2.2.2 m hm1 (by omega) (by omega) (u x) (hu x hx)
          rw [e1, e2] at hsu
          obtain ⟨a, ha⟩ := hsu
          have hs := spn_sum (M := L ^ (m + 1)) (k := rk2 (m + 1)) (r := rr2 (m + 1)) (N := rk m) (c := a) (u := fun i => brX L m x (rr m i)) (fun i hi => by
            by_cases e : i < rk0 m
            · refine hup _ (gn_br (by omega) hx ?_)
              rw [hEm.2.2.2.2 i e]
              exact hold2 m hm1 (by omega) i e
            · exact hsp i x (by omega) hi hx)
          refine spn_c hs (fun w hw => ?_)
          rw [← brX_lin]
          exact brX_c (by omega) (fun z hz => (ha z hz).symm) hw
        have s1 := spn_sum (M := L ^ (m + 1)) (k := rk2 (m + 1)) (r := rr2 (m + 1)) (N := L) (c := fun _ => 1) (u := fun x => brX L m x (u x)) hbr
        have s2 : spn (L ^ (m + 1)) (rk2 (m + 1)) (rr2 (m + 1)) (fun w => ksum K (fun k => if ns k = m + 1 then c k * vs k w else 0)) := hup _ ⟨fun _ _ => 0, c, fun x hx => gn_0 (by omega) m, fun w hw => by
          rw [ksum_z (fun x _ => brX_0), ka_0']⟩
        refine spn_c (spn_add s1 s2) (fun w hw => ?_)
        rw [hvw w hw]
        refine congr (congrArg _ (ksum_c (fun x _ => km_1' _))) ?_
        show _ = ksum K _ + (if va_up ns K l K = m + 1 then _ else 0)
        rw [va_up_self, if_neg (by omega), ka_0]
        exact ksum_c (fun k hk => by rw [va_up_ne _ _ (by omega), va_up_ne _ _ (by omega)])
      · exact hE2.2.2 m' m1 (by omega) m3
    · rintro k2 i s hi ⟨hri, hU2, rk2, rr2, pp2, hE2, e1, e2, hsp⟩ hk2
      refine ⟨by rw [show nI (m + 1) - 1 = nI m from pk_sub (b := 1) (by omega), hLn.1]; exact vp_in_nI (by omega) (by omega), ?_⟩
      rw [show nI (m + 1) - 1 = nI m from pk_sub (b := 1) (by omega), nI_clamp (by omega), (hE2.1.2.1 m hm1 (by omega)).1, e1]
      refine ⟨fun z => absurd z (nI_ge hi (by omega)), fun _ => ?_⟩
      refine pk_loop (σ := cs_T) (fun k3 x s => wp_X2_enact_118 Ln (wp_X2_enact_81 Ln Q (k + 1)) (wp_X2_enact_102 Ln (wp_X2_enact_81 Ln Q (k + 1)) Q k2) Q k3 s (nI (m + 1)) (nI i) (nI x)) (fun x s => upK kZ S0 s ∧ ∃ rk' rr' pp', Est L d (K + 1) (va_up ns K l) (va_up vs K h) rk0 rr0 (m + 1) s rk' rr' pp' ∧ rk' m = rk m ∧ rr' m = rr m ∧ (∀ j x, rk0 m ≤ j → j < i → x < L → spn (L ^ (m + 1)) (rk' (m + 1)) (rr' (m + 1)) (brX L m x (rr m j))) ∧ ∀ y, y < x → spn (L ^ (m + 1)) (rk' (m + 1)) (rr' (m + 1)) (brX L m y (rr m i))) L 0 s (Nat.zero_le _) ⟨hU2, rk2, rr2, pp2, hE2, e1, e2, hsp, fun y hy => absurd hy (Nat.not_lt_zero y)⟩ ?_ ?_
      · rintro k3 s3 ⟨hU3, rk3, rr3, pp3, hE3, f1, f2, hsp3, hx3⟩
        refine ⟨fun _ => ?_, fun z => absurd (by rw [(cv_Z hc hU3).1.2.1]; exact nI_le (Nat.le_refl _) (by omega)) z⟩
        rintro _ rfl
        rw [nI_1]
        refine hk2 s3 ⟨by omega, hU3, rk3, rr3, pp3, hE3, f1, f2, fun j x q1 q2 q3 => ?_⟩
        by_cases e : j = i
        · rw [e]; exact hx3 x q3
        · exact hsp3 j x q1 (by omega) q3
      · rintro k3 x s3 hx ⟨hU3, rk3, rr3, pp3, hE3, f1, f2, hsp3, hx3⟩ hk3
        have hc3 := cv_Z hc hU3
        have hch3 := cch_Z hch hU3
        have hq4 : s3.2.2 = some q := by rw [hU3.2.1]; exact hq2
        have hEn := hE3.2.1 (m + 1) (by omega) (by omega)
        have hEm3 := hE3.2.1 m hm1 (by omega)
        refine ⟨fun z => absurd z (by rw [hc3.1.2.1]; exact nI_ge hx (by omega)), fun _ => ?_⟩
        refine cl_bracket hc3 hLn hE3.1 hq4 hm1 (by omega) (by rw [f1]; exact hi) hx (fun S4 hu4 hh4 => ?_)
        rw [f2] at hh4
        have hgn : gnV L (K + 1) (va_up ns K l) (va_up vs K h) m (rr m i) := by
          have := hEm3.2.2.1 i (by rw [f1]; exact hi)
          rwa [f2] at this
        have hgb := gn_br (L := L) (x := x) (by omega) hx hgn
        have hlie : ∀ v, gnV L (K + 1) (va_up ns K l) (va_up vs K h) (m + 1) v → lieD L (m + 1) v := fun v hv => gn_lie (by omega) (by omega) hkr hlw (by omega) (by omega) hv
        refine cl_settle (cv_Z hc3 (k45_Z hu4)) (cch_Z hch3 (k45_Z hu4)) hLn hkr (clw_45 hE3.1 hu4) (by rw [hu4.2.1]; exact hq4) (by omega) (by omega) hEn.2.1 (fun j hj => hlie _ (hEn.2.2.1 j hj)) (hlie _ hgb) hh4 (fun S5 rk5 rr5 pp5 hu5 h41 hl5 hoth hst => ?_)
        rintro _ rfl
        rw [nI_1]
        obtain ⟨t1, t2, t3, t4, t5⟩ := hst
        have up5 : ∀ v, spn (L ^ (m + 1)) (rk3 (m + 1)) (rr3 (m + 1)) v → spn (L ^ (m + 1)) (rk5 (m + 1)) (rr5 (m + 1)) v := fun v hv => spn_up hv t2 (fun i hi w _ => by rw [t3 i hi])
        have hum : upK kZ s3 S5 := upK_tr (k45_Z hu4) hu5
        refine hk3 S5 ⟨upK_tr hU3 hum, rk5, rr5, pp5, ⟨hl5, fun m' m1 m2 => ?_, fun m' m1 m2 m3 v hv => ?_⟩, by rw [(hoth m (by omega)).1]; exact f1, by rw [(hoth m (by omega)).2.1]; exact f2, fun j y q1 q2 q3 => up5 _ (hsp3 j y q1 q2 q3), fun y hy => ?_⟩
        · have h41' : S5.2.1 41 = s3.2.1 41 := h41.trans (hu4.2.2 41 (by unfold k45; decide))
          have hE3m := hE3.2.1 m' m1 m2
          rw [h41']
          refine ⟨hE3m.1, ?_⟩
          by_cases em : m' = m + 1
          · subst em
            refine ⟨t1, fun j hj => t5 _ (gn_clo (by omega)) hgb hEn.2.2.1 j hj, Nat.le_trans hEn.2.2.2.1 t2, fun j hj => ?_⟩
            rw [t3 j (by have := hEn.2.2.2.1; omega)]
            exact hEn.2.2.2.2 j hj
          · rw [(hoth m' em).1, (hoth m' em).2.1, (hoth m' em).2.2]
            exact hE3m.2
        · rw [(hoth m' (by omega)).1, (hoth m' (by omega)).2.1]
          exact hE3.2.2 m' m1 m2 m3 v hv
        · by_cases e : y = x
          · rw [e]; exact t4
          · exact up5 _ (hx3 y (by omega))
theorem cl_enact27 {S : cs_T} {g : Nat → Nat → Kf} {K l q many a : Nat} {ns : Nat → Nat} {vs : Nat → Nat → Kf} {rk : Nat → Nat} {rr : Nat → Nat → Nat → Kf} {pp : Nat → Nat → Nat} {Q : Int32 → cs_T → Prop} (hc : cv L d Ln S g) (hch : cch L d Ln S) (hLn : lwL L d Ln) (hkr : KR L d) (ha : kV a) (hl1 : 1 ≤ l) (hld : l ≤ d) (hmany : many ≤ 3) (h4 : S.1 4 = nI many) (hq2 : S.2.2 = some q) (hl : clw L d S rk rr pp) (hlaw : LAW L d K ns vs rk rr pp)
    (hlw : ∀ k, k < K + 1 → 1 ≤ va_up ns K l k ∧ lieD L (va_up ns K l k) (va_up vs K (fun w => g a (ofs L l + w)) k))
    (hq : ∀ S' rk rr pp, clw L d S' rk rr pp → LAW L d (K + 1) (va_up ns K l) (va_up vs K (fun w => g a (ofs L l + w))) rk rr pp → upK kZ S S' → Q (nI many) (cs_sF S' 4 (nI (many + 1)))) : wp_X2_enact_27 Ln Q S a (nI l) := by
  have hcf := hc.1.1
  have hd := cf_d hcf
  have hL := cf_L hcf
  have hW := cv_W hc
  have hpl := cf_pow hcf (n := l) hld
  have hLd : L ^ l ≤ L ^ d := Nat.pow_le_pow_right (by omega) hld
  have hpd := cf_pow hcf (n := d) (Nat.le_refl _)
  have hlW : ofs L l + L ^ l ≤ ofs L (d + 1) := ofs_mono (L := L) (show l + 1 ≤ d + 1 by omega)
  have ez : ((0 : Int32)).toNatClampNeg = 0 := rfl
  have e40 : (nI (Ln 40)).toNatClampNeg = d + 1 := by rw [hLn.1]; exact nI_clamp (by omega)
  have hu1 : upK kZ S (cs_sA S 41 (va_cpy (S.2.1 40) (S.2.1 41) 0 0 (d + 1))) := ⟨rfl, rfl, fun k hk => va_up_ne _ _ (fun z => hk (by rw [z]; unfold kZ; decide))⟩
  have hc1 := cv_Z hc hu1
  have hs1 := cv_st hc1 (n := l) (by omega)
  have hp1 := cv_pw hc1 (n := l) hld
  unfold wp_X2_enact_27
  rw [ez, e40, hs1.2, hp1.2, nI_clamp (show ofs L l < 2 ^ 31 by omega), nI_clamp (show L ^ l < 2 ^ 31 by omega), hc.2.2.2.1 a ha]
  refine ⟨by decide, by decide, by rw [hLn.1]; exact nI_pos (by omega), by rw [hLn.1]; omega, by rw [hLn.2.1]; omega, hs1.1, hp1.1, kV_47 ha, nI_pos (by omega), by decide, nI_pos (by omega), by omega, by rw [hLn.2.2.2.2.2.1]; omega, ?_⟩
  have e41 : ∀ m, m ≤ d → (cs_sA S 41 (va_cpy (S.2.1 40) (S.2.1 41) 0 0 (d + 1))).2.1 41 m = S.2.1 40 m := fun m hm => by
    rw [sA_s, pk_cpy_in (by omega) (by omega), Nat.sub_zero, Nat.zero_add]
  have hl2 : clw L d (cs_sA S 41 (va_cpy (S.2.1 40) (S.2.1 41) 0 0 (d + 1))) rk rr pp := hl
  generalize cs_sA S 41 (va_cpy (S.2.1 40) (S.2.1 41) 0 0 (d + 1)) = S1 at hu1 hc1 hs1 hp1 e41 hl2
  have hu2 : upK k45 S1 (cs_sA S1 45 (va_cpy (S1.2.1 a) (S1.2.1 45) (ofs L l) 0 (L ^ l))) := ⟨rfl, rfl, fun k hk => va_up_ne _ _ (fun z => hk z)⟩
  have hh : hnd L (cs_sA S1 45 (va_cpy (S1.2.1 a) (S1.2.1 45) (ofs L l) 0 (L ^ l))) l (fun w => g a (ofs L l + w)) := fun w hw => by
    rw [sA_s, pk_cpy_in (by omega) (by omega), Nat.sub_zero]
    exact hc1.2.2.2.2.2.2 a _ ha (by omega)
  generalize cs_sA S1 45 (va_cpy (S1.2.1 a) (S1.2.1 45) (ofs L l) 0 (L ^ l)) = S2 at hu2 hh
  have hum : upK kZ S S2 := upK_tr hu1 (k45_Z hu2)
  have hgl : gnV L (K + 1) (va_up ns K l) (va_up vs K (fun w => g a (ofs L l + w))) l (fun w => g a (ofs L l + w)) := by
    obtain ⟨l', rfl⟩ : ∃ l', l = l' + 1 := ⟨l - 1, by omega⟩
    have := gn_law (L := L) (K := K + 1) (ns := va_up ns K (l' + 1)) (vs := va_up vs K (fun w => g a (ofs L (l' + 1) + w))) (n := l') (k := K) (by omega) (by omega) (va_up_self _ _ _)
    rwa [va_up_self] at this
  have hmono : ∀ {n v}, gnV L K ns vs n v → gnV L (K + 1) (va_up ns K l) (va_up vs K (fun w => g a (ofs L l + w))) n v := fun hv => gn_mono (by omega) (by omega) (fun k hk => va_up_ne _ _ (by omega)) (fun k hk => va_up_ne _ _ (by omega)) hv
  have hlie : ∀ n v, 1 ≤ n → n ≤ d → gnV L (K + 1) (va_up ns K l) (va_up vs K (fun w => g a (ofs L l + w))) n v → lieD L n v := fun n v n1 n2 hv => gn_lie (by omega) (by omega) hkr hlw n1 n2 hv
  have hla := hlaw l hl1 hld
  refine cl_settle (cv_Z hc hum) (cch_Z hch hum) hLn hkr (clw_45 hl2 hu2) (by rw [hum.2.1]; exact hq2) hl1 hld hla.1 (fun i hi => hlie l _ hl1 hld (hmono (hla.2.1 i hi))) (hlie l _ hl1 hld hgl) hh (fun S3 rk3 rr3 pp3 hu3 h41 hl3 hoth hst => ?_)
  rintro _ rfl
  rw [nI_1]
  obtain ⟨t1, t2, t3, t4, t5⟩ := hst
  have hum3 : upK kZ S S3 := upK_tr hum hu3
  refine ⟨d - l + 1, ?_⟩
  refine cl_enact81 (S0 := S) (rk0 := rk) (rr0 := rr) hc hch hq2 h4 hLn hkr hl1 hmany (fun n n1 n2 => (hlaw n n1 n2).2.2) (fun n n1 n2 => (hlaw n n1 n2).2.1) hlw (fun S' rk' rr' pp' a1 a2 a3 => hq S' rk' rr' pp' a2 a3 a1) (d - l) (l + 1) S3 rk3 rr3 pp3 (by omega) (by omega) hum3 ⟨hl3, fun m m1 m2 => ?_, fun m m1 m2 m3 v hv => ?_⟩
  · have e3 : S3.2.1 41 m = nI (rk m) := by
      rw [h41, hu2.2.2 41 (by unfold k45; decide), e41 m m2]
      exact (hl.2.1 m m1 m2).1
    refine ⟨e3, ?_⟩
    by_cases em : m = l
    · subst em
      exact ⟨t1, fun j hj => t5 _ (gn_clo (by omega)) hgl (fun i hi => hmono (hla.2.1 i hi)) j hj, t2, t3⟩
    · rw [(hoth m em).1, (hoth m em).2.1, (hoth m em).2.2]
      exact ⟨(hlaw m m1 m2).1, fun i hi => hmono ((hlaw m m1 m2).2.1 i hi), Nat.le_refl _, fun _ _ => rfl⟩
  · by_cases em : m = l
    · subst em
      obtain ⟨m, rfl⟩ : ∃ m', m = m' + 1 := ⟨m - 1, by omega⟩
      obtain ⟨u, c, hu, hvw⟩ := hv
      have s1 : spn (L ^ (m + 1)) (rk3 (m + 1)) (rr3 (m + 1)) (fun w => ksum L (fun x => brX L m x (u x) w) + ksum K (fun k => if ns k = m + 1 then c k * vs k w else 0)) := spn_up (hla.2.2 _ ⟨u, c, fun x hx => gn_lt (by omega) (hu x hx), fun w hw => rfl⟩) t2 (fun i hi w _ => by rw [t3 i hi])
      have s2 := spn_sum (M := L ^ (m + 1)) (k := rk3 (m + 1)) (r := rr3 (m + 1)) (N := 1) (c := fun _ => c K) (u := fun _ w => g a (ofs L (m + 1) + w)) (fun j hj => t4)
      refine spn_c (spn_add s1 s2) (fun w hw => ?_)
      rw [hvw w hw]
      show _ + (0 + c K * g a (ofs L (m + 1) + w)) = _ + (ksum K _ + (if va_up ns K (m + 1) K = m + 1 then c K * va_up vs K _ K w else 0))
      rw [va_up_self, va_up_self, if_pos rfl, ka_0', ka_a]
      refine congrArg (_ + ·) (congrArg (· + _) (ksum_c (fun k hk => ?_)))
      rw [va_up_ne _ _ (by omega), va_up_ne _ _ (by omega)]
    · rw [(hoth m em).1, (hoth m em).2.1]
      exact (hlaw m m1 m3).2.2 v (gn_lt (by omega) hv)
end CY
