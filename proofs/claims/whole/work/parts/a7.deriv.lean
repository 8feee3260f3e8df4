/-! DERIVED: both sides add the same, in another order -/
def dvO (L d : Nat) (by' : Nat → Kf) (n w bh : Nat) (num : Kf) (j : Nat) : Kf := ksum (d - n + 2) (fun m => ksum (L ^ m) (fun v => if j = ofs L (n - 1 + m) + ((w / L ^ (bh + 1) * L ^ m + v) * L ^ bh + w % L ^ bh) then num * by' (ofs L m + v) else 0))
def dvB (L d y : Nat) (f by' : Nat → Kf) (n w bh j : Nat) : Kf := if w / L ^ bh % L = y then dvO L d by' n w bh (f (ofs L n + w)) j else 0
def dvK (L d y : Nat) (f by' : Nat → Kf) (j : Nat) : Kf := ksum (d + 1) (fun n => ksum (L ^ n) (fun w => ksum n (fun bh => dvB L d y f by' n w bh j)))
section CD
variable {L d : Nat} {Ln : Nat → Nat} {g : Nat → Nat → Kf}
theorem cq_setInOne {S : cs_T} {r : Nat → Kf} {q n w bh : Nat} {num : Kf} {Q : cs_T → Prop} (h : cv L d Ln S (va_up g 3 r)) (hq0 : kV q) (hq3 : q ≠ 3) (h1 : bh < n) (hn : n ≤ d) (hw : w < L ^ n)
    (hq : ∀ S', upK kV S S' → cv L d Ln S' (va_up g 3 (fun j => r j + dvO L d (g q) n w bh num j)) → Q S') : wp_X0_setInOne Ln S (nI n) (nI w) (nI bh) (kI num) q Q := by
  have k3 : kV 3 := by unfold kV; omega
  have hd := cf_d h.1.1
  have hL := cf_L h.1.1
  have hW := cv_W h
  have hpn := cf_pow h.1.1 (n := n) (by omega)
  have hpb := cf_pow h.1.1 (n := bh) (by omega)
  have hpb1 := cf_pow h.1.1 (n := bh + 1) (by omega)
  have hp0 := cv_pw h (n := bh + 1) (by omega)
  have hp1 := cv_pw h (n := bh) (by omega)
  have hfr : w / L ^ (bh + 1) < L ^ (n - 1 - bh) := by
    rw [Nat.div_lt_iff_lt_mul (by omega), ← Nat.pow_add, show n - 1 - bh + (bh + 1) = n by omega]
    exact hw
  have htl : w % L ^ bh < L ^ bh := Nat.mod_lt _ (by omega)
  unfold wp_X0_setInOne
  rw [nI_1, hp0.2, hp1.2, pk_div (by omega) (by omega) (by omega), ri_rem (by omega) (by omega) (by omega)]
  refine ⟨hp0.1, nI_ne (by omega) (by omega), ?_⟩
  rintro _ rfl
  refine ⟨hp1.1, nI_ne (by omega) (by omega), ?_⟩
  rintro _ rfl
  generalize hfr' : w / L ^ (bh + 1) = fr' at hfr
  generalize htl' : w % L ^ bh = tl' at htl
  refine lpR (S := S) (L := L) (d := d) (Ln := Ln) (g := g) (t := 3) (fun k s m => wp_X0_setInOne_25 Ln Q k s (nI n) (nI bh) (kI num) q (nI fr') (nI tl') (nI m)) (fun m j => r j + ksum m (fun m => ksum (L ^ m) (fun v => if j = ofs L (n - 1 + m) + ((fr' * L ^ m + v) * L ^ bh + tl') then num * g q (ofs L m + v) else 0))) 0 (d - n + 2) (Nat.zero_le _) (cv_tc h (fun j _ => (ka_0 _).symm)) ?_ ?_
  · intro k S1 hu1 hc1
    unfold wp_X0_setInOne_25 wb_X0_setInOne_25
    rw [hc1.2.1, pk_sub hn, nI_1]
    refine ⟨fun _ => hq S1 hu1 (cv_tc hc1 (fun j _ => ?_)), fun z => absurd (nI_lt (by omega) (by omega)) z⟩
    unfold dvO
    rw [hfr', htl']
  · intro k m S1 _ hm hu1 hc1 hk1
    unfold wp_X0_setInOne_25 wb_X0_setInOne_25
    rw [hc1.2.1, pk_sub hn, nI_1]
    have hpm := cf_pow h.1.1 (n := m) (by omega)
    refine ⟨fun z => absurd z (nI_nlt (by omega) (by omega)), fun _ => ?_⟩
    refine lpR (S := S1) (L := L) (d := d) (Ln := Ln) (g := g) (t := 3) (fun k2 s v => wp_X0_setInOne_41 Ln (wp_X0_setInOne_25 Ln Q k) Q k2 s (nI n) (nI bh) (kI num) q (nI fr') (nI tl') (nI m) (nI v)) (fun v j => (r j + ksum m (fun m => ksum (L ^ m) (fun v => if j = ofs L (n - 1 + m) + ((fr' * L ^ m + v) * L ^ bh + tl') then num * g q (ofs L m + v) else 0))) + ksum v (fun v => if j = ofs L (n - 1 + m) + ((fr' * L ^ m + v) * L ^ bh + tl') then num * g q (ofs L m + v) else 0)) 0 (L ^ m) (Nat.zero_le _) (cv_tc hc1 (fun j _ => (ka_0 _).symm)) ?_ ?_
    · intro k2 S2 hu2 hc2
      have hp2 := cv_pw hc2 (n := m) (by omega)
      refine ⟨hp2.1, ?_⟩
      rw [hp2.2]
      refine ⟨fun _ => ?_, fun z => absurd (nI_le (Nat.le_refl _) (by omega)) z⟩
      rintro _ rfl
      rw [nI_1]
      exact hk1 S2 (upK_tr hu1 hu2) (cv_tc hc2 (fun j _ => ka_a _ _ _))
    · intro k2 v S2 _ hv hu2 hc2 hk2
      have hp2 := cv_pw hc2 (n := m) (by omega)
      have hp3 := cv_pw hc2 (n := bh) (by omega)
      have hs2 := cv_st hc2 (n := m) (by omega)
      have hs3 := cv_st hc2 (n := n - 1 + m) (by omega)
      have hvW : ofs L m + v < ofs L (d + 1) := pl_W (by omega) hv
      have hlt : (fr' * L ^ m + v) * L ^ bh + tl' < L ^ (n - 1 + m) := by
        have := pl_lt (d := 0) (show 1 ≤ L by omega) hfr hv htl
        rwa [show n - 1 - bh + m + bh = n - 1 + m by omega] at this
      have htW : ofs L (n - 1 + m) + ((fr' * L ^ m + v) * L ^ bh + tl') < ofs L (d + 1) := pl_W (by omega) hlt
      refine ⟨hp2.1, ?_⟩
      rw [hp2.2]
      refine ⟨fun z => absurd z (nI_ge hv (by omega)), fun _ => ⟨hs2.1, kV_47 hq0, ?_⟩⟩
      rw [hs2.2, nI_add]
      refine ⟨cv_in hc2 hq0 hvW, ?_⟩
      rw [cv_g hc2 hq0 hvW, va_up_ne _ _ hq3]
      rintro _ rfl
      have fin : ∀ S3, upK kV S2 S3 → cv L d Ln S3 (va_up g 3 (fun j => ((r j + ksum m (fun m => ksum (L ^ m) (fun v => if j = ofs L (n - 1 + m) + ((fr' * L ^ m + v) * L ^ bh + tl') then num * g q (ofs L m + v) else 0))) + ksum v (fun v => if j = ofs L (n - 1 + m) + ((fr' * L ^ m + v) * L ^ bh + tl') then num * g q (ofs L m + v) else 0)) + (if j = ofs L (n - 1 + m) + ((fr' * L ^ m + v) * L ^ bh + tl') then num * g q (ofs L m + v) else 0))) → wp_X0_setInOne_131 Ln (wp_X0_setInOne_25 Ln Q k) (wp_X0_setInOne_41 Ln (wp_X0_setInOne_25 Ln Q k) Q k2) Q S3 (nI n) (nI bh) (kI num) q (nI fr') (nI tl') (nI m) (nI v) := by
        intro S3 hu3 hc3
        rintro _ rfl
        rw [nI_1]
        exact hk2 S3 (upK_tr hu2 hu3) (cv_tc hc3 (fun j _ => ka_a _ _ _))
      refine ⟨fun z => fin S2 upK_rf (cv_tc hc2 (fun j _ => ?_)), fun _ => ?_⟩
      · rw [kI_z.mp z, km_0', ite_self, ka_0]
      · rw [show nI n - 1 = nI (n - 1) from pk_sub (b := 1) (by omega), nI_add, hs3.2, hp3.2, pk_mul, nI_add, pk_mul, nI_add, nI_add, show ofs L (n - 1 + m) + (fr' * L ^ m + v) * L ^ bh + tl' = ofs L (n - 1 + m) + ((fr' * L ^ m + v) * L ^ bh + tl') by omega]
        refine ⟨hs3.1, hp2.1, hp3.1, ?_⟩
        rintro _ rfl
        refine ⟨cv_in hc2 k3 htW, ?_⟩
        rw [cv_g hc2 k3 htW, va_up_self]
        refine kn_more ⟨cv_in hc2 k3 htW, ?_⟩
        rw [nI_clamp (by omega)]
        have hs := cv_s' (p := ofs L (n - 1 + m) + ((fr' * L ^ m + v) * L ^ bh + tl')) (r' := fun j => ((r j + ksum m (fun m => ksum (L ^ m) (fun v => if j = ofs L (n - 1 + m) + ((fr' * L ^ m + v) * L ^ bh + tl') then num * g q (ofs L m + v) else 0))) + ksum v (fun v => if j = ofs L (n - 1 + m) + ((fr' * L ^ m + v) * L ^ bh + tl') then num * g q (ofs L m + v) else 0)) + (if j = ofs L (n - 1 + m) + ((fr' * L ^ m + v) * L ^ bh + tl') then num * g q (ofs L m + v) else 0)) (c := ((r (ofs L (n - 1 + m) + ((fr' * L ^ m + v) * L ^ bh + tl')) + ksum m (fun m' => ksum (L ^ m') (fun v' => if (ofs L (n - 1 + m) + ((fr' * L ^ m + v) * L ^ bh + tl')) = ofs L (n - 1 + m') + ((fr' * L ^ m' + v') * L ^ bh + tl') then num * g q (ofs L m' + v') else 0))) + ksum v (fun v' => if (ofs L (n - 1 + m) + ((fr' * L ^ m + v) * L ^ bh + tl')) = ofs L (n - 1 + m) + ((fr' * L ^ m + v') * L ^ bh + tl') then num * g q (ofs L m + v') else 0)) + num * g q (ofs L m + v)) hc2 k3 (fun j hj => by
          by_cases e1 : j = ofs L (n - 1 + m) + ((fr' * L ^ m + v) * L ^ bh + tl')
          · rw [if_pos e1, if_pos e1, e1]
          · rw [if_neg e1, if_neg e1, ka_0])
        exact fin _ hs.1 hs.2
theorem cq_setInEach {S : cs_T} {t a b y : Nat} {Q : cs_T → Prop} (h : cv L d Ln S g) (ht : kV t) (ha : kV a) (hb : kV b) (ha3 : a ≠ 3) (hb3 : b ≠ 3) (hy : y < L)
    (hq : ∀ S' g', upK kV S S' → cv L d Ln S' g' → fr (fun k => k = 3 ∨ k = t) g g' → g' t = dvK L d y (g a) (g b) → Q S') : wp_X0_setInEach Ln S t a (nI y) b Q := by
  have k3 : kV 3 := by unfold kV; omega
  have hd := cf_d h.1.1
  have hL := cf_L h.1.1
  have hW := cv_W h
  refine cq_fill h k3 (fun S0 hu0 hc0 => ?_)
  refine lpR (S := S0) (L := L) (d := d) (Ln := Ln) (g := g) (t := 3) (fun k s n => wp_X0_setInEach_11 Ln Q k s t a (nI y) b (nI n)) (fun n j => ksum n (fun n => ksum (L ^ n) (fun w => ksum n (fun bh => dvB L d y (g a) (g b) n w bh j)))) 1 (d + 1) (by omega) (cv_tc hc0 (fun j _ => ?_)) ?_ ?_
  · show 0 = 0 + ksum (L ^ 0) (fun w => ksum 0 _)
    rw [Nat.pow_zero]
    rfl
  · intro k S1 hu1 hc1
    refine ⟨fun _ => ?_, fun z => absurd (by rw [hc1.2.1]; exact nI_lt (by omega) (by omega)) z⟩
    refine cq_copy hc1 ht k3 (fun S2 hu2 hc3 => ?_)
    rw [va_up_self] at hc3
    exact hq S2 _ (upK_tr hu0 (upK_tr hu1 hu2)) hc3 (fr_tr (fr_u (Or.inl rfl)) (fr_u (Or.inr rfl))) (va_up_self _ _ _)
  · intro k n S1 hn1 hn hu1 hc1 hk1
    have hpn := cf_pow h.1.1 (n := n) (by omega)
    refine ⟨fun z => absurd z (by rw [hc1.2.1]; exact nI_nlt (by omega) (by omega)), fun _ => ?_⟩
    refine lpR (S := S1) (L := L) (d := d) (Ln := Ln) (g := g) (t := 3) (fun k2 s w => wp_X0_setInEach_23 Ln (wp_X0_setInEach_11 Ln Q k) Q k2 s t a (nI y) b (nI n) (nI w)) (fun w j => ksum n (fun n => ksum (L ^ n) (fun w => ksum n (fun bh => dvB L d y (g a) (g b) n w bh j))) + ksum w (fun w => ksum n (fun bh => dvB L d y (g a) (g b) n w bh j))) 0 (L ^ n) (Nat.zero_le _) (cv_tc hc1 (fun j _ => (ka_0 _).symm)) ?_ ?_
    · intro k2 S2 hu2 hc2
      have hp2 := cv_pw hc2 (n := n) (by omega)
      refine ⟨hp2.1, ?_⟩
      rw [hp2.2]
      refine ⟨fun _ => ?_, fun z => absurd (nI_le (Nat.le_refl _) (by omega)) z⟩
      rintro _ rfl
      rw [nI_1]
      exact hk1 S2 (upK_tr hu1 hu2) hc2
    · intro k2 w S2 _ hw hu2 hc2 hk2
      have hp2 := cv_pw hc2 (n := n) (by omega)
      have hs2 := cv_st hc2 (n := n) (by omega)
      have hwW : ofs L n + w < ofs L (d + 1) := pl_W (by omega) hw
      refine ⟨hp2.1, ?_⟩
      rw [hp2.2]
      refine ⟨fun z => absurd z (nI_ge hw (by omega)), fun _ => ⟨hs2.1, kV_47 ha, ?_⟩⟩
      rw [hs2.2, nI_add]
      refine ⟨cv_in hc2 ha hwW, ?_⟩
      rw [cv_g hc2 ha hwW, va_up_ne _ _ ha3]
      rintro _ rfl
      by_cases hz : g a (ofs L n + w) = 0
      · have e103 : wp_X0_setInEach_103 Ln (wp_X0_setInEach_11 Ln Q k) (wp_X0_setInEach_23 Ln (wp_X0_setInEach_11 Ln Q k) Q k2) Q S2 t a (nI y) b (nI n) (nI w) := by
          rintro _ rfl
          rw [nI_1]
          refine hk2 S2 hu2 (cv_tc hc2 (fun j _ => ?_))
          show _ = _ + (_ + ksum n (fun bh => dvB L d y (g a) (g b) n w bh j))
          have hz2 : ksum n (fun bh => dvB L d y (g a) (g b) n w bh j) = 0 := ksum_z (fun bh _ => by
            unfold dvB dvO
            rw [ksum_z (fun m _ => ksum_z (fun v _ => by rw [hz, km_0, ite_self])), ite_self])
          rw [hz2, ka_0]
        exact ⟨1, fun _ => e103, fun _ => ⟨fun _ => e103, fun z => absurd (kI_z.mpr hz) z⟩⟩
      · refine lpR (S := S2) (L := L) (d := d) (Ln := Ln) (g := g) (t := 3) (fun k3 s bh => wp_X0_setInEach_52 Ln (wp_X0_setInEach_11 Ln Q k) (wp_X0_setInEach_23 Ln (wp_X0_setInEach_11 Ln Q k) Q k2) Q k3 s t a (nI y) b (nI n) (nI w) (kI (g a (ofs L n + w))) (nI bh)) (fun bh j => (ksum n (fun n => ksum (L ^ n) (fun w => ksum n (fun bh => dvB L d y (g a) (g b) n w bh j))) + ksum w (fun w => ksum n (fun bh => dvB L d y (g a) (g b) n w bh j))) + ksum bh (fun bh => dvB L d y (g a) (g b) n w bh j)) 0 n (Nat.zero_le _) (cv_tc hc2 (fun j _ => (ka_0 _).symm)) ?_ ?_
        · intro k3 S3 hu3 hc3
          refine ⟨fun _ => ?_, fun z => absurd (nI_le (Nat.le_refl _) (by omega)) z⟩
          rintro _ rfl
          rw [nI_1]
          exact hk2 S3 (upK_tr hu2 hu3) (cv_tc hc3 (fun j _ => ka_a _ _ _))
        · intro k3 bh S3 _ hbh hu3 hc3 hk3
          have hp3 := cv_pw hc3 (n := bh) (by omega)
          have hpb := cf_pow h.1.1 (n := bh) (by omega)
          refine ⟨fun z => absurd z (nI_ge hbh (by omega)), fun _ => ⟨fun z => absurd (kI_z.mp z) hz, fun _ => ⟨hp3.1, ?_⟩⟩⟩
          rw [hp3.2, hc3.2.2.1]
          refine ⟨nI_ne (by omega) (by omega), nI_ne (by omega) (by omega), ?_⟩
          have hdv : w / L ^ bh ≤ w := Nat.div_le_self _ _
          rw [pk_div (by omega) (by omega) (by omega), ri_rem (by omega) (by omega) (by omega)]
          have hmo : w / L ^ bh % L < L := Nat.mod_lt _ (by omega)
          rw [nI_eq (by omega) (by omega)]
          have fin : ∀ S4, upK kV S3 S4 → cv L d Ln S4 (va_up g 3 (fun j => ((ksum n (fun n => ksum (L ^ n) (fun w => ksum n (fun bh => dvB L d y (g a) (g b) n w bh j))) + ksum w (fun w => ksum n (fun bh => dvB L d y (g a) (g b) n w bh j))) + ksum bh (fun bh => dvB L d y (g a) (g b) n w bh j)) + dvB L d y (g a) (g b) n w bh j)) → wp_X0_setInEach_97 Ln (wp_X0_setInEach_11 Ln Q k) (wp_X0_setInEach_23 Ln (wp_X0_setInEach_11 Ln Q k) Q k2) (wp_X0_setInEach_52 Ln (wp_X0_setInEach_11 Ln Q k) (wp_X0_setInEach_23 Ln (wp_X0_setInEach_11 Ln Q k) Q k2) Q k3) Q S4 t a (nI y) b (nI n) (nI w) (kI (g a (ofs L n + w))) (nI bh) := by
            intro S4 hu4 hc4
            rintro _ rfl
            rw [nI_1]
            exact hk3 S4 (upK_tr hu3 hu4) (cv_tc hc4 (fun j _ => ka_a _ _ _))
          refine ⟨fun e => fin S3 upK_rf (cv_tc hc3 (fun j _ => ?_)), fun e => ?_⟩
          · unfold dvB
            rw [if_neg e, ka_0]
          · refine cq_setInOne hc3 hb hb3 hbh (by omega) hw (fun S4 hu4 hc4 => fin S4 hu4 (cv_tc hc4 (fun j _ => ?_)))
            show _ = _ + (if w / L ^ bh % L = y then _ else 0)
            rw [if_pos e]
end CD
/-! the reference's list of what is added -/
def lsK : List (Nat × Nat) → Nat → Kf
  | [], _ => 0
  | q :: l, j => (if j = q.1 then kN q.2 else 0) + lsK l j
theorem lsK_app {j : Nat} : ∀ {l m : List (Nat × Nat)}, lsK (l ++ m) j = lsK l j + lsK m j
  | [], m => (ka_0' _).symm
  | q :: l, m => by
    show _ + lsK (l ++ m) j = (_ + lsK l j) + lsK m j
    rw [lsK_app, ka_a]
theorem acL_K {j : Nat} : ∀ (l : List (Nat × Nat)) (g : Nat → Nat), kN (acL g l j) = kN (g j) + lsK l j
  | [], g => (ka_0 _).symm
  | q :: l, g => by
    show kN (acL (acc g q.1 q.2) l j) = _
    rw [acL_K l]
    show _ = kN (g j) + ((if j = q.1 then kN q.2 else 0) + lsK l j)
    rw [← ka_a]
    refine congrArg (· + lsK l j) ?_
    unfold acc
    by_cases h : j = q.1
    · rw [if_pos h, if_pos h, kN_mod, kN_add, h]
    · rw [if_neg h, if_neg h, ka_0]
theorem lsK_flat {j : Nat} {F : Nat → List (Nat × Nat)} : ∀ k, lsK ((List.range k).flatMap F) j = ksum k (fun i => lsK (F i) j)
  | 0 => rfl
  | k + 1 => by
    rw [List.range_succ, List.flatMap_append, lsK_app, lsK_flat k]
    show _ + lsK (List.flatMap F [k]) j = _ + lsK (F k) j
    rw [List.flatMap_cons, List.flatMap_nil, List.append_nil]
theorem lsK_map {j : Nat} {F : Nat → Nat × Nat} : ∀ k, lsK ((List.range k).map F) j = ksum k (fun i => if j = (F i).1 then kN (F i).2 else 0)
  | 0 => rfl
  | k + 1 => by
    rw [List.range_succ, List.map_append, lsK_app, lsK_map k]
    show _ + ((if j = (F k).1 then kN (F k).2 else 0) + 0) = _ + _
    rw [ka_0]
theorem ksum_pl {L : Nat} {F : Nat → Kf} : ∀ k, ksum (ofs L k) F = ksum k (fun n => ksum (L ^ n) (fun v => F (ofs L n + v)))
  | 0 => rfl
  | k + 1 => by
    show ksum (ofs L k + L ^ k) F = _
    rw [ksum_app, ksum_pl k]
    rfl
theorem dvA_K {L d y : Nat} {A B : Nat → Nat} {j : Nat} (hL : 1 ≤ L) : lsK (dvA L d y A B (ofs L (d + 1))) j = dvK L d y (fun w => kN (A w)) (fun w => kN (B w)) j := by
  unfold dvA dvK
  rw [lsK_flat, ksum_pl]
  refine ksum_c (fun n hn => ksum_c (fun v hv => ?_))
  rw [wlen_of (by omega) hv, Nat.add_sub_cancel_left]
  by_cases hz : A (ofs L n + v) = 0
  · rw [if_pos hz, ksum_z (fun bh _ => ?_)]
    · rfl
    · unfold dvB dvO
      rw [ksum_z (fun m _ => ksum_z (fun u _ => ?_)), ite_self]
      show (if _ then kN (A (ofs L n + v)) * _ else 0) = 0
      rw [hz, kN_0, km_0, ite_self]
  · rw [if_neg hz]
    unfold dvW
    rw [lsK_flat, ksum_rev]
    refine ksum_c (fun bh hbh => ?_)
    unfold dvB ltr
    rw [show n - 1 - (n - 1 - bh) = bh by omega]
    by_cases e : v / L ^ bh % L = y
    · rw [if_pos e, if_pos e]
      unfold dvI dvM dvO
      rw [lsK_flat, show d + 2 - n = d - n + 2 by omega]
      refine ksum_c (fun m hm => ?_)
      unfold dvV
      rw [lsK_map]
      refine ksum_c (fun u hu => ?_)
      rw [kN_mul, show n - (n - 1 - bh) = bh + 1 by omega, show n - 1 - (n - 1 - bh) = bh by omega, show n - (n - 1 - bh + 1) = bh by omega, show n - 1 - bh + m + bh = n - 1 + m by omega]
      rw [show ofs L (n - 1 + m) + (v / L ^ (bh + 1) * L ^ m + u) * L ^ bh + v % L ^ bh = ofs L (n - 1 + m) + ((v / L ^ (bh + 1) * L ^ m + u) * L ^ bh + v % L ^ bh) by omega]
    · rw [if_neg e, if_neg e]
      rfl
