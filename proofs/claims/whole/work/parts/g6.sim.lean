/-! both answer alike: text, fraction -/
section SP
variable {L d : Nat} {Ln : Nat → Nat} {A : AS} {Sc : cs_T} {Sm : ms_T} {x : Nat → Nat} {g : Nat → Nat → Kf}
theorem cnt_let (hd : 1 ≤ d) : ∀ v, v ≤ L → cnt L d (ofs L 1 + v) = v
  | 0, _ => cnt_1
  | v + 1, h => by
    have e := cnt_step (L := L) (d := d) (n := 1) (v := v) (Nat.le_refl _) hd (by rw [Nat.pow_one]; omega)
    rw [if_pos chf_1, cnt_let hd v (by omega)] at e
    exact e
theorem wl_q {n v : Nat} {Q : Int32 → cs_T → Prop} (h : cw_ok L d Ln Sc) (hc : cch L d Ln Sc) (h1 : 1 ≤ n) (hn : n ≤ d) (hv : v < L ^ n) (hcf : chf L n v = true) (hq : Q (nI (4 * n - 3)) Sc) : wp_X1_writtenLength Ln Sc (nI (cnt L d (ofs L n + v))) Q := by
  obtain ⟨-, k1, k2⟩ := isC_n h.1 h1 hn hv hcf
  have hC98 := chC_98 h.1
  unfold wp_X1_writtenLength
  rw [nI_clamp (by omega), hc.1, (hc.2.2.2.2.2.2 n v h1 hn hv hcf).1]
  refine ⟨vp_in_nI k1 (by omega), cp_lengthOf h hn hv ?_⟩
  rw [show (4 : Int32) = nI 4 from rfl, show (3 : Int32) = nI 3 from rfl, pk_mul, pk_sub (by omega)]
  exact hq
theorem ct_written {Q : Int32 → cs_T → Prop} (h : cw_ok L d Ln Sc) (hc : cch L d Ln Sc) : ∀ f n v k v5, n ≤ f → 1 ≤ n → n + v5 ≤ d → v < L ^ n → chf L n v = true → k < 4 * n - 3 → Q (nI (txtN L f n v k)) Sc → wp_X1_written_8 Ln Q f Sc (nI (cnt L d (ofs L n + v))) (nI k) (nI v5)
  | 0, n, v, k, v5, hf, h1, _, _, _, _, _ => absurd h1 (by omega)
  | f + 1, n, v, k, v5, hf, h1, hn5, hv, hcf, hk, hq => by
    have hcf0 := h.1
    have hd := cf_d hcf0
    have hn : n ≤ d := by omega
    obtain ⟨-, k1, k2⟩ := isC_n hcf0 h1 hn hv hcf
    have hC98 := chC_98 hcf0
    obtain ⟨r1, r2, r3⟩ := hc.2.2.2.2.2.2 n v h1 hn hv hcf
    refine ⟨fun z => ?_, fun _ => wl_q h hc h1 hn hv hcf ⟨fun z => ?_, fun _ => ⟨fun _ => ?_, fun z => ?_⟩⟩⟩
    · rw [h.2.2.1] at z
      rw [i32_lt, nI_i (by omega), nI_i (by omega)] at z
      omega
    · rw [i32_lt, nI_i (by omega), show (0 : Int32).toInt = 0 from by decide] at z
      omega
    · rw [nI_clamp (by omega), hc.2.1, hc.2.2.1, r2, r3]
      refine ⟨vp_in_nI k1 (by omega), ?_⟩
      unfold sideI
      unfold txtN at hq
      by_cases e1 : n = 1
      · rw [if_pos e1, if_pos e1]
        refine ⟨fun _ => ?_, fun z => absurd (by decide) z⟩
        rw [if_pos (by omega)] at hq
        subst e1
        rw [Nat.pow_one] at hv
        rw [cnt_let (by omega) v (by omega), show (97 : Int32) = nI 97 from rfl, nI_add]
        exact hq
      · have h2 : 2 ≤ n := by omega
        rw [if_neg e1, if_neg e1, if_pos rfl, if_neg (show ¬ (1 : Nat) = 0 by decide)]
        rw [if_neg (by omega)] at hq
        obtain ⟨q1, q2, q3, q4⟩ := sd_spec (L := L) (v := v) h2
        have q5 := std_ok hcf0 h2 hn hv hcf
        have pe := cf_pow hcf0 (show n - sd L n v ≤ d by omega)
        have hve : v % L ^ (n - sd L n v) < L ^ (n - sd L n v) := Nat.mod_lt _ pe.1
        have hvb : v / L ^ (n - sd L n v) < L ^ sd L n v := by
          rw [Nat.div_lt_iff_lt_mul pe.1, ← Nat.pow_add, show sd L n v + (n - sd L n v) = n by omega]; exact hv
        obtain ⟨-, l1, l2⟩ := isC_n hcf0 q1 (by omega) hvb q5
        obtain ⟨-, m1, m2⟩ := isC_n hcf0 (by omega) (by omega) hve q3
        unfold lfP rgP
        have pos : ∀ j, j ≤ 98 → ¬ nI j < (0 : Int32) := fun j hj z => by
          rw [i32_lt, nI_i (by omega), show (0 : Int32).toInt = 0 from by decide] at z
          omega
        have pos2 : ∀ j, j ≤ 98 → (0 : Int32) ≤ nI j := fun j hj => nI_p (by omega)
        refine ⟨fun z => absurd z (pos _ l2), fun _ => ⟨vp_in_nI k1 (by omega), fun _ => ⟨vp_in_nI k1 (by omega), wl_q h hc q1 (by omega) hvb q5 ?_⟩, fun z => absurd (pos2 _ m2) z⟩⟩
        rintro _ rfl
        have e7 : 1 + nI (4 * sd L n v - 3) = nI (4 * sd L n v - 2) := by
          rw [show (1 : Int32) = nI 1 from rfl, nI_add]
          exact congrArg nI (by omega)
        have e4 : nI (4 * n - 3) - 1 = nI (4 * n - 3 - 1) := by
          rw [show (1 : Int32) = nI 1 from rfl, pk_sub (by omega)]
        rw [e7, e4, r2, r3]
        unfold sideI lfP rgP
        rw [if_neg e1, if_neg e1, if_pos rfl, if_neg (show ¬ (1 : Nat) = 0 by decide)]
        refine ⟨fun hk0 => ?_, fun hk0 => ?_⟩
        · have k0 : ¬ k = 0 := fun z => hk0 (by rw [z]; rfl)
          rw [if_neg k0] at hq
          refine ⟨fun hne => ?_, fun he => ?_⟩
          · have kn : ¬ k = 4 * sd L n v - 2 := fun z => hne (by rw [z])
            refine ⟨fun hne2 => ?_, fun he2 => ?_⟩
            · have kn2 : ¬ k = 4 * n - 3 - 1 := fun z => hne2 (by rw [z])
              refine ⟨fun hle => ?_, fun hle => ?_⟩
              · have kl : 4 * sd L n v - 2 ≤ k := (nI_leI (by omega) (by omega)).mp hle
                rw [if_neg (by omega), if_neg (by omega), if_neg kn2] at hq
                refine ⟨vp_in_nI k1 (by omega), fun _ => ?_, fun z => absurd hle z⟩
                rintro _ rfl _ rfl
                rw [nI_1, nI_1, pk_sub (by omega), show k - (4 * sd L n v - 2 + 1) = k - (4 * sd L n v - 3 + 2) by omega]
                exact ct_written h hc f _ _ _ _ (by omega) (by omega) (by omega) hve q3 (by omega) hq
              · have kl : ¬ 4 * sd L n v - 2 ≤ k := fun z => hle (nI_le z (by omega))
                rw [if_pos (by omega)] at hq
                refine ⟨vp_in_nI k1 (by omega), fun z => absurd z hle, fun _ => ?_⟩
                rintro _ rfl _ rfl
                rw [nI_1, show (1 : Int32) = nI 1 from rfl, pk_sub (by omega)]
                exact ct_written h hc f _ _ _ _ (by omega) (by omega) (by omega) hvb q5 (by omega) hq
            · have : k = 4 * n - 3 - 1 := (nI_eq (by omega) (by omega)).mp he2
              rw [if_neg (by omega), if_neg (by omega), if_pos this] at hq
              exact hq
          · have : k = 4 * sd L n v - 2 := (nI_eq (by omega) (by omega)).mp he
            rw [if_neg (by omega), if_pos (by omega)] at hq
            exact hq
        · have k0 : k = 0 := (nI_eq (by omega) (by decide)).mp (show nI k = nI 0 from hk0)
          rw [if_pos k0] at hq
          exact hq
    · exact absurd (show nI k < nI (4 * n - 3) from (i32_lt _ _).mpr (by rw [nI_i (by omega), nI_i (by omega)]; omega)) z
theorem si_text {a1 a2 : Int32} (h : CX L d Ln A Sc Sm x g) : SIM L d Ln A.2.2.1.1 (fun Q => wp_X7_text Ln Sc a1 a2 Q) (fun Q => wp_X8_text Sm a1 a2 Q) := by
  obtain ⟨hcf, hx, hcv, hg, hC, hM, hA⟩ := id h
  have hd6 := cf_d hcf
  have hch := hC.2.1
  have e0 : (0 : Int32).toInt = 0 := by decide
  by_cases hi : isC L d a1
  · obtain ⟨n, v, h1, hn, hv, hc, rfl⟩ := chf_ex hcf hi
    obtain ⟨-, k1, k2⟩ := isC_n hcf h1 hn hv hc
    by_cases hj : 0 ≤ a2.toInt ∧ a2.toInt < 4 * n - 3
    · obtain ⟨w, hw, rfl⟩ := i_of (k := a2) (n := 4 * n - 4) hj.1 (by omega) (by omega)
      refine ⟨nI (txtN L 6 n v w), A, rfl, fun Q hQ => ?_, fun Q hQ => ?_⟩
      · exact nc_q hcv.1 hch h1 hn hv hc ⟨fun _ => ⟨6, ct_written hcv.1 hch 6 n v w 0 (by omega) h1 (by omega) hv hc (by omega) (hQ _ hC)⟩, fun z => absurd rfl z⟩
      · refine sm_text hM.1 (fun z => absurd hi z) (fun n' v' h1' hn' hv' hc' e z => ?_) (fun n' v' j h1' hn' hv' hc' e hj' ej => ?_)
        · obtain ⟨q1, q2⟩ := ch_u hcf h1 hn hv hc h1' hn' hv' hc' e
          subst q1
          exact absurd hj z
        · obtain ⟨q1, q2⟩ := ch_u hcf h1 hn hv hc h1' hn' hv' hc' e
          subst q1 q2
          have i1 := s_inj (by omega) (by omega) ej
          subst i1
          exact hQ _ hM
    · refine ⟨-1, A, rfl, fun Q hQ => ?_, fun Q hQ => ?_⟩
      · refine nc_q hcv.1 hch h1 hn hv hc ⟨fun _ => ⟨1, fun z => ?_, fun _ => wl_q hcv.1 hch h1 hn hv hc ⟨fun _ => hQ _ hC, fun z => ⟨fun z2 => absurd ⟨?_, ?_⟩ hj, fun _ => hQ _ hC⟩⟩⟩, fun z => absurd rfl z⟩
        · rw [hcv.1.2.2.1, i32_lt, nI_i (by omega), e0] at z
          omega
        · rw [i32_lt, e0] at z; omega
        · rw [i32_lt, nI_i (by omega)] at z2; omega
      · refine sm_text hM.1 (fun z => absurd hi z) (fun n' v' h1' hn' hv' hc' e z => hQ _ hM) (fun n' v' j h1' hn' hv' hc' e hj' ej => ?_)
        obtain ⟨q1, q2⟩ := ch_u hcf h1 hn hv hc h1' hn' hv' hc' e
        subst q1
        exact absurd (by rw [ej, nI_i (by omega)]; omega) hj
  · refine ⟨-1, A, rfl, fun Q hQ => ?_, fun Q hQ => ?_⟩
    · exact nc_n hcv.1 hch hi ⟨fun z => absurd z (by decide), fun _ => hQ _ hC⟩
    · exact sm_text hM.1 (fun _ => hQ _ hM) (fun n' v' h1' hn' hv' hc' e _ => absurd (by rw [e]; exact (isC_n hcf h1' hn' hv' hc').1) hi) (fun n' v' j h1' hn' hv' hc' e _ _ => absurd (by rw [e]; exact (isC_n hcf h1' hn' hv' hc').1) hi)
theorem nr_i {z : Nat} (hz : z < PR) : (nrI z).toInt = if z ≤ 1073741823 then (z : Int) else (z : Int) - 2147483647 := by
  unfold nrI
  unfold PR at hz
  by_cases e : z ≤ 1073741823
  · rw [if_pos e, if_pos e, nI_i (by omega)]
  · rw [if_neg e, if_neg e, Int32.toInt_sub, nI_i (by omega), nI_i (by decide)]
    unfold PR
    rw [Int.bmod_eq_of_le (by omega) (by omega)]
    omega
theorem ct_frac {a w : Nat} {Q : Int32 → cs_T → Prop} (ha : a < PR) (hw : w < 2) : ∀ f q, q + f = 1001 → 1 ≤ q → Q (frN a w f q) Sc → wp_X7_fraction_24 Ln Q (f + 1) Sc (nI a) (nI w) (nI q)
  | 0, q, e, h1, hq => by
    have : q = 1001 := by omega
    subst this
    exact ⟨fun _ => hq, fun z => absurd (by decide) z⟩
  | f + 1, q, e, h1, hq => by
    have hP : PR = 2147483647 := rfl
    have hlt : a * q % PR < PR := Nat.mod_lt _ (by decide)
    have e6 : (1000000 : Int32).toInt = 1000000 := by decide
    have e6' : ((-1000000) : Int32).toInt = -1000000 := by decide
    refine ⟨fun z => ?_, fun _ => cn_product ha (by omega) (cn_near hlt ?_)⟩
    · rw [i32_lt, nI_i (by omega), show (1000 : Int32).toInt = 1000 from by decide] at z
      omega
    have hi := nr_i hlt
    unfold frN at hq
    have hwz : nI w = 0 ↔ w = 0 := nI_eq (b := 0) (by omega) (by decide)
    have nxt : ¬ a * q % PR ≤ 1000000 → a * q % PR < 2146483647 → wp_X7_fraction_66 Ln (wp_X7_fraction_24 Ln Q (f + 1)) Q Sc (nI a) (nI w) (nI q) := fun c1 c2 => by
      rintro _ rfl
      rw [nI_1]
      rw [if_neg c1, if_pos c2] at hq
      exact ct_frac ha hw f (q + 1) (by omega) (by omega) hq
    refine ⟨fun z => ?_, fun z1 => ⟨fun z => ?_, fun z2 => ?_⟩⟩
    · rw [i32_lt, e6', hi] at z
      by_cases c : a * q % PR ≤ 1073741823
      · rw [if_pos c] at z; omega
      · rw [if_neg c] at z; exact nxt (by omega) (by omega)
    · rw [i32_lt, e6, hi] at z
      by_cases c : a * q % PR ≤ 1073741823
      · rw [if_pos c] at z; exact nxt (by omega) (by omega)
      · rw [if_neg c] at z; omega
    · rw [i32_lt, e6', hi] at z1
      rw [i32_lt, e6, hi] at z2
      rw [hwz]
      by_cases c : a * q % PR ≤ 1073741823
      · rw [if_pos c] at z1 z2
        rw [if_pos (show a * q % PR ≤ 1000000 by omega)] at hq
        unfold nrI
        rw [if_pos c]
        refine ⟨fun y => ?_, fun y => ?_⟩
        · rw [if_neg y] at hq; exact hq
        · rw [if_pos y] at hq; exact hq
      · rw [if_neg c] at z1 z2
        rw [if_neg (show ¬ a * q % PR ≤ 1000000 by omega), if_neg (show ¬ a * q % PR < 2146483647 by omega)] at hq
        unfold nrI
        rw [if_neg c]
        refine ⟨fun y => ?_, fun y => ?_⟩
        · rw [if_neg y] at hq; exact hq
        · rw [if_pos y] at hq; exact hq
theorem si_fraction {a1 a2 : Int32} (h : CX L d Ln A Sc Sm x g) : SIM L d Ln A.2.2.1.1 (fun Q => wp_X7_fraction Ln Sc a1 a2 Q) (fun Q => wp_X8_fraction Sm a1 a2 Q) := by
  obtain ⟨hcf, hx, hcv, hg, hC, hM, hA⟩ := id h
  have hP : PR = 2147483647 := rfl
  have e0 : (0 : Int32).toInt = 0 := by decide
  have e1 : (1 : Int32).toInt = 1 := by decide
  have eM : (2147483647 : Int32).toInt = 2147483647 := by decide
  by_cases hi : 0 ≤ a1.toInt ∧ a1.toInt ≤ 2147483646 ∧ 0 ≤ a2.toInt ∧ a2.toInt ≤ 1
  · obtain ⟨a, ha31, rfl⟩ := nI_of (x := a1) (by rw [i32_lt, e0]; omega)
    obtain ⟨w, hw31, rfl⟩ := nI_of (x := a2) (by rw [i32_lt, e0]; omega)
    rw [nI_i ha31, nI_i hw31] at hi
    refine ⟨frN a w 1000 1, A, rfl, fun Q hQ => ?_, fun Q hQ => ?_⟩
    · refine ⟨fun z => ?_, fun _ => ⟨fun z => ?_, fun _ => ⟨fun z => ?_, fun _ => ⟨fun _ => ⟨1001, ct_frac (by omega) (by omega) 1000 1 (by decide) (by decide) (hQ _ hC)⟩, fun z => ?_⟩⟩⟩⟩
      · rw [i32_lt, e0, nI_i ha31] at z; omega
      · rw [i32_le, eM, nI_i ha31] at z; omega
      · rw [i32_lt, e0, nI_i hw31] at z; omega
      · rw [i32_le, e1, nI_i hw31] at z; omega
    · refine sm_fraction (fun z => absurd ?_ z) (fun a' w' ha' hw' e e' => ?_)
      · rw [nI_i ha31, nI_i hw31]; exact hi
      · have i1 : a = a' := (nI_eq (a := a) (b := a') ha31 (by omega)).mp e
        have i2 : w = w' := (nI_eq (a := w) (b := w') hw31 (by omega)).mp e'
        rw [← i1, ← i2]
        exact hQ _ hM
  · refine ⟨-2147483648, A, rfl, fun Q hQ => ?_, fun Q hQ => ?_⟩
    · refine ⟨fun _ => hQ _ hC, fun z1 => ⟨fun _ => hQ _ hC, fun z2 => ⟨fun _ => hQ _ hC, fun z3 => ⟨fun z4 => absurd ⟨?_, ?_, ?_, ?_⟩ hi, fun _ => hQ _ hC⟩⟩⟩⟩
      · rw [i32_lt, e0] at z1; omega
      · rw [i32_le, eM] at z2; omega
      · rw [i32_lt, e0] at z3; omega
      · rw [i32_le, e1] at z4; exact z4
    · exact sm_fraction (fun _ => hQ _ hM) (fun a' w' ha' hw' e e' => absurd (by rw [e, e', nI_i (by omega), nI_i (by omega)]; omega) hi)
end SP
