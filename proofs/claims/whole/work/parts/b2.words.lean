/-! the class's words as calls tell them, and its chiefs' tables -/
def vlN (L c : Nat) : Nat → Nat
  | 0 => 0
  | n + 1 => vlN L c n + (c / 8 ^ n % 8 - 1) * L ^ n
theorem vlN_lt {L c : Nat} : ∀ n, (∀ k, k < n → 1 ≤ c / 8 ^ k % 8 ∧ c / 8 ^ k % 8 ≤ L) → vlN L c n < L ^ n
  | 0, _ => by rw [Nat.pow_zero]; exact Nat.zero_lt_one
  | n + 1, h => by
    have ih := vlN_lt (L := L) (c := c) n (fun k hk => h k (by omega))
    have := h n (by omega)
    show vlN L c n + (c / 8 ^ n % 8 - 1) * L ^ n < _
    exact so_lt ih (by omega)
theorem woV_eq {L c : Nat} : ∀ i v, woV L c i v = if (∀ k, k < i → 1 ≤ c / 8 ^ k % 8 ∧ c / 8 ^ k % 8 ≤ L) then some (v * L ^ i + vlN L c i) else none
  | 0, v => by
    rw [if_pos (fun k hk => absurd hk (Nat.not_lt_zero k)), Nat.pow_zero, Nat.mul_one]
    rfl
  | i + 1, v => by
    unfold woV
    by_cases h : 1 ≤ c / 8 ^ i % 8 ∧ c / 8 ^ i % 8 ≤ L
    · rw [if_pos h, woV_eq i]
      by_cases h2 : ∀ k, k < i → 1 ≤ c / 8 ^ k % 8 ∧ c / 8 ^ k % 8 ≤ L
      · rw [if_pos h2, if_pos (fun k hk => by
          by_cases e : k = i
          · rw [e]; exact h
          · exact h2 k (by omega))]
        refine congrArg some ?_
        show _ = v * L ^ (i + 1) + (vlN L c i + (c / 8 ^ i % 8 - 1) * L ^ i)
        rw [Nat.pow_succ, show L * v + c / 8 ^ i % 8 - 1 = L * v + (c / 8 ^ i % 8 - 1) by omega, Nat.add_mul, Nat.mul_comm (L ^ i) L, ← Nat.mul_assoc, Nat.mul_comm v L]
        omega
      · rw [if_neg h2, if_neg (fun q => h2 (fun k hk => q k (by omega)))]
    · rw [if_neg h, if_neg (fun q => h (q i (by omega)))]
theorem oct_spec : ∀ f r, r < 8 ^ f → r / 8 ^ oct f r = 0 ∧ ∀ m, m < oct f r → r / 8 ^ m ≠ 0
  | 0, r, h => by
    rw [Nat.pow_zero] at h
    have : r = 0 := by omega
    subst this
    exact ⟨rfl, fun m hm => absurd hm (Nat.not_lt_zero m)⟩
  | f + 1, r, h => by
    unfold oct
    by_cases h0 : r = 0
    · rw [if_pos h0, h0]
      exact ⟨rfl, fun m hm => absurd hm (Nat.not_lt_zero m)⟩
    · rw [if_neg h0]
      obtain ⟨i1, i2⟩ := oct_spec f (r / 8) (by rw [Nat.pow_succ] at h; omega)
      refine ⟨?_, fun m hm => ?_⟩
      · rw [Nat.pow_succ, Nat.mul_comm, ← Nat.div_div_eq_div_mul]; exact i1
      · cases m with
        | zero => rw [Nat.pow_zero, Nat.div_one]; exact h0
        | succ m =>
          rw [Nat.pow_succ, Nat.mul_comm, ← Nat.div_div_eq_div_mul]
          exact i2 m (by omega)
theorem dv8_z {r m n : Nat} (h : r / 8 ^ m = 0) (hmn : m ≤ n) : r / 8 ^ n = 0 := by
  obtain ⟨k, rfl⟩ : ∃ k, n = m + k := ⟨n - m, by omega⟩
  rw [Nat.pow_add, ← Nat.div_div_eq_div_mul, h, Nat.zero_div]
theorem oct_u {c n : Nat} (hc : c < 2 ^ 31) (h0 : c / 8 ^ n = 0) (h1 : ∀ m, m < n → c / 8 ^ m ≠ 0) : oct 11 c = n := by
  obtain ⟨i1, i2⟩ := oct_spec 11 c (by omega)
  rcases Nat.lt_trichotomy (oct 11 c) n with q | q | q
  · exact absurd i1 (h1 _ q)
  · exact q
  · exact absurd h0 (i2 _ q)
theorem cq_place {L d : Nat} {Ln : Nat → Nat} {S : cs_T} {r : Int32} {Q : Int32 → cs_T → Prop} (h : cw_ok L d Ln S) (hneg : r.toInt < 0 → Q (-1) S) (hno : ∀ c, r = nI c → c < 2 ^ 31 → wordN L d c = none → Q (-1) S) (hq : ∀ c w, r = nI c → c < 2 ^ 31 → wordN L d c = some w → Q (nI w) S) : wp_X6_placeOf Ln S r Q := by
  have hcf := h.1
  have hd := cf_d hcf
  have hL := cf_L hcf
  refine ⟨fun h0 => ?_, fun h0 => hneg ?_⟩
  · have h0' : 0 ≤ r.toInt := by
      have := Int32.le_iff_toInt_le.mp h0
      rwa [Int32.toInt_zero] at this
    obtain ⟨c, hc, rfl⟩ : ∃ c, c < 2 ^ 31 ∧ r = nI c := by
      have hlt := Int32.toInt_lt r
      refine ⟨r.toInt.toNat, by omega, ?_⟩
      apply Int32.toInt_inj.mp
      rw [nI_toInt (by omega)]
      omega
    have hno' := hno c rfl hc
    have hq' := fun w => hq c w rfl hc
    obtain ⟨o1, o2⟩ := oct_spec 11 c (by omega)
    have key := pk_loop (σ := Unit) (fun k n _ => wp_X6_placeOf_16 Ln Q k S (nI (c / 8 ^ n)) (nI (vlN L c n)) (nI n) (nI n)) (fun n _ => (∀ k, k < n → 1 ≤ c / 8 ^ k % 8 ∧ c / 8 ^ k % 8 ≤ L) ∧ ∀ m, m < n → c / 8 ^ m ≠ 0) d 0 () (Nat.zero_le _) ⟨fun k hk => absurd hk (Nat.not_lt_zero k), fun m hm => absurd hm (Nat.not_lt_zero m)⟩ ?_ ?_
    · rw [Nat.pow_zero, Nat.div_one] at key
      exact key
    all_goals
      have fin : ∀ n, n ≤ d → (∀ k, k < n → 1 ≤ c / 8 ^ k % 8 ∧ c / 8 ^ k % 8 ≤ L) → (∀ m, m < n → c / 8 ^ m ≠ 0) → (n = d ∨ c / 8 ^ n = 0) → wp_X6_placeOf_82 Ln Q S (nI (c / 8 ^ n)) (nI (vlN L c n)) (nI n) := by
        intro n hn hdg hnz hor
        have hdl : c / 8 ^ n ≤ c := Nat.div_le_self _ _
        have hdl0 := Nat.zero_le (c / 8 ^ n)
        refine pk_le (c / 8 ^ n) 0 (fun hz => ?_) (fun hz => ?_)
        · have ho := oct_u hc (by omega) hnz
          have hvl := vlN_lt n hdg
          have hpn := cf_pow hcf hn
          refine ⟨by rw [h.2.2.2.2.1]; exact vp_in_nI (by omega) (by omega), ?_⟩
          rw [cw_s h (by omega), nI_add]
          refine hq' _ ?_
          unfold wordN
          rw [ho, if_pos hn, woV_eq, if_pos hdg, Nat.zero_mul, Nat.zero_add]
          rfl
        · refine hno' ?_
          unfold wordN
          rw [if_neg]
          intro hle
          have : n = d := by omega
          subst this
          have := dv8_z o1 hle
          omega
    · rintro k _ ⟨hdg, hnz⟩
      exact ⟨fun _ => fin d (Nat.le_refl _) hdg hnz (Or.inl rfl), fun z => absurd (by rw [h.2.2.1]; exact nI_le (Nat.le_refl _) (by omega)) z⟩
    · rintro k n _ hn ⟨hdg, hnz⟩ hk
      have hdl : c / 8 ^ n ≤ c := Nat.div_le_self _ _
      have hdl0 := Nat.zero_le (c / 8 ^ n)
      refine ⟨fun z => absurd z (by rw [h.2.2.1]; exact nI_ge hn (by omega)), fun _ => pk_le (c / 8 ^ n) 0 (fun hz => fin n (by omega) hdg hnz (Or.inr (by omega))) (fun hz => ?_)⟩
      rw [pk_andN (n := c / 8 ^ n) (by omega) (m := 7) 3 (by decide), show (2 : Nat) ^ 3 = 8 by decide]
      have hbad : ¬ (1 ≤ c / 8 ^ n % 8 ∧ c / 8 ^ n % 8 ≤ L) → Q (-1) S := fun hb => hno' (by
        unfold wordN
        by_cases hle : oct 11 c ≤ d
        · rw [if_pos hle, woV_eq, if_neg, Option.map_none]
          intro q
          refine hb (q n ?_)
          by_cases e : n < oct 11 c
          · exact e
          · have := dv8_z o1 (show oct 11 c ≤ n by omega)
            omega
        · rw [if_neg hle])
      rintro _ rfl
      by_cases h8 : c / 8 ^ n % 8 = 0
      · rw [h8]
        exact ⟨fun _ => hbad (by omega), fun z => absurd (by decide) z⟩
      · rw [show nI (c / 8 ^ n % 8) - 1 = nI (c / 8 ^ n % 8 - 1) from pk_sub (b := 1) (by omega)]
        refine ⟨fun z => absurd z (nI_pos (by omega)), fun _ => ?_⟩
        rw [h.2.1]
        refine pk_lt (c / 8 ^ n % 8 - 1) L (fun hlt => ?_) (fun hge => hbad (by omega))
        refine ⟨by rw [h.2.2.2.1]; exact vp_in_nI (by omega) (by omega), ?_⟩
        rw [cw_p h (by omega), pk_mul, nI_add]
        rintro _ rfl _ rfl _ rfl _ rfl
        rw [nI_1, pk_shrN (n := c / 8 ^ n) (by omega) ((3 : Int32) &&& 31) 3 (by decide), Nat.div_div_eq_div_mul, show 8 ^ n * 2 ^ 3 = 8 ^ (n + 1) from by rw [Nat.pow_succ 8 n]]
        refine hk () ⟨fun k hk => ?_, fun m hm => ?_⟩
        · by_cases e : k = n
          · rw [e]; omega
          · exact hdg k (by omega)
        · by_cases e : m = n
          · rw [e]; omega
          · exact hnz m (by omega)
  · have : ¬ 0 ≤ r.toInt := fun q => h0 (Int32.le_iff_toInt_le.mpr (by rw [Int32.toInt_zero]; exact q))
    omega
/-! codes -/
def tdN (L v : Nat) : Nat → Nat
  | 0 => 0
  | n + 1 => tdN L v n + (v / L ^ n % L + 1) * 8 ^ n
theorem tdN_f {L : Nat} : ∀ i u, tdN L u (i + 1) = u % L + 1 + 8 * tdN L (u / L) i
  | 0, u => by
    show 0 + (u / L ^ 0 % L + 1) * 8 ^ 0 = _
    rw [Nat.pow_zero, Nat.pow_zero, Nat.div_one, Nat.mul_one]
    show _ = u % L + 1 + 8 * 0
    omega
  | i + 1, u => by
    show tdN L u (i + 1) + (u / L ^ (i + 1) % L + 1) * 8 ^ (i + 1) = u % L + 1 + 8 * (tdN L (u / L) i + (u / L / L ^ i % L + 1) * 8 ^ i)
    rw [tdN_f i u, dv_dv, Nat.pow_succ 8 i, Nat.mul_add 8, ← Nat.mul_assoc, Nat.mul_comm _ 8, Nat.add_assoc]
theorem cdN_eq {L n v : Nat} : ∀ i, i ≤ n → cdN L n v i = tdN L (v / L ^ (n - i)) i
  | 0, _ => rfl
  | i + 1, hi => by
    show 8 * cdN L n v i + ltr L n v i + 1 = _
    rw [cdN_eq i (by omega), tdN_f, ← dv_dv', show n - (i + 1) + 1 = n - i by omega]
    unfold ltr
    rw [show n - 1 - i = n - (i + 1) by omega]
    omega
theorem tdN_lt {L v : Nat} (hL : 1 ≤ L) (hL4 : L ≤ 4) : ∀ n, tdN L v n < 8 ^ n
  | 0 => by rw [Nat.pow_zero]; exact Nat.zero_lt_one
  | n + 1 => by
    have ih := tdN_lt (v := v) hL hL4 n
    have : v / L ^ n % L < L := Nat.mod_lt _ hL
    show tdN L v n + (v / L ^ n % L + 1) * 8 ^ n < 8 ^ (n + 1)
    exact so_lt ih (by omega)
theorem i_or {a b k : Nat} (ha : a < 2 ^ k) (h : a + b * 2 ^ k < 2 ^ 31) : nI a ||| nI (b * 2 ^ k) = nI (a + b * 2 ^ k) := by
  apply Int32.toBitVec_inj.mp
  rw [Int32.toBitVec_or]
  apply BitVec.eq_of_toNat_eq
  rw [BitVec.toNat_or, pk_tn (by omega), pk_tn (by omega), pk_tn (by omega), Nat.or_comm, Nat.mul_comm b, ← Nat.two_pow_add_eq_or_of_lt ha, Nat.add_comm]
theorem sh_3 : ∀ n, n < 6 → (((3 * nI n) &&& 31).toBitVec.smod 32).toNat = 3 * n := by decide
theorem cq_told {L d n v : Nat} {Ln : Nat → Nat} {S : cs_T} {Q : Int32 → cs_T → Prop} (h : cw_ok L d Ln S) (hn : n ≤ d) (hv : v < L ^ n) (hq : Q (nI (cdN L n v n)) S) : wp_X6_toldOf Ln S (nI (ofs L n + v)) Q := by
  have hcf := h.1
  have hd := cf_d hcf
  have hL := cf_L hcf
  have hpn := cf_pow hcf hn
  refine cp_lengthOf h hn hv ⟨by rw [h.2.2.2.2.1]; exact vp_in_nI (by omega) (by omega), ?_⟩
  rw [cw_s h (by omega), pk_sub (by omega), Nat.add_sub_cancel_left]
  rintro _ rfl
  have key := pk_loop (σ := Unit) (fun k i _ => wp_X6_toldOf_21 Ln Q k S (nI n) (nI (v / L ^ i)) (nI (tdN L v i)) (nI i)) (fun i _ => True) n 0 () (Nat.zero_le _) trivial ?_ ?_
  · rw [Nat.pow_zero, Nat.div_one] at key
    exact key
  · intro k _ _
    refine ⟨fun _ => ?_, fun z => absurd (nI_le (Nat.le_refl _) (by omega)) z⟩
    have := cdN_eq (L := L) (n := n) (v := v) n (Nat.le_refl _)
    rw [Nat.sub_self, Nat.pow_zero, Nat.div_one] at this
    rw [← this]; exact hq
  · intro k i _ hi _ hk
    have hdl : v / L ^ i ≤ v := Nat.div_le_self _ _
    have hml : v / L ^ i % L < L := Nat.mod_lt _ (by omega)
    have htd := tdN_lt (L := L) (v := v) (by omega) (by omega) i
    have htd1 := tdN_lt (L := L) (v := v) (by omega) (by omega) (i + 1)
    have h8 : (8 : Nat) ^ (i + 1) ≤ 8 ^ 6 := Nat.pow_le_pow_right (by decide) (by omega)
    have e8 : (2 : Nat) ^ (3 * i) = 8 ^ i := by rw [Nat.pow_mul]
    have htd2 : tdN L v i + (v / L ^ i % L + 1) * 8 ^ i < 8 ^ (i + 1) := htd1
    have h86 : (8 : Nat) ^ 6 = 262144 := by decide
    refine ⟨fun z => absurd z (nI_ge hi (by omega)), fun _ => ?_⟩
    rw [h.2.1]
    refine ⟨nI_ne (by omega) (by omega), ?_⟩
    rintro _ rfl
    refine ⟨nI_ne (by omega) (by omega), ?_⟩
    rintro _ rfl _ rfl
    rw [ri_rem (by omega) (by omega) (by omega), nI_1, pk_shlN _ (3 * i) (sh_3 i (by omega)) (by rw [e8]; omega), i_or (by rw [e8]; exact htd) (by rw [e8]; omega), e8, pk_div (by omega) (by omega) (by omega), nI_1, Nat.div_div_eq_div_mul, ← Nat.pow_succ]
    exact hk () trivial
/-! the chiefs' tables -/
def chC (L d : Nat) : Nat := cnt L d (ofs L (d + 1))
def cch (L d : Nat) (Ln : Nat → Nat) (S : cs_T) : Prop := Ln 33 = chC L d ∧ Ln 34 = chC L d ∧ Ln 35 = chC L d ∧ Ln 36 = d + 2 ∧ Ln 37 = d ∧ (∀ m, 1 ≤ m → m ≤ d + 1 → S.2.1 36 m = nI (cnt L d (ofs L m))) ∧ ∀ n v, 1 ≤ n → n ≤ d → v < L ^ n → chf L n v = true → S.2.1 33 (cnt L d (ofs L n + v)) = nI (ofs L n + v) ∧ S.2.1 34 (cnt L d (ofs L n + v)) = sideI L d n v 0 ∧ S.2.1 35 (cnt L d (ofs L n + v)) = sideI L d n v 1
def kW : Nat → Prop := fun k => (3 ≤ k ∧ k ≤ 32) ∨ k = 37
theorem upK_W {S S' : cs_T} (h : upK kV S S') : upK kW S S' := upK_w h (fun _ hk => Or.inl hk)
theorem cch_up {L d : Nat} {Ln : Nat → Nat} {S S' : cs_T} (h : cch L d Ln S) (hu : upK kW S S') : cch L d Ln S' := by
  unfold cch at h ⊢
  rw [hu.2.2 33 (by unfold kW; omega), hu.2.2 34 (by unfold kW; omega), hu.2.2 35 (by unfold kW; omega), hu.2.2 36 (by unfold kW; omega)]
  exact h
section CC
variable {L d : Nat} {Ln : Nat → Nat} {S : cs_T} {Q : Int32 → cs_T → Prop}
theorem chC_98 (h : cf_ok L d) : chC L d ≤ 98 := cnt_99 h (Nat.le_refl _)
theorem cq_all (h : cw_ok L d Ln S) (hc : cch L d Ln S) (hq : Q (nI (chC L d)) S) : wp_X1_all Ln S Q := by
  have hd := cf_d h.1
  unfold wp_X1_all
  rw [h.2.2.1, nI_1, hc.2.2.2.1, nI_clamp (by omega), hc.2.2.2.2.2.1 (d + 1) (by omega) (by omega)]
  exact ⟨vp_in_nI (by omega) (by omega), hq⟩
theorem cq_noChief {i : Int32} (h : cw_ok L d Ln S) (hc : cch L d Ln S) (h1 : ∀ n v, 1 ≤ n → n ≤ d → v < L ^ n → chf L n v = true → i = nI (cnt L d (ofs L n + v)) → Q 0 S) (h0 : ¬ (0 ≤ i.toInt ∧ i.toInt < cnt L d (ofs L (d + 1))) → Q 1 S) : wp_X7_noChief Ln S i Q := by
  have hC := chC_98 h.1
  refine ⟨fun z => h0 (fun q => ?_), fun z => ?_⟩
  · have := Int32.lt_iff_toInt_lt.mp z
    rw [Int32.toInt_zero] at this
    omega
  · refine cq_all h hc ⟨fun hlt => ?_, fun hge => h0 (fun q => hge ?_)⟩
    · have z1 : ¬ i.toInt < 0 := fun q => z (Int32.lt_iff_toInt_lt.mpr (by rw [Int32.toInt_zero]; exact q))
      have z2 := Int32.lt_iff_toInt_lt.mp hlt
      rw [nI_toInt (by omega)] at z2
      obtain ⟨n, v, a1, a2, a3, a4, a5, a6⟩ := chief_ex (L := L) (d := d) (i := i.toInt.toNat) (ofs L (d + 1)) (Nat.le_refl _) (by unfold chC at z2; omega)
      refine h1 n v a1 a2 a3 a4 ?_
      apply Int32.toInt_inj.mp
      rw [a6, nI_toInt (by omega)]
      omega
    · rw [Int32.lt_iff_toInt_lt, nI_toInt (by omega)]
      exact q.2
theorem cq_ofLength {n : Nat} (h : cw_ok L d Ln S) (hc : cch L d Ln S) (h1 : 1 ≤ n) (hn : n ≤ d) (hq : Q (nI (cnt L d (ofs L (n + 1)) - cnt L d (ofs L n))) S) : wp_X1_ofLength Ln S (nI n) Q := by
  have hd := cf_d h.1
  have hm : cnt L d (ofs L n) ≤ cnt L d (ofs L (n + 1)) := cnt_mono (ofs_mono (by omega))
  unfold wp_X1_ofLength
  rw [nI_1, hc.2.2.2.1, nI_clamp (by omega), nI_clamp (by omega), hc.2.2.2.2.2.1 (n + 1) (by omega) (by omega), hc.2.2.2.2.2.1 n (by omega) (by omega), pk_sub hm]
  exact ⟨vp_in_nI (by omega) (by omega), vp_in_nI (by omega) (by omega), hq⟩
theorem cntn_of {n : Nat} (h1 : 1 ≤ n) (hn : n ≤ d) : cntn L d n (ofs L (d + 1)) = cnt L d (ofs L (n + 1)) - cnt L d (ofs L n) := by
  have lo : ∀ w, w ≤ ofs L n → cntn L d n w = 0 := by
    intro w
    induction w with
    | zero => intro _; rfl
    | succ w ih =>
      intro hw
      obtain ⟨m, u, hm, hu, rfl⟩ := pl_ex (L := L) (d := d) (w := w) (by have : ofs L n ≤ ofs L (d + 1) := ofs_mono (by omega); omega)
      have hne : wlen L d (ofs L m + u) ≠ n := by
        rw [wlen_of hm hu]
        rintro rfl
        omega
      have := ih (by omega)
      unfold cntn
      rw [this, if_neg (fun z => hne z.2)]
  have mid : ∀ u, u ≤ L ^ n → cntn L d n (ofs L n + u) = cnt L d (ofs L n + u) - cnt L d (ofs L n) := by
    intro u
    induction u with
    | zero => intro _; rw [Nat.add_zero, lo _ (Nat.le_refl _)]; omega
    | succ u ih =>
      intro hu
      have i1 := ih (by omega)
      have hmono : cnt L d (ofs L n) ≤ cnt L d (ofs L n + u) := cnt_mono (by omega)
      rw [show ofs L n + (u + 1) = ofs L n + u + 1 by omega, cnt_step h1 hn (by omega)]
      show cntn L d n (ofs L n + u + 1) = _
      unfold cntn
      rw [wlen_of hn (by omega), cfP_of h1 hn (by omega), i1]
      by_cases hc : chf L n u = true
      · rw [if_pos ⟨hc, rfl⟩, if_pos hc]; omega
      · rw [if_neg (fun z => hc z.1), if_neg hc]; omega
  have hi : ∀ w, ofs L (n + 1) ≤ w → w ≤ ofs L (d + 1) → cntn L d n w = cntn L d n (ofs L (n + 1)) := by
    intro w
    induction w with
    | zero => intro hw _; rw [show ofs L (n + 1) = 0 by omega]
    | succ w ih =>
      intro hw hw2
      by_cases e : ofs L (n + 1) = w + 1
      · rw [e]
      · have i1 := ih (by omega) (by omega)
        obtain ⟨m, u, hm, hu, rfl⟩ := pl_ex (L := L) (d := d) (w := w) (by omega)
        have hne : wlen L d (ofs L m + u) ≠ n := by
          rw [wlen_of hm hu]
          rintro rfl
          have : ofs L (m + 1) = ofs L m + L ^ m := rfl
          omega
        rw [← i1]
        conv => lhs; unfold cntn
        rw [if_neg (fun z => hne z.2)]
        rfl
  rw [hi _ (ofs_mono (by omega)) (Nat.le_refl _)]
  exact mid (L ^ n) (Nat.le_refl _)
end CC
