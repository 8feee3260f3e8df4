/-! the reference's shares: firstChief, ordered, shares, share, lie, table -/
/-- only sums, the spare row of brackets and both rows of products may differ -/
def upX (S S' : ms_T) : Prop := S'.1 = S.1 ∧ S'.2.1 = S.2.1 ∧ (∀ j, j < 25344 → S'.2.2 1 j = S.2.2 1 j) ∧ ∀ k, 4 ≤ k → S'.2.2 k = S.2.2 k
theorem upX_rf {S : ms_T} : upX S S := ⟨rfl, rfl, fun _ _ => rfl, fun _ _ => rfl⟩
theorem upX_tr {S S1 S2 : ms_T} (h : upX S S1) (h1 : upX S1 S2) : upX S S2 := ⟨h1.1.trans h.1, h1.2.1.trans h.2.1, fun j hj => (h1.2.2.1 j hj).trans (h.2.2.1 j hj), fun k hk => (h1.2.2.2 k hk).trans (h.2.2.2 k hk)⟩
theorem upX_S {S S' : ms_T} (h : upS S S') : upX S S' := ⟨h.1, h.2.1, fun j _ => by rw [h.2.2 1 (by decide)], fun k hk => h.2.2 k (by omega)⟩
theorem upX_sJ {S : ms_T} {k i : Nat} {v : Int64} (hk : k = 2 ∨ k = 3) : upX S (ms_sJ S k i v) := by
  refine ⟨rfl, rfl, fun j _ => ?_, fun q hq => ?_⟩
  · show va_up S.2.2 k _ 1 j = _
    rw [va_up_ne _ _ (by omega)]
  · show va_up S.2.2 k _ q = _
    rw [va_up_ne _ _ (by omega)]
theorem mt_upX {L d : Nat} {S S' : ms_T} (h : mt_ok L d S) (hu : upX S S') : mt_ok L d S' := by
  obtain ⟨h1, h2, h3⟩ := hu
  unfold mt_ok at h ⊢
  rw [h1, h2]
  exact h
theorem ck_upX {L d : Nat} {S S' : ms_T} (h : ck_ok L d S) (hu : upX S S') : ck_ok L d S' := by
  obtain ⟨h1, h2, h3, h4⟩ := h
  have hcf := h1.1
  obtain ⟨u1, u2, u3, u4⟩ := id hu
  refine ⟨mt_upX h1 hu, by rw [u1]; exact h2, fun n v a b c => ?_, by rw [u2]; exact h4⟩
  obtain ⟨q1, q2⟩ := h3 n v a b c
  refine ⟨fun hc => ?_, fun hc => by rw [u2]; exact q2 hc⟩
  obtain ⟨r1, r2, r3, r4, r5, r6⟩ := q1 hc
  have h99 : cnt L d (ofs L n + v) ≤ 98 := cnt_99 hcf (Nat.le_of_lt (ofs_all b c))
  have hp := cf_pow hcf b
  unfold rowOK
  rw [u2]
  exact ⟨r1, r2, r3, r4, r5, fun u hu => by rw [u3 _ (by omega)]; exact r6 u hu⟩
/-- the length of the longest chief at the beginning, of length k at most -/
def fcN (L m e : Nat) : Nat → Nat
  | 0 => 0
  | k + 1 => if chf L (k + 1) (e / L ^ (m - (k + 1))) = true then k + 1 else fcN L m e k
def fc (L m e : Nat) : Nat := fcN L m e m
theorem fcN_spec {L m e : Nat} : ∀ k, 1 ≤ k → k ≤ m → 1 ≤ fcN L m e k ∧ fcN L m e k ≤ k ∧ chf L (fcN L m e k) (e / L ^ (m - fcN L m e k)) = true ∧ ∀ j, fcN L m e k < j → j ≤ k → chf L j (e / L ^ (m - j)) = false
  | 0, h, _ => by omega
  | k + 1, h, hm => by
    unfold fcN
    by_cases hc : chf L (k + 1) (e / L ^ (m - (k + 1))) = true
    · rw [if_pos hc]
      exact ⟨by omega, Nat.le_refl _, hc, fun j a b => by omega⟩
    · rw [if_neg hc]
      by_cases hk : k = 0
      · subst hk
        exact absurd chf_1 hc
      · obtain ⟨q1, q2, q3, q4⟩ := fcN_spec (L := L) (m := m) (e := e) k (by omega) (by omega)
        refine ⟨q1, by omega, q3, fun j a b => ?_⟩
        by_cases z : j = k + 1
        · subst z
          cases y : chf L (k + 1) (e / L ^ (m - (k + 1)))
          · rfl
          · exact absurd y hc
        · exact q4 j a (by omega)
theorem fc_spec {L m e : Nat} (h : 1 ≤ m) : 1 ≤ fc L m e ∧ fc L m e ≤ m ∧ chf L (fc L m e) (e / L ^ (m - fc L m e)) = true ∧ ∀ j, fc L m e < j → j ≤ m → chf L j (e / L ^ (m - j)) = false := fcN_spec m h (Nat.le_refl _)
theorem nI_m1 {n : Nat} (h : n < 2 ^ 31) : ¬ nI n = -1 := fun z => by
  have := congrArg Int32.toInt z
  rw [nI_i h, show ((-1) : Int32).toInt = -1 from by decide] at this
  omega
theorem ck_no {L d n v : Nat} {S : ms_T} (h : ck_ok L d S) (h1 : 1 ≤ n) (hn : n ≤ d) (hv : v < L ^ n) : (S.2.1 7 (ofs L n + v) = -1 ↔ chf L n v = false) := by
  obtain ⟨q1, q2⟩ := h.2.2.1 n v h1 hn hv
  have h99 : cnt L d (ofs L n + v) ≤ 98 := cnt_99 h.1.1 (Nat.le_of_lt (ofs_all hn hv))
  refine ⟨fun z => ?_, q2⟩
  cases hc : chf L n v
  · rfl
  · rw [(q1 hc).1] at z
    exact absurd z (nI_m1 (by omega))
theorem div_pow_lt {L m k e : Nat} (hL : 1 ≤ L) (hk : k ≤ m) (he : e < L ^ m) : e / L ^ (m - k) < L ^ k := by
  rw [Nat.div_lt_iff_lt_mul (Nat.pow_pos hL), ← Nat.pow_add, show k + (m - k) = m by omega]; exact he
theorem sp_isFirst {L d m e n v i k : Nat} {S : ms_T} {Q : Int32 → ms_T → Prop} (h : ck_ok L d S) (hn : n ≤ d) (hv : v < L ^ n) (hi : i ≤ n) (hm : m = n - i) (he : e = v % L ^ m) (hk : k ≤ m) (hf : ∀ j, k < j → j ≤ m → chf L j (e / L ^ (m - j)) = false) (hq : Q 1 S) : wp_X8_isFirst S (nI (ofs L n + v)) (nI i) (nI k) Q := by
  have hcf := h.1.1
  have hd := cf_d hcf
  have hL := cf_L hcf
  have hp := cf_pow hcf (show m ≤ d by omega)
  have hel : e < L ^ m := by rw [he]; exact Nat.mod_lt _ hp.1
  have hwe := cf_w hcf (show m ≤ d by omega) hel
  refine sp_end h.1 hn hv hi ?_
  rw [← hm, ← he]
  rintro _ rfl
  rw [nI_1]
  have main : ∀ f j, j + f = m + 1 → k < j → wp_X8_isFirst_13 Q (f + 1) S (nI (ofs L m + e)) (nI j) := by
    intro f
    induction f with
    | zero =>
      intro j hj hkj
      refine ⟨vp_in_nI hwe (by omega), ?_⟩
      rw [mt_l h.1 (by omega) hel]
      exact ⟨fun _ => hq, fun z => absurd (nI_lt (by omega) (by omega)) z⟩
    | succ f ih =>
      intro j hj hkj
      have hdl := div_pow_lt (show 1 ≤ L by omega) (show j ≤ m by omega) hel
      have hwj := cf_w hcf (show j ≤ d by omega) hdl
      refine ⟨vp_in_nI hwe (by omega), ?_⟩
      rw [mt_l h.1 (by omega) hel]
      refine ⟨fun z => absurd z (nI_nlt (by omega) (by omega)), fun _ => ?_⟩
      refine sp_beginning h.1 (by omega) hel (by omega) ⟨vp_in_nI hwj (by omega), ?_⟩
      rw [nI_clamp (by omega)]
      refine ⟨fun _ => ?_, fun z => absurd ((ck_no h (by omega) (by omega) hdl).mpr (hf j hkj (by omega))) z⟩
      rintro _ rfl
      rw [nI_1]
      exact ih (j + 1) (by omega) (by omega)
  exact ⟨_, main (m - k) (k + 1) (by omega) (by omega)⟩
theorem sp_firstChief {L d n v i : Nat} {S : ms_T} {Q : Int32 → ms_T → Prop} (h : ck_ok L d S) (hn : n ≤ d) (hv : v < L ^ n) (hi : i < n) (hq : Q (nI (fc L (n - i) (v % L ^ (n - i)))) S) : wp_X8_firstChief S (nI (ofs L n + v)) (nI i) Q := by
  have hcf := h.1.1
  have hd := cf_d hcf
  have hL := cf_L hcf
  have hw := cf_w hcf hn hv
  obtain ⟨m, hm⟩ : ∃ m, m = n - i := ⟨_, rfl⟩
  obtain ⟨e, he⟩ : ∃ e, e = v % L ^ m := ⟨_, rfl⟩
  have hp := cf_pow hcf (show m ≤ d by omega)
  have hel : e < L ^ m := by rw [he]; exact Nat.mod_lt _ hp.1
  have hwe := cf_w hcf (show m ≤ d by omega) hel
  rw [← hm, ← he] at hq
  obtain ⟨q1, q2, q3, q4⟩ := fc_spec (L := L) (e := e) (show 1 ≤ m by omega)
  refine ⟨vp_in_nI hw (by omega), ?_⟩
  rw [mt_l h.1 hn hv, pk_sub (show i ≤ n by omega), ← hm]
  rintro _ rfl
  have main : ∀ f k, k = fc L m e + f → k ≤ m → wp_X8_firstChief_9 Q (f + 1) S (nI (ofs L n + v)) (nI i) (nI k) := by
    intro f
    induction f with
    | zero =>
      intro k hk hkm
      have : k = fc L m e := by omega
      subst this
      have hdl := div_pow_lt (show 1 ≤ L by omega) hkm hel
      have hwj := cf_w hcf (show fc L m e ≤ d by omega) hdl
      unfold wp_X8_firstChief_9 wb_X8_firstChief_9
      refine sp_end h.1 hn hv (by omega) ?_
      rw [← hm, ← he]
      refine sp_beginning h.1 (by omega) hel hkm ⟨vp_in_nI hwj (by omega), ?_⟩
      rw [nI_clamp (by omega)]
      refine ⟨fun z => absurd ((ck_no h (by omega) (by omega) hdl).mp z) (by rw [q3]; decide), fun _ => ⟨vp_in_nI hw (by omega), ?_⟩⟩
      rw [mt_l h.1 hn hv, pk_sub (show i ≤ n by omega), ← hm]
      refine ⟨fun _ => hq, fun _ => ?_⟩
      exact sp_isFirst h hn hv (by omega) hm he hkm q4 ⟨fun _ => hq, fun z => absurd z (by decide)⟩
    | succ f ih =>
      intro k hk hkm
      have hdl := div_pow_lt (show 1 ≤ L by omega) hkm hel
      have hwj := cf_w hcf (show k ≤ d by omega) hdl
      unfold wp_X8_firstChief_9 wb_X8_firstChief_9
      refine sp_end h.1 hn hv (by omega) ?_
      rw [← hm, ← he]
      refine sp_beginning h.1 (by omega) hel hkm ⟨vp_in_nI hwj (by omega), ?_⟩
      rw [nI_clamp (by omega)]
      refine ⟨fun _ => ?_, fun z => absurd ((ck_no h (by omega) (by omega) hdl).mpr (q4 k (by omega) hkm)) z⟩
      rintro _ rfl
      obtain ⟨j, rfl⟩ : ∃ j, k = j + 1 := ⟨k - 1, by omega⟩
      rw [pk_m1]
      exact ih j (by omega) (by omega)
  exact ⟨_, main (m - fc L m e) m (by omega) (Nat.le_refl _)⟩
/-- the ordered product of a word: fuel, how far it is, the product so far -/
def ordN (L n v : Nat) : Nat → Nat → (Nat → Nat) → Nat → Nat
  | 0, _, P => P
  | f + 1, at', P => if n ≤ at' then P else ordN L n v f (at' + fc L (n - at') (v % L ^ (n - at'))) (fun u => P (u / L ^ fc L (n - at') (v % L ^ (n - at'))) * bas L (fc L (n - at') (v % L ^ (n - at'))) (fc L (n - at') (v % L ^ (n - at'))) (v % L ^ (n - at') / L ^ (n - at' - fc L (n - at') (v % L ^ (n - at')))) (u % L ^ fc L (n - at') (v % L ^ (n - at'))) % PR)
def ordP (L n v : Nat) : Nat → Nat := ordN L n v n 0 (fun _ => 1)
theorem sp_ord_120 {L d at' v1 : Nat} {S0 : ms_T} {P : Nat → Nat} {K : ms_T → Int32 → Int32 → Prop} {Q : ms_T → Prop} {w : Int32} (h : mt_ok L d S0) (ha : at' ≤ d) (hP : ∀ u, u < L ^ at' → S0.2.2 3 u = lN (P u))
    (hk : ∀ S, upX S0 S → S.2.2 0 = S0.2.2 0 → (∀ u, u < L ^ at' → S.2.2 2 u = lN (P u)) → K S w (nI at')) : ∀ k u S, u + k = L ^ at' → upX S0 S → S.2.2 0 = S0.2.2 0 → S.2.2 3 = S0.2.2 3 → (∀ t, t < u → S.2.2 2 t = lN (P t)) → wp_X8_ordered_120 K Q (k + 1) S w (nI at') (nI u) := by
  have hcf := h.1
  have hd := cf_d hcf
  have hp := cf_pow hcf ha
  intro k
  induction k with
  | zero =>
    intro u S hu hx h0 h3 hi
    have : u = L ^ at' := by omega
    subst this
    refine ⟨vp_in_nI (by omega) (by omega), ?_⟩
    rw [mt_p (mt_upX h hx) (by omega)]
    exact ⟨fun _ => hk S hx h0 hi, fun z => absurd (nI_le (Nat.le_refl _) (by omega)) z⟩
  | succ k ih =>
    intro u S hu hx h0 h3 hi
    refine ⟨vp_in_nI (by omega) (by omega), ?_⟩
    rw [mt_p (mt_upX h hx) (by omega)]
    refine ⟨fun z => absurd z (nI_ge (by omega) (by omega)), fun _ => ⟨vp_in_nI (by omega) (by omega), vp_in_nI (by omega) (by omega), ?_⟩⟩
    rintro _ rfl
    rw [nI_clamp (by omega), nI_1, h3, hP u (by omega)]
    refine ih (u + 1) _ (by omega) (upX_tr hx (upX_sJ (Or.inl rfl))) ?_ ?_ (fun t ht => ?_)
    · rw [sJ_r (by decide)]; exact h0
    · rw [sJ_r (by decide)]; exact h3
    · rw [sJ_g, if_pos rfl]
      by_cases z : t = u
      · rw [if_pos z, z]
      · rw [if_neg z]; exact hi t (by omega)
theorem sp_ord_47 {L d at' m c : Nat} {S0 : ms_T} {P B : Nat → Nat} {K : ms_T → Int32 → Int32 → Prop} {Q : ms_T → Prop} {w : Int32} (h : mt_ok L d S0) (ham : at' + m ≤ d) (hc : c ≤ 98) (hP : ∀ u, u < L ^ at' → S0.2.2 2 u = lN (P u) ∧ P u < PR) (hB : ∀ u, u < L ^ m → S0.2.2 1 (256 * c + u) = lN (B u) ∧ B u < PR)
    (hk : ∀ S, upX S0 S → S.2.2 0 = S0.2.2 0 → (∀ u, u < L ^ (at' + m) → S.2.2 2 u = lN (P (u / L ^ m) * B (u % L ^ m) % PR)) → K S w (nI (at' + m))) : ∀ k u S, u + k = L ^ (at' + m) → upX S0 S → S.2.2 0 = S0.2.2 0 → S.2.2 2 = S0.2.2 2 → (∀ t, t < u → S.2.2 3 t = lN (P (t / L ^ m) * B (t % L ^ m) % PR)) → wp_X8_ordered_47 K Q (k + 1) S w (nI at') (nI m) (nI c) (nI u) := by
  have hcf := h.1
  have hd := cf_d hcf
  have hL := cf_L hcf
  have hp := cf_pow hcf ham
  have pm' := cf_pow hcf (show m ≤ d by omega)
  intro k
  induction k with
  | zero =>
    intro u S hu hx h0 h2 hi
    have : u = L ^ (at' + m) := by omega
    subst this
    refine ⟨by rw [nI_add]; exact vp_in_nI (by omega) (by omega), ?_⟩
    rw [nI_add, mt_p (mt_upX h hx) (by omega)]
    refine ⟨fun _ => ?_, fun z => absurd (nI_le (Nat.le_refl _) (by omega)) z⟩
    rintro _ rfl
    refine ⟨L ^ (at' + m) + 1, ?_⟩
    exact sp_ord_120 (S0 := S) (P := fun u => P (u / L ^ m) * B (u % L ^ m) % PR) (v1 := 0) (mt_upX h hx) ham hi (fun S' hu' h0' hi' => hk S' (upX_tr hx hu') (h0'.trans h0) hi') (L ^ (at' + m)) 0 S (by omega) upX_rf rfl rfl (fun t ht => by omega)
  | succ k ih =>
    intro u S hu hx h0 h2 hi
    have hum : u / L ^ m < L ^ at' := by
      rw [Nat.div_lt_iff_lt_mul pm'.1, ← Nat.pow_add]; omega
    have hur : u % L ^ m < L ^ m := Nat.mod_lt _ pm'.1
    have hpa := cf_pow hcf (show at' ≤ d by omega)
    refine ⟨by rw [nI_add]; exact vp_in_nI (by omega) (by omega), ?_⟩
    rw [nI_add, mt_p (mt_upX h hx) (by omega), mt_p (mt_upX h hx) (show m ≤ d + 1 by omega)]
    refine ⟨fun z => absurd z (nI_ge (by omega) (by omega)), fun _ => ?_⟩
    rw [pk_div (by omega) (by omega) (by omega), ri_rem (by omega) (by omega) (by omega), show (256 : Int32) = nI 256 from rfl, pk_mul, nI_add, nI_clamp (show u / L ^ m < 2 ^ 31 by omega), nI_clamp (show 256 * c + u % L ^ m < 2 ^ 31 by omega), nI_clamp (show u < 2 ^ 31 by omega)]
    refine ⟨vp_in_nI (by omega) (by omega), nI_ne (by omega) (by omega), vp_in_nI (by omega) (by omega), vp_in_nI (by omega) (by omega), nI_ne (by omega) (by omega), vp_in_nI (by omega) (by omega), vp_in_nI (by omega) (by omega), ?_⟩
    rintro _ rfl
    rw [h2, hx.2.2.1 _ (by omega), (hP _ hum).1, (hB _ hur).1, rl_mul (hP _ hum).2 (hB _ hur).2, nI_1]
    refine ih (u + 1) _ (by omega) (upX_tr hx (upX_sJ (Or.inr rfl))) ?_ ?_ (fun t ht => ?_)
    · rw [sJ_r (by decide)]; exact h0
    · rw [sJ_r (by decide)]; exact h2
    · rw [sJ_g, if_pos rfl]
      by_cases z : t = u
      · rw [if_pos z, z]
      · rw [if_neg z]; exact hi t (by omega)
theorem sp_ordered {L d n v : Nat} {S0 : ms_T} {Q : ms_T → Prop} (h : ck_ok L d S0) (hn : n ≤ d) (hv : v < L ^ n) (hq : ∀ S, upX S0 S → S.2.2 0 = S0.2.2 0 → (∀ u, u < L ^ n → S.2.2 2 u = lN (ordP L n v u) ∧ ordP L n v u < PR) → Q S) : wp_X8_ordered S0 (nI (ofs L n + v)) Q := by
  have hcf := h.1.1
  have hd := cf_d hcf
  have hL := cf_L hcf
  have hw := cf_w hcf hn hv
  have main : ∀ f at' P S, n ≤ at' + f → at' ≤ n → upX S0 S → S.2.2 0 = S0.2.2 0 → (∀ u, u < L ^ at' → S.2.2 2 u = lN (P u) ∧ P u < PR) → ordP L n v = ordN L n v f at' P → wp_X8_ordered_9 Q (f + 1) S (nI (ofs L n + v)) (nI at') := by
    intro f
    induction f with
    | zero =>
      intro at' P S hf ha hu h0 hP he
      have hk := ck_upX h hu
      have hz : at' = n := by omega
      subst hz
      refine ⟨vp_in_nI hw (by omega), ?_⟩
      rw [mt_l hk.1 hn hv]
      refine ⟨fun _ => ?_, fun hle => absurd (nI_le (Nat.le_refl _) (by omega)) hle⟩
      have e1 : ordP L at' v = P := he
      rw [e1] at hq
      exact hq S hu h0 hP
    | succ f ih =>
      intro at' P S hf ha hu h0 hP he
      have hk := ck_upX h hu
      refine ⟨vp_in_nI hw (by omega), ?_⟩
      rw [mt_l hk.1 hn hv]
      refine ⟨fun hle => ?_, fun hle => ?_⟩
      · have hz : at' = n := by
          have : n ≤ at' := (nI_leI (by omega) (by omega)).mp hle
          omega
        subst hz
        have e1 : ordP L at' v = P := by
          rw [he]
          unfold ordN
          rw [if_pos (Nat.le_refl _)]
        rw [e1] at hq
        exact hq S hu h0 hP
      · have hlt : at' < n := by
          by_cases z : n ≤ at'
          · exact absurd (nI_le z (by omega)) hle
          · omega
        have hp := cf_pow hcf (show n - at' ≤ d by omega)
        have hel : v % L ^ (n - at') < L ^ (n - at') := Nat.mod_lt _ hp.1
        obtain ⟨m, hm⟩ : ∃ m, m = fc L (n - at') (v % L ^ (n - at')) := ⟨_, rfl⟩
        obtain ⟨q1, q2, q3, q4⟩ := fc_spec (L := L) (e := v % L ^ (n - at')) (show 1 ≤ n - at' by omega)
        rw [← hm] at q1 q2 q3
        have hdl := div_pow_lt (show 1 ≤ L by omega) q2 hel
        have hwj := cf_w hcf (show m ≤ d by omega) hdl
        have hwe := cf_w hcf (show n - at' ≤ d by omega) hel
        obtain ⟨r, h99⟩ := ck_row hk q1 (by omega) hdl q3
        refine sp_firstChief hk hn hv hlt ?_
        rw [← hm]
        refine sp_end hk.1 hn hv (by omega) (sp_beginning hk.1 (by omega) hel q2 ⟨vp_in_nI hwj (by omega), ?_⟩)
        rw [nI_clamp (by omega), r.1]
        rintro _ rfl
        refine ⟨L ^ (at' + m) + 1, ?_⟩
        refine sp_ord_47 (P := P) (B := bas L m m (v % L ^ (n - at') / L ^ (n - at' - m))) hk.1 (by omega) h99 hP (fun u hu => ⟨r.2.2.2.2.2 u hu, bas_lt _ _ _ _⟩) (fun S' hu' h0' hi' => ?_) (L ^ (at' + m)) 0 S (by omega) upX_rf rfl rfl (fun t ht => by omega)
        refine ih (at' + m) _ S' (by omega) (by omega) (upX_tr hu hu') (h0'.trans h0) (fun u hu => ⟨hi' u hu, Nat.mod_lt _ (by decide)⟩) ?_
        rw [he]
        show (if n ≤ at' then _ else _) = _
        rw [if_neg (by omega), ← hm]
  refine ⟨vp_in_nI (n := 0) (by decide) (by decide), n + 1, ?_⟩
  refine main n 0 (fun _ => 1) _ (by omega) (by omega) (upX_sJ (Or.inl rfl)) ?_ (fun u hu => ⟨?_, by decide⟩) rfl
  · rw [sJ_r (by decide)]
  · rw [Nat.pow_zero] at hu
    have : u = 0 := by omega
    subst this
    rw [sJ_g, if_pos rfl, show ((0 : Int32)).toNatClampNeg = 0 from by decide, if_pos rfl]
    rfl
/-- one word's ordered product is taken off, behind the word -/
def shW (L d : Nat) (g : Nat → Nat) (w : Nat) : Nat → Nat := fun j => if w < j ∧ j < ofs L (wlen L d w) + L ^ wlen L d w then (g j + (PR - g w * ordP L (wlen L d w) (w - ofs L (wlen L d w)) (j - ofs L (wlen L d w)) % PR)) % PR else g j
/-- the first words' products are taken off -/
def shA (L d : Nat) (g : Nat → Nat) : Nat → Nat → Nat
  | 0 => g
  | w + 1 => shW L d (shA L d g w) w
theorem shW_lt {L d w j : Nat} {g : Nat → Nat} (h : g j < PR) : shW L d g w j < PR := by
  unfold shW
  by_cases e : w < j ∧ j < ofs L (wlen L d w) + L ^ wlen L d w
  · rw [if_pos e]; exact Nat.mod_lt _ (by decide)
  · rw [if_neg e]; exact h
theorem shA_lt {L d : Nat} {g : Nat → Nat} {j : Nat} (h : g j < PR) : ∀ w, shA L d g w j < PR
  | 0 => h
  | w + 1 => shW_lt (shA_lt h w)
theorem rsN_self {x : Nat → Nat} {b n : Nat} : rsN x b n (fun w => x (b + w)) = x := by
  funext j
  unfold rsN
  by_cases h : b ≤ j ∧ j < b + n
  · rw [if_pos h]
    show x (b + (j - b)) = x j
    rw [show b + (j - b) = j by omega]
  · rw [if_neg h]
theorem rsN_rsN {x f g : Nat → Nat} {b n : Nat} : rsN (rsN x b n f) b n g = rsN x b n g := by
  funext j
  unfold rsN
  by_cases h : b ≤ j ∧ j < b + n
  · rw [if_pos h, if_pos h]
  · rw [if_neg h, if_neg h, if_neg h]
theorem rsN_1 {x f : Nat → Nat} {b n i v : Nat} (hi : i < n) : rsN (rsN x b n f) (b + i) 1 (fun _ => v) = rsN x b n (fun j => if j = i then v else f j) := by
  funext j
  unfold rsN
  by_cases h : j = b + i
  · rw [if_pos (by omega), if_pos (by omega)]
    show v = if j - b = i then v else f (j - b)
    rw [if_pos (by omega)]
  · rw [if_neg (by omega)]
    by_cases h2 : b ≤ j ∧ j < b + n
    · rw [if_pos h2, if_pos h2]
      show f (j - b) = if j - b = i then v else f (j - b)
      rw [if_neg (by omega)]
    · rw [if_neg h2, if_neg h2]
theorem sp_shares {L d s : Nat} {S : ms_T} {x : Nat → Nat} {Q : ms_T → Prop} (h : ck_ok L d S) (hx : nums S x) (hs : s < 36) (hq : ∀ S', upX S S' → nums S' (rsN x (364 * s) (ofs L (d + 1)) (shA L d (fun w => x (364 * s + w)) (ofs L (d + 1)))) → Q S') : wp_X8_shares S (nI s) Q := by
  have hcf := h.1.1
  have hd := cf_d hcf
  have hL := cf_L hcf
  have hall := cf_all hcf
  obtain ⟨g, hg⟩ : ∃ g : Nat → Nat, g = fun w => x (364 * s + w) := ⟨_, rfl⟩
  rw [← hg] at hq
  have hgl : ∀ j, j < 364 → g j < PR := fun j hj => by rw [hg]; exact (hx _ (by omega)).2
  have main : ∀ k w S1, w + k = ofs L (d + 1) → upX S S1 → nums S1 (rsN x (364 * s) (ofs L (d + 1)) (shA L d g w)) → wp_X8_shares_2 Q (k + 1) S1 (nI s) (nI w) := by
    intro k
    induction k with
    | zero =>
      intro w S1 hw hu hx1
      have : w = ofs L (d + 1) := by omega
      subst this
      refine ⟨fun _ => hq S1 hu hx1, fun z => absurd ?_ z⟩
      rw [(mt_W (mt_upX h.1 hu)).1]; exact nI_le (Nat.le_refl _) (by omega)
    | succ k ih =>
      intro w S1 hw hu hx1
      have g1 : wlen L d w ≤ d := wlen_le
      have g2 : ofs L (wlen L d w) ≤ w := wlen_lo
      have g3 : w < ofs L (wlen L d w) + L ^ wlen L d w := wlen_hi (by omega)
      obtain ⟨v, hv⟩ : ∃ v, w = ofs L (wlen L d w) + v := ⟨w - ofs L (wlen L d w), by omega⟩
      have hvl : v < L ^ wlen L d w := by omega
      have hi := ih (w + 1)
      obtain ⟨n, hne⟩ : ∃ n, n = wlen L d w := ⟨_, rfl⟩
      have hsw : shA L d g (w + 1) = fun j => if w < j ∧ j < ofs L n + L ^ n then (shA L d g w j + (PR - shA L d g w w * ordP L n v (j - ofs L n) % PR)) % PR else shA L d g w j := by
        show shW L d (shA L d g w) w = _
        unfold shW
        rw [← hne, show w - ofs L n = v by rw [hne]; omega]
      rw [← hne] at hv hvl g1
      have hp := cf_pow hcf g1
      have hww := cf_w hcf g1 hvl
      have hxw := hx1 (364 * s + w) (by omega)
      rw [rsN_in (by omega)] at hxw
      refine ⟨fun z => absurd z ?_, fun _ => ⟨by rw [ix]; exact vp_in_nI (by omega) (by omega), ?_⟩⟩
      · rw [(mt_W (mt_upX h.1 hu)).1]; exact nI_ge (by omega) (by omega)
      rw [ix, nI_clamp (by omega), hxw.1]
      rintro _ rfl
      refine ⟨fun h0 => ?_, fun h0 => ?_⟩
      · rintro _ rfl
        rw [nI_1]
        refine hi S1 (by omega) hu ?_
        have hz : shA L d g w w = 0 := (lN_0 hxw.2).mp h0
        intro j hj
        have e := hx1 j hj
        have ee : rsN x (364 * s) (ofs L (d + 1)) (shA L d g (w + 1)) j = rsN x (364 * s) (ofs L (d + 1)) (shA L d g w) j := by
          unfold rsN
          by_cases hc : 364 * s ≤ j ∧ j < 364 * s + ofs L (d + 1)
          · rw [if_pos hc, if_pos hc, hsw]
            dsimp only
            by_cases hc2 : w < j - 364 * s ∧ j - 364 * s < ofs L n + L ^ n
            · rw [if_pos hc2, hz, Nat.zero_mul, Nat.zero_mod, Nat.sub_zero, Nat.add_mod_right, Nat.mod_eq_of_lt (shA_lt (hgl _ (by omega)) w)]
            · rw [if_neg hc2]
          · rw [if_neg hc, if_neg hc]
        rw [ee]
        exact e
      · obtain ⟨y, hy⟩ : ∃ y, y = shA L d g w w := ⟨_, rfl⟩
        rw [← hy] at hsw hxw ⊢
        have hk1 := ck_upX h hu
        rw [hv]
        refine sp_ordered hk1 g1 hvl (fun S2 hu2 h02 hP => ?_)
        have hk2 := ck_upX hk1 hu2
        have hx2 : nums S2 (rsN x (364 * s) (ofs L (d + 1)) (shA L d g w)) := fun j hj => by rw [h02]; exact hx1 j hj
        refine ⟨vp_in_nI (by omega) (by omega), ?_⟩
        rw [mt_l hk2.1 g1 hvl]
        rintro _ rfl
        refine ⟨vp_in_nI (by omega) (by omega), ?_⟩
        rw [mt_o hk2.1 (by omega), pk_sub (by omega), Nat.add_sub_cancel_left, nI_1]
        rintro _ rfl
        refine ⟨L ^ n - (v + 1) + 1, ?_⟩
        have inner : ∀ k' u S3, u + k' = L ^ n → v < u → upX S2 S3 → S3.2.2 2 = S2.2.2 2 → nums S3 (rsN x (364 * s) (ofs L (d + 1)) (fun j => if w < j ∧ j < ofs L n + u then (shA L d g w j + (PR - y * ordP L n v (j - ofs L n) % PR)) % PR else shA L d g w j)) → wp_X8_shares_55 (wp_X8_shares_2 Q (k + 1)) Q (k' + 1) S3 (nI s) (nI (ofs L n + v)) (lN y) (nI n) (nI u) := by
          intro k'
          induction k' with
          | zero =>
            intro u S3 hku hvu hu3 h32 hx3
            have : u = L ^ n := by omega
            subst this
            have hk3 := ck_upX hk2 hu3
            refine ⟨vp_in_nI (by omega) (by omega), ?_⟩
            rw [mt_p hk3.1 (by omega)]
            refine ⟨fun _ => ?_, fun z => absurd (nI_le (Nat.le_refl _) (by omega)) z⟩
            rintro _ rfl
            rw [nI_1, ← hv]
            refine hi S3 (by omega) (upX_tr hu (upX_tr hu2 hu3)) ?_
            rw [hsw]
            exact hx3
          | succ k' ih2 =>
            intro u S3 hku hvu hu3 h32 hx3
            have hk3 := ck_upX hk2 hu3
            have hwu := cf_w hcf g1 (show u < L ^ n by omega)
            have hua := ofs_all (L := L) g1 (show u < L ^ n by omega)
            have hxu := hx3 (364 * s + (ofs L n + u)) (by omega)
            rw [rsN_in hua, if_neg (by omega)] at hxu
            refine ⟨vp_in_nI (by omega) (by omega), ?_⟩
            rw [mt_p hk3.1 (by omega)]
            refine ⟨fun z => absurd z (nI_ge (by omega) (by omega)), fun _ => ⟨vp_in_nI (by omega) (by omega), ?_⟩⟩
            rw [mt_o hk3.1 (by omega), ix, nI_add, nI_clamp (show 364 * s + ofs L n + u < 2 ^ 31 by omega), nI_clamp (show u < 2 ^ 31 by omega), h32, (hP u (by omega)).1, Nat.add_assoc, hxu.1, rl_mul hxw.2 (hP u (by omega)).2]
            refine ⟨vp_in_nI (by omega) (by omega), vp_in_nI (by omega) (by omega), ?_⟩
            rintro _ rfl
            refine ⟨vp_in_nI (by omega) (by omega), ?_⟩
            refine sp_mod hxu.2 (Nat.mod_lt _ (by decide)) ⟨vp_in_nI (by omega) (by omega), ?_⟩
            rintro _ rfl
            rw [nI_1]
            refine ih2 (u + 1) _ (by omega) (by omega) (upX_tr hu3 (upX_S upS_sJ)) ?_ ?_
            · rw [sJ_r (by decide)]; exact h32
            · have e1 := nums_one (i := 364 * s + (ofs L n + u)) hx3 (show (shA L d g w (ofs L n + u) + (PR - y * ordP L n v u % PR)) % PR < PR from Nat.mod_lt _ (by decide))
              rw [rsN_1 hua] at e1
              refine cast (congrArg (fun f => nums _ (rsN x (364 * s) (ofs L (d + 1)) f)) ?_) e1
              funext j
              by_cases z : j = ofs L n + u
              · rw [if_pos z, if_pos (by omega), z, Nat.add_sub_cancel_left]
              · rw [if_neg z]
                by_cases z2 : w < j ∧ j < ofs L n + u
                · rw [if_pos z2, if_pos (by omega)]
                · rw [if_neg z2, if_neg (by omega)]
        refine inner (L ^ n - (v + 1)) (v + 1) S2 (by omega) (by omega) upX_rf rfl ?_
        refine cast (congrArg (fun f => nums _ (rsN x (364 * s) (ofs L (d + 1)) f)) ?_) hx2
        funext j
        rw [if_neg (by omega)]
  refine ⟨_, main (ofs L (d + 1)) 0 S (by omega) upX_rf ?_⟩
  show nums S (rsN x (364 * s) (ofs L (d + 1)) g)
  rw [hg, rsN_self]
  exact hx
theorem shA_ext {L d : Nat} {f g : Nat → Nat} (h : ∀ j, j < ofs L (d + 1) → f j = g j) : ∀ w, w ≤ ofs L (d + 1) → ∀ j, j < ofs L (d + 1) → shA L d f w j = shA L d g w j
  | 0, _, j, hj => h j hj
  | w + 1, hw, j, hj => by
    have ih := shA_ext h w (by omega)
    show shW L d (shA L d f w) w j = shW L d (shA L d g w) w j
    unfold shW
    rw [ih j hj, ih w (by omega)]
theorem sn_share_T0 {L d a : Nat} {S : ms_T} {x : Nat → Nat} {Q : ms_T → Prop} (h : ck_ok L d S) (hx : nums S x) (ha : a < 36) (hq : ∀ S' x', upX S S' → nums S' x' → agr x' x → (∀ w, w < ofs L (d + 1) → x' (2912 + w) = shA L d (fun w => x (364 * a + w)) (ofs L (d + 1)) w) → Q S') : wp_X8_copies S 8 (nI a) (fun S4 => wp_X8_shares S4 8 Q) := by
  have hall := cf_all h.1.1
  refine sn_copies (s := 8) h.1 hx (by decide) ha (fun S1 hu1 hx1 => ?_)
  refine sp_shares (s := 8) (ck_up h hu1) hx1 (by decide) (fun S2 hu2 hx2 => hq S2 _ (upX_tr (upX_S hu1) hu2) hx2 (fun j hj => ?_) (fun w hw => ?_))
  · rw [rsN_out (by omega), rsN_out (by omega)]
  · rw [show 2912 + w = 364 * 8 + w from rfl, rsN_in hw]
    have : (fun w => rsN x (364 * 8) (ofs L (d + 1)) (fun w => x (364 * a + w)) (364 * 8 + w)) = fun w => if w < ofs L (d + 1) then x (364 * a + w) else x (364 * 8 + w) := by
      funext j
      unfold rsN
      by_cases z : j < ofs L (d + 1)
      · rw [if_pos (by omega), if_pos z, Nat.add_sub_cancel_left]
      · rw [if_neg (by omega), if_neg z]
    rw [this]
    exact shA_ext (fun j hj => by rw [if_pos hj]) _ (Nat.le_refl _) w hw
theorem sm_share {L d : Nat} {S : ms_T} {x : Nat → Nat} {r wd : Int32} {Q : Int32 → ms_T → Prop} (h : ck_ok L d S) (hx : nums S x) (hno : (¬ isS r ∨ wd.toInt < 0 ∨ ∃ c, wd = nI c ∧ c < 2 ^ 31 ∧ wordN L d c = none) → Q (-1) S) (hq : ∀ s c w S' x', s < 8 → r = nI s → wd = nI c → c < 2 ^ 31 → wordN L d c = some w → upX S S' → nums S' x' → agr x' x → Q (nI (shA L d (fun w => x (364 * s + w)) (ofs L (d + 1)) w)) S') : wp_X8_share S r wd Q := by
  have hall := cf_all h.1.1
  have hL := cf_L h.1.1
  refine sp_wordOf h.1 (fun hn => ?_) (fun c e hc hw => ?_) (fun c w e hc hw => ?_)
  · exact sm_isSum (fun s hs e => ⟨fun z => absurd z (by decide), fun _ => ⟨fun z => absurd rfl z, fun _ => hno (Or.inr (Or.inl hn))⟩⟩) (fun hs => ⟨fun _ => hno (Or.inl hs), fun z => absurd rfl z⟩)
  · exact sm_isSum (fun s hs e1 => ⟨fun z => absurd z (by decide), fun _ => ⟨fun z => absurd rfl z, fun _ => hno (Or.inr (Or.inr ⟨c, e, hc, hw⟩))⟩⟩) (fun hs => ⟨fun _ => hno (Or.inl hs), fun z => absurd rfl z⟩)
  · have hwl := wordN_lt (by omega) hw
    refine sm_isSum (fun s hs e1 => ⟨fun z => absurd z (by decide), fun _ => ⟨fun _ => ?_, fun z => absurd z (nI_m1 (by omega))⟩⟩) (fun hs => ⟨fun _ => hno (Or.inl hs), fun z => absurd rfl z⟩)
    have hq' := hq s c w
    subst e1
    refine sn_share_T0 h hx (by omega) (fun S' x' hu hx' ha hs' => ⟨?_, ?_⟩)
    · rw [show (2912 : Int32) = nI 2912 from rfl, nI_add]; exact vp_in_nI (by omega) (by omega)
    · rw [show (2912 : Int32) = nI 2912 from rfl, nI_add, nI_clamp (by omega), (hx' (2912 + w) (by omega)).1, lN_i, hs' w hwl]
      exact hq' S' x' hs rfl e hc hw hu hx' ha
/-- no share at a word that is no chief, ahead of a place -/
def lieB (L d : Nat) (g : Nat → Nat) : Nat → Bool
  | 0 => true
  | w + 1 => lieB L d g w && (decide (g w = 0) || cfP L d w)
theorem lieB_all {L d : Nat} {g : Nat → Nat} : ∀ W, lieB L d g W = true ↔ ∀ w, w < W → g w = 0 ∨ cfP L d w = true
  | 0 => ⟨fun _ w hw => by omega, fun _ => rfl⟩
  | W + 1 => by
    unfold lieB
    rw [Bool.and_eq_true, Bool.or_eq_true, decide_eq_true_eq, lieB_all W]
    constructor
    · intro h w hw
      by_cases e : w = W
      · rw [e]; exact h.2
      · exact h.1 w (by omega)
    · intro h
      exact ⟨fun w hw => h w (by omega), h W (by omega)⟩
theorem ck_w {L d w : Nat} {S : ms_T} (h : ck_ok L d S) (hw : w < ofs L (d + 1)) : (S.2.1 7 w = -1 ↔ cfP L d w = false) := by
  by_cases z : w = 0
  · subst z
    refine ⟨fun _ => ?_, fun _ => h.2.2.2⟩
    unfold cfP
    rw [decide_eq_false (by omega), Bool.false_and]
  · have g1 : wlen L d w ≤ d := wlen_le
    have g2 : ofs L (wlen L d w) ≤ w := wlen_lo
    have g3 : w < ofs L (wlen L d w) + L ^ wlen L d w := wlen_hi hw
    have n1 : 1 ≤ wlen L d w := by
      by_cases e : wlen L d w = 0
      · rw [e, Nat.pow_zero] at g3
        have : ofs L 0 = 0 := rfl
        omega
      · omega
    obtain ⟨v, hv⟩ : ∃ v, w = ofs L (wlen L d w) + v := ⟨w - ofs L (wlen L d w), by omega⟩
    have hvl : v < L ^ wlen L d w := by omega
    generalize wlen L d w = n at hv hvl g1 n1
    subst hv
    rw [cfP_of n1 g1 hvl]
    exact ck_no h n1 g1 hvl
theorem sp_isLie {L d a : Nat} {S : ms_T} {x : Nat → Nat} {Q : Int32 → ms_T → Prop} (h : ck_ok L d S) (hx : nums S x) (ha : a < 36) (hq : ∀ S' x', upX S S' → nums S' x' → agr x' x → Q (b01 (lieB L d (shA L d (fun w => x (364 * a + w)) (ofs L (d + 1))) (ofs L (d + 1)))) S') : wp_X8_isLie S (nI a) Q := by
  have hall := cf_all h.1.1
  refine sn_share_T0 h hx ha (fun S' x' hu hx' hag hs' => ?_)
  have hk := ck_upX h hu
  obtain ⟨g, hg⟩ : ∃ g, g = shA L d (fun w => x (364 * a + w)) (ofs L (d + 1)) := ⟨_, rfl⟩
  have hq' := hq S' x' hu hx' hag
  rw [← hg] at hq' hs'
  have main : ∀ k w, w + k = ofs L (d + 1) → lieB L d g w = true → wp_X8_isLie_15 Q (k + 1) S' (nI w) := by
    intro k
    induction k with
    | zero =>
      intro w hw hl
      have : w = ofs L (d + 1) := by omega
      subst this
      rw [hl] at hq'
      refine ⟨fun _ => hq', fun z => absurd ?_ z⟩
      rw [(mt_W hk.1).1]; exact nI_le (Nat.le_refl _) (by omega)
    | succ k ih =>
      intro w hw hl
      refine ⟨fun z => absurd z (by rw [(mt_W hk.1).1]; exact nI_ge (by omega) (by omega)), fun _ => ?_⟩
      have hxw := hx' (2912 + w) (by omega)
      rw [hs' w (by omega)] at hxw
      rw [show (2912 : Int32) = nI 2912 from rfl, nI_add, nI_clamp (show 2912 + w < 2 ^ 31 by omega), hxw.1, nI_clamp (show w < 2 ^ 31 by omega)]
      have hgo : (g w = 0 ∨ cfP L d w = true) → wp_X8_isLie_50 (wp_X8_isLie_15 Q (k + 1)) Q S' (nI w) := by
        intro hc
        rintro _ rfl
        rw [nI_1]
        refine ih (w + 1) (by omega) ?_
        show (lieB L d g w && (decide (g w = 0) || cfP L d w)) = true
        rw [hl, Bool.true_and, Bool.or_eq_true, decide_eq_true_eq]
        exact hc
      refine ⟨vp_in_nI (by omega) (by omega), fun h0 => hgo (Or.inl ((lN_0 hxw.2).mp h0)), fun h0 => ⟨vp_in_nI (by omega) (by omega), fun hc => hgo (Or.inr ?_), fun hc => ?_⟩⟩
      · cases y : cfP L d w
        · exact absurd ((ck_w hk (by omega)).mpr y) hc
        · rfl
      · have hf : cfP L d w = false := (ck_w hk (by omega)).mp hc
        have : lieB L d g (ofs L (d + 1)) = false := by
          cases y : lieB L d g (ofs L (d + 1))
          · rfl
          · exfalso
            rcases (lieB_all _).mp y w (by omega) with q | q
            · exact h0 ((lN_0 hxw.2).mpr q)
            · rw [hf] at q; cases q
        rw [this] at hq'
        exact hq'
  exact ⟨_, main (ofs L (d + 1)) 0 (by omega) rfl⟩
theorem sm_lie {L d : Nat} {S : ms_T} {x : Nat → Nat} {r : Int32} {Q : Int32 → ms_T → Prop} (h : ck_ok L d S) (hx : nums S x) (hno : ¬ isS r → Q (-1) S) (hq : ∀ s S' x', s < 8 → r = nI s → upX S S' → nums S' x' → agr x' x → Q (b01 (lieB L d (shA L d (fun w => x (364 * s + w)) (ofs L (d + 1))) (ofs L (d + 1)))) S') : wp_X8_lie S r Q := by
  refine sm_isSum (fun s hs e => ⟨fun z => absurd z (by decide), fun _ => ?_⟩) (fun hn => ⟨fun _ => hno hn, fun z => absurd rfl z⟩)
  have hq' := hq s
  subst e
  refine sp_isLie h hx (by omega) (fun S' x' hu hx' ha => ?_)
  have := hq' S' x' hs rfl hu hx' ha
  refine ⟨fun z => ?_, fun z => ?_⟩
  · rw [b01_0 z] at this; exact this
  · rw [b01_1 z] at this; exact this
