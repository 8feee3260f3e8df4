/-! SHUFFLE: the class by interleavings from the last letters, the reference by sets of places; both by the last letter -/
def drL (L c : Nat) (x : Nat → Nat → Kf) : Nat → Nat → Kf := fun n u => x (n + 1) (L * u + c)
def shR (L : Nat) : Nat → (Nat → Nat → Kf) → (Nat → Nat → Kf) → Nat → Kf
  | 0, x, y, _ => x 0 0 * y 0 0
  | N + 1, x, y, V => shR L N (drL L (V % L) x) y (V / L) + shR L N x (drL L (V % L) y) (V / L)
theorem ltr_dv {L n v i : Nat} (hi : i < n) : ltr L (n + 1) v i = ltr L n (v / L) i := by
  unfold ltr
  rw [Nat.div_div_eq_div_mul, show n + 1 - 1 - i = (n - 1 - i) + 1 by omega, Nat.pow_succ, Nat.mul_comm]
theorem ltr_last {L n v : Nat} : ltr L (n + 1) v n = v % L := by
  unfold ltr
  rw [show n + 1 - 1 - n = 0 by omega, Nat.pow_zero, Nat.div_one]
theorem shS_dv {L n v st st' : Nat} : ∀ i, i ≤ n → (∀ k, k < i → st / 2 ^ k % 2 = st' / 2 ^ k % 2) → shS L (n + 1) v st i = shS L n (v / L) st' i
  | 0, _, _ => rfl
  | i + 1, hi, hb => by
    have ih := shS_dv (L := L) (n := n) (v := v) i (by omega) (fun k hk => hb k (by omega))
    unfold shS
    rw [ih, hb i (by omega), ltr_dv (by omega)]
theorem bit_hi {n st i : Nat} (hi : i < n) : (2 ^ n + st) / 2 ^ i % 2 = st / 2 ^ i % 2 := by
  rw [show 2 ^ n = 2 ^ i * (2 * 2 ^ (n - i - 1)) by rw [← Nat.pow_succ', ← Nat.pow_add]; congr 1; omega, Nat.mul_add_div (Nat.two_pow_pos i)]
  omega
theorem shS_R {L : Nat} (hL : 1 ≤ L) : ∀ n (x y : Nat → Nat → Kf) v, ksum (2 ^ n) (fun st => x (shS L n v st n).2.2 (shS L n v st n).1 * y (n - (shS L n v st n).2.2) (shS L n v st n).2.1) = shR L n x y v
  | 0, x, y, v => by show 0 + x 0 0 * y 0 0 = _; rw [ka_0']; rfl
  | n + 1, x, y, v => by
    rw [show 2 ^ (n + 1) = 2 ^ n + 2 ^ n by rw [Nat.pow_succ]; omega, ksum_app, ka_c]
    show _ = shR L n (drL L (v % L) x) y (v / L) + shR L n x (drL L (v % L) y) (v / L)
    rw [← shS_R hL n (drL L (v % L) x) y, ← shS_R hL n x (drL L (v % L) y)]
    refine congr (congrArg _ (ksum_c (fun st hst => ?_))) (ksum_c (fun st hst => ?_))
    · have e : shS L (n + 1) v (2 ^ n + st) (n + 1) = (L * (shS L n (v / L) st n).1 + v % L, (shS L n (v / L) st n).2.1, (shS L n (v / L) st n).2.2 + 1) := by
        show (if (2 ^ n + st) / 2 ^ n % 2 = 1 then _ else _) = _
        rw [if_pos (by rw [Nat.add_div_left _ (Nat.two_pow_pos n), Nat.div_eq_of_lt hst]), shS_dv n (Nat.le_refl _) (fun k hk => bit_hi hk), ltr_last]
      have hb := (shS_b (n := n) (v := v / L) (st := st) hL n).1
      rw [e]
      show x _ _ * y (n + 1 - ((shS L n (v / L) st n).2.2 + 1)) _ = _
      rw [show n + 1 - ((shS L n (v / L) st n).2.2 + 1) = n - (shS L n (v / L) st n).2.2 by omega]
      rfl
    · have e : shS L (n + 1) v st (n + 1) = ((shS L n (v / L) st n).1, L * (shS L n (v / L) st n).2.1 + v % L, (shS L n (v / L) st n).2.2) := by
        show (if st / 2 ^ n % 2 = 1 then _ else _) = _
        rw [if_neg (by rw [Nat.div_eq_of_lt hst]; decide), shS_dv n (Nat.le_refl _) (fun k hk => rfl), ltr_last]
      have hb := (shS_b (n := n) (v := v / L) (st := st) hL n).1
      rw [e]
      show x _ _ * y (n + 1 - (shS L n (v / L) st n).2.2) _ = _
      rw [show n + 1 - (shS L n (v / L) st n).2.2 = n - (shS L n (v / L) st n).2.2 + 1 by omega]
      rfl
theorem shT_K {L : Nat} {x : Nat → Nat} {a b n v : Nat} : ∀ st, kN (shT L x a b n v st) = ksum st (fun st => at2 L (rwK x a) (shS L n v st n).2.2 (shS L n v st n).1 * at2 L (rwK x b) (n - (shS L n v st n).2.2) (shS L n v st n).2.1)
  | 0 => rfl
  | st + 1 => by
    show kN ((shT L x a b n v st + _) % PR) = _
    rw [kN_mod, kN_add, kN_mul, shT_K st]
    rfl
def shK (L d : Nat) (f h : Nat → Kf) : Nat → Kf := fun w => shR L (wlen L d w) (at2 L f) (at2 L h) (w - ofs L (wlen L d w))
theorem shK_at {L d n v : Nat} {f h : Nat → Kf} (hn : n ≤ d) (hv : v < L ^ n) : shK L d f h (ofs L n + v) = shR L n (at2 L f) (at2 L h) v := by
  unfold shK
  rw [wlen_of hn hv, Nat.add_sub_cancel_left]
theorem shufV_K {L d : Nat} {x : Nat → Nat} {a b w : Nat} (hL : 1 ≤ L) : kN (shufV L d x a b w) = shK L d (rwK x a) (rwK x b) w := by
  unfold shufV shK
  rw [shT_K, shS_R hL]
/-! the class's interleavings -/
def ilF (L : Nat) : Nat → Nat → Nat → Nat → Nat → Nat → Nat → Kf → Nat → Kf
  | 0, _, _, _, _, _, _, _, _ => 0
  | f + 1, n, u, m, v, k, so, num, j => if n = 0 ∨ m = 0 then (if j = ofs L (n + m + k) + ((if n = 0 then v else u) * L ^ k + so) then num else 0) else ilF L f (n - 1) (u / L) m v (k + 1) (so + u % L * L ^ k) num j + ilF L f n u (m - 1) (v / L) (k + 1) (so + v % L * L ^ k) num j
def dl (L : Nat) : Nat → Nat → Nat → Nat → Nat → Nat → Kf
  | 0, _, _, _, _, _ => 0
  | f + 1, n, u, m, v, V => if n = 0 ∨ m = 0 then (if V = (if n = 0 then v else u) then 1 else 0) else (if u % L = V % L then dl L f (n - 1) (u / L) m v (V / L) else 0) + (if v % L = V % L then dl L f n u (m - 1) (v / L) (V / L) else 0)
theorem dl_s {L f n u m v V : Nat} : dl L (f + 1) n u m v V = if n = 0 ∨ m = 0 then (if V = (if n = 0 then v else u) then 1 else 0) else (if u % L = V % L then dl L f (n - 1) (u / L) m v (V / L) else 0) + (if v % L = V % L then dl L f n u (m - 1) (v / L) (V / L) else 0) := rfl
theorem dv_lt {L n u : Nat} (hL : 1 ≤ L) (hn : 1 ≤ n) (hu : u < L ^ n) : u / L < L ^ (n - 1) := by
  obtain ⟨m, rfl⟩ : ∃ m, n = m + 1 := ⟨n - 1, by omega⟩
  rw [Nat.add_sub_cancel, Nat.div_lt_iff_lt_mul hL, ← Nat.pow_succ]; exact hu
theorem so_lt {L k so c : Nat} (hs : so < L ^ k) (hc : c < L) : so + c * L ^ k < L ^ (k + 1) := by
  rw [Nat.pow_succ, Nat.mul_comm (L ^ k) L]
  have : (c + 1) * L ^ k ≤ L * L ^ k := Nat.mul_le_mul_right _ hc
  rw [Nat.succ_mul] at this
  omega
theorem ilF_dl {L : Nat} (hL : 1 ≤ L) {num : Kf} : ∀ f n u m v k so, so < L ^ k → ∀ Z, ilF L f n u m v k so num (ofs L (n + m + k) + Z) = if Z % L ^ k = so then num * dl L f n u m v (Z / L ^ k) else 0
  | 0, n, u, m, v, k, so, _, Z => by
    show 0 = if _ then num * 0 else 0
    rw [km_0', ite_self]
  | f + 1, n, u, m, v, k, so, hs, Z => by
    have hLk : 0 < L ^ k := Nat.pow_pos hL
    unfold ilF dl
    by_cases hnm : n = 0 ∨ m = 0
    · rw [if_pos hnm, if_pos hnm]
      generalize (if n = 0 then v else u) = a
      have hiff : ofs L (n + m + k) + Z = ofs L (n + m + k) + (a * L ^ k + so) ↔ Z % L ^ k = so ∧ Z / L ^ k = a := by
        constructor
        · intro e
          have e2 : Z = so + L ^ k * a := by rw [Nat.mul_comm]; omega
          rw [e2, Nat.add_mul_div_left _ _ hLk, Nat.div_eq_of_lt hs, Nat.add_mul_mod_self_left, Nat.mod_eq_of_lt hs]
          exact ⟨rfl, by omega⟩
        · rintro ⟨rfl, rfl⟩
          rw [Nat.mul_comm, Nat.div_add_mod]
      by_cases h1 : Z % L ^ k = so
      · rw [if_pos h1]
        by_cases h2 : Z / L ^ k = a
        · rw [if_pos (hiff.mpr ⟨h1, h2⟩), if_pos h2, km_1]
        · rw [if_neg (fun e => h2 (hiff.mp e).2), if_neg h2, km_0']
      · rw [if_neg h1, if_neg (fun e => h1 (hiff.mp e).1)]
    · rw [if_neg hnm, if_neg hnm]
      have hml : ∀ z, z % L < L := fun z => Nat.mod_lt _ hL
      have i1 := ilF_dl hL (num := num) f (n - 1) (u / L) m v (k + 1) (so + u % L * L ^ k) (so_lt hs (hml u)) Z
      have i2 := ilF_dl hL (num := num) f n u (m - 1) (v / L) (k + 1) (so + v % L * L ^ k) (so_lt hs (hml v)) Z
      rw [show n - 1 + m + (k + 1) = n + m + k by omega] at i1
      rw [show n + (m - 1) + (k + 1) = n + m + k by omega] at i2
      have ez : Z / L ^ (k + 1) = Z / L ^ k / L := by rw [Nat.pow_succ, Nat.div_div_eq_div_mul]
      have em : ∀ c, c < L → (Z % L ^ (k + 1) = so + c * L ^ k ↔ Z % L ^ k = so ∧ c = Z / L ^ k % L) := by
        intro c hc
        rw [Nat.pow_succ, Nat.mod_mul]
        have hz := Nat.mod_lt Z hLk
        constructor
        · intro e
          rw [Nat.mul_comm c] at e
          have e1 := congrArg (· % L ^ k) e
          simp only [Nat.add_mul_mod_self_left, Nat.mod_mod, Nat.mod_eq_of_lt hs] at e1
          have e2 := congrArg (· / L ^ k) e
          simp only [Nat.add_mul_div_left _ _ hLk, Nat.div_eq_of_lt hs, Nat.div_eq_of_lt hz] at e2
          exact ⟨e1, by omega⟩
        · rintro ⟨rfl, rfl⟩
          rw [Nat.mul_comm (L ^ k)]
      rw [i1, i2, ez]
      by_cases h1 : Z % L ^ k = so
      · rw [if_pos h1, kd_l]
        refine congr (congrArg _ ?_) ?_
        · by_cases h2 : u % L = Z / L ^ k % L
          · rw [if_pos ((em _ (hml u)).mpr ⟨h1, h2⟩), if_pos h2]
          · rw [if_neg (fun e => h2 ((em _ (hml u)).mp e).2), if_neg h2, km_0']
        · by_cases h2 : v % L = Z / L ^ k % L
          · rw [if_pos ((em _ (hml v)).mpr ⟨h1, h2⟩), if_pos h2]
          · rw [if_neg (fun e => h2 ((em _ (hml v)).mp e).2), if_neg h2, km_0']
      · rw [if_neg h1, if_neg (fun e => h1 ((em _ (hml u)).mp e).1), if_neg (fun e => h1 ((em _ (hml v)).mp e).1), ka_0]
theorem ilF_0 {L : Nat} : ∀ f n u m v k so j, ilF L f n u m v k so 0 j = 0
  | 0, _, _, _, _, _, _, _ => rfl
  | f + 1, n, u, m, v, k, so, j => by
    unfold ilF
    rw [ilF_0, ilF_0, ka_0, ite_self, ite_self]
theorem ilF_out {L : Nat} {num : Kf} : ∀ f n u m v k so j N Z, u < L ^ n → v < L ^ m → so < L ^ k → 1 ≤ L → j = ofs L N + Z → Z < L ^ N → N ≠ n + m + k → ilF L f n u m v k so num j = 0
  | 0, _, _, _, _, _, _, _, _, _, _, _, _, _, _, _, _ => rfl
  | f + 1, n, u, m, v, k, so, j, N, Z, hu, hv, hs, hL, hj, hZ, hN => by
    unfold ilF
    by_cases hnm : n = 0 ∨ m = 0
    · rw [if_pos hnm, if_neg]
      intro e
      refine hN (place_inj hZ ?_ (hj.symm.trans e)).1
      by_cases h0 : n = 0
      · rw [if_pos h0]
        subst h0
        rw [Nat.zero_add]
        exact pv_lt hv hs
      · rw [if_neg h0]
        have hm0 : m = 0 := by omega
        subst hm0
        exact pv_lt hu hs
    · rw [if_neg hnm]
      have hml : ∀ z, z % L < L := fun z => Nat.mod_lt _ hL
      have hdu := dv_lt (n := n) hL (by omega) hu
      have hdv := dv_lt (n := m) hL (by omega) hv
      rw [ilF_out f (n - 1) (u / L) m v (k + 1) _ j N Z hdu hv (so_lt hs (hml u)) hL hj hZ (by omega), ilF_out f n u (m - 1) (v / L) (k + 1) _ j N Z hu hdv (so_lt hs (hml v)) hL hj hZ (by omega), ka_0]
def PP (L f : Nat) (x y : Nat → Nat → Kf) (n m V : Nat) : Kf := ksum (L ^ n) (fun u => ksum (L ^ m) (fun v => x n u * y m v * dl L f n u m v V))
theorem ksum_sp {L : Nat} {F : Nat → Kf} : ∀ a, ksum (a * L) F = ksum a (fun u => ksum L (fun c => F (L * u + c)))
  | 0 => by rw [Nat.zero_mul]; rfl
  | a + 1 => by
    rw [Nat.succ_mul, ksum_app, ksum_sp a]
    show _ = _ + ksum L _
    rw [Nat.mul_comm a L]
theorem ksum_spP {L n : Nat} {F : Nat → Kf} : ksum (L ^ (n + 1)) F = ksum (L ^ n) (fun u => ksum L (fun c => F (L * u + c))) := by
  rw [Nat.pow_succ, ksum_sp]
theorem dm_app {L u c : Nat} (hc : c < L) : (L * u + c) / L = u ∧ (L * u + c) % L = c := by
  refine ⟨?_, ?_⟩
  · rw [Nat.mul_add_div (by omega), Nat.div_eq_of_lt hc, Nat.add_zero]
  · rw [Nat.mul_add_mod, Nat.mod_eq_of_lt hc]
theorem PP_rec {L f n m V : Nat} {x y : Nat → Nat → Kf} (hL : 1 ≤ L) : PP L (f + 1) x y (n + 1) (m + 1) V = PP L f (drL L (V % L) x) y n (m + 1) (V / L) + PP L f x (drL L (V % L) y) (n + 1) m (V / L) := by
  have hml : V % L < L := Nat.mod_lt _ hL
  have e : PP L (f + 1) x y (n + 1) (m + 1) V = ksum (L ^ (n + 1)) (fun u => ksum (L ^ (m + 1)) (fun v => x (n + 1) u * y (m + 1) v * (if u % L = V % L then dl L f n (u / L) (m + 1) v (V / L) else 0))) + ksum (L ^ (n + 1)) (fun u => ksum (L ^ (m + 1)) (fun v => x (n + 1) u * y (m + 1) v * (if v % L = V % L then dl L f (n + 1) u m (v / L) (V / L) else 0))) := by
    rw [← ksum_a]
    refine ksum_c (fun u _ => ?_)
    rw [← ksum_a]
    refine ksum_c (fun v _ => ?_)
    rw [← kd_l]
    refine congrArg (x (n + 1) u * y (m + 1) v * ·) ?_
    rw [dl_s, if_neg (by omega), Nat.add_sub_cancel, Nat.add_sub_cancel]
  rw [e]
  unfold PP
  refine congr (congrArg _ ?_) ?_
  · rw [ksum_spP]
    refine ksum_c (fun u _ => ?_)
    rw [ksum_c (h := fun c => if c = V % L then ksum (L ^ (m + 1)) (fun v => x (n + 1) (L * u + c) * y (m + 1) v * dl L f n u (m + 1) v (V / L)) else 0) (fun c hc => ?_), ksum_if, if_pos hml]
    · rfl
    · by_cases h1 : c = V % L
      · rw [if_pos h1]
        refine ksum_c (fun v _ => ?_)
        rw [(dm_app hc).1, (dm_app hc).2, if_pos h1]
      · rw [if_neg h1]
        refine ksum_z (fun v _ => ?_)
        rw [(dm_app hc).2, if_neg h1, km_0']
  · refine ksum_c (fun u _ => ?_)
    rw [ksum_spP]
    refine ksum_c (fun v _ => ?_)
    rw [ksum_c (h := fun c => if c = V % L then x (n + 1) u * y (m + 1) (L * v + c) * dl L f (n + 1) u m v (V / L) else 0) (fun c hc => ?_), ksum_if, if_pos hml]
    · rfl
    · by_cases h1 : c = V % L
      · rw [if_pos h1, (dm_app hc).1, (dm_app hc).2, if_pos h1]
      · rw [if_neg h1, (dm_app hc).2, if_neg h1, km_0']
theorem PP_0m {L f m V : Nat} {x y : Nat → Nat → Kf} (hV : V < L ^ m) : PP L (f + 1) x y 0 m V = x 0 0 * y m V := by
  unfold PP
  rw [Nat.pow_zero]
  show 0 + ksum (L ^ m) _ = _
  rw [ka_0', ksum_c (h := fun v => if v = V then x 0 0 * y m v else 0) (fun v _ => ?_), ksum_if, if_pos hV]
  unfold dl
  rw [if_pos (Or.inl rfl), if_pos rfl]
  by_cases h1 : v = V
  · rw [if_pos h1, if_pos h1.symm, km_1]
  · rw [if_neg h1, if_neg (fun z => h1 z.symm), km_0']
theorem PP_n0 {L f n V : Nat} {x y : Nat → Nat → Kf} (hV : V < L ^ n) : PP L (f + 1) x y n 0 V = x n V * y 0 0 := by
  by_cases h0 : n = 0
  · subst h0
    have hz : V = 0 := by rw [Nat.pow_zero] at hV; omega
    subst hz
    exact PP_0m hV
  unfold PP
  rw [ksum_c (h := fun u => if u = V then x n u * y 0 0 else 0) (fun u _ => ?_), ksum_if, if_pos hV]
  rw [Nat.pow_zero]
  show 0 + x n u * y 0 0 * dl L (f + 1) n u 0 0 V = _
  rw [ka_0']
  unfold dl
  rw [if_pos (Or.inr rfl), if_neg h0]
  by_cases h1 : u = V
  · rw [if_pos h1, if_pos h1.symm, km_1]
  · rw [if_neg h1, if_neg (fun z => h1 z.symm), km_0']
theorem PP_R {L : Nat} (hL : 1 ≤ L) : ∀ N f (x y : Nat → Nat → Kf) V, N < f → V < L ^ N → ksum (N + 1) (fun n => PP L f x y n (N - n) V) = shR L N x y V
  | 0, f, x, y, V, hf, hV => by
    obtain ⟨f, rfl⟩ : ∃ f', f = f' + 1 := ⟨f - 1, by omega⟩
    show 0 + PP L (f + 1) x y 0 (0 - 0) V = x 0 0 * y 0 0
    rw [ka_0', PP_0m hV]
    rw [Nat.pow_zero] at hV
    rw [show V = 0 by omega]
  | N + 1, f, x, y, V, hf, hV => by
    obtain ⟨f, rfl⟩ : ∃ f', f = f' + 1 := ⟨f - 1, by omega⟩
    obtain ⟨f, rfl⟩ : ∃ f', f = f' + 1 := ⟨f - 1, by omega⟩
    have hdv : V / L < L ^ N := by rw [Nat.div_lt_iff_lt_mul hL, ← Nat.pow_succ]; exact hV
    have hdm : L * (V / L) + V % L = V := Nat.div_add_mod V L
    show _ = shR L N (drL L (V % L) x) y (V / L) + shR L N x (drL L (V % L) y) (V / L)
    rw [← PP_R hL N (f + 1) (drL L (V % L) x) y (V / L) (by omega) hdv, ← PP_R hL N (f + 1) x (drL L (V % L) y) (V / L) (by omega) hdv]
    rw [ksum_c (h := fun n => (if n = 0 then 0 else PP L (f + 1) (drL L (V % L) x) y (n - 1) (N - (n - 1)) (V / L)) + (if n = N + 1 then 0 else PP L (f + 1) x (drL L (V % L) y) n (N - n) (V / L))) (fun n hn => ?_), ksum_a]
    · refine congr (congrArg _ ?_) ?_
      · rw [ksum_f, if_pos rfl, ka_0']
        refine ksum_c (fun n _ => ?_)
        rw [if_neg (by omega), Nat.add_sub_cancel]
      · show ksum (N + 1) _ + (if N + 1 = N + 1 then _ else _) = _
        rw [if_pos rfl, ka_0]
        refine ksum_c (fun n hn => ?_)
        rw [if_neg (by omega)]
    · by_cases h0 : n = 0
      · subst h0
        rw [if_pos rfl, if_neg (by omega), ka_0', PP_0m (by exact hV), PP_0m (by exact hdv)]
        show _ = x 0 0 * y (N - 0 + 1) (L * (V / L) + V % L)
        rw [hdm]
        rfl
      · by_cases h1 : n = N + 1
        · subst h1
          rw [if_neg h0, if_pos rfl, ka_0, Nat.sub_self, PP_n0 hV, Nat.add_sub_cancel, Nat.sub_self, PP_n0 hdv]
          show _ = x (N + 1) (L * (V / L) + V % L) * y 0 0
          rw [hdm]
        · obtain ⟨n, rfl⟩ : ∃ n', n = n' + 1 := ⟨n - 1, by omega⟩
          rw [if_neg h0, if_neg h1, show N + 1 - (n + 1) = (N - (n + 1)) + 1 by omega, PP_rec hL, Nat.add_sub_cancel, show N - n = N - (n + 1) + 1 by omega]
/-! the machine's interleavings -/
section CI
variable {L d : Nat} {Ln : Nat → Nat} {g : Nat → Nat → Kf}
theorem cq_inter (k3 : kV 3) : ∀ f n u m v k so (num : Kf) (S : cs_T) (r : Nat → Kf) (Q : cs_T → Prop), n + m < f → n + m + k ≤ d → u < L ^ n → v < L ^ m → so < L ^ k → cv L d Ln S (va_up g 3 r) →
    (∀ S', upK kV S S' → cv L d Ln S' (va_up g 3 (fun j => r j + ilF L f n u m v k so num j)) → Q S') → wp_X0_interleave Ln f S (nI n) (nI u) (nI m) (nI v) (nI k) (nI so) (kI num) Q := by
  intro f
  induction f with
  | zero => intro n u m v k so num S r Q hf; exact absurd hf (Nat.not_lt_zero _)
  | succ f ih =>
    intro n u m v k so num S r Q hf hd hu hv hs hc hq
    have hcf := hc.1.1
    have hd6 := cf_d hcf
    have hL := cf_L hcf
    have hW := cv_W hc
    have hpn := cf_pow hcf (n := n) (by omega)
    have hpm := cf_pow hcf (n := m) (by omega)
    have hpk := cf_pow hcf (n := k) (by omega)
    have e8 : n = 0 ∨ m = 0 → wp_X0_interleave_8 (wp_X0_interleave Ln f) Ln Q S (nI n) (nI u) (nI m) (nI v) (nI k) (nI so) (kI num) := by
      intro hnm
      have e18 : ∀ z, z = (if n = 0 then v else u) → wp_X0_interleave_18 (wp_X0_interleave Ln f) Ln Q S (nI n) (nI m) (nI k) (nI so) (kI num) (nI z) := by
        intro z hz
        have hzl : z * L ^ k + so < L ^ (n + m + k) := by
          by_cases h0 : n = 0
          · rw [hz, if_pos h0, h0, Nat.zero_add]; exact pv_lt hv hs
          · have hm0 : m = 0 := by omega
            rw [hz, if_neg h0, hm0, Nat.add_zero]; exact pv_lt hu hs
        have hs1 := cv_st hc (n := n + m + k) (by omega)
        have hp1 := cv_pw hc (n := k) (by omega)
        have hpW : ofs L (n + m + k) + (z * L ^ k + so) < ofs L (d + 1) := pl_W hd hzl
        unfold wp_X0_interleave_18
        rw [nI_add, nI_add, hs1.2, hp1.2, pk_mul, nI_add, nI_add, show ofs L (n + m + k) + z * L ^ k + so = ofs L (n + m + k) + (z * L ^ k + so) by omega]
        refine ⟨hs1.1, hp1.1, ?_⟩
        rintro _ rfl
        refine ⟨cv_in hc k3 hpW, ?_⟩
        rw [cv_g hc k3 hpW, va_up_self]
        refine kn_plus ⟨cv_in hc k3 hpW, ?_⟩
        rw [nI_clamp (by omega)]
        have hs := cv_s' (p := ofs L (n + m + k) + (z * L ^ k + so)) (c := r (ofs L (n + m + k) + (z * L ^ k + so)) + num) (r' := fun j => r j + ilF L (f + 1) n u m v k so num j) hc k3 (fun j hj => by
          unfold ilF
          rw [if_pos hnm, ← hz]
          by_cases h1 : j = ofs L (n + m + k) + (z * L ^ k + so)
          · rw [if_pos h1, if_pos h1, h1]
          · rw [if_neg h1, if_neg h1, ka_0])
        exact hq _ hs.1 hs.2
      refine pk_lt 0 n (fun h0 => e18 u (by rw [if_neg (by omega)])) (fun h0 => e18 v (by rw [if_pos (by omega)]))
    refine ⟨fun z => e8 (Or.inl ?_), fun _ => ⟨fun hm0 => ?_, fun z => e8 (Or.inr ?_)⟩⟩
    · have := (nI_leI (a := n) (b := 0) (by omega) (by decide)).mp z
      omega
    · have hm1 : 0 < m := (nI_ltI (a := 0) (b := m) (by decide) (by omega)).mp hm0
      by_cases hn0 : n = 0
      · exfalso
        rename_i hz
        exact hz (by rw [hn0]; decide)
      · have hml : ∀ z, z % L < L := fun z => Nat.mod_lt _ (by omega)
        have hp1 := cv_pw hc (n := k) (by omega)
        have hdu := dv_lt (n := n) (by omega) (by omega) hu
        have hdv := dv_lt (n := m) (by omega) (by omega) hv
        have hne : ¬ S.1 1 = 0 := by rw [hc.2.2.1]; exact nI_ne (by omega) (by omega)
        rw [hc.2.2.1] at hne ⊢
        rw [ri_rem (by omega) (by omega) (by omega), ri_rem (by omega) (by omega) (by omega), hp1.2, pk_mul, pk_mul, nI_add, nI_add, pk_div (by omega) (by omega) (by omega), nI_1]
        refine ⟨hne, hp1.1, ?_⟩
        rintro _ rfl
        refine ⟨hne, hp1.1, ?_⟩
        rintro _ rfl
        refine ⟨hne, ?_⟩
        rw [show nI n - 1 = nI (n - 1) from pk_sub (b := 1) (by omega), show nI m - 1 = nI (m - 1) from pk_sub (b := 1) (by omega)]
        refine ih (n - 1) (u / L) m v (k + 1) (so + u % L * L ^ k) num S r _ (by omega) (by omega) hdu hv (so_lt hs (hml u)) hc (fun S1 hu1 hc1 => ?_)
        rw [hc1.2.2.1]
        refine ⟨hne, ?_⟩
        rw [pk_div (by omega) (by omega) (by omega)]
        refine ih n u (m - 1) (v / L) (k + 1) (so + v % L * L ^ k) num S1 _ _ (by omega) (by omega) hu hdv (so_lt hs (hml v)) hc1 (fun S2 hu2 hc2 => hq S2 (upK_tr hu1 hu2) (cv_tc hc2 (fun j hj => ?_)))
        show _ = r j + ilF L (f + 1) n u m v k so num j
        conv => rhs; unfold ilF
        rw [if_neg (by omega), ka_a]
    · have : ¬ 0 < m := fun q => z (nI_lt (a := 0) q (by omega))
      omega
/-- what a row gains by the word (n, u) with a number, shuffled with a row -/
def mwA (L d : Nat) (y : Nat → Kf) (n u : Nat) (num : Kf) (j : Nat) : Kf := ksum (d - n + 1) (fun m => ksum (L ^ m) (fun v => ilF L 8 n u m v 0 0 (num * y (ofs L m + v)) j))
theorem mwA_0 {y : Nat → Kf} {n u j : Nat} : mwA L d y n u 0 j = 0 := ksum_z (fun m _ => ksum_z (fun v _ => by rw [km_0, ilF_0]))
theorem cq_mingleWord {S : cs_T} {r : Nat → Kf} {q n u : Nat} {num : Kf} {Q : cs_T → Prop} (h : cv L d Ln S (va_up g 3 r)) (hq0 : kV q) (hq3 : q ≠ 3) (hn : n ≤ d) (hu : u < L ^ n)
    (hq : ∀ S', upK kV S S' → cv L d Ln S' (va_up g 3 (fun j => r j + mwA L d (g q) n u num j)) → Q S') : wp_X0_mingleWord Ln S (nI n) (nI u) (kI num) q Q := by
  have k3 : kV 3 := by unfold kV; omega
  have hd := cf_d h.1.1
  have hL := cf_L h.1.1
  have hW := cv_W h
  refine lpR (S := S) (L := L) (d := d) (Ln := Ln) (g := g) (t := 3) (fun k s m => wp_X0_mingleWord_3 Ln Q k s (nI n) (nI u) (kI num) q (nI m)) (fun m j => r j + ksum m (fun m => ksum (L ^ m) (fun v => ilF L 8 n u m v 0 0 (num * g q (ofs L m + v)) j))) 0 (d - n + 1) (Nat.zero_le _) (cv_tc h (fun j _ => (ka_0 _).symm)) ?_ ?_
  · intro k S1 hu1 hc1
    unfold wp_X0_mingleWord_3 wb_X0_mingleWord_3
    rw [hc1.2.1, pk_sub hn]
    exact ⟨fun _ => hq S1 hu1 hc1, fun z => absurd (nI_lt (by omega) (by omega)) z⟩
  · intro k m S1 _ hm hu1 hc1 hk1
    unfold wp_X0_mingleWord_3 wb_X0_mingleWord_3
    rw [hc1.2.1, pk_sub hn]
    have hpm := cf_pow h.1.1 (n := m) (by omega)
    refine ⟨fun z => absurd z (nI_nlt (by omega) (by omega)), fun _ => ?_⟩
    refine lpR (S := S1) (L := L) (d := d) (Ln := Ln) (g := g) (t := 3) (fun k2 s v => wp_X0_mingleWord_17 Ln (wp_X0_mingleWord_3 Ln Q k) Q k2 s (nI n) (nI u) (kI num) q (nI m) (nI v)) (fun v j => (r j + ksum m (fun m => ksum (L ^ m) (fun v => ilF L 8 n u m v 0 0 (num * g q (ofs L m + v)) j))) + ksum v (fun v => ilF L 8 n u m v 0 0 (num * g q (ofs L m + v)) j)) 0 (L ^ m) (Nat.zero_le _) (cv_tc hc1 (fun j _ => (ka_0 _).symm)) ?_ ?_
    · intro k2 S2 hu2 hc2
      have hp2 := cv_pw hc2 (n := m) (by omega)
      refine ⟨hp2.1, ?_⟩
      rw [hp2.2]
      refine ⟨fun _ => ?_, fun z => absurd (nI_le (Nat.le_refl _) (by omega)) z⟩
      rintro _ rfl
      rw [nI_1]
      exact hk1 S2 (upK_tr hu1 hu2) (cv_tc hc2 (fun j _ => ka_a _ _ _))
    · intro k2 v S2 _ hv hu2 hc2 hk2
      have hp2 := cv_pw hc2 (n := m) (by omega)
      have hs2 := cv_st hc2 (n := m) (by omega)
      have hvW : ofs L m + v < ofs L (d + 1) := pl_W (by omega) hv
      refine ⟨hp2.1, ?_⟩
      rw [hp2.2]
      refine ⟨fun z => absurd z (nI_ge hv (by omega)), fun _ => ⟨hs2.1, kV_47 hq0, ?_⟩⟩
      rw [hs2.2, nI_add]
      refine ⟨cv_in hc2 hq0 hvW, ?_⟩
      rw [cv_g hc2 hq0 hvW, va_up_ne _ _ hq3]
      rintro _ rfl
      have fin : ∀ S3, upK kV S2 S3 → cv L d Ln S3 (va_up g 3 (fun j => ((r j + ksum m (fun m => ksum (L ^ m) (fun v => ilF L 8 n u m v 0 0 (num * g q (ofs L m + v)) j))) + ksum v (fun v => ilF L 8 n u m v 0 0 (num * g q (ofs L m + v)) j)) + ilF L 8 n u m v 0 0 (num * g q (ofs L m + v)) j)) → wp_X0_mingleWord_67 Ln (wp_X0_mingleWord_3 Ln Q k) (wp_X0_mingleWord_17 Ln (wp_X0_mingleWord_3 Ln Q k) Q k2) Q S3 (nI n) (nI u) (kI num) q (nI m) (nI v) := by
        intro S3 hu3 hc3
        rintro _ rfl
        rw [nI_1]
        exact hk2 S3 (upK_tr hu2 hu3) (cv_tc hc3 (fun j _ => ka_a _ _ _))
      refine ⟨fun z => fin S2 upK_rf (cv_tc hc2 (fun j _ => ?_)), fun _ => kn_product ?_⟩
      · rw [kI_z.mp z, km_0', ilF_0, ka_0]
      · exact cq_inter k3 8 n u m v 0 0 _ S2 _ _ (by omega) (by omega) hu hv (by rw [Nat.pow_zero]; decide) hc2 (fun S3 hu3 hc3 => fin S3 hu3 hc3)
theorem mgA_eq {x y : Nat → Kf} {N V : Nat} (hL : 1 ≤ L) (hd : d ≤ 6) (hN : N ≤ d) (hV : V < L ^ N) : ksum (d + 1) (fun n => ksum (L ^ n) (fun u => mwA L d y n u (x (ofs L n + u)) (ofs L N + V))) = shR L N (at2 L x) (at2 L y) V := by
  rw [show d + 1 = (N + 1) + (d - N) by omega, ksum_app, ksum_z (n := d - N) (fun i hi => ?_), ka_0, ← PP_R hL N 8 _ _ V (by omega) hV]
  · refine ksum_c (fun n hn => ?_)
    unfold PP
    refine ksum_c (fun u hu => ?_)
    unfold mwA
    rw [ksum_c (h := fun m => if m = N - n then ksum (L ^ m) (fun v => at2 L x n u * at2 L y m v * dl L 8 n u m v V) else 0) (fun m hm => ?_), ksum_if, if_pos (by omega)]
    by_cases h1 : m = N - n
    · rw [if_pos h1]
      refine ksum_c (fun v hv => ?_)
      have := ilF_dl hL (num := x (ofs L n + u) * y (ofs L m + v)) 8 n u m v 0 0 (by rw [Nat.pow_zero]; decide) V
      rw [show n + m + 0 = N by omega, Nat.pow_zero, Nat.div_one, if_pos (Nat.mod_one V)] at this
      exact this
    · rw [if_neg h1]
      refine ksum_z (fun v hv => ?_)
      exact ilF_out 8 n u m v 0 0 _ N V hu hv (by rw [Nat.pow_zero]; decide) hL rfl hV (by omega)
  · refine ksum_z (fun u hu => ksum_z (fun m hm => ksum_z (fun v hv => ?_)))
    exact ilF_out 8 _ u m v 0 0 _ N V hu hv (by rw [Nat.pow_zero]; decide) hL rfl hV (by omega)
theorem cq_mingle {S : cs_T} {t a b : Nat} {Q : cs_T → Prop} (h : cv L d Ln S g) (ht : kV t) (ha : kV a) (hb : kV b) (ha3 : a ≠ 3) (hb3 : b ≠ 3)
    (hq : ∀ S' g', upK kV S S' → cv L d Ln S' g' → fr (fun k => k = 3 ∨ k = t) g g' → g' t = shK L d (g a) (g b) → Q S') : wp_X0_mingle Ln S t a b Q := by
  have k3 : kV 3 := by unfold kV; omega
  have hd := cf_d h.1.1
  have hL := cf_L h.1.1
  have hW := cv_W h
  refine cq_fill h k3 (fun S0 hu0 hc0 => ?_)
  refine lpR (S := S0) (L := L) (d := d) (Ln := Ln) (g := g) (t := 3) (fun k s n => wp_X0_mingle_11 Ln Q k s t a b (nI n)) (fun n j => ksum n (fun n => ksum (L ^ n) (fun u => mwA L d (g b) n u (g a (ofs L n + u)) j))) 0 (d + 1) (Nat.zero_le _) hc0 ?_ ?_
  · intro k S1 hu1 hc1
    refine ⟨fun _ => ?_, fun z => absurd (by rw [hc1.2.1]; exact nI_lt (by omega) (by omega)) z⟩
    have hc2 := cv_tc (r' := shK L d (g a) (g b)) hc1 (fun j hj => by
      obtain ⟨N, V, hN, hV, rfl⟩ := pl_ex hj
      rw [shK_at hN hV, mgA_eq (by omega) (by omega) hN hV])
    refine cq_copy hc2 ht k3 (fun S2 hu2 hc3 => ?_)
    rw [va_up_self] at hc3
    exact hq S2 _ (upK_tr hu0 (upK_tr hu1 hu2)) hc3 (fr_tr (fr_u (Or.inl rfl)) (fr_u (Or.inr rfl))) (va_up_self _ _ _)
  · intro k n S1 _ hn hu1 hc1 hk1
    have hpn := cf_pow h.1.1 (n := n) (by omega)
    refine ⟨fun z => absurd z (by rw [hc1.2.1]; exact nI_nlt (by omega) (by omega)), fun _ => ?_⟩
    refine lpR (S := S1) (L := L) (d := d) (Ln := Ln) (g := g) (t := 3) (fun k2 s u => wp_X0_mingle_23 Ln (wp_X0_mingle_11 Ln Q k) Q k2 s t a b (nI n) (nI u)) (fun u j => ksum n (fun n => ksum (L ^ n) (fun u => mwA L d (g b) n u (g a (ofs L n + u)) j)) + ksum u (fun u => mwA L d (g b) n u (g a (ofs L n + u)) j)) 0 (L ^ n) (Nat.zero_le _) (cv_tc hc1 (fun j _ => (ka_0 _).symm)) ?_ ?_
    · intro k2 S2 hu2 hc2
      have hp2 := cv_pw hc2 (n := n) (by omega)
      refine ⟨hp2.1, ?_⟩
      rw [hp2.2]
      refine ⟨fun _ => ?_, fun z => absurd (nI_le (Nat.le_refl _) (by omega)) z⟩
      rintro _ rfl
      rw [nI_1]
      exact hk1 S2 (upK_tr hu1 hu2) hc2
    · intro k2 u S2 _ hu' hu2 hc2 hk2
      have hp2 := cv_pw hc2 (n := n) (by omega)
      have hs2 := cv_st hc2 (n := n) (by omega)
      have huW : ofs L n + u < ofs L (d + 1) := pl_W (by omega) hu'
      refine ⟨hp2.1, ?_⟩
      rw [hp2.2]
      refine ⟨fun z => absurd z (nI_ge hu' (by omega)), fun _ => ⟨hs2.1, kV_47 ha, ?_⟩⟩
      rw [hs2.2, nI_add]
      refine ⟨cv_in hc2 ha huW, ?_⟩
      rw [cv_g hc2 ha huW, va_up_ne _ _ ha3]
      rintro _ rfl
      have fin : ∀ S3, upK kV S2 S3 → cv L d Ln S3 (va_up g 3 (fun j => (ksum n (fun n => ksum (L ^ n) (fun u => mwA L d (g b) n u (g a (ofs L n + u)) j)) + ksum u (fun u => mwA L d (g b) n u (g a (ofs L n + u)) j)) + mwA L d (g b) n u (g a (ofs L n + u)) j)) → wp_X0_mingle_65 Ln (wp_X0_mingle_11 Ln Q k) (wp_X0_mingle_23 Ln (wp_X0_mingle_11 Ln Q k) Q k2) Q S3 t a b (nI n) (nI u) := by
        intro S3 hu3 hc3
        rintro _ rfl
        rw [nI_1]
        exact hk2 S3 (upK_tr hu2 hu3) (cv_tc hc3 (fun j _ => ka_a _ _ _))
      refine ⟨fun z => fin S2 upK_rf (cv_tc hc2 (fun j _ => ?_)), fun _ => ?_⟩
      · rw [kI_z.mp z, mwA_0, ka_0]
      · exact cq_mingleWord hc2 hb hb3 (by omega) hu' (fun S3 hu3 hc3 => fin S3 hu3 hc3)
end CI
