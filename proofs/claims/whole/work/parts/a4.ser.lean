/-! the reference's rows in the ring; products and series on both sides are the same -/
theorem kN_mod (n : Nat) : kN (n % PR) = kN n := Fin.ext (Nat.mod_mod _ _)
theorem kN_add (a b : Nat) : kN (a + b) = kN a + kN b := Fin.ext (by rw [k_add]; show (a + b) % 2147483647 = (a % 2147483647 + b % 2147483647) % 2147483647; omega)
theorem kN_mul (a b : Nat) : kN (a * b) = kN a * kN b := Fin.ext (by rw [k_mul]; exact Nat.mul_mod a b 2147483647)
theorem kN_0 : kN 0 = 0 := rfl
theorem kN_1 : kN 1 = 1 := rfl
theorem kN_PR : kN PR = 0 := rfl
theorem kN_inj {a b : Nat} (ha : a < PR) (hb : b < PR) (h : kN a = kN b) : a = b := by
  have := congrArg Fin.val h
  rwa [kN_v ha, kN_v hb] at this
theorem kN_z {a : Nat} (ha : a < PR) : kN a = 0 ↔ a = 0 := ⟨fun h => kN_inj ha (by decide) h, fun h => by rw [h]; rfl⟩
theorem kN_neg {a : Nat} (ha : a ≤ PR) : kN (PR - a) = -kN a := kn_u (by rw [← kN_add, show a + (PR - a) = PR by omega, kN_PR])
def rwK (x : Nat → Nat) (s : Nat) : Nat → Kf := fun w => kN (x (364 * s + w))
theorem mulR_c {L : Nat} {x x' y y' : Nat → Nat → Kf} {n v : Nat} (hL : 1 ≤ L) (hv : v < L ^ n) (hx : ∀ m u, m ≤ n → u < L ^ m → x m u = x' m u) (hy : ∀ m u, m ≤ n → u < L ^ m → y m u = y' m u) : mulR L x y n v = mulR L x' y' n v := by
  unfold mulR
  refine ksum_c (fun k hk => ?_)
  have h1 : v / L ^ k < L ^ (n - k) := by
    rw [Nat.div_lt_iff_lt_mul (Nat.pow_pos hL), ← Nat.pow_add, Nat.sub_add_cancel (by omega)]
    exact hv
  rw [hx (n - k) _ (by omega) h1, hy k _ (by omega) (Nat.mod_lt _ (Nat.pow_pos hL))]
def eqW (L d : Nat) (f f' : Nat → Kf) : Prop := ∀ w, w < ofs L (d + 1) → f w = f' w
theorem eqW_at {L d : Nat} {f f' : Nat → Kf} (h : eqW L d f f') {n v : Nat} (hn : n ≤ d) (hv : v < L ^ n) : at2 L f n v = at2 L f' n v := h _ (pl_W hn hv)
theorem mulK_c {L d : Nat} {f f' h h' : Nat → Kf} (hL : 1 ≤ L) (hf : eqW L d f f') (hh : eqW L d h h') : eqW L d (mulK L d f h) (mulK L d f' h') := by
  intro w hw
  obtain ⟨n, v, hn, hv, rfl⟩ := pl_ex hw
  rw [mulK_at hn hv, mulK_at hn hv]
  exact mulR_c hL hv (fun m u hm hu => eqW_at hf (by omega) hu) (fun m u hm hu => eqW_at hh (by omega) hu)
theorem mulT_K {L : Nat} {x : Nat → Nat} {a b n v : Nat} : ∀ k, kN (mulT L x a b n v k) = ksum k (fun k => at2 L (rwK x a) k (v / L ^ (n - k)) * at2 L (rwK x b) (n - k) (v % L ^ (n - k)))
  | 0 => rfl
  | k + 1 => by
    show kN ((mulT L x a b n v k + x (364 * a + (ofs L k + v / L ^ (n - k))) * x (364 * b + (ofs L (n - k) + v % L ^ (n - k)))) % PR) = _
    rw [kN_mod, kN_add, kN_mul, mulT_K k]
    rfl
theorem mulW_K {L d : Nat} {x : Nat → Nat} {a b w : Nat} : kN (mulW L d x a b w) = mulK L d (rwK x a) (rwK x b) w := by
  unfold mulW mulK mulR
  rw [mulT_K, ksum_rev]
  refine ksum_c (fun k hk => ?_)
  rw [show wlen L d w + 1 - 1 - k = wlen L d w - k by omega, show wlen L d w - (wlen L d w - k) = k by omega]
theorem mulR_sum {L N : Nat} {p : Nat → Nat → Nat → Kf} {c : Nat → Kf} {y : Nat → Nat → Kf} {n v : Nat} : mulR L (fun m u => ksum N (fun i => p i m u * c i)) y n v = ksum N (fun i => mulR L (p i) y n v * c i) := by
  unfold mulR
  rw [ksum_c (h := fun k => ksum N (fun i => p i (n - k) (v / L ^ k) * y k (v % L ^ k) * c i)) (fun k _ => ?_), ksum_sw]
  · exact ksum_c (fun i _ => ksum_mr)
  · rw [← ksum_mr]
    exact ksum_c (fun i _ => by rw [km_a, km_a, km_c (c i)])
theorem mulK_sum {L d N : Nat} {p : Nat → Nat → Kf} {c : Nat → Kf} {h : Nat → Kf} (w : Nat) : mulK L d (fun j => ksum N (fun i => p i j * c i)) h w = ksum N (fun i => mulK L d (p i) h w * c i) := mulR_sum (p := fun i => at2 L (p i))
/-- powers, each by one factor more behind -/
def pwK (L d : Nat) (f : Nat → Kf) : Nat → Nat → Kf
  | 0 => unitK 1
  | n + 1 => mulK L d (pwK L d f n) f
/-- a product of numbers from k on -/
def kpr (c : Nat → Kf) (k : Nat) : Nat → Kf
  | 0 => 1
  | n + 1 => kpr c k n * c (k + n)
theorem kpr_f {c : Nat → Kf} {k : Nat} : ∀ n, kpr c k (n + 1) = c k * kpr c (k + 1) n
  | 0 => by show 1 * c k = c k * 1; rw [km_1, km_1']
  | n + 1 => by
    show kpr c k (n + 1) * c (k + (n + 1)) = c k * (kpr c (k + 1) n * c (k + 1 + n))
    rw [kpr_f n, km_a, show k + (n + 1) = k + 1 + n by omega]
def cE (n : Nat) : Kf := kv (kN n)
theorem exH_eq {L d : Nat} {f : Nat → Kf} (hL : 1 ≤ L) : ∀ i, i ≤ d → eqW L d (exH L d f i) (fun j => ksum (i + 1) (fun n => pwK L d f n j * kpr cE (d - i + 1) n))
  | 0, _ => fun w hw => by
    show unitK 1 w = 0 + unitK 1 w * 1
    rw [ka_0', km_1]
  | i + 1, hi => fun w hw => by
    have ih := exH_eq (d := d) (f := f) hL i (by omega)
    show unitK 1 w + mulK L d (exH L d f i) f w * kv (kN (d - i)) = ksum (i + 1 + 1) (fun n => pwK L d f n w * kpr cE (d - (i + 1) + 1) n)
    rw [ksum_f, mulK_c hL ih (fun _ _ => rfl) w hw, mulK_sum, ← ksum_mr]
    show _ = unitK 1 w * 1 + _
    rw [km_1]
    refine congrArg (unitK 1 w + ·) (ksum_c (fun n hn => ?_))
    rw [kpr_f, km_a, show d - (i + 1) + 1 = d - i by omega]
    show _ = pwK L d f (n + 1) w * _
    rw [km_c (kpr cE (d - i + 1) n)]
    rfl
/-- 1 or less 1 -/
def sgK (n : Nat) : Kf := if n % 2 = 0 then 1 else kN 2147483646
theorem sgK_s (n : Nat) : sgK (n + 1) = sgK n * kN 2147483646 := by
  unfold sgK
  by_cases h : n % 2 = 0
  · rw [if_pos h, if_neg (by omega), km_1']
  · rw [if_neg h, if_pos (by omega)]; rfl
theorem unitK_m (c : Kf) (w : Nat) : unitK c w = unitK 1 w * c := by
  unfold unitK
  by_cases h : w = 0
  · rw [if_pos h, if_pos h, km_1']
  · rw [if_neg h, if_neg h, km_0]
theorem lgH_eq {L d : Nat} {f : Nat → Kf} (hL : 1 ≤ L) : ∀ i, i < d → eqW L d (lgH L d f i) (fun j => ksum (i + 1) (fun n => pwK L d f n j * (sgK n * cE (d - i + n))))
  | 0, _ => fun w hw => by
    show unitK (kv (kN d)) w = 0 + unitK 1 w * (1 * cE (d - 0 + 0))
    rw [ka_0', km_1', unitK_m]
    rfl
  | i + 1, hi => fun w hw => by
    have ih := lgH_eq (d := d) (f := f) hL i (by omega)
    show unitK (kv (kN (d - 1 - i))) w + mulK L d (lgH L d f i) f w * kN 2147483646 = ksum (i + 1 + 1) (fun n => pwK L d f n w * (sgK n * cE (d - (i + 1) + n)))
    rw [ksum_f, mulK_c hL ih (fun _ _ => rfl) w hw, mulK_sum, ← ksum_mr, unitK_m]
    show _ = unitK 1 w * (1 * cE (d - (i + 1) + 0)) + _
    rw [km_1', show d - (i + 1) + 0 = d - 1 - i by omega]
    refine congrArg (unitK 1 w * cE (d - 1 - i) + ·) (ksum_c (fun n hn => ?_))
    rw [sgK_s, show d - (i + 1) + (n + 1) = d - i + n by omega]
    show pwK L d f (n + 1) w * _ * _ = pwK L d f (n + 1) w * _
    rw [km_a, km_a (sgK n), km_a (sgK n), km_c (kN 2147483646)]
theorem inH_eq {L d : Nat} {f : Nat → Kf} (hL : 1 ≤ L) : ∀ i, eqW L d (inH L d f i) (fun j => ksum (i + 1) (fun n => pwK L d f n j * sgK n))
  | 0 => fun w hw => by
    show unitK 1 w = 0 + unitK 1 w * 1
    rw [ka_0', km_1]
  | i + 1 => fun w hw => by
    have ih := inH_eq (d := d) (f := f) hL i
    show unitK 1 w + mulK L d (inH L d f i) f w * kN 2147483646 = ksum (i + 1 + 1) (fun n => pwK L d f n w * sgK n)
    rw [ksum_f, mulK_c hL ih (fun _ _ => rfl) w hw, mulK_sum, ← ksum_mr]
    show _ = unitK 1 w * 1 + _
    rw [km_1]
    refine congrArg (unitK 1 w + ·) (ksum_c (fun n hn => ?_))
    rw [sgK_s, km_a]
    rfl
/-- what the reference's series come to: how 0 EXP, 1 LOG, 2 INVERSE -/
def cfS (how n : Nat) : Kf := if how = 0 then kpr cE 1 n else if how = 1 then sgK (n + 1) * cE n else sgK n
def serK (L d how : Nat) (f : Nat → Kf) : Nat → Kf := fun j => (if how = 1 then 0 else unitK 1 j) + ksum d (fun n => pwK L d f (n + 1) j * cfS how (n + 1))
theorem exp_eq {L d : Nat} {f : Nat → Kf} (hL : 1 ≤ L) : eqW L d (exH L d f d) (serK L d 0 f) := fun w hw => by
  rw [exH_eq hL d (Nat.le_refl _) w hw]
  show ksum (d + 1) (fun n => pwK L d f n w * kpr cE (d - d + 1) n) = _
  rw [ksum_f]
  show unitK 1 w * 1 + _ = unitK 1 w + _
  rw [km_1, Nat.sub_self]
  rfl
theorem inv_eq {L d : Nat} {f : Nat → Kf} (hL : 1 ≤ L) : eqW L d (inH L d f d) (serK L d 2 f) := fun w hw => by
  rw [inH_eq hL d w hw]
  show ksum (d + 1) (fun n => pwK L d f n w * sgK n) = _
  rw [ksum_f]
  show unitK 1 w * 1 + _ = unitK 1 w + _
  rw [km_1]
  rfl
theorem log_eq {L d : Nat} {f : Nat → Kf} (hL : 1 ≤ L) (hd : 1 ≤ d) : eqW L d (mulK L d (lgH L d f (d - 1)) f) (serK L d 1 f) := fun w hw => by
  rw [mulK_c hL (lgH_eq hL (d - 1) (by omega)) (fun _ _ => rfl) w hw, mulK_sum]
  unfold serK
  rw [if_pos rfl, ka_0', show d - 1 + 1 = d by omega]
  refine ksum_c (fun n hn => ?_)
  show pwK L d f (n + 1) w * _ = pwK L d f (n + 1) w * (if 1 = 0 then _ else if 1 = 1 then _ else _)
  rw [if_neg (by decide), if_pos rfl, show d - (d - 1) + n = n + 1 by omega]
  refine congrArg (pwK L d f (n + 1) w * ·) (congrArg (· * cE (n + 1)) ?_)
  unfold sgK
  by_cases h : n % 2 = 0
  · rw [if_pos h, if_pos (by omega)]
  · rw [if_neg h, if_neg (by omega)]
/-! the reference's rows after a series -/
theorem serFac_K {how n fac : Nat} (hn : n < PR) : kN (serFac how n fac) = if how = 0 then kN fac * cE n else if how = 1 then cE n else 1 := by
  have e : kN (nv n) = cE n := by
    unfold cE kv
    refine Fin.ext ?_
    show nv n % 2147483647 = nv (kN n).val
    rw [kN_v hn]
    exact Nat.mod_eq_of_lt (nv_lt hn)
  unfold serFac
  by_cases h0 : how = 0
  · rw [if_pos h0, if_pos h0, kN_mod, kN_mul, e]
  · rw [if_neg h0, if_neg h0]
    by_cases h1 : how = 1
    · rw [if_pos h1, if_pos h1, e]
    · rw [if_neg h1, if_neg h1]; rfl
theorem rsN_row {x f : Nat → Nat} {b W s w : Nat} (hW : W ≤ 364) (hw : w < W) : rsN x (364 * b) W f (364 * s + w) = if s = b then f w else x (364 * s + w) := by
  by_cases h : s = b
  · subst h
    rw [if_pos rfl]; exact rsN_in hw
  · rw [if_neg h]
    refine rsN_out ?_
    omega
theorem rwK_rs {x f : Nat → Nat} {b W s w : Nat} (hW : W ≤ 364) (hw : w < W) : rwK (rsN x (364 * b) W f) s w = if s = b then kN (f w) else rwK x s w := by
  unfold rwK
  rw [rsN_row hW hw]
  by_cases h : s = b
  · rw [if_pos h, if_pos h]
  · rw [if_neg h, if_neg h]
/-- one place of a row -/
theorem rwK_one {x f : Nat → Nat} {b s w : Nat} (hw : w < 364) : rwK (rsN x (364 * b) 1 f) s w = if s = b ∧ w = 0 then kN (f 0) else rwK x s w := by
  unfold rwK
  by_cases h : s = b ∧ w = 0
  · obtain ⟨rfl, rfl⟩ := h
    rw [if_pos ⟨rfl, rfl⟩]
    exact congrArg kN (rsN_in (by decide))
  · rw [if_neg h]
    exact congrArg kN (rsN_out (by omega))
theorem serT_K {how n fac : Nat} (hf : fac ≤ PR) : kN (serT how n fac) = if how = 0 then kN fac else if how = 1 then sgK (n + 1) * kN fac else sgK n * kN fac := by
  have e : kN (PR - fac) = kN 2147483646 * kN fac := by rw [kN_neg hf, k_m1, kn_m, km_1']
  unfold serT sgK
  by_cases h0 : how = 0
  · rw [if_pos h0, if_pos h0]
  · rw [if_neg h0, if_neg h0]
    by_cases h1 : how = 1
    · rw [if_pos h1, if_pos h1]
      by_cases h2 : n % 2 = 1
      · rw [if_pos h2, if_pos (by omega), km_1']
      · rw [if_neg h2, if_neg (by omega), e]
    · rw [if_neg h1, if_neg h1]
      by_cases h2 : n % 2 = 0
      · rw [if_pos h2, if_pos h2, km_1']
      · rw [if_neg h2, if_neg h2, e]
theorem serGo_K {L d how : Nat} {f : Nat → Kf} (hL : 1 ≤ L) (hW : ofs L (d + 1) ≤ 364) (hh : how < 3) (hd : d < 100) : ∀ m n fac x, n + m = d → fac < PR → (how = 0 → kN fac = kpr cE 1 n) → eqW L d (rwK x 9) f → eqW L d (rwK x 10) (pwK L d f n) →
    (∀ s w, s ≠ 10 → s ≠ 11 → s ≠ 12 → w < ofs L (d + 1) → serGo L d how m (n + 1) fac x (364 * s + w) = x (364 * s + w)) ∧ eqW L d (rwK (serGo L d how m (n + 1) fac x) 11) (fun w => rwK x 11 w + ksum m (fun i => pwK L d f (n + i + 1) w * cfS how (n + i + 1))) := by
  intro m
  induction m with
  | zero =>
    intro n fac x _ _ _ _ _
    exact ⟨fun _ _ _ _ _ _ => rfl, fun w hw => (ka_0 _).symm⟩
  | succ m ih =>
    intro n fac x hn hf hfac h9 h10
    have hfl : serFac how (n + 1) fac < PR := serFac_lt (by have : PR = 2147483647 := rfl; omega)
    have ex : ∀ s w, w < ofs L (d + 1) → serStep L d x (serT how (n + 1) (serFac how (n + 1) fac)) (364 * s + w) = if s = 11 then (x (364 * 11 + w) + mulW L d x 10 9 w * serT how (n + 1) (serFac how (n + 1) fac)) % PR else if s = 10 then mulW L d x 10 9 w else if s = 12 then mulW L d x 10 9 w else x (364 * s + w) := by
      intro s w hw
      unfold serStep
      simp only [rsN_row hW hw]
      by_cases h1 : s = 11
      · rw [if_pos h1, if_pos h1]
        simp
      · rw [if_neg h1, if_neg h1]
        by_cases h2 : s = 10
        · rw [if_pos h2, if_pos h2]
          simp
        · rw [if_neg h2, if_neg h2]
    have e10 : ∀ w, w < ofs L (d + 1) → kN (mulW L d x 10 9 w) = pwK L d f (n + 1) w := fun w hw => by
      rw [mulW_K]
      exact mulK_c hL h10 h9 w hw
    have hi := ih (n + 1) (serFac how (n + 1) fac) (serStep L d x (serT how (n + 1) (serFac how (n + 1) fac))) (by omega) hfl (fun h0 => by
      rw [serFac_K (by have : PR = 2147483647 := rfl; omega), if_pos h0, hfac h0]
      show _ = kpr cE 1 n * cE (1 + n)
      rw [Nat.add_comm 1 n]) (fun w hw => by
        show kN _ = _
        rw [ex 9 w hw]
        simp only [show ¬ (9 = 11) by decide, show ¬ (9 = 10) by decide, show ¬ (9 = 12) by decide, if_false]
        exact h9 w hw) (fun w hw => by
        show kN _ = _
        rw [ex 10 w hw]
        simp only [show ¬ (10 = 11) by decide, if_false, if_true]
        exact e10 w hw)
    refine ⟨fun s w h1 h2 h3 hw => ?_, fun w hw => ?_⟩
    · show serGo L d how m (n + 1 + 1) _ _ _ = _
      rw [hi.1 s w h1 h2 h3 hw, ex s w hw, if_neg h2, if_neg h1, if_neg h3]
    · show rwK (serGo L d how m (n + 1 + 1) _ _) 11 w = _
      rw [hi.2 w hw]
      show rwK (serStep L d x (serT how (n + 1) (serFac how (n + 1) fac))) 11 w + ksum m (fun i => pwK L d f (n + 1 + i + 1) w * cfS how (n + 1 + i + 1)) = rwK x 11 w + ksum (m + 1) (fun i => pwK L d f (n + i + 1) w * cfS how (n + i + 1))
      rw [ksum_f (n := m)]
      have e11 : rwK (serStep L d x (serT how (n + 1) (serFac how (n + 1) fac))) 11 w = rwK x 11 w + pwK L d f (n + 1) w * cfS how (n + 1) := by
        show kN _ = _
        rw [ex 11 w hw, if_pos rfl, kN_mod, kN_add, kN_mul, e10 w hw, serT_K (Nat.le_of_lt hfl), serFac_K (by have : PR = 2147483647 := rfl; omega)]
        refine congrArg (_ + ·) (congrArg (pwK L d f (n + 1) w * ·) ?_)
        unfold cfS
        by_cases h0 : how = 0
        · simp only [if_pos h0]
          rw [hfac h0]
          show _ = kpr cE 1 n * cE (1 + n)
          rw [Nat.add_comm 1 n]
        · simp only [if_neg h0]
          by_cases h1 : how = 1
          · simp only [if_pos h1]
          · simp only [if_neg h1]
            rw [km_1]
      rw [e11, ka_a]
      refine congrArg (rwK x 11 w + ·) ?_
      refine congrArg (_ + ·) (ksum_c (fun i _ => ?_))
      rw [show n + 1 + i + 1 = n + (i + 1) + 1 by omega]
theorem serX_K {L d how a : Nat} {x : Nat → Nat} (hL : 1 ≤ L) (hW : ofs L (d + 1) ≤ 364) (hW0 : 0 < ofs L (d + 1)) (hh : how < 3) (hd : d < 100) :
    (∀ s w, s ≠ 9 → s ≠ 10 → s ≠ 11 → s ≠ 12 → w < ofs L (d + 1) → serX L d how a x (364 * s + w) = x (364 * s + w)) ∧ eqW L d (rwK (serX L d how a x) 11) (serK L d how (nzK (rwK x a))) := by
  have hg := serGo_K (L := L) (d := d) (how := how) (f := nzK (rwK x a)) hL hW hh hd d 0 1
    (rsN (rsN (rsN (rsN (rsN (rsN x (364 * 9) (ofs L (d + 1)) (fun w => x (364 * a + w))) (364 * 9) 1 (fun _ => 0)) (364 * 10) (ofs L (d + 1)) (fun _ => 0)) (364 * 10) 1 (fun _ => 1)) (364 * 11) (ofs L (d + 1)) (fun _ => 0)) (364 * 11) 1 (fun _ => if how = 1 then 0 else 1)) (by omega) (by decide) (fun _ => rfl)
  have hg1 := hg (fun w hw => by
    rw [rwK_one (by omega), if_neg (by omega), rwK_rs hW hw, if_neg (by decide), rwK_one (by omega), if_neg (by omega), rwK_rs hW hw, if_neg (by decide), rwK_one (by omega)]
    unfold nzK
    by_cases h0 : w = 0
    · rw [if_pos ⟨rfl, h0⟩, if_pos h0]; rfl
    · rw [if_neg (fun z => h0 z.2), if_neg h0, rwK_rs hW hw, if_pos rfl]; rfl) (fun w hw => by
    rw [rwK_one (by omega), if_neg (by omega), rwK_rs hW hw, if_neg (by decide), rwK_one (by omega)]
    show _ = unitK 1 w
    unfold unitK
    by_cases h0 : w = 0
    · rw [if_pos ⟨rfl, h0⟩, if_pos h0]; rfl
    · rw [if_neg (fun z => h0 z.2), if_neg h0, rwK_rs hW hw, if_pos rfl]; rfl)
  refine ⟨fun s w h9 h10 h11 h12 hw => ?_, fun w hw => ?_⟩
  · show serGo L d how d 1 1 _ _ = _
    have := hg1.1 s w h10 h11 h12 hw
    rw [Nat.zero_add] at this
    refine Eq.trans this ?_
    rw [rsN_out (by omega), rsN_out (by omega), rsN_out (by omega), rsN_out (by omega), rsN_out (by omega), rsN_out (by omega)]
  · have := hg1.2 w hw
    rw [Nat.zero_add] at this
    refine Eq.trans this ?_
    unfold serK
    show rwK (rsN _ (364 * 11) 1 _) 11 w + _ = (if how = 1 then 0 else unitK 1 w) + _
    rw [rwK_one (by omega), rwK_rs hW hw, if_pos rfl]
    refine congr (congrArg _ ?_) (ksum_c (fun i _ => by rw [Nat.zero_add]))
    unfold unitK
    by_cases h1 : how = 1
    · simp only [if_pos h1, ite_self]; rfl
    · simp only [if_neg h1]
      by_cases h0 : w = 0
      · rw [if_pos ⟨trivial, h0⟩, if_pos h0]; rfl
      · rw [if_neg (fun z => h0 z.2), if_neg h0]; rfl
