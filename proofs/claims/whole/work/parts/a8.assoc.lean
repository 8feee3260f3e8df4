/-! products of sums told by (length, value): the last letter, linear, associative -/
theorem dv_dv {L v k : Nat} : v / L ^ (k + 1) = v / L / L ^ k := by rw [Nat.div_div_eq_div_mul, Nat.pow_succ, Nat.mul_comm]
theorem md_md {L v k : Nat} : v % L ^ (k + 1) = L * (v / L % L ^ k) + v % L := by
  rw [Nat.pow_succ, Nat.mul_comm (L ^ k) L, Nat.mod_mul, Nat.add_comm]
theorem mulR_0 {L : Nat} {x y : Nat → Nat → Kf} {v : Nat} : mulR L x y 0 v = x 0 v * y 0 0 := by
  show 0 + x (0 - 0) (v / L ^ 0) * y 0 (v % L ^ 0) = _
  rw [ka_0', Nat.pow_zero, Nat.div_one, Nat.mod_one]
theorem mulR_s {L : Nat} {x y : Nat → Nat → Kf} {n v : Nat} : mulR L x y (n + 1) v = x (n + 1) v * y 0 0 + mulR L x (drL L (v % L) y) n (v / L) := by
  unfold mulR
  rw [ksum_f, Nat.pow_zero, Nat.div_one, Nat.mod_one]
  refine congrArg (x (n + 1) v * y 0 0 + ·) (ksum_c (fun k hk => ?_))
  show x (n + 1 - (k + 1)) (v / L ^ (k + 1)) * y (k + 1) (v % L ^ (k + 1)) = x (n - k) (v / L / L ^ k) * y (k + 1) (L * (v / L % L ^ k) + v % L)
  rw [dv_dv, md_md, show n + 1 - (k + 1) = n - k by omega]
theorem mulR_ar {L : Nat} {x y z : Nat → Nat → Kf} {n v : Nat} : mulR L x (fun m u => y m u + z m u) n v = mulR L x y n v + mulR L x z n v := by
  unfold mulR
  rw [← ksum_a]
  exact ksum_c (fun k _ => kd_l _ _ _)
theorem mulR_al {L : Nat} {x y z : Nat → Nat → Kf} {n v : Nat} : mulR L (fun m u => x m u + y m u) z n v = mulR L x z n v + mulR L y z n v := by
  unfold mulR
  rw [← ksum_a]
  exact ksum_c (fun k _ => kd_r _ _ _)
theorem mulR_mr {L : Nat} {x y : Nat → Nat → Kf} {c : Kf} {n v : Nat} : mulR L x (fun m u => y m u * c) n v = mulR L x y n v * c := by
  unfold mulR
  rw [← ksum_mr]
  exact ksum_c (fun k _ => (km_a _ _ _).symm)
theorem mulR_ml {L : Nat} {x y : Nat → Nat → Kf} {c : Kf} {n v : Nat} : mulR L (fun m u => x m u * c) y n v = mulR L x y n v * c := by
  unfold mulR
  rw [← ksum_mr]
  exact ksum_c (fun k _ => by rw [km_a, km_c c, ← km_a])
theorem mulR_sr {L N : Nat} {p : Nat → Nat → Nat → Kf} {c : Nat → Kf} {x : Nat → Nat → Kf} {n v : Nat} : mulR L x (fun m u => ksum N (fun i => c i * p i m u)) n v = ksum N (fun i => c i * mulR L x (p i) n v) := by
  unfold mulR
  rw [ksum_c (h := fun k => ksum N (fun i => c i * (x (n - k) (v / L ^ k) * p i k (v % L ^ k)))) (fun k _ => ?_), ksum_sw]
  · exact ksum_c (fun i _ => ksum_ml)
  · rw [← ksum_ml]
    exact ksum_c (fun i _ => by rw [← km_a, km_c (x (n - k) (v / L ^ k)) (c i), km_a])
theorem mulR_as {L : Nat} (hL : 1 ≤ L) : ∀ n v (x y z : Nat → Nat → Kf), mulR L (mulR L x y) z n v = mulR L x (mulR L y z) n v
  | 0, v, x, y, z => by rw [mulR_0, mulR_0, mulR_0, mulR_0, km_a]
  | n + 1, v, x, y, z => by
    have hc : v % L < L := Nat.mod_lt _ hL
    have e : drL L (v % L) (mulR L y z) = fun m u => drL L (v % L) y m u * z 0 0 + mulR L y (drL L (v % L) z) m u := by
      funext m u
      show mulR L y z (m + 1) (L * u + v % L) = _
      rw [mulR_s, (dm_app hc).1, (dm_app hc).2]
      rfl
    rw [mulR_s, mulR_as hL n, mulR_s, mulR_s, e, mulR_ar, mulR_mr, mulR_0, kd_r, ka_a, km_a]
def un2 : Nat → Nat → Kf := fun n _ => if n = 0 then 1 else 0
theorem mulR_1r {L : Nat} {x : Nat → Nat → Kf} {n v : Nat} : mulR L x un2 n v = x n v := by
  unfold mulR
  rw [ksum_f, ksum_z (fun k _ => ?_), ka_0]
  · show x (n - 0) (v / L ^ 0) * 1 = _
    rw [km_1, Nat.pow_zero, Nat.div_one]
    rfl
  · show _ * (if k + 1 = 0 then _ else (0 : Kf)) = 0
    rw [if_neg (by omega), km_0']
theorem mulR_1l {L : Nat} {y : Nat → Nat → Kf} {n v : Nat} (hv : v < L ^ n) : mulR L un2 y n v = y n v := by
  unfold mulR
  show ksum n _ + un2 (n - n) (v / L ^ n) * y n (v % L ^ n) = _
  rw [ksum_z (fun k hk => ?_), ka_0', Nat.sub_self, Nat.mod_eq_of_lt hv]
  · show 1 * _ = _
    rw [km_1']
  · show (if n - k = 0 then _ else (0 : Kf)) * _ = 0
    rw [if_neg (by omega), km_0]
/-- a letter as a sum -/
def lt2 (c : Nat) : Nat → Nat → Kf := fun n v => if n = 1 ∧ v = c then 1 else 0
/-- what letters become: the letter y a sum, the others themselves -/
def phi (y : Nat) (h : Nat → Nat → Kf) (c : Nat) : Nat → Nat → Kf := if c = y then h else lt2 c
def Psi (L : Nat) (P : Nat → Nat → Nat → Kf) : Nat → Nat → Nat → Nat → Kf
  | 0, _ => un2
  | n + 1, v => mulR L (Psi L P n (v / L)) (P (v % L))
theorem Psi_f {L : Nat} (hL : 1 ≤ L) {P : Nat → Nat → Nat → Kf} : ∀ n x u, x < L → u < L ^ n → ∀ N V, V < L ^ N → Psi L P (n + 1) (x * L ^ n + u) N V = mulR L (P x) (Psi L P n u) N V
  | 0, x, u, hx, hu, N, V, hV => by
    show mulR L un2 (P ((x * L ^ 0 + u) % L)) N V = mulR L (P x) un2 N V
    rw [Nat.pow_zero] at hu
    rw [mulR_1l hV, mulR_1r, Nat.pow_zero, show x * 1 + u = x by omega, Nat.mod_eq_of_lt hx]
  | n + 1, x, u, hx, hu, N, V, hV => by
    have hdu : u / L < L ^ n := by rw [Nat.div_lt_iff_lt_mul hL, ← Nat.pow_succ]; exact hu
    have e1 : (x * L ^ (n + 1) + u) / L = x * L ^ n + u / L := by
      rw [Nat.pow_succ, ← Nat.mul_assoc, Nat.mul_comm _ L, Nat.mul_add_div (by omega)]
    have e2 : (x * L ^ (n + 1) + u) % L = u % L := by
      rw [Nat.pow_succ, ← Nat.mul_assoc, Nat.mul_comm _ L, Nat.mul_add_mod]
    show mulR L (Psi L P (n + 1) ((x * L ^ (n + 1) + u) / L)) (P ((x * L ^ (n + 1) + u) % L)) N V = mulR L (P x) (mulR L (Psi L P n (u / L)) (P (u % L))) N V
    rw [e1, e2, ← mulR_as hL]
    exact mulR_c hL hV (fun m u' _ hu' => Psi_f hL n x (u / L) hx hdu m u' hu') (fun _ _ _ _ => rfl)
/-- what stands behind the word (n, w), with the letters replaced: the class's way -/
def RB (L : Nat) (A : Nat → Nat → Kf) (P : Nat → Nat → Nat → Kf) : Nat → Nat → Nat → Nat → Nat → Kf
  | 0, n, w => fun N _ => if N = 0 then A n w else 0
  | f + 1, n, w => fun N V => (if N = 0 then A n w else 0) + ksum L (fun x => mulR L (P x) (RB L A P f (n + 1) (w * L + x)) N V)
theorem ksum_sq {M : Nat} {F : Nat → Kf} : ∀ a, ksum (a * M) F = ksum a (fun x => ksum M (fun u => F (x * M + u)))
  | 0 => by rw [Nat.zero_mul]; rfl
  | a + 1 => by
    rw [Nat.succ_mul, ksum_app, ksum_sq a]
    rfl
theorem un2_m (c : Kf) (N V : Nat) : (if N = 0 then c else 0) = c * un2 N V := by
  unfold un2
  by_cases h : N = 0
  · rw [if_pos h, if_pos h, km_1]
  · rw [if_neg h, if_neg h, km_0']
theorem RB_sum {L : Nat} (hL : 1 ≤ L) {A : Nat → Nat → Kf} {P : Nat → Nat → Nat → Kf} : ∀ f n w N V, V < L ^ N → RB L A P f n w N V = ksum (f + 1) (fun m => ksum (L ^ m) (fun u => A (n + m) (w * L ^ m + u) * Psi L P m u N V))
  | 0, n, w, N, V, hV => by
    show (if N = 0 then A n w else 0) = 0 + ksum (L ^ 0) _
    rw [Nat.pow_zero]
    show _ = 0 + (0 + A n (w * 1 + 0) * un2 N V)
    rw [ka_0', ka_0', un2_m _ N V, show w * 1 + 0 = w by omega]
  | f + 1, n, w, N, V, hV => by
    show (if N = 0 then A n w else 0) + ksum L (fun x => mulR L (P x) (RB L A P f (n + 1) (w * L + x)) N V) = _
    rw [ksum_f]
    refine congr (congrArg _ ?_) ?_
    · rw [Nat.pow_zero]
      show _ = 0 + A n (w * 1 + 0) * un2 N V
      rw [ka_0', un2_m _ N V, show w * 1 + 0 = w by omega]
    · rw [ksum_c (h := fun x => ksum (f + 1) (fun m => ksum (L ^ m) (fun u => A (n + 1 + m) ((w * L + x) * L ^ m + u) * mulR L (P x) (Psi L P m u) N V))) (fun x hx => ?_), ksum_sw]
      · refine ksum_c (fun m hm => ?_)
        rw [Nat.pow_succ, Nat.mul_comm (L ^ m) L, ksum_sq]
        refine ksum_c (fun x hx => ksum_c (fun u hu => ?_))
        rw [Psi_f hL m x u hx hu N V hV, show n + 1 + m = n + (m + 1) by omega]
        refine congrArg (· * _) (congrArg (A (n + (m + 1))) ?_)
        rw [Nat.add_mul, Nat.mul_assoc, Nat.add_assoc]
      · rw [mulR_c hL hV (fun _ _ _ _ => rfl) (fun m u hm hu => RB_sum hL f (n + 1) (w * L + x) m u hu)]
        have e : ∀ M, mulR L (P x) (fun a b => ksum M (fun m => ksum (L ^ m) (fun u => A (n + 1 + m) ((w * L + x) * L ^ m + u) * Psi L P m u a b))) N V = ksum M (fun m => ksum (L ^ m) (fun u => A (n + 1 + m) ((w * L + x) * L ^ m + u) * mulR L (P x) (Psi L P m u) N V)) := by
          intro M
          induction M with
          | zero =>
            unfold mulR
            exact ksum_z (fun k _ => km_0' _)
          | succ M ih =>
            show mulR L (P x) (fun a b => ksum M _ + ksum (L ^ M) _) N V = ksum M _ + ksum (L ^ M) _
            rw [mulR_ar, ih, mulR_sr]
        exact e (f + 1)
/-- REPLACED, by places -/
def rpK (L d y : Nat) (f h : Nat → Kf) : Nat → Kf := fun j => ksum (d + 1) (fun n => ksum (L ^ n) (fun v => at2 L f n v * Psi L (phi y (at2 L h)) n v (wlen L d j) (j - ofs L (wlen L d j))))
theorem RB_K {L d y : Nat} (hL : 1 ≤ L) {f h : Nat → Kf} {N V : Nat} (hN : N ≤ d) (hV : V < L ^ N) : RB L (at2 L f) (phi y (at2 L h)) d 0 0 N V = rpK L d y f h (ofs L N + V) := by
  rw [RB_sum hL d 0 0 N V hV]
  unfold rpK
  rw [wlen_of hN hV, Nat.add_sub_cancel_left]
  refine ksum_c (fun n _ => ksum_c (fun v _ => ?_))
  rw [Nat.zero_add, Nat.zero_mul, Nat.zero_add]
