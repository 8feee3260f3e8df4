/-! LIE: by Dynkin's way and by shares; what the kernel reckons for it -/
section DY
variable {L : Nat}
def raN (L e p : Nat) : Nat := p / L ^ e * L ^ e + p % L ^ e % L ^ (e - 1) * L + p % L ^ e / L ^ (e - 1)
theorem cut3 {L e f c q : Nat} (hL : 1 ≤ L) (h1 : 1 ≤ e) (hc : c < L) (hq : q < L ^ (e - 1)) : (f * L ^ e + (c * L ^ (e - 1) + q)) / L ^ e = f ∧ (f * L ^ e + (c * L ^ (e - 1) + q)) % L ^ e = c * L ^ (e - 1) + q ∧ (c * L ^ (e - 1) + q) / L ^ (e - 1) = c ∧ (c * L ^ (e - 1) + q) % L ^ (e - 1) = q := by
  have hLe : 0 < L ^ e := Nat.pow_pos hL
  have hLe1 : 0 < L ^ (e - 1) := Nat.pow_pos hL
  have hb : c * L ^ (e - 1) + q < L ^ e := by
    have := pv_lt (L := L) (m := 1) (n := e - 1) (by rw [Nat.pow_one]; exact hc) hq
    rwa [show 1 + (e - 1) = e by omega] at this
  refine ⟨?_, ?_, ?_, ?_⟩
  · rw [Nat.mul_comm f, Nat.mul_add_div hLe, Nat.div_eq_of_lt hb, Nat.add_zero]
  · rw [Nat.mul_comm f, Nat.mul_add_mod, Nat.mod_eq_of_lt hb]
  · rw [Nat.mul_comm c, Nat.mul_add_div hLe1, Nat.div_eq_of_lt hq, Nat.add_zero]
  · rw [Nat.mul_comm c, Nat.mul_add_mod, Nat.mod_eq_of_lt hq]
theorem cut3' {L e f c q : Nat} (hL : 1 ≤ L) (h1 : 1 ≤ e) (hc : c < L) (hq : q < L ^ (e - 1)) : (f * L ^ e + (q * L + c)) / L ^ e = f ∧ (f * L ^ e + (q * L + c)) % L ^ e = q * L + c ∧ (q * L + c) / L = q ∧ (q * L + c) % L = c := by
  have hLe : 0 < L ^ e := Nat.pow_pos hL
  have hb : q * L + c < L ^ e := by
    have := pow_app hq hc
    rwa [Nat.mul_comm L q, show e - 1 + 1 = e by omega] at this
  refine ⟨?_, ?_, ?_, ?_⟩
  · rw [Nat.mul_comm f, Nat.mul_add_div hLe, Nat.div_eq_of_lt hb, Nat.add_zero]
  · rw [Nat.mul_comm f, Nat.mul_add_mod, Nat.mod_eq_of_lt hb]
  · rw [Nat.mul_comm q]; exact (dm_app hc).1
  · rw [Nat.mul_comm q]; exact (dm_app hc).2
theorem la_ra {e V p : Nat} (hL : 1 ≤ L) (h1 : 1 ≤ e) : laN L e V = p ↔ V = raN L e p := by
  have hLe : 0 < L ^ e := Nat.pow_pos hL
  have hLe1 : 0 < L ^ (e - 1) := Nat.pow_pos hL
  have eLe : L ^ e = L * L ^ (e - 1) := by
    conv => lhs; rw [show e = e - 1 + 1 by omega]
    rw [Nat.pow_succ, Nat.mul_comm]
  constructor
  · rintro rfl
    have hml := Nat.mod_lt V hLe
    have hq : V % L ^ e / L < L ^ (e - 1) := dv_lt hL h1 hml
    have hc : V % L ^ e % L < L := Nat.mod_lt _ hL
    obtain ⟨c1, c2, c3, c4⟩ := cut3 (L := L) (e := e) (f := V / L ^ e) hL h1 hc hq
    have e0 : laN L e V = V / L ^ e * L ^ e + (V % L ^ e % L * L ^ (e - 1) + V % L ^ e / L) := by unfold laN; omega
    unfold raN
    rw [e0, c1, c2, c3, c4, Nat.mul_comm (V % L ^ e / L) L, Nat.add_assoc, Nat.div_add_mod, Nat.mul_comm, Nat.div_add_mod]
  · rintro rfl
    have hml := Nat.mod_lt p hLe
    have hq : p % L ^ e % L ^ (e - 1) < L ^ (e - 1) := Nat.mod_lt _ hLe1
    have hc : p % L ^ e / L ^ (e - 1) < L := by
      rw [Nat.div_lt_iff_lt_mul hLe1, ← eLe]; exact hml
    obtain ⟨c1, c2, c3, c4⟩ := cut3' (L := L) (e := e) (f := p / L ^ e) hL h1 hc hq
    have e0 : raN L e p = p / L ^ e * L ^ e + (p % L ^ e % L ^ (e - 1) * L + p % L ^ e / L ^ (e - 1)) := by unfold raN; omega
    unfold laN
    rw [e0, c1, c2, c3, c4, Nat.mul_comm (p % L ^ e / L ^ (e - 1)), Nat.add_assoc, Nat.div_add_mod, Nat.mul_comm, Nat.div_add_mod]
/-- Dynkin's map over a list -/
def dyE (L : Nat) : Nat → List (Nat × Nat) → List (Nat × Nat)
  | 0, l => l
  | e + 1, l => nmL (dyE L e l ++ mcL 2147483646 ((dyE L e l).map (fun q => (raN L (e + 2) q.1, q.2))))
theorem lsK_ra {e V : Nat} (hL : 1 ≤ L) (h1 : 1 ≤ e) : ∀ l, lsK (l.map (fun q => (raN L e q.1, q.2))) V = lsK l (laN L e V)
  | [] => rfl
  | q :: l => by
    show (if V = raN L e q.1 then kN q.2 else 0) + lsK (l.map _) V = (if laN L e V = q.1 then kN q.2 else 0) + lsK l (laN L e V)
    rw [lsK_ra hL h1 l]
    refine congrArg (· + _) ?_
    by_cases h : laN L e V = q.1
    · rw [if_pos h, if_pos ((la_ra hL h1).mp h)]
    · rw [if_neg h, if_neg (fun z => h ((la_ra hL h1).mpr z))]
theorem dyE_K (hL : 1 ≤ L) {l : List (Nat × Nat)} : ∀ e V, dyN L (lsK l) e V = lsK (dyE L e l) V
  | 0, V => rfl
  | e + 1, V => by
    show dyN L (lsK l) e V - dyN L (lsK l) e (laN L (e + 2) V) = lsK (nmL (dyE L e l ++ mcL 2147483646 ((dyE L e l).map (fun q => (raN L (e + 2) q.1, q.2))))) V
    rw [lsK_nm, lsK_app, lsK_mc, lsK_ra hL (by omega), dyE_K hL e V, dyE_K hL e, ks_n, k_m1, kn_m', km_1]
/-- its transpose -/
def dyT (L : Nat) : Nat → List (Nat × Nat) → List (Nat × Nat)
  | 0, l => l
  | e + 1, l => dyT L e (nmL (l ++ mcL 2147483646 (l.map (fun q => (laN L (e + 2) q.1, q.2)))))
theorem lsL_mp {F : Nat → Kf} {f : Nat → Nat} : ∀ l : List (Nat × Nat), lsL F (l.map (fun q => (f q.1, q.2))) = lsL (fun u => F (f u)) l
  | [] => rfl
  | q :: l => by
    show kN q.2 * F (f q.1) + lsL F (l.map _) = _
    rw [lsL_mp l]
    rfl
theorem lsL_ad {F G : Nat → Kf} : ∀ l : List (Nat × Nat), lsL (fun u => F u + G u) l = lsL F l + lsL G l
  | [] => (ka_0 0).symm
  | q :: l => by
    show kN q.2 * (F q.1 + G q.1) + lsL _ l = (kN q.2 * F q.1 + lsL F l) + (kN q.2 * G q.1 + lsL G l)
    rw [lsL_ad l, kd_l, ka_4]
theorem lsL_mlc {F : Nat → Kf} {c : Kf} : ∀ l : List (Nat × Nat), lsL (fun u => F u * c) l = lsL F l * c
  | [] => (km_0 _).symm
  | q :: l => by
    show kN q.2 * (F q.1 * c) + lsL _ l = (kN q.2 * F q.1 + lsL F l) * c
    rw [lsL_mlc l, kd_r, km_a]
theorem dyT_K {A : Nat → Kf} : ∀ e l, lsL (dyN L A e) l = lsL A (dyT L e l)
  | 0, l => rfl
  | e + 1, l => by
    show lsL (fun w => dyN L A e w - dyN L A e (laN L (e + 2) w)) l = lsL A (dyT L e (nmL (l ++ mcL 2147483646 (l.map (fun q => (laN L (e + 2) q.1, q.2))))))
    rw [← dyT_K e, lsL_nm, lsL_app, lsL_mc, lsL_mp, ← lsL_mlc, ← lsL_ad]
    refine lsL_c (fun q _ => ?_)
    rw [ks_n, k_m1, kn_m', km_1]
def zrL : List (Nat × Nat) → Bool
  | [] => true
  | q :: l => Nat.beq (q.2 % 2147483647) 0 && zrL l
theorem zrL_K {F : Nat → Kf} : ∀ {l : List (Nat × Nat)}, zrL l = true → lsL F l = 0
  | [], _ => rfl
  | q :: l, h => by
    have h' : (Nat.beq (q.2 % 2147483647) 0 && zrL l) = true := h
    rw [Bool.and_eq_true] at h'
    have e : q.2 % PR = 0 := Nat.eq_of_beq_eq_true h'.1
    show kN q.2 * F q.1 + lsL F l = 0
    rw [zrL_K h'.2, ← kN_mod, e, kN_0, km_0, ka_0]
/-- Dynkin's map makes a list n times itself -/
def lieQ (L n : Nat) (l : List (Nat × Nat)) : Bool := zrL (nmL (dyE L (n - 1) l ++ mcL (2147483647 - n) l))
theorem lieQ_K (hL : 1 ≤ L) {n : Nat} (hn : n ≤ 6) {l : List (Nat × Nat)} (h : lieQ L n l = true) : lieD L n (lsK l) := fun w _ => by
  have h1 := zrL_K (F := fun u => if w = u then 1 else 0) h
  rw [lsL_nm, lsL_app, lsL_mc, ← lsL_K, ← lsL_K, show (2147483647 - n) = PR - n from rfl, kN_neg (by have : PR = 2147483647 := rfl; omega), kn_m', ← dyE_K hL] at h1
  have h2 := kn_u h1
  rw [← kn_n (dyN L (lsK l) (n - 1) w), ← h2, kn_n]
/-- of a word: its ordered product begins with it, times 1; a chief's is LIE; what measures another's share gives 0 for all that Dynkin's map makes -/
def lieW (L n w : Nat) : Bool := ((opL L n w).all (fun q => Nat.ble w q.1) && Nat.beq (lkN w (opL L n w)) 1) && cond (chf L n w) (lieQ L n (opL L n w)) (zrL (dyT L (n - 1) (spS L 8 n w)))
/-- a chief's bracket with a letter is LIE -/
def lieX (L n w : Nat) : Bool := cond (chf L n w) (rgA (fun x => lieQ L (n + 1) (nmL (prL (L ^ n) [(x, 1)] (opL L n w) ++ mcL 2147483646 (prL L (opL L n w) [(x, 1)])))) L 0) true
end DY
