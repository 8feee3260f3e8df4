/-! duality of ordered products and what measures shares: what the kernel reckons, and what it says -/
def lkN (j : Nat) : List (Nat × Nat) → Nat
  | [] => 0
  | q :: l => cond (Nat.beq j q.1) ((q.2 + lkN j l) % 2147483647) (lkN j l)
def smN (s : List (Nat × Nat)) (w : Nat) : List (Nat × Nat) → Nat
  | [] => 0
  | q :: l => cond (Nat.ble q.1 w) (smN s w l) ((q.2 * lkN q.1 s + smN s w l) % 2147483647)
def ctN (L : Nat) : Nat → Nat → Nat
  | 0, _ => 0
  | n + 1, v => ctN L n (v / L) + 8 ^ (v % L)
def rgA (f : Nat → Bool) : Nat → Nat → Bool
  | 0, _ => true
  | k + 1, i => f i && rgA f k (i + 1)
def duP (L n w v : Nat) (c : Nat) (p : List (Nat × Nat)) : Bool := cond (Nat.beq c (ctN L n v)) (Nat.beq ((lkN w (spS L 8 n v) + smN (spS L 8 n v) w p) % 2147483647) (cond (Nat.beq w v) 1 0)) true
def duW (L n w : Nat) : Bool := (opL L n w).all (fun q => Nat.beq (ctN L n q.1) (ctN L n w)) && ((spS L 8 n w).all (fun q => Nat.beq (ctN L n q.1) (ctN L n w)) && rgA (fun v => duP L n w v (ctN L n w) (opL L n w)) (L ^ n) 0)
theorem rgA_of {f : Nat → Bool} : ∀ {k i : Nat}, rgA f k i = true → ∀ j, i ≤ j → j < i + k → f j = true
  | 0, i, _, j, h1, h2 => by omega
  | k + 1, i, h, j, h1, h2 => by
    have h' : (f i && rgA f k (i + 1)) = true := h
    rw [Bool.and_eq_true] at h'
    by_cases e : j = i
    · rw [e]; exact h'.1
    · exact rgA_of h'.2 j (by omega) (by omega)
theorem beq_d (k j : Nat) : Nat.beq k j = decide (k = j) := by
  by_cases e : k = j
  · rw [decide_eq_true e, e]; exact Nat.beq_refl j
  · rw [decide_eq_false e]
    cases h : Nat.beq k j with
    | false => rfl
    | true => exact absurd (Nat.eq_of_beq_eq_true h) e
theorem ble_d (k j : Nat) : Nat.ble k j = decide (k ≤ j) := by
  by_cases e : k ≤ j
  · rw [decide_eq_true e]; exact Nat.ble_eq_true_of_le e
  · rw [decide_eq_false e]
    cases h : Nat.ble k j with
    | false => rfl
    | true => exact absurd (Nat.le_of_ble_eq_true h) e
theorem lkN_K {j : Nat} : ∀ l, kN (lkN j l) = lsK l j
  | [] => rfl
  | q :: l => by
    unfold lkN lsK
    rw [beq_d]
    by_cases e : j = q.1
    · rw [decide_eq_true e, if_pos e]
      show kN ((q.2 + lkN j l) % PR) = _
      rw [kN_mod, kN_add, lkN_K l]
    · rw [decide_eq_false e, if_neg e, ka_0']
      exact lkN_K l
theorem smN_K {s : List (Nat × Nat)} {w : Nat} : ∀ l, kN (smN s w l) = lsL (fun V => if w < V then lsK s V else 0) l
  | [] => rfl
  | q :: l => by
    unfold smN lsL
    rw [ble_d]
    by_cases e : q.1 ≤ w
    · rw [decide_eq_true e, if_neg (show ¬ w < q.1 by omega), km_0', ka_0']
      exact smN_K l
    · rw [decide_eq_false e, if_pos (show w < q.1 by omega)]
      show kN ((q.2 * lkN q.1 s + smN s w l) % PR) = _
      rw [kN_mod, kN_add, kN_mul, smN_K l, lkN_K s]
theorem lsK_no {j : Nat} : ∀ {l : List (Nat × Nat)}, (∀ q, q ∈ l → j ≠ q.1) → lsK l j = 0
  | [], _ => rfl
  | q :: l, h => by
    unfold lsK
    rw [if_neg (h q (List.mem_cons_self)), lsK_no (fun r hr => h r (List.mem_cons_of_mem _ hr)), ka_0]
theorem lsL_0 {F : Nat → Kf} : ∀ {l : List (Nat × Nat)}, (∀ q, q ∈ l → F q.1 = 0) → lsL F l = 0
  | [], _ => rfl
  | q :: l, h => by
    unfold lsL
    rw [h q (List.mem_cons_self), lsL_0 (fun r hr => h r (List.mem_cons_of_mem _ hr)), km_0', ka_0]
theorem du_of {L n : Nat} (h : ∀ w, w < L ^ n → duW L n w = true) {w v : Nat} (hw : w < L ^ n) (hv : v < L ^ n) : lsK (spS L 8 n v) w + lsL (fun V => if w < V then lsK (spS L 8 n v) V else 0) (opL L n w) = if w = v then 1 else 0 := by
  have h1 := h w hw
  unfold duW at h1
  rw [Bool.and_eq_true, Bool.and_eq_true] at h1
  obtain ⟨p1, -, p3⟩ := h1
  have h2 := h v hv
  unfold duW at h2
  rw [Bool.and_eq_true, Bool.and_eq_true] at h2
  obtain ⟨-, s1, -⟩ := h2
  have hp : ∀ q, q ∈ opL L n w → ctN L n q.1 = ctN L n w := fun q hq => Nat.eq_of_beq_eq_true (List.all_eq_true.mp p1 q hq)
  have hs : ∀ q, q ∈ spS L 8 n v → ctN L n q.1 = ctN L n v := fun q hq => Nat.eq_of_beq_eq_true (List.all_eq_true.mp s1 q hq)
  have h3 := rgA_of p3 v (Nat.zero_le _) (by omega)
  unfold duP at h3
  rw [beq_d, beq_d, beq_d] at h3
  by_cases hc : ctN L n w = ctN L n v
  · rw [decide_eq_true hc] at h3
    have h4 : (lkN w (spS L 8 n v) + smN (spS L 8 n v) w (opL L n w)) % 2147483647 = cond (decide (w = v)) 1 0 := of_decide_eq_true h3
    have h5 := congrArg kN h4
    rw [show (2147483647 : Nat) = PR from rfl, kN_mod, kN_add, lkN_K, smN_K] at h5
    rw [h5]
    by_cases e : w = v
    · rw [decide_eq_true e, if_pos e]; rfl
    · rw [decide_eq_false e, if_neg e]; rfl
  · rw [if_neg (fun e => hc (by rw [e])), lsK_no (fun q hq e => hc (by rw [e]; exact hs q hq)), lsL_0 (fun q hq => ?_), ka_0]
    by_cases e : w < q.1
    · rw [if_pos e]
      exact lsK_no (fun r hr e2 => hc (by rw [← hp q hq, e2]; exact hs r hr))
    · rw [if_neg e]
/-! the elimination -/
theorem ksum_lt {f : Nat → Kf} {k M : Nat} (h : k ≤ M) : ksum k f = ksum M (fun i => if i < k then f i else 0) := by
  obtain ⟨e, rfl⟩ : ∃ e, M = k + e := ⟨M - k, by omega⟩
  rw [ksum_app, ksum_z (n := e) (fun i _ => if_neg (by omega)), ka_0]
  exact ksum_c (fun i hi => (if_pos hi).symm)
section SH
variable {L d : Nat} {g : Nat → Nat}
theorem shA_st {j : Nat} : ∀ k, shA L d g (j + k) j = shA L d g j j
  | 0 => rfl
  | k + 1 => by
    show shW L d (shA L d g (j + k)) (j + k) j = _
    unfold shW
    rw [if_neg (by omega)]
    exact shA_st k
theorem shA_run {n v : Nat} (hn : n ≤ d) (hv : v < L ^ n) : ∀ k, k ≤ v → kN (shA L d g (ofs L n + k) (ofs L n + v)) + ksum k (fun w => kN (shA L d g (ofs L n + w) (ofs L n + w)) * kN (ordP L n w v)) = kN (g (ofs L n + v))
  | 0, _ => by
    have base : ∀ w, w ≤ ofs L n → shA L d g w (ofs L n + v) = g (ofs L n + v) := by
      intro w
      induction w with
      | zero => intro _; rfl
      | succ w ih =>
        intro hw
        obtain ⟨m, u, hm, hu, rfl⟩ := pl_ex (L := L) (d := d) (w := w) (by have := pl_W (d := d) hn hv; omega)
        show shW L d (shA L d g (ofs L m + u)) (ofs L m + u) (ofs L n + v) = _
        unfold shW
        rw [wlen_of hm hu, if_neg]
        · exact ih (by omega)
        · rintro ⟨q1, q2⟩
          by_cases e : m < n
          · have : ofs L (m + 1) ≤ ofs L n := ofs_mono (by omega)
            have e2 : ofs L (m + 1) = ofs L m + L ^ m := rfl
            omega
          · have : ofs L n ≤ ofs L m := ofs_mono (by omega)
            omega
    show kN _ + 0 = _
    rw [ka_0, Nat.add_zero, base _ (Nat.le_refl _)]
  | k + 1, hk => by
    have ih := shA_run hn hv k (by omega)
    show kN (shW L d (shA L d g (ofs L n + k)) (ofs L n + k) (ofs L n + v)) + (ksum k _ + kN (shA L d g (ofs L n + k) (ofs L n + k)) * kN (ordP L n k v)) = _
    unfold shW
    rw [wlen_of hn (show k < L ^ n by omega), if_pos ⟨by omega, by omega⟩, Nat.add_sub_cancel_left, Nat.add_sub_cancel_left, kN_mod, kN_add, kN_neg (Nat.le_of_lt (Nat.mod_lt _ (by decide))), kN_mod, kN_mul]
    rw [ka_a, ka_c (-_), ka_a, kn_c', ka_0]
    exact ih
/-- the shares, in the ring -/
def shr (L d : Nat) (g : Nat → Nat) : Nat → Kf := fun w => kN (shA L d g (ofs L (d + 1)) w)
theorem shr_eq {n v : Nat} (hn : n ≤ d) (hv : v < L ^ n) : shr L d g (ofs L n + v) + ksum v (fun w => shr L d g (ofs L n + w) * kN (ordP L n w v)) = kN (g (ofs L n + v)) := by
  have st : ∀ w, w ≤ v → shr L d g (ofs L n + w) = kN (shA L d g (ofs L n + w) (ofs L n + w)) := fun w hw => by
    have hW := pl_W (d := d) hn hv
    have := shA_st (L := L) (d := d) (g := g) (j := ofs L n + w) (ofs L (d + 1) - (ofs L n + w))
    unfold shr
    rw [show ofs L (d + 1) = ofs L n + w + (ofs L (d + 1) - (ofs L n + w)) by omega, this]
  have := shA_run (g := g) hn hv v (Nat.le_refl _)
  rw [st v (Nat.le_refl _), ksum_c (fun w hw => by rw [st w (by omega)])]
  exact this
/-- a sum paired with what measures is its share -/
theorem share_eq {n v : Nat} (hL : 1 ≤ L) (hn6 : n ≤ 6) (hn : n ≤ d) (hv : v < L ^ n) (hdu : ∀ w, w < L ^ n → duW L n w = true) : ksum (L ^ n) (fun V => kN (g (ofs L n + V)) * sml L 8 n v V) = shr L d g (ofs L n + v) := by
  obtain ⟨s1, s2⟩ := spS_K hL 8 n v (by omega) hn6 hv
  have e1 : ∀ V, V < L ^ n → kN (g (ofs L n + V)) * sml L 8 n v V = shr L d g (ofs L n + V) * lsK (spS L 8 n v) V + ksum (L ^ n) (fun w => shr L d g (ofs L n + w) * (lsK (opL L n w) V * (if w < V then lsK (spS L 8 n v) V else 0))) := fun V hV => by
    rw [← shr_eq hn hV, kd_r, s2 V hV, ← ksum_mr, ksum_lt (Nat.le_of_lt hV)]
    refine congrArg (shr L d g (ofs L n + V) * sml L 8 n v V + ·) (ksum_c (fun w hw => ?_))
    by_cases e : w < V
    · rw [if_pos e, if_pos e, opL_K hL hn6 hV, km_a]
    · rw [if_neg e, if_neg e, km_0', km_0']
  rw [ksum_c e1, ksum_a, ksum_sw, ← ksum_a]
  rw [ksum_c (h := fun w => if w = v then shr L d g (ofs L n + w) else 0) (fun w hw => ?_), ksum_if, if_pos hv]
  rw [ksum_ml, ← kd_l]
  have := du_of hdu hw hv
  rw [← lsL_sum (fun q hq => opL_lt hL hn6 hq)] at this
  rw [this]
  by_cases e : w = v
  · rw [if_pos e, if_pos e, km_1]
  · rw [if_neg e, if_neg e, km_0']
end SH
