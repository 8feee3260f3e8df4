/-! rows with pivots, what they span, how many there are -/
def ech (M k : Nat) (r : Nat → Nat → Kf) (p : Nat → Nat) : Prop := (∀ i, i < k → p i < M ∧ r i (p i) = 1 ∧ ∀ w, w < p i → r i w = 0) ∧ ∀ i j, i < j → j < k → r j (p i) = 0
def spn (M k : Nat) (r : Nat → Nat → Kf) (v : Nat → Kf) : Prop := ∃ c : Nat → Kf, ∀ w, w < M → v w = ksum k (fun i => c i * r i w)
theorem inj_le : ∀ (k' k : Nat) (f : Nat → Nat), (∀ i, i < k → f i < k') → (∀ i j, i < k → j < k → f i = f j → i = j) → k ≤ k'
  | 0, k, f, h1, _ => by
    by_cases e : k = 0
    · omega
    · have := h1 0 (by omega)
      omega
  | k' + 1, 0, f, _, _ => by omega
  | k' + 1, m + 1, f, h1, h2 => by
    have := inj_le k' m (fun i => if f i = k' then f m else f i) (fun i hi => by
      show (if f i = k' then f m else f i) < k'
      have a1 := h1 i (by omega)
      have a2 := h1 m (by omega)
      by_cases e : f i = k'
      · rw [if_pos e]
        have : f m ≠ k' := fun q => absurd (h2 i m (by omega) (by omega) (by rw [e, q])) (by omega)
        omega
      · rw [if_neg e]; omega) (fun i j hi hj he => by
      have he' : (if f i = k' then f m else f i) = (if f j = k' then f m else f j) := he
      by_cases e1 : f i = k'
      · rw [if_pos e1] at he'
        by_cases e2 : f j = k'
        · exact h2 i j (by omega) (by omega) (by rw [e1, e2])
        · rw [if_neg e2] at he'
          exact absurd (h2 m j (by omega) (by omega) he') (by omega)
      · rw [if_neg e1] at he'
        by_cases e2 : f j = k'
        · rw [if_pos e2] at he'
          exact absurd (h2 i m (by omega) (by omega) he') (by omega)
        · rw [if_neg e2] at he'
          exact h2 i j (by omega) (by omega) he')
    omega
theorem k_10 : (1 : Kf) ≠ 0 := fun h => by
  have h1 := congrArg kI h
  rw [kI_1, kI_0] at h1
  exact absurd h1 (by decide)
section EC
variable {M k : Nat} {r : Nat → Nat → Kf} {p : Nat → Nat}
theorem ech_inj (h : ech M k r p) {i j : Nat} (hi : i < k) (hj : j < k) (e : p i = p j) : i = j := by
  rcases Nat.lt_trichotomy i j with q | q | q
  · have h1 := h.2 i j q hj
    rw [e, (h.1 j hj).2.1] at h1
    exact absurd h1 k_10
  · exact q
  · have h1 := h.2 j i q hi
    rw [← e, (h.1 i hi).2.1] at h1
    exact absurd h1 k_10
theorem spn_lead (h : ech M k r p) {v : Nat → Kf} (hv : spn M k r v) {w0 : Nat} (hw0 : w0 < M) (hne : v w0 ≠ 0) : ∃ i, i < k ∧ (∀ w, w < p i → v w = 0) ∧ v (p i) ≠ 0 := by
  obtain ⟨c, hc⟩ := hv
  have hex : ∃ q, ∃ i, i < k ∧ c i ≠ 0 ∧ p i = q := by
    by_cases e : ∃ q, ∃ i, i < k ∧ c i ≠ 0 ∧ p i = q
    · exact e
    · exfalso
      apply hne
      rw [hc w0 hw0]
      refine ksum_z (fun i hi => ?_)
      by_cases e2 : c i = 0
      · rw [e2, km_0]
      · exact absurd ⟨p i, i, hi, e2, rfl⟩ e
  obtain ⟨q, ⟨i0, hi0, hci, hpi⟩, hmin⟩ := pk_least _ hex
  have hpM := (h.1 i0 hi0).1
  refine ⟨i0, hi0, fun w hw => ?_, ?_⟩
  · rw [hc w (by omega)]
    refine ksum_z (fun i hi => ?_)
    by_cases e2 : c i = 0
    · rw [e2, km_0]
    · have : ¬ p i < q := fun z => hmin (p i) z ⟨i, hi, e2, rfl⟩
      rw [(h.1 i hi).2.2 w (by omega), km_0']
  · rw [hc (p i0) hpM, ksum_c (h := fun i => if i = i0 then c i else 0) (fun i hi => ?_), ksum_if, if_pos hi0]
    · exact hci
    · by_cases e : i = i0
      · rw [if_pos e, e, (h.1 i0 hi0).2.1, km_1]
      · rw [if_neg e]
        by_cases e2 : c i = 0
        · rw [e2, km_0]
        · have h1 : ¬ p i < q := fun z => hmin (p i) z ⟨i, hi, e2, rfl⟩
          have h2 : p i ≠ p i0 := fun z => e (ech_inj h hi hi0 z)
          rw [(h.1 i hi).2.2 (p i0) (by omega), km_0']
theorem ech_cnt {k' : Nat} {r' : Nat → Nat → Kf} {p' : Nat → Nat} (h : ech M k r p) (h' : ech M k' r' p') (hs : ∀ i, i < k → spn M k' r' (r i)) : k ≤ k' := by
  have hex : ∀ i, i < k → ∃ j, j < k' ∧ p' j = p i := fun i hi => by
    have hp := h.1 i hi
    obtain ⟨j, hj, hl, hn⟩ := spn_lead h' (hs i hi) hp.1 (by rw [hp.2.1]; exact k_10)
    refine ⟨j, hj, ?_⟩
    rcases Nat.lt_trichotomy (p' j) (p i) with q | q | q
    · exact absurd (hp.2.2 _ q) hn
    · exact q
    · have := hl _ q
      rw [hp.2.1] at this
      exact absurd this k_10
  refine inj_le k' k (fun i => if hi : i < k then Classical.choose (hex i hi) else 0) (fun i hi => ?_) (fun i j hi hj e => ?_)
  · show (if hi : i < k then Classical.choose (hex i hi) else 0) < k'
    rw [dif_pos hi]
    exact (Classical.choose_spec (hex i hi)).1
  · have e' : (if hi : i < k then Classical.choose (hex i hi) else 0) = (if hj : j < k then Classical.choose (hex j hj) else 0) := e
    rw [dif_pos hi, dif_pos hj] at e'
    refine ech_inj h hi hj ?_
    rw [← (Classical.choose_spec (hex i hi)).2, ← (Classical.choose_spec (hex j hj)).2, e']
/-- a row with the others taken off, one behind the other -/
def rdE (r : Nat → Nat → Kf) (p : Nat → Nat) (h : Nat → Kf) : Nat → Nat → Kf
  | 0 => h
  | i + 1 => fun w => rdE r p h i w + r i w * (0 - rdE r p h i (p i))
theorem rdE_spn (hv : Nat → Kf) : ∀ i, ∃ c : Nat → Kf, ∀ w, hv w = rdE r p hv i w + ksum i (fun j => c j * r j w)
  | 0 => ⟨fun _ => 0, fun w => (ka_0 _).symm⟩
  | i + 1 => by
    obtain ⟨c, hc⟩ := rdE_spn hv i
    refine ⟨fun j => if j = i then rdE r p hv i (p i) else c j, fun w => ?_⟩
    show hv w = (rdE r p hv i w + r i w * (0 - rdE r p hv i (p i))) + (ksum i (fun j => (if j = i then rdE r p hv i (p i) else c j) * r j w) + (if i = i then rdE r p hv i (p i) else c i) * r i w)
    rw [if_pos rfl, ksum_c (h := fun j => c j * r j w) (fun j hj => by rw [if_neg (by omega)]), ks_n, ka_0', kn_m']
    rw [hc w, km_c (rdE r p hv i (p i)) (r i w), ka_a, ka_c (-(_ * _)), ka_a, kn_c', ka_0]
theorem rdE_z (h : ech M k r p) (hv : Nat → Kf) : ∀ i, i ≤ k → ∀ j, j < i → rdE r p hv i (p j) = 0
  | 0, _, j, hj => by omega
  | i + 1, hi, j, hj => by
    show rdE r p hv i (p j) + r i (p j) * (0 - rdE r p hv i (p i)) = 0
    by_cases e : j = i
    · subst e
      rw [(h.1 j (by omega)).2.1, km_1', ks_n, ka_0', kn_c']
    · rw [rdE_z h hv i (by omega) j (by omega), h.2 j i (by omega) (by omega), km_0, ka_0]
theorem ech_ins (h : ech M k r p) {hv : Nat → Kf} {q : Nat} (hq : q < M) (h0 : ∀ w, w < q → rdE r p hv k w = 0) (hne : rdE r p hv k q ≠ 0) {r' : Nat → Nat → Kf} {p' : Nat → Nat} (hr : ∀ i, i < k → r' i = r i) (hp : ∀ i, i < k → p' i = p i) (hrk : ∀ w, w < M → r' k w = rdE r p hv k w * kv (rdE r p hv k q)) (hpk : p' k = q) : ech M (k + 1) r' p' := by
  refine ⟨fun i hi => ?_, fun i j hij hj => ?_⟩
  · by_cases e : i = k
    · subst e
      rw [hpk]
      refine ⟨hq, by rw [hrk q hq, kv_inv hne], fun w hw => by rw [hrk w (by omega), h0 w hw, km_0]⟩
    · rw [hr i (by omega), hp i (by omega)]
      exact h.1 i (by omega)
  · by_cases e : j = k
    · subst e
      rw [hp i hij, hrk _ (h.1 i hij).1, rdE_z h hv j (Nat.le_refl _) i hij, km_0]
    · rw [hr j (by omega), hp i (by omega)]
      exact h.2 i j hij (by omega)
theorem spn_c {v v' : Nat → Kf} (hs : spn M k r v) (e : ∀ w, w < M → v w = v' w) : spn M k r v' := by
  obtain ⟨c, hc⟩ := hs
  exact ⟨c, fun w hw => by rw [← e w hw, hc w hw]⟩
theorem spn_up {r' : Nat → Nat → Kf} {k' : Nat} {v : Nat → Kf} (hs : spn M k r v) (hk : k ≤ k') (hr : ∀ i, i < k → ∀ w, w < M → r' i w = r i w) : spn M k' r' v := by
  obtain ⟨c, hc⟩ := hs
  refine ⟨fun i => if i < k then c i else 0, fun w hw => ?_⟩
  rw [hc w hw, ksum_lt hk]
  refine ksum_c (fun i hi => ?_)
  dsimp only
  by_cases e : i < k
  · rw [if_pos e, if_pos e, hr i e w hw]
  · rw [if_neg e, if_neg e, km_0]
theorem spn_row {i : Nat} (hi : i < k) : spn M k r (r i) := ⟨fun j => if j = i then 1 else 0, fun w hw => by
  rw [ksum_c (h := fun j => if j = i then r j w else 0) (fun j _ => by
    dsimp only
    by_cases e : j = i
    · rw [if_pos e, if_pos e, km_1']
    · rw [if_neg e, if_neg e, km_0]), ksum_if, if_pos hi]⟩
theorem spn_sum {N : Nat} {c : Nat → Kf} {u : Nat → Nat → Kf} (h : ∀ j, j < N → spn M k r (u j)) : spn M k r (fun w => ksum N (fun j => c j * u j w)) := by
  induction N with
  | zero => exact ⟨fun _ => 0, fun w _ => by
      show 0 = _
      exact (ksum_z (fun i _ => km_0 _)).symm⟩
  | succ N ih =>
    obtain ⟨a, ha⟩ := ih (fun j hj => h j (by omega))
    obtain ⟨b, hb⟩ := h N (by omega)
    refine ⟨fun i => a i + c N * b i, fun w hw => ?_⟩
    show ksum N (fun j => c j * u j w) + c N * u N w = _
    have ha' : ksum N (fun j => c j * u j w) = ksum k (fun i => a i * r i w) := ha w hw
    rw [ha', hb w hw, ← ksum_ml, ← ksum_a]
    exact ksum_c (fun i _ => by rw [kd_r, km_a])
/-- what was taken in is spanned -/
theorem spn_ins {hv : Nat → Kf} {q : Nat} (hne : rdE r p hv k q ≠ 0) {r' : Nat → Nat → Kf} (hr : ∀ i, i < k → r' i = r i) (hrk : ∀ w, w < M → r' k w = rdE r p hv k w * kv (rdE r p hv k q)) : spn M (k + 1) r' hv := by
  obtain ⟨c, hc⟩ := rdE_spn (r := r) (p := p) hv k
  refine ⟨fun i => if i < k then c i else rdE r p hv k q, fun w hw => ?_⟩
  show hv w = ksum k (fun i => (if i < k then c i else rdE r p hv k q) * r' i w) + (if k < k then c k else rdE r p hv k q) * r' k w
  rw [if_neg (Nat.lt_irrefl k), hrk w hw, ksum_c (h := fun i => c i * r i w) (fun i hi => by rw [if_pos hi, hr i hi]), hc w, ka_c]
  refine congrArg (_ + ·) ?_
  rw [km_c, km_a, km_c (kv _), kv_inv hne, km_1]
theorem spn_dep {hv : Nat → Kf} (hz : ∀ w, w < M → rdE r p hv k w = 0) : spn M k r hv := by
  obtain ⟨c, hc⟩ := rdE_spn (r := r) (p := p) hv k
  exact ⟨c, fun w hw => by rw [hc w, hz w hw, ka_0']⟩
end EC
