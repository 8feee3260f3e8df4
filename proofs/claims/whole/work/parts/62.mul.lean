/-! the reference's product -/
/-- the greatest length up to m whose words begin at or ahead of a place -/
def wlen (L : Nat) : Nat → Nat → Nat
  | 0, _ => 0
  | m + 1, w => if ofs L (m + 1) ≤ w then m + 1 else wlen L m w
theorem wlen_le {L : Nat} : ∀ {m w : Nat}, wlen L m w ≤ m
  | 0, _ => Nat.le_refl 0
  | m + 1, w => by
    unfold wlen
    by_cases h : ofs L (m + 1) ≤ w
    · rw [if_pos h]; exact Nat.le_refl _
    · rw [if_neg h]; exact Nat.le_succ_of_le wlen_le
theorem wlen_lo {L : Nat} : ∀ {m w : Nat}, ofs L (wlen L m w) ≤ w
  | 0, _ => Nat.zero_le _
  | m + 1, w => by
    unfold wlen
    by_cases h : ofs L (m + 1) ≤ w
    · rw [if_pos h]; exact h
    · rw [if_neg h]; exact wlen_lo
theorem wlen_hi {L : Nat} : ∀ {m w : Nat}, w < ofs L (m + 1) → w < ofs L (wlen L m w) + L ^ wlen L m w
  | 0, w => fun h => h
  | m + 1, w => fun h => by
    unfold wlen
    by_cases h1 : ofs L (m + 1) ≤ w
    · rw [if_pos h1]; exact h
    · rw [if_neg h1]; exact wlen_hi (by omega)
/-- all cells of the sums are numbers -/
def nums (S : ms_T) (x : Nat → Nat) : Prop := ∀ j, j < 13104 → S.2.2 0 j = lN (x j) ∧ x j < PR
/-- the sum of the first k splits of the word of length n and value v -/
def mulT (L : Nat) (x : Nat → Nat) (a b n v : Nat) : Nat → Nat
  | 0 => 0
  | k + 1 => (mulT L x a b n v k + x (364 * a + (ofs L k + v / L ^ (n - k))) * x (364 * b + (ofs L (n - k) + v % L ^ (n - k)))) % PR
def mulW (L d : Nat) (x : Nat → Nat) (a b w : Nat) : Nat := mulT L x a b (wlen L d w) (w - ofs L (wlen L d w)) (wlen L d w + 1)
theorem mulT_lt {L : Nat} {x : Nat → Nat} {a b n v k : Nat} : mulT L x a b n v k < PR := by
  cases k with
  | zero => exact (by decide : 0 < PR)
  | succ k => exact Nat.mod_lt _ (by decide)
theorem rl_add {r a b : Nat} (hr : r < PR) (ha : a < PR) (hb : b < PR) : xr_remL (lN r + lN a * lN b) 2147483647 = lN ((r + a * b) % PR) := by
  have hP : PR = 2147483647 := rfl
  have h2 : a * b ≤ 2147483646 * 2147483646 := Nat.mul_le_mul (by omega) (by omega)
  rw [lN_mul, lN_add]
  exact pk_lRem (show r + a * b < 2 ^ 63 by omega) (by decide) (by decide)
theorem mt_mJ {L d k : Nat} {S : ms_T} {g : Nat → Int64} (h : mt_ok L d S) : mt_ok L d (mJ S k g) := h
theorem rs_rs {g f h : Nat → Int64} {b n : Nat} : rs (rs g b n f) b n h = rs g b n h := by
  funext j
  unfold rs
  by_cases h1 : b ≤ j ∧ j < b + n
  · rw [if_pos h1, if_pos h1]
  · rw [if_neg h1, if_neg h1, if_neg h1]
theorem mJ_mJ {S : ms_T} {k : Nat} {f g : Nat → Int64} : mJ (mJ S k f) k g = mJ S k g := by
  unfold mJ
  dsimp only
  rw [bx_uu]
theorem sp_mul_in {L d n v s a b : Nat} {S : ms_T} {x : Nat → Nat} {K8 : ms_T → Int32 → Int32 → Int32 → Int32 → Prop} {Q : ms_T → Prop} (h : mt_ok L d S) (hx : ∀ j, j < 364 → S.2.2 0 (364 * a + j) = lN (x (364 * a + j)) ∧ x (364 * a + j) < PR ∧ S.2.2 0 (364 * b + j) = lN (x (364 * b + j)) ∧ x (364 * b + j) < PR) (hn : n ≤ d) (hv : v < L ^ n) (hs : s < 36) (ha : a < 36) (hb : b < 36)
    (hk : K8 (ms_sJ S 0 (364 * s + (ofs L n + v)) (lN (mulT L x a b n v (n + 1)))) (nI s) (nI a) (nI b) (nI (ofs L n + v + 1))) : ∀ m k, k + m = n + 1 → wp_X8_multiplies_23 K8 Q (m + 1) S (nI s) (nI a) (nI b) (nI (ofs L n + v)) (lN (mulT L x a b n v k)) (nI k) := by
  have hc := h.1
  have hd := cf_d hc
  have hw := cf_w hc hn hv
  have hlen : S.2.1 2 (nI (ofs L n + v)).toNatClampNeg = nI n := by
    rw [nI_clamp (by omega)]; exact h.2.2.2.2.2.2 n v hn hv
  intro m
  induction m with
  | zero =>
    intro k hkm
    have : k = n + 1 := by omega
    subst this
    refine ⟨vp_in_nI (by omega) (by omega), fun _ => ⟨?_, ?_⟩, fun hlt => absurd ?_ hlt⟩
    · rw [ix]; exact vp_in_nI (by omega) (by omega)
    · rintro _ rfl
      rw [ix, nI_clamp (by omega), nI_1]
      exact hk
    · rw [hlen]; exact nI_lt (by omega) (by omega)
  | succ m ih =>
    intro k hkm
    have hkn : k ≤ n := by omega
    have hpb := cf_pow hc (show n - k ≤ d by omega)
    have hL := cf_L hc
    have hbeg : v / L ^ (n - k) < L ^ k := by
      rw [Nat.div_lt_iff_lt_mul hpb.1, ← Nat.pow_add]
      rw [show k + (n - k) = n by omega]; exact hv
    have hend : v % L ^ (n - k) < L ^ (n - k) := Nat.mod_lt _ hpb.1
    have hwb := cf_w hc (show k ≤ d by omega) hbeg
    have hwe := cf_w hc (show n - k ≤ d by omega) hend
    have hxa := hx _ hwb
    have hxb := hx _ hwe
    refine ⟨vp_in_nI (by omega) (by omega), fun hlt => absurd hlt ?_, fun _ => ?_⟩
    · rw [hlen]; exact nI_nlt (by omega) (by omega)
    · refine sp_beginning h hn hv hkn ⟨?_, ?_⟩
      · rw [ix]; exact vp_in_nI (by omega) (by omega)
      · refine sp_end h hn hv hkn ⟨?_, ?_⟩
        · rw [ix]; exact vp_in_nI (by omega) (by omega)
        · rintro _ rfl _ rfl
          rw [ix, ix, nI_clamp (by omega), nI_clamp (by omega), hxa.1, hxb.2.2.1, rl_add mulT_lt hxa.2.1 hxb.2.2.2, nI_1]
          exact ih (k + 1) (by omega)
theorem sp_multiplies {L d s a b : Nat} {S : ms_T} {x : Nat → Nat} {Q : ms_T → Prop} (h : mt_ok L d S) (hx : nums S x) (hs : s < 36) (ha : a < 36) (hb : b < 36) (has : a ≠ s) (hbs : b ≠ s) (hq : Q (mJ S 0 (rs (S.2.2 0) (364 * s) (ofs L (d + 1)) (fun w => lN (mulW L d x a b w))))) : wp_X8_multiplies S (nI s) (nI a) (nI b) Q := by
  have hc := h.1
  have hW : S.1 2 = nI (ofs L (d + 1)) := h.2.2.2.1
  have hall := cf_all hc
  refine sp_clears hW hall hs ?_
  have main : ∀ k w, w + k = ofs L (d + 1) → wp_X8_multiplies_8 Q (k + 1) (mJ S 0 (rs (rs (S.2.2 0) (364 * s) (ofs L (d + 1)) (fun _ => 0)) (364 * s) w (fun w => lN (mulW L d x a b w)))) (nI s) (nI a) (nI b) (nI w) := by
    intro k
    induction k with
    | zero =>
      intro w hw
      have : w = ofs L (d + 1) := by omega
      subst this
      refine ⟨fun _ => ?_, fun hh => absurd ?_ hh⟩
      · rw [rs_rs]; exact hq
      · show S.1 2 ≤ _
        rw [hW]; exact nI_le (Nat.le_refl _) (by omega)
    | succ k ih =>
      intro w hw
      refine ⟨fun hh => absurd hh ?_, fun _ => ?_⟩
      · show ¬ S.1 2 ≤ nI w
        rw [hW]; exact nI_ge (by omega) (by omega)
      · have h1 : wlen L d w ≤ d := wlen_le
        have h2 : ofs L (wlen L d w) ≤ w := wlen_lo
        have h3 : w < ofs L (wlen L d w) + L ^ wlen L d w := wlen_hi (by omega)
        obtain ⟨v, hv⟩ : ∃ v, w = ofs L (wlen L d w) + v := ⟨w - ofs L (wlen L d w), by omega⟩
        have hvl : v < L ^ wlen L d w := by omega
        have hmw : mulW L d x a b w = mulT L x a b (wlen L d w) v (wlen L d w + 1) := by
          unfold mulW
          rw [show w - ofs L (wlen L d w) = v by omega]
        have hi := ih (w + 1) (by omega)
        rw [← rs_succ (f := fun w => lN (mulW L d x a b w)), ← mJ_s] at hi
        try dsimp only at hi
        rw [hmw] at hi
        refine ⟨wlen L d w + 1 + 1, ?_⟩
        have hin := sp_mul_in (Q := Q) (K8 := wp_X8_multiplies_8 Q (k + 1)) (s := s) (a := a) (b := b) (x := x) (n := wlen L d w) (v := v) (mt_mJ (k := 0) (g := rs (rs (S.2.2 0) (364 * s) (ofs L (d + 1)) (fun _ => 0)) (364 * s) w (fun w => lN (mulW L d x a b w))) h) (fun j hj => by
          have e1 := hx (364 * a + j) (by omega)
          have e2 := hx (364 * b + j) (by omega)
          refine ⟨?_, e1.2, ?_, e2.2⟩
          · rw [mJ_g, rs_out (by omega), rs_out (by omega)]; exact e1.1
          · rw [mJ_g, rs_out (by omega), rs_out (by omega)]; exact e2.1) h1 hvl hs ha hb (by rw [← hv]; exact hi) (wlen L d w + 1) 0 (by omega)
        rw [← hv] at hin
        exact hin
  have h0 := main (ofs L (d + 1)) 0 (by omega)
  rw [rs_0] at h0
  exact ⟨_, h0⟩
