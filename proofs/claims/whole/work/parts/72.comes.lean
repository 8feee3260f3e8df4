/-! the chiefs' tables: what 'comes' writes -/
def cfP (L d w : Nat) : Bool := decide (1 ≤ w) && chf L (wlen L d w) (w - ofs L (wlen L d w))
/-- how many chiefs stand ahead of a place -/
def cnt (L d : Nat) : Nat → Nat
  | 0 => 0
  | w + 1 => cnt L d w + (if cfP L d w = true then 1 else 0)
def sdN (L n v : Nat) : Nat → Nat → Nat
  | 0, a => a
  | f + 1, a => if chf L (n - a) (v % L ^ (n - a)) = true then a else sdN L n v f (a + 1)
/-- the length of the left side -/
def sd (L n v : Nat) : Nat := sdN L n v (n - 2) 1
/-- the bracket of a chief: its values at the words of its length; the first number is fuel -/
def bas (L : Nat) : Nat → Nat → Nat → Nat → Nat
  | 0, _, _, _ => 0
  | f + 1, n, v, u => if n ≤ 1 then (if u = v then 1 else 0) else brk L (bas L f (sd L n v) (v / L ^ (n - sd L n v))) (bas L f (n - sd L n v) (v % L ^ (n - sd L n v))) (sd L n v) (n - sd L n v) u
theorem wlen_of {L d n v : Nat} (hn : n ≤ d) (hv : v < L ^ n) : wlen L d (ofs L n + v) = n := by
  induction d with
  | zero => have : n = 0 := by omega
            subst this; rfl
  | succ d ih =>
    unfold wlen
    by_cases h : n = d + 1
    · subst h; rw [if_pos (by omega)]
    · have h1 : ofs L (n + 1) ≤ ofs L (d + 1) := ofs_mono (by omega)
      have h2 : ofs L (n + 1) = ofs L n + L ^ n := rfl
      rw [if_neg (by omega), ih (by omega)]
theorem cfP_of {L d n v : Nat} (h1 : 1 ≤ n) (hn : n ≤ d) (hv : v < L ^ n) : cfP L d (ofs L n + v) = chf L n v := by
  unfold cfP
  rw [wlen_of hn hv, Nat.add_sub_cancel_left]
  have : ofs L 1 ≤ ofs L n := ofs_mono h1
  have e : ofs L 1 = 1 := by show 0 + L ^ 0 = 1; rw [Nat.pow_zero]
  rw [decide_eq_true (show 1 ≤ ofs L n + v by omega)]
  rfl
theorem cnt_mono {L d a b : Nat} (h : a ≤ b) : cnt L d a ≤ cnt L d b := by
  induction b with
  | zero => have : a = 0 := by omega
            subst this; exact Nat.le_refl _
  | succ b ih =>
    by_cases e : a = b + 1
    · subst e; exact Nat.le_refl _
    · have := ih (by omega)
      show cnt L d a ≤ cnt L d b + _
      omega
theorem cnt_step {L d n v : Nat} (h1 : 1 ≤ n) (hn : n ≤ d) (hv : v < L ^ n) : cnt L d (ofs L n + v + 1) = cnt L d (ofs L n + v) + (if chf L n v = true then 1 else 0) := by
  show cnt L d (ofs L n + v) + _ = _
  rw [cfP_of h1 hn hv]
theorem cnt_lt {L d n v b : Nat} (h1 : 1 ≤ n) (hn : n ≤ d) (hv : v < L ^ n) (hc : chf L n v = true) (hb : ofs L n + v < b) : cnt L d (ofs L n + v) < cnt L d b := by
  have e := cnt_step h1 hn hv
  rw [if_pos hc] at e
  have : cnt L d (ofs L n + v + 1) ≤ cnt L d b := cnt_mono hb
  omega
theorem cnt_99 {L d w : Nat} (h : cf_ok L d) (hw : w ≤ ofs L (d + 1)) : cnt L d w ≤ 98 := by
  have hm : cnt L d w ≤ cnt L d (ofs L (d + 1)) := cnt_mono hw
  refine Nat.le_trans hm ?_
  rcases h with ⟨rfl, h1, h2⟩ | ⟨rfl, h1, h2⟩ | ⟨rfl, h1, h2⟩
  · rcases (show d = 2 ∨ d = 3 ∨ d = 4 ∨ d = 5 ∨ d = 6 by omega) with rfl | rfl | rfl | rfl | rfl <;> decide +kernel
  · rcases (show d = 2 ∨ d = 3 ∨ d = 4 ∨ d = 5 by omega) with rfl | rfl | rfl | rfl <;> decide +kernel
  · rcases (show d = 2 ∨ d = 3 ∨ d = 4 by omega) with rfl | rfl | rfl <;> decide +kernel
theorem chf_1 {L v : Nat} : chf L 1 v = true := by
  unfold chf chfN
  rw [if_pos (Nat.le_refl 1)]
theorem sdN_spec {L n v : Nat} : ∀ f a, a + f + 1 = n → 1 ≤ a → a ≤ sdN L n v f a ∧ sdN L n v f a < n ∧ chf L (n - sdN L n v f a) (v % L ^ (n - sdN L n v f a)) = true ∧ ∀ b, a ≤ b → b < sdN L n v f a → chf L (n - b) (v % L ^ (n - b)) = false
  | 0, a, h, h1 => by
    unfold sdN
    refine ⟨Nat.le_refl _, by omega, ?_, fun b hb hb2 => by omega⟩
    rw [show n - a = 1 by omega]; exact chf_1
  | f + 1, a, h, h1 => by
    unfold sdN
    by_cases hc : chf L (n - a) (v % L ^ (n - a)) = true
    · rw [if_pos hc]
      exact ⟨Nat.le_refl _, by omega, hc, fun b hb hb2 => by omega⟩
    · rw [if_neg hc]
      obtain ⟨q1, q2, q3, q4⟩ := sdN_spec (L := L) (n := n) (v := v) f (a + 1) (by omega) (by omega)
      refine ⟨by omega, q2, q3, fun b hb hb2 => ?_⟩
      by_cases e : b = a
      · subst e
        cases hz : chf L (n - b) (v % L ^ (n - b))
        · rfl
        · exact absurd hz hc
      · exact q4 b (by omega) hb2
theorem sd_spec {L n v : Nat} (h : 2 ≤ n) : 1 ≤ sd L n v ∧ sd L n v < n ∧ chf L (n - sd L n v) (v % L ^ (n - sd L n v)) = true ∧ ∀ b, 1 ≤ b → b < sd L n v → chf L (n - b) (v % L ^ (n - b)) = false := sdN_spec (n - 2) 1 (by omega) (by omega)
/-- the fuel does not matter -/
theorem bas_fuel {L : Nat} : ∀ f g n v u, n ≤ f → n ≤ g → 1 ≤ n → bas L f n v u = bas L g n v u
  | 0, g, n, v, u, h1, h2, h3 => by omega
  | f + 1, 0, n, v, u, h1, h2, h3 => by omega
  | f + 1, g + 1, n, v, u, h1, h2, h3 => by
    unfold bas
    by_cases e : n ≤ 1
    · rw [if_pos e, if_pos e]
    · rw [if_neg e, if_neg e]
      obtain ⟨q1, q2, -, -⟩ := sd_spec (L := L) (v := v) (show 2 ≤ n by omega)
      have e1 : bas L f (sd L n v) (v / L ^ (n - sd L n v)) = bas L g (sd L n v) (v / L ^ (n - sd L n v)) := funext fun u => bas_fuel f g _ _ u (by omega) (by omega) q1
      have e2 : bas L f (n - sd L n v) (v % L ^ (n - sd L n v)) = bas L g (n - sd L n v) (v % L ^ (n - sd L n v)) := funext fun u => bas_fuel f g _ _ u (by omega) (by omega) (by omega)
      rw [e1, e2]
theorem bas_1 {L v u : Nat} : bas L 1 1 v u = if u = v then 1 else 0 := by
  unfold bas; rw [if_pos (Nat.le_refl 1)]
theorem bas_n {L n v u : Nat} (h : 2 ≤ n) : bas L n n v u = brk L (bas L (sd L n v) (sd L n v) (v / L ^ (n - sd L n v))) (bas L (n - sd L n v) (n - sd L n v) (v % L ^ (n - sd L n v))) (sd L n v) (n - sd L n v) u := by
  obtain ⟨q1, q2, -, -⟩ := sd_spec (L := L) (v := v) h
  obtain ⟨k, rfl⟩ : ∃ k, n = k + 1 := ⟨n - 1, by omega⟩
  conv => lhs; unfold bas
  rw [if_neg (by omega)]
  have e1 : bas L k (sd L (k + 1) v) (v / L ^ (k + 1 - sd L (k + 1) v)) = bas L (sd L (k + 1) v) (sd L (k + 1) v) (v / L ^ (k + 1 - sd L (k + 1) v)) := funext fun u => bas_fuel _ _ _ _ u (by omega) (by omega) q1
  have e2 : bas L k (k + 1 - sd L (k + 1) v) (v % L ^ (k + 1 - sd L (k + 1) v)) = bas L (k + 1 - sd L (k + 1) v) (k + 1 - sd L (k + 1) v) (v % L ^ (k + 1 - sd L (k + 1) v)) := funext fun u => bas_fuel _ _ _ _ u (by omega) (by omega) (by omega)
  rw [e1, e2]
theorem mt_sI {L d k i : Nat} {S : ms_T} {v : Int32} (hk : 3 ≤ k) (h : mt_ok L d S) : mt_ok L d (ms_sI S k i v) := by
  obtain ⟨hc, h1, h2, h3, h4, h5, h6⟩ := h
  refine ⟨hc, h1, h2, h3, fun n hn => ?_, fun n hn => ?_, fun n v hn hv => ?_⟩
  · rw [sI_g, if_neg (by omega)]; exact h4 n hn
  · rw [sI_g, if_neg (by omega)]; exact h5 n hn
  · rw [sI_g, if_neg (by omega)]; exact h6 n v hn hv
theorem mt_sF {L d k : Nat} {S : ms_T} {v : Int32} (hk : 3 ≤ k) (h : mt_ok L d S) : mt_ok L d (ms_sF S k v) := by
  obtain ⟨hc, h1, h2, h3, h4, h5, h6⟩ := h
  refine ⟨hc, ?_, ?_, ?_, h4, h5, h6⟩
  · show va_up S.1 k v 0 = _; rw [va_up_ne _ _ (by omega)]; exact h1
  · show va_up S.1 k v 1 = _; rw [va_up_ne _ _ (by omega)]; exact h2
  · show va_up S.1 k v 2 = _; rw [va_up_ne _ _ (by omega)]; exact h3
theorem sp_comes_86 {L d n v c cl cr s : Nat} {S : ms_T} {A B : Nat → Nat} {Q : ms_T → Prop} (h : mt_ok L d S) (hn : n ≤ d) (hv : v < L ^ n) (hc : c < 100) (hcl : cl < c) (hcr : cr < c) (hs0 : 1 ≤ s) (hsn : s < n) (hs1 : chf L (n - s) (v % L ^ (n - s)) = true) (hs2 : ∀ b, 1 ≤ b → b < s → chf L (n - b) (v % L ^ (n - b)) = false)
    (h7l : S.2.1 7 (ofs L s + v / L ^ (n - s)) = nI cl) (h7r : S.2.1 7 (ofs L (n - s) + v % L ^ (n - s)) = nI cr) (h6l : S.2.1 6 cl = nI (4 * s - 3)) (h6r : S.2.1 6 cr = nI (4 * (n - s) - 3))
    (hA : ∀ u, u < L ^ s → S.2.2 1 (256 * cl + u) = lN (A u) ∧ A u < PR) (hB : ∀ u, u < L ^ (n - s) → S.2.2 1 (256 * cr + u) = lN (B u) ∧ B u < PR)
    (hq : Q (mJ (ms_sI (ms_sI (ms_sI S 4 c (nI cl)) 5 c (nI cr)) 6 c (nI (4 * n - 3))) 1 (rs (S.2.2 1) (256 * c) (L ^ n) (fun u => lN (brk L A B s (n - s) u))))) : ∀ f a, a + f = s → 1 ≤ a → wp_X8_comes_86 Q (f + 1) S (nI (ofs L n + v)) (nI n) (nI c) (nI a) := by
  have hL := cf_L h.1
  have hd := cf_d h.1
  have hw := cf_w h.1 hn hv
  intro f
  induction f with
  | zero =>
    intro a ha h1
    have : a = s := by omega
    subst this
    have pe := cf_pow h.1 (show n - a ≤ d by omega)
    have hve : v % L ^ (n - a) < L ^ (n - a) := Nat.mod_lt _ pe.1
    have hvb : v / L ^ (n - a) < L ^ a := by
      rw [Nat.div_lt_iff_lt_mul pe.1, ← Nat.pow_add, show a + (n - a) = n by omega]; exact hv
    have hwe := cf_w h.1 (show n - a ≤ d by omega) hve
    have hwb := cf_w h.1 (show a ≤ d by omega) hvb
    unfold wp_X8_comes_86 wb_X8_comes_86
    refine sp_end h hn hv (by omega) ?_
    refine sp_isChief h (by omega) hve ?_
    refine ⟨fun _ => ?_, fun hz => absurd (b01_0 hz) (by rw [hs1]; decide)⟩
    refine sp_beginning h hn hv (by omega) ⟨vp_in_nI hwb (by omega), vp_in_nI hc (by omega), ?_⟩
    rw [nI_clamp (show ofs L a + v / L ^ (n - a) < 2 ^ 31 by omega), nI_clamp (show c < 2 ^ 31 by omega), h7l]
    have hm1 : mt_ok L d (ms_sI S 4 c (nI cl)) := mt_sI (by omega) h
    refine sp_end hm1 hn hv (by omega) ⟨vp_in_nI hwe (by omega), vp_in_nI hc (by omega), vp_in_nI hc (by omega), ?_⟩
    rw [nI_clamp (show ofs L (n - a) + v % L ^ (n - a) < 2 ^ 31 by omega)]
    have e7 : (ms_sI S 4 c (nI cl)).2.1 7 (ofs L (n - a) + v % L ^ (n - a)) = nI cr := by rw [sI_g, if_neg (by omega)]; exact h7r
    rw [e7]
    have e4 : (ms_sI (ms_sI S 4 c (nI cl)) 5 c (nI cr)).2.1 4 c = nI cl := by rw [sI_g, if_neg (by omega), sI_g, if_pos rfl, if_pos rfl]
    have e5 : (ms_sI (ms_sI S 4 c (nI cl)) 5 c (nI cr)).2.1 5 c = nI cr := by rw [sI_g, if_pos rfl, if_pos rfl]
    have e6l : (ms_sI (ms_sI S 4 c (nI cl)) 5 c (nI cr)).2.1 6 cl = nI (4 * a - 3) := by rw [sI_g, if_neg (by omega), sI_g, if_neg (by omega)]; exact h6l
    have e6r : (ms_sI (ms_sI S 4 c (nI cl)) 5 c (nI cr)).2.1 6 cr = nI (4 * (n - a) - 3) := by rw [sI_g, if_neg (by omega), sI_g, if_neg (by omega)]; exact h6r
    rw [e4, e5, nI_clamp (show cl < 2 ^ 31 by omega), nI_clamp (show cr < 2 ^ 31 by omega), e6l, e6r]
    have e3 : nI (4 * a - 3) + nI (4 * (n - a) - 3) + 3 = nI (4 * n - 3) := by
      rw [show (3 : Int32) = nI 3 from rfl, nI_add, nI_add]
      congr 1
      omega
    rw [e3]
    have f4 : (ms_sI (ms_sI (ms_sI S 4 c (nI cl)) 5 c (nI cr)) 6 c (nI (4 * n - 3))).2.1 4 c = nI cl := by rw [sI_g, if_neg (by omega)]; exact e4
    have f5 : (ms_sI (ms_sI (ms_sI S 4 c (nI cl)) 5 c (nI cr)) 6 c (nI (4 * n - 3))).2.1 5 c = nI cr := by rw [sI_g, if_neg (by omega)]; exact e5
    rw [f4, f5]
    refine ⟨vp_in_nI (by omega) (by omega), vp_in_nI hc (by omega), vp_in_nI (by omega) (by omega), vp_in_nI hc (by omega), vp_in_nI hc (by omega), vp_in_nI hc (by omega), ?_⟩
    rw [show (256 : Int32) = nI 256 from rfl, pk_mul, pk_mul, pk_mul, pk_sub (show a ≤ n by omega)]
    refine sp_brackets (A := A) (B := B) (mt_sI (by omega) (mt_sI (by omega) hm1)) (by omega) (by omega) (by omega) (by omega) (by omega) (by omega) hA hB ?_
    rw [show a + (n - a) = n by omega]
    exact hq
  | succ f ih =>
    intro a ha h1
    have pe := cf_pow h.1 (show n - a ≤ d by omega)
    have hve : v % L ^ (n - a) < L ^ (n - a) := Nat.mod_lt _ pe.1
    unfold wp_X8_comes_86 wb_X8_comes_86
    refine sp_end h hn hv (by omega) ?_
    refine sp_isChief h (by omega) hve ?_
    refine ⟨fun hz => absurd (b01_1 hz) (by rw [hs2 a h1 (by omega)]; decide), fun _ => ?_⟩
    rintro _ rfl
    rw [nI_1]
    exact ih (a + 1) (by omega) (by omega)
