/-! the reference's tables, and its methods on words -/
def cf_ok (L d : Nat) : Prop := (L = 2 ∧ 2 ≤ d ∧ d ≤ 6) ∨ (L = 3 ∧ 2 ≤ d ∧ d ≤ 5) ∨ (L = 4 ∧ 2 ≤ d ∧ d ≤ 4)
/-- the place of the first word of a length -/
def ofs (L : Nat) : Nat → Nat
  | 0 => 0
  | n + 1 => ofs L n + L ^ n
theorem cf_L {L d : Nat} (h : cf_ok L d) : 2 ≤ L ∧ L ≤ 4 := by unfold cf_ok at h; omega
theorem cf_d {L d : Nat} (h : cf_ok L d) : 2 ≤ d ∧ d ≤ 6 := by unfold cf_ok at h; omega
theorem cf_pow {L d : Nat} (h : cf_ok L d) {n : Nat} (hn : n ≤ d) : 1 ≤ L ^ n ∧ L ^ n ≤ 256 := by
  rcases h with ⟨rfl, h1, h2⟩ | ⟨rfl, h1, h2⟩ | ⟨rfl, h1, h2⟩
  · rcases (show n = 0 ∨ n = 1 ∨ n = 2 ∨ n = 3 ∨ n = 4 ∨ n = 5 ∨ n = 6 by omega) with rfl | rfl | rfl | rfl | rfl | rfl | rfl <;> decide
  · rcases (show n = 0 ∨ n = 1 ∨ n = 2 ∨ n = 3 ∨ n = 4 ∨ n = 5 by omega) with rfl | rfl | rfl | rfl | rfl | rfl <;> decide
  · rcases (show n = 0 ∨ n = 1 ∨ n = 2 ∨ n = 3 ∨ n = 4 by omega) with rfl | rfl | rfl | rfl | rfl <;> decide
theorem cf_pow1 {L d : Nat} (h : cf_ok L d) {n : Nat} (hn : n ≤ d + 1) : 1 ≤ L ^ n ∧ L ^ n ≤ 1024 := by
  by_cases e : n ≤ d
  · have := cf_pow h e; omega
  · have e : n = d + 1 := by omega
    subst e
    have := cf_pow h (Nat.le_refl d)
    have h4 := cf_L h
    rw [Nat.pow_succ]
    constructor
    · exact Nat.mul_pos this.1 (by omega)
    · exact Nat.mul_le_mul this.2 h4.2
theorem ofs_mono {L a b : Nat} (h : a ≤ b) : ofs L a ≤ ofs L b := by
  induction b with
  | zero => have : a = 0 := by omega
            subst this; exact Nat.le_refl _
  | succ b ih =>
    by_cases e : a = b + 1
    · subst e; exact Nat.le_refl _
    · have := ih (by omega)
      show ofs L a ≤ ofs L b + L ^ b
      omega
theorem cf_all {L d : Nat} (h : cf_ok L d) : ofs L (d + 1) ≤ 364 := by
  rcases h with ⟨rfl, h1, h2⟩ | ⟨rfl, h1, h2⟩ | ⟨rfl, h1, h2⟩
  · rcases (show d = 2 ∨ d = 3 ∨ d = 4 ∨ d = 5 ∨ d = 6 by omega) with rfl | rfl | rfl | rfl | rfl <;> decide
  · rcases (show d = 2 ∨ d = 3 ∨ d = 4 ∨ d = 5 by omega) with rfl | rfl | rfl | rfl <;> decide
  · rcases (show d = 2 ∨ d = 3 ∨ d = 4 by omega) with rfl | rfl | rfl <;> decide
theorem cf_w {L d : Nat} (h : cf_ok L d) {n v : Nat} (hn : n ≤ d) (hv : v < L ^ n) : ofs L n + v < 364 := by
  have h1 : ofs L (n + 1) ≤ ofs L (d + 1) := ofs_mono (by omega)
  have h2 := cf_all h
  have h3 : ofs L (n + 1) = ofs L n + L ^ n := rfl
  omega
/-- the tables as the reference's constructor leaves them -/
def mt_ok (L d : Nat) (S : ms_T) : Prop := cf_ok L d ∧ S.1 0 = nI L ∧ S.1 1 = nI d ∧ S.1 2 = nI (ofs L (d + 1)) ∧ (∀ n, n ≤ d + 1 → S.2.1 0 n = nI (L ^ n)) ∧ (∀ n, n ≤ d + 1 → S.2.1 1 n = nI (ofs L n)) ∧ ∀ n v, n ≤ d → v < L ^ n → S.2.1 2 (ofs L n + v) = nI n
theorem ri_rem {a b : Nat} (ha : a < 2 ^ 31) (h0 : 0 < b) (hb : b < 2 ^ 31) : xr_remI (nI a) (nI b) = nI (a % b) := pk_rem ha h0 hb
theorem nI_ne {n : Nat} (h0 : 0 < n) (h : n < 2 ^ 31) : ¬ nI n = 0 := nI_ne0 h0 h
theorem sp_letterAt {L d n v i : Nat} {S : ms_T} {Q : Int32 → ms_T → Prop} (h : mt_ok L d S) (hn : n ≤ d) (hv : v < L ^ n) (hi : i < n) (hq : Q (nI (v / L ^ (n - 1 - i) % L)) S) : wp_X8_letterAt S (nI (ofs L n + v)) (nI i) Q := by
  obtain ⟨hc, h1, h2, h3, h4, h5, h6⟩ := h
  have hL := cf_L hc
  have hd := cf_d hc
  have hw := cf_w hc hn hv
  have hp := cf_pow hc (show n - 1 - i ≤ d by omega)
  have hpn := cf_pow hc hn
  unfold wp_X8_letterAt
  rw [nI_clamp (show ofs L n + v < 2 ^ 31 by omega), h6 n v hn hv, nI_clamp (show n < 2 ^ 31 by omega), h5 n (by omega), show (1 : Int32) = nI 1 from rfl, pk_sub (show 1 ≤ n by omega), pk_sub (show i ≤ n - 1 by omega), nI_clamp (show n - 1 - i < 2 ^ 31 by omega), h4 (n - 1 - i) (by omega), h1, pk_sub (show ofs L n ≤ ofs L n + v by omega), Nat.add_sub_cancel_left, pk_div (show v < 2 ^ 31 by omega) (by omega) (by omega), ri_rem (Nat.lt_of_le_of_lt (Nat.div_le_self _ _) (show v < 2 ^ 31 by omega)) (by omega) (by omega)]
  exact ⟨vp_in_nI (by omega) (by omega), vp_in_nI (by omega) (by omega), vp_in_nI (by omega) (by omega), vp_in_nI (by omega) (by omega), nI_ne (by omega) (by omega), nI_ne (by omega) (by omega), hq⟩
theorem sp_end {L d n v i : Nat} {S : ms_T} {Q : Int32 → ms_T → Prop} (h : mt_ok L d S) (hn : n ≤ d) (hv : v < L ^ n) (hi : i ≤ n) (hq : Q (nI (ofs L (n - i) + v % L ^ (n - i))) S) : wp_X8_end S (nI (ofs L n + v)) (nI i) Q := by
  obtain ⟨hc, h1, h2, h3, h4, h5, h6⟩ := h
  have hL := cf_L hc
  have hd := cf_d hc
  have hw := cf_w hc hn hv
  have hp := cf_pow hc (show n - i ≤ d by omega)
  have hpn := cf_pow hc hn
  unfold wp_X8_end
  rw [nI_clamp (show ofs L n + v < 2 ^ 31 by omega), h6 n v hn hv, nI_clamp (show n < 2 ^ 31 by omega), h5 n (by omega), pk_sub (show i ≤ n by omega), pk_sub (show ofs L n ≤ ofs L n + v by omega), Nat.add_sub_cancel_left]
  refine ⟨vp_in_nI (by omega) (by omega), ?_⟩
  rintro _ rfl
  rw [nI_clamp (show n - i < 2 ^ 31 by omega), h4 (n - i) (by omega), h5 (n - i) (by omega), ri_rem (show v < 2 ^ 31 by omega) (by omega) (by omega), nI_add]
  exact ⟨vp_in_nI (by omega) (by omega), vp_in_nI (by omega) (by omega), vp_in_nI (by omega) (by omega), vp_in_nI (by omega) (by omega), nI_ne (by omega) (by omega), hq⟩
theorem sp_beginning {L d n v k : Nat} {S : ms_T} {Q : Int32 → ms_T → Prop} (h : mt_ok L d S) (hn : n ≤ d) (hv : v < L ^ n) (hk : k ≤ n) (hq : Q (nI (ofs L k + v / L ^ (n - k))) S) : wp_X8_beginning S (nI (ofs L n + v)) (nI k) Q := by
  obtain ⟨hc, h1, h2, h3, h4, h5, h6⟩ := h
  have hL := cf_L hc
  have hd := cf_d hc
  have hw := cf_w hc hn hv
  have hp := cf_pow hc (show n - k ≤ d by omega)
  have hpn := cf_pow hc hn
  unfold wp_X8_beginning
  rw [nI_clamp (show ofs L n + v < 2 ^ 31 by omega), h6 n v hn hv, nI_clamp (show n < 2 ^ 31 by omega), h5 n (by omega), pk_sub (show k ≤ n by omega), nI_clamp (show n - k < 2 ^ 31 by omega), h4 (n - k) (by omega), nI_clamp (show k < 2 ^ 31 by omega), h5 k (by omega), pk_sub (show ofs L n ≤ ofs L n + v by omega), Nat.add_sub_cancel_left, pk_div (show v < 2 ^ 31 by omega) (by omega) (by omega), nI_add]
  exact ⟨vp_in_nI (by omega) (by omega), vp_in_nI (by omega) (by omega), vp_in_nI (by omega) (by omega), vp_in_nI (by omega) (by omega), vp_in_nI (by omega) (by omega), nI_ne (by omega) (by omega), hq⟩
