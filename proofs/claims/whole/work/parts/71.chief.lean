/-! the reference's words that are ahead of all their ends: isAhead, isChief, brackets -/
theorem sI_g {S : ms_T} {k i k' j : Nat} {v : Int32} : (ms_sI S k i v).2.1 k' j = if k' = k then (if j = i then v else S.2.1 k j) else S.2.1 k' j := by
  unfold ms_sI va_up upd
  by_cases h : k' = k
  · rw [if_pos h]; simp [h]
  · rw [if_neg h]; simp [h]
theorem sJ_g {S : ms_T} {k i k' j : Nat} {v : Int64} : (ms_sJ S k i v).2.2 k' j = if k' = k then (if j = i then v else S.2.2 k j) else S.2.2 k' j := by
  unfold ms_sJ va_up vp_updL
  by_cases h : k' = k
  · rw [if_pos h]; simp [h]
  · rw [if_neg h]; simp [h]
theorem sJ_r {S : ms_T} {k i k' : Nat} {v : Int64} (h : k' ≠ k) : (ms_sJ S k i v).2.2 k' = S.2.2 k' := va_up_ne _ _ h
/-- the letter at place i of the word of length n and value v -/
def ltr (L n v i : Nat) : Nat := v / L ^ (n - 1 - i) % L
def ahdN (L n v m u : Nat) : Nat → Nat → Bool
  | 0, _ => decide (n < m)
  | f + 1, i => if n ≤ i ∨ m ≤ i then decide (n < m) else if ltr L n v i = ltr L m u i then ahdN L n v m u f (i + 1) else decide (ltr L n v i < ltr L m u i)
def ahd (L n v m u : Nat) : Bool := ahdN L n v m u 7 0
def chfN (L n v : Nat) : Nat → Nat → Bool
  | 0, _ => true
  | f + 1, i => if n ≤ i then true else if ahd L n v (n - i) (v % L ^ (n - i)) then chfN L n v f (i + 1) else false
def chf (L n v : Nat) : Bool := chfN L n v 6 1
def b01 (b : Bool) : Int32 := if b = true then 1 else 0
theorem mt_l {L d n v : Nat} {S : ms_T} (h : mt_ok L d S) (hn : n ≤ d) (hv : v < L ^ n) : S.2.1 2 (nI (ofs L n + v)).toNatClampNeg = nI n := by
  have := cf_w h.1 hn hv
  rw [nI_clamp (by omega)]; exact h.2.2.2.2.2.2 n v hn hv
theorem mt_o {L d n : Nat} {S : ms_T} (h : mt_ok L d S) (hn : n ≤ d + 1) : S.2.1 1 (nI n).toNatClampNeg = nI (ofs L n) := by
  have := cf_d h.1
  rw [nI_clamp (by omega)]; exact h.2.2.2.2.2.1 n hn
theorem mt_p {L d n : Nat} {S : ms_T} (h : mt_ok L d S) (hn : n ≤ d + 1) : S.2.1 0 (nI n).toNatClampNeg = nI (L ^ n) := by
  have := cf_d h.1
  rw [nI_clamp (by omega)]; exact h.2.2.2.2.1 n hn
theorem ltr_lt {L n v i : Nat} (hL : 1 ≤ L) : ltr L n v i < L := Nat.mod_lt _ hL
theorem sp_isAhead {L d n v m u : Nat} {S : ms_T} {Q : Int32 → ms_T → Prop} (h : mt_ok L d S) (hn : n ≤ d) (hv : v < L ^ n) (hm : m ≤ d) (hu : u < L ^ m) (hq : Q (b01 (ahd L n v m u)) S) : wp_X8_isAhead S (nI (ofs L n + v)) (nI (ofs L m + u)) Q := by
  have hL := cf_L h.1
  have hd := cf_d h.1
  have hw1 := cf_w h.1 hn hv
  have hw2 := cf_w h.1 hm hu
  have e1 := mt_l h hn hv
  have e2 := mt_l h hm hu
  have fin : ahd L n v m u = decide (n < m) → wp_X8_isAhead_59 Q S (nI (ofs L n + v)) (nI (ofs L m + u)) := by
    intro e
    rw [e] at hq
    refine ⟨vp_in_nI hw1 (by omega), vp_in_nI hw2 (by omega), ?_⟩
    rw [e1, e2]
    refine ⟨fun hle => ?_, fun hle => ?_⟩
    · have : m ≤ n := (nI_leI (by omega) (by omega)).mp hle
      rwa [show b01 (decide (n < m)) = 0 from by rw [decide_eq_false (by omega)]; rfl] at hq
    · have : ¬ m ≤ n := fun q => hle (nI_le q (by omega))
      rwa [show b01 (decide (n < m)) = 1 from by rw [decide_eq_true (by omega)]; rfl] at hq
  have main : ∀ f i, i + f = 7 → ahd L n v m u = ahdN L n v m u f i → wp_X8_isAhead_2 Q (f + 1) S (nI (ofs L n + v)) (nI (ofs L m + u)) (nI i) := by
    intro f
    induction f with
    | zero =>
      intro i hi he
      refine ⟨vp_in_nI hw1 (by omega), ?_⟩
      rw [e1]
      exact ⟨fun _ => fin he, fun hle => absurd (nI_le (by omega) (by omega)) hle⟩
    | succ f ih =>
      intro i hi he
      refine ⟨vp_in_nI hw1 (by omega), ?_⟩
      rw [e1]
      refine ⟨fun hle => fin ?_, fun hle => ⟨vp_in_nI hw2 (by omega), ?_⟩⟩
      · have : n ≤ i := (nI_leI (by omega) (by omega)).mp hle
        rw [he]; unfold ahdN; rw [if_pos (Or.inl this)]
      · have h1 : ¬ n ≤ i := fun q => hle (nI_le q (by omega))
        rw [e2]
        refine ⟨fun hle2 => fin ?_, fun hle2 => ?_⟩
        · have : m ≤ i := (nI_leI (by omega) (by omega)).mp hle2
          rw [he]; unfold ahdN; rw [if_pos (Or.inr this)]
        · have h2 : ¬ m ≤ i := fun q => hle2 (nI_le q (by omega))
          have he' : ahd L n v m u = if ltr L n v i = ltr L m u i then ahdN L n v m u f (i + 1) else decide (ltr L n v i < ltr L m u i) := by
            rw [he]
            show (if n ≤ i ∨ m ≤ i then _ else _) = _
            rw [if_neg (by omega)]
          have l1 : ltr L n v i < L := ltr_lt (by omega)
          have l2 : ltr L m u i < L := ltr_lt (by omega)
          refine sp_letterAt h hn hv (by omega) (sp_letterAt h hm hu (by omega) ?_)
          rintro _ rfl
          show (nI (ltr L n v i) - nI (ltr L m u i) = 0 → _) ∧ (¬ nI (ltr L n v i) - nI (ltr L m u i) = 0 → _)
          have et : (nI (ltr L n v i) - nI (ltr L m u i)).toInt = (ltr L n v i : Int) - ltr L m u i := pk_sub_toInt (by omega) (by omega)
          refine ⟨fun hz => ?_, fun hz => ?_⟩
          · have : ltr L n v i = ltr L m u i := by
              have := congrArg Int32.toInt hz
              rw [et, show (0 : Int32).toInt = 0 from by decide] at this
              omega
            rintro _ rfl
            rw [nI_1]
            exact ih (i + 1) (by omega) (by rw [he', if_pos this])
          · have hne : ¬ ltr L n v i = ltr L m u i := fun q => hz (by rw [q]; exact Int32.sub_self _)
            rw [if_neg hne] at he'
            rw [he'] at hq
            refine ⟨fun h0 => ?_, fun h0 => ?_⟩
            · have h0 : 0 ≤ nI (ltr L n v i) - nI (ltr L m u i) := h0
              rw [i32_le, et, show (0 : Int32).toInt = 0 from by decide] at h0
              rwa [show b01 (decide (ltr L n v i < ltr L m u i)) = 0 from by rw [decide_eq_false (by omega)]; rfl] at hq
            · have h0 : ¬ 0 ≤ nI (ltr L n v i) - nI (ltr L m u i) := h0
              rw [i32_le, et, show (0 : Int32).toInt = 0 from by decide] at h0
              rwa [show b01 (decide (ltr L n v i < ltr L m u i)) = 1 from by rw [decide_eq_true (by omega)]; rfl] at hq
  exact ⟨8, main 7 0 (by omega) rfl⟩
theorem b01_1 {b : Bool} (h : ¬ b01 b = 0) : b = true := by
  cases b
  · exact absurd rfl h
  · rfl
theorem b01_0 {b : Bool} (h : b01 b = 0) : b = false := by
  cases b
  · rfl
  · exact absurd h (by decide)
theorem sp_isChief {L d n v : Nat} {S : ms_T} {Q : Int32 → ms_T → Prop} (h : mt_ok L d S) (hn : n ≤ d) (hv : v < L ^ n) (hq : Q (b01 (chf L n v)) S) : wp_X8_isChief S (nI (ofs L n + v)) Q := by
  have hL := cf_L h.1
  have hd := cf_d h.1
  have hw1 := cf_w h.1 hn hv
  have e1 := mt_l h hn hv
  have main : ∀ f i, i + f = 7 → 1 ≤ i → chf L n v = chfN L n v f i → wp_X8_isChief_2 Q (f + 1) S (nI (ofs L n + v)) (nI i) := by
    intro f
    induction f with
    | zero =>
      intro i hi h1 he
      refine ⟨vp_in_nI hw1 (by omega), ?_⟩
      rw [e1]
      refine ⟨fun _ => ?_, fun hle => absurd (nI_le (by omega) (by omega)) hle⟩
      rw [he] at hq; exact hq
    | succ f ih =>
      intro i hi h1 he
      refine ⟨vp_in_nI hw1 (by omega), ?_⟩
      rw [e1]
      refine ⟨fun hle => ?_, fun hle => ?_⟩
      · have : n ≤ i := (nI_leI (by omega) (by omega)).mp hle
        rw [he] at hq
        unfold chfN at hq
        rw [if_pos this] at hq
        exact hq
      · have h2 : ¬ n ≤ i := fun q => hle (nI_le q (by omega))
        have he' : chf L n v = if ahd L n v (n - i) (v % L ^ (n - i)) then chfN L n v f (i + 1) else false := by
          rw [he]
          show (if n ≤ i then _ else _) = _
          rw [if_neg h2]
        have hp := cf_pow h.1 (show n - i ≤ d by omega)
        refine sp_end h hn hv (by omega) (sp_isAhead h hn hv (by omega) (Nat.mod_lt _ hp.1) ⟨fun hz => ?_, fun hz => ?_⟩)
        · rintro _ rfl
          rw [nI_1]
          refine ih (i + 1) (by omega) (by omega) ?_
          rw [he', b01_1 hz]; rfl
        · rw [he', b01_0 hz] at hq
          exact hq
  exact ⟨7, main 6 1 (by omega) (by omega) rfl⟩
/-- a bracket of the values A of words of length n and B of words of length m -/
def brk (L : Nat) (A B : Nat → Nat) (n m v : Nat) : Nat := (A (v / L ^ m) * B (v % L ^ m) % PR + (PR - B (v / L ^ n) * A (v % L ^ n) % PR)) % PR
theorem sp_brackets {L d to a b n m : Nat} {S : ms_T} {A B : Nat → Nat} {Q : ms_T → Prop} (h : mt_ok L d S) (hnm : n + m ≤ d) (hto : to < 100) (ha : a < 100) (hb : b < 100) (hat : a ≠ to) (hbt : b ≠ to)
    (hA : ∀ v, v < L ^ n → S.2.2 1 (256 * a + v) = lN (A v) ∧ A v < PR) (hB : ∀ v, v < L ^ m → S.2.2 1 (256 * b + v) = lN (B v) ∧ B v < PR)
    (hq : Q (mJ S 1 (rs (S.2.2 1) (256 * to) (L ^ (n + m)) (fun v => lN (brk L A B n m v))))) : wp_X8_brackets S (nI (256 * to)) (nI (256 * a)) (nI n) (nI (256 * b)) (nI m) Q := by
  have hL := cf_L h.1
  have hd := cf_d h.1
  have pn := cf_pow h.1 (show n ≤ d by omega)
  have pm' := cf_pow h.1 (show m ≤ d by omega)
  have pnm := cf_pow h.1 hnm
  have main : ∀ k w, w + k = L ^ (n + m) → wp_X8_brackets_3 Q (k + 1) (mJ S 1 (rs (S.2.2 1) (256 * to) w (fun v => lN (brk L A B n m v)))) (nI (256 * to)) (nI (256 * a)) (nI n) (nI (256 * b)) (nI m) (nI w) := by
    intro k
    induction k with
    | zero =>
      intro w hw
      have : w = L ^ (n + m) := by omega
      subst this
      refine ⟨by rw [nI_add]; exact vp_in_nI (by omega) (by omega), ?_⟩
      rw [nI_add]
      have e := mt_p (mt_mJ (k := 1) (g := rs (S.2.2 1) (256 * to) (L ^ (n + m)) (fun v => lN (brk L A B n m v))) h) (show n + m ≤ d + 1 by omega)
      rw [e]
      exact ⟨fun _ => hq, fun hle => absurd (nI_le (Nat.le_refl _) (by omega)) hle⟩
    | succ k ih =>
      intro w hw
      have hm2 := mt_mJ (k := 1) (g := rs (S.2.2 1) (256 * to) w (fun v => lN (brk L A B n m v))) h
      refine ⟨by rw [nI_add]; exact vp_in_nI (by omega) (by omega), ?_⟩
      rw [nI_add, mt_p hm2 (show n + m ≤ d + 1 by omega)]
      refine ⟨fun hle => absurd hle (nI_ge (by omega) (by omega)), fun _ => ?_⟩
      rw [mt_p hm2 (show n ≤ d + 1 by omega), mt_p hm2 (show m ≤ d + 1 by omega), pk_div (by omega) (by omega) (by omega), pk_div (by omega) (by omega) (by omega), ri_rem (by omega) (by omega) (by omega), ri_rem (by omega) (by omega) (by omega), nI_add, nI_add, nI_add, nI_add, nI_add]
      have hwm : w < L ^ n * L ^ m := by rw [← Nat.pow_add]; omega
      have d1 : w / L ^ m < L ^ n := by rw [Nat.div_lt_iff_lt_mul pm'.1]; exact hwm
      have d2 : w / L ^ n < L ^ m := by rw [Nat.div_lt_iff_lt_mul pn.1, Nat.mul_comm]; exact hwm
      have r1 : w % L ^ m < L ^ m := Nat.mod_lt _ pm'.1
      have r2 : w % L ^ n < L ^ n := Nat.mod_lt _ pn.1
      have z1 := Nat.zero_le (w / L ^ m)
      have z2 := Nat.zero_le (w / L ^ n)
      have z3 := Nat.zero_le (w % L ^ m)
      have z4 := Nat.zero_le (w % L ^ n)
      refine ⟨vp_in_nI (by omega) (by omega), nI_ne (by omega) (by omega), vp_in_nI (by omega) (by omega), vp_in_nI (by omega) (by omega), nI_ne (by omega) (by omega), vp_in_nI (by omega) (by omega), ?_⟩
      rintro _ rfl
      refine ⟨vp_in_nI (by omega) (by omega), nI_ne (by omega) (by omega), vp_in_nI (by omega) (by omega), vp_in_nI (by omega) (by omega), nI_ne (by omega) (by omega), vp_in_nI (by omega) (by omega), ?_⟩
      rintro _ rfl
      rw [nI_clamp (show 256 * a + w / L ^ m < 2 ^ 31 by omega), nI_clamp (show 256 * b + w % L ^ m < 2 ^ 31 by omega), nI_clamp (show 256 * b + w / L ^ n < 2 ^ 31 by omega), nI_clamp (show 256 * a + w % L ^ n < 2 ^ 31 by omega), mJ_g, rs_out (j := 256 * a + w / L ^ m) (by rcases Nat.lt_trichotomy a to with z | z | z <;> omega), rs_out (j := 256 * b + w % L ^ m) (by rcases Nat.lt_trichotomy b to with z | z | z <;> omega), rs_out (j := 256 * b + w / L ^ n) (by rcases Nat.lt_trichotomy b to with z | z | z <;> omega), rs_out (j := 256 * a + w % L ^ n) (by rcases Nat.lt_trichotomy a to with z | z | z <;> omega)]
      rw [(hA _ d1).1, (hB _ r1).1, (hB _ d2).1, (hA _ r2).1, rl_mul (hA _ d1).2 (hB _ r1).2, rl_mul (hB _ d2).2 (hA _ r2).2]
      refine sp_mod (Nat.mod_lt _ (by decide)) (Nat.mod_lt _ (by decide)) ⟨vp_in_nI (by omega) (by omega), ?_⟩
      rintro _ rfl
      rw [nI_clamp (show 256 * to + w < 2 ^ 31 by omega), mJ_s, nI_1]
      have := rs_succ (g := S.2.2 1) (b := 256 * to) (n := w) (f := fun v => lN (brk L A B n m v))
      have e : lN ((A (w / L ^ m) * B (w % L ^ m) % PR + (PR - B (w / L ^ n) * A (w % L ^ n) % PR)) % PR) = (fun v => lN (brk L A B n m v)) w := rfl
      rw [e, this]
      exact ih (w + 1) (by omega)
  have h0 := main (L ^ (n + m)) 0 (by omega)
  rw [rs_0, mJ_self] at h0
  exact ⟨_, h0⟩
