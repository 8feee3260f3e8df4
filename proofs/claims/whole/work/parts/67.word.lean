/-! the reference's words as calls tell them: wordOf, at, put -/
def oct : Nat → Nat → Nat
  | 0, _ => 0
  | f + 1, r => if r = 0 then 0 else oct f (r / 8) + 1
def woV (L c : Nat) : Nat → Nat → Option Nat
  | 0, v => some v
  | i + 1, v => if 1 ≤ c / 8 ^ i % 8 ∧ c / 8 ^ i % 8 ≤ L then woV L c i (L * v + c / 8 ^ i % 8 - 1) else none
/-- the place of a word as calls tell it -/
def wordN (L d c : Nat) : Option Nat := if oct 11 c ≤ d then (woV L c (oct 11 c) 0).map (fun v => ofs L (oct 11 c) + v) else none
theorem woV_lt {L c : Nat} (hL : 1 ≤ L) : ∀ {i v w n : Nat}, v < L ^ n → woV L c i v = some w → w < L ^ (n + i)
  | 0, v, w, n, hv, h => by cases h; exact hv
  | i + 1, v, w, n, hv, h => by
    unfold woV at h
    by_cases h1 : 1 ≤ c / 8 ^ i % 8 ∧ c / 8 ^ i % 8 ≤ L
    · rw [if_pos h1] at h
      have h2 : L * v + L ≤ L ^ (n + 1) := by
        rw [Nat.pow_succ, Nat.mul_comm (L ^ n) L]
        have : L * (v + 1) ≤ L * L ^ n := Nat.mul_le_mul_left _ hv
        rw [Nat.mul_add] at this
        omega
      have := woV_lt hL (n := n + 1) (by omega) h
      rw [show n + (i + 1) = n + 1 + i by omega]
      exact this
    · rw [if_neg h1] at h; cases h
theorem wordN_lt {L d c w : Nat} (hL : 1 ≤ L) (h : wordN L d c = some w) : w < ofs L (d + 1) := by
  unfold wordN at h
  by_cases hn : oct 11 c ≤ d
  · rw [if_pos hn] at h
    cases hv : woV L c (oct 11 c) 0 with
    | none => rw [hv] at h; cases h
    | some v =>
      rw [hv] at h
      cases h
      have h1 := woV_lt hL (n := 0) (by simp) hv
      rw [Nat.zero_add] at h1
      have h2 : ofs L (oct 11 c + 1) ≤ ofs L (d + 1) := ofs_mono (by omega)
      have h3 : ofs L (oct 11 c + 1) = ofs L (oct 11 c) + L ^ oct 11 c := rfl
      show ofs L (oct 11 c) + v < ofs L (d + 1)
      omega
  · rw [if_neg hn] at h; cases h
theorem sh3 {c i : Nat} (hc : c < 2 ^ 31) (hi : i < 6) : (nI c >>> ((3 * nI i) &&& 31)) &&& 7 = nI (c / 8 ^ i % 8) := by
  have h1 : nI c >>> ((3 * nI i) &&& 31) = nI (c / 8 ^ i) := by
    rcases (show i = 0 ∨ i = 1 ∨ i = 2 ∨ i = 3 ∨ i = 4 ∨ i = 5 by omega) with rfl | rfl | rfl | rfl | rfl | rfl
    · exact pk_shrN hc _ 0 (by decide)
    · exact pk_shrN hc _ 3 (by decide)
    · exact pk_shrN hc _ 6 (by decide)
    · exact pk_shrN hc _ 9 (by decide)
    · exact pk_shrN hc _ 12 (by decide)
    · exact pk_shrN hc _ 15 (by decide)
  rw [h1]
  have : c / 8 ^ i ≤ c := Nat.div_le_self _ _
  exact pk_andN (show c / 8 ^ i < 2 ^ 32 by omega) 3 (by decide)
theorem nI_i {n : Nat} (h : n < 2 ^ 31) : (nI n).toInt = n := nI_toInt h
theorem sp_wordOf_in {L d n c : Nat} {S : ms_T} {Q : Int32 → ms_T → Prop} (h : mt_ok L d S) (hc : c < 2 ^ 31) (hn : n ≤ d) (hq : ∀ w, (woV L c n 0).map (fun v => ofs L n + v) = some w → Q (nI w) S) (hno : woV L c n 0 = none → Q (-1) S) :
    ∀ i v k, i ≤ n → k + i = n → v < L ^ k → woV L c n 0 = woV L c i v → wp_X8_wordOf_43 Q (i + 1) S (nI c) (nI n) (nI v) (nI i - 1) := by
  have hcf := h.1
  have hd := cf_d hcf
  have hL := cf_L hcf
  intro i
  induction i with
  | zero =>
    intro v k hi hk hv he
    have hp := cf_pow hcf hn
    refine ⟨fun _ => ⟨vp_in_nI (by omega) (by omega), ?_⟩, fun z => absurd (by decide) z⟩
    rw [nI_clamp (by omega), h.2.2.2.2.2.1 n (by omega), nI_add]
    exact hq _ (by rw [he]; rfl)
  | succ i ih =>
    intro v k hi hk hv he
    have hp := cf_pow hcf (show k ≤ d by omega)
    have e1 : nI (i + 1) - 1 = nI i := nI_pred i
    rw [e1]
    refine ⟨fun z => absurd z (nI_pos (by omega)), fun _ => ?_⟩
    rintro _ rfl
    rw [sh3 hc (by omega)]
    have hlt : c / 8 ^ i % 8 < 8 := Nat.mod_lt _ (by decide)
    have el : (S.1 0).toInt64.toInt = L := by rw [h.2.1, Int32.toInt_toInt64, nI_i (by omega)]
    refine sp_inI (fun a1 a2 => ⟨fun _ => ?_, fun z => absurd z (by decide)⟩) (fun hn1 => ⟨fun z => absurd rfl z, fun _ => hno ?_⟩)
    · rw [nI_i (by omega), show (1 : Int64).toInt = 1 from by decide] at a1
      rw [nI_i (by omega), el] at a2
      have hin : 1 ≤ c / 8 ^ i % 8 ∧ c / 8 ^ i % 8 ≤ L := by omega
      rintro _ rfl _ rfl
      have hb : L * v + L ≤ L ^ (k + 1) := by
        rw [Nat.pow_succ, Nat.mul_comm (L ^ k) L]
        have : L * (v + 1) ≤ L * L ^ k := Nat.mul_le_mul_left _ hv
        rw [Nat.mul_add] at this
        omega
      have ev : ((S.1 0) * nI v + nI (c / 8 ^ i % 8)) - 1 = nI (L * v + c / 8 ^ i % 8 - 1) := by
        rw [h.2.1, pk_mul, nI_add, show (1 : Int32) = nI 1 from rfl, pk_sub (by omega)]
      rw [ev, show nI i + (-1) = nI i - 1 from (Int32.sub_eq_add_neg (nI i) 1).symm]
      have := ih (L * v + c / 8 ^ i % 8 - 1) (k + 1) (by omega) (by omega) (by omega) (by
        rw [he]
        show (if 1 ≤ c / 8 ^ i % 8 ∧ c / 8 ^ i % 8 ≤ L then woV L c i (L * v + c / 8 ^ i % 8 - 1) else none) = _
        rw [if_pos hin])
      exact this
    · rw [he]
      show (if 1 ≤ c / 8 ^ i % 8 ∧ c / 8 ^ i % 8 ≤ L then woV L c i (L * v + c / 8 ^ i % 8 - 1) else none) = none
      rw [if_neg]
      intro hin
      apply hn1
      rw [nI_i (by omega), show (1 : Int64).toInt = 1 from by decide, el]
      omega
theorem sp_wordOf {L d : Nat} {S : ms_T} {r : Int32} {Q : Int32 → ms_T → Prop} (h : mt_ok L d S) (hneg : r.toInt < 0 → Q (-1) S) (hno : ∀ c, r = nI c → c < 2 ^ 31 → wordN L d c = none → Q (-1) S) (hq : ∀ c w, r = nI c → c < 2 ^ 31 → wordN L d c = some w → Q (nI w) S) : wp_X8_wordOf S r Q := by
  have hcf := h.1
  have hd := cf_d hcf
  refine ⟨fun h0 => ?_, fun h0 => hneg ?_⟩
  · obtain ⟨c, hc, rfl⟩ := nI_of (i32_nlt.mpr h0)
    have main : ∀ f k rest, rest < 8 ^ f → rest < 2 ^ 31 → k + f ≤ 11 → oct 11 c = k + oct f rest → wp_X8_wordOf_10 Q (f + 1) S (nI c) (nI k) (nI rest) := by
      have fin : ∀ k K, oct 11 c = k → k ≤ 11 → wb_X8_wordOf_10 K Q S (nI c) (nI k) (nI 0) := by
        intro k K e hk
        refine ⟨fun _ => ⟨fun hle => ?_, fun hle => ?_⟩, fun z => absurd (by decide) z⟩
        · have hkd : k ≤ d := by
            rw [h.2.2.1] at hle
            exact (nI_leI (by omega) (by omega)).mp hle
          rintro _ rfl
          refine ⟨k + 1, ?_⟩
          refine sp_wordOf_in h hc hkd (fun w hw => hq c w rfl hc ?_) (fun hw => hno c rfl hc ?_) k 0 0 (Nat.le_refl _) (by omega) (by simp) rfl
          · unfold wordN; rw [e, if_pos hkd]; exact hw
          · unfold wordN; rw [e, if_pos hkd, hw]; rfl
        · refine hno c rfl hc ?_
          unfold wordN
          rw [e, if_neg]
          intro hkd
          apply hle
          rw [h.2.2.1]; exact nI_le hkd (by omega)
      intro f
      induction f with
      | zero =>
        intro k rest hr hr31 hk he
        have : rest = 0 := by simpa using hr
        subst this
        exact fin k _ (by simpa [oct] using he) (by omega)
      | succ f ih =>
        intro k rest hr hr31 hk he
        by_cases hz : rest = 0
        · subst hz
          exact fin k _ (by simpa [oct] using he) (by omega)
        · refine ⟨fun z => absurd z (nI_nle (by omega) hr31), fun _ => ?_⟩
          rintro _ rfl _ rfl
          have e8 : nI rest / 8 = nI (rest / 8) := pk_div (d := 8) hr31 (by decide) (by decide)
          rw [e8, nI_1]
          refine ih (k + 1) (rest / 8) (Nat.div_lt_of_lt_mul ?_) (Nat.lt_of_le_of_lt (Nat.div_le_self _ _) hr31) (by omega) ?_
          · rw [Nat.pow_succ, Nat.mul_comm] at hr; exact hr
          · rw [he]
            show k + (if rest = 0 then 0 else oct f (rest / 8) + 1) = _
            rw [if_neg hz]; omega
    exact ⟨12, main 11 0 c (Nat.lt_trans hc (by decide)) hc (by decide) (by simp)⟩
  · rw [i32_nle, i32_lt] at h0
    rw [show (0 : Int32).toInt = 0 from by decide] at h0
    exact h0
theorem sm_at {L d : Nat} {S : ms_T} {x : Nat → Nat} {r wd : Int32} {Q : Int32 → ms_T → Prop} (h : mt_ok L d S) (hx : nums S x) (hno : (¬ isS r ∨ wd.toInt < 0 ∨ ∃ c, wd = nI c ∧ c < 2 ^ 31 ∧ wordN L d c = none) → Q (-1) S) (hq : ∀ s c w, s < 8 → r = nI s → wd = nI c → c < 2 ^ 31 → wordN L d c = some w → Q (nI (x (364 * s + w))) S) : wp_X8_at S r wd Q := by
  have hall := cf_all h.1
  have hL := cf_L h.1
  refine sp_wordOf h (fun hn => ?_) (fun c e hc hw => ?_) (fun c w e hc hw => ?_)
  · exact sm_isSum (fun s hs e => ⟨fun z => absurd z (by decide), fun _ => ⟨fun _ => hno (Or.inr (Or.inl hn)), fun z => absurd rfl z⟩⟩) (fun hs => ⟨fun _ => hno (Or.inl hs), fun z => absurd rfl z⟩)
  · exact sm_isSum (fun s hs e1 => ⟨fun z => absurd z (by decide), fun _ => ⟨fun _ => hno (Or.inr (Or.inr ⟨c, e, hc, hw⟩)), fun z => absurd rfl z⟩⟩) (fun hs => ⟨fun _ => hno (Or.inl hs), fun z => absurd rfl z⟩)
  · have hwl := wordN_lt (by omega) hw
    refine sm_isSum (fun s hs e1 => ⟨fun z => absurd z (by decide), fun _ => ⟨fun z => ?_, fun _ => ?_⟩⟩) (fun hs => ⟨fun _ => hno (Or.inl hs), fun z => absurd rfl z⟩)
    · exfalso
      have := congrArg Int32.toInt z
      rw [nI_i (by omega), show ((-1) : Int32).toInt = -1 from by decide] at this
      omega
    · subst e1
      have hxa := hx (364 * s + w) (by omega)
      refine ⟨by rw [ix]; exact vp_in_nI (by omega) (by omega), ?_⟩
      rw [ix, nI_clamp (by omega), hxa.1, lN_i]
      exact hq s c w hs rfl e hc hw
theorem sm_put {L d : Nat} {S : ms_T} {x : Nat → Nat} {r wd u v : Int32} {Q : Int32 → ms_T → Prop} (h : mt_ok L d S) (hx : nums S x) (hno : (¬ isS r ∨ wd.toInt < 0 ∨ ∃ c, wd = nI c ∧ c < 2 ^ 31 ∧ wordN L d c = none) → Q (-1) S) (hbad : isS r → ¬ isP u v → Q (-2) S) (hq : ∀ s c w S', s < 8 → r = nI s → wd = nI c → c < 2 ^ 31 → wordN L d c = some w → isP u v → upS S S' → nums S' (rsN x (364 * s + w) 1 (fun _ => partN u.toInt v.toInt)) → Q 0 S') : wp_X8_put S r wd u v Q := by
  have hall := cf_all h.1
  have hL := cf_L h.1
  refine sp_wordOf h (fun hn => ?_) (fun c e hc hw => ?_) (fun c w e hc hw => ?_)
  · exact sm_isSum (fun s hs e => ⟨fun z => absurd z (by decide), fun _ => ⟨fun z => absurd rfl z, fun _ => hno (Or.inr (Or.inl hn))⟩⟩) (fun hs => ⟨fun _ => hno (Or.inl hs), fun z => absurd rfl z⟩)
  · exact sm_isSum (fun s hs e1 => ⟨fun z => absurd z (by decide), fun _ => ⟨fun z => absurd rfl z, fun _ => hno (Or.inr (Or.inr ⟨c, e, hc, hw⟩))⟩⟩) (fun hs => ⟨fun _ => hno (Or.inl hs), fun z => absurd rfl z⟩)
  · have hwl := wordN_lt (by omega) hw
    refine sm_isSum (fun s hs e1 => ⟨fun z => absurd z (by decide), fun _ => ⟨fun _ => ?_, fun z => ?_⟩⟩) (fun hs => ⟨fun _ => hno (Or.inl hs), fun z => absurd rfl z⟩)
    · subst e1
      have his : isS (nI s) := by
        unfold isS
        rw [nI_i (by omega)]; omega
      refine sm_isPart (fun hp => ⟨fun _ => ?_, fun z => absurd z (by decide)⟩) (fun hp => ⟨fun z => absurd rfl z, fun _ => hbad his hp⟩)
      refine sp_partOf hp.1 hp.2.1 hp.2.2.1 hp.2.2.2 ⟨by rw [ix]; exact vp_in_nI (by omega) (by omega), ?_⟩
      rw [ix, nI_clamp (by omega)]
      exact hq s c w _ hs rfl e hc hw hp upS_sJ (nums_one hx (Nat.mod_lt _ (by decide)))
    · exfalso
      have := congrArg Int32.toInt z
      rw [nI_i (by omega), show ((-1) : Int32).toInt = -1 from by decide] at this
      omega
