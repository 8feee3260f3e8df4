/-! the reference's shuffle: over all sets of places -/
theorem shb {c i : Nat} (hc : c < 2 ^ 31) (hi : i < 7) : (nI c >>> (nI i &&& 31)) &&& 1 = nI (c / 2 ^ i % 2) := by
  have h1 : nI c >>> (nI i &&& 31) = nI (c / 2 ^ i) := by
    rcases (show i = 0 ∨ i = 1 ∨ i = 2 ∨ i = 3 ∨ i = 4 ∨ i = 5 ∨ i = 6 by omega) with rfl | rfl | rfl | rfl | rfl | rfl | rfl
    · exact pk_shrN hc _ 0 (by decide)
    · exact pk_shrN hc _ 1 (by decide)
    · exact pk_shrN hc _ 2 (by decide)
    · exact pk_shrN hc _ 3 (by decide)
    · exact pk_shrN hc _ 4 (by decide)
    · exact pk_shrN hc _ 5 (by decide)
    · exact pk_shrN hc _ 6 (by decide)
  rw [h1]
  have : c / 2 ^ i ≤ c := Nat.div_le_self _ _
  exact pk_andN (show c / 2 ^ i < 2 ^ 32 by omega) 1 (by decide)
theorem sh1 {n : Nat} (hn : n < 7) : (1 : Int32) <<< (nI n &&& 31) = nI (2 ^ n) := by
  rcases (show n = 0 ∨ n = 1 ∨ n = 2 ∨ n = 3 ∨ n = 4 ∨ n = 5 ∨ n = 6 by omega) with rfl | rfl | rfl | rfl | rfl | rfl | rfl <;> decide
/-- the letters of the set and the others, told as words, and how many are in it -/
def shS (L n v st : Nat) : Nat → Nat × Nat × Nat
  | 0 => (0, 0, 0)
  | i + 1 => if st / 2 ^ i % 2 = 1 then (L * (shS L n v st i).1 + ltr L n v i, (shS L n v st i).2.1, (shS L n v st i).2.2 + 1) else ((shS L n v st i).1, L * (shS L n v st i).2.1 + ltr L n v i, (shS L n v st i).2.2)
theorem pow_app {L a k c : Nat} (h : a < L ^ k) (hc : c < L) : L * a + c < L ^ (k + 1) := by
  rw [Nat.pow_succ, Nat.mul_comm (L ^ k) L]
  have : L * (a + 1) ≤ L * L ^ k := Nat.mul_le_mul_left _ h
  rw [Nat.mul_add] at this
  omega
theorem shS_b {L n v st : Nat} (hL : 1 ≤ L) : ∀ i, (shS L n v st i).2.2 ≤ i ∧ (shS L n v st i).1 < L ^ (shS L n v st i).2.2 ∧ (shS L n v st i).2.1 < L ^ (i - (shS L n v st i).2.2)
  | 0 => ⟨Nat.le_refl 0, by show 0 < L ^ 0; rw [Nat.pow_zero]; decide, by show 0 < L ^ 0; rw [Nat.pow_zero]; decide⟩
  | i + 1 => by
    obtain ⟨h1, h2, h3⟩ := shS_b (n := n) (v := v) (st := st) hL i
    have hl : ltr L n v i < L := ltr_lt hL
    unfold shS
    by_cases e : st / 2 ^ i % 2 = 1
    · rw [if_pos e]
      refine ⟨by show _ + 1 ≤ i + 1; omega, pow_app h2 hl, ?_⟩
      show (shS L n v st i).2.1 < L ^ (i + 1 - ((shS L n v st i).2.2 + 1))
      rw [show i + 1 - ((shS L n v st i).2.2 + 1) = i - (shS L n v st i).2.2 by omega]
      exact h3
    · rw [if_neg e]
      refine ⟨Nat.le_succ_of_le h1, h2, ?_⟩
      show L * (shS L n v st i).2.1 + ltr L n v i < L ^ (i + 1 - (shS L n v st i).2.2)
      rw [show i + 1 - (shS L n v st i).2.2 = i - (shS L n v st i).2.2 + 1 by omega]
      exact pow_app h3 hl
/-- the sum over the first sets -/
def shT (L : Nat) (x : Nat → Nat) (a b n v : Nat) : Nat → Nat
  | 0 => 0
  | st + 1 => (shT L x a b n v st + x (364 * a + (ofs L (shS L n v st n).2.2 + (shS L n v st n).1)) * x (364 * b + (ofs L (n - (shS L n v st n).2.2) + (shS L n v st n).2.1))) % PR
theorem shT_lt {L : Nat} {x : Nat → Nat} {a b n v : Nat} : ∀ st, shT L x a b n v st < PR
  | 0 => (by decide : 0 < PR)
  | _ + 1 => Nat.mod_lt _ (by decide)
def shufV (L d : Nat) (x : Nat → Nat) (a b w : Nat) : Nat := shT L x a b (wlen L d w) (w - ofs L (wlen L d w)) (2 ^ wlen L d w)
theorem pow2_64 {n : Nat} (h : n ≤ 6) : 2 ^ n ≤ 64 := by
  rcases (show n = 0 ∨ n = 1 ∨ n = 2 ∨ n = 3 ∨ n = 4 ∨ n = 5 ∨ n = 6 by omega) with rfl | rfl | rfl | rfl | rfl | rfl | rfl <;> decide
theorem sp_shuf_60 {L d n v a b st : Nat} {S : ms_T} {x : Nat → Nat} {v1 : Int32} {K15 : ms_T → Int32 → Int32 → Int32 → Int32 → Prop} {K39 : ms_T → Int32 → Int32 → Int32 → Int32 → Int32 → Int64 → Int32 → Prop} {Q : Int32 → ms_T → Prop} (h : mt_ok L d S) (hx : ∀ j, j < 2912 → S.2.2 0 j = lN (x j) ∧ x j < PR) (hn : n ≤ d) (hv : v < L ^ n) (ha : a < 8) (hb : b < 8) (hst : st < 2 ^ n)
    (hk : K39 S v1 (nI a) (nI b) (nI (ofs L n + v)) (nI n) (lN (shT L x a b n v (st + 1))) (nI (st + 1))) : ∀ f i, i + f = n → wp_X8_shuffle_60 K15 K39 Q (f + 1) S v1 (nI a) (nI b) (nI (ofs L n + v)) (nI n) (lN (shT L x a b n v st)) (nI st) (nI (shS L n v st i).1) (nI (shS L n v st i).2.1) (nI (shS L n v st i).2.2) (nI i) := by
  have hcf := h.1
  have hL := cf_L hcf
  have hd := cf_d hcf
  have h64 := pow2_64 (show n ≤ 6 by omega)
  intro f
  induction f with
  | zero =>
    intro i hi
    have : i = n := by omega
    subst this
    obtain ⟨b1, b2, b3⟩ := shS_b (L := L) (n := i) (v := v) (st := st) (by omega) i
    have w1 := cf_w hcf (show (shS L i v st i).2.2 ≤ d by omega) b2
    have w2 := cf_w hcf (show i - (shS L i v st i).2.2 ≤ d by omega) b3
    have x1 := hx (364 * a + (ofs L (shS L i v st i).2.2 + (shS L i v st i).1)) (by omega)
    have x2 := hx (364 * b + (ofs L (i - (shS L i v st i).2.2) + (shS L i v st i).2.1)) (by omega)
    refine ⟨fun _ => ?_, fun z => absurd (nI_le (Nat.le_refl _) (by omega)) z⟩
    rw [pk_sub b1, mt_o h (by omega), mt_o h (by omega), ix, ix, nI_add, nI_add, Nat.add_assoc, Nat.add_assoc, nI_clamp (show 364 * a + (ofs L (shS L i v st i).2.2 + (shS L i v st i).1) < 2 ^ 31 by omega), nI_clamp (show 364 * b + (ofs L (i - (shS L i v st i).2.2) + (shS L i v st i).2.1) < 2 ^ 31 by omega), x1.1, x2.1, rl_add (shT_lt _) x1.2 x2.2, nI_1]
    refine ⟨vp_in_nI (by omega) (by omega), vp_in_nI (by omega) (by omega), vp_in_nI (by omega) (by omega), vp_in_nI (by omega) (by omega), ?_⟩
    rintro _ rfl _ rfl
    exact hk
  | succ f ih =>
    intro i hi
    refine ⟨fun z => absurd z (nI_ge (by omega) (by omega)), fun _ => ?_⟩
    rw [shb (by omega) (by omega)]
    have hm2 : st / 2 ^ i % 2 < 2 := Nat.mod_lt _ (by decide)
    have hih := ih (i + 1) (by omega)
    unfold shS at hih
    refine ⟨fun hz => ?_, fun hz => ?_⟩
    · have e : ¬ st / 2 ^ i % 2 = 1 := fun q => hz (by rw [q]; rfl)
      rw [if_neg e] at hih
      refine sp_letterAt h hn hv (by omega) ?_
      rintro _ rfl _ rfl
      rw [h.2.1, pk_mul, nI_add, nI_1]
      exact hih
    · have e : st / 2 ^ i % 2 = 1 := (nI_eq (by omega) (by decide)).mp (show nI (st / 2 ^ i % 2) = nI 1 from hz)
      rw [if_pos e] at hih
      refine sp_letterAt h hn hv (by omega) ?_
      rintro _ rfl _ rfl _ rfl
      rw [h.2.1, pk_mul, nI_add, nI_1, nI_1]
      exact hih
theorem sm_shuffle {L d : Nat} {S : ms_T} {x : Nat → Nat} {r p q : Int32} {Q : Int32 → ms_T → Prop} (h : mt_ok L d S) (hx : nums S x) (hno : ¬ (isS r ∧ isS p ∧ isS q) → Q (-1) S) (hq : ∀ s a b S' x', s < 8 → a < 8 → b < 8 → r = nI s → p = nI a → q = nI b → upS S S' → nums S' x' → agr x' (rsN x (364 * s) (ofs L (d + 1)) (shufV L d x a b)) → Q 0 S') : wp_X8_shuffle S r p q Q := by
  refine sm_areSums (fun s a b hs ha hb e1 e2 e3 => ⟨fun _ => ?_, fun z => absurd z (by decide)⟩) (fun hn => ⟨fun z => absurd rfl z, fun _ => hno hn⟩)
  have hq' := hq s a b
  subst e1 e2 e3
  have hcf := h.1
  have hL := cf_L hcf
  have hd := cf_d hcf
  have hall := cf_all hcf
  have main : ∀ k w S1, w + k = ofs L (d + 1) → upS S S1 → nums S1 (rsN x 2912 w (shufV L d x a b)) → wp_X8_shuffle_15 Q (k + 1) S1 (nI s) (nI a) (nI b) (nI w) := by
    intro k
    induction k with
    | zero =>
      intro w S1 hw hu hx1
      have : w = ofs L (d + 1) := by omega
      subst this
      have h1 := mt_up h hu
      refine ⟨fun _ => ?_, fun z => absurd (by rw [(mt_W h1).1]; exact nI_le (Nat.le_refl _) (by omega)) z⟩
      refine sn_copies (a := 8) h1 hx1 (by omega) (by decide) (fun S2 hu2 hx2 => hq' S2 _ hs ha hb rfl rfl rfl (upS_tr hu hu2) hx2 (fun j hj => ?_))
      unfold rsN
      by_cases hc : 364 * s ≤ j ∧ j < 364 * s + ofs L (d + 1)
      · rw [if_pos hc, if_pos hc]
        dsimp only
        rw [if_pos (by omega), show 364 * 8 + (j - 364 * s) - 2912 = j - 364 * s by omega]
      · rw [if_neg hc, if_neg hc, if_neg (by omega)]
    | succ k ih =>
      intro w S1 hw hu hx1
      have h1 := mt_up h hu
      have g1 : wlen L d w ≤ d := wlen_le
      have g2 : ofs L (wlen L d w) ≤ w := wlen_lo
      have g3 : w < ofs L (wlen L d w) + L ^ wlen L d w := wlen_hi (by omega)
      obtain ⟨v, hv⟩ : ∃ v, w = ofs L (wlen L d w) + v := ⟨w - ofs L (wlen L d w), by omega⟩
      have hvl : v < L ^ wlen L d w := by omega
      obtain ⟨n, hne⟩ : ∃ n, n = wlen L d w := ⟨_, rfl⟩
      have hsv : shufV L d x a b w = shT L x a b n v (2 ^ n) := by
        unfold shufV
        rw [← hne, show w - ofs L n = v by rw [hne]; omega]
      rw [← hne] at hv hvl g1
      have hw364 := cf_w hcf g1 hvl
      have h64 := pow2_64 (show n ≤ 6 by omega)
      refine ⟨fun z => absurd z (by rw [(mt_W h1).1]; exact nI_ge (by omega) (by omega)), fun _ => ⟨vp_in_nI (by omega) (by omega), ?_⟩⟩
      rw [hv, mt_l h1 g1 hvl]
      rintro _ rfl
      have hx8 : ∀ j, j < 2912 → S1.2.2 0 j = lN (x j) ∧ x j < PR := fun j hj => by
        have e := hx1 j (by omega)
        rw [rsN_out (by omega)] at e
        exact e
      have sets : ∀ f st, st + f = 2 ^ n → wp_X8_shuffle_39 (wp_X8_shuffle_15 Q (k + 1)) Q (f + 1) S1 (nI s) (nI a) (nI b) (nI (ofs L n + v)) (nI n) (lN (shT L x a b n v st)) (nI st) := by
        intro f
        induction f with
        | zero =>
          intro st hst
          have : st = 2 ^ n := by omega
          subst this
          rw [show wp_X8_shuffle_39 (wp_X8_shuffle_15 Q (k + 1)) Q (0 + 1) = wb_X8_shuffle_39 (wp_X8_shuffle_15 Q (k + 1)) (wp_X8_shuffle_39 (wp_X8_shuffle_15 Q (k + 1)) Q 0) Q from rfl]
          unfold wb_X8_shuffle_39
          rw [sh1 (show n < 7 by omega)]
          refine ⟨fun _ => ?_, fun z => absurd (nI_le (Nat.le_refl _) (by omega)) z⟩
          rw [show (2912 : Int32) = nI 2912 from rfl, nI_add, nI_clamp (by omega), nI_1]
          refine ⟨vp_in_nI (by omega) (by omega), ?_⟩
          rintro _ rfl
          rw [← hv]
          refine ih (w + 1) _ (by omega) (upS_tr hu upS_sJ) ?_
          have e1 := nums_one (i := 2912 + w) hx1 (shT_lt (L := L) (x := x) (a := a) (b := b) (n := n) (v := v) (2 ^ n))
          refine cast (congrArg (nums _) ?_) e1
          funext j
          unfold rsN
          by_cases z : j = 2912 + w
          · rw [if_pos (by omega), if_pos (by omega), z, Nat.add_sub_cancel_left, hsv]
          · rw [if_neg (by omega)]
            by_cases z2 : 2912 ≤ j ∧ j < 2912 + w
            · rw [if_pos z2, if_pos (by omega)]
            · rw [if_neg z2, if_neg (by omega)]
        | succ f ih2 =>
          intro st hst
          rw [show wp_X8_shuffle_39 (wp_X8_shuffle_15 Q (k + 1)) Q (f + 1 + 1) = wb_X8_shuffle_39 (wp_X8_shuffle_15 Q (k + 1)) (wp_X8_shuffle_39 (wp_X8_shuffle_15 Q (k + 1)) Q (f + 1)) Q from rfl]
          unfold wb_X8_shuffle_39
          rw [sh1 (show n < 7 by omega)]
          refine ⟨fun z => absurd z (nI_ge (by omega) (by omega)), fun _ => ⟨n + 1, ?_⟩⟩
          exact sp_shuf_60 h1 hx8 g1 hvl ha hb (by omega) (ih2 (st + 1) (by omega)) n 0 (by omega)
      exact ⟨_, sets (2 ^ n) 0 (by omega)⟩
  refine ⟨_, main (ofs L (d + 1)) 0 S (by omega) upS_rf ?_⟩
  have e0 : rsN x 2912 0 (shufV L d x a b) = x := by funext j; exact rsN_out (by omega)
  rw [e0]
  exact hx
