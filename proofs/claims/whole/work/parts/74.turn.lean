/-! the reference's turn: words told backward -/
def rv (L v : Nat) : Nat → Nat
  | 0 => 0
  | j + 1 => L * rv L v j + v / L ^ j % L
theorem rv_lt {L v : Nat} (hL : 1 ≤ L) : ∀ j, rv L v j < L ^ j
  | 0 => by rw [Nat.pow_zero]; exact Nat.zero_lt_one
  | j + 1 => by
    have h1 := rv_lt (v := v) hL j
    have h2 : v / L ^ j % L < L := Nat.mod_lt _ hL
    show L * rv L v j + v / L ^ j % L < L ^ (j + 1)
    rw [Nat.pow_succ, Nat.mul_comm (L ^ j) L]
    have h3 : L * (rv L v j + 1) ≤ L * L ^ j := Nat.mul_le_mul_left _ h1
    rw [Nat.mul_add] at h3
    omega
theorem rv_dig {L v : Nat} (hL : 1 ≤ L) : ∀ j k, k < j → rv L v j / L ^ k % L = v / L ^ (j - 1 - k) % L
  | 0, k, h => by omega
  | j + 1, 0, h => by
    have h2 : v / L ^ j % L < L := Nat.mod_lt _ hL
    show (L * rv L v j + v / L ^ j % L) / L ^ 0 % L = _
    rw [Nat.pow_zero, Nat.div_one, Nat.mul_add_mod, Nat.mod_mod]
    rfl
  | j + 1, k + 1, h => by
    have h2 : v / L ^ j % L < L := Nat.mod_lt _ hL
    show (L * rv L v j + v / L ^ j % L) / L ^ (k + 1) % L = _
    rw [Nat.pow_succ, Nat.mul_comm (L ^ k) L, ← Nat.div_div_eq_div_mul, Nat.mul_add_div (by omega), Nat.div_eq_of_lt h2, Nat.add_zero, rv_dig hL j k (by omega)]
    rw [show j + 1 - 1 - (k + 1) = j - 1 - k by omega]
theorem dig_ext {L : Nat} (hL : 1 ≤ L) : ∀ n a b, a < L ^ n → b < L ^ n → (∀ k, k < n → a / L ^ k % L = b / L ^ k % L) → a = b
  | 0, a, b, ha, hb, _ => by rw [Nat.pow_zero] at ha hb; omega
  | n + 1, a, b, ha, hb, h => by
    have h0 := h 0 (by omega)
    rw [Nat.pow_zero, Nat.div_one, Nat.div_one] at h0
    rw [Nat.pow_succ] at ha hb
    have h1 : a / L = b / L := by
      refine dig_ext hL n (a / L) (b / L) ?_ ?_ (fun k hk => ?_)
      · rw [Nat.div_lt_iff_lt_mul hL]; exact ha
      · rw [Nat.div_lt_iff_lt_mul hL]; exact hb
      · have := h (k + 1) (by omega)
        rw [Nat.pow_succ, Nat.mul_comm (L ^ k) L, ← Nat.div_div_eq_div_mul, ← Nat.div_div_eq_div_mul] at this
        exact this
    rw [← Nat.div_add_mod a L, ← Nat.div_add_mod b L, h1, h0]
theorem rv_rv {L n v : Nat} (hL : 1 ≤ L) (hv : v < L ^ n) : rv L (rv L v n) n = v := by
  refine dig_ext hL n _ _ (rv_lt hL n) hv (fun k hk => ?_)
  rw [rv_dig hL n k hk, rv_dig hL n (n - 1 - k) (by omega), show n - 1 - (n - 1 - k) = k by omega]
def sgN (n x : Nat) : Nat := if n % 2 = 1 then (0 + (PR - x)) % PR else x
def turnV (L d : Nat) (x : Nat → Nat) (a w : Nat) : Nat := sgN (wlen L d w) (x (364 * a + (ofs L (wlen L d w) + rv L (w - ofs L (wlen L d w)) (wlen L d w))))
theorem sgN_lt {n x : Nat} (h : x < PR) : sgN n x < PR := by
  unfold sgN
  by_cases e : n % 2 = 1
  · rw [if_pos e]; exact Nat.mod_lt _ (by decide)
  · rw [if_neg e]; exact h
/-- two tellings agree on the eight sums -/
def agr (x y : Nat → Nat) : Prop := ∀ j, j < 2912 → x j = y j
theorem sp_turn_39 {L d n v s a : Nat} {S : ms_T} {x : Nat → Nat} {K : ms_T → Int32 → Int32 → Int32 → Prop} {Q : Int32 → ms_T → Prop} (h : mt_ok L d S) (hx : nums S x) (hn : n ≤ d) (hv : v < L ^ n) (ha : a < 8)
    (hk : K (ms_sJ S 0 (2912 + (ofs L n + rv L v n)) (lN (sgN n (x (364 * a + (ofs L n + v)))))) (nI s) (nI a) (nI (ofs L n + v + 1))) : ∀ m k, k + m = n → wp_X8_turn_39 K Q (m + 1) S (nI s) (nI a) (nI (ofs L n + v)) (nI (rv L v k)) (nI (n - k) - 1) := by
  have hL := cf_L h.1
  have hd := cf_d h.1
  have hw := cf_w h.1 hn hv
  have hp := cf_pow h.1 hn
  have e1 := mt_l h hn hv
  intro m
  induction m with
  | zero =>
    intro k hkn
    have : k = n := by omega
    subst this
    have hr := rv_lt (L := L) (v := v) (by omega) k
    have hwr := cf_w h.1 hn hr
    have hxa := hx (364 * a + (ofs L k + v)) (by omega)
    refine ⟨fun _ => ⟨by rw [ix]; exact vp_in_nI (by omega) (by omega), ?_⟩, fun z => absurd (by rw [Nat.sub_self]; decide) z⟩
    rintro _ rfl
    rw [ix, nI_clamp (show 364 * a + (ofs L k + v) < 2 ^ 31 by omega), hxa.1, e1, mt_o h (by omega)]
    refine ⟨vp_in_nI hw (by omega), vp_in_nI (by omega) (by omega), vp_in_nI hw (by omega), ?_⟩
    have er : xr_remI (nI k) 2 = nI (k % 2) := ri_rem (b := 2) (by omega) (by decide) (by decide)
    rw [er]
    have ei : (2912 : Int32) + nI (ofs L k) + nI (rv L v k) = nI (2912 + (ofs L k + rv L v k)) := by
      rw [show (2912 : Int32) = nI 2912 from rfl, nI_add, nI_add, Nat.add_assoc]
    rw [ei]
    have fin : ∀ y, y = sgN k (x (364 * a + (ofs L k + v))) → wp_X8_turn_126 K Q S (nI s) (nI a) (nI (ofs L k + v)) (nI (2912 + (ofs L k + rv L v k))) (lN y) := by
      intro y hy
      refine ⟨vp_in_nI (by omega) (by omega), ?_⟩
      rintro _ rfl
      rw [nI_clamp (by omega), nI_1, hy]
      exact hk
    refine ⟨fun hz => fin _ ?_, fun hz => ?_⟩
    · unfold sgN
      rw [if_neg]
      intro e
      exact hz (by rw [e]; rfl)
    · have e : k % 2 = 1 := (nI_eq (show k % 2 < 2 ^ 31 by omega) (by decide)).mp (show nI (k % 2) = nI 1 from hz)
      have en : -lN (x (364 * a + (ofs L k + v))) = lN 0 - lN (x (364 * a + (ofs L k + v))) := by
        rw [show lN 0 = 0 from rfl, Int64.zero_sub]
      rw [en]
      refine sp_mod (by decide) hxa.2 (fin _ ?_)
      unfold sgN
      rw [if_pos e]
  | succ m ih =>
    intro k hkn
    have ek : nI (n - k) - 1 = nI (n - k - 1) := by
      obtain ⟨j, hj⟩ : ∃ j, n - k = j + 1 := ⟨n - k - 1, by omega⟩
      rw [hj]; exact nI_pred j
    rw [ek]
    refine ⟨fun z => absurd z (nI_pos (by omega)), fun _ => ?_⟩
    refine sp_letterAt h hn hv (by omega) ?_
    rintro _ rfl _ rfl
    rw [h.2.1, pk_mul, nI_add, show n - 1 - (n - k - 1) = k by omega, show nI (n - k - 1) + (-1) = nI (n - k - 1) - 1 from (Int32.sub_eq_add_neg _ 1).symm]
    exact ih (k + 1) (by omega)
theorem sm_turn {L d : Nat} {S : ms_T} {x : Nat → Nat} {r p : Int32} {Q : Int32 → ms_T → Prop} (h : mt_ok L d S) (hx : nums S x) (hno : ¬ (isS r ∧ isS p) → Q (-1) S) (hq : ∀ s a S' x', s < 8 → a < 8 → r = nI s → p = nI a → upS S S' → nums S' x' → agr x' (rsN x (364 * s) (ofs L (d + 1)) (turnV L d x a)) → Q 0 S') : wp_X8_turn S r p Q := by
  refine sm_isSum (fun s hs e1 => ⟨fun z => absurd z (by decide), fun _ => ?_⟩) (fun hn => ⟨fun _ => hno (fun z => hn z.1), fun z => absurd rfl z⟩)
  refine sm_isSum (fun a ha e2 => ⟨fun _ => ?_, fun z => absurd z (by decide)⟩) (fun hn => ⟨fun z => absurd rfl z, fun _ => hno (fun z => hn z.2)⟩)
  have hL := cf_L h.1
  have hd := cf_d h.1
  have hW := mt_W h
  have main : ∀ k w S1 x1, w + k = ofs L (d + 1) → upS S S1 → nums S1 x1 → (∀ j, j < 2912 → x1 j = x j) → (∀ n u, n ≤ d → u < L ^ n → ofs L n + rv L u n < w → x1 (2912 + (ofs L n + u)) = sgN n (x (364 * a + (ofs L n + rv L u n)))) → wp_X8_turn_18 Q (k + 1) S1 (nI s) (nI a) (nI w) := by
    intro k
    induction k with
    | zero =>
      intro w S1 x1 hw hu hx1 hr hi
      have : w = ofs L (d + 1) := by omega
      subst this
      have h1 := mt_up h hu
      refine ⟨fun _ => ?_, fun z => absurd ?_ z⟩
      · refine sn_copies (a := 8) h1 hx1 (by omega) (by decide) (fun S2 hu2 hx2 => hq s a S2 _ hs ha e1 e2 (upS_tr hu hu2) hx2 (fun j hj => ?_))
        unfold rsN
        by_cases hc : 364 * s ≤ j ∧ j < 364 * s + ofs L (d + 1)
        · rw [if_pos hc, if_pos hc]
          obtain ⟨w, hw⟩ : ∃ w, j = 364 * s + w := ⟨j - 364 * s, by omega⟩
          rw [hw, Nat.add_sub_cancel_left]
          have g1 : wlen L d w ≤ d := wlen_le
          have g2 : ofs L (wlen L d w) ≤ w := wlen_lo
          have g3 : w < ofs L (wlen L d w) + L ^ wlen L d w := wlen_hi (by omega)
          obtain ⟨u, hu⟩ : ∃ u, w = ofs L (wlen L d w) + u := ⟨w - ofs L (wlen L d w), by omega⟩
          have hul : u < L ^ wlen L d w := by omega
          have hrl := rv_lt (L := L) (v := u) (by omega) (wlen L d w)
          have := hi (wlen L d w) u g1 hul (by
            have z1 : ofs L (wlen L d w + 1) ≤ ofs L (d + 1) := ofs_mono (by omega)
            have z2 : ofs L (wlen L d w + 1) = ofs L (wlen L d w) + L ^ wlen L d w := rfl
            omega)
          unfold turnV
          rw [show w - ofs L (wlen L d w) = u by omega, ← this]
          congr 1
        · rw [if_neg hc, if_neg hc]; exact hr j hj
      · rw [(mt_W h1).1]; exact nI_le (Nat.le_refl _) (by omega)
    | succ k ih =>
      intro w S1 x1 hw hu hx1 hr hi
      have h1 := mt_up h hu
      have g1 : wlen L d w ≤ d := wlen_le
      have g2 : ofs L (wlen L d w) ≤ w := wlen_lo
      have g3 : w < ofs L (wlen L d w) + L ^ wlen L d w := wlen_hi (by omega)
      obtain ⟨v, hv⟩ : ∃ v, w = ofs L (wlen L d w) + v := ⟨w - ofs L (wlen L d w), by omega⟩
      have hvl : v < L ^ wlen L d w := by omega
      generalize wlen L d w = n at hv hvl g1
      subst hv
      have hww := cf_w h.1 g1 hvl
      have hrl := rv_lt (L := L) (v := v) (by omega) n
      have hwr := cf_w h.1 g1 hrl
      refine ⟨fun z => absurd z ?_, fun _ => ⟨vp_in_nI hww (by omega), ?_⟩⟩
      · rw [(mt_W h1).1]; exact nI_ge (by omega) (by omega)
      · rw [mt_l h1 g1 hvl]
        rintro _ rfl
        refine ⟨n + 1, ?_⟩
        have hxa := hx1 (364 * a + (ofs L n + v)) (by omega)
        refine sp_turn_39 h1 hx1 g1 hvl ha ?_ n 0 (by omega)
        refine ih (ofs L n + v + 1) _ (rsN x1 (2912 + (ofs L n + rv L v n)) 1 (fun _ => sgN n (x1 (364 * a + (ofs L n + v))))) (by omega) (upS_tr hu upS_sJ) (nums_one hx1 (sgN_lt hxa.2)) (fun j hj => ?_) (fun m u hm hul hlt => ?_)
        · rw [rsN_out (by omega)]; exact hr j hj
        · by_cases hc : 2912 + (ofs L m + u) = 2912 + (ofs L n + rv L v n)
          · obtain ⟨rfl, rfl⟩ := place_inj hul hrl (show ofs L m + u = ofs L n + rv L v n by omega)
            have e0 : rsN x1 (2912 + (ofs L m + rv L v m)) 1 (fun _ => sgN m (x1 (364 * a + (ofs L m + v)))) (2912 + (ofs L m + rv L v m)) = sgN m (x1 (364 * a + (ofs L m + v))) := by
              unfold rsN; rw [if_pos (by omega)]
            rw [e0, rv_rv (by omega) hvl, hr _ (by omega)]
          · rw [rsN_out (by omega)]
            refine hi m u hm hul ?_
            by_cases he : ofs L m + rv L u m = ofs L n + v
            · exfalso
              obtain ⟨rfl, hv2⟩ := place_inj (rv_lt (by omega) m) hvl he
              apply hc
              rw [← hv2, rv_rv (by omega) hul]
            · omega
  have h0 := main (ofs L (d + 1)) 0 S x (by omega) upS_rf hx (fun _ _ => rfl) (fun n u _ _ z => by omega)
  subst e1 e2
  exact ⟨_, h0⟩
