/-! the reference's replace -/
/-- one letter of a word comes behind the product so far (row 9) -/
def rpL (L d : Nat) (y b c : Nat) (x : Nat → Nat) : Nat → Nat :=
  let x3 := if c = y then rsN x (364 * 10) (ofs L (d + 1)) (fun w => mulW L d x 9 b w) else
    let x2 := rsN (rsN x (364 * 11) (ofs L (d + 1)) (fun _ => 0)) (364 * 11 + (ofs L 1 + c)) 1 (fun _ => 1)
    rsN x2 (364 * 10) (ofs L (d + 1)) (fun w => mulW L d x2 9 11 w)
  rsN x3 (364 * 9) (ofs L (d + 1)) (fun w => x3 (364 * 10 + w))
def rpI (L d y b n v : Nat) (x : Nat → Nat) : Nat → Nat → Nat
  | 0 => rsN (rsN x (364 * 9) (ofs L (d + 1)) (fun _ => 0)) (364 * 9) 1 (fun _ => 1)
  | i + 1 => rpL L d y b (ltr L n v i) (rpI L d y b n v x i)
/-- what the words ahead of a place become, in row 8 -/
def rpA (L d y a b : Nat) (x : Nat → Nat) : Nat → Nat → Nat
  | 0 => rsN x (364 * 8) (ofs L (d + 1)) (fun _ => 0)
  | w + 1 => if rpA L d y a b x w (364 * a + w) = 0 then rpA L d y a b x w else
    let x1 := rpI L d y b (wlen L d w) (w - ofs L (wlen L d w)) (rpA L d y a b x w) (wlen L d w)
    rsN x1 (364 * 8) (ofs L (d + 1)) (fun j => (x1 (364 * 8 + j) + x1 (364 * 9 + j) * x1 (364 * a + w)) % PR)
theorem sn_rep_85 {L d n v s a y b w : Nat} {S0 : ms_T} {x0 : Nat → Nat} {K49 : ms_T → Int32 → Int32 → Int32 → Int32 → Int32 → Prop} {Q : Int32 → ms_T → Prop} (h : mt_ok L d S0) (hn : n ≤ d) (hv : v < L ^ n) (hw : w = ofs L n + v) (ha : a < 8) (hb : b < 8) (hy : y < L)
    (hk : ∀ S, upS S0 S → nums S (rsN (rpI L d y b n v x0 n) (364 * 8) (ofs L (d + 1)) (fun j => (rpI L d y b n v x0 n (364 * 8 + j) + rpI L d y b n v x0 n (364 * 9 + j) * rpI L d y b n v x0 n (364 * a + w)) % PR)) → K49 S (nI s) (nI a) (nI y) (nI b) (nI (w + 1))) : ∀ f i S, i + f = n → upS S0 S → nums S (rpI L d y b n v x0 i) → wp_X8_replace_85 K49 Q (f + 1) S (nI s) (nI a) (nI y) (nI b) (nI w) (nI i) := by
  have hcf := h.1
  have hL := cf_L hcf
  have hd := cf_d hcf
  have hall := cf_all hcf
  have hw3 := cf_w hcf hn hv
  intro f
  induction f with
  | zero =>
    intro i S hi hu hx
    have : i = n := by omega
    subst this
    have hm := mt_up h hu
    refine ⟨vp_in_nI (by omega) (by omega), ?_⟩
    rw [show S.2.1 2 (nI w).toNatClampNeg = nI i from by rw [hw]; exact mt_l hm hn hv]
    refine ⟨fun _ => ?_, fun z => absurd (nI_le (Nat.le_refl _) (by omega)) z⟩
    have ex := hx (364 * a + w) (by omega)
    rw [ix, nI_clamp (by omega), ex.1]
    refine ⟨vp_in_nI (by omega) (by omega), ?_⟩
    refine sn_adds (s := 8) (a := 9) hm hx (by decide) (by decide) ex.2 (fun S1 hu1 hx1 => ?_)
    rintro _ rfl
    rw [nI_1]
    exact hk S1 (upS_tr hu hu1) hx1
  | succ f ih =>
    intro i S hi hu hx
    have hm := mt_up h hu
    have hl : ltr L n v i < L := ltr_lt (by omega)
    refine ⟨vp_in_nI (by omega) (by omega), ?_⟩
    rw [show S.2.1 2 (nI w).toNatClampNeg = nI n from by rw [hw]; exact mt_l hm hn hv]
    refine ⟨fun z => absurd z (nI_ge (by omega) (by omega)), fun _ => ?_⟩
    have hnext := ih (i + 1)
    have fin : ∀ S3 x3, upS S0 S3 → nums S3 x3 → rsN x3 (364 * 9) (ofs L (d + 1)) (fun w => x3 (364 * 10 + w)) = rpI L d y b n v x0 (i + 1) → wp_X8_replace_163 K49 (wp_X8_replace_85 K49 Q (f + 1)) Q S3 (nI s) (nI a) (nI y) (nI b) (nI w) (nI i) := by
      intro S3 x3 hu3 hx3 he
      refine sn_copies (s := 9) (a := 10) (mt_up h hu3) hx3 (by decide) (by decide) (fun S4 hu4 hx4 => ?_)
      rintro _ rfl
      rw [nI_1]
      exact hnext S4 (by omega) (upS_tr hu3 hu4) (he ▸ hx4)
    have hstep : rpI L d y b n v x0 (i + 1) = rpL L d y b (ltr L n v i) (rpI L d y b n v x0 i) := rfl
    have eo : ∀ T, mt_ok L d T → T.2.1 1 ((1 : Int32)).toNatClampNeg = nI (ofs L 1) := fun T hT => mt_o hT (n := 1) (by omega)
    have eo1 : ofs L 1 = 1 := by show 0 + L ^ 0 = 1; rw [Nat.pow_zero]
    generalize rpI L d y b n v x0 i = xi at hx hstep
    rw [hw]
    refine sp_letterAt hm hn hv (by omega) ?_
    show (¬ nI (ltr L n v i) = nI y → _) ∧ (nI (ltr L n v i) = nI y → _)
    refine ⟨fun hne => ?_, fun he => ?_⟩
    · have hne' : ¬ ltr L n v i = y := fun q => hne (by rw [q])
      refine sn_clears (s := 11) hm hx (by decide) (fun S1 hu1 hx1 => ⟨vp_in_nI (n := 1) (by decide) (by decide), ?_⟩)
      have hm1 := mt_up hm hu1
      refine sp_letterAt hm1 hn hv (by omega) ?_
      show vp_in ((4004 + S1.2.1 1 ((1 : Int32)).toNatClampNeg) + nI (ltr L n v i)) 13104 ∧ wp_X8_multiplies (ms_sJ S1 0 ((4004 + S1.2.1 1 ((1 : Int32)).toNatClampNeg) + nI (ltr L n v i)).toNatClampNeg 1) 10 9 11 _
      rw [eo S1 hm1, show (4004 : Int32) = nI 4004 from rfl, nI_add, nI_add, nI_clamp (by omega), show 4004 + ofs L 1 + ltr L n v i = 364 * 11 + (ofs L 1 + ltr L n v i) by omega]
      refine ⟨vp_in_nI (by omega) (by omega), ?_⟩
      have hx2 := nums_one (i := 364 * 11 + (ofs L 1 + ltr L n v i)) (v := 1) hx1 (by decide)
      have hu2 : upS S1 (ms_sJ S1 0 (364 * 11 + (ofs L 1 + ltr L n v i)) (lN 1)) := upS_sJ
      refine sn_multiplies (s := 10) (a := 9) (b := 11) (mt_up hm1 hu2) hx2 (by decide) (by decide) (by decide) (by decide) (by decide) (fun S3 hu3 hx3 => ?_)
      rw [← hw]
      refine fin S3 _ (upS_tr hu (upS_tr hu1 (upS_tr hu2 hu3))) hx3 ?_
      rw [hstep]
      unfold rpL
      rw [if_neg hne']
    · have he' : ltr L n v i = y := (nI_eq (by omega) (by omega)).mp he
      refine sn_multiplies (s := 10) (a := 9) (b := b) hm hx (by decide) (by decide) (by omega) (by decide) (by omega) (fun S3 hu3 hx3 => ?_)
      rw [← hw]
      refine fin S3 _ (upS_tr hu hu3) hx3 ?_
      rw [hstep]
      unfold rpL
      rw [if_pos he']
theorem sm_replace {L d : Nat} {S : ms_T} {x : Nat → Nat} {r p l q : Int32} {Q : Int32 → ms_T → Prop} (h : mt_ok L d S) (hx : nums S x) (hno : ¬ (isS r ∧ isS p ∧ isS q ∧ 0 ≤ l.toInt ∧ l.toInt < L) → Q (-1) S) (hst : ∀ s a y b, s < 8 → a < 8 → y < L → b < 8 → r = nI s → p = nI a → l = nI y → q = nI b → x (364 * b) ≠ 0 → Q (-3) S) (hq : ∀ s a y b S', s < 8 → a < 8 → y < L → b < 8 → r = nI s → p = nI a → l = nI y → q = nI b → x (364 * b) = 0 → upS S S' → nums S' (rsN (rpA L d y a b x (ofs L (d + 1))) (364 * s) (ofs L (d + 1)) (fun w => rpA L d y a b x (ofs L (d + 1)) (364 * 8 + w))) → Q 0 S') : wp_X8_replace S r p l q Q := by
  refine sm_areSums (fun s a b hs ha hb e1 e2 e3 => ⟨fun z => absurd z (by decide), fun _ => ?_⟩) (fun hn => ⟨fun _ => hno (fun z => hn ⟨z.1, z.2.1, z.2.2.1⟩), fun z => absurd rfl z⟩)
  refine sm_isLetter h (fun y hy e4 => ⟨fun _ => ?_, fun z => absurd z (by decide)⟩) (fun z => ⟨fun q => absurd rfl q, fun _ => hno (fun q => z q.2.2.2)⟩)
  have hq' := hq s a y b
  have hst' := hst s a y b hs ha hy hb e1 e2 e4 e3
  subst e1 e2 e3 e4
  have hcf := h.1
  have hL := cf_L hcf
  have hd := cf_d hcf
  have hall := cf_all hcf
  have exb := hx (364 * b) (by omega)
  rw [ix0, nI_clamp (by omega), exb.1]
  refine ⟨vp_in_nI (by omega) (by omega), fun hz => ?_, fun hz => hst' (fun q => hz ((lN_0 exb.2).mpr q))⟩
  have hb0 : x (364 * b) = 0 := (lN_0 exb.2).mp hz
  refine sn_clears (s := 8) h hx (by decide) (fun S1 hu1 hx1 => ?_)
  have main : ∀ k w S2, w + k = ofs L (d + 1) → upS S S2 → nums S2 (rpA L d y a b x w) → wp_X8_replace_49 Q (k + 1) S2 (nI s) (nI a) (nI y) (nI b) (nI w) := by
    intro k
    induction k with
    | zero =>
      intro w S2 hw hu hx2
      have : w = ofs L (d + 1) := by omega
      subst this
      have h2 := mt_up h hu
      refine ⟨fun _ => ?_, fun z => absurd (by rw [(mt_W h2).1]; exact nI_le (Nat.le_refl _) (by omega)) z⟩
      exact sn_copies (a := 8) h2 hx2 (by omega) (by decide) (fun S3 hu3 hx3 => hq' S3 hs ha hy hb rfl rfl rfl rfl hb0 (upS_tr hu hu3) hx3)
    | succ k ih =>
      intro w S2 hw hu hx2
      have h2 := mt_up h hu
      have g1 : wlen L d w ≤ d := wlen_le
      have g2 : ofs L (wlen L d w) ≤ w := wlen_lo
      have g3 : w < ofs L (wlen L d w) + L ^ wlen L d w := wlen_hi (by omega)
      obtain ⟨v, hv⟩ : ∃ v, w = ofs L (wlen L d w) + v := ⟨w - ofs L (wlen L d w), by omega⟩
      have hvl : v < L ^ wlen L d w := by omega
      obtain ⟨n, hne⟩ : ∃ n, n = wlen L d w := ⟨_, rfl⟩
      have hsv : rpA L d y a b x (w + 1) = if rpA L d y a b x w (364 * a + w) = 0 then rpA L d y a b x w else rsN (rpI L d y b n v (rpA L d y a b x w) n) (364 * 8) (ofs L (d + 1)) (fun j => (rpI L d y b n v (rpA L d y a b x w) n (364 * 8 + j) + rpI L d y b n v (rpA L d y a b x w) n (364 * 9 + j) * rpI L d y b n v (rpA L d y a b x w) n (364 * a + w)) % PR) := by
        show (if _ then _ else _) = _
        rw [← hne, show w - ofs L n = v by rw [hne]; omega]
      rw [← hne] at hv hvl g1
      have hw364 := cf_w hcf g1 hvl
      have exw := hx2 (364 * a + w) (by omega)
      refine ⟨fun z => absurd z (by rw [(mt_W h2).1]; exact nI_ge (by omega) (by omega)), fun _ => ⟨by rw [ix]; exact vp_in_nI (by omega) (by omega), ?_⟩⟩
      rw [ix, nI_clamp (by omega), exw.1]
      refine ⟨fun h0 => ?_, fun h0 => ?_⟩
      · rintro _ rfl
        rw [nI_1]
        refine ih (w + 1) S2 (by omega) hu ?_
        rw [hsv, if_pos ((lN_0 exw.2).mp h0)]
        exact hx2
      · refine sn_ones (s := 9) h2 hx2 (by decide) (fun S3 hu3 hx3 => ⟨n + 1, ?_⟩)
        refine sn_rep_85 (x0 := rpA L d y a b x w) (mt_up h2 hu3) g1 hvl hv ha hb hy (fun S4 hu4 hx4 => ih (w + 1) S4 (by omega) (upS_tr hu (upS_tr hu3 hu4)) ?_) n 0 S3 (by omega) upS_rf hx3
        rw [hsv, if_neg (fun q => h0 ((lN_0 exw.2).mpr q))]
        exact hx4
  exact ⟨_, main (ofs L (d + 1)) 0 S1 (by omega) hu1 hx1⟩
