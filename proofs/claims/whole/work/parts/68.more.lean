/-! the reference's add, group, part -/
def addX (L d : Nat) (x : Nat → Nat) (s a t : Nat) : Nat → Nat :=
  let x1 := rsN x (364 * 8) (ofs L (d + 1)) (fun w => x (364 * a + w))
  rsN x1 (364 * s) (ofs L (d + 1)) (fun w => (x1 (364 * s + w) + x1 (364 * 8 + w) * t) % PR)
theorem sm_add {L d : Nat} {S : ms_T} {x : Nat → Nat} {r p u v : Int32} {Q : Int32 → ms_T → Prop} (h : mt_ok L d S) (hx : nums S x) (hno : ¬ (isS r ∧ isS p) → Q (-1) S) (hbad : isS r → isS p → ¬ isP u v → Q (-2) S) (hq : ∀ s a S', s < 8 → a < 8 → r = nI s → p = nI a → isP u v → upS S S' → nums S' (addX L d x s a (partN u.toInt v.toInt)) → Q 0 S') : wp_X8_add S r p u v Q := by
  have iss : ∀ s, s < 8 → isS (nI s) := fun s hs => by unfold isS; rw [nI_i (by omega)]; omega
  refine sm_isSum (fun s hs e1 => ⟨fun z => absurd z (by decide), fun _ => ?_⟩) (fun hn => ⟨fun _ => hno (fun z => hn z.1), fun z => absurd rfl z⟩)
  refine sm_isSum (fun a ha e2 => ⟨fun _ => ?_, fun z => absurd z (by decide)⟩) (fun hn => ⟨fun z => absurd rfl z, fun _ => hno (fun z => hn z.2)⟩)
  subst e1 e2
  refine sm_isPart (fun hp => ⟨fun _ => ?_, fun z => absurd z (by decide)⟩) (fun hp => ⟨fun z => absurd rfl z, fun _ => hbad (iss s hs) (iss a ha) hp⟩)
  refine sn_copies (s := 8) h hx (by decide) (by omega) (fun S1 hu1 hx1 => ?_)
  refine sp_partOf hp.1 hp.2.1 hp.2.2.1 hp.2.2.2 ?_
  exact sn_adds (a := 8) (mt_up h hu1) hx1 (by omega) (by decide) (Nat.mod_lt _ (by decide)) (fun S2 hu2 hx2 => hq s a S2 hs ha rfl rfl hp (upS_tr hu1 hu2) hx2)
def groupX (L d : Nat) (x : Nat → Nat) (s a b : Nat) : Nat → Nat :=
  let x1 := seriesX L d 0 x 14 a
  let x2 := seriesX L d 0 x1 15 b
  let x3 := rsN x2 (364 * 16) (ofs L (d + 1)) (fun w => mulW L d x2 14 15 w)
  seriesX L d 1 x3 s 16
theorem lN_0 {a : Nat} (ha : a < PR) : lN a = 0 ↔ a = 0 := lN_inj (b := 0) ha (by decide)
theorem sm_group {L d : Nat} {S : ms_T} {x : Nat → Nat} {r p q : Int32} {Q : Int32 → ms_T → Prop} (h : mt_ok L d S) (hx : nums S x) (hno : ¬ (isS r ∧ isS p ∧ isS q) → Q (-1) S) (hst : ∀ s a b, s < 8 → a < 8 → b < 8 → r = nI s → p = nI a → q = nI b → ¬ (x (364 * a) = 0 ∧ x (364 * b) = 0) → Q (-3) S) (hq : ∀ s a b S', s < 8 → a < 8 → b < 8 → r = nI s → p = nI a → q = nI b → x (364 * a) = 0 → x (364 * b) = 0 → upS S S' → nums S' (groupX L d x s a b) → Q 0 S') : wp_X8_group S r p q Q := by
  refine sm_areSums (fun s a b hs ha hb e1 e2 e3 => ⟨fun _ => ?_, fun z => absurd z (by decide)⟩) (fun hn => ⟨fun z => absurd rfl z, fun _ => hno hn⟩)
  subst e1 e2 e3
  have hxa := hx (364 * a) (by omega)
  have hxb := hx (364 * b) (by omega)
  refine ⟨by rw [ix0]; exact vp_in_nI (by omega) (by omega), ?_⟩
  rw [ix0, nI_clamp (show 364 * a < 2 ^ 31 by omega), hxa.1, lN_0 hxa.2]
  refine ⟨fun hne => hst s a b hs ha hb rfl rfl rfl (fun z => hne z.1), fun h0 => ⟨by rw [ix0]; exact vp_in_nI (by omega) (by omega), ?_⟩⟩
  rw [ix0, nI_clamp (show 364 * b < 2 ^ 31 by omega), hxb.1, lN_0 hxb.2]
  refine ⟨fun h1 => ?_, fun hne => hst s a b hs ha hb rfl rfl rfl (fun z => hne z.2)⟩
  refine sn_series (how := 0) (to := 14) h hx (by decide) (by decide) (by omega) (fun S1 hu1 hx1 => ?_)
  have h1' := mt_up h hu1
  refine sn_series (how := 0) (to := 15) h1' hx1 (by decide) (by decide) (by omega) (fun S2 hu2 hx2 => ?_)
  have h2' := mt_up h1' hu2
  refine sn_multiplies (s := 16) (a := 14) (b := 15) h2' hx2 (by decide) (by decide) (by decide) (by decide) (by decide) (fun S3 hu3 hx3 => ?_)
  have h3' := mt_up h2' hu3
  exact sn_series (how := 1) (a := 16) h3' hx3 (by decide) (by omega) (by decide) (fun S4 hu4 hx4 => hq s a b S4 hs ha hb rfl rfl rfl h0 h1 (upS_tr (upS_tr (upS_tr hu1 hu2) hu3) hu4) hx4)
def partX (L d : Nat) (x : Nat → Nat) (s a n : Nat) : Nat → Nat := rsN x (364 * s) (ofs L (d + 1)) (fun w => if wlen L d w = n then x (364 * a + w) else 0)
theorem mt_len {L d w : Nat} {S : ms_T} (h : mt_ok L d S) (hw : w < ofs L (d + 1)) : S.2.1 2 w = nI (wlen L d w) := by
  have h1 : wlen L d w ≤ d := wlen_le
  have h2 : ofs L (wlen L d w) ≤ w := wlen_lo
  have h3 : w < ofs L (wlen L d w) + L ^ wlen L d w := wlen_hi hw
  have e := h.2.2.2.2.2.2 (wlen L d w) (w - ofs L (wlen L d w)) h1 (by omega)
  rw [show ofs L (wlen L d w) + (w - ofs L (wlen L d w)) = w by omega] at e
  exact e
theorem sm_part {L d : Nat} {S : ms_T} {x : Nat → Nat} {r p k : Int32} {Q : Int32 → ms_T → Prop} (h : mt_ok L d S) (hx : nums S x) (hno : ¬ (isS r ∧ isS p ∧ 0 ≤ k.toInt ∧ k.toInt ≤ d) → Q (-1) S) (hq : ∀ s a n S', s < 8 → a < 8 → n ≤ d → r = nI s → p = nI a → k = nI n → upS S S' → nums S' (partX L d x s a n) → Q 0 S') : wp_X8_part S r p k Q := by
  have hd := cf_d h.1
  have hW := mt_W h
  refine sm_isSum (fun s hs e1 => ⟨fun z => absurd z (by decide), fun _ => ?_⟩) (fun hn => ⟨fun _ => hno (fun z => hn z.1), fun z => absurd rfl z⟩)
  refine sm_isSum (fun a ha e2 => ⟨fun z => absurd z (by decide), fun _ => ?_⟩) (fun hn => ⟨fun _ => hno (fun z => hn z.2.1), fun z => absurd rfl z⟩)
  have ed : (S.1 1).toInt64.toInt = d := by rw [h.2.2.1, Int32.toInt_toInt64, nI_i (by omega)]
  have e0 : (0 : Int64).toInt = 0 := by decide
  refine sp_inI (fun k1 k2 => ⟨fun _ => ?_, fun z => absurd z (by decide)⟩) (fun hn => ⟨fun z => absurd rfl z, fun _ => hno (fun z => hn (by rw [e0, ed]; exact z.2.2))⟩)
  rw [e0] at k1
  rw [ed] at k2
  obtain ⟨n, hn31, rfl⟩ := nI_of (x := k) (by rw [i32_lt, show (0 : Int32).toInt = 0 from by decide]; omega)
  rw [nI_i hn31] at k2
  subst e1 e2
  have main : ∀ j w, w + j = ofs L (d + 1) → wp_X8_part_33 Q (j + 1) (mJ S 0 (rs (S.2.2 0) (364 * s) w (fun w => if wlen L d w = n then S.2.2 0 (364 * a + w) else 0))) (nI s) (nI a) (nI n) (nI w) := by
    intro j
    induction j with
    | zero =>
      intro w hw
      have : w = ofs L (d + 1) := by omega
      subst this
      refine ⟨fun _ => ?_, fun z => absurd ?_ z⟩
      · refine hq s a n _ hs ha (by omega) rfl rfl rfl upS_mJ (nums_rs hx (fun w hw => ?_))
        by_cases e : wlen L d w = n
        · rw [if_pos e, if_pos e]; exact hx _ (by omega)
        · rw [if_neg e, if_neg e]; exact ⟨rfl, by decide⟩
      · show S.1 2 ≤ _
        rw [hW.1]; exact nI_le (Nat.le_refl _) (by omega)
    | succ j ih =>
      intro w hw
      have hlen : (mJ S 0 (rs (S.2.2 0) (364 * s) w (fun w => if wlen L d w = n then S.2.2 0 (364 * a + w) else 0))).2.1 2 (nI w).toNatClampNeg = nI (wlen L d w) := by
        rw [nI_clamp (by omega)]; exact mt_len h (by omega)
      have hwl : wlen L d w ≤ d := wlen_le
      have hi := ih (w + 1) (by omega)
      rw [← rs_succ (f := fun w => if wlen L d w = n then S.2.2 0 (364 * a + w) else 0), ← mJ_s] at hi
      refine ⟨fun z => absurd z ?_, fun _ => ⟨vp_in_nI (by omega) (by omega), fun hne => ?_, fun he => ?_⟩⟩
      · show ¬ S.1 2 ≤ nI w
        rw [hW.1]; exact nI_ge (by omega) (by omega)
      · rw [hlen] at hne
        have e : ¬ wlen L d w = n := fun e => hne (by rw [e])
        rw [if_neg e] at hi
        refine ⟨by rw [ix]; exact vp_in_nI (by omega) (by omega), ?_⟩
        rintro _ rfl
        rw [ix, nI_clamp (by omega), nI_1]
        exact hi
      · rw [hlen] at he
        have e : wlen L d w = n := (nI_eq (by omega) (by omega)).mp he
        rw [if_pos e] at hi
        refine ⟨by rw [ix]; exact vp_in_nI (by omega) (by omega), by rw [ix]; exact vp_in_nI (by omega) (by omega), ?_⟩
        rintro _ rfl
        rw [ix, ix, nI_clamp (by omega), nI_clamp (by omega), nI_1, mJ_g, rs_out (j := 364 * a + w) (by rcases Nat.lt_trichotomy a s with h | h | h <;> omega)]
        exact hi
  have h0 := main (ofs L (d + 1)) 0 (by omega)
  rw [rs_0, mJ_self] at h0
  exact ⟨_, h0⟩
