/-! the reference's exp, log, inverse: 'series' -/
theorem nv_lt {a : Nat} (ha : a < PR) : nv a < PR := by
  have main : ∀ n r b e, r < PR → pm n r b e < PR := by
    intro n
    induction n with
    | zero => intro r b e hr; exact hr
    | succ n ih =>
      intro r b e hr
      unfold pm
      by_cases h0 : e = 0
      · rw [if_pos h0]; exact hr
      · rw [if_neg h0]
        apply ih
        by_cases h1 : e % 2 = 1
        · rw [if_pos h1]; exact Nat.mod_lt _ (by decide)
        · rw [if_neg h1]; exact hr
  exact main 31 1 a _ (by decide)
def serFac (how n fac : Nat) : Nat := if how = 0 then fac * nv n % PR else if how = 1 then nv n else 1
def serT (how n fac : Nat) : Nat := if how = 0 then fac else if n % 2 = (if how = 1 then 1 else 0) then fac else PR - fac
def serStep (L d : Nat) (x : Nat → Nat) (t : Nat) : Nat → Nat :=
  let x1 := rsN x (364 * 12) (ofs L (d + 1)) (fun w => mulW L d x 10 9 w)
  let x2 := rsN x1 (364 * 10) (ofs L (d + 1)) (fun w => x1 (364 * 12 + w))
  rsN x2 (364 * 11) (ofs L (d + 1)) (fun w => (x2 (364 * 11 + w) + x2 (364 * 10 + w) * t) % PR)
/-- m steps more, from step n on, with the factor so far -/
def serGo (L d how : Nat) : Nat → Nat → Nat → (Nat → Nat) → (Nat → Nat)
  | 0, _, _, x => x
  | m + 1, n, fac, x => serGo L d how m (n + 1) (serFac how n fac) (serStep L d x (serT how n (serFac how n fac)))
def serX (L d how a : Nat) (x : Nat → Nat) : Nat → Nat :=
  let x1 := rsN x (364 * 9) (ofs L (d + 1)) (fun w => x (364 * a + w))
  let x2 := rsN x1 3276 1 (fun _ => 0)
  let x3 := rsN (rsN x2 (364 * 10) (ofs L (d + 1)) (fun _ => 0)) (364 * 10) 1 (fun _ => 1)
  let x4 := rsN x3 (364 * 11) (ofs L (d + 1)) (fun _ => 0)
  serGo L d how d 1 1 (rsN x4 4004 1 (fun _ => if how = 1 then 0 else 1))
theorem nI_64 {n : Nat} (h : n < 2 ^ 31) : (nI n).toInt64 = lN n := nI_l h
theorem serFac_lt {how n fac : Nat} (hn : n < PR) : serFac how n fac < PR := by
  unfold serFac
  by_cases h0 : how = 0
  · rw [if_pos h0]; exact Nat.mod_lt _ (by decide)
  · rw [if_neg h0]
    by_cases h1 : how = 1
    · rw [if_pos h1]; exact nv_lt hn
    · rw [if_neg h1]; decide
theorem nv_pos : ∀ n, n < 7 → 1 ≤ n → 0 < nv n := by decide +kernel
theorem rl_sub {f : Nat} (h : f < PR) : (2147483647 : Int64) - lN f = lN (PR - f) := by
  have hP : PR = 2147483647 := rfl
  rw [show (2147483647 : Int64) = lN PR from rfl, lN_sub (by omega)]
theorem sn_ser_end {L d how n fac : Nat} {S : ms_T} {x : Nat → Nat} {v1 : Int32} {K : ms_T → Int32 → Int32 → Int64 → Int32 → Prop} {Q : ms_T → Prop} (h : mt_ok L d S) (hx : nums S x) (hh : how < 3) (hn1 : 1 ≤ n) (hn : n ≤ 6) (hf : fac < PR) (hf0 : how ≠ 0 → 0 < fac)
    (hk : ∀ S', upS S S' → nums S' (rsN x (364 * 11) (ofs L (d + 1)) (fun w => (x (364 * 11 + w) + x (364 * 10 + w) * serT how n fac) % PR)) → K S' v1 (nI how) (lN fac) (nI (n + 1))) : wp_X8_series_114 K Q S v1 (nI how) (nI n) (lN fac) := by
  have fin : ∀ t, t < PR → t = serT how n fac → wp_X8_series_153 K Q S v1 (nI how) (lN fac) (nI n) 11 10 (lN t) := by
    intro t ht e
    subst e
    refine sn_adds (s := 11) (a := 10) h hx (by decide) (by decide) ht (fun S' hu hx' => ?_)
    rintro _ rfl
    rw [nI_1]
    exact hk S' hu hx'
  have hP : PR = 2147483647 := rfl
  have hrem : xr_remI (nI n) 2 = nI (n % 2) := ri_rem (b := 2) (by omega) (by decide) (by decide)
  rcases (show how = 0 ∨ how = 1 ∨ how = 2 by omega) with rfl | rfl | rfl
  · refine ⟨fun _ => fin fac hf (by simp [serT]), fun hne => absurd rfl hne⟩
  · have hp := hf0 (by decide)
    refine ⟨fun hne => absurd hne (by decide), fun _ => ⟨fun hne => absurd rfl hne, fun _ => ?_⟩⟩
    rw [hrem]
    refine ⟨fun hne => ?_, fun he => ?_⟩
    · rw [rl_sub hf]
      refine fin _ (by omega) ?_
      have : ¬ n % 2 = 1 := fun e => hne (by rw [e]; rfl)
      simp [serT, this]
    · have : n % 2 = 1 := (nI_eq (show n % 2 < 2 ^ 31 by omega) (by decide)).mp (show nI (n % 2) = nI 1 from he)
      exact fin fac hf (by simp [serT, this])
  · have hp := hf0 (by decide)
    refine ⟨fun hne => absurd hne (by decide), fun _ => ⟨fun _ => ?_, fun hne => absurd hne (by decide)⟩⟩
    rw [hrem]
    refine ⟨fun hne => ?_, fun he => ?_⟩
    · rw [rl_sub hf]
      refine fin _ (by omega) ?_
      have : ¬ n % 2 = 0 := fun e => hne (by rw [e]; rfl)
      simp [serT, this]
    · have : n % 2 = 0 := (nI_eq (show n % 2 < 2 ^ 31 by omega) (by decide)).mp (show nI (n % 2) = nI 0 from he)
      exact fin fac hf (by simp [serT, this])
theorem sn_ser_loop {L d how to : Nat} {Q : ms_T → Prop} (hh : how < 3) (hto : to < 36) : ∀ (m n fac : Nat) (S : ms_T) (x : Nat → Nat), n + m = d + 1 → 1 ≤ n → fac < PR → mt_ok L d S → nums S x →
    (∀ S', upS S S' → nums S' (rsN (serGo L d how m n fac x) (364 * to) (ofs L (d + 1)) (fun w => serGo L d how m n fac x (364 * 11 + w))) → Q S') → wp_X8_series_52 Q (m + 1) S (nI to) (nI how) (lN fac) (nI n) := by
  intro m
  induction m with
  | zero =>
    intro n fac S x hm hn1 hf h hx hq
    have hd := cf_d h.1
    refine ⟨fun _ => sn_copies (a := 11) h hx hto (by decide) hq, fun hlt => absurd ?_ hlt⟩
    rw [h.2.2.1]; exact nI_lt (by omega) (by omega)
  | succ m ih =>
    intro n fac S x hm hn1 hf h hx hq
    have hd := cf_d h.1
    have hP : PR = 2147483647 := rfl
    refine ⟨fun hlt => absurd hlt ?_, fun _ => ?_⟩
    · rw [h.2.2.1]; exact nI_nlt (by omega) (by omega)
    · refine sn_multiplies (s := 12) (a := 10) (b := 9) h hx (by decide) (by decide) (by decide) (by decide) (by decide) (fun S4 hu4 hx4 => ?_)
      have h4 := mt_up h hu4
      refine sn_copies (s := 10) (a := 12) h4 hx4 (by decide) (by decide) (fun S5 hu5 hx5 => ?_)
      have h5 := mt_up h4 hu5
      have fin : wp_X8_series_114 (wp_X8_series_52 Q (m + 1)) Q S5 (nI to) (nI how) (nI n) (lN (serFac how n fac)) := by
        refine sn_ser_end h5 hx5 hh hn1 (by omega) (serFac_lt (by omega)) (fun h0 => ?_) (fun S6 hu6 hx6 => ?_)
        · unfold serFac
          rw [if_neg h0]
          by_cases h1 : how = 1
          · rw [if_pos h1]; exact nv_pos n (by omega) hn1
          · rw [if_neg h1]; decide
        · refine ih (n + 1) _ S6 _ (by omega) (by omega) (serFac_lt (by omega)) (mt_up h5 hu6) hx6 (fun S' hu' hx' => hq S' (upS_tr (upS_tr (upS_tr hu4 hu5) hu6) hu') hx')
      have h64 : (nI n).toInt64 = lN n := nI_64 (by omega)
      refine ⟨fun hne => ⟨fun hne1 => ?_, fun he1 => ?_⟩, fun he => ?_⟩
      · have e0 : how ≠ 0 := fun e => hne (by rw [e]; rfl)
        have e1 : how ≠ 1 := fun e => hne1 (by rw [e]; rfl)
        rw [serFac, if_neg e0, if_neg e1] at fin
        exact fin
      · have e1 : how = 1 := (nI_eq (show how < 2 ^ 31 by omega) (by decide)).mp (show nI how = nI 1 from he1)
        rw [h64]
        refine sp_inverted (by omega) ?_
        rw [serFac, if_neg (by omega), if_pos e1] at fin
        exact fin
      · have e0 : how = 0 := (nI_eq (show how < 2 ^ 31 by omega) (by decide)).mp (show nI how = nI 0 from he)
        rw [h64]
        refine sp_inverted (by omega) ?_
        rw [rl_mul hf (nv_lt (by omega))]
        rw [serFac, if_pos e0] at fin
        exact fin
theorem sn_series {L d how to a : Nat} {S : ms_T} {x : Nat → Nat} {Q : ms_T → Prop} (h : mt_ok L d S) (hx : nums S x) (hh : how < 3) (hto : to < 36) (ha : a < 36) (hq : ∀ S', upS S S' → nums S' (rsN (serX L d how a x) (364 * to) (ofs L (d + 1)) (fun w => serX L d how a x (364 * 11 + w))) → Q S') : wp_X8_series S (nI to) (nI a) (nI how) Q := by
  have hd := cf_d h.1
  refine sn_copies (s := 9) h hx (by decide) ha (fun S1 hu1 hx1 => ⟨by rw [show (3276 : Int32) = nI 3276 from rfl]; exact vp_in_nI (by decide) (by decide), ?_⟩)
  have hx2 := nums_one (i := 3276) (v := 0) hx1 (by decide)
  have e3276 : ((3276 : Int32)).toNatClampNeg = 3276 := by decide
  rw [e3276]
  have h2 := mt_up (mt_up h hu1) (upS_sJ (i := 3276) (v := lN 0))
  refine sn_ones (s := 10) h2 hx2 (by decide) (fun S3 hu3 hx3 => ?_)
  have h3 := mt_up h2 hu3
  refine sn_clears (s := 11) h3 hx3 (by decide) (fun S4 hu4 hx4 => ?_)
  have h4 := mt_up h3 hu4
  have fin : ∀ v, v = (if how = 1 then 0 else 1) → wp_X8_series_45 Q S4 (nI to) (nI how) 4004 (lN v) := by
    intro v hv
    have hv1 : v < PR := by
      subst hv
      by_cases e : how = 1
      · rw [if_pos e]; decide
      · rw [if_neg e]; decide
    have e4004 : (4004 : Int32).toNatClampNeg = 4004 := by decide
    refine ⟨by rw [show (4004 : Int32) = nI 4004 from rfl]; exact vp_in_nI (by decide) (by decide), d + 1, ?_⟩
    rw [e4004]
    have hx5 := nums_one (i := 4004) (v := v) hx4 hv1
    refine sn_ser_loop hh hto d 1 1 _ _ (by omega) (by decide) (by decide) (mt_up h4 upS_sJ) hx5 (fun S' hu' hx' => ?_)
    refine hq S' (upS_tr (upS_tr (upS_tr (upS_tr (upS_tr hu1 upS_sJ) hu3) hu4) upS_sJ) hu') ?_
    subst hv
    exact hx'
  refine ⟨fun hne => ?_, fun he => ?_⟩
  · have e1 : how ≠ 1 := fun e => hne (by rw [e]; rfl)
    exact fin 1 (by rw [if_neg e1])
  · have e1 : how = 1 := (nI_eq (show how < 2 ^ 31 by omega) (by decide)).mp (show nI how = nI 1 from he)
    exact fin 0 (by rw [if_pos e1])
