/-! the reference's table, step, scheme, order, feed, count -/
def nrI (x : Nat) : Int32 := if x ≤ 1073741823 then nI x else nI x - nI PR
/-- the bracket of two chiefs, as a row -/
def blk (L n m : Nat) (B : Nat → Nat) : Nat → Nat := fun w => if ofs L (n + m) ≤ w ∧ w < ofs L (n + m) + L ^ (n + m) then B (w - ofs L (n + m)) else 0
theorem sm_table {L d : Nat} {S : ms_T} {x : Nat → Nat} {i j k : Int32} {Q : Int32 → ms_T → Prop} (h : ck_ok L d S) (hx : nums S x)
    (hno : ¬ ((0 ≤ i.toInt ∧ i.toInt < cnt L d (ofs L (d + 1))) ∧ (0 ≤ j.toInt ∧ j.toInt < cnt L d (ofs L (d + 1))) ∧ (0 ≤ k.toInt ∧ k.toInt < cnt L d (ofs L (d + 1)))) → Q (-2147483648) S)
    (hz : ∀ n v m u p t, 1 ≤ n → n ≤ d → v < L ^ n → chf L n v = true → 1 ≤ m → m ≤ d → u < L ^ m → chf L m u = true → 1 ≤ p → p ≤ d → t < L ^ p → chf L p t = true → i = nI (cnt L d (ofs L n + v)) → j = nI (cnt L d (ofs L m + u)) → k = nI (cnt L d (ofs L p + t)) → ¬ n + m ≤ d → Q 0 S)
    (hq : ∀ n v m u p t S' x', 1 ≤ n → n ≤ d → v < L ^ n → chf L n v = true → 1 ≤ m → m ≤ d → u < L ^ m → chf L m u = true → 1 ≤ p → p ≤ d → t < L ^ p → chf L p t = true → i = nI (cnt L d (ofs L n + v)) → j = nI (cnt L d (ofs L m + u)) → k = nI (cnt L d (ofs L p + t)) → n + m ≤ d → upX S S' → nums S' x' → agr x' x → Q (nrI (shA L d (blk L n m (brk L (bas L n n v) (bas L m m u) n m)) (ofs L (d + 1)) (ofs L p + t))) S') : wp_X8_table S i j k Q := by
  refine sm_isNumber h (fun n v a1 a2 a3 a4 e1 => ⟨fun z => absurd z (by decide), fun _ => ?_⟩) (fun z => ⟨fun _ => hno (fun q => z q.1), fun q => absurd rfl q⟩)
  refine sm_isNumber h (fun m u b1 b2 b3 b4 e2 => ⟨fun z => absurd z (by decide), fun _ => ?_⟩) (fun z => ⟨fun _ => hno (fun q => z q.2.1), fun q => absurd rfl q⟩)
  refine sm_isNumber h (fun p t c1 c2 c3 c4 e3 => ⟨fun _ => ?_, fun z => absurd z (by decide)⟩) (fun z => ⟨fun q => absurd rfl q, fun _ => hno (fun q => z q.2.2)⟩)
  have hz' := hz n v m u p t a1 a2 a3 a4 b1 b2 b3 b4 c1 c2 c3 c4 e1 e2 e3
  have hq' := hq n v m u p t
  clear hq hz hno
  have hcf := h.1.1
  have hd := cf_d hcf
  have hall := cf_all hcf
  obtain ⟨r1, h1⟩ := ck_row h a1 a2 a3 a4
  obtain ⟨r2, h2⟩ := ck_row h b1 b2 b3 b4
  obtain ⟨r3, h3⟩ := ck_row h c1 c2 c3 c4
  have w1 := cf_w hcf a2 a3
  have w2 := cf_w hcf b2 b3
  have w3 := cf_w hcf c2 c3
  obtain ⟨ci', hci⟩ : ∃ c, c = cnt L d (ofs L n + v) := ⟨_, rfl⟩
  obtain ⟨cj, hcj⟩ : ∃ c, c = cnt L d (ofs L m + u) := ⟨_, rfl⟩
  obtain ⟨ck, hck⟩ : ∃ c, c = cnt L d (ofs L p + t) := ⟨_, rfl⟩
  have s1 := r1.2.1
  have s2 := r2.2.1
  have s3 := r3.2.1
  have B1 := r1.2.2.2.2.2
  have B2 := r2.2.2.2.2.2
  rw [← hci] at s1 h1 e1 B1
  rw [← hcj] at s2 h2 e2 B2
  rw [← hck] at s3 h3 e3
  rw [← hci, ← hcj, ← hck] at hq'
  subst e1 e2 e3
  refine ⟨vp_in_nI (by omega) (by omega), ?_⟩
  rw [nI_clamp (show ci' < 2 ^ 31 by omega), s1, mt_l h.1 a2 a3]
  refine ⟨vp_in_nI w1 (by omega), ?_⟩
  rintro _ rfl
  refine ⟨vp_in_nI (by omega) (by omega), ?_⟩
  rw [nI_clamp (show cj < 2 ^ 31 by omega), s2, mt_l h.1 b2 b3]
  refine ⟨vp_in_nI w2 (by omega), ?_⟩
  rintro _ rfl
  rw [nI_add, h.1.2.2.1]
  refine ⟨fun hle => ?_, fun hle => hz' (fun z => hle (nI_le z (by omega)))⟩
  have hnm : n + m ≤ d := (nI_leI (by omega) (by omega)).mp hle
  have pnm := cf_pow hcf hnm
  refine sn_clears (s := 8) h.1 hx (by decide) (fun S1 hu1 hx1 => ?_)
  have hk1 := ck_up h hu1
  rw [show (25344 : Int32) = nI (256 * 99) from rfl, show (256 : Int32) = nI 256 from rfl, pk_mul, pk_mul]
  refine sp_brackets (A := bas L n n v) (B := bas L m m u) (to := 99) hk1.1 hnm (by decide) (by omega) (by omega) (by omega) (by omega) (fun y hy => ⟨by rw [hu1.2.2 1 (by decide)]; exact B1 y hy, bas_lt _ _ _ _⟩) (fun y hy => ⟨by rw [hu1.2.2 1 (by decide)]; exact B2 y hy, bas_lt _ _ _ _⟩) ?_
  obtain ⟨S2, hS2⟩ : ∃ S2, S2 = mJ S1 1 (rs (S1.2.2 1) (256 * 99) (L ^ (n + m)) (fun y => lN (brk L (bas L n n v) (bas L m m u) n m y))) := ⟨_, rfl⟩
  rw [← hS2]
  have hu2 : upX S1 S2 := by
    rw [hS2]
    refine ⟨rfl, rfl, fun y hy => ?_, fun y hy => ?_⟩
    · rw [mJ_g, rs_out (by omega)]
    · rw [mJ_J, if_neg (by omega)]
  have hx2 : nums S2 (rsN x (364 * 8) (ofs L (d + 1)) (fun _ => 0)) := fun y hy => by
    rw [hS2, mJ_J, if_neg (by decide)]; exact hx1 y hy
  have hB2 : ∀ y, y < L ^ (n + m) → S2.2.2 1 (25344 + y) = lN (brk L (bas L n n v) (bas L m m u) n m y) := fun y hy => by
    rw [hS2, mJ_g, show 25344 + y = 256 * 99 + y from rfl, rs_in hy]
  have hbl : ∀ y, brk L (bas L n n v) (bas L m m u) n m y < PR := fun y => Nat.mod_lt _ (by decide)
  have inner : ∀ f y S3, y + f = L ^ (n + m) → upX S2 S3 → S3.2.2 1 = S2.2.2 1 → nums S3 (rsN x (364 * 8) (ofs L (d + 1)) (fun w => if ofs L (n + m) ≤ w ∧ w < ofs L (n + m) + y then brk L (bas L n n v) (bas L m m u) n m (w - ofs L (n + m)) else 0)) → wp_X8_table_97 Q (f + 1) S3 (nI ck) (nI n) (nI m) (nI y) := by
    intro f
    induction f with
    | zero =>
      intro y S3 hy hu3 h31 hx3
      have : y = L ^ (n + m) := by omega
      subst this
      have hk3 := ck_upX (ck_upX hk1 hu2) hu3
      refine ⟨by rw [nI_add]; exact vp_in_nI (by omega) (by omega), ?_⟩
      rw [nI_add, mt_p hk3.1 (by omega)]
      refine ⟨fun _ => ?_, fun z => absurd (nI_le (Nat.le_refl _) (by omega)) z⟩
      refine sp_shares (s := 8) hk3 hx3 (by decide) (fun S4 hu4 hx4 => ?_)
      have hI4 : S4.2.1 = S.2.1 := hu4.2.1.trans (hu3.2.1.trans (hu2.2.1.trans hu1.2.1))
      refine ⟨vp_in_nI (by omega) (by omega), ?_⟩
      rw [nI_clamp (show ck < 2 ^ 31 by omega), hI4, s3, show (2912 : Int32) = nI 2912 from rfl, nI_add, nI_clamp (by omega)]
      have hpw := ofs_all (L := L) c2 c3
      have e4 := hx4 (364 * 8 + (ofs L p + t)) (by omega)
      rw [rsN_in hpw] at e4
      refine ⟨vp_in_nI (by omega) (by omega), ?_⟩
      rintro _ rfl
      rw [show 2912 + (ofs L p + t) = 364 * 8 + (ofs L p + t) from rfl, e4.1]
      have eg : shA L d (fun w => rsN x (364 * 8) (ofs L (d + 1)) (fun w => if ofs L (n + m) ≤ w ∧ w < ofs L (n + m) + L ^ (n + m) then brk L (bas L n n v) (bas L m m u) n m (w - ofs L (n + m)) else 0) (364 * 8 + w)) (ofs L (d + 1)) (ofs L p + t) = shA L d (blk L n m (brk L (bas L n n v) (bas L m m u) n m)) (ofs L (d + 1)) (ofs L p + t) := shA_ext (fun q hq => by rw [rsN_in hq]; rfl) _ (Nat.le_refl _) _ hpw
      rw [eg] at e4 ⊢
      have hfin := hq' S4 _ a1 a2 a3 a4 b1 b2 b3 b4 c1 c2 c3 c4 rfl rfl rfl hnm (upX_tr (upX_tr (upX_tr (upX_S hu1) hu2) hu3) hu4) hx4 (fun q hq => by rw [rsN_out (by omega), rsN_out (by omega)])
      generalize shA L d (blk L n m (brk L (bas L n n v) (bas L m m u) n m)) (ofs L (d + 1)) (ofs L p + t) = y at hfin e4
      have hyP : y < 2 ^ 31 := by have : PR = 2147483647 := rfl; omega
      unfold nrI at hfin
      refine ⟨fun hle => ?_, fun hle => ?_⟩
      · have : y ≤ 1073741823 := (pk_lLE (by omega) (by decide)).mp (show lN y ≤ lN 1073741823 from hle)
        rw [if_pos this] at hfin
        rw [lN_i]
        exact hfin
      · have : ¬ y ≤ 1073741823 := fun z => hle ((pk_lLE (by omega) (by decide)).mpr z : lN y ≤ lN 1073741823)
        rw [if_neg this] at hfin
        rw [Int64.toInt32_sub, lN_i]
        exact hfin
    | succ f ih =>
      intro y S3 hy hu3 h31 hx3
      have hk3 := ck_upX (ck_upX hk1 hu2) hu3
      have hwy := cf_w hcf hnm (show y < L ^ (n + m) by omega)
      have hay := ofs_all (L := L) hnm (show y < L ^ (n + m) by omega)
      refine ⟨by rw [nI_add]; exact vp_in_nI (by omega) (by omega), ?_⟩
      rw [nI_add, mt_p hk3.1 (by omega)]
      refine ⟨fun z => absurd z (nI_ge (by omega) (by omega)), fun _ => ⟨vp_in_nI (by omega) (by omega), ?_⟩⟩
      rw [mt_o hk3.1 (by omega), show (25344 : Int32) = nI 25344 from rfl, nI_add, show (2912 : Int32) = nI 2912 from rfl, nI_add, nI_add, nI_clamp (show 25344 + y < 2 ^ 31 by omega), nI_clamp (show 2912 + ofs L (n + m) + y < 2 ^ 31 by omega), h31, hB2 y (by omega), nI_1]
      refine ⟨vp_in_nI (by omega) (by omega), vp_in_nI (by omega) (by omega), ?_⟩
      rintro _ rfl
      refine ih (y + 1) _ (by omega) (upX_tr hu3 (upX_S upS_sJ)) (by rw [sJ_r (by decide)]; exact h31) ?_
      have e1 := nums_one (i := 364 * 8 + (ofs L (n + m) + y)) hx3 (hbl y)
      rw [rsN_1 hay] at e1
      rw [show 2912 + ofs L (n + m) + y = 364 * 8 + (ofs L (n + m) + y) by omega]
      refine cast (congrArg (fun f => nums _ (rsN x (364 * 8) (ofs L (d + 1)) f)) ?_) e1
      funext q
      by_cases z : q = ofs L (n + m) + y
      · rw [if_pos z, if_pos (by omega), z, Nat.add_sub_cancel_left]
      · rw [if_neg z]
        by_cases z2 : ofs L (n + m) ≤ q ∧ q < ofs L (n + m) + y
        · rw [if_pos z2, if_pos (by omega)]
        · rw [if_neg z2, if_neg (by omega)]
  refine ⟨_, inner (L ^ (n + m)) 0 S2 (by omega) upX_rf rfl ?_⟩
  refine cast (congrArg (fun f => nums _ (rsN x (364 * 8) (ofs L (d + 1)) f)) ?_) hx2
  funext q
  rw [if_neg (by omega)]
theorem sm_isLetter {L d : Nat} {S : ms_T} {l : Int32} {Q : Int32 → ms_T → Prop} (h : mt_ok L d S) (h1 : ∀ y, y < L → l = nI y → Q 1 S) (h0 : ¬ (0 ≤ l.toInt ∧ l.toInt < L) → Q 0 S) : wp_X8_isLetter S l Q := by
  have hL := cf_L h.1
  have e0 : (0 : Int64).toInt = 0 := by decide
  have e1 : ((S.1 0) - 1).toInt64.toInt = (L : Int) - 1 := by
    rw [h.2.1, show (1 : Int32) = nI 1 from rfl, pk_sub (by omega), Int32.toInt_toInt64, nI_i (by omega)]
    omega
  refine sp_inI (fun a b => ⟨Or.inr rfl, ?_⟩) (fun hn => ⟨Or.inl rfl, h0 (fun z => hn (by rw [e0, e1]; omega))⟩)
  rw [e0] at a
  rw [e1] at b
  obtain ⟨y, hy, rfl⟩ := nI_of (x := l) (by rw [i32_lt, show (0 : Int32).toInt = 0 from by decide]; omega)
  rw [nI_i hy] at b
  exact h1 y (by omega) rfl
/-- the steps that are told: how many, their letters, their numbers -/
def stp (L : Nat) (S : ms_T) (k : Nat) (ls ps : Nat → Nat) : Prop := S.1 4 = nI k ∧ k ≤ 12 ∧ ∀ i, i < k → S.2.1 8 i = nI (ls i) ∧ ls i < L ∧ S.2.2 4 i = lN (ps i) ∧ ps i < PR
def isQ (u v : Int32) : Prop := -99 ≤ u.toInt ∧ u.toInt ≤ 99 ∧ 1 ≤ v.toInt ∧ v.toInt ≤ 99
/-- one step more -/
def stepS (S : ms_T) (k y p : Nat) : ms_T := ms_sF (ms_sJ (ms_sI S 8 k (nI y)) 4 k (lN p)) 4 (nI (k + 1))
theorem sm_step {L d k : Nat} {S : ms_T} {l u v : Int32} {ls ps : Nat → Nat} {Q : Int32 → ms_T → Prop} (h : mt_ok L d S) (hs : stp L S k ls ps) (hno : ¬ (0 ≤ l.toInt ∧ l.toInt < L) → Q (-1) S) (hbad : ∀ y, y < L → l = nI y → ¬ isQ u v → Q (-2) S) (hfull : ∀ y, y < L → l = nI y → isQ u v → k = 12 → Q (-4) S) (hq : ∀ y, y < L → l = nI y → isQ u v → k < 12 → stp L (stepS S k y (partN u.toInt v.toInt)) (k + 1) (fun i => if i = k then y else ls i) (fun i => if i = k then partN u.toInt v.toInt else ps i) → Q (nI (k + 1)) (stepS S k y (partN u.toInt v.toInt))) : wp_X8_step S l u v Q := by
  have hL := cf_L h.1
  refine sm_isLetter h (fun y hy e => ⟨fun _ => ?_, fun z => absurd z (by decide)⟩) (fun z => ⟨fun q => absurd rfl q, fun _ => hno z⟩)
  have e1 : ((-99) : Int64).toInt = -99 := by decide
  have e2 : (99 : Int64).toInt = 99 := by decide
  have e3 : (1 : Int64).toInt = 1 := by decide
  refine sp_inI (fun a b => ⟨fun z => absurd z (by decide), fun _ => ?_⟩) (fun hn => ⟨fun _ => hbad y hy e (fun z => hn (by rw [e1, e2]; exact ⟨z.1, z.2.1⟩)), fun z => absurd rfl z⟩)
  refine sp_inI (fun a' b' => ⟨fun _ => ?_, fun z => absurd z (by decide)⟩) (fun hn => ⟨fun z => absurd rfl z, fun _ => hbad y hy e (fun z => hn (by rw [e3, e2]; exact ⟨z.2.2.1, z.2.2.2⟩))⟩)
  rw [e1] at a
  rw [e2] at b b'
  rw [e3] at a'
  have hQ : isQ u v := ⟨a, b, a', b'⟩
  obtain ⟨s1, s2, s3⟩ := hs
  rw [s1]
  refine ⟨fun hne => ?_, fun he => hfull y hy e hQ ((nI_eq (by omega) (by decide)).mp (show nI k = nI 12 from he))⟩
  have hk : k < 12 := by
    by_cases z : k = 12
    · exact absurd (by rw [z]; rfl) hne
    · omega
  refine ⟨vp_in_nI hk (by omega), ?_⟩
  refine sp_partOf (by omega) (by omega) (by omega) (by omega) ?_
  rw [nI_clamp (by omega), show (ms_sI S 8 k l).1 4 = nI k from s1, nI_clamp (by omega), show (ms_sJ (ms_sI S 8 k l) 4 k (lN (partN u.toInt v.toInt))).1 4 = nI k from s1, nI_1]
  refine ⟨vp_in_nI hk (by omega), ?_⟩
  subst e
  refine hq y hy rfl hQ hk ⟨?_, by omega, fun i hi => ?_⟩
  · unfold stepS; rw [sF_F, if_pos rfl]
  · have r1 : (stepS S k y (partN u.toInt v.toInt)).2.1 8 i = if i = k then nI y else S.2.1 8 i := by
      unfold stepS
      rw [sF_I]
      show (ms_sI S 8 k (nI y)).2.1 8 i = _
      rw [sI_g, if_pos rfl]
    have r2 : (stepS S k y (partN u.toInt v.toInt)).2.2 4 i = if i = k then lN (partN u.toInt v.toInt) else S.2.2 4 i := by
      unfold stepS
      rw [sF_J, sJ_g, if_pos rfl]
      rfl
    rw [r1, r2]
    dsimp only
    by_cases z : i = k
    · rw [if_pos z, if_pos z, if_pos z, if_pos z]
      exact ⟨rfl, hy, rfl, Nat.mod_lt _ (by decide)⟩
    · rw [if_neg z, if_neg z, if_neg z, if_neg z]
      exact s3 i (by omega)
/-- what one step makes of the sums -/
def mkStep (L d : Nat) (x : Nat → Nat) (y p : Nat) : Nat → Nat :=
  let x2 := rsN (rsN x (364 * 15) (ofs L (d + 1)) (fun _ => 0)) (364 * 15 + (ofs L 1 + y)) 1 (fun _ => p)
  let x3 := seriesX L d 0 x2 16 15
  let x4 := rsN x3 (364 * 17) (ofs L (d + 1)) (fun w => mulW L d x3 14 16 w)
  rsN x4 (364 * 14) (ofs L (d + 1)) (fun w => x4 (364 * 17 + w))
def mkGo (L d : Nat) (ls ps : Nat → Nat) (x : Nat → Nat) : Nat → Nat → Nat
  | 0 => rsN (rsN x (364 * 14) (ofs L (d + 1)) (fun _ => 0)) (364 * 14) 1 (fun _ => 1)
  | i + 1 => mkStep L d (mkGo L d ls ps x i) (ls i) (ps i)
def makesX (L d k : Nat) (ls ps : Nat → Nat) (x : Nat → Nat) (to : Nat) : Nat → Nat := seriesX L d 1 (mkGo L d ls ps x k) to 14
theorem stp_up {L k : Nat} {S S' : ms_T} {ls ps : Nat → Nat} (h : stp L S k ls ps) (hu : upX S S') : stp L S' k ls ps := by
  obtain ⟨s1, s2, s3⟩ := h
  obtain ⟨u1, u2, u3, u4⟩ := hu
  unfold stp
  rw [u1, u2, u4 4 (Nat.le_refl _)]
  exact ⟨s1, s2, s3⟩
theorem sn_makes {L d k to : Nat} {S : ms_T} {x : Nat → Nat} {ls ps : Nat → Nat} {Q : ms_T → Prop} (h : mt_ok L d S) (hs : stp L S k ls ps) (hx : nums S x) (hto : to < 36) (hq : ∀ S', upS S S' → nums S' (makesX L d k ls ps x to) → Q S') : wp_X8_makes S (nI to) Q := by
  have hL := cf_L h.1
  have hd := cf_d h.1
  refine sn_ones (s := 14) h hx (by decide) (fun S1 hu1 hx1 => ?_)
  have main : ∀ f i S2, i + f = k → upS S S2 → nums S2 (mkGo L d ls ps x i) → wp_X8_makes_8 Q (f + 1) S2 (nI to) (nI i) := by
    intro f
    induction f with
    | zero =>
      intro i S2 hi hu2 hx2
      have : i = k := by omega
      subst this
      have hs2 := stp_up hs (upX_S hu2)
      refine ⟨fun _ => ?_, fun z => absurd (by rw [hs2.1]; exact nI_le (Nat.le_refl _) (by have := hs.2.1; omega)) z⟩
      exact sn_series (how := 1) (a := 14) (mt_up h hu2) hx2 (by decide) hto (by decide) (fun S3 hu3 hx3 => hq S3 (upS_tr hu2 hu3) hx3)
    | succ f ih =>
      intro i S2 hi hu2 hx2
      have hs2 := stp_up hs (upX_S hu2)
      have hk12 := hs.2.1
      refine ⟨fun z => absurd z (by rw [hs2.1]; exact nI_ge (by omega) (by omega)), fun _ => ?_⟩
      have hm2 := mt_up h hu2
      refine sn_clears (s := 15) hm2 hx2 (by decide) (fun S3 hu3 hx3 => ?_)
      have hm3 := mt_up hm2 hu3
      have hs3 := stp_up hs2 (upX_S hu3)
      obtain ⟨t1, t2, t3, t4⟩ := hs3.2.2 i (by omega)
      have eo : S3.2.1 1 ((1 : Int32)).toNatClampNeg = nI (ofs L 1) := mt_o hm3 (n := 1) (by omega)
      have eo1 : ofs L 1 = 1 := by show 0 + L ^ 0 = 1; rw [Nat.pow_zero]
      refine ⟨vp_in_nI (n := 1) (by decide) (by decide), vp_in_nI (by omega) (by omega), vp_in_nI (by omega) (by omega), ?_⟩
      rw [eo, nI_clamp (show i < 2 ^ 31 by omega), t1, t3, show (5460 : Int32) = nI 5460 from rfl, nI_add, nI_add, nI_clamp (by omega), show 5460 + ofs L 1 + ls i = 364 * 15 + (ofs L 1 + ls i) by omega]
      refine ⟨vp_in_nI (by omega) (by omega), ?_⟩
      have hx4 := nums_one (i := 364 * 15 + (ofs L 1 + ls i)) hx3 t4
      have hu4 : upS S3 (ms_sJ S3 0 (364 * 15 + (ofs L 1 + ls i)) (lN (ps i))) := upS_sJ
      refine sn_series (how := 0) (a := 15) (to := 16) (mt_up hm3 hu4) hx4 (by decide) (by decide) (by decide) (fun S5 hu5 hx5 => ?_)
      have hm5 := mt_up (mt_up hm3 hu4) hu5
      refine sn_multiplies (s := 17) (a := 14) (b := 16) hm5 hx5 (by decide) (by decide) (by decide) (by decide) (by decide) (fun S6 hu6 hx6 => ?_)
      refine sn_copies (s := 14) (a := 17) (mt_up hm5 hu6) hx6 (by decide) (by decide) (fun S7 hu7 hx7 => ?_)
      rintro _ rfl
      rw [nI_1]
      exact ih (i + 1) S7 (by omega) (upS_tr hu2 (upS_tr hu3 (upS_tr hu4 (upS_tr hu5 (upS_tr hu6 hu7))))) hx7
  exact ⟨_, main k 0 S1 (by omega) hu1 hx1⟩
theorem sm_scheme {L d k : Nat} {S : ms_T} {x : Nat → Nat} {r : Int32} {ls ps : Nat → Nat} {Q : Int32 → ms_T → Prop} (h : mt_ok L d S) (hs : stp L S k ls ps) (hx : nums S x) (hno : ¬ isS r → Q (-1) S) (hq : ∀ s S', s < 8 → r = nI s → upS S S' → nums S' (makesX L d k ls ps x s) → Q 0 S') : wp_X8_scheme S r Q := by
  refine sm_isSum (fun s h8 e => ⟨fun _ => ?_, fun z => absurd z (by decide)⟩) (fun hn => ⟨fun z => absurd rfl z, fun _ => hno hn⟩)
  have hq' := hq s
  subst e
  exact sn_makes h hs hx (by omega) (fun S' hu hx' => hq' S' h8 rfl hu hx')
/-- the first place at which a row is not 1 at letters and 0 elsewhere: what order answers -/
def orN (L d : Nat) (g : Nat → Nat) : Nat → Nat → Nat
  | 0, _ => d
  | f + 1, w => if g w = (if wlen L d w = 1 then 1 else 0) then orN L d g f (w + 1) else wlen L d w - 1
theorem sm_order {L d k : Nat} {S : ms_T} {x : Nat → Nat} {ls ps : Nat → Nat} {Q : Int32 → ms_T → Prop} (h : mt_ok L d S) (hs : stp L S k ls ps) (hx : nums S x) (hq : ∀ S', upS S S' → nums S' (makesX L d k ls ps x 18) → Q (nI (orN L d (fun w => makesX L d k ls ps x 18 (364 * 18 + w)) (ofs L (d + 1)) 0)) S') : wp_X8_order S Q := by
  have hd := cf_d h.1
  have hall := cf_all h.1
  refine sn_makes (to := 18) h hs hx (by decide) (fun S1 hu1 hx1 => ?_)
  have hq' := hq S1 hu1 hx1
  have hm1 := mt_up h hu1
  obtain ⟨g, hg⟩ : ∃ g : Nat → Nat, g = fun w => makesX L d k ls ps x 18 (364 * 18 + w) := ⟨_, rfl⟩
  rw [← hg] at hq'
  have hgw : ∀ w, w < 364 → S1.2.2 0 (6552 + w) = lN (g w) ∧ g w < PR := fun w hw => by
    rw [hg]; exact hx1 (364 * 18 + w) (by omega)
  have main : ∀ f w, w + f = ofs L (d + 1) → orN L d g (ofs L (d + 1)) 0 = orN L d g f w → wp_X8_order_8 Q (f + 1) S1 (nI w) := by
    intro f
    induction f with
    | zero =>
      intro w hw he
      rw [he] at hq'
      refine ⟨fun _ => by rw [hm1.2.2.1]; exact hq', fun z => absurd (by rw [(mt_W hm1).1]; exact nI_le (by omega) (by omega)) z⟩
    | succ f ih =>
      intro w hw he
      have hl : wlen L d w ≤ d := wlen_le
      have el : S1.2.1 2 w = nI (wlen L d w) := mt_len hm1 (by omega)
      refine ⟨fun z => absurd z (by rw [(mt_W hm1).1]; exact nI_ge (by omega) (by omega)), fun _ => ?_⟩
      rw [show (6552 : Int32) = nI 6552 from rfl, nI_add, nI_clamp (show 6552 + w < 2 ^ 31 by omega), nI_clamp (show w < 2 ^ 31 by omega), el, (hgw w (by omega)).1]
      refine ⟨vp_in_nI (by omega) (by omega), vp_in_nI (by omega) (by omega), ?_⟩
      have fin : ∀ c, c < 2 → c = (if wlen L d w = 1 then 1 else 0) → wp_X8_order_41 (wp_X8_order_8 Q (f + 1)) Q S1 (nI w) (lN (g w)) (lN c) := by
        intro c hc2 hc
        have he2 : orN L d g (f + 1) w = if g w = c then orN L d g f (w + 1) else wlen L d w - 1 := by
          show (if g w = _ then _ else _) = _
          rw [← hc]
        refine ⟨fun z => ?_, fun z => ⟨vp_in_nI (by omega) (by omega), ?_⟩⟩
        · have : g w = c := (lN_inj (hgw w (by omega)).2 (by have : PR = 2147483647 := rfl; omega)).mp z
          rw [if_pos this] at he2
          rintro _ rfl
          rw [nI_1]
          exact ih (w + 1) (by omega) (he.trans he2)
        · have : ¬ g w = c := fun q => z (by rw [q])
          rw [if_neg this] at he2
          rw [he.trans he2] at hq'
          rw [nI_clamp (show w < 2 ^ 31 by omega), el]
          refine ⟨fun hne => ⟨vp_in_nI (by omega) (by omega), ?_⟩, fun h0 => ?_⟩
          · have : wlen L d w ≠ 0 := fun q => hne (by rw [q]; rfl)
            rw [show (1 : Int32) = nI 1 from rfl, pk_sub (by omega)]
            exact hq'
          · have : wlen L d w = 0 := (nI_eq (by omega) (by decide)).mp (show nI (wlen L d w) = nI 0 from h0)
            rw [this] at hq'
            exact hq'
      refine ⟨fun hne => fin 0 (by decide) ?_, fun h1 => fin 1 (by decide) ?_⟩
      · rw [if_neg (fun q => hne (by rw [q]; rfl))]
      · rw [if_pos ((nI_eq (by omega) (by decide)).mp (show nI (wlen L d w) = nI 1 from h1))]
  exact ⟨_, main (ofs L (d + 1)) 0 (by omega) rfl⟩
