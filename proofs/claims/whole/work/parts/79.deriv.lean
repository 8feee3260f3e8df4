/-! the reference's derive and replace -/
/-- a number comes to a place of a row -/
def acc (g : Nat → Nat) (p c : Nat) : Nat → Nat := fun j => if j = p then (g p + c) % PR else g j
def acL (g : Nat → Nat) (l : List (Nat × Nat)) : Nat → Nat := l.foldl (fun g q => acc g q.1 q.2) g
theorem acL_app {g : Nat → Nat} {l m : List (Nat × Nat)} : acL g (l ++ m) = acL (acL g l) m := List.foldl_append
theorem acL_lt {j : Nat} : ∀ (l : List (Nat × Nat)) (g : Nat → Nat), g j < PR → acL g l j < PR
  | [], _, h => h
  | q :: l, g, h => by
    refine acL_lt l (acc g q.1 q.2) ?_
    unfold acc
    by_cases e : j = q.1
    · rw [if_pos e]; exact Nat.mod_lt _ (by decide)
    · rw [if_neg e]; exact h
/-- what comes of one letter of a word: the words of one length of the sum that stands in for it -/
def dvV (L hd i n tl xw : Nat) (B : Nat → Nat) (m k : Nat) : List (Nat × Nat) := (List.range k).map (fun v => (ofs L (i + m + n) + (hd * L ^ m + v) * L ^ n + tl, xw * B (ofs L m + v)))
def dvM (L hd i n tl xw : Nat) (B : Nat → Nat) (k : Nat) : List (Nat × Nat) := (List.range k).flatMap (fun m => dvV L hd i n tl xw B m (L ^ m))
def dvI (L d n v i xw : Nat) (B : Nat → Nat) : List (Nat × Nat) := dvM L (v / L ^ (n - i)) i (n - 1 - i) (v % L ^ (n - (i + 1))) xw B (d + 2 - n)
def dvW (L d y n v xw : Nat) (B : Nat → Nat) (k : Nat) : List (Nat × Nat) := (List.range k).flatMap (fun i => if ltr L n v i = y then dvI L d n v i xw B else [])
/-- what comes of the words ahead of a place -/
def dvA (L d y : Nat) (A B : Nat → Nat) (k : Nat) : List (Nat × Nat) := (List.range k).flatMap (fun w => if A w = 0 then [] else dvW L d y (wlen L d w) (w - ofs L (wlen L d w)) (A w) B (wlen L d w))
theorem nums_acc {S : ms_T} {x g : Nat → Nat} {W p c : Nat} (hx : nums S (rsN x 2912 W g)) (hp : p < W) : nums (ms_sJ S 0 (2912 + p) (lN ((g p + c) % PR))) (rsN x 2912 W (acc g p c)) := by
  have e1 := nums_one (i := 2912 + p) hx (show (g p + c) % PR < PR from Nat.mod_lt _ (by decide))
  rw [rsN_1 hp] at e1
  exact e1
theorem pl_lt {L hd i m n v tl d : Nat} (hL : 1 ≤ L) (hh : hd < L ^ i) (hv : v < L ^ m) (ht : tl < L ^ n) : (hd * L ^ m + v) * L ^ n + tl < L ^ (i + m + n) := by
  have h1 : hd * L ^ m + v < L ^ (i + m) := by
    rw [Nat.pow_add]
    have : (hd + 1) * L ^ m ≤ L ^ i * L ^ m := Nat.mul_le_mul_right _ hh
    rw [Nat.add_mul, Nat.one_mul] at this
    omega
  rw [Nat.pow_add]
  have : (hd * L ^ m + v + 1) * L ^ n ≤ L ^ (i + m) * L ^ n := Nat.mul_le_mul_right _ h1
  rw [Nat.add_mul (hd * L ^ m + v), Nat.one_mul] at this
  omega
theorem sp_der_65 {L d hd i n tl xw by' m : Nat} {x : Nat → Nat} {K48 : ms_T → Int32 → Int64 → Int32 → Int32 → Int32 → Int32 → Int32 → Prop} {Q : ms_T → Prop} {S0 : ms_T} (h : mt_ok L d S0) (him : i + m + n ≤ d) (hh : hd < L ^ i) (ht : tl < L ^ n) (hxw : xw < PR) (hb : by' < 8) (hx8 : ∀ j, j < 2912 → x j < PR)
    {g0 : Nat → Nat} (hk : ∀ S, upS S0 S → nums S (rsN x 2912 (ofs L (d + 1)) (acL g0 (dvV L hd i n tl xw (fun w => x (364 * by' + w)) m (L ^ m)))) → K48 S (nI i) (lN xw) (nI by') (nI hd) (nI n) (nI tl) (nI (m + 1))) :
    ∀ f v S, v + f = L ^ m → upS S0 S → nums S (rsN x 2912 (ofs L (d + 1)) (acL g0 (dvV L hd i n tl xw (fun w => x (364 * by' + w)) m v))) → wp_X8_derives_65 K48 Q (f + 1) S (nI i) (lN xw) (nI by') (nI hd) (nI n) (nI tl) (nI m) (nI v) := by
  have hcf := h.1
  have hL := cf_L hcf
  have hdd := cf_d hcf
  have hall := cf_all hcf
  have pm' := cf_pow hcf (show m ≤ d by omega)
  have pn := cf_pow hcf (show n ≤ d by omega)
  have pi' := cf_pow hcf (show i ≤ d by omega)
  intro f
  induction f with
  | zero =>
    intro v S hv hu hx
    have : v = L ^ m := by omega
    subst this
    refine ⟨vp_in_nI (by omega) (by omega), ?_⟩
    rw [mt_p (mt_up h hu) (by omega)]
    refine ⟨fun _ => ?_, fun z => absurd (nI_le (Nat.le_refl _) (by omega)) z⟩
    rintro _ rfl
    rw [nI_1]
    exact hk S hu hx
  | succ f ih =>
    intro v S hv hu hx
    have hm := mt_up h hu
    have hpl := pl_lt (d := d) (show 1 ≤ L by omega) hh (show v < L ^ m by omega) ht
    have hpw := cf_w hcf him hpl
    have hpa := ofs_all (L := L) him hpl
    have hvw := cf_w hcf (show m ≤ d by omega) (show v < L ^ m by omega)
    refine ⟨vp_in_nI (by omega) (by omega), ?_⟩
    rw [mt_p hm (show m ≤ d + 1 by omega)]
    refine ⟨fun z => absurd z (nI_ge (by omega) (by omega)), fun _ => ?_⟩
    rw [nI_add, nI_add, mt_o hm (show i + m + n ≤ d + 1 by omega), mt_p hm (show n ≤ d + 1 by omega), mt_o hm (show m ≤ d + 1 by omega), pk_mul, nI_add, pk_mul, nI_add, nI_add]
    refine ⟨vp_in_nI (by omega) (by omega), vp_in_nI (by omega) (by omega), vp_in_nI (by omega) (by omega), ?_⟩
    rintro _ rfl
    obtain ⟨P, hP⟩ : ∃ P, P = ofs L (i + m + n) + (hd * L ^ m + v) * L ^ n + tl := ⟨_, rfl⟩
    have hPa : P < ofs L (d + 1) := by rw [hP, Nat.add_assoc]; exact hpa
    rw [← hP, show (2912 : Int32) = nI 2912 from rfl, nI_add, ix, nI_add, nI_clamp (show 2912 + P < 2 ^ 31 by omega), nI_clamp (show 364 * by' + ofs L m + v < 2 ^ 31 by omega)]
    refine ⟨vp_in_nI (by omega) (by omega), vp_in_nI (by omega) (by omega), vp_in_nI (by omega) (by omega), vp_in_nI (by omega) (by omega), ?_⟩
    rintro _ rfl
    have eP := hx (2912 + P) (by omega)
    rw [rsN_in hPa] at eP
    have eB := hx (364 * by' + ofs L m + v) (by omega)
    rw [rsN_out (by omega)] at eB
    rw [eP.1, eB.1, rl_add eP.2 hxw eB.2, nI_1]
    refine ih (v + 1) _ (by omega) (upS_tr hu upS_sJ) ?_
    have e2 : dvV L hd i n tl xw (fun w => x (364 * by' + w)) m (v + 1) = dvV L hd i n tl xw (fun w => x (364 * by' + w)) m v ++ [(P, xw * x (364 * by' + (ofs L m + v)))] := by
      unfold dvV
      rw [List.range_succ, List.map_append, hP]
      rfl
    rw [e2, acL_app, Nat.add_assoc (364 * by') (ofs L m) v]
    exact nums_acc hx hPa
theorem sp_derives {L d n v i xw by' : Nat} {x g : Nat → Nat} {Q : ms_T → Prop} {S0 : ms_T} (h : mt_ok L d S0) (hn : n ≤ d) (hv : v < L ^ n) (hi : i < n) (hxw : xw < PR) (hb : by' < 8) (hx8 : ∀ j, j < 2912 → x j < PR) (hx : nums S0 (rsN x 2912 (ofs L (d + 1)) g))
    (hq : ∀ S, upS S0 S → nums S (rsN x 2912 (ofs L (d + 1)) (acL g (dvI L d n v i xw (fun w => x (364 * by' + w))))) → Q S) : wp_X8_derives S0 (nI (ofs L n + v)) (nI i) (lN xw) (nI by') Q := by
  have hcf := h.1
  have hL := cf_L hcf
  have hd := cf_d hcf
  have hw := cf_w hcf hn hv
  have hbeg : v / L ^ (n - i) < L ^ i := div_pow_lt (by omega) (by omega) hv
  have pe := cf_pow hcf (show n - (i + 1) ≤ d by omega)
  have hend : v % L ^ (n - (i + 1)) < L ^ (n - (i + 1)) := Nat.mod_lt _ pe.1
  have pi' := cf_pow hcf (show i ≤ d by omega)
  refine sp_beginning h hn hv (by omega) ⟨vp_in_nI (by omega) (by omega), ?_⟩
  rw [mt_o h (by omega), pk_sub (Nat.le_add_right _ _), Nat.add_sub_cancel_left]
  rintro _ rfl
  refine ⟨vp_in_nI hw (by omega), ?_⟩
  rw [mt_l h hn hv, show (1 : Int32) = nI 1 from rfl, pk_sub (show 1 ≤ n by omega), pk_sub (show i ≤ n - 1 by omega)]
  rintro _ rfl
  rw [nI_add]
  refine sp_end h hn hv (by omega) ⟨vp_in_nI (by omega) (by omega), ?_⟩
  rw [mt_o h (by omega), show n - 1 - i = n - (i + 1) by omega, pk_sub (Nat.le_add_right _ _), Nat.add_sub_cancel_left]
  rintro _ rfl
  have main : ∀ f m S, m + f = d + 2 - n → upS S0 S → nums S (rsN x 2912 (ofs L (d + 1)) (acL g (dvM L (v / L ^ (n - i)) i (n - (i + 1)) (v % L ^ (n - (i + 1))) xw (fun w => x (364 * by' + w)) m))) → wp_X8_derives_48 Q (f + 1) S (nI i) (lN xw) (nI by') (nI (v / L ^ (n - i))) (nI (n - (i + 1))) (nI (v % L ^ (n - (i + 1)))) (nI m) := by
    intro f
    induction f with
    | zero =>
      intro m S hm hu hxS
      have hmt := mt_up h hu
      rw [show wp_X8_derives_48 Q (0 + 1) = wb_X8_derives_48 (wp_X8_derives_48 Q 0) Q from rfl]
      unfold wb_X8_derives_48
      rw [hmt.2.2.1, nI_add, nI_add]
      refine ⟨fun _ => hq S hu ?_, fun z => absurd (nI_lt (by omega) (by omega)) z⟩
      unfold dvI
      rw [show n - 1 - i = n - (i + 1) by omega, show d + 2 - n = m by omega]
      exact hxS
    | succ f ih =>
      intro m S hm hu hxS
      have hmt := mt_up h hu
      rw [show wp_X8_derives_48 Q (f + 1 + 1) = wb_X8_derives_48 (wp_X8_derives_48 Q (f + 1)) Q from rfl]
      unfold wb_X8_derives_48
      rw [hmt.2.2.1, nI_add, nI_add]
      refine ⟨fun z => absurd z (nI_nlt (by omega) (by omega)), fun _ => ⟨L ^ m + 1, ?_⟩⟩
      refine sp_der_65 (m := m) (g0 := acL g (dvM L (v / L ^ (n - i)) i (n - (i + 1)) (v % L ^ (n - (i + 1))) xw (fun w => x (364 * by' + w)) m)) hmt (by omega) hbeg hend hxw hb hx8 (fun S2 hu2 hx2 => ih (m + 1) S2 (by omega) (upS_tr hu hu2) ?_) (L ^ m) 0 S (by omega) upS_rf hxS
      have e : dvM L (v / L ^ (n - i)) i (n - (i + 1)) (v % L ^ (n - (i + 1))) xw (fun w => x (364 * by' + w)) (m + 1) = dvM L (v / L ^ (n - i)) i (n - (i + 1)) (v % L ^ (n - (i + 1))) xw (fun w => x (364 * by' + w)) m ++ dvV L (v / L ^ (n - i)) i (n - (i + 1)) (v % L ^ (n - (i + 1))) xw (fun w => x (364 * by' + w)) m (L ^ m) := by
        unfold dvM
        rw [List.range_succ, List.flatMap_append]
        simp
      rw [e, acL_app]
      exact hx2
  exact ⟨_, main (d + 2 - n) 0 S0 (by omega) upS_rf hx⟩
theorem sm_derive {L d : Nat} {S : ms_T} {x : Nat → Nat} {r p l q : Int32} {Q : Int32 → ms_T → Prop} (h : mt_ok L d S) (hx : nums S x) (hno : ¬ (isS r ∧ isS p ∧ isS q ∧ 0 ≤ l.toInt ∧ l.toInt < L) → Q (-1) S) (hq : ∀ s a y b S' x', s < 8 → a < 8 → y < L → b < 8 → r = nI s → p = nI a → l = nI y → q = nI b → upS S S' → nums S' x' → agr x' (rsN x (364 * s) (ofs L (d + 1)) (acL (fun _ => 0) (dvA L d y (fun w => x (364 * a + w)) (fun w => x (364 * b + w)) (ofs L (d + 1))))) → Q 0 S') : wp_X8_derive S r p l q Q := by
  refine sm_areSums (fun s a b hs ha hb e1 e2 e3 => ⟨fun z => absurd z (by decide), fun _ => ?_⟩) (fun hn => ⟨fun _ => hno (fun z => hn ⟨z.1, z.2.1, z.2.2.1⟩), fun z => absurd rfl z⟩)
  refine sm_isLetter h (fun y hy e4 => ⟨fun _ => ?_, fun z => absurd z (by decide)⟩) (fun z => ⟨fun q => absurd rfl q, fun _ => hno (fun q => z q.2.2.2)⟩)
  have hq' := hq s a y b
  subst e1 e2 e3 e4
  have hcf := h.1
  have hL := cf_L hcf
  have hd := cf_d hcf
  have hall := cf_all hcf
  refine sn_clears (s := 8) h hx (by decide) (fun S1 hu1 hx1 => ?_)
  have hx8 : ∀ j, j < 2912 → x j < PR := fun j hj => (hx j (by omega)).2
  have main : ∀ k w S2, w + k = ofs L (d + 1) → upS S S2 → nums S2 (rsN x 2912 (ofs L (d + 1)) (acL (fun _ => 0) (dvA L d y (fun w => x (364 * a + w)) (fun w => x (364 * b + w)) w))) → wp_X8_derive_30 Q (k + 1) S2 (nI s) (nI a) (nI y) (nI b) (nI w) := by
    intro k
    induction k with
    | zero =>
      intro w S2 hw hu hx2
      have : w = ofs L (d + 1) := by omega
      subst this
      have h2 := mt_up h hu
      refine ⟨fun _ => ?_, fun z => absurd (by rw [(mt_W h2).1]; exact nI_le (Nat.le_refl _) (by omega)) z⟩
      refine sn_copies (a := 8) h2 hx2 (by omega) (by decide) (fun S3 hu3 hx3 => hq' S3 _ hs ha hy hb rfl rfl rfl rfl (upS_tr hu hu3) hx3 (fun j hj => ?_))
      unfold rsN
      by_cases hc : 364 * s ≤ j ∧ j < 364 * s + ofs L (d + 1)
      · rw [if_pos hc, if_pos hc]
        dsimp only
        rw [if_pos (by omega), show 364 * 8 + (j - 364 * s) - 2912 = j - 364 * s by omega]
      · rw [if_neg hc, if_neg hc, if_neg (by omega)]
    | succ k ih =>
      intro w S2 hw hu hx2
      have h2 := mt_up h hu
      have g1 : wlen L d w ≤ d := wlen_le
      have g2 : ofs L (wlen L d w) ≤ w := wlen_lo
      have g3 : w < ofs L (wlen L d w) + L ^ wlen L d w := wlen_hi (by omega)
      obtain ⟨v, hv⟩ : ∃ v, w = ofs L (wlen L d w) + v := ⟨w - ofs L (wlen L d w), by omega⟩
      have hvl : v < L ^ wlen L d w := by omega
      obtain ⟨n, hne⟩ : ∃ n, n = wlen L d w := ⟨_, rfl⟩
      have hsv : dvA L d y (fun w => x (364 * a + w)) (fun w => x (364 * b + w)) (w + 1) = dvA L d y (fun w => x (364 * a + w)) (fun w => x (364 * b + w)) w ++ (if x (364 * a + w) = 0 then [] else dvW L d y n v (x (364 * a + w)) (fun w => x (364 * b + w)) n) := by
        unfold dvA
        rw [List.range_succ, List.flatMap_append]
        simp only [List.flatMap_cons, List.flatMap_nil, List.append_nil]
        rw [← hne, show w - ofs L n = v by rw [hne]; omega]
      rw [← hne] at hv hvl g1
      have hw364 := cf_w hcf g1 hvl
      have exw := hx2 (364 * a + w) (by omega)
      rw [rsN_out (by omega)] at exw
      refine ⟨fun z => absurd z (by rw [(mt_W h2).1]; exact nI_ge (by omega) (by omega)), fun _ => ⟨by rw [ix]; exact vp_in_nI (by omega) (by omega), ?_⟩⟩
      rw [ix, nI_clamp (by omega), exw.1]
      rintro _ rfl
      obtain ⟨xw, hxwe⟩ : ∃ xw, xw = x (364 * a + w) := ⟨_, rfl⟩
      rw [← hxwe] at exw hsv ⊢
      have done : ∀ S3, upS S S3 → nums S3 (rsN x 2912 (ofs L (d + 1)) (acL (fun _ => 0) (dvA L d y (fun w => x (364 * a + w)) (fun w => x (364 * b + w)) (w + 1)))) → wp_X8_derive_106 (wp_X8_derive_30 Q (k + 1)) Q S3 (nI s) (nI a) (nI y) (nI b) (nI w) := by
        intro S3 hu3 hx3
        rintro _ rfl
        rw [nI_1]
        exact ih (w + 1) S3 (by omega) hu3 hx3
      have inner : ∀ f i S3, i + f = n → upS S S3 → xw ≠ 0 → nums S3 (rsN x 2912 (ofs L (d + 1)) (acL (acL (fun _ => 0) (dvA L d y (fun w => x (364 * a + w)) (fun w => x (364 * b + w)) w)) (dvW L d y n v xw (fun w => x (364 * b + w)) i))) → wp_X8_derive_57 (wp_X8_derive_30 Q (k + 1)) Q (f + 1) S3 (nI s) (nI a) (nI y) (nI b) (nI w) (lN xw) (nI i) := by
        intro f
        induction f with
        | zero =>
          intro i S3 hi hu3 h0 hx3
          have : i = n := by omega
          subst this
          have h3 := mt_up h hu3
          refine ⟨vp_in_nI (by omega) (by omega), ?_⟩
          rw [show S3.2.1 2 (nI w).toNatClampNeg = nI i from by rw [hv]; exact mt_l h3 g1 hvl]
          refine ⟨fun _ => done S3 hu3 ?_, fun z => absurd (nI_le (Nat.le_refl _) (by omega)) z⟩
          rw [hsv, if_neg h0, acL_app]
          exact hx3
        | succ f ih2 =>
          intro i S3 hi hu3 h0 hx3
          have h3 := mt_up h hu3
          refine ⟨vp_in_nI (by omega) (by omega), ?_⟩
          rw [show S3.2.1 2 (nI w).toNatClampNeg = nI n from by rw [hv]; exact mt_l h3 g1 hvl]
          refine ⟨fun z => absurd z (nI_ge (by omega) (by omega)), fun _ => ⟨fun z => absurd ((lN_0 exw.2).mp z) h0, fun _ => ?_⟩⟩
          have hwi : dvW L d y n v xw (fun w => x (364 * b + w)) (i + 1) = dvW L d y n v xw (fun w => x (364 * b + w)) i ++ (if ltr L n v i = y then dvI L d n v i xw (fun w => x (364 * b + w)) else []) := by
            unfold dvW
            rw [List.range_succ, List.flatMap_append]
            simp only [List.flatMap_cons, List.flatMap_nil, List.append_nil]
          have hnext := ih2 (i + 1)
          have hl : ltr L n v i < L := ltr_lt (by omega)
          rw [hv]
          refine sp_letterAt h3 g1 hvl (by omega) ?_
          show (¬ nI (ltr L n v i) = nI y → _) ∧ (nI (ltr L n v i) = nI y → _)
          refine ⟨fun hne2 => ?_, fun he2 => ?_⟩
          · have : ¬ ltr L n v i = y := fun q => hne2 (by rw [q])
            rw [if_neg this, List.append_nil] at hwi
            rintro _ rfl
            rw [nI_1, ← hv]
            refine hnext S3 (by omega) hu3 h0 ?_
            rw [hwi]
            exact hx3
          · have : ltr L n v i = y := (nI_eq (by omega) (by omega)).mp he2
            rw [if_pos this] at hwi
            refine sp_derives h3 g1 hvl (by omega) exw.2 hb hx8 hx3 (fun S4 hu4 hx4 => ?_)
            rintro _ rfl
            rw [nI_1, ← hv]
            refine hnext S4 (by omega) (upS_tr hu3 hu4) h0 ?_
            rw [hwi, acL_app]
            exact hx4
      by_cases h0 : xw = 0
      · refine ⟨1, vp_in_nI (by omega) (by omega), ?_⟩
        rw [show S2.2.1 2 (nI w).toNatClampNeg = nI n from by rw [hv]; exact mt_l h2 g1 hvl]
        have hd0 := done S2 hu (by rw [hsv, if_pos h0, List.append_nil]; exact hx2)
        exact ⟨fun _ => hd0, fun _ => ⟨fun _ => hd0, fun z => absurd ((lN_0 exw.2).mpr h0) z⟩⟩
      · exact ⟨_, inner n 0 S2 (by omega) hu h0 hx2⟩
  exact ⟨_, main (ofs L (d + 1)) 0 S1 (by omega) hu1 hx1⟩
