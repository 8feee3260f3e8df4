/-! the reference's feed, count, relate; size without laws, read of an empty tape -/
def bytI (w : Int64) (k : Nat) : Int64 := (w >>> ((8 * nI k).toInt64 &&& 63)) &&& 255
/-- byte k of a number, from its end -/
def bytN (w : Int64) (k : Nat) : Nat := (bytI w k).toBitVec.toNat
theorem bytN_lt {w : Int64} {k : Nat} : bytN w k < 256 := by
  unfold bytN bytI
  rw [Int64.toBitVec_and, BitVec.toNat_and]
  have : (255 : Int64).toBitVec.toNat = 255 := by decide
  rw [this]
  exact Nat.lt_of_le_of_lt Nat.and_le_right (by decide)
theorem bytI_eq {w : Int64} {k : Nat} : (bytI w k).toInt32 = nI (bytN w k) := by
  have : bytI w k = lN (bytN w k) := by
    apply Int64.toBitVec_inj.mp
    show (bytI w k).toBitVec = BitVec.ofNat 64 (bytN w k)
    unfold bytN
    rw [BitVec.ofNat_toNat]
    simp
  rw [this, lN_i]
/-- the tape: how many bytes, and which -/
def tap (S : ms_T) (t : Nat) (b : Nat → Nat) : Prop := S.1 7 = nI t ∧ t ≤ 100 ∧ ∀ i, i < t → S.2.1 11 i = nI (b i) ∧ b i < 256
/-- only the tape may differ -/
def upT (S S' : ms_T) : Prop := (∀ k, k ≠ 7 → S'.1 k = S.1 k) ∧ (∀ k, k ≠ 11 → S'.2.1 k = S.2.1 k) ∧ S'.2.2 = S.2.2
theorem sm_feed {t : Nat} {b : Nat → Nat} {S : ms_T} {w : Int64} {k : Int32} {Q : Int32 → ms_T → Prop} (h : tap S t b) (hbad : ¬ (1 ≤ k.toInt ∧ k.toInt ≤ 8) → Q (-2) S) (hfull : ∀ n, 1 ≤ n → n ≤ 8 → k = nI n → 100 < t + n → Q (-4) S) (hq : ∀ n S', 1 ≤ n → n ≤ 8 → k = nI n → t + n ≤ 100 → upT S S' → tap S' (t + n) (fun i => if i < t then b i else bytN w (n - 1 - (i - t))) → Q (nI (t + n)) S') : wp_X8_feed S w k Q := by
  obtain ⟨h1, h2, h3⟩ := h
  have e1 : (1 : Int64).toInt = 1 := by decide
  have e8 : (8 : Int64).toInt = 8 := by decide
  refine sp_inI (fun a b' => ⟨fun _ => ?_, fun z => absurd z (by decide)⟩) (fun hn => ⟨fun z => absurd rfl z, fun _ => hbad (fun z => hn (by rw [e1, e8]; exact z))⟩)
  rw [e1] at a
  rw [e8] at b'
  obtain ⟨n, hn31, rfl⟩ := nI_of (x := k) (by rw [i32_lt, show (0 : Int32).toInt = 0 from by decide]; omega)
  rw [nI_i hn31] at a b'
  rw [h1, nI_add, show (100 : Int32) = nI 100 from rfl]
  refine ⟨fun hle => ?_, fun hle => hfull n (by omega) (by omega) rfl ?_⟩
  · have htn : t + n ≤ 100 := (nI_leI (by omega) (by decide)).mp hle
    rintro _ rfl
    have main : ∀ f j S1, j + f = n → upT S S1 → tap S1 (t + j) (fun i => if i < t then b i else bytN w (n - 1 - (i - t))) → wp_X8_feed_34 Q (f + 1) S1 w (nI f - 1) := by
      intro f
      induction f with
      | zero =>
        intro j S1 hj hu ht
        have : j = n := by omega
        subst this
        refine ⟨fun _ => ?_, fun z => absurd (by decide) z⟩
        rw [ht.1]
        exact hq j S1 (by omega) (by omega) rfl htn hu ht
      | succ f ih =>
        intro j S1 hj hu ht
        rw [nI_pred]
        obtain ⟨t1, t2, t3⟩ := ht
        refine ⟨fun z => absurd z (nI_pos (by omega)), fun _ => ⟨by rw [t1]; exact vp_in_nI (by omega) (by omega), ?_⟩⟩
        rintro _ rfl
        rw [show (((w >>> ((8 * nI f).toInt64 &&& 63)) &&& 255).toInt32 : Int32) = nI (bytN w f) from bytI_eq, sI_F, t1, nI_clamp (by omega), nI_1, show nI f + (-1) = nI f - 1 from (Int32.sub_eq_add_neg _ 1).symm]
        refine ih (j + 1) _ (by omega) ⟨fun q hq => ?_, fun q hq => ?_, ?_⟩ ⟨?_, by omega, fun i hi => ?_⟩
        · rw [sF_F, if_neg hq, sI_F]; exact hu.1 q hq
        · rw [sF_I, sI_r hq]; exact hu.2.1 q hq
        · rw [sF_J, sI_J]; exact hu.2.2
        · rw [sF_F, if_pos rfl]; rfl
        · rw [sF_I, sI_g, if_pos rfl]
          by_cases z : i = t + j
          · rw [if_pos z]
            dsimp only
            rw [if_neg (by omega), show n - 1 - (i - t) = f by omega]
            exact ⟨rfl, bytN_lt⟩
          · rw [if_neg z]; exact t3 i (by omega)
    refine ⟨_, main n 0 S (by omega) ⟨fun _ _ => rfl, fun _ _ => rfl, rfl⟩ ⟨h1, h2, fun i hi => ?_⟩⟩
    dsimp only
    rw [if_pos (by omega)]
    exact h3 i (by omega)
  · by_cases z : t + n ≤ 100
    · exact absurd (nI_le z (by decide)) hle
    · omega
theorem sm_count {S : ms_T} {k : Int32} {Q : Int32 → ms_T → Prop} (h0 : k = 0 → Q (S.1 0) S) (h1 : k = 1 → Q (S.1 1) S) (h2 : k = 2 → Q (S.1 2) S) (h3 : k = 3 → Q (S.1 3) S) (h4 : k = 4 → Q (S.1 4) S) (h5 : k = 5 → Q (S.1 5) S) (h6 : k = 6 → Q (S.1 7) S) (hno : ¬ k = 0 ∧ ¬ k = 1 ∧ ¬ k = 2 ∧ ¬ k = 3 ∧ ¬ k = 4 ∧ ¬ k = 5 ∧ ¬ k = 6 → Q (-1) S) : wp_X8_count S k Q := ⟨h0, h1, h2, h3, h4, h5, h6, hno⟩
/-- the length of the last word with a number, and whether lengths differ -/
def rlF (L d : Nat) (g : Nat → Nat) : Nat → Option Nat × Bool
  | 0 => (none, false)
  | w + 1 => if g w = 0 then rlF L d g w else (some (wlen L d w), (rlF L d g w).2 || (decide ((rlF L d g w).1 ≠ none) && decide ((rlF L d g w).1 ≠ some (wlen L d w))))
def oI : Option Nat → Int32
  | none => -1
  | some n => nI n
/-- the laws: how many, their lengths, their numbers -/
def lwp (L d : Nat) (S : ms_T) (k : Nat) (ns : Nat → Nat) (vs : Nat → Nat → Nat) : Prop := S.1 5 = nI k ∧ k ≤ 4 ∧ ∀ i, i < k → S.2.1 9 i = nI (ns i) ∧ ns i ≤ d ∧ ∀ v, v < L ^ ns i → S.2.2 5 (256 * i + v) = lN (vs i v) ∧ vs i v < PR
theorem rlF_le {L d : Nat} {g : Nat → Nat} {n : Nat} : ∀ w, (rlF L d g w).1 = some n → n ≤ d
  | 0, h => by cases h
  | w + 1, h => by
    unfold rlF at h
    by_cases e : g w = 0
    · rw [if_pos e] at h; exact rlF_le w h
    · rw [if_neg e] at h
      have : wlen L d w = n := Option.some.inj h
      rw [← this]; exact wlen_le
/-- one law more -/
def lawS (S : ms_T) (k n : Nat) (f : Nat → Int64) (m : Nat) : ms_T := mJ (ms_sF (ms_sI S 9 k (nI n)) 5 (nI (k + 1))) 5 (rs (S.2.2 5) (256 * k) m f)
theorem sm_relate {L d k : Nat} {S : ms_T} {x : Nat → Nat} {ns : Nat → Nat} {vs : Nat → Nat → Nat} {r : Int32} {Q : Int32 → ms_T → Prop} (h : ck_ok L d S) (hx : nums S x) (hl : lwp L d S k ns vs) (hno : ¬ isS r → Q (-1) S)
    (hst : ∀ s, s < 8 → r = nI s → ((rlF L d (fun w => x (364 * s + w)) (ofs L (d + 1))).1 = none ∨ (rlF L d (fun w => x (364 * s + w)) (ofs L (d + 1))).2 = true) → Q (-3) S)
    (hst2 : ∀ s n S' x', s < 8 → r = nI s → rlF L d (fun w => x (364 * s + w)) (ofs L (d + 1)) = (some n, false) → lieB L d (shA L d (fun w => x (364 * s + w)) (ofs L (d + 1))) (ofs L (d + 1)) = false → upX S S' → nums S' x' → agr x' x → Q (-3) S')
    (hfull : ∀ s n S' x', s < 8 → r = nI s → rlF L d (fun w => x (364 * s + w)) (ofs L (d + 1)) = (some n, false) → lieB L d (shA L d (fun w => x (364 * s + w)) (ofs L (d + 1))) (ofs L (d + 1)) = true → k = 4 → upX S S' → nums S' x' → agr x' x → Q (-4) S')
    (hq : ∀ s n S1 S' x', s < 8 → r = nI s → rlF L d (fun w => x (364 * s + w)) (ofs L (d + 1)) = (some n, false) → lieB L d (shA L d (fun w => x (364 * s + w)) (ofs L (d + 1))) (ofs L (d + 1)) = true → k < 4 → upX S S1 → S'.2.2 0 = S1.2.2 0 → (∀ q, q ≠ 5 → S'.1 q = S1.1 q) → (∀ q, q ≠ 9 → S'.2.1 q = S1.2.1 q) → (∀ q, q ≠ 5 → S'.2.2 q = S1.2.2 q) → nums S' x' → agr x' x → lwp L d S' (k + 1) (fun i => if i = k then n else ns i) (fun i => if i = k then fun v => x (364 * s + (ofs L n + v)) else vs i) → Q (nI k) S') : wp_X8_relate S r Q := by
  have hcf := h.1.1
  have hd := cf_d hcf
  have hall := cf_all hcf
  refine sm_isSum (fun s hs e => ⟨fun _ => ?_, fun z => absurd z (by decide)⟩) (fun hn => ⟨fun z => absurd rfl z, fun _ => hno hn⟩)
  have hst' := hst s hs e
  have hst2' := hst2 s
  have hfull' := hfull s
  have hq' := hq s
  subst e
  obtain ⟨g, hg⟩ : ∃ g : Nat → Nat, g = fun w => x (364 * s + w) := ⟨_, rfl⟩
  rw [← hg] at hst' hst2' hfull' hq'
  have hgw : ∀ w, w < 364 → S.2.2 0 (364 * s + w) = lN (g w) ∧ g w < PR := fun w hw => by rw [hg]; exact hx _ (by omega)
  have main : ∀ f w, w + f = ofs L (d + 1) → wp_X8_relate_16 Q (f + 1) S (nI s) (oI (rlF L d g w).1) (b01 (rlF L d g w).2) (nI w) := by
    intro f
    induction f with
    | zero =>
      intro w hw
      have : w = ofs L (d + 1) := by omega
      subst this
      refine ⟨fun _ => ?_, fun z => absurd (by rw [(mt_W h.1).1]; exact nI_le (Nat.le_refl _) (by omega)) z⟩
      rcases hr : rlF L d g (ofs L (d + 1)) with ⟨o, b⟩
      rw [hr] at hst' hst2' hfull' hq'
      have hle : ∀ n, (rlF L d g (ofs L (d + 1))).1 = some n → n ≤ d := fun n => rlF_le _
      rw [hr] at hle
      refine ⟨fun hz => hst' (Or.inl ?_), fun hz => ⟨fun hb => hst' (Or.inr (b01_1 hb)), fun hb => ?_⟩⟩
      · cases o with
        | none => rfl
        | some n => exact absurd hz (nI_m1 (by have := hle n rfl; omega))
      · cases o with
        | none => exact absurd rfl hz
        | some n =>
          have hb' : b = false := b01_0 hb
          subst hb'
          have hnd : n ≤ d := hle n rfl
          have hp := cf_pow hcf hnd
          refine sp_isLie h hx (by omega) (fun S1 x1 hu1 hx1 ha1 => ?_)
          rw [← hg]
          have hk1 := ck_upX h hu1
          obtain ⟨l1, l2, l3⟩ := hl
          have f5 : S1.1 5 = nI k := by rw [hu1.1]; exact l1
          refine ⟨fun hz1 => ?_, fun hz1 => hst2' n S1 x1 hs rfl rfl (b01_0 hz1) hu1 hx1 ha1⟩
          have hlt := b01_1 hz1
          rw [f5]
          refine ⟨fun hne => ⟨vp_in_nI ?_ (by omega), ?_⟩, fun he => hfull' n S1 x1 hs rfl rfl hlt ((nI_eq (by omega) (by decide)).mp (show nI k = nI 4 from he)) hu1 hx1 ha1⟩
          · by_cases z : k = 4
            · exact absurd (by rw [z]; rfl) hne
            · omega
          have hk4 : k < 4 := by
            by_cases z : k = 4
            · exact absurd (by rw [z]; rfl) hne
            · omega
          rw [nI_clamp (by omega)]
          show ∃ m : Nat, wp_X8_relate_127 Q m (ms_sI S1 9 k (nI n)) (nI s) (nI n) 0
          have inner : ∀ f v, v + f = L ^ n → wp_X8_relate_127 Q (f + 1) (mJ (ms_sI S1 9 k (nI n)) 5 (rs (S1.2.2 5) (256 * k) v (fun v => lN (x (364 * s + (ofs L n + v)))))) (nI s) (nI n) (nI v) := by
            intro f
            induction f with
            | zero =>
              intro v hv
              have : v = L ^ n := by omega
              subst this
              have hm : mt_ok L d (mJ (ms_sI S1 9 k (nI n)) 5 (rs (S1.2.2 5) (256 * k) (L ^ n) (fun v => lN (x (364 * s + (ofs L n + v)))))) := mt_mJ (mt_sI (by omega) hk1.1)
              refine ⟨vp_in_nI (by omega) (by omega), ?_⟩
              rw [mt_p hm (by omega)]
              refine ⟨fun _ => ?_, fun z => absurd (nI_le (Nat.le_refl _) (by omega)) z⟩
              rw [show (mJ (ms_sI S1 9 k (nI n)) 5 (rs (S1.2.2 5) (256 * k) (L ^ n) (fun v => lN (x (364 * s + (ofs L n + v)))))).1 5 = nI k from f5, nI_1, sF_F, if_pos rfl, nI_pred]
              refine hq' n S1 _ x1 hs rfl rfl hlt hk4 hu1 ?_ (fun q hq => ?_) (fun q hq => ?_) (fun q hq => ?_) (fun j hj => ?_) ha1 ⟨?_, by omega, fun i hi => ?_⟩
              · rw [sF_J, mJ_J, if_neg (by decide)]; rfl
              · rw [sF_F, if_neg hq]; rfl
              · rw [sF_I, mJ_I, sI_r hq]
              · rw [sF_J, mJ_J, if_neg hq]; rfl
              · rw [sF_J, mJ_J, if_neg (by decide)]; exact hx1 j hj
              · rw [sF_F, if_pos rfl]
              · rw [sF_I, sF_J, mJ_I, mJ_g, sI_g, if_pos rfl]
                dsimp only
                by_cases z : i = k
                · rw [if_pos z, if_pos z, if_pos z]
                  refine ⟨rfl, hnd, fun v hv => ?_⟩
                  have hvw := cf_w hcf hnd hv
                  rw [z, rs_in hv]
                  exact ⟨rfl, (hx _ (by omega)).2⟩
                · rw [if_neg z, if_neg z, if_neg z, hu1.2.1]
                  obtain ⟨m1, m2, m3⟩ := l3 i (by omega)
                  have pi' := cf_pow hcf m2
                  refine ⟨m1, m2, fun v hv => ?_⟩
                  rw [rs_out (by omega), hu1.2.2.2 5 (by decide)]
                  exact m3 v hv
            | succ f ih2 =>
              intro v hv
              have hm : mt_ok L d (mJ (ms_sI S1 9 k (nI n)) 5 (rs (S1.2.2 5) (256 * k) v (fun v => lN (x (364 * s + (ofs L n + v)))))) := mt_mJ (mt_sI (by omega) hk1.1)
              have hvw := cf_w hcf hnd (show v < L ^ n by omega)
              refine ⟨vp_in_nI (by omega) (by omega), ?_⟩
              rw [mt_p hm (by omega)]
              refine ⟨fun z => absurd z (nI_ge (by omega) (by omega)), fun _ => ⟨vp_in_nI (by omega) (by omega), ?_⟩⟩
              have ex : (mJ (ms_sI S1 9 k (nI n)) 5 (rs (S1.2.2 5) (256 * k) v (fun v => lN (x (364 * s + (ofs L n + v)))))).2.2 0 (364 * s + ofs L n + v) = lN (x (364 * s + (ofs L n + v))) := by
                rw [mJ_J, if_neg (by decide), sI_J, (hx1 _ (by omega)).1, ha1 _ (by omega), Nat.add_assoc]
              rw [mt_o hm (by omega), ix, nI_add, show (mJ (ms_sI S1 9 k (nI n)) 5 (rs (S1.2.2 5) (256 * k) v (fun v => lN (x (364 * s + (ofs L n + v)))))).1 5 = nI k from f5, show (256 : Int32) = nI 256 from rfl, pk_mul, nI_add, nI_clamp (show 364 * s + ofs L n + v < 2 ^ 31 by omega), nI_clamp (show 256 * k + v < 2 ^ 31 by omega), ex, mJ_s]
              refine ⟨vp_in_nI (by omega) (by omega), vp_in_nI (by omega) (by omega), ?_⟩
              rintro _ rfl
              rw [nI_1, rs_succ (f := fun v => lN (x (364 * s + (ofs L n + v))))]
              exact ih2 (v + 1) (by omega)
          have h0 := inner (L ^ n) 0 (by omega)
          rw [rs_0] at h0
          have e5 : mJ (ms_sI S1 9 k (nI n)) 5 (S1.2.2 5) = ms_sI S1 9 k (nI n) := mJ_self (S := ms_sI S1 9 k (nI n)) (k := 5)
          rw [e5] at h0
          exact ⟨_, h0⟩
    | succ f ih =>
      intro w hw
      have hl' : wlen L d w ≤ d := wlen_le
      have el : S.2.1 2 w = nI (wlen L d w) := mt_len h.1 (by omega)
      have hnext := ih (w + 1) (by omega)
      refine ⟨fun z => absurd z (by rw [(mt_W h.1).1]; exact nI_ge (by omega) (by omega)), fun _ => ?_⟩
      rw [ix, nI_clamp (show 364 * s + w < 2 ^ 31 by omega), (hgw w (by omega)).1]
      unfold rlF at hnext
      refine ⟨vp_in_nI (by omega) (by omega), fun h0 => ?_, fun h0 => ?_⟩
      · rw [if_pos ((lN_0 (hgw w (by omega)).2).mp h0)] at hnext
        rintro _ rfl
        rw [nI_1]
        exact hnext
      · rw [if_neg (fun q => h0 ((lN_0 (hgw w (by omega)).2).mpr q))] at hnext
        have hle : ∀ n, (rlF L d g w).1 = some n → n ≤ d := fun n => rlF_le _
        rcases hr : rlF L d g w with ⟨o, b⟩
        rw [hr] at hnext hle
        have go : ∀ bb, (b || (decide (o ≠ none) && decide (o ≠ some (wlen L d w)))) = bb → wp_X8_relate_68 (wp_X8_relate_16 Q (f + 1)) Q S (nI s) (nI w) (b01 bb) := by
          intro bb hbb
          refine ⟨vp_in_nI (by omega) (by omega), ?_⟩
          rw [nI_clamp (show w < 2 ^ 31 by omega), el]
          rintro _ rfl _ rfl
          rw [nI_1, ← hbb]
          exact hnext
        refine ⟨fun hb => ?_, fun hb => ⟨fun ho => ?_, fun ho => ⟨vp_in_nI (by omega) (by omega), ?_⟩⟩⟩
        · exact go true (by rw [show b = true from b01_1 hb]; rfl)
        · have : o = none := by
            cases o with
            | none => rfl
            | some n => exact absurd ho (nI_m1 (by have := hle n rfl; omega))
          exact go false (by rw [show b = false from b01_0 hb, this]; rfl)
        · rw [nI_clamp (show w < 2 ^ 31 by omega), el]
          cases o with
          | none => exact absurd rfl ho
          | some n =>
            have hnd : n ≤ d := hle n rfl
            refine ⟨fun he => go false ?_, fun he => go true ?_⟩
            · have : n = wlen L d w := (nI_eq (by omega) (by omega)).mp he
              rw [show b = false from b01_0 hb, this]
              simp
            · have : ¬ n = wlen L d w := fun q => he (by rw [q]; rfl)
              rw [show b = false from b01_0 hb]
              simp [this]
  exact ⟨_, main (ofs L (d + 1)) 0 (by omega)⟩
