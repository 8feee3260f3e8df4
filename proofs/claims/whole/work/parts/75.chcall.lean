/-! the reference's calls on chiefs: lyndon, lyndons, side, basis, text -/
def ck_ok (L d : Nat) (S : ms_T) : Prop := mt_ok L d S ∧ S.1 3 = nI (cnt L d (ofs L (d + 1))) ∧ (∀ n v, 1 ≤ n → n ≤ d → v < L ^ n → (chf L n v = true → rowOK L d n v S) ∧ (chf L n v = false → S.2.1 7 (ofs L n + v) = -1)) ∧ S.2.1 7 0 = -1
theorem ofs_all {L d n v : Nat} (hn : n ≤ d) (hv : v < L ^ n) : ofs L n + v < ofs L (d + 1) := by
  have z1 : ofs L (n + 1) ≤ ofs L (d + 1) := ofs_mono (by omega)
  have z2 : ofs L (n + 1) = ofs L n + L ^ n := rfl
  omega
theorem ck_of {L d : Nat} {S : ms_T} (h : mk_ok L d S) : ck_ok L d S := ⟨h.1.1, h.1.2.1, fun n v a b c => h.1.2.2.1 n v a b c (ofs_all b c), h.2⟩
theorem ck_up {L d : Nat} {S S' : ms_T} (h : ck_ok L d S) (hu : upS S S') : ck_ok L d S' := by
  obtain ⟨h1, h2, h3, h4⟩ := h
  obtain ⟨u1, u2, u3⟩ := id hu
  have u31 := u3 1 (by decide)
  refine ⟨mt_up h1 hu, by rw [u1]; exact h2, fun n v a b c => ?_, by rw [u2]; exact h4⟩
  unfold rowOK
  rw [u2, u31]
  exact h3 n v a b c
theorem chief_ex {L d i : Nat} : ∀ w, w ≤ ofs L (d + 1) → i < cnt L d w → ∃ n v, 1 ≤ n ∧ n ≤ d ∧ v < L ^ n ∧ chf L n v = true ∧ ofs L n + v < w ∧ cnt L d (ofs L n + v) = i
  | 0, _, h => by exact absurd h (Nat.not_lt_zero _)
  | w + 1, hw, h => by
    by_cases hi : i < cnt L d w
    · obtain ⟨n, v, a1, a2, a3, a4, a5, a6⟩ := chief_ex w (by omega) hi
      exact ⟨n, v, a1, a2, a3, a4, by omega, a6⟩
    · have e : cnt L d (w + 1) = cnt L d w + (if cfP L d w = true then 1 else 0) := rfl
      by_cases hc : cfP L d w = true
      · rw [if_pos hc] at e
        have g1 : wlen L d w ≤ d := wlen_le
        have g2 : ofs L (wlen L d w) ≤ w := wlen_lo
        have g3 : w < ofs L (wlen L d w) + L ^ wlen L d w := wlen_hi (by omega)
        have hc' := hc
        unfold cfP at hc'
        rw [Bool.and_eq_true, decide_eq_true_eq] at hc'
        refine ⟨wlen L d w, w - ofs L (wlen L d w), ?_, g1, by omega, hc'.2, by omega, ?_⟩
        · by_cases z : wlen L d w = 0
          · rw [z, Nat.pow_zero] at g3
            have : ofs L 0 = 0 := rfl
            omega
          · omega
        · rw [show ofs L (wlen L d w) + (w - ofs L (wlen L d w)) = w by omega]; omega
      · rw [if_neg hc] at e
        omega
theorem sm_isNumber {L d : Nat} {S : ms_T} {i : Int32} {Q : Int32 → ms_T → Prop} (h : ck_ok L d S) (h1 : ∀ n v, 1 ≤ n → n ≤ d → v < L ^ n → chf L n v = true → i = nI (cnt L d (ofs L n + v)) → Q 1 S) (h0 : ¬ (0 ≤ i.toInt ∧ i.toInt < cnt L d (ofs L (d + 1))) → Q 0 S) : wp_X8_isNumber S i Q := by
  have h99 : cnt L d (ofs L (d + 1)) ≤ 98 := cnt_99 h.1.1 (Nat.le_refl _)
  have hc1 : 1 ≤ cnt L d (ofs L (d + 1)) := by
    have hd := cf_d h.1.1
    have hL := cf_L h.1.1
    have := cnt_lt (L := L) (d := d) (n := 1) (v := 0) (b := ofs L (d + 1)) (Nat.le_refl 1) (by omega) (Nat.pow_pos (by omega)) chf_1 (ofs_all (by omega) (Nat.pow_pos (by omega)))
    omega
  have e0 : (0 : Int64).toInt = 0 := by decide
  have e1 : ((S.1 3) - 1).toInt64.toInt = (cnt L d (ofs L (d + 1)) : Int) - 1 := by
    rw [h.2.1, show (1 : Int32) = nI 1 from rfl, pk_sub hc1, Int32.toInt_toInt64, nI_i (by omega)]
    omega
  refine sp_inI (fun a b => ⟨Or.inr rfl, ?_⟩) (fun hn => ⟨Or.inl rfl, h0 (fun z => hn ?_)⟩)
  · rw [e0] at a
    rw [e1] at b
    obtain ⟨k, hk, rfl⟩ := nI_of (x := i) (by rw [i32_lt, show (0 : Int32).toInt = 0 from by decide]; omega)
    rw [nI_i hk] at b
    obtain ⟨n, v, a1, a2, a3, a4, a5, a6⟩ := chief_ex (L := L) (d := d) (i := k) (ofs L (d + 1)) (Nat.le_refl _) (by omega)
    exact h1 n v a1 a2 a3 a4 (by rw [a6])
  · rw [e0, e1]; omega
def cdN (L n v : Nat) : Nat → Nat
  | 0 => 0
  | i + 1 => 8 * cdN L n v i + ltr L n v i + 1
theorem cdN_lt {L n v : Nat} (h0 : 1 ≤ L) (hL : L ≤ 4) : ∀ i, cdN L n v i < 8 ^ i
  | 0 => by rw [Nat.pow_zero]; exact Nat.zero_lt_one
  | i + 1 => by
    have h1 := cdN_lt (n := n) (v := v) h0 hL i
    have h2 : ltr L n v i < L := ltr_lt h0
    show 8 * cdN L n v i + ltr L n v i + 1 < 8 ^ (i + 1)
    rw [Nat.pow_succ]
    omega
theorem sp_codeOf {L d n v : Nat} {S : ms_T} {Q : Int32 → ms_T → Prop} (h : mt_ok L d S) (hn : n ≤ d) (hv : v < L ^ n) (hq : Q (nI (cdN L n v n)) S) : wp_X8_codeOf S (nI (ofs L n + v)) Q := by
  have hL := cf_L h.1
  have hd := cf_d h.1
  have hw := cf_w h.1 hn hv
  have e1 := mt_l h hn hv
  have main : ∀ m k, k + m = n → wp_X8_codeOf_4 Q (m + 1) S (nI (ofs L n + v)) (nI (cdN L n v k)) (nI k) := by
    intro m
    induction m with
    | zero =>
      intro k hk
      have : k = n := by omega
      subst this
      refine ⟨vp_in_nI hw (by omega), ?_⟩
      rw [e1]
      exact ⟨fun _ => hq, fun z => absurd (nI_le (Nat.le_refl _) (by omega)) z⟩
    | succ m ih =>
      intro k hk
      refine ⟨vp_in_nI hw (by omega), ?_⟩
      rw [e1]
      refine ⟨fun z => absurd z (nI_ge (by omega) (by omega)), fun _ => sp_letterAt h hn hv (by omega) ?_⟩
      rintro _ rfl _ rfl
      rw [show (8 : Int32) = nI 8 from rfl, pk_mul, nI_add, nI_1, nI_1]
      exact ih (k + 1) (by omega)
  exact ⟨_, main n 0 (by omega)⟩
theorem ck_row {L d n v : Nat} {S : ms_T} (h : ck_ok L d S) (h1 : 1 ≤ n) (hn : n ≤ d) (hv : v < L ^ n) (hc : chf L n v = true) : rowOK L d n v S ∧ cnt L d (ofs L n + v) ≤ 98 := ⟨(h.2.2.1 n v h1 hn hv).1 hc, cnt_99 h.1.1 (Nat.le_of_lt (ofs_all hn hv))⟩
theorem sm_lyndon {L d : Nat} {S : ms_T} {i : Int32} {Q : Int32 → ms_T → Prop} (h : ck_ok L d S) (hno : ¬ (0 ≤ i.toInt ∧ i.toInt < cnt L d (ofs L (d + 1))) → Q (-1) S) (hq : ∀ n v, 1 ≤ n → n ≤ d → v < L ^ n → chf L n v = true → i = nI (cnt L d (ofs L n + v)) → Q (nI (cdN L n v n)) S) : wp_X8_lyndon S i Q := by
  refine sm_isNumber h (fun n v a1 a2 a3 a4 e => ⟨fun z => absurd z (by decide), fun _ => ?_⟩) (fun z => ⟨fun _ => hno z, fun q => absurd rfl q⟩)
  obtain ⟨r, h99⟩ := ck_row h a1 a2 a3 a4
  have hq' := hq n v a1 a2 a3 a4 e
  subst e
  refine ⟨vp_in_nI (by omega) (by omega), ?_⟩
  rw [nI_clamp (by omega), r.2.1]
  exact sp_codeOf h.1 a2 a3 hq'
/-- how many chiefs of length n stand ahead of a place -/
def cntn (L d n : Nat) : Nat → Nat
  | 0 => 0
  | w + 1 => cntn L d n w + (if cfP L d w = true ∧ wlen L d w = n then 1 else 0)
theorem cntn_eq {L d n a : Nat} : ∀ b, a ≤ b → cnt L d a = cnt L d b → cntn L d n a = cntn L d n b
  | 0, h, _ => by have : a = 0 := by omega
                  subst this; rfl
  | b + 1, h, he => by
    by_cases e : a = b + 1
    · rw [e]
    · have h1 : cnt L d a ≤ cnt L d b := cnt_mono (by omega)
      have h2 : cnt L d (b + 1) = cnt L d b + (if cfP L d b = true then 1 else 0) := rfl
      have hc : ¬ cfP L d b = true := fun z => by rw [if_pos z] at h2; omega
      rw [if_neg hc] at h2
      rw [cntn_eq b (by omega) (by omega)]
      show _ = cntn L d n b + _
      rw [if_neg (fun z => hc z.1)]; rfl
theorem cntn_eq' {L d n a b : Nat} (he : cnt L d a = cnt L d b) : cntn L d n a = cntn L d n b := by
  rcases Nat.le_total a b with q | q
  · exact cntn_eq b q he
  · exact (cntn_eq a q he.symm).symm
theorem cntn_le {L d n : Nat} : ∀ w, cntn L d n w ≤ w
  | 0 => Nat.le_refl 0
  | w + 1 => by
    have := cntn_le (L := L) (d := d) (n := n) w
    show cntn L d n w + _ ≤ w + 1
    by_cases e : cfP L d w = true ∧ wlen L d w = n
    · rw [if_pos e]; omega
    · rw [if_neg e]; omega
theorem sp_manyOf {L d n : Nat} {S : ms_T} {Q : Int32 → ms_T → Prop} (h : ck_ok L d S) (hn : n ≤ d) (hq : Q (nI (cntn L d n (ofs L (d + 1)))) S) : wp_X8_manyOf S (nI n) Q := by
  have hd := cf_d h.1.1
  have h99 : cnt L d (ofs L (d + 1)) ≤ 98 := cnt_99 h.1.1 (Nat.le_refl _)
  have hall := cf_all h.1.1
  have main : ∀ k i w, i + k = cnt L d (ofs L (d + 1)) → cnt L d w = i → w ≤ ofs L (d + 1) → wp_X8_manyOf_4 Q (k + 1) S (nI n) (nI (cntn L d n w)) (nI i) := by
    intro k
    induction k with
    | zero =>
      intro i w hk hi hw
      refine ⟨fun _ => ?_, fun z => absurd (by rw [h.2.1]; exact nI_le (by omega) (by omega)) z⟩
      rw [cntn_eq' (show cnt L d w = cnt L d (ofs L (d + 1)) by omega)]
      exact hq
    | succ k ih =>
      intro i w hk hi hw
      obtain ⟨m, v, a1, a2, a3, a4, a5, a6⟩ := chief_ex (L := L) (d := d) (i := i) (ofs L (d + 1)) (Nat.le_refl _) (by omega)
      obtain ⟨r, -⟩ := ck_row h a1 a2 a3 a4
      have hwm := cf_w h.1.1 a2 a3
      refine ⟨fun z => absurd z (by rw [h.2.1]; exact nI_ge (by omega) (by omega)), fun _ => ⟨vp_in_nI (by omega) (by omega), ?_⟩⟩
      rw [nI_clamp (show i < 2 ^ 31 by omega)]
      have r2 := r.2.1
      rw [a6] at r2
      rw [r2, mt_l h.1 a2 a3]
      refine ⟨vp_in_nI hwm (by omega), ?_⟩
      have hs : cnt L d (ofs L m + v + 1) = i + 1 := by rw [cnt_step a1 a2 a3, if_pos a4, a6]
      have he : cntn L d n w = cntn L d n (ofs L m + v) := cntn_eq' (by omega)
      have hst : cntn L d n (ofs L m + v + 1) = cntn L d n (ofs L m + v) + (if m = n then 1 else 0) := by
        show cntn L d n (ofs L m + v) + _ = _
        rw [cfP_of a1 a2 a3, wlen_of a2 a3]
        by_cases z : m = n
        · rw [if_pos ⟨a4, z⟩, if_pos z]
        · rw [if_neg (fun q => z q.2), if_neg z]
      refine ⟨fun hne => ?_, fun heq => ?_⟩
      · rintro _ rfl _ rfl
        have z : ¬ m = n := fun q => hne (by rw [q])
        rw [if_neg z] at hst
        rw [he, nI_1, show (0 : Int32) = nI 0 from rfl, nI_add, ← hst]
        exact ih (i + 1) _ (by omega) hs (by omega)
      · rintro _ rfl _ rfl
        have z : m = n := (nI_eq (by omega) (by omega)).mp heq
        rw [if_pos z] at hst
        rw [he, nI_1, nI_1, ← hst]
        exact ih (i + 1) _ (by omega) hs (by omega)
  exact ⟨_, main (cnt L d (ofs L (d + 1))) 0 0 (by omega) rfl (Nat.zero_le _)⟩
theorem sm_lyndons {L d : Nat} {S : ms_T} {k : Int32} {Q : Int32 → ms_T → Prop} (h : ck_ok L d S) (hno : ¬ (1 ≤ k.toInt ∧ k.toInt ≤ d) → Q (-1) S) (hq : ∀ n, 1 ≤ n → n ≤ d → k = nI n → Q (nI (cntn L d n (ofs L (d + 1)))) S) : wp_X8_lyndons S k Q := by
  have hd := cf_d h.1.1
  have e1 : (1 : Int64).toInt = 1 := by decide
  have ed : (S.1 1).toInt64.toInt = d := by rw [h.1.2.2.1, Int32.toInt_toInt64, nI_i (by omega)]
  refine sp_inI (fun a b => ⟨fun z => absurd z (by decide), fun _ => ?_⟩) (fun hn => ⟨fun _ => hno (fun z => hn (by rw [e1, ed]; exact z)), fun z => absurd rfl z⟩)
  rw [e1] at a
  rw [ed] at b
  obtain ⟨n, hk, rfl⟩ := nI_of (x := k) (by rw [i32_lt, show (0 : Int32).toInt = 0 from by decide]; omega)
  rw [nI_i hk] at a b
  exact sp_manyOf h (by omega) (hq n (by omega) (by omega) rfl)
/-- left (0) or right (1) side of the chief, as an answer -/
def sideI (L d n v w : Nat) : Int32 := if n = 1 then -1 else if w = 0 then nI (cnt L d (lfP L n v)) else nI (cnt L d (rgP L n v))
theorem sm_side {L d : Nat} {S : ms_T} {i k : Int32} {Q : Int32 → ms_T → Prop} (h : ck_ok L d S) (hno : ¬ (0 ≤ i.toInt ∧ i.toInt < cnt L d (ofs L (d + 1)) ∧ 0 ≤ k.toInt ∧ k.toInt ≤ 1) → Q (-1) S) (hq : ∀ n v w, 1 ≤ n → n ≤ d → v < L ^ n → chf L n v = true → w < 2 → i = nI (cnt L d (ofs L n + v)) → k = nI w → Q (sideI L d n v w) S) : wp_X8_side S i k Q := by
  refine sm_isNumber h (fun n v a1 a2 a3 a4 e => ⟨fun z => absurd z (by decide), fun _ => ?_⟩) (fun z => ⟨fun _ => hno (fun q => z ⟨q.1, q.2.1⟩), fun q => absurd rfl q⟩)
  have e0 : (0 : Int64).toInt = 0 := by decide
  have e1 : (1 : Int64).toInt = 1 := by decide
  obtain ⟨r, h99⟩ := ck_row h a1 a2 a3 a4
  refine sp_inI (fun a b => ⟨fun z => absurd z (by decide), fun _ => ?_⟩) (fun hn => ⟨fun _ => hno (fun z => hn (by rw [e0, e1]; exact z.2.2)), fun z => absurd rfl z⟩)
  rw [e0] at a
  rw [e1] at b
  obtain ⟨w, hk, rfl⟩ := nI_of (x := k) (by rw [i32_lt, show (0 : Int32).toInt = 0 from by decide]; omega)
  rw [nI_i hk] at b
  have hq' := hq n v w a1 a2 a3 a4 (by omega) e rfl
  subst e
  unfold sideI at hq'
  rw [nI_clamp (by omega)]
  refine ⟨fun hne => ⟨vp_in_nI (by omega) (by omega), ?_⟩, fun he => ⟨vp_in_nI (by omega) (by omega), ?_⟩⟩
  · have hw : w = 1 := by
      by_cases z : w = 0
      · exact absurd (by rw [z]; rfl) hne
      · omega
    by_cases z : n = 1
    · rw [if_pos z] at hq'; rw [(r.2.2.2.1 z).2]; exact hq'
    · rw [if_neg z, if_neg (by omega)] at hq'; rw [(r.2.2.2.2.1 (by omega)).2]; exact hq'
  · have hw : w = 0 := (nI_eq (by omega) (by decide)).mp (show nI w = nI 0 from he)
    by_cases z : n = 1
    · rw [if_pos z] at hq'; rw [(r.2.2.2.1 z).1]; exact hq'
    · rw [if_neg z, if_pos hw] at hq'; rw [(r.2.2.2.2.1 (by omega)).1]; exact hq'
def basisX (L d : Nat) (x : Nat → Nat) (s n v : Nat) : Nat → Nat := rsN (rsN x (364 * s) (ofs L (d + 1)) (fun _ => 0)) (364 * s + ofs L n) (L ^ n) (bas L n n v)
theorem sm_basis {L d : Nat} {S : ms_T} {x : Nat → Nat} {r i : Int32} {Q : Int32 → ms_T → Prop} (h : ck_ok L d S) (hx : nums S x) (hno : ¬ (isS r ∧ 0 ≤ i.toInt ∧ i.toInt < cnt L d (ofs L (d + 1))) → Q (-1) S) (hq : ∀ s n v S', s < 8 → r = nI s → 1 ≤ n → n ≤ d → v < L ^ n → chf L n v = true → i = nI (cnt L d (ofs L n + v)) → upS S S' → nums S' (basisX L d x s n v) → Q 0 S') : wp_X8_basis S r i Q := by
  refine sm_isSum (fun s hs e1 => ⟨fun z => absurd z (by decide), fun _ => ?_⟩) (fun hn => ⟨fun _ => hno (fun z => hn z.1), fun z => absurd rfl z⟩)
  refine sm_isNumber h (fun n v a1 a2 a3 a4 e => ⟨fun _ => ?_, fun z => absurd z (by decide)⟩) (fun z => ⟨fun q => absurd rfl q, fun _ => hno (fun q => z q.2)⟩)
  have hd := cf_d h.1.1
  have hw := cf_w h.1.1 a2 a3
  have hp := cf_pow h.1.1 a2
  have hql := hq s n v
  obtain ⟨c, hce⟩ : ∃ c, c = cnt L d (ofs L n + v) := ⟨_, rfl⟩
  rw [← hce] at e
  subst e1 e
  refine sn_clears h.1 hx (by omega) (fun S1 hu1 hx1 => ?_)
  have h1 := ck_up h hu1
  obtain ⟨rr, h99⟩ := ck_row h1 a1 a2 a3 a4
  unfold rowOK at rr
  rw [← hce] at rr h99
  refine ⟨vp_in_nI (by omega) (by omega), ?_⟩
  rw [nI_clamp (show c < 2 ^ 31 by omega), rr.2.1, mt_l h1.1 a2 a3]
  refine ⟨vp_in_nI hw (by omega), ?_⟩
  rintro _ rfl
  have main : ∀ k u S2, u + k = L ^ n → upS S1 S2 → nums S2 (rsN (rsN x (364 * s) (ofs L (d + 1)) (fun _ => 0)) (364 * s + ofs L n) u (bas L n n v)) → wp_X8_basis_37 Q (k + 1) S2 (nI s) (nI c) (nI n) (nI u) := by
    intro k
    induction k with
    | zero =>
      intro u S2 hk hu2 hx2
      have : u = L ^ n := by omega
      subst this
      have h2 := ck_up h1 hu2
      refine ⟨vp_in_nI (by omega) (by omega), ?_⟩
      rw [mt_p h2.1 (by omega)]
      exact ⟨fun _ => hql S2 hs rfl a1 a2 a3 a4 (by rw [hce]) (upS_tr hu1 hu2) hx2, fun z => absurd (nI_le (Nat.le_refl _) (by omega)) z⟩
    | succ k ih =>
      intro u S2 hk hu2 hx2
      have h2 := ck_up h1 hu2
      have hwu := cf_w h.1.1 a2 (show u < L ^ n by omega)
      refine ⟨vp_in_nI (by omega) (by omega), ?_⟩
      rw [mt_p h2.1 (by omega), mt_o h2.1 (by omega)]
      refine ⟨fun z => absurd z (nI_ge (by omega) (by omega)), fun _ => ⟨vp_in_nI (by omega) (by omega), ?_⟩⟩
      rw [show (256 : Int32) = nI 256 from rfl, pk_mul, nI_add, ix, nI_add, nI_clamp (show 256 * c + u < 2 ^ 31 by omega), nI_clamp (show 364 * s + ofs L n + u < 2 ^ 31 by omega)]
      refine ⟨vp_in_nI (by omega) (by omega), vp_in_nI (by omega) (by omega), ?_⟩
      rintro _ rfl
      rw [hu2.2.2 1 (by decide), rr.2.2.2.2.2 u (by omega), nI_1]
      have hx3 := nums_one (i := 364 * s + ofs L n + u) hx2 (bas_lt (L := L) n n v u)
      refine ih (u + 1) _ (by omega) (upS_tr hu2 upS_sJ) ?_
      have ex : rsN (rsN (rsN x (364 * s) (ofs L (d + 1)) (fun _ => 0)) (364 * s + ofs L n) u (bas L n n v)) (364 * s + ofs L n + u) 1 (fun _ => bas L n n v u) = rsN (rsN x (364 * s) (ofs L (d + 1)) (fun _ => 0)) (364 * s + ofs L n) (u + 1) (bas L n n v) := by
        funext j
        unfold rsN
        by_cases z : j = 364 * s + ofs L n + u
        · rw [if_pos (by omega), if_pos (by omega), z, Nat.add_sub_cancel_left]
        · rw [if_neg (by omega)]
          by_cases z2 : 364 * s + ofs L n ≤ j ∧ j < 364 * s + ofs L n + u
          · rw [if_pos z2, if_pos (by omega)]
          · rw [if_neg z2, if_neg (show ¬ (364 * s + ofs L n ≤ j ∧ j < 364 * s + ofs L n + (u + 1)) by omega)]
      rw [← ex]
      exact hx3
  refine ⟨_, main (L ^ n) 0 S1 (by omega) upS_rf ?_⟩
  have e0 : rsN (rsN x (364 * s) (ofs L (d + 1)) (fun _ => 0)) (364 * s + ofs L n) 0 (bas L n n v) = rsN x (364 * s) (ofs L (d + 1)) (fun _ => 0) := by
    funext j
    exact rsN_out (by omega)
  rw [e0]
  exact hx1
/-- byte k of a chief's text -/
def txtN (L : Nat) : Nat → Nat → Nat → Nat → Nat
  | 0, _, _, _ => 0
  | f + 1, n, v, k => if n ≤ 1 then 97 + v else if k = 0 then 91 else if k ≤ 4 * sd L n v - 3 then txtN L f (sd L n v) (v / L ^ (n - sd L n v)) (k - 1) else if k = 4 * sd L n v - 3 + 1 then 44 else if k = 4 * n - 3 - 1 then 93 else txtN L f (n - sd L n v) (v % L ^ (n - sd L n v)) (k - (4 * sd L n v - 3 + 2))
theorem sp_text {L d : Nat} {S : ms_T} {Q : Int32 → ms_T → Prop} (h : ck_ok L d S) : ∀ f n v k, n ≤ f → 1 ≤ n → n ≤ d → v < L ^ n → chf L n v = true → k < 4 * n - 3 → Q (nI (txtN L f n v k)) S → wp_X8_text_33 Q f S (nI (cnt L d (ofs L n + v))) (nI k) := by
  have hcf := h.1.1
  have hd := cf_d hcf
  intro f
  induction f with
  | zero => intro n v k h1 h2; omega
  | succ f ih =>
    intro n v k hf h1 hn hv hc hk hq
    obtain ⟨r, h99⟩ := ck_row h h1 hn hv hc
    obtain ⟨c, hce⟩ : ∃ c, c = cnt L d (ofs L n + v) := ⟨_, rfl⟩
    unfold rowOK at r
    rw [← hce] at r h99 ⊢
    obtain ⟨r1, r2, r3, r4, r5, r6⟩ := r
    have hw := cf_w hcf hn hv
    refine ⟨vp_in_nI (by omega) (by omega), ?_⟩
    rw [nI_clamp (show c < 2 ^ 31 by omega)]
    unfold txtN at hq
    by_cases e1 : n = 1
    · subst e1
      rw [if_pos (Nat.le_refl 1)] at hq
      have eo : S.2.1 1 ((1 : Int32)).toNatClampNeg = nI (ofs L 1) := mt_o h.1 (n := 1) (by omega)
      rw [(r4 rfl).1, r2, eo]
      refine ⟨fun _ => ⟨vp_in_nI (by omega) (by omega), vp_in_nI (n := 1) (by decide) (by decide), ?_⟩, fun z => absurd rfl z⟩
      have : (97 : Int32) + nI (ofs L 1 + v) - nI (ofs L 1) = nI (97 + v) := by
        rw [show (97 : Int32) = nI 97 from rfl, nI_add, pk_sub (by omega)]
        congr 1
        omega
      rw [this]
      exact hq
    · have h2 : 2 ≤ n := by omega
      rw [if_neg (by omega)] at hq
      obtain ⟨q1, q2, q3, q4⟩ := sd_spec (L := L) (v := v) h2
      have q5 := std_ok hcf h2 hn hv hc
      have pe := cf_pow hcf (show n - sd L n v ≤ d by omega)
      have hve : v % L ^ (n - sd L n v) < L ^ (n - sd L n v) := Nat.mod_lt _ pe.1
      have hvb : v / L ^ (n - sd L n v) < L ^ sd L n v := by
        rw [Nat.div_lt_iff_lt_mul pe.1, ← Nat.pow_add, show sd L n v + (n - sd L n v) = n by omega]; exact hv
      obtain ⟨rl, hl99⟩ := ck_row h q1 (by omega) hvb q5
      obtain ⟨rr, hr99⟩ := ck_row h (by omega) (by omega) hve q3
      obtain ⟨s4, s5⟩ := r5 h2
      unfold lfP at s4
      unfold rgP at s5
      rw [s4, s5, r3]
      have n1 : ¬ nI (cnt L d (ofs L (sd L n v) + v / L ^ (n - sd L n v))) = -1 := fun z => by
        have := congrArg Int32.toInt z
        rw [nI_i (by omega), show ((-1) : Int32).toInt = -1 from by decide] at this
        omega
      refine ⟨fun z => absurd z n1, fun _ => ⟨vp_in_nI (by omega) (by omega), vp_in_nI (by omega) (by omega), ?_⟩⟩
      rw [nI_clamp (show cnt L d (ofs L (sd L n v) + v / L ^ (n - sd L n v)) < 2 ^ 31 by omega), rl.2.2.1]
      rintro _ rfl
      refine ⟨fun hk0 => ?_, fun hk0 => ?_⟩
      · have k0 : ¬ k = 0 := fun z => hk0 (by rw [z]; rfl)
        rw [if_neg k0] at hq
        refine ⟨fun hlt => ?_, fun hlt => ?_⟩
        · have kl : 4 * sd L n v - 3 < k := (nI_ltI (by omega) (by omega)).mp hlt
          rw [if_neg (show ¬ k ≤ 4 * sd L n v - 3 by omega)] at hq
          rw [nI_1]
          refine ⟨fun hne => ⟨vp_in_nI (by omega) (by omega), ?_⟩, fun he => ?_⟩
          · have kn : ¬ k = 4 * sd L n v - 3 + 1 := fun z => hne (by rw [z])
            rw [if_neg kn] at hq
            rw [show (1 : Int32) = nI 1 from rfl, pk_sub (show 1 ≤ 4 * n - 3 by omega)]
            refine ⟨fun hne2 => ?_, fun he2 => ?_⟩
            · have kn2 : ¬ k = 4 * n - 3 - 1 := fun z => hne2 (by rw [z])
              rw [if_neg kn2] at hq
              rintro _ rfl
              refine ⟨vp_in_nI (by omega) (by omega), ?_⟩
              rintro _ rfl
              rw [show (2 : Int32) = nI 2 from rfl, nI_add, pk_sub (by omega)]
              exact ih (n - sd L n v) _ _ (by omega) (by omega) (by omega) hve q3 (by omega) hq
            · have : k = 4 * n - 3 - 1 := (nI_eq (by omega) (by omega)).mp he2
              rw [if_pos this] at hq
              exact hq
          · have : k = 4 * sd L n v - 3 + 1 := (nI_eq (by omega) (by omega)).mp he
            rw [if_pos this] at hq
            exact hq
        · have kl : ¬ 4 * sd L n v - 3 < k := fun z => hlt (nI_lt z (by omega))
          rw [if_pos (show k ≤ 4 * sd L n v - 3 by omega)] at hq
          refine ⟨vp_in_nI (by omega) (by omega), ?_⟩
          rintro _ rfl _ rfl
          have ek : nI k + (-1) = nI (k - 1) := by
            obtain ⟨j, rfl⟩ : ∃ j, k = j + 1 := ⟨k - 1, by omega⟩
            rw [pk_m1]; rfl
          rw [ek]
          exact ih (sd L n v) _ _ (by omega) (by omega) (by omega) hvb q5 (by omega) hq
      · have k0 : k = 0 := (nI_eq (by omega) (by decide)).mp (show nI k = nI 0 from hk0)
        rw [if_pos k0] at hq
        exact hq
theorem sm_text {L d : Nat} {S : ms_T} {i k : Int32} {Q : Int32 → ms_T → Prop} (h : ck_ok L d S) (hno : ¬ (0 ≤ i.toInt ∧ i.toInt < cnt L d (ofs L (d + 1))) → Q (-1) S) (hno2 : ∀ n v, 1 ≤ n → n ≤ d → v < L ^ n → chf L n v = true → i = nI (cnt L d (ofs L n + v)) → ¬ (0 ≤ k.toInt ∧ k.toInt < 4 * n - 3) → Q (-1) S) (hq : ∀ n v j, 1 ≤ n → n ≤ d → v < L ^ n → chf L n v = true → i = nI (cnt L d (ofs L n + v)) → j < 4 * n - 3 → k = nI j → Q (nI (txtN L 6 n v j)) S) : wp_X8_text S i k Q := by
  have hd := cf_d h.1.1
  refine sm_isNumber h (fun n v a1 a2 a3 a4 e => ⟨fun z => absurd z (by decide), fun _ => ?_⟩) (fun z => ⟨fun _ => hno z, fun q => absurd rfl q⟩)
  obtain ⟨r, h99⟩ := ck_row h a1 a2 a3 a4
  have hq' := hq n v
  have hno' := hno2 n v a1 a2 a3 a4 e
  subst e
  refine ⟨vp_in_nI (by omega) (by omega), ?_⟩
  rw [nI_clamp (by omega), r.2.2.1, show (1 : Int32) = nI 1 from rfl, pk_sub (show 1 ≤ 4 * n - 3 by omega)]
  have e0 : (0 : Int64).toInt = 0 := by decide
  have e1 : (nI (4 * n - 3 - 1)).toInt64.toInt = (4 * n - 3 - 1 : Nat) := by rw [Int32.toInt_toInt64, nI_i (by omega)]
  refine sp_inI (fun a b => ⟨fun _ => ?_, fun z => absurd z (by decide)⟩) (fun hn => ⟨fun z => absurd rfl z, fun _ => hno' (fun z => hn (by rw [e0, e1]; omega))⟩)
  rw [e0] at a
  rw [e1] at b
  obtain ⟨j, hj, rfl⟩ := nI_of (x := k) (by rw [i32_lt, show (0 : Int32).toInt = 0 from by decide]; omega)
  rw [nI_i hj] at b
  exact ⟨6, sp_text h 6 n v j (by omega) a1 a2 a3 a4 (by omega) (hq' j a1 a2 a3 a4 rfl (by omega) rfl)⟩
