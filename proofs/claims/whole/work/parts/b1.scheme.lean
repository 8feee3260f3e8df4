/-! SCHEMES -/
section SC
variable {L d : Nat}
theorem mulR_lt2 {x : Nat → Nat → Kf} {c N V : Nat} : mulR L x (lt2 c) N V = if 1 ≤ N ∧ V % L = c then x (N - 1) (V / L) else 0 := by
  unfold mulR
  rw [ksum_c (h := fun k => if k = 1 then (if V % L = c then x (N - 1) (V / L) else 0) else 0) (fun k hk => ?_), ksum_if]
  · by_cases h : 1 ≤ N
    · rw [if_pos (show 1 < N + 1 by omega)]
      by_cases h2 : V % L = c
      · rw [if_pos h2, if_pos ⟨h, h2⟩]
      · rw [if_neg h2, if_neg (fun z => h2 z.2)]
    · rw [if_neg (show ¬ 1 < N + 1 by omega), if_neg (fun z => h z.1)]
  · unfold lt2
    by_cases h1 : k = 1
    · subst h1
      rw [if_pos rfl, Nat.pow_one]
      by_cases h2 : V % L = c
      · rw [if_pos h2, if_pos ⟨rfl, h2⟩, km_1]
      · rw [if_neg h2, if_neg (fun z => h2 z.2), km_0']
    · rw [if_neg h1, if_neg (fun z => h1 z.1), km_0']
theorem mlK_eq {f : Nat → Kf} {c w : Nat} (hw : w < ofs L (d + 1)) : mlK L d f c w = mulR L (at2 L f) (lt2 c) (wlen L d w) (w - ofs L (wlen L d w)) := by
  rw [mulR_lt2]
  rfl
def repY (L y : Nat) : Nat → Nat
  | 0 => 0
  | n + 1 => repY L y n * L + y
theorem repY_lt {y : Nat} (hy : y < L) : ∀ n, repY L y n < L ^ n
  | 0 => by rw [Nat.pow_zero]; exact Nat.zero_lt_one
  | n + 1 => by
    show repY L y n * L + y < _
    rw [Nat.mul_comm]
    exact pow_app (repY_lt hy n) hy
def rlC (p : Kf) : Nat → Kf
  | 0 => 1
  | n + 1 => rlC p n * p * kv (kN (n + 1))
def rl2 (L y : Nat) (p : Kf) : Nat → Nat → Kf := fun N V => if V = repY L y N then rlC p N else 0
def kpw (p : Kf) : Nat → Kf
  | 0 => 1
  | n + 1 => kpw p n * p
theorem rlC_eq {p : Kf} : ∀ n, rlC p n = kpw p n * kpr cE 1 n
  | 0 => (km_1 1).symm
  | n + 1 => by
    show rlC p n * p * kv (kN (n + 1)) = kpw p n * p * (kpr cE 1 n * cE (1 + n))
    rw [rlC_eq n, Nat.add_comm 1 n, km_a, km_a, km_a]
    refine congrArg (kpw p n * ·) ?_
    rw [← km_a, km_c (kpr cE 1 n) p, km_a]
    rfl
theorem pw_lt {y : Nat} {p : Kf} {f : Nat → Kf} (hL : 1 ≤ L) (hy : y < L) (hf : eqW L d f (plK L d (fun N V => lt2 y N V * p))) : ∀ n, eqW L d (pwK L d f n) (plK L d (fun N V => if N = n ∧ V = repY L y n then kpw p n else 0))
  | 0 => fun w hw => by
    obtain ⟨N, V, hN, hV, rfl⟩ := pl_ex hw
    rw [plK_at hN hV]
    show (if ofs L N + V = 0 then (1 : Kf) else 0) = _
    by_cases h0 : N = 0
    · have hV0 : V = 0 := by subst h0; rw [Nat.pow_zero] at hV; omega
      rw [if_pos ((ofs_0 hL hV).mpr h0), if_pos ⟨h0, hV0⟩]; rfl
    · rw [if_neg (fun z => h0 ((ofs_0 hL hV).mp z)), if_neg (fun z => h0 z.1)]
  | n + 1 => fun w hw => by
    have ih := pw_lt hL hy hf n
    rw [show pwK L d f (n + 1) = mulK L d (pwK L d f n) f from rfl, mulK_c hL ih hf w hw]
    obtain ⟨N, V, hN, hV, rfl⟩ := pl_ex hw
    rw [mulK_at hN hV, plK_at hN hV]
    have e : mulR L (at2 L (plK L d (fun N V => if N = n ∧ V = repY L y n then kpw p n else 0))) (at2 L (plK L d (fun N V => lt2 y N V * p))) N V = mulR L (fun N V => if N = n ∧ V = repY L y n then kpw p n else 0) (fun N V => lt2 y N V * p) N V := mulR_c hL hV (fun m u hm hu => plK_at (by omega) hu) (fun m u hm hu => plK_at (by omega) hu)
    rw [e, mulR_mr, mulR_lt2]
    have hdm := Nat.div_add_mod V L
    by_cases h : N = n + 1 ∧ V = repY L y (n + 1)
    · obtain ⟨rfl, hV2⟩ := h
      have hV3 : V = L * repY L y n + y := by rw [hV2, Nat.mul_comm]; rfl
      have q := dm_app (L := L) (u := repY L y n) hy
      rw [hV3, q.1, q.2, if_pos ⟨by omega, rfl⟩, Nat.add_sub_cancel, if_pos ⟨rfl, rfl⟩, if_pos ⟨rfl, by rw [← hV3]; exact hV2⟩]
      rfl
    · rw [if_neg h]
      by_cases h1 : 1 ≤ N ∧ V % L = y
      · rw [if_pos h1, if_neg, km_0]
        rintro ⟨q1, q2⟩
        refine h ⟨by omega, ?_⟩
        show V = repY L y n * L + y
        rw [← q2, Nat.mul_comm, ← h1.2]
        exact hdm.symm
      · rw [if_neg h1, km_0]
theorem ser_lt {y : Nat} {p : Kf} {f : Nat → Kf} (hL : 1 ≤ L) (hy : y < L) (hf : eqW L d f (plK L d (fun N V => lt2 y N V * p))) : eqW L d (serK L d 0 f) (plK L d (rl2 L y p)) := fun w hw => by
  obtain ⟨N, V, hN, hV, rfl⟩ := pl_ex hw
  rw [plK_at hN hV]
  unfold serK
  rw [if_neg (by decide), ksum_c (h := fun n => if n = N - 1 then (if 1 ≤ N ∧ V = repY L y N then kpw p N * kpr cE 1 N else 0) else 0) (fun n hn => ?_), ksum_if]
  · unfold rl2 unitK
    by_cases h0 : N = 0
    · subst h0
      rw [Nat.pow_zero] at hV
      have hV0 : V = 0 := by omega
      subst hV0
      rw [if_pos (show ofs L 0 + 0 = 0 from rfl), if_neg (show ¬ (1 ≤ 0 ∧ 0 = repY L y 0) from fun z => absurd z.1 (by decide)), ite_self, ka_0, if_pos (show 0 = repY L y 0 from rfl)]; rfl
    · rw [if_neg (fun z => h0 ((ofs_0 hL hV).mp z)), ka_0', if_pos (show N - 1 < d by omega)]
      by_cases h1 : V = repY L y N
      · rw [if_pos ⟨by omega, h1⟩, if_pos h1, rlC_eq]
      · rw [if_neg (fun z => h1 z.2), if_neg h1]
  · rw [pw_lt hL hy hf (n + 1) _ hw, plK_at hN hV]
    show (if N = n + 1 ∧ V = repY L y (n + 1) then kpw p (n + 1) else 0) * kpr cE 1 (n + 1) = _
    by_cases h1 : n = N - 1
    · by_cases h0 : N = 0
      · rw [if_neg (by omega), km_0, if_pos h1, if_neg (by omega)]
      · have : n + 1 = N := by omega
        rw [if_pos h1, this]
        by_cases h2 : V = repY L y N
        · rw [if_pos ⟨rfl, h2⟩, if_pos ⟨by omega, h2⟩]
        · rw [if_neg (fun z => h2 z.2), if_neg (fun z => h2 z.2), km_0]
    · rw [if_neg h1, if_neg (by omega), km_0]
/-- the product of EXPs of steps -/
def mkP (L d : Nat) (ls : Nat → Nat) (ps : Nat → Kf) : Nat → Nat → Kf
  | 0 => unitK 1
  | i + 1 => mulK L d (mkP L d ls ps i) (plK L d (rl2 L (ls i) (ps i)))
def madeK (L d k : Nat) (ls : Nat → Nat) (ps : Nat → Kf) : Nat → Kf := serK L d 1 (nzK (mkP L d ls ps k))
theorem nz_lt {y : Nat} {p : Kf} {f : Nat → Kf} (hL : 1 ≤ L) (hf : eqW L d f (plK L d (fun N V => lt2 y N V * p))) : eqW L d (nzK f) (plK L d (fun N V => lt2 y N V * p)) := fun w hw => by
  unfold nzK
  by_cases h : w = 0
  · rw [if_pos h]
    obtain ⟨N, V, hN, hV, rfl⟩ := pl_ex hw
    have h0 := (ofs_0 hL hV).mp h
    rw [plK_at hN hV]
    unfold lt2
    rw [if_neg (by omega), km_0]
  · rw [if_neg h]
    exact hf w hw
theorem mkGo_K {x : Nat → Nat} {ls ps : Nat → Nat} (hL : 1 ≤ L) (hW : ofs L (d + 1) ≤ 364) (hd1 : 1 ≤ d) (hd : d < 100) : ∀ k, (∀ i, i < k → ls i < L) →
    (∀ s w, s < 8 → w < ofs L (d + 1) → rwK (mkGo L d ls ps x k) s w = rwK x s w) ∧ eqW L d (rwK (mkGo L d ls ps x k) 14) (mkP L d ls (fun i => kN (ps i)) k)
  | 0, _ => by
    refine ⟨fun s w hs hw => ?_, fun w hw => ?_⟩
    · show rwK (rsN (rsN x (364 * 14) (ofs L (d + 1)) (fun _ => 0)) (364 * 14) 1 (fun _ => 1)) s w = _
      rw [rwK_one (by omega), if_neg (by omega), rwK_rs hW hw, if_neg (by omega)]
    · show rwK (rsN (rsN x (364 * 14) (ofs L (d + 1)) (fun _ => 0)) (364 * 14) 1 (fun _ => 1)) 14 w = unitK 1 w
      rw [rwK_one (by omega)]
      unfold unitK
      by_cases h0 : w = 0
      · rw [if_pos ⟨rfl, h0⟩, if_pos h0]; rfl
      · rw [if_neg (fun z => h0 z.2), if_neg h0, rwK_rs hW hw, if_pos rfl]; rfl
  | i + 1, hls => by
    obtain ⟨i1, i2⟩ := mkGo_K (x := x) (ls := ls) (ps := ps) hL hW hd1 hd i (fun j hj => hls j (by omega))
    have hy := hls i (by omega)
    have q1 : ofs L 2 ≤ ofs L (d + 1) := ofs_mono (by omega)
    have q2 : ofs L 2 = ofs L 1 + L ^ 1 := rfl
    rw [Nat.pow_one] at q2
    have hc1 : ofs L 1 + ls i < 364 := by omega
    have hoth : ∀ s w, s ≠ 15 → w < ofs L (d + 1) → rwK (rsN (rsN (mkGo L d ls ps x i) (364 * 15) (ofs L (d + 1)) (fun _ => 0)) (364 * 15 + (ofs L 1 + ls i)) 1 (fun _ => ps i)) s w = rwK (mkGo L d ls ps x i) s w := fun s w hs hw => congrArg kN (lt2_oth hW hc1 hw hs)
    refine ⟨fun s w hs hw => ?_, fun w hw => ?_⟩
    · show rwK (mkStep L d (mkGo L d ls ps x i) (ls i) (ps i)) s w = _
      unfold mkStep
      simp only
      rw [rwK_rs hW hw, if_neg (by omega), rwK_rs hW hw, if_neg (by omega), seriesX_K hL hW hd (by decide) hw (by omega) (by omega) (by omega) (by omega), if_neg (by omega), hoth s w (by omega) hw, i1 s w hs hw]
    · show rwK (mkStep L d (mkGo L d ls ps x i) (ls i) (ps i)) 14 w = mulK L d (mkP L d ls (fun i => kN (ps i)) i) (plK L d (rl2 L (ls i) (kN (ps i)))) w
      unfold mkStep
      simp only
      rw [rwK_rs hW hw, if_pos rfl]
      show rwK _ 17 w = _
      rw [rwK_rs hW hw, if_pos rfl, mulW_K]
      refine mulK_c hL (fun j hj => ?_) (fun j hj => ?_) w hw
      · rw [seriesX_K hL hW hd (by decide) hj (by decide) (by decide) (by decide) (by decide), if_neg (by decide), hoth 14 j (by decide) hj]
        exact i2 j hj
      · rw [seriesX_K hL hW hd (by decide) hj (by decide) (by decide) (by decide) (by decide), if_pos rfl]
        refine ser_lt hL hy (nz_lt hL (fun z hz => ?_)) j hj
        obtain ⟨N, V, hN, hV, rfl⟩ := pl_ex hz
        rw [plK_at hN hV]
        exact lt2_row hW hd1 hy hN hV
theorem makesX_K {x : Nat → Nat} {ls ps : Nat → Nat} {k to s w : Nat} (hL : 1 ≤ L) (hW : ofs L (d + 1) ≤ 364) (hd1 : 1 ≤ d) (hd : d < 100) (hls : ∀ i, i < k → ls i < L) (hs : s < 8 ∨ s = 18) (hw : w < ofs L (d + 1)) : (s = to → rwK (makesX L d k ls ps x to) s w = madeK L d k ls (fun i => kN (ps i)) w) ∧ (s < 8 → s ≠ to → rwK (makesX L d k ls ps x to) s w = rwK x s w) := by
  obtain ⟨i1, i2⟩ := mkGo_K (x := x) (ps := ps) hL hW hd1 hd k hls
  unfold makesX
  rw [seriesX_K hL hW hd (by decide) hw (by omega) (by omega) (by omega) (by omega)]
  refine ⟨fun e => ?_, fun h8 hne => ?_⟩
  · rw [if_pos e]
    exact serK_c hL (nzK_c i2) w hw
  · rw [if_neg hne]
    exact i1 s w h8 hw
end SC
section SM
variable {L d : Nat} {Ln : Nat → Nat} {S : cs_T} {g : Nat → Nat → Kf}
theorem cq_raiseLetter {t y : Nat} {p : Kf} {Q : cs_T → Prop} (h : cv L d Ln S g) (ht : kV t) (hy : y < L) (hq : ∀ S', upK kV S S' → cv L d Ln S' (va_up g t (plK L d (rl2 L y p))) → Q S') : wp_X5_raiseLetter Ln S t (nI y) (kI p) Q := by
  have hd := cf_d h.1.1
  have hL := cf_L h.1.1
  have hW := cv_W h
  refine cq_unit (c := 1) h ht (fun S1 hu1 hc1 => ?_)
  refine lpR (S := S1) (L := L) (d := d) (Ln := Ln) (g := g) (t := t) (fun k s i => wp_X5_raiseLetter_18 Ln Q k s t (nI y) (kI p) (kI (rlC p i)) (nI (repY L y i)) (nI (i + 1))) (fun i j => if wlen L d j < i + 1 then plK L d (rl2 L y p) j else 0) 0 d (Nat.zero_le _) (cv_tc hc1 (fun j hj => ?_)) ?_ ?_
  · obtain ⟨N, V, hN, hV, rfl⟩ := pl_ex hj
    rw [wlen_of hN hV, plK_at hN hV]
    by_cases h0 : N = 0
    · have hV0 : V = 0 := by subst h0; rw [Nat.pow_zero] at hV; omega
      subst h0
      rw [if_pos ((ofs_0 (by omega) hV).mpr rfl), if_pos (by omega), hV0]; rfl
    · rw [if_neg (fun z => h0 ((ofs_0 (by omega) hV).mp z)), if_neg (by omega)]
  · intro k S2 hu2 hc2
    refine ⟨fun _ => hq S2 (upK_tr hu1 hu2) (cv_tc hc2 (fun j hj => if_pos (Nat.lt_succ_of_le wlen_le))), fun z => absurd (by rw [hc2.1.2.2.1]; exact nI_lt (by omega) (by omega)) z⟩
  · intro k i S2 _ hi hu2 hc2 hk
    have hr := repY_lt hy (i + 1)
    have hs2 := cv_st hc2 (n := i + 1) (by omega)
    have hrW : ofs L (i + 1) + repY L y (i + 1) < ofs L (d + 1) := pl_W (by omega) hr
    refine ⟨fun z => absurd z (by rw [hc2.1.2.2.1]; exact nI_nlt (by omega) (by omega)), fun _ => kn_product ?_⟩
    rw [show nI (i + 1) = kI (kN (i + 1)) from (kI_N (by have : PR = 2147483647 := rfl; omega)).symm]
    refine kn_recip (kn_product ?_)
    rw [show kI (kN (i + 1)) = nI (i + 1) from kI_N (by have : PR = 2147483647 := rfl; omega)]
    rw [hc2.1.2.1, pk_mul, nI_add]
    rintro _ rfl
    refine ⟨hs2.1, kV_47 ht, ?_⟩
    rw [hs2.2, nI_add]
    refine ⟨cv_in hc2 ht hrW, ?_⟩
    rintro _ rfl
    rw [nI_1, nI_clamp (show ofs L (i + 1) + (repY L y i * L + y) < _ from by have : repY L y (i + 1) = repY L y i * L + y := rfl; omega)]
    have hs := cv_s' (p := ofs L (i + 1) + repY L y (i + 1)) (c := rlC p (i + 1)) (r' := fun j => if wlen L d j < i + 1 + 1 then plK L d (rl2 L y p) j else 0) hc2 ht (fun j hj => by
      obtain ⟨N, V, hN, hV, rfl⟩ := pl_ex hj
      rw [wlen_of hN hV, plK_at hN hV]
      by_cases e1 : ofs L N + V = ofs L (i + 1) + repY L y (i + 1)
      · obtain ⟨rfl, rfl⟩ := place_inj hV hr e1
        rw [if_pos e1, if_pos (by omega)]
        unfold rl2
        rw [if_pos rfl]
      · rw [if_neg e1]
        by_cases e2 : N < i + 1
        · rw [if_pos e2, if_pos (by omega)]
        · rw [if_neg e2]
          by_cases e3 : N = i + 1
          · subst e3
            rw [if_pos (by omega)]
            unfold rl2
            rw [if_neg (fun z => e1 (by rw [z]))]
          · rw [if_neg (by omega)])
    exact hk _ (upK_tr hu2 hs.1) hs.2
/-- the class's steps -/
def cst (L : Nat) (Ln : Nat → Nat) (S : cs_T) (k : Nat) (ls : Nat → Nat) (ps : Nat → Kf) : Prop := S.1 9 = nI k ∧ k ≤ 12 ∧ Ln 38 = 12 ∧ Ln 39 = 12 ∧ ∀ i, i < k → S.2.1 38 i = nI (ls i) ∧ ls i < L ∧ S.2.1 39 i = kI (ps i)
theorem cst_up {k : Nat} {ls : Nat → Nat} {ps : Nat → Kf} {S' : cs_T} (h : cst L Ln S k ls ps) (hu : upK kV S S') : cst L Ln S' k ls ps := by
  unfold cst at h ⊢
  rw [hu.1, hu.2.2 38 (by unfold kV; omega), hu.2.2 39 (by unfold kV; omega)]
  exact h
theorem cq_make {t k : Nat} {ls : Nat → Nat} {ps : Nat → Kf} {Q : cs_T → Prop} (h : cv L d Ln S g) (ht : kV t) (hst : cst L Ln S k ls ps)
    (hq : ∀ S' g', upK kV S S' → cv L d Ln S' g' → fr (fun k => k = 3 ∨ k = 4 ∨ k = 5 ∨ k = 6 ∨ k = 15 ∨ k = 16 ∨ k = t) g g' → eqW L d (g' t) (madeK L d k ls ps) → Q S') : wp_X5_make Ln S t Q := by
  have hd := cf_d h.1.1
  have hL := cf_L h.1.1
  have k15 : kV 15 := by unfold kV; omega
  have k16 : kV 16 := by unfold kV; omega
  refine ⟨vp_in_nI (n := 0) (by decide) (by decide), vp_in_nI (n := 1) (by decide) (by decide), cq_unit (t := 15) (c := 1) h k15 (fun S1 hu1 hc1 => ?_)⟩
  refine pk_loop (σ := cs_T) (fun n i s => wp_X5_make_32 Ln Q n s t 15 16 (nI i)) (fun i s => upK kV S s ∧ ∃ g1, cv L d Ln s g1 ∧ fr (fun k => k = 3 ∨ k = 15 ∨ k = 16) g g1 ∧ g1 15 = mkP L d ls ps i) k 0 S1 (Nat.zero_le _) ⟨hu1, _, hc1, fr_u (Or.inr (Or.inl rfl)), va_up_self _ _ _⟩ ?_ ?_
  · rintro n s ⟨hu2, g2, hc2, hf2, h15⟩
    have hs2 := cst_up hst hu2
    have hk12 := hs2.2.1
    refine ⟨fun _ => cq_unraise hc2 ht k15 (fun S3 g3 hu3 hc3 hf3 ht3 => hq S3 g3 (upK_tr hu2 hu3) hc3 ?_ (fun w hw => ?_)), fun z => absurd (by rw [hs2.1]; exact nI_le (Nat.le_refl _) (by omega)) z⟩
    · refine fr_tr (fr_w hf2 ?_) (fr_w hf3 ?_) <;> intro k hk <;> omega
    · rw [ht3, log_eq (by omega) (by omega) w hw, h15]
      rfl
  · rintro n i s hi ⟨hu2, g2, hc2, hf2, h15⟩ hk
    have hs2 := cst_up hst hu2
    have hk12 := hs2.2.1
    have hrow := hs2.2.2.2.2 i hi
    refine ⟨fun z => absurd z (by rw [hs2.1]; exact nI_ge hi (by omega)), fun _ => ⟨by rw [hs2.2.2.1]; exact vp_in_nI (by omega) (by decide), by rw [hs2.2.2.2.1]; exact vp_in_nI (by omega) (by decide), ?_⟩⟩
    rw [nI_clamp (by omega), hrow.1, hrow.2.2]
    refine cq_raiseLetter hc2 k16 hrow.2.1 (fun S3 hu3 hc3 => ?_)
    refine cq_multiply (t := 15) (a := 15) (b := 16) hc3 k15 k15 k16 (by decide) (by decide) (fun S4 g4 hu4 hc4 hf4 ht4 => ?_)
    rintro _ rfl
    rw [nI_1]
    refine hk S4 ⟨upK_tr hu2 (upK_tr hu3 hu4), g4, hc4, ?_, ?_⟩
    · refine fr_tr (fr_tr hf2 (fr_u (Or.inr (Or.inr rfl)))) (fr_w hf4 (fun k hk => by omega))
    · rw [ht4, va_up_self, va_up_ne _ _ (by decide), h15]
      rfl
/-- ORDER: all is well up to length r, and no further -/
def okAt (L : Nat) (f : Nat → Kf) (n : Nat) : Prop := ∀ v, v < L ^ n → f (ofs L n + v) = if n = 1 then 1 else 0
def ordR (L d : Nat) (f : Nat → Kf) (r : Nat) : Prop := r ≤ d ∧ (∀ n, 1 ≤ n → n ≤ r → okAt L f n) ∧ (r < d → ¬ okAt L f (r + 1))
theorem ordR_u {f : Nat → Kf} {r r' : Nat} (h : ordR L d f r) (h' : ordR L d f r') : r = r' := by
  rcases Nat.lt_trichotomy r r' with q | q | q
  · exact absurd (h'.2.1 (r + 1) (by omega) (by omega)) (h.2.2 (by have := h'.1; omega))
  · exact q
  · exact absurd (h.2.1 (r' + 1) (by omega) (by omega)) (h'.2.2 (by have := h.1; omega))
theorem cq_good {k : Nat} {ls : Nat → Nat} {ps : Nat → Kf} {Q : Int32 → cs_T → Prop} (h : cv L d Ln S g) (hst : cst L Ln S k ls ps)
    (hq : ∀ r S' g', upK kV S S' → cv L d Ln S' g' → fr (fun k => k = 3 ∨ k = 4 ∨ k = 5 ∨ k = 6 ∨ k = 15 ∨ k = 16) g g' → ordR L d (madeK L d k ls ps) r → Q (nI r) S') : wp_X5_goodLength Ln S Q := by
  have hd := cf_d h.1.1
  have hL := cf_L h.1.1
  have k15 : kV 15 := by unfold kV; omega
  refine ⟨vp_in_nI (n := 0) (by decide) (by decide), cq_make (t := 15) h k15 hst (fun S1 g1 hu1 hc1 hf1 ht1 => ?_)⟩
  have hW := cv_W hc1
  have hq1 := fun r (hr : ordR L d (madeK L d k ls ps) r) => hq r S1 g1 hu1 hc1 (fr_w hf1 (fun k hk => by omega)) hr
  have hs1 := cv_st hc1 (n := 1) (by omega)
  have hs2 := cv_st hc1 (n := 2) (by omega)
  have e2 : ofs L 2 = ofs L 1 + L := by show ofs L 1 + L ^ 1 = _; rw [Nat.pow_one]
  have h2W : ofs L 2 ≤ ofs L (d + 1) := ofs_mono (by omega)
  refine ⟨hs1.1, ?_⟩
  rw [show S1.2.1 1 ((1 : Int32)).toNatClampNeg = nI (ofs L 1) from hs1.2]
  rintro _ rfl
  have key := pk_loop (σ := Unit) (fun n v _ => wp_X5_goodLength_25 Ln Q n S1 15 (nI (ofs L 1 + v))) (fun v _ => ∀ u, u < v → madeK L d k ls ps (ofs L 1 + u) = 1) L 0 () (Nat.zero_le _) (fun u hu => absurd hu (Nat.not_lt_zero u)) ?_ ?_
  · exact key
  · intro n _ hI
    have hok1 : okAt L (madeK L d k ls ps) 1 := fun v hv => by
      rw [Nat.pow_one] at hv
      rw [if_pos rfl]; exact hI v hv
    refine ⟨hs2.1, ?_⟩
    rw [show S1.2.1 1 ((2 : Int32)).toNatClampNeg = nI (ofs L 2) from hs2.2]
    refine ⟨fun _ => ?_, fun z => absurd (nI_le (by omega) (by omega)) z⟩
    refine pk_loop (σ := Unit) (fun n r _ => wp_X5_goodLength_55 Ln Q n S1 15 (nI r)) (fun r _ => 1 ≤ r ∧ ∀ m, 1 ≤ m → m ≤ r → okAt L (madeK L d k ls ps) m) d 1 () (by omega) ⟨Nat.le_refl _, fun m h1 h2 => by rw [show m = 1 by omega]; exact hok1⟩ ?_ ?_
    · intro n _ hJ
      exact ⟨fun _ => hq1 d ⟨Nat.le_refl _, hJ.2, fun z => absurd z (Nat.lt_irrefl _)⟩, fun z => absurd (by rw [hc1.1.2.2.1]; exact nI_le (Nat.le_refl _) (by omega)) z⟩
    · intro n r _ hr hJ hk
      refine ⟨fun z => absurd z (by rw [hc1.1.2.2.1]; exact nI_ge hr (by omega)), fun _ => ?_⟩
      rw [nI_1]
      refine cq_isNought hc1 k15 (by omega) (fun hz => ⟨fun z => absurd z (by decide), fun _ => ?_⟩) (fun v hv hv0 => ⟨fun _ => hq1 r ⟨by omega, hJ.2, fun _ z => ?_⟩, fun z => absurd rfl z⟩)
      · rintro _ rfl
        refine hk () ⟨by omega, fun m h1 h2 => ?_⟩
        by_cases e : m = r + 1
        · subst e
          intro v hv
          rw [if_neg (by omega), ← ht1 _ (pl_W (by omega) hv)]
          exact hz v hv
        · exact hJ.2 m h1 (by omega)
      · have := z v hv
        rw [if_neg (by omega), ← ht1 _ (pl_W (by omega) hv)] at this
        exact hv0 this
  · intro n v _ hv hI hk
    have hvW : ofs L 1 + v < ofs L (d + 1) := by omega
    refine ⟨hs2.1, ?_⟩
    rw [show S1.2.1 1 ((2 : Int32)).toNatClampNeg = nI (ofs L 2) from hs2.2]
    refine ⟨fun z => absurd z (nI_ge (by omega) (by omega)), fun _ => ⟨kV_47 k15, cv_in hc1 k15 hvW, ?_⟩⟩
    rw [cv_g hc1 k15 hvW, ht1 _ hvW, show (1 : Int32) = kI 1 from rfl, k_inj]
    refine ⟨fun z => ?_, fun z => hq1 0 ⟨by omega, fun m h1 h2 => by omega, fun _ y => z ?_⟩⟩
    · rintro _ rfl
      rw [show kI 1 = (1 : Int32) from rfl, nI_1]
      refine hk () (fun u hu => ?_)
      by_cases e : u = v
      · rw [e]; exact z
      · exact hI u (by omega)
    · have := y v (by rw [Nat.zero_add, Nat.pow_one]; exact hv)
      rwa [if_pos rfl] at this
theorem nz_0 (f : Nat → Kf) : at2 L (nzK f) 0 0 = 0 := by
  unfold at2 nzK
  exact if_pos rfl
theorem made_0 {k : Nat} {ls : Nat → Nat} {ps : Nat → Kf} : madeK L d k ls ps 0 = 0 := by
  unfold madeK serK
  rw [if_pos rfl, ka_0']
  refine ksum_z (fun n _ => ?_)
  have e : wlen L d 0 = 0 := by
    have := wlen_of (L := L) (d := d) (n := 0) (v := 0) (Nat.zero_le _) (by rw [Nat.pow_zero]; decide)
    exact this
  have e2 : pwK L d (nzK (mkP L d ls ps k)) (n + 1) 0 = 0 := by
    show mulR L _ (at2 L (nzK (mkP L d ls ps k))) (wlen L d 0) (0 - ofs L (wlen L d 0)) = 0
    rw [e, mulR_0, nz_0, km_0']
  rw [e2, km_0]
theorem orN_R {f : Nat → Nat} {F : Nat → Kf} (hL : 1 ≤ L) (hd : 1 ≤ d) (hf : ∀ w, w < ofs L (d + 1) → f w < PR ∧ kN (f w) = F w) (h0 : F 0 = 0) : ordR L d F (orN L d f (ofs L (d + 1)) 0) := by
  have main : ∀ m w, m + w = ofs L (d + 1) → (∀ u, u < w → F u = if wlen L d u = 1 then 1 else 0) → ordR L d F (orN L d f m w) := by
    intro m
    induction m with
    | zero =>
      intro w hw hI
      show ordR L d F d
      refine ⟨Nat.le_refl _, fun n h1 hn v hv => ?_, fun z => absurd z (Nat.lt_irrefl _)⟩
      have := hI (ofs L n + v) (by have := pl_W (d := d) hn hv; omega)
      rwa [wlen_of hn hv] at this
    | succ m ih =>
      intro w hw hI
      obtain ⟨n, v, hn, hv, rfl⟩ := pl_ex (L := L) (d := d) (w := w) (by omega)
      have hfw := hf (ofs L n + v) (by omega)
      unfold orN
      rw [wlen_of hn hv]
      have hiff : f (ofs L n + v) = (if n = 1 then 1 else 0) ↔ F (ofs L n + v) = (if n = 1 then 1 else 0) := by
        rw [← hfw.2]
        by_cases e : n = 1
        · rw [if_pos e, if_pos e]
          exact ⟨fun q => by rw [q]; rfl, fun q => kN_inj hfw.1 (by decide) q⟩
        · rw [if_neg e, if_neg e]
          exact (kN_z hfw.1).symm
      by_cases e : f (ofs L n + v) = (if n = 1 then 1 else 0)
      · rw [if_pos e]
        refine ih _ (by omega) (fun u hu => ?_)
        by_cases e2 : u = ofs L n + v
        · rw [e2, wlen_of hn hv]; exact hiff.mp e
        · exact hI u (by omega)
      · rw [if_neg e]
        have hn0 : n ≠ 0 := by
          rintro rfl
          have hv0 : v = 0 := by rw [Nat.pow_zero] at hv; omega
          subst hv0
          refine e (hiff.mpr ?_)
          exact h0
        refine ⟨by omega, fun k h1 hk u hu => ?_, fun _ z => ?_⟩
        · have hlt : ofs L (k + 1) ≤ ofs L n := ofs_mono (by omega)
          have h2 : ofs L (k + 1) = ofs L k + L ^ k := rfl
          have := hI (ofs L k + u) (by omega)
          rwa [wlen_of (by omega) hu] at this
        · have := z v (by rw [show n - 1 + 1 = n by omega]; exact hv)
          rw [show n - 1 + 1 = n by omega] at this
          exact e (hiff.mpr this)
  exact main _ 0 (by omega) (fun u hu => absurd hu (Nat.not_lt_zero u))
end SM
