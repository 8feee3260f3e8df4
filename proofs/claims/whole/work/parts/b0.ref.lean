/-! the reference's rows after calls, in the ring -/
theorem dv_dv' {L v k : Nat} : v / L ^ (k + 1) = v / L ^ k / L := by rw [Nat.div_div_eq_div_mul, Nat.pow_succ]
section RK
variable {L d : Nat} {x : Nat → Nat}
theorem timesX_K {s a b s' w : Nat} (hW : ofs L (d + 1) ≤ 364) (hw : w < ofs L (d + 1)) (h8 : s' ≠ 8) : rwK (timesX L d x s a b) s' w = if s' = s then mulK L d (rwK x a) (rwK x b) w else rwK x s' w := by
  unfold timesX
  simp only
  rw [rwK_rs hW hw]
  by_cases h : s' = s
  · rw [if_pos h, if_pos h]
    show rwK _ 8 w = _
    rw [rwK_rs hW hw, if_pos rfl, mulW_K]
  · rw [if_neg h, if_neg h, rwK_rs hW hw, if_neg h8]
theorem bracketX_K {s a b s' w : Nat} (hL : 1 ≤ L) (hW : ofs L (d + 1) ≤ 364) (hw : w < ofs L (d + 1)) (h8 : s' ≠ 8) (h9 : s' ≠ 9) (ha : a ≠ 8) (hb : b ≠ 8) : rwK (bracketX L d x s a b) s' w = if s' = s then mulK L d (rwK x a) (rwK x b) w + mulK L d (rwK x b) (rwK x a) w * kN 2147483646 else rwK x s' w := by
  unfold bracketX
  simp only
  rw [rwK_rs hW hw]
  by_cases h : s' = s
  · rw [if_pos h, if_pos h]
    show rwK _ 8 w = _
    rw [rwK_rs hW hw, if_pos rfl, kN_mod, kN_add, kN_mul]
    refine congr (congrArg _ ?_) (congrArg (· * kN 2147483646) ?_)
    · show rwK _ 8 w = _
      rw [rwK_rs hW hw, if_neg (by decide), rwK_rs hW hw, if_pos rfl, mulW_K]
    · show rwK _ 9 w = _
      rw [rwK_rs hW hw, if_pos rfl, mulW_K]
      exact mulK_c hL (fun j hj => by rw [rwK_rs hW hj, if_neg hb]) (fun j hj => by rw [rwK_rs hW hj, if_neg ha]) w hw
  · rw [if_neg h, if_neg h, rwK_rs hW hw, if_neg h8, rwK_rs hW hw, if_neg h9, rwK_rs hW hw, if_neg h8]
theorem seriesX_K {how s a s' w : Nat} (hL : 1 ≤ L) (hW : ofs L (d + 1) ≤ 364) (hd : d < 100) (hh : how < 3) (hw : w < ofs L (d + 1)) (h9 : s' ≠ 9) (h10 : s' ≠ 10) (h11 : s' ≠ 11) (h12 : s' ≠ 12) : rwK (seriesX L d how x s a) s' w = if s' = s then serK L d how (nzK (rwK x a)) w else rwK x s' w := by
  have hk := serX_K (L := L) (d := d) (how := how) (a := a) (x := x) hL hW (by omega) hh hd
  unfold seriesX
  rw [rwK_rs hW hw]
  by_cases h : s' = s
  · rw [if_pos h, if_pos h]
    exact hk.2 w hw
  · rw [if_neg h, if_neg h]
    exact congrArg kN (hk.1 s' w h9 h10 h11 h12 hw)
theorem nzK_c {f f' : Nat → Kf} (h : eqW L d f f') : eqW L d (nzK f) (nzK f') := fun w hw => by
  unfold nzK
  rw [h w hw]
theorem pwK_c {f f' : Nat → Kf} (hL : 1 ≤ L) (h : eqW L d f f') : ∀ n, eqW L d (pwK L d f n) (pwK L d f' n)
  | 0 => fun _ _ => rfl
  | n + 1 => mulK_c hL (pwK_c hL h n) h
theorem serK_c {how : Nat} {f f' : Nat → Kf} (hL : 1 ≤ L) (h : eqW L d f f') : eqW L d (serK L d how f) (serK L d how f') := fun w hw => by
  unfold serK
  refine congrArg (_ + ·) (ksum_c (fun n _ => ?_))
  rw [pwK_c hL h (n + 1) w hw]
theorem groupX_K {s a b s' w : Nat} (hL : 1 ≤ L) (hW : ofs L (d + 1) ≤ 364) (hd : d < 100) (hw : w < ofs L (d + 1)) (ha : a < 8) (hb : b < 8) (hs' : s' < 8) : rwK (groupX L d x s a b) s' w = if s' = s then serK L d 1 (nzK (mulK L d (serK L d 0 (nzK (rwK x a))) (serK L d 0 (nzK (rwK x b))))) w else rwK x s' w := by
  unfold groupX
  simp only
  rw [seriesX_K hL hW hd (by decide) hw (by omega) (by omega) (by omega) (by omega)]
  by_cases h : s' = s
  · rw [if_pos h, if_pos h]
    refine serK_c hL (nzK_c (fun j hj => ?_)) w hw
    rw [rwK_rs hW hj, if_pos rfl, mulW_K]
    refine mulK_c hL (fun j hj => ?_) (fun j hj => ?_) j hj
    · rw [seriesX_K hL hW hd (by decide) hj (by decide) (by decide) (by decide) (by decide), if_neg (by decide), seriesX_K hL hW hd (by decide) hj (by decide) (by decide) (by decide) (by decide), if_pos rfl]
    · rw [seriesX_K hL hW hd (by decide) hj (by decide) (by decide) (by decide) (by decide), if_pos rfl]
      refine serK_c hL (nzK_c (fun i hi => ?_)) j hj
      rw [seriesX_K hL hW hd (by decide) hi (by omega) (by omega) (by omega) (by omega), if_neg (by omega)]
  · rw [if_neg h, if_neg h, rwK_rs hW hw, if_neg (by omega), seriesX_K hL hW hd (by decide) hw (by omega) (by omega) (by omega) (by omega), if_neg (by omega), seriesX_K hL hW hd (by decide) hw (by omega) (by omega) (by omega) (by omega), if_neg (by omega)]
theorem addX_K {s a t s' w : Nat} (hW : ofs L (d + 1) ≤ 364) (hw : w < ofs L (d + 1)) (h8 : s' ≠ 8) (hs : s ≠ 8) : rwK (addX L d x s a t) s' w = if s' = s then rwK x s w + rwK x a w * kN t else rwK x s' w := by
  unfold addX
  simp only
  rw [rwK_rs hW hw]
  by_cases h : s' = s
  · rw [if_pos h, if_pos h, kN_mod, kN_add, kN_mul]
    refine congr (congrArg _ ?_) (congrArg (· * kN t) ?_)
    · show rwK _ s w = _
      rw [rwK_rs hW hw, if_neg hs]
    · show rwK _ 8 w = _
      rw [rwK_rs hW hw, if_pos rfl]
      rfl
  · rw [if_neg h, if_neg h, rwK_rs hW hw, if_neg h8]
theorem turnV_K {a w : Nat} (hx : ∀ j, j < 13104 → x j < PR) (hL : 1 ≤ L) (hW : ofs L (d + 1) ≤ 364) (ha : a < 36) (hw : w < ofs L (d + 1)) : kN (turnV L d x a w) = turnK L d (rwK x a) w := by
  obtain ⟨n, v, hn, hv, rfl⟩ := pl_ex hw
  unfold turnV
  rw [turnK_at hn hv, wlen_of hn hv, Nat.add_sub_cancel_left]
  have hr : ofs L n + rv L v n < ofs L (d + 1) := pl_W hn (rv_lt hL n)
  unfold sgN sgv rwK
  by_cases h : n % 2 = 1
  · rw [if_pos h, if_neg (by omega), kN_mod, kN_add, kN_neg (Nat.le_of_lt (hx _ (by omega))), ks_n, kN_0]
  · rw [if_neg h, if_pos (by omega)]
theorem partX_K {s a n s' w : Nat} (hW : ofs L (d + 1) ≤ 364) (hn : n ≤ d) (hw : w < ofs L (d + 1)) : rwK (partX L d x s a n) s' w = if s' = s then kpK L n (rwK x a) w else rwK x s' w := by
  unfold partX
  rw [rwK_rs hW hw]
  by_cases h : s' = s
  · rw [if_pos h, if_pos h]
    obtain ⟨N, V, hN, hV, rfl⟩ := pl_ex hw
    rw [wlen_of hN hV]
    unfold kpK
    have h2 : ofs L (N + 1) = ofs L N + L ^ N := rfl
    have h3 : ofs L (n + 1) = ofs L n + L ^ n := rfl
    by_cases e : N = n
    · subst e
      rw [if_pos rfl, if_pos ⟨by omega, by omega⟩]
      rfl
    · rw [if_neg e, if_neg]
      · rfl
      · rintro ⟨q1, q2⟩
        by_cases e2 : N < n
        · have : ofs L (N + 1) ≤ ofs L n := ofs_mono (by omega)
          omega
        · have : ofs L (n + 1) ≤ ofs L N := ofs_mono (by omega)
          omega
  · rw [if_neg h, if_neg h]
theorem pairN_K {a b : Nat} : ∀ k, kN (pairN x a b k) = ksum k (fun w => rwK x a w * rwK x b w)
  | 0 => rfl
  | k + 1 => by
    show kN ((pairN x a b k + x (364 * a + k) * x (364 * b + k)) % PR) = _
    rw [kN_mod, kN_add, kN_mul, pairN_K k]
    rfl
/-! REPLACED -/
def plK (L d : Nat) (F : Nat → Nat → Kf) : Nat → Kf := fun j => F (wlen L d j) (j - ofs L (wlen L d j))
theorem plK_at {F : Nat → Nat → Kf} {n v : Nat} (hn : n ≤ d) (hv : v < L ^ n) : plK L d F (ofs L n + v) = F n v := by
  unfold plK
  rw [wlen_of hn hv, Nat.add_sub_cancel_left]
theorem lt2_row {c s : Nat} (hW : ofs L (d + 1) ≤ 364) (hd : 1 ≤ d) (hc : c < L) {p N V : Nat} (hN : N ≤ d) (hV : V < L ^ N) : rwK (rsN (rsN x (364 * s) (ofs L (d + 1)) (fun _ => 0)) (364 * s + (ofs L 1 + c)) 1 (fun _ => p)) s (ofs L N + V) = lt2 c N V * kN p := by
  have hw : ofs L N + V < ofs L (d + 1) := pl_W hN hV
  unfold lt2 rwK
  by_cases h : N = 1 ∧ V = c
  · obtain ⟨rfl, rfl⟩ := h
    rw [if_pos ⟨rfl, rfl⟩, km_1']
    exact congrArg kN (rsN_in (i := 0) (by decide))
  · have hne : ofs L N + V ≠ ofs L 1 + c := fun e => h (place_inj hV (by rw [Nat.pow_one]; exact hc) e)
    rw [if_neg h, km_0, rsN_out (by omega), rsN_row hW hw, if_pos rfl, kN_0]
theorem lt2_oth {c s s' p w : Nat} (hW : ofs L (d + 1) ≤ 364) (hc : ofs L 1 + c < 364) (hw : w < ofs L (d + 1)) (h : s' ≠ s) : rsN (rsN x (364 * s) (ofs L (d + 1)) (fun _ => 0)) (364 * s + (ofs L 1 + c)) 1 (fun _ => p) (364 * s' + w) = x (364 * s' + w) := by
  rw [rsN_out (by omega), rsN_row hW hw, if_neg h]
theorem rpL_K {y b c : Nat} {F : Nat → Nat → Kf} (hL : 1 ≤ L) (hW : ofs L (d + 1) ≤ 364) (hd : 1 ≤ d) (hc : c < L) (hb : b < 8) (h9 : eqW L d (rwK x 9) (plK L d F)) :
    (∀ s w, s ≠ 9 → s ≠ 10 → s ≠ 11 → w < ofs L (d + 1) → rpL L d y b c x (364 * s + w) = x (364 * s + w)) ∧ eqW L d (rwK (rpL L d y b c x) 9) (plK L d (mulR L F (phi y (at2 L (rwK x b)) c))) := by
  have h1 : ofs L 2 ≤ ofs L (d + 1) := ofs_mono (by omega)
  have h2 : ofs L 2 = ofs L 1 + L ^ 1 := rfl
  rw [Nat.pow_one] at h2
  have hc1 : ofs L 1 + c < 364 := by omega
  unfold rpL
  simp only
  by_cases hcy : c = y
  · rw [if_pos hcy]
    refine ⟨fun s w q9 q10 q11 hw => ?_, fun w hw => ?_⟩
    · rw [rsN_row hW hw, if_neg q9, rsN_row hW hw, if_neg q10]
    · rw [rwK_rs hW hw, if_pos rfl]
      show rwK _ 10 w = _
      rw [rwK_rs hW hw, if_pos rfl, mulW_K]
      obtain ⟨n, v, hn, hv, rfl⟩ := pl_ex hw
      rw [mulK_at hn hv, plK_at hn hv]
      unfold phi
      rw [if_pos hcy]
      refine mulR_c hL hv (fun m u hm hu => ?_) (fun _ _ _ _ => rfl)
      show rwK x 9 (ofs L m + u) = _
      rw [h9 _ (pl_W (by omega) hu), plK_at (by omega) hu]
  · rw [if_neg hcy]
    refine ⟨fun s w q9 q10 q11 hw => ?_, fun w hw => ?_⟩
    · rw [rsN_row hW hw, if_neg q9, rsN_row hW hw, if_neg q10, lt2_oth hW hc1 hw q11]
    · rw [rwK_rs hW hw, if_pos rfl]
      show rwK _ 10 w = _
      rw [rwK_rs hW hw, if_pos rfl, mulW_K]
      obtain ⟨n, v, hn, hv, rfl⟩ := pl_ex hw
      rw [mulK_at hn hv, plK_at hn hv]
      unfold phi
      rw [if_neg hcy]
      refine mulR_c hL hv (fun m u hm hu => ?_) (fun m u hm hu => ?_)
      · show kN _ = _
        rw [lt2_oth hW hc1 (pl_W (by omega) hu) (by decide)]
        show rwK x 9 (ofs L m + u) = _
        rw [h9 _ (pl_W (by omega) hu), plK_at (by omega) hu]
      · show rwK _ 11 (ofs L m + u) = _
        rw [lt2_row hW hd hc (by omega) hu, kN_1, km_1]
theorem rpI_K {y b n v : Nat} (hL : 1 ≤ L) (hW : ofs L (d + 1) ≤ 364) (hd : 1 ≤ d) (hb : b < 8) (hn : n ≤ d) : ∀ i, i ≤ n →
    (∀ s w, s ≠ 9 → s ≠ 10 → s ≠ 11 → w < ofs L (d + 1) → rpI L d y b n v x i (364 * s + w) = x (364 * s + w)) ∧ eqW L d (rwK (rpI L d y b n v x i) 9) (plK L d (Psi L (phi y (at2 L (rwK x b))) i (v / L ^ (n - i))))
  | 0, _ => by
    refine ⟨fun s w q9 q10 q11 hw => ?_, fun w hw => ?_⟩
    · show rsN (rsN x (364 * 9) (ofs L (d + 1)) (fun _ => 0)) (364 * 9) 1 (fun _ => 1) (364 * s + w) = _
      rw [rsN_out (by omega), rsN_row hW hw, if_neg q9]
    · show rwK (rsN (rsN x (364 * 9) (ofs L (d + 1)) (fun _ => 0)) (364 * 9) 1 (fun _ => 1)) 9 w = _
      obtain ⟨m, u, hm, hu, rfl⟩ := pl_ex hw
      rw [rwK_one (by omega), plK_at hm hu]
      show _ = if m = 0 then 1 else 0
      by_cases h0 : m = 0
      · rw [if_pos ⟨rfl, (ofs_0 hL hu).mpr h0⟩, if_pos h0]; rfl
      · rw [if_neg (fun z => h0 ((ofs_0 hL hu).mp z.2)), if_neg h0, rwK_rs hW hw, if_pos rfl]; rfl
  | i + 1, hi => by
    obtain ⟨i1, i2⟩ := rpI_K (y := y) (b := b) (n := n) (v := v) hL hW hd hb hn i (by omega)
    obtain ⟨k1, k2⟩ := rpL_K (y := y) (b := b) (c := ltr L n v i) hL hW hd (ltr_lt hL) hb i2
    refine ⟨fun s w q9 q10 q11 hw => ?_, fun w hw => ?_⟩
    · show rpL L d y b (ltr L n v i) (rpI L d y b n v x i) (364 * s + w) = _
      rw [k1 s w q9 q10 q11 hw, i1 s w q9 q10 q11 hw]
    · show rwK (rpL L d y b (ltr L n v i) (rpI L d y b n v x i)) 9 w = _
      rw [k2 w hw]
      obtain ⟨m, u, hm, hu, rfl⟩ := pl_ex hw
      rw [plK_at hm hu, plK_at hm hu]
      show _ = mulR L (Psi L _ i (v / L ^ (n - (i + 1)) / L)) (phi y (at2 L (rwK x b)) (v / L ^ (n - (i + 1)) % L)) m u
      rw [← dv_dv', show n - (i + 1) + 1 = n - i by omega]
      unfold ltr
      rw [show n - 1 - i = n - (i + 1) by omega]
      refine mulR_c hL hu (fun _ _ _ _ => rfl) (fun m' u' hm' hu' => ?_)
      unfold phi
      by_cases hc : v / L ^ (n - (i + 1)) % L = y
      · rw [if_pos hc, if_pos hc]
        show kN _ = kN _
        rw [i1 b _ (by omega) (by omega) (by omega) (pl_W (by omega) hu')]
      · rw [if_neg hc, if_neg hc]
theorem rpA_K {y a b : Nat} (hL : 1 ≤ L) (hW : ofs L (d + 1) ≤ 364) (hd : 1 ≤ d) (ha : a < 8) (hb : b < 8) (hx : ∀ j, j < 13104 → x j < PR) : ∀ w, w ≤ ofs L (d + 1) →
    (∀ s j, s < 8 → j < ofs L (d + 1) → rpA L d y a b x w (364 * s + j) = x (364 * s + j)) ∧ eqW L d (rwK (rpA L d y a b x w) 8) (fun j => ksum w (fun w => rwK x a w * plK L d (Psi L (phi y (at2 L (rwK x b))) (wlen L d w) (w - ofs L (wlen L d w))) j))
  | 0, _ => by
    refine ⟨fun s j hs hj => ?_, fun j hj => ?_⟩
    · show rsN x (364 * 8) (ofs L (d + 1)) (fun _ => 0) (364 * s + j) = _
      rw [rsN_row hW hj, if_neg (by omega)]
    · show rwK (rsN x (364 * 8) (ofs L (d + 1)) (fun _ => 0)) 8 j = 0
      rw [rwK_rs hW hj, if_pos rfl]; rfl
  | w + 1, hw => by
    obtain ⟨i1, i2⟩ := rpA_K (y := y) (a := a) (b := b) hL hW hd ha hb hx w (by omega)
    have ea : rpA L d y a b x w (364 * a + w) = x (364 * a + w) := i1 a w ha (by omega)
    have hdef : rpA L d y a b x (w + 1) = if rpA L d y a b x w (364 * a + w) = 0 then rpA L d y a b x w else rsN (rpI L d y b (wlen L d w) (w - ofs L (wlen L d w)) (rpA L d y a b x w) (wlen L d w)) (364 * 8) (ofs L (d + 1)) (fun j => (rpI L d y b (wlen L d w) (w - ofs L (wlen L d w)) (rpA L d y a b x w) (wlen L d w) (364 * 8 + j) + rpI L d y b (wlen L d w) (w - ofs L (wlen L d w)) (rpA L d y a b x w) (wlen L d w) (364 * 9 + j) * rpI L d y b (wlen L d w) (w - ofs L (wlen L d w)) (rpA L d y a b x w) (wlen L d w) (364 * a + w)) % PR) := rfl
    by_cases hz : x (364 * a + w) = 0
    · rw [hdef, if_pos (by rw [ea]; exact hz)]
      refine ⟨i1, fun j hj => ?_⟩
      rw [i2 j hj]
      show _ = ksum w _ + rwK x a w * _
      have : rwK x a w = 0 := by unfold rwK; rw [hz]; rfl
      rw [this, km_0, ka_0]
    · rw [hdef, if_neg (by rw [ea]; exact hz)]
      obtain ⟨k1, k2⟩ := rpI_K (L := L) (d := d) (x := rpA L d y a b x w) (y := y) (b := b) (n := wlen L d w) (v := w - ofs L (wlen L d w)) hL hW hd hb wlen_le (wlen L d w) (Nat.le_refl _)
      refine ⟨fun s j hs hj => ?_, fun j hj => ?_⟩
      · rw [rsN_row hW hj, if_neg (by omega), k1 s j (by omega) (by omega) (by omega) hj, i1 s j hs hj]
      · rw [rwK_rs hW hj, if_pos rfl, kN_mod, kN_add, kN_mul]
        show _ = ksum w _ + rwK x a w * _
        refine congr (congrArg _ ?_) ?_
        · rw [k1 8 j (by decide) (by decide) (by decide) hj]
          exact i2 j hj
        · rw [km_c, k1 a w (by omega) (by omega) (by omega) (by omega), ea]
          refine congrArg (kN (x (364 * a + w)) * ·) ?_
          show rwK _ 9 j = _
          rw [k2 j hj, Nat.sub_self, Nat.pow_zero, Nat.div_one]
          obtain ⟨m, u, hm, hu, rfl⟩ := pl_ex hj
          rw [plK_at hm hu, plK_at hm hu]
          have hPsi : ∀ n v N V, N ≤ d → V < L ^ N → Psi L (phi y (at2 L (rwK (rpA L d y a b x w) b))) n v N V = Psi L (phi y (at2 L (rwK x b))) n v N V := by
            intro n
            induction n with
            | zero => intro v N V _ _; rfl
            | succ n ih =>
              intro v N V hN hV
              show mulR L (Psi L _ n (v / L)) (phi y _ (v % L)) N V = mulR L (Psi L _ n (v / L)) (phi y _ (v % L)) N V
              refine mulR_c hL hV (fun m' u' hm' hu' => ih _ m' u' (by omega) hu') (fun m' u' hm' hu' => ?_)
              unfold phi
              by_cases hc : v % L = y
              · rw [if_pos hc, if_pos hc]
                show kN _ = kN _
                rw [i1 b _ hb (pl_W (by omega) hu')]
              · rw [if_neg hc, if_neg hc]
          exact hPsi _ _ m u hm hu
theorem rpX_K {y a b s s' w : Nat} (hL : 1 ≤ L) (hW : ofs L (d + 1) ≤ 364) (hd : 1 ≤ d) (ha : a < 8) (hb : b < 8) (hs' : s' < 8) (hx : ∀ j, j < 13104 → x j < PR) (hw : w < ofs L (d + 1)) : rwK (rsN (rpA L d y a b x (ofs L (d + 1))) (364 * s) (ofs L (d + 1)) (fun w => rpA L d y a b x (ofs L (d + 1)) (364 * 8 + w))) s' w = if s' = s then rpK L d y (rwK x a) (rwK x b) w else rwK x s' w := by
  obtain ⟨i1, i2⟩ := rpA_K (y := y) (a := a) (b := b) (x := x) hL hW hd ha hb hx (ofs L (d + 1)) (Nat.le_refl _)
  rw [rwK_rs hW hw]
  by_cases h : s' = s
  · rw [if_pos h, if_pos h]
    show rwK _ 8 w = _
    rw [i2 w hw]
    unfold rpK
    show ksum (ofs L (d + 1)) _ = _
    rw [ksum_pl]
    refine ksum_c (fun n hn => ksum_c (fun v hv => ?_))
    rw [wlen_of (by omega) hv, Nat.add_sub_cancel_left]
    rfl
  · rw [if_neg h, if_neg h]
    exact congrArg kN (i1 s' w hs' hw)
end RK
