/-! the class's brackets of chiefs, and their texts -/
theorem div_pow_lt' {L m k e : Nat} (hL : 1 ≤ L) (hk : k ≤ m) (he : e < L ^ m) : e / L ^ (m - k) < L ^ k := div_pow_lt hL hk he
section CB
variable {L d : Nat} {Ln : Nat → Nat}
/-- a sum with words of one length only -/
def hom (n : Nat) (A : Nat → Kf) : Nat → Nat → Kf := fun N V => if N = n then A V else 0
theorem mulR_hom {n m N V : Nat} {A B : Nat → Kf} : mulR L (hom n A) (hom m B) N V = hom (n + m) (fun V => A (V / L ^ m) * B (V % L ^ m)) N V := by
  unfold mulR hom
  rw [ksum_c (h := fun k => if k = m then (if N = n + m then A (V / L ^ m) * B (V % L ^ m) else 0) else 0) (fun k hk => ?_), ksum_if]
  · by_cases h : N = n + m
    · rw [if_pos (show m < N + 1 by omega)]
    · rw [if_neg h, ite_self]
  · by_cases h1 : k = m
    · subst h1
      by_cases h2 : N = n + k
      · rw [if_pos h2, if_pos (show N - k = n by omega), if_pos rfl, if_pos rfl]
      · rw [if_neg h2, if_neg (show ¬ N - k = n by omega), km_0, ite_self]
    · rw [if_neg h1, if_neg h1, km_0']
def bsK (L n v : Nat) : Nat → Kf := fun u => kN (bas L n n v u)
theorem brk_K {A B : Nat → Nat} {n m v : Nat} : kN (brk L A B n m v) = kN (A (v / L ^ m)) * kN (B (v % L ^ m)) + kN (B (v / L ^ n)) * kN (A (v % L ^ n)) * kN 2147483646 := by
  unfold brk
  rw [kN_mod, kN_add, kN_mod, kN_mul, kN_neg (Nat.le_of_lt (Nat.mod_lt _ (by decide))), kN_mod, kN_mul, k_m1, kn_m', km_1]
theorem bsK_n {n v : Nat} (h : 2 ≤ n) : bsK L n v = fun u => bsK L (sd L n v) (v / L ^ (n - sd L n v)) (u / L ^ (n - sd L n v)) * bsK L (n - sd L n v) (v % L ^ (n - sd L n v)) (u % L ^ (n - sd L n v)) + bsK L (n - sd L n v) (v % L ^ (n - sd L n v)) (u / L ^ sd L n v) * bsK L (sd L n v) (v / L ^ (n - sd L n v)) (u % L ^ sd L n v) * kN 2147483646 := by
  funext u
  unfold bsK
  rw [bas_n h, brk_K]
def kX (n lv : Nat) : Nat → Prop := fun k => k = 3 ∨ (15 + lv ≤ k ∧ k < 15 + lv + n)
theorem mulK_pl {F G : Nat → Nat → Kf} {f h : Nat → Kf} (hL : 1 ≤ L) (hf : eqW L d f (plK L d F)) (hh : eqW L d h (plK L d G)) : eqW L d (mulK L d f h) (plK L d (mulR L F G)) := fun w hw => by
  rw [mulK_c hL hf hh w hw]
  obtain ⟨n, v, hn, hv, rfl⟩ := pl_ex hw
  rw [mulK_at hn hv, plK_at hn hv]
  exact mulR_c hL hv (fun m u hm hu => plK_at (by omega) hu) (fun m u hm hu => plK_at (by omega) hu)
theorem side_nn {n v w : Nat} (h : cf_ok L d) (h2 : 2 ≤ n) (hn : n ≤ d) (hv : v < L ^ n) : ¬ sideI L d n v w < 0 := by
  have hL := cf_L h
  have hs := sd_spec (L := L) (v := v) h2
  have hl : lfP L n v ≤ ofs L (d + 1) := by
    refine Nat.le_of_lt (pl_W (by omega) ?_)
    exact div_pow_lt' (by omega) (by omega) hv
  have hr : rgP L n v ≤ ofs L (d + 1) := Nat.le_of_lt (pl_W (by omega) (Nat.mod_lt _ (Nat.pow_pos (by omega))))
  have c1 := cnt_99 h hl
  have c2 := cnt_99 h hr
  unfold sideI
  rw [if_neg (by omega)]
  by_cases e : w = 0
  · rw [if_pos e]; exact nI_pos (by omega)
  · rw [if_neg e]; exact nI_pos (by omega)
theorem cq_weave : ∀ f n v lv (S : cs_T) (g : Nat → Nat → Kf) (Q : cs_T → Prop), n ≤ f → 1 ≤ n → n ≤ d → v < L ^ n → chf L n v = true → lv + n < 18 → cv L d Ln S g → cch L d Ln S →
    (∀ S' g', upK kV S S' → cv L d Ln S' g' → fr (kX n lv) g g' → eqW L d (g' (15 + lv)) (plK L d (hom n (bsK L n v))) → Q S') → wp_X1_weave Ln f S (nI (cnt L d (ofs L n + v))) (nI lv) Q := by
  intro f
  induction f with
  | zero => intro n v lv S g Q hf h1; omega
  | succ f ih =>
    intro n v lv S g Q hf h1 hn hv hch hlv h hc hq
    have hcf := h.1.1
    have hd := cf_d hcf
    have hL := cf_L hcf
    have hW := cv_W h
    have hC := chC_98 hcf
    have hcl : (nI lv).toNatClampNeg = lv := nI_clamp (by omega)
    have hks : kV (15 + lv) := by unfold kV; omega
    have hi := cnt_lt (b := ofs L (d + 1)) h1 hn hv hch (pl_W hn hv)
    have hcl2 : (nI (cnt L d (ofs L n + v))).toNatClampNeg = cnt L d (ofs L n + v) := nI_clamp (by unfold chC at hC; omega)
    have hrow := hc.2.2.2.2.2.2 n v h1 hn hv hch
    have hin34 : vp_in (nI (cnt L d (ofs L n + v))) (Ln 34) := by rw [hc.2.1]; exact vp_in_nI hi (by omega)
    have hin35 : vp_in (nI (cnt L d (ofs L n + v))) (Ln 35) := by rw [hc.2.2.1]; exact vp_in_nI hi (by omega)
    have hin33 : vp_in (nI (cnt L d (ofs L n + v))) (Ln 33) := by rw [hc.1]; exact vp_in_nI hi (by omega)
    refine ⟨vp_in_nI (by omega) (by decide), hin34, ?_⟩
    rw [hcl2, hrow.2.1, hcl]
    by_cases hn1 : n = 1
    · subst hn1
      refine ⟨fun _ => ?_, fun z => absurd (by show (-1 : Int32) < 0; decide) z⟩
      refine cq_fill h hks (fun S1 hu1 hc1 => ?_)
      have hrow1 := (cch_up hc (upK_W hu1)).2.2.2.2.2.2 1 v h1 hn hv hch
      have hvW : ofs L 1 + v < ofs L (d + 1) := pl_W hn hv
      refine ⟨hin33, kV_47 hks, ?_⟩
      rw [hcl2, hrow1.1]
      refine ⟨cv_in hc1 hks hvW, ?_⟩
      rw [nI_clamp (by omega)]
      have hs := cv_s' (p := ofs L 1 + v) (c := 1) (r' := fun j => if j = ofs L 1 + v then 1 else 0) hc1 hks (fun j _ => rfl)
      refine hq _ _ (upK_tr hu1 hs.1) hs.2 (fr_u (Or.inr ⟨Nat.le_refl _, by omega⟩)) (fun w hw => ?_)
      rw [va_up_self]
      obtain ⟨N, V, hN, hV, rfl⟩ := pl_ex hw
      rw [plK_at hN hV]
      unfold hom bsK
      by_cases e : ofs L N + V = ofs L 1 + v
      · obtain ⟨rfl, rfl⟩ := place_inj hV hv e
        rw [if_pos rfl, if_pos rfl, bas_1, if_pos rfl]; rfl
      · rw [if_neg e]
        by_cases e2 : N = 1
        · subst e2
          rw [if_pos rfl, bas_1, if_neg (fun z => e (by rw [z]))]; rfl
        · rw [if_neg e2]
    · have h2 : 2 ≤ n := by omega
      have hs := sd_spec (L := L) (v := v) h2
      have hstd := std_ok hcf h2 hn hv hch
      have hdl : v / L ^ (n - sd L n v) < L ^ sd L n v := div_pow_lt' (by omega) (by omega) hv
      have hmr : v % L ^ (n - sd L n v) < L ^ (n - sd L n v) := Nat.mod_lt _ (Nat.pow_pos (by omega))
      have ea : sideI L d n v 0 = nI (cnt L d (ofs L (sd L n v) + v / L ^ (n - sd L n v))) := by
        unfold sideI lfP
        rw [if_neg hn1, if_pos rfl]
      have eb : sideI L d n v 1 = nI (cnt L d (ofs L (n - sd L n v) + v % L ^ (n - sd L n v))) := by
        unfold sideI rgP
        rw [if_neg hn1, if_neg (by decide)]
      have hkn : kV (15 + (lv + 1)) := by unfold kV; omega
      refine ⟨fun z => absurd z (side_nn hcf h2 hn hv), fun _ => ⟨hin35, ?_⟩⟩
      rw [hrow.2.2]
      refine ⟨fun z => absurd z (side_nn hcf h2 hn hv), fun _ => ⟨fun _ => ⟨hin34, ?_⟩, fun z => absurd (by rw [nI_1]; exact nI_lt (by omega) (by decide)) z⟩⟩
      rw [ea]
      refine ih (sd L n v) (v / L ^ (n - sd L n v)) lv S g _ (by omega) (by omega) (by omega) hdl hstd (by omega) h hc (fun S1 g1 hu1 hc1 hf1 hr1 => ⟨hin35, ?_⟩)
      have hch1 := cch_up hc (upK_W hu1)
      rw [(hch1.2.2.2.2.2.2 n v h1 hn hv hch).2.2, eb, nI_1]
      refine ih (n - sd L n v) (v % L ^ (n - sd L n v)) (lv + 1) S1 g1 _ (by omega) (by omega) (by omega) hmr hs.2.2.1 (by omega) hc1 hch1 (fun S2 g2 hu2 hc2 hf2 hr2 => ⟨vp_in_nI (by omega) (by decide), ?_⟩)
      rw [nI_clamp (show lv + 1 < 2 ^ 31 by omega)]
      refine cq_commute hc2 hks hks hkn (by omega) (by omega) (fun S3 g3 hu3 hc3 hf3 ht3 => ?_)
      have e15 : g2 (15 + lv) = g1 (15 + lv) := hf2 _ (by unfold kX; omega)
      refine hq S3 g3 (upK_tr hu1 (upK_tr hu2 hu3)) hc3 ?_ (fun w hw => ?_)
      · refine fr_tr (fr_tr (fr_w hf1 ?_) (fr_w hf2 ?_)) (fr_w hf3 ?_) <;> intro k hk <;> unfold kX at * <;> omega
      · rw [ht3]
        have m1 := mulK_pl (f := g2 (15 + lv)) (h := g2 (15 + (lv + 1))) (show 1 ≤ L by omega) (fun j hj => by rw [e15]; exact hr1 j hj) hr2 w hw
        have m2 := mulK_pl (f := g2 (15 + (lv + 1))) (h := g2 (15 + lv)) (show 1 ≤ L by omega) hr2 (fun j hj => by rw [e15]; exact hr1 j hj) w hw
        show mulK L d (g2 (15 + lv)) (g2 (15 + (lv + 1))) w + mulK L d (g2 (15 + (lv + 1))) (g2 (15 + lv)) w * kN 2147483646 = _
        rw [m1, m2]
        obtain ⟨N, V, hN, hV, rfl⟩ := pl_ex hw
        rw [plK_at hN hV, plK_at hN hV, plK_at hN hV, mulR_hom, mulR_hom, bsK_n h2]
        unfold hom
        rw [show sd L n v + (n - sd L n v) = n by omega, show n - sd L n v + sd L n v = n by omega]
        by_cases e : N = n
        · rw [if_pos e, if_pos e, if_pos e]
        · rw [if_neg e, if_neg e, if_neg e, km_0, ka_0]
end CB
