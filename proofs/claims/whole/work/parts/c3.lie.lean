/-! LIE by Dynkin's way and by shares is the same; brackets with letters stay LIE; the first word of a LIE sum is a chief -/
def KR (L d : Nat) : Prop := (∀ n, n ≤ d → ∀ w, w < L ^ n → duW L n w = true) ∧ (∀ n, 1 ≤ n → n + 0 ≤ d → ∀ w, w < L ^ n → lieW L n w = true) ∧ ∀ n, 1 ≤ n → n + 1 ≤ d → ∀ w, w < L ^ n → lieX L n w = true
theorem nv_6 : ∀ n, n < 7 → 1 ≤ n → n * nv n % PR = 1 := by decide +kernel
theorem kn_inv {n : Nat} {a : Kf} (h1 : 1 ≤ n) (h6 : n ≤ 6) (h : a * kN n = 0) : a = 0 := by
  have e : kN n * kN (nv n) = 1 := by
    rw [← kN_mul, ← kN_mod, nv_6 n (by omega) h1]; rfl
  rw [← km_1 a, ← e, ← km_a, h, km_0]
theorem lsL_kc {F : Nat → Kf} {l : List (Nat × Nat)} {M : Nat} (h : ∀ q, q ∈ l → q.1 < M) : ksum M (fun u => F u * lsK l u) = lsL F l := by
  rw [ksum_c (fun u _ => km_c _ _), lsL_sum h]
section LI
variable {L d n : Nat} {A : Nat → Kf}
/-- shares, by what measures -/
def sA (L n : Nat) (A : Nat → Kf) (v : Nat) : Kf := ksum (L ^ n) (fun V => A V * sml L 8 n v V)
def vecN (L n : Nat) (A : Nat → Kf) : Nat → Nat := fun j => (A (j - ofs L n)).val
theorem vecN_K {V : Nat} : kN (vecN L n A (ofs L n + V)) = A V := by
  unfold vecN
  rw [Nat.add_sub_cancel_left, kN_val]
theorem sA_shr {v : Nat} (hL : 1 ≤ L) (h6 : n ≤ 6) (hn : n ≤ d) (hk : KR L d) (hv : v < L ^ n) : sA L n A v = shr L d (vecN L n A) (ofs L n + v) := by
  rw [← share_eq hL h6 hn hv (hk.1 n hn)]
  exact ksum_c (fun V _ => by rw [vecN_K])
theorem sA_rec {v : Nat} (hL : 1 ≤ L) (h6 : n ≤ 6) (hn : n ≤ d) (hk : KR L d) (hv : v < L ^ n) : sA L n A v + ksum v (fun w => sA L n A w * lsK (opL L n w) v) = A v := by
  have := shr_eq (L := L) (d := d) (g := vecN L n A) hn hv
  rw [vecN_K, ← sA_shr hL h6 hn hk hv, ksum_c (h := fun w => sA L n A w * lsK (opL L n w) v) (fun w hw => by rw [← sA_shr hL h6 hn hk (by omega), opL_K hL h6 hv])] at this
  exact this
theorem op_tri {w v : Nat} (hk : KR L d) (h1 : 1 ≤ n) (hn : n ≤ d) (hw : w < L ^ n) : (v < w → lsK (opL L n w) v = 0) ∧ lsK (opL L n w) w = 1 := by
  have h := hk.2.1 n h1 hn w hw
  unfold lieW at h
  rw [Bool.and_eq_true, Bool.and_eq_true] at h
  obtain ⟨⟨p1, p2⟩, -⟩ := h
  refine ⟨fun hv => lsK_no (fun q hq e => ?_), ?_⟩
  · have := Nat.le_of_ble_eq_true (List.all_eq_true.mp p1 q hq)
    omega
  · rw [← lkN_K, Nat.eq_of_beq_eq_true p2]; rfl
theorem sA_exp {v : Nat} (hL : 1 ≤ L) (h6 : n ≤ 6) (h1 : 1 ≤ n) (hn : n ≤ d) (hk : KR L d) (hv : v < L ^ n) : A v = ksum (L ^ n) (fun w => sA L n A w * lsK (opL L n w) v) := by
  rw [← sA_rec (A := A) hL h6 hn hk hv]
  obtain ⟨e, he⟩ : ∃ e, L ^ n = v + 1 + e := ⟨L ^ n - (v + 1), by omega⟩
  rw [he, ksum_app, ksum_z (n := e) (fun i hi => ?_), ka_0]
  · show _ = ksum v _ + sA L n A v * lsK (opL L n v) v
    rw [(op_tri (v := 0) hk h1 hn hv).2, km_1, ka_c]
  · rw [(op_tri (v := v) hk h1 hn (show v + 1 + i < L ^ n by omega)).1 (by omega), km_0']
theorem dyN_lin {M : Nat} {c : Nat → Kf} {p : Nat → Nat → Kf} : ∀ e V, dyN L (fun V => ksum M (fun w => c w * p w V)) e V = ksum M (fun w => c w * dyN L (p w) e V)
  | 0, V => rfl
  | e + 1, V => by
    show dyN L _ e V - dyN L _ e (laN L (e + 2) V) = _
    rw [dyN_lin e V, dyN_lin e]
    have : ∀ w, c w * dyN L (p w) (e + 1) V = c w * dyN L (p w) e V + (c w * dyN L (p w) e (laN L (e + 2) V)) * kN 2147483646 := fun w => by
      show c w * (dyN L (p w) e V - dyN L (p w) e (laN L (e + 2) V)) = _
      rw [ks_n, kd_l, k_m1, kn_m', kn_m', km_1]
    rw [ksum_c (fun w _ => this w), ksum_a, ksum_mr, ks_n, k_m1, kn_m', km_1]
theorem dyN_c {B : Nat → Kf} (hL : 1 ≤ L) (h : ∀ w, w < L ^ n → A w = B w) : ∀ e, e + 1 ≤ n → ∀ w, w < L ^ n → dyN L A e w = dyN L B e w
  | 0, _, w, hw => h w hw
  | e + 1, he, w, hw => by
    show dyN L A e w - dyN L A e _ = dyN L B e w - dyN L B e _
    rw [dyN_c hL h e (by omega) w hw, dyN_c hL h e (by omega) _ (laN_lt hL (by omega) (by omega) hw)]
theorem lieD_c {B : Nat → Kf} (hL : 1 ≤ L) (h1 : 1 ≤ n) (h : ∀ w, w < L ^ n → A w = B w) (hA : lieD L n A) : lieD L n B := fun w hw => by
  rw [← dyN_c hL h (n - 1) (by omega) w hw, hA w hw, h w hw]
theorem lie_sh (hL : 1 ≤ L) (h6 : n ≤ 6) (h1 : 1 ≤ n) (hn : n ≤ d) (hk : KR L d) (hA : lieD L n A) {w : Nat} (hw : w < L ^ n) (hc : chf L n w = false) : sA L n A w = 0 := by
  obtain ⟨s1, s2⟩ := spS_K hL 8 n w (by omega) h6 hw
  have h := hk.2.1 n h1 hn w hw
  unfold lieW at h
  rw [Bool.and_eq_true, hc] at h
  refine kn_inv h1 h6 ?_
  have e1 : sA L n A w = lsL A (spS L 8 n w) := by
    unfold sA
    rw [ksum_c (fun V hV => by rw [← s2 V hV]), lsL_kc s1]
  rw [e1, ← lsL_mlc, lsL_c (G := dyN L A (n - 1)) (fun q hq => (hA q.1 (s1 q hq)).symm), dyT_K]
  exact zrL_K h.2
theorem lie_of (hL : 1 ≤ L) (h6 : n ≤ 6) (h1 : 1 ≤ n) (hn : n ≤ d) (hk : KR L d) (hA : ∀ w, w < L ^ n → chf L n w = false → sA L n A w = 0) : lieD L n A := by
  refine lieD_c (A := fun V => ksum (L ^ n) (fun w => sA L n A w * lsK (opL L n w) V)) hL h1 (fun w hw => (sA_exp hL h6 h1 hn hk hw).symm) (fun V hV => ?_)
  rw [dyN_lin, ← ksum_mr]
  refine ksum_c (fun w hw => ?_)
  rw [km_a]
  cases hc : chf L n w with
  | false => rw [hA w hw hc, km_0, km_0]
  | true =>
    have h := hk.2.1 n h1 hn w hw
    unfold lieW at h
    rw [Bool.and_eq_true, hc] at h
    rw [lieQ_K hL h6 h.2 V hV]
/-- a letter's bracket with a sum of words of one length -/
def brX (L n x : Nat) (u : Nat → Kf) : Nat → Kf := fun w => (if w / L ^ n = x then u (w % L ^ n) else 0) + (if w % L = x then u (w / L) else 0) * kN 2147483646
theorem brX_lin {x M : Nat} {c : Nat → Kf} {p : Nat → Nat → Kf} (V : Nat) : brX L n x (fun V => ksum M (fun w => c w * p w V)) V = ksum M (fun w => c w * brX L n x (p w) V) := by
  have e : ∀ w, c w * brX L n x (p w) V = c w * (if V / L ^ n = x then p w (V % L ^ n) else 0) + c w * (if V % L = x then p w (V / L) else 0) * kN 2147483646 := fun w => by
    unfold brX
    rw [kd_l, km_a]
  rw [ksum_c (fun w _ => e w), ksum_a, ksum_mr]
  unfold brX
  refine congr (congrArg _ ?_) (congrArg (· * kN 2147483646) ?_)
  · by_cases h : V / L ^ n = x
    · rw [if_pos h]
      exact ksum_c (fun w _ => by rw [if_pos h])
    · rw [if_neg h]
      exact (ksum_z (fun w _ => by rw [if_neg h, km_0'])).symm
  · by_cases h : V % L = x
    · rw [if_pos h]
      exact ksum_c (fun w _ => by rw [if_pos h])
    · rw [if_neg h]
      exact (ksum_z (fun w _ => by rw [if_neg h, km_0'])).symm
theorem brX_c {x : Nat} {B : Nat → Kf} (hL : 1 ≤ L) (h : ∀ w, w < L ^ n → A w = B w) {V : Nat} (hV : V < L ^ (n + 1)) : brX L n x A V = brX L n x B V := by
  have h1 : V % L ^ n < L ^ n := Nat.mod_lt _ (Nat.pow_pos hL)
  have h2 : V / L < L ^ n := by rw [Nat.div_lt_iff_lt_mul hL, ← Nat.pow_succ]; exact hV
  unfold brX
  rw [h _ h1, h _ h2]
theorem lie_br {x : Nat} (hL : 1 ≤ L) (h6 : n + 1 ≤ 6) (h1 : 1 ≤ n) (hn : n + 1 ≤ d) (hx : x < L) (hk : KR L d) (hA : lieD L n A) : lieD L (n + 1) (brX L n x A) := by
  refine lieD_c (A := fun V => ksum (L ^ n) (fun w => sA L n A w * brX L n x (lsK (opL L n w)) V)) hL (by omega) (fun V hV => ?_) (fun V hV => ?_)
  · rw [← brX_lin, brX_c hL (fun w hw => (sA_exp (A := A) hL (by omega) h1 (by omega) hk hw).symm) hV]
  · rw [dyN_lin, ← ksum_mr]
    refine ksum_c (fun w hw => ?_)
    rw [km_a]
    cases hc : chf L n w with
    | false => rw [lie_sh hL (by omega) h1 (by omega) hk hA hw hc, km_0, km_0]
    | true =>
      have h := hk.2.2 n h1 hn w hw
      unfold lieX at h
      rw [hc] at h
      have h2 := lieQ_K hL h6 (rgA_of h x (Nat.zero_le _) (by omega))
      have e : ∀ V, lsK (nmL (prL (L ^ n) [(x, 1)] (opL L n w) ++ mcL 2147483646 (prL L (opL L n w) [(x, 1)]))) V = brX L n x (lsK (opL L n w)) V := fun V => by
        rw [lsK_nm, lsK_app, lsK_mc, prL_K (fun b hb => opL_lt hL (by omega) hb), prL_K (fun b hb => by rw [show b = (x, 1) from List.mem_singleton.mp hb]; exact hx)]
        unfold brX
        show ((if V / L ^ n = x then kN 1 else 0) + 0) * lsK (opL L n w) (V % L ^ n) + lsK (opL L n w) (V / L) * ((if V % L = x then kN 1 else 0) + 0) * kN 2147483646 = _
        rw [ka_0, ka_0]
        refine congr (congrArg _ ?_) (congrArg (· * kN 2147483646) ?_)
        · by_cases h : V / L ^ n = x
          · rw [if_pos h, if_pos h, kN_1, km_1']
          · rw [if_neg h, if_neg h, km_0]
        · by_cases h : V % L = x
          · rw [if_pos h, if_pos h, kN_1, km_1]
          · rw [if_neg h, if_neg h, km_0']
      have h3 := lieD_c hL (by omega) (fun w _ => e w) h2
      rw [h3 V hV]
theorem lie_lead {p : Nat} (hL : 1 ≤ L) (h6 : n ≤ 6) (h1 : 1 ≤ n) (hn : n ≤ d) (hk : KR L d) (hA : lieD L n A) (hp : p < L ^ n) (h0 : ∀ w, w < p → A w = 0) (hne : A p ≠ 0) : chf L n p = true := by
  cases hc : chf L n p with
  | true => rfl
  | false =>
    exfalso
    have hz : ∀ w, w < p → sA L n A w = 0 := by
      intro w
      induction w using Nat.strongRecOn with
      | ind w ih =>
        intro hw
        have := sA_rec (A := A) hL h6 hn hk (show w < L ^ n by omega)
        rw [h0 w hw, ksum_z (fun i hi => by rw [ih i hi (by omega), km_0]), ka_0] at this
        exact this
    have := sA_rec (A := A) hL h6 hn hk hp
    rw [ksum_z (fun i hi => by rw [hz i hi, km_0]), ka_0, lie_sh hL h6 h1 hn hk hA hp hc] at this
    exact hne this.symm
/-- the class's LIE is the reference's -/
theorem lieC_iff {f : Nat → Nat} (hL : 1 ≤ L) (h6 : d ≤ 6) (hd : 1 ≤ d) (hk : KR L d) : lieC L d (fun w => kN (f w)) ↔ ∀ w, w < ofs L (d + 1) → shr L d f w = 0 ∨ cfP L d w = true := by
  have e0 : shr L d f 0 = kN (f 0) := by
    have := shr_eq (L := L) (d := d) (g := f) (n := 0) (v := 0) (Nat.zero_le _) (by rw [Nat.pow_zero]; decide)
    have e : shr L d f 0 + 0 = kN (f 0) := this
    rwa [ka_0] at e
  have es : ∀ n v, n ≤ d → v < L ^ n → shr L d f (ofs L n + v) = sA L n (fun w => kN (f (ofs L n + w))) v := fun n v hn hv => by
    rw [← share_eq hL (by omega) hn hv (hk.1 n hn)]
    rfl
  constructor
  · rintro ⟨h0, h1⟩ w hw
    obtain ⟨n, v, hn, hv, rfl⟩ := pl_ex hw
    by_cases hn0 : n = 0
    · subst hn0
      rw [Nat.pow_zero] at hv
      have : v = 0 := by omega
      subst this
      left
      exact e0.trans h0
    · rw [cfP_of (by omega) hn hv]
      cases hc : chf L n v with
      | true => right; rfl
      | false =>
        left
        rw [es n v hn hv]
        have h2 : 2 ≤ n := by
          by_cases e : n = 1
          · subst e
            rw [chf_1] at hc
            exact absurd hc (by decide)
          · omega
        exact lie_sh hL (by omega) (by omega) hn hk (h1 n h2 hn) hv hc
  · intro h
    refine ⟨?_, fun n h2 hn => ?_⟩
    · have hW := pl_W (L := L) (d := d) (n := 0) (v := 0) (by omega) (by rw [Nat.pow_zero]; decide)
      rcases h 0 hW with q | q
      · show kN (f 0) = 0
        rw [← e0]; exact q
      · unfold cfP at q
        rw [Bool.and_eq_true] at q
        exact absurd (of_decide_eq_true q.1) (by omega)
    · refine lie_of hL (by omega) (by omega) hn hk (fun w hw hc => ?_)
      rcases h (ofs L n + w) (pl_W hn hw) with q | q
      · rw [es n w hn hw] at q; exact q
      · rw [cfP_of (by omega) hn hw, hc] at q
        exact absurd q (by decide)
end LI
