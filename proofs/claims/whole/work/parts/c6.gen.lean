/-! all that laws bring about -/
section GN
variable {L d : Nat}
def gnV (L K : Nat) (ns : Nat → Nat) (vs : Nat → Nat → Kf) : Nat → (Nat → Kf) → Prop
  | 0, v => v 0 = 0
  | n + 1, v => ∃ (u : Nat → Nat → Kf) (c : Nat → Kf), (∀ x, x < L → gnV L K ns vs n (u x)) ∧ ∀ w, w < L ^ (n + 1) → v w = ksum L (fun x => brX L n x (u x) w) + ksum K (fun k => if ns k = n + 1 then c k * vs k w else 0)
variable {K : Nat} {ns : Nat → Nat} {vs : Nat → Nat → Kf}
theorem gn_c : ∀ {n : Nat} {v v' : Nat → Kf}, gnV L K ns vs n v → (∀ w, w < L ^ n → v w = v' w) → gnV L K ns vs n v'
  | 0, v, v', h, e => by
    have := e 0 (by rw [Nat.pow_zero]; decide)
    exact this.symm.trans h
  | n + 1, v, v', ⟨u, c, h1, h2⟩, e => ⟨u, c, h1, fun w hw => by rw [← e w hw, h2 w hw]⟩
theorem gn_sum (hL : 1 ≤ L) : ∀ {n N : Nat} {c : Nat → Kf} {r : Nat → Nat → Kf}, (∀ i, i < N → gnV L K ns vs n (r i)) → gnV L K ns vs n (fun w => ksum N (fun i => c i * r i w))
  | 0, N, c, r, h => by
    show ksum N (fun i => c i * r i 0) = 0
    exact ksum_z (fun i hi => by rw [show r i 0 = 0 from h i hi, km_0'])
  | n + 1, N, c, r, h => by
    refine ⟨fun x w => ksum N (fun i => c i * (if hi : i < N then Classical.choose (h i hi) x w else 0)), fun k => ksum N (fun i => c i * (if hi : i < N then Classical.choose (Classical.choose_spec (h i hi)) k else 0)), fun x hx => ?_, fun w hw => ?_⟩
    · refine gn_sum hL (fun i hi => ?_)
      refine gn_c ((Classical.choose_spec (Classical.choose_spec (h i hi))).1 x hx) (fun w _ => ?_)
      rw [dif_pos hi]
    · show ksum N (fun i => c i * r i w) = _
      have e1 : ∀ i, i < N → c i * r i w = c i * ksum L (fun x => brX L n x (fun w => if hi : i < N then Classical.choose (h i hi) x w else 0) w) + c i * ksum K (fun k => if ns k = n + 1 then (if hi : i < N then Classical.choose (Classical.choose_spec (h i hi)) k else 0) * vs k w else 0) := fun i hi => by
        rw [(Classical.choose_spec (Classical.choose_spec (h i hi))).2 w hw, kd_l]
        refine congr (congrArg _ ?_) ?_
        · refine congrArg (c i * ·) (ksum_c (fun x _ => brX_c hL (fun z _ => ?_) hw))
          rw [dif_pos hi]
        · refine congrArg (c i * ·) (ksum_c (fun k _ => ?_))
          rw [dif_pos hi]
      rw [ksum_c e1, ksum_a]
      refine congr (congrArg _ ?_) ?_
      · rw [ksum_c (h := fun i => ksum L (fun x => c i * brX L n x (fun w => if hi : i < N then Classical.choose (h i hi) x w else 0) w)) (fun i _ => ksum_ml.symm), ksum_sw]
        refine ksum_c (fun x _ => ?_)
        rw [← brX_lin]
      · rw [ksum_c (h := fun i => ksum K (fun k => c i * (if ns k = n + 1 then (if hi : i < N then Classical.choose (Classical.choose_spec (h i hi)) k else 0) * vs k w else 0))) (fun i _ => ksum_ml.symm), ksum_sw]
        refine ksum_c (fun k _ => ?_)
        by_cases e : ns k = n + 1
        · rw [if_pos e, ← ksum_mr]
          refine ksum_c (fun i _ => ?_)
          rw [if_pos e, km_a]
        · rw [if_neg e]
          exact ksum_z (fun i _ => by rw [if_neg e, km_0'])
theorem gn_0 (hL : 1 ≤ L) (n : Nat) : gnV L K ns vs n (fun _ => 0) := gn_sum hL (N := 0) (c := fun _ => 0) (r := fun _ _ => 0) (fun i hi => by omega)
theorem brX_0 {n x w : Nat} : brX L n x (fun _ => 0) w = 0 := by
  unfold brX
  rw [ite_self, ite_self, km_0, ka_0]
theorem gn_br {n x : Nat} {u : Nat → Kf} (hL : 1 ≤ L) (hx : x < L) (h : gnV L K ns vs n u) : gnV L K ns vs (n + 1) (brX L n x u) := by
  refine ⟨fun y => if y = x then u else fun _ => 0, fun _ => 0, fun y hy => ?_, fun w hw => ?_⟩
  · dsimp only
    by_cases e : y = x
    · rw [if_pos e]; exact h
    · rw [if_neg e]; exact gn_0 hL n
  · dsimp only
    have e1 : ksum L (fun y => brX L n y (if y = x then u else fun _ => 0) w) = brX L n x u w := by
      rw [ksum_c (h := fun y => if y = x then brX L n y u w else 0) (fun y _ => ?_), ksum_if, if_pos hx]
      by_cases e : y = x
      · rw [if_pos e, if_pos e]
      · rw [if_neg e, if_neg e, brX_0]
    have e2 : ksum K (fun k => if ns k = n + 1 then 0 * vs k w else 0) = 0 := ksum_z (fun k _ => by rw [km_0, ite_self])
    rw [e1, e2, ka_0]
theorem gn_law {n k : Nat} (hL : 1 ≤ L) (hk : k < K) (hn : ns k = n + 1) : gnV L K ns vs (n + 1) (vs k) := by
  refine ⟨fun _ _ => 0, fun j => if j = k then 1 else 0, fun y hy => gn_0 hL n, fun w hw => ?_⟩
  dsimp only
  rw [ksum_z (fun y _ => brX_0), ka_0', ksum_c (h := fun j => if j = k then vs j w else 0) (fun j _ => ?_), ksum_if, if_pos hk]
  by_cases e : j = k
  · rw [if_pos e, if_pos (by rw [e]; exact hn), if_pos e, km_1']
  · rw [if_neg e, if_neg e, km_0, ite_self]
theorem gn_mono {K' : Nat} {ns' : Nat → Nat} {vs' : Nat → Nat → Kf} (hL : 1 ≤ L) (hK : K ≤ K') (hn : ∀ k, k < K → ns' k = ns k) (hv : ∀ k, k < K → vs' k = vs k) : ∀ {n : Nat} {v : Nat → Kf}, gnV L K ns vs n v → gnV L K' ns' vs' n v
  | 0, v, h => h
  | n + 1, v, ⟨u, c, h1, h2⟩ => by
    refine ⟨u, fun k => if k < K then c k else 0, fun x hx => gn_mono hL hK hn hv (h1 x hx), fun w hw => ?_⟩
    rw [h2 w hw, ksum_lt hK]
    refine congrArg (_ + ·) (ksum_c (fun k _ => ?_))
    dsimp only
    by_cases e : k < K
    · rw [if_pos e, hn k e, hv k e, if_pos e]
    · rw [if_neg e, if_neg e, km_0, ite_self]
theorem lieD_sum {n N : Nat} {c : Nat → Kf} {r : Nat → Nat → Kf} (h : ∀ i, i < N → lieD L n (r i)) : lieD L n (fun w => ksum N (fun i => c i * r i w)) := fun w hw => by
  rw [dyN_lin]
  show _ = ksum N (fun i => c i * r i w) * kN n
  rw [← ksum_mr]
  exact ksum_c (fun i hi => by rw [h i hi w hw, km_a])
theorem dyN_add {A B : Nat → Kf} : ∀ e V, dyN L (fun w => A w + B w) e V = dyN L A e V + dyN L B e V
  | 0, V => rfl
  | e + 1, V => by
    show dyN L (fun w => A w + B w) e V - dyN L (fun w => A w + B w) e (laN L (e + 2) V) = (dyN L A e V - dyN L A e (laN L (e + 2) V)) + (dyN L B e V - dyN L B e (laN L (e + 2) V))
    rw [dyN_add e V, dyN_add e, ks_n, ks_n, ks_n, kn_a, ka_4]
theorem lieD_add {n : Nat} {A B : Nat → Kf} (hA : lieD L n A) (hB : lieD L n B) : lieD L n (fun w => A w + B w) := fun w hw => by
  rw [dyN_add, hA w hw, hB w hw, kd_r]
theorem gn_lie (hL : 1 ≤ L) (h6 : d ≤ 6) (hk : KR L d) (hlw : ∀ k, k < K → 1 ≤ ns k ∧ lieD L (ns k) (vs k)) : ∀ {n : Nat} {v : Nat → Kf}, 1 ≤ n → n ≤ d → gnV L K ns vs n v → lieD L n v
  | 0, v, h1, _, _ => by omega
  | n + 1, v, h1, hn, ⟨u, c, hu, hv⟩ => by
    have part1 : ∀ x, x < L → lieD L (n + 1) (brX L n x (u x)) := fun x hx => by
      by_cases h0 : n = 0
      · subst h0
        have hz : u x 0 = 0 := hu x hx
        refine lieD_c (A := fun _ => 0) hL (by omega) (fun w hw => ?_) (fun w hw => ?_)
        · unfold brX
          rw [Nat.pow_zero, Nat.mod_one, Nat.div_one, hz]
          rw [Nat.zero_add, Nat.pow_one] at hw
          rw [Nat.div_eq_of_lt hw, hz, ite_self, ite_self, km_0, ka_0]
        · show (0 : Kf) = 0 * _
          rw [km_0]
      · exact lie_br hL (by omega) (by omega) hn hx hk (gn_lie hL h6 hk hlw (by omega) (by omega) (hu x hx))
    have s1 := lieD_sum (L := L) (n := n + 1) (N := L) (c := fun _ => 1) (r := fun x => brX L n x (u x)) part1
    have s2 := lieD_sum (L := L) (n := n + 1) (N := K) (c := fun k => if ns k = n + 1 then c k else 0) (r := fun k => if ns k = n + 1 then vs k else fun _ => 0) (fun k hk' => by
      by_cases e : ns k = n + 1
      · rw [if_pos e, ← e]; exact (hlw k hk').2
      · rw [if_neg e]
        intro w hw
        rw [dyN_0 hL (n := n + 1) (fun _ _ => rfl) (n + 1 - 1) (by omega) w hw, km_0])
    refine lieD_c hL (by omega) (fun w hw => ?_) (lieD_add s1 s2)
    rw [hv w hw]
    refine congr (congrArg _ (ksum_c (fun x _ => km_1' _))) (ksum_c (fun k _ => ?_))
    by_cases e : ns k = n + 1
    · rw [if_pos e, if_pos e, if_pos e]
    · rw [if_neg e, if_neg e, if_neg e, km_0]
/-- rows of LIE sums are no more than the chiefs of the length -/
theorem ech_chf {n k : Nat} {r : Nat → Nat → Kf} {p : Nat → Nat} (hL : 1 ≤ L) (h6 : d ≤ 6) (h1 : 1 ≤ n) (hn : n ≤ d) (hk : KR L d) (h : ech (L ^ n) k r p) (hl : ∀ i, i < k → lieD L n (r i)) : k ≤ cnt L d (ofs L (n + 1)) - cnt L d (ofs L n) := by
  have hc : ∀ i, i < k → chf L n (p i) = true := fun i hi => by
    have hp := h.1 i hi
    exact lie_lead hL (by omega) h1 hn hk (hl i hi) hp.1 hp.2.2 (by rw [hp.2.1]; exact k_10)
  refine inj_le _ k (fun i => cnt L d (ofs L n + p i) - cnt L d (ofs L n)) (fun i hi => ?_) (fun i j hi hj e => ?_)
  · have a1 : cnt L d (ofs L n + p i) < cnt L d (ofs L (n + 1)) := cnt_lt h1 hn (h.1 i hi).1 (hc i hi) (by show _ < ofs L n + L ^ n; have := (h.1 i hi).1; omega)
    have a2 : cnt L d (ofs L n) ≤ cnt L d (ofs L n + p i) := cnt_mono (by omega)
    show cnt L d (ofs L n + p i) - cnt L d (ofs L n) < _
    omega
  · have e' : cnt L d (ofs L n + p i) - cnt L d (ofs L n) = cnt L d (ofs L n + p j) - cnt L d (ofs L n) := e
    have a2 : cnt L d (ofs L n) ≤ cnt L d (ofs L n + p i) := cnt_mono (by omega)
    have a3 : cnt L d (ofs L n) ≤ cnt L d (ofs L n + p j) := cnt_mono (by omega)
    refine ech_inj h hi hj ?_
    rcases Nat.lt_trichotomy (p i) (p j) with q | q | q
    · have := cnt_lt (L := L) (d := d) (b := ofs L n + p j) h1 hn (h.1 i hi).1 (hc i hi) (by omega)
      omega
    · exact q
    · have := cnt_lt (L := L) (d := d) (b := ofs L n + p i) h1 hn (h.1 j hj).1 (hc j hj) (by omega)
      omega
end GN
