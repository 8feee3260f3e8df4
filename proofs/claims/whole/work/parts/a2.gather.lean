/-! the class's product: gather -/
theorem pv_lt {L m n u v : Nat} (hu : u < L ^ m) (hv : v < L ^ n) : u * L ^ n + v < L ^ (m + n) := by
  rw [Nat.pow_add]
  have : (u + 1) * L ^ n ≤ L ^ m * L ^ n := Nat.mul_le_mul_right _ hu
  rw [Nat.succ_mul] at this
  omega
theorem pl_W {L d n v : Nat} (hn : n ≤ d) (hv : v < L ^ n) : ofs L n + v < ofs L (d + 1) := ofs_all hn hv
/-- what a row gains at a place j: the word (m, u) of x, ahead of (n, v), with a number -/
def gaU (L : Nat) (x : Nat → Kf) (n v : Nat) (num : Kf) (m u j : Nat) : Kf := if j = ofs L (m + n) + (u * L ^ n + v) then x (ofs L m + u) * num else 0
def gaM (L : Nat) (x : Nat → Kf) (n v : Nat) (num : Kf) (m j : Nat) : Kf := ksum (L ^ m) (fun u => gaU L x n v num m u j)
def gaV (L : Nat) (x : Nat → Kf) (y : Nat → Kf) (c : Kf) (lim n v j : Nat) : Kf := ksum (lim - n + 1) (fun m => gaM L x n v (y (ofs L n + v) * c) m j)
def gaN (L : Nat) (x : Nat → Kf) (y : Nat → Kf) (c : Kf) (lim n j : Nat) : Kf := ksum (L ^ n) (fun v => gaV L x y c lim n v j)
def gaA (L : Nat) (x : Nat → Kf) (y : Nat → Kf) (c : Kf) (lim j : Nat) : Kf := ksum (lim + 1) (fun n => gaN L x y c lim n j)
section GA
variable {L d : Nat} {Ln : Nat → Nat} {S : cs_T} {g : Nat → Nat → Kf} {Q : cs_T → Prop} {t p q : Nat} {r : Nat → Kf}
theorem cv_pw {n : Nat} (h : cv L d Ln S g) (hn : n ≤ d) : vp_in (nI n) (Ln 0) ∧ S.2.1 0 (nI n).toNatClampNeg = nI (L ^ n) := by
  have := cf_d h.1.1
  refine ⟨?_, cw_p h.1 hn⟩
  rw [h.1.2.2.2.1]
  exact vp_in_nI (by omega) (by omega)
theorem cv_st {n : Nat} (h : cv L d Ln S g) (hn : n ≤ d + 1) : vp_in (nI n) (Ln 1) ∧ S.2.1 1 (nI n).toNatClampNeg = nI (ofs L n) := by
  have := cf_d h.1.1
  refine ⟨?_, cw_s h.1 hn⟩
  rw [h.1.2.2.2.2.1]
  exact vp_in_nI (by omega) (by omega)
theorem cg_92 {fac lim : Int32} {n v m : Nat} {num : Kf} {K3 : cs_T → Nat → Nat → Nat → Int32 → Int32 → Int32 → Prop} {K13 : cs_T → Nat → Nat → Nat → Int32 → Int32 → Int32 → Int32 → Prop} {K51 : cs_T → Nat → Nat → Nat → Int32 → Int32 → Int32 → Int32 → Int64 → Int32 → Prop}
    (h : cv L d Ln S (va_up g t r)) (ht : kV t) (hp : kV p) (htp : p ≠ t) (hm : m + n ≤ d) (hv : v < L ^ n)
    (hk : ∀ S', upK kV S S' → cv L d Ln S' (va_up g t (fun j => r j + gaM L (g p) n v num m j)) → K51 S' t p q fac lim (nI n) (nI v) (kL num) (nI (m + 1))) :
    ∃ k, wp_X0_gather_92 Ln K3 K13 K51 Q k S t p q fac lim (nI n) (nI v) (kL num) (nI m) (nI (ofs L (m + n) + v)) (nI (ofs L m)) := by
  have hW := cv_W h
  have hL := cf_L h.1.1
  have hpm := cf_pow h.1.1 (n := m) (by omega)
  have hmW : ofs L m + L ^ m ≤ ofs L (d + 1) := ofs_mono (L := L) (show m + 1 ≤ d + 1 by omega)
  have key := lpR (S := S) (L := L) (d := d) (Ln := Ln) (g := g) (t := t) (fun k s u => wp_X0_gather_92 Ln K3 K13 K51 Q k s t p q fac lim (nI n) (nI v) (kL num) (nI m) (nI (ofs L (m + n) + (u * L ^ n + v))) (nI (ofs L m + u))) (fun u j => r j + ksum u (fun u' => gaU L (g p) n v num m u' j)) 0 (L ^ m) (Nat.zero_le _) (cv_tc h (fun j _ => (ka_0 _).symm)) ?_ ?_
  · rw [Nat.zero_mul, Nat.zero_add, Nat.add_zero] at key
    exact key
  · intro k S' hu hc
    have hs := cv_st hc (n := m + 1) (by omega)
    refine ⟨by rw [nI_1]; exact hs.1, ?_⟩
    rw [nI_1, hs.2]
    refine ⟨fun _ => ?_, fun z => absurd (nI_le (Nat.le_refl _) (by show ofs L m + L ^ m < _; omega)) z⟩
    rintro _ rfl
    exact hk S' hu hc
  · intro k u S' _ hu' hu hc hk'
    have hs := cv_st hc (n := m + 1) (by omega)
    have htW : ofs L (m + n) + (u * L ^ n + v) < ofs L (d + 1) := pl_W (by omega) (pv_lt hu' hv)
    have huW : ofs L m + u < ofs L (d + 1) := by omega
    refine ⟨by rw [nI_1]; exact hs.1, ?_⟩
    rw [nI_1, hs.2]
    refine ⟨fun z => absurd z (nI_ge (by show _ < ofs L m + L ^ m; omega) (by show ofs L m + L ^ m < _; omega)), fun _ => ⟨kV_47 hp, cv_in hc hp huW, ?_⟩⟩
    rw [cv_g hc hp huW, va_up_ne _ _ htp, cv_g hc ht htW, va_up_self]
    have fin : ∀ S2, upK kV S S2 → cv L d Ln S2 (va_up g t (fun j => r j + ksum (u + 1) (fun u' => gaU L (g p) n v num m u' j))) → wp_X0_gather_136 Ln K3 K13 K51 (wp_X0_gather_92 Ln K3 K13 K51 Q k) Q S2 t p q fac lim (nI n) (nI v) (kL num) (nI m) (nI (ofs L (m + n) + (u * L ^ n + v))) (nI (ofs L m + u)) := by
      intro S2 hu2 hc2
      have hp2 := cv_pw hc2 (n := n) (by omega)
      refine ⟨hp2.1, ?_⟩
      rw [hp2.2]
      rintro _ rfl _ rfl
      have hk2 := hk' S2 hu2 hc2
      rw [nI_1, nI_add, show ofs L (m + n) + (u * L ^ n + v) + L ^ n = ofs L (m + n) + ((u + 1) * L ^ n + v) by rw [Nat.succ_mul]; omega]
      exact hk2
    have hstep : ∀ j, r j + ksum (u + 1) (fun u' => gaU L (g p) n v num m u' j) = (r j + ksum u (fun u' => gaU L (g p) n v num m u' j)) + gaU L (g p) n v num m u j := fun j => (ka_a _ _ _).symm
    refine ⟨fun z => fin S' hu (cv_tc hc (fun j hj => ?_)), fun _ => ⟨kV_47 ht, cv_in hc ht htW, cv_in hc hp huW, cv_in hc ht htW, ?_⟩⟩
    · rw [hstep]
      unfold gaU
      rw [kI_z.mp z, km_0, ite_self, ka_0]
    · rw [kl_of, kl_of, kl_more, nI_clamp (by omega)]
      have hs := cv_s' (p := ofs L (m + n) + (u * L ^ n + v)) (c := (r (ofs L (m + n) + (u * L ^ n + v)) + ksum u (fun u' => gaU L (g p) n v num m u' (ofs L (m + n) + (u * L ^ n + v)))) + g p (ofs L m + u) * num) (r' := fun j => r j + ksum (u + 1) (fun u' => gaU L (g p) n v num m u' j)) hc ht (fun j hj => by
        rw [hstep]
        by_cases h1 : j = ofs L (m + n) + (u * L ^ n + v)
        · rw [if_pos h1, ← h1]
          unfold gaU
          rw [if_pos h1]
        · rw [if_neg h1]
          show _ + (if j = ofs L (m + n) + (u * L ^ n + v) then _ else 0) = _
          rw [if_neg h1, ka_0])
      exact fin _ (upK_tr hu hs.1) hs.2
theorem cg_51 {fac : Int32} {n v lim : Nat} {num : Kf} {K3 : cs_T → Nat → Nat → Nat → Int32 → Int32 → Int32 → Prop} {K13 : cs_T → Nat → Nat → Nat → Int32 → Int32 → Int32 → Int32 → Prop}
    (h : cv L d Ln S (va_up g t r)) (ht : kV t) (hp : kV p) (htp : p ≠ t) (hlim : lim ≤ d) (hn : n ≤ lim) (hv : v < L ^ n)
    (hk : ∀ S', upK kV S S' → cv L d Ln S' (va_up g t (fun j => r j + ksum (lim - n + 1) (fun m => gaM L (g p) n v num m j))) → K13 S' t p q fac (nI lim) (nI n) (nI (v + 1))) :
    ∃ k, wp_X0_gather_51 Ln K3 K13 Q k S t p q fac (nI lim) (nI n) (nI v) (kL num) (nI 0) := by
  have hd := cf_d h.1.1
  by_cases hz : num = 0
  · refine ⟨1, ?_⟩
    have hf : wp_X0_gather_160 Ln K3 K13 Q S t p q fac (nI lim) (nI n) (nI v) := by
      rintro _ rfl
      rw [nI_1]
      refine hk S upK_rf (cv_tc h (fun j hj => ?_))
      have hz2 : ∀ m, gaM L (g p) n v num m j = 0 := fun m => ksum_z (fun u _ => by unfold gaU; rw [hz, km_0', ite_self])
      rw [ksum_z (fun m _ => hz2 m), ka_0]
    exact ⟨fun _ => hf, fun _ => ⟨fun _ => hf, fun z => absurd (kL_z.mpr hz) z⟩⟩
  · refine lpR (S := S) (L := L) (d := d) (Ln := Ln) (g := g) (t := t) (fun k s m => wp_X0_gather_51 Ln K3 K13 Q k s t p q fac (nI lim) (nI n) (nI v) (kL num) (nI m)) (fun m j => r j + ksum m (fun m' => gaM L (g p) n v num m' j)) 0 (lim - n + 1) (Nat.zero_le _) (cv_tc h (fun j _ => (ka_0 _).symm)) ?_ ?_
    · intro k S' hu hc
      unfold wp_X0_gather_51 wb_X0_gather_51
      rw [pk_sub hn]
      refine ⟨fun _ => ?_, fun z => absurd (nI_lt (by omega) (by omega)) z⟩
      rintro _ rfl
      rw [nI_1]
      exact hk S' hu hc
    · intro k m S' _ hm hu hc hk'
      unfold wp_X0_gather_51 wb_X0_gather_51
      rw [pk_sub hn]
      have hs1 := cv_st hc (n := m + n) (by omega)
      have hs2 := cv_st hc (n := m) (by omega)
      refine ⟨fun z => absurd z (nI_nlt (by omega) (by omega)), fun _ => ⟨fun z => absurd (kL_z.mp z) hz, fun _ => ⟨by rw [nI_add]; exact hs1.1, ?_⟩⟩⟩
      rw [nI_add, hs1.2]
      rintro _ rfl
      refine ⟨hs2.1, ?_⟩
      rw [hs2.2]
      rintro _ rfl
      rw [nI_add]
      refine cg_92 hc ht hp htp (by omega) hv (fun S2 hu2 hc2 => hk' S2 (upK_tr hu hu2) (cv_tc hc2 (fun j hj => ?_)))
      exact ka_a _ _ _
theorem cg_13 {n lim : Nat} {c : Kf} {K3 : cs_T → Nat → Nat → Nat → Int32 → Int32 → Int32 → Prop}
    (h : cv L d Ln S (va_up g t r)) (ht : kV t) (hp : kV p) (hq0 : kV q) (htp : p ≠ t) (htq : q ≠ t) (hlim : lim ≤ d) (hn : n ≤ lim)
    (hk : ∀ S', upK kV S S' → cv L d Ln S' (va_up g t (fun j => r j + gaN L (g p) (g q) c lim n j)) → K3 S' t p q (kI c) (nI lim) (nI (n + 1))) :
    ∃ k, wp_X0_gather_13 Ln K3 Q k S t p q (kI c) (nI lim) (nI n) (nI 0) := by
  have hW := cv_W h
  have hpn := cf_pow h.1.1 (n := n) (by omega)
  refine lpR (S := S) (L := L) (d := d) (Ln := Ln) (g := g) (t := t) (fun k s v => wp_X0_gather_13 Ln K3 Q k s t p q (kI c) (nI lim) (nI n) (nI v)) (fun v j => r j + ksum v (fun v' => gaV L (g p) (g q) c lim n v' j)) 0 (L ^ n) (Nat.zero_le _) (cv_tc h (fun j _ => (ka_0 _).symm)) ?_ ?_
  · intro k S' hu hc
    have hp2 := cv_pw hc (n := n) (by omega)
    refine ⟨hp2.1, ?_⟩
    rw [hp2.2]
    refine ⟨fun _ => ?_, fun z => absurd (nI_le (Nat.le_refl _) (by omega)) z⟩
    rintro _ rfl
    rw [nI_1]
    exact hk S' hu hc
  · intro k v S' _ hv hu hc hk'
    have hp2 := cv_pw hc (n := n) (by omega)
    have hs2 := cv_st hc (n := n) (by omega)
    have hvW : ofs L n + v < ofs L (d + 1) := pl_W (by omega) hv
    refine ⟨hp2.1, ?_⟩
    rw [hp2.2]
    refine ⟨fun z => absurd z (nI_ge hv (by omega)), fun _ => ⟨hs2.1, kV_47 hq0, ?_⟩⟩
    rw [hs2.2, nI_add]
    refine ⟨cv_in hc hq0 hvW, ?_⟩
    rw [cv_g hc hq0 hvW, va_up_ne _ _ htq, kl_of, kl_of, kl_mul]
    rintro _ rfl
    exact cg_51 hc ht hp htp hlim hn hv (fun S2 hu2 hc2 => hk' S2 (upK_tr hu hu2) (cv_tc hc2 (fun j hj => ka_a _ _ _)))
theorem cq_gather {lim : Nat} {c : Kf} (h : cv L d Ln S g) (ht : kV t) (hp : kV p) (hq0 : kV q) (htp : p ≠ t) (htq : q ≠ t) (hlim : lim ≤ d)
    (hq : ∀ S', upK kV S S' → cv L d Ln S' (va_up g t (fun j => g t j + gaA L (g p) (g q) c lim j)) → Q S') : wp_X0_gather Ln S t p q (kI c) (nI lim) Q := by
  have hd := cf_d h.1.1
  refine lpR (S := S) (L := L) (d := d) (Ln := Ln) (g := g) (t := t) (fun k s n => wp_X0_gather_3 Ln Q k s t p q (kI c) (nI lim) (nI n)) (fun n j => g t j + ksum n (fun n' => gaN L (g p) (g q) c lim n' j)) 0 (lim + 1) (Nat.zero_le _) (cv_t h (fun j _ => ka_0 _)) ?_ ?_
  · intro k S' hu hc
    exact ⟨fun _ => hq S' hu hc, fun z => absurd (nI_lt (by omega) (by omega)) z⟩
  · intro k n S' _ hn hu hc hk'
    refine ⟨fun z => absurd z (nI_nlt (by omega) (by omega)), fun _ => ?_⟩
    exact cg_13 hc ht hp hq0 htp htq hlim (by omega) (fun S2 hu2 hc2 => hk' S2 (upK_tr hu hu2) (cv_tc hc2 (fun j hj => ka_a _ _ _)))
end GA
/-! what it comes to: the product of sums -/
/-- a product at the word (n, v): all ways of cutting it -/
def mulR (L : Nat) (x y : Nat → Nat → Kf) (n v : Nat) : Kf := ksum (n + 1) (fun k => x (n - k) (v / L ^ k) * y k (v % L ^ k))
def at2 (L : Nat) (f : Nat → Kf) : Nat → Nat → Kf := fun n v => f (ofs L n + v)
theorem gaA_eq {L : Nat} {x y : Nat → Kf} {c : Kf} {lim N V : Nat} (hL : 1 ≤ L) (hN : N ≤ lim) (hV : V < L ^ N) : gaA L x y c lim (ofs L N + V) = mulR L (at2 L x) (at2 L y) N V * c := by
  unfold gaA
  rw [show lim + 1 = (N + 1) + (lim - N) by omega, ksum_app, ksum_z (n := lim - N) (fun i hi => ?_), ka_0]
  · unfold mulR
    rw [← ksum_mr]
    refine ksum_c (fun n hn => ?_)
    unfold gaN
    have hLn : 0 < L ^ n := Nat.pow_pos hL
    have e1 : ∀ v, v < L ^ n → gaV L x y c lim n v (ofs L N + V) = if v = V % L ^ n then x (ofs L (N - n) + V / L ^ n) * (y (ofs L n + v) * c) else 0 := by
      intro v hv
      unfold gaV
      rw [ksum_c (h := fun m => if m = N - n then (if v = V % L ^ n then x (ofs L (N - n) + V / L ^ n) * (y (ofs L n + v) * c) else 0) else 0) (fun m hm => ?_), ksum_if, if_pos (by omega)]
      unfold gaM
      by_cases h1 : m = N - n
      · rw [if_pos h1]
        subst h1
        have hdiv : V / L ^ n < L ^ (N - n) := by
          rw [Nat.div_lt_iff_lt_mul hLn, ← Nat.pow_add, Nat.sub_add_cancel (by omega)]
          exact hV
        rw [ksum_c (h := fun u => if u = V / L ^ n then (if v = V % L ^ n then x (ofs L (N - n) + V / L ^ n) * (y (ofs L n + v) * c) else 0) else 0) (fun u hu => ?_), ksum_if, if_pos hdiv]
        unfold gaU
        rw [show N - n + n = N by omega]
        have hiff : ofs L N + V = ofs L N + (u * L ^ n + v) ↔ u = V / L ^ n ∧ v = V % L ^ n := by
          constructor
          · intro e
            have e2 : V = v + L ^ n * u := by rw [Nat.mul_comm]; omega
            rw [e2, Nat.add_mul_div_left _ _ hLn, Nat.div_eq_of_lt hv, Nat.add_mul_mod_self_left, Nat.mod_eq_of_lt hv]
            exact ⟨by omega, rfl⟩
          · rintro ⟨rfl, rfl⟩
            rw [Nat.mul_comm, Nat.div_add_mod]
        by_cases h2 : u = V / L ^ n
        · rw [if_pos h2]
          by_cases h3 : v = V % L ^ n
          · rw [if_pos h3, if_pos (hiff.mpr ⟨h2, h3⟩), h2]
          · rw [if_neg h3, if_neg (fun e => h3 (hiff.mp e).2)]
        · rw [if_neg h2, if_neg (fun e => h2 (hiff.mp e).1)]
      · rw [if_neg h1]
        refine ksum_z (fun u hu => ?_)
        unfold gaU
        refine if_neg (fun e => h1 ?_)
        have := (place_inj hV (pv_lt hu hv) e).1
        omega
    rw [ksum_c (fun v hv => e1 v hv), ksum_if, if_pos (Nat.mod_lt _ hLn), km_a]
    rfl
  · unfold gaN
    refine ksum_z (fun v hv => ksum_z (fun m hm => ksum_z (fun u hu => if_neg (fun e => ?_))))
    have := (place_inj hV (pv_lt hu hv) e).1
    omega
theorem gaA_out {L : Nat} {x y : Nat → Kf} {c : Kf} {lim N V : Nat} (hN : lim < N) (hV : V < L ^ N) : gaA L x y c lim (ofs L N + V) = 0 := by
  unfold gaA gaN gaV
  refine ksum_z (fun n hn => ksum_z (fun v hv => ksum_z (fun m hm => ksum_z (fun u hu => if_neg (fun e => ?_)))))
  have := (place_inj hV (pv_lt hu hv) e).1
  omega
