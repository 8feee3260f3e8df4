/-! REPLACED: the class by beginnings, the reference word by word -/
section CA
variable {L d : Nat} {Ln : Nat → Nat} {g : Nat → Nat → Kf}
def ghU (L : Nat) (x : Nat → Kf) (c m u j : Nat) : Kf := if j = ofs L (m + 1) + (c * L ^ m + u) then x (ofs L m + u) else 0
def ghA (L : Nat) (x : Nat → Kf) (c lim j : Nat) : Kf := ksum (lim + 1) (fun m => ksum (L ^ m) (fun u => ghU L x c m u j))
theorem cq_ahead {S : cs_T} {t p c lim : Nat} {Q : cs_T → Prop} (h : cv L d Ln S g) (ht : kV t) (hp : kV p) (htp : p ≠ t) (hc0 : c < L) (hlim : lim < d)
    (hq : ∀ S', upK kV S S' → cv L d Ln S' (va_up g t (fun j => g t j + ghA L (g p) c lim j)) → Q S') : wp_X0_gatherAhead Ln S t p (nI c) (nI lim) Q := by
  have hd := cf_d h.1.1
  have hL := cf_L h.1.1
  have hW := cv_W h
  refine lpR (S := S) (L := L) (d := d) (Ln := Ln) (g := g) (t := t) (fun k s m => wp_X0_gatherAhead_3 Ln Q k s t p (nI c) (nI lim) (nI m)) (fun m j => g t j + ksum m (fun m => ksum (L ^ m) (fun u => ghU L (g p) c m u j))) 0 (lim + 1) (Nat.zero_le _) (cv_t h (fun j _ => ka_0 _)) ?_ ?_
  · intro k S1 hu1 hc1
    exact ⟨fun _ => hq S1 hu1 hc1, fun z => absurd (nI_lt (by omega) (by omega)) z⟩
  · intro k m S1 _ hm hu1 hc1 hk1
    have hpm := cf_pow h.1.1 (n := m) (by omega)
    have hs1 := cv_st hc1 (n := m + 1) (by omega)
    have hs0 := cv_st hc1 (n := m) (by omega)
    have hp1 := cv_pw hc1 (n := m) (by omega)
    have hmW : ofs L m + L ^ m ≤ ofs L (d + 1) := ofs_mono (L := L) (show m + 1 ≤ d + 1 by omega)
    refine ⟨fun z => absurd z (nI_nlt (by omega) (by omega)), fun _ => ⟨by rw [nI_1]; exact hs1.1, hp1.1, ?_⟩⟩
    rw [nI_1, hs1.2, hp1.2, pk_mul, nI_add]
    rintro _ rfl
    refine ⟨hs0.1, ?_⟩
    rw [hs0.2]
    rintro _ rfl
    have key := lpR (S := S1) (L := L) (d := d) (Ln := Ln) (g := g) (t := t) (fun k2 s u => wp_X0_gatherAhead_40 Ln (wp_X0_gatherAhead_3 Ln Q k) Q k2 s t p (nI c) (nI lim) (nI m) (nI (ofs L (m + 1) + (c * L ^ m + u))) (nI (ofs L m + u))) (fun u j => (g t j + ksum m (fun m => ksum (L ^ m) (fun u => ghU L (g p) c m u j))) + ksum u (fun u => ghU L (g p) c m u j)) 0 (L ^ m) (Nat.zero_le _) (cv_tc hc1 (fun j _ => (ka_0 _).symm)) ?_ ?_
    · rw [Nat.add_zero, Nat.add_zero] at key
      exact key
    · intro k2 S2 hu2 hc2
      have hs2 := cv_st hc2 (n := m + 1) (by omega)
      refine ⟨by rw [nI_1]; exact hs2.1, ?_⟩
      rw [nI_1, hs2.2]
      refine ⟨fun _ => ?_, fun z => absurd (nI_le (Nat.le_refl _) (by show ofs L m + L ^ m < _; omega)) z⟩
      rintro _ rfl
      exact hk1 S2 (upK_tr hu1 hu2) (cv_tc hc2 (fun j _ => ka_a _ _ _))
    · intro k2 u S2 _ hu' hu2 hc2 hk2
      have hs2 := cv_st hc2 (n := m + 1) (by omega)
      have huW : ofs L m + u < ofs L (d + 1) := by omega
      have hlt : c * L ^ m + u < L ^ (m + 1) := by
        have := pv_lt (L := L) (m := 1) (n := m) (u := c) (v := u) (by rw [Nat.pow_one]; exact hc0) hu'
        rwa [Nat.add_comm 1 m] at this
      have htW : ofs L (m + 1) + (c * L ^ m + u) < ofs L (d + 1) := pl_W (by omega) hlt
      refine ⟨by rw [nI_1]; exact hs2.1, ?_⟩
      rw [nI_1, hs2.2]
      refine ⟨fun z => absurd z (nI_ge (by show _ < ofs L m + L ^ m; omega) (by show ofs L m + L ^ m < _; omega)), fun _ => ⟨kV_47 ht, cv_in hc2 ht htW, kV_47 hp, cv_in hc2 hp huW, ?_⟩⟩
      rw [cv_g hc2 ht htW, cv_g hc2 hp huW, va_up_self, va_up_ne _ _ htp]
      refine kn_plus ⟨cv_in hc2 ht htW, ?_⟩
      rintro _ rfl _ rfl
      rw [nI_clamp (by omega), nI_1, nI_1]
      have hs := cv_s' (p := ofs L (m + 1) + (c * L ^ m + u)) (c := ((g t (ofs L (m + 1) + (c * L ^ m + u)) + ksum m (fun m' => ksum (L ^ m') (fun u' => ghU L (g p) c m' u' (ofs L (m + 1) + (c * L ^ m + u))))) + ksum u (fun u' => ghU L (g p) c m u' (ofs L (m + 1) + (c * L ^ m + u)))) + g p (ofs L m + u)) (r' := fun j => (g t j + ksum m (fun m => ksum (L ^ m) (fun u => ghU L (g p) c m u j))) + ksum (u + 1) (fun u => ghU L (g p) c m u j)) hc2 ht (fun j hj => by
        show _ + (ksum u _ + ghU L (g p) c m u j) = _
        rw [← ka_a]
        unfold ghU
        by_cases e1 : j = ofs L (m + 1) + (c * L ^ m + u)
        · rw [if_pos e1, if_pos e1, e1]
        · rw [if_neg e1, if_neg e1, ka_0])
      exact hk2 _ (upK_tr hu2 hs.1) hs.2
theorem ghA_eq {x : Nat → Kf} {c lim N V : Nat} (hL : 1 ≤ L) (hc : c < L) (hN : N ≤ lim + 1) (hV : V < L ^ N) : ghA L x c lim (ofs L N + V) = mulR L (lt2 c) (at2 L x) N V := by
  have hcu : ∀ m u, u < L ^ m → c * L ^ m + u < L ^ (m + 1) := fun m u hu => by
    have := pv_lt (L := L) (m := 1) (n := m) (u := c) (v := u) (by rw [Nat.pow_one]; exact hc) hu
    rwa [Nat.add_comm 1 m] at this
  cases N with
  | zero =>
    rw [mulR_0]
    show _ = (if 0 = 1 ∧ V = c then 1 else 0) * _
    rw [if_neg (by omega), km_0]
    refine ksum_z (fun m _ => ksum_z (fun u hu => if_neg (fun e => ?_)))
    have := (place_inj hV (hcu m u hu) e).1
    omega
  | succ N =>
    have hLn : 0 < L ^ N := Nat.pow_pos hL
    have e1 : ghA L x c lim (ofs L (N + 1) + V) = if V / L ^ N = c then x (ofs L N + V % L ^ N) else 0 := by
      unfold ghA
      rw [ksum_c (h := fun m => if m = N then (if V / L ^ N = c then x (ofs L N + V % L ^ N) else 0) else 0) (fun m hm => ?_), ksum_if, if_pos (by omega)]
      by_cases h1 : m = N
      · subst h1
        rw [if_pos rfl, ksum_c (h := fun u => if u = V % L ^ m then (if V / L ^ m = c then x (ofs L m + V % L ^ m) else 0) else 0) (fun u hu => ?_), ksum_if, if_pos (Nat.mod_lt _ hLn)]
        unfold ghU
        have hiff : ofs L (m + 1) + V = ofs L (m + 1) + (c * L ^ m + u) ↔ V / L ^ m = c ∧ u = V % L ^ m := by
          constructor
          · intro e
            have e2 : V = u + L ^ m * c := by rw [Nat.mul_comm]; omega
            rw [e2, Nat.add_mul_div_left _ _ hLn, Nat.div_eq_of_lt hu, Nat.add_mul_mod_self_left, Nat.mod_eq_of_lt hu]
            exact ⟨by omega, rfl⟩
          · rintro ⟨rfl, rfl⟩
            rw [Nat.mul_comm, Nat.div_add_mod]
        by_cases h2 : u = V % L ^ m
        · rw [if_pos h2]
          by_cases h3 : V / L ^ m = c
          · rw [if_pos h3, if_pos (hiff.mpr ⟨h3, h2⟩), h2]
          · rw [if_neg h3, if_neg (fun e => h3 (hiff.mp e).1)]
        · rw [if_neg h2, if_neg (fun e => h2 (hiff.mp e).2)]
      · rw [if_neg h1]
        refine ksum_z (fun u hu => if_neg (fun e => ?_))
        have := (place_inj hV (hcu m u hu) e).1
        omega
    rw [e1]
    unfold mulR
    rw [ksum_c (h := fun k => if k = N then (if V / L ^ N = c then x (ofs L N + V % L ^ N) else 0) else 0) (fun k hk => ?_), ksum_if, if_pos (show N < N + 1 + 1 by omega)]
    unfold lt2
    by_cases h1 : k = N
    · subst h1
      rw [if_pos rfl, show k + 1 - k = 1 by omega]
      by_cases h2 : V / L ^ k = c
      · rw [if_pos h2, if_pos ⟨rfl, h2⟩, km_1']; rfl
      · rw [if_neg h2, if_neg (fun z => h2 z.2), km_0]
    · rw [if_neg h1, if_neg (by omega), km_0]
theorem cq_fillR {S : cs_T} {t e : Nat} {Q : cs_T → Prop} (h : cv L d Ln S g) (ht : kV t) (he : e ≤ ofs L (d + 1)) (hq : ∀ S', upK kV S S' → cv L d Ln S' (va_up g t (fun j => if j < e then 0 else g t j)) → Q S') : wp_J7_fill_fda19 Ln S t 0 (nI e) 0 Q := by
  have hW := cv_W h
  refine ⟨kV_47 ht, ?_⟩
  rw [h.2.2.2.1 t ht]
  refine ⟨fun _ => ⟨fun _ => ⟨fun _ => ?_, fun z => absurd (nI_le he (by omega)) z⟩, fun z => absurd (by decide) z⟩, fun z => absurd (nI_le (a := 0) (Nat.zero_le _) (by omega)) z⟩
  refine lpR (fun n s i => wp_J7_fill_fda19_10 Ln Q n s t (nI e) 0 (nI i)) (fun i j => if j < i then 0 else g t j) 0 e (Nat.zero_le _) (g := g) (t := t) (cv_t h (fun j _ => if_neg (Nat.not_lt_zero _))) ?_ ?_
  · intro n S' hu hc
    exact ⟨fun _ => hq S' hu hc, fun z => absurd (nI_le (Nat.le_refl _) (by omega)) z⟩
  · intro n i S' _ hi hu hc hk
    refine ⟨fun z => absurd z (nI_ge hi (by omega)), fun _ => ⟨kV_47 ht, cv_in hc ht (by omega), ?_⟩⟩
    rintro _ rfl
    rw [nI_1, nI_clamp (by omega)]
    have hs := cv_s' (p := i) (c := 0) (r' := fun j => if j < i + 1 then 0 else g t j) hc ht (fun j hj => if_lt_succ)
    exact hk _ (upK_tr hu hs.1) hs.2
theorem mulR_cz {x x' y y' : Nat → Nat → Kf} {n v : Nat} (hL : 1 ≤ L) (hv : v < L ^ n) (hx : ∀ m u, m ≤ n → u < L ^ m → x m u = x' m u) (h0 : x 0 0 = 0) (hy : ∀ m u, m < n → u < L ^ m → y m u = y' m u) : mulR L x y n v = mulR L x' y' n v := by
  unfold mulR
  refine ksum_c (fun k hk => ?_)
  have h1 : v / L ^ k < L ^ (n - k) := by
    rw [Nat.div_lt_iff_lt_mul (Nat.pow_pos hL), ← Nat.pow_add, Nat.sub_add_cancel (by omega)]
    exact hv
  rw [← hx (n - k) _ (by omega) h1]
  by_cases e : k = n
  · subst e
    rw [Nat.sub_self, Nat.div_eq_of_lt hv, h0, km_0, km_0]
  · rw [hy k _ (by omega) (Nat.mod_lt _ (Nat.pow_pos hL))]
theorem ofs_0 {n v : Nat} (hL : 1 ≤ L) (hv : v < L ^ n) : (ofs L n + v = 0 ↔ n = 0) := by
  constructor
  · intro h
    by_cases e : n = 0
    · exact e
    · have : ofs L 1 ≤ ofs L n := ofs_mono (by omega)
      have h2 : ofs L 1 = 1 := by show 0 + L ^ 0 = 1; rw [Nat.pow_zero]
      omega
  · rintro rfl
    rw [Nat.pow_zero] at hv
    show 0 + v = 0
    omega
def kB (n d : Nat) : Nat → Prop := fun k => 15 + n ≤ k ∧ k ≤ 15 + d
theorem cq_setBehind {a b y : Nat} (ha : 7 ≤ a ∧ a ≤ 14) (hb : 7 ≤ b ∧ b ≤ 14) (hy : y < L) : ∀ f n w (S : cs_T) (g : Nat → Nat → Kf) (Q : cs_T → Prop), d - n < f → n ≤ d → w < L ^ n → cv L d Ln S g → g b 0 = 0 →
    (∀ S' g', upK kV S S' → cv L d Ln S' g' → fr (kB n d) g g' → (∀ N V, N ≤ d - n → V < L ^ N → at2 L (g' (15 + n)) N V = RB L (at2 L (g a)) (phi y (at2 L (g b))) (d - n) n w N V) → Q S') → wp_X0_setBehind Ln f S a (nI n) (nI w) (nI y) b Q := by
  intro f
  induction f with
  | zero => intro n w S g Q hf; exact absurd hf (Nat.not_lt_zero _)
  | succ f ih =>
    intro n w S g Q hf hn hw h hb0 hq
    have hd := cf_d h.1.1
    have hL := cf_L h.1.1
    have hW := cv_W h
    have hka : kV a := by unfold kV; omega
    have hkb : kV b := by unfold kV; omega
    have hks : kV (15 + n) := by unfold kV; omega
    have hpn := cf_pow h.1.1 (n := n) hn
    have h18 : vp_in (nI n) 18 := vp_in_nI (by omega) (by decide)
    have hcl : (nI n).toNatClampNeg = n := nI_clamp (by omega)
    refine ⟨h18, ?_⟩
    rw [h.2.1, pk_sub hn]
    rintro _ rfl
    obtain ⟨e1, he1, he2, he3⟩ : ∃ e1, e1 ≤ d + 1 ∧ d - n + 1 ≤ e1 ∧ (if nI d + 1 < nI (d - n) + 2 then nI d + 1 else nI (d - n) + 2) = nI e1 := by
      rw [nI_1, show nI (d - n) + 2 = nI (d - n + 2) from nI_add _ 2]
      by_cases h0 : n = 0
      · exact ⟨d + 1, by omega, by omega, if_pos (nI_lt (by omega) (by omega))⟩
      · exact ⟨d - n + 2, by omega, by omega, if_neg (nI_nlt (by omega) (by omega))⟩
    rw [he3]
    have hs1 := cv_st h (n := e1) he1
    refine ⟨hs1.1, ?_⟩
    rw [hs1.2, hcl]
    have heW : ofs L e1 ≤ ofs L (d + 1) := ofs_mono he1
    refine cq_fillR h hks heW (fun S1 hu1 hc1 => ?_)
    have hs2 := cv_st hc1 (n := n) (by omega)
    have hwW : ofs L n + w < ofs L (d + 1) := pl_W hn hw
    have hz0 : ((0 : Int32)).toNatClampNeg = 0 := rfl
    refine ⟨hs2.1, kV_47 hka, ?_⟩
    have e2 : S1.2.1 1 n = nI (ofs L n) := by
      have := hs2.2
      rw [hcl] at this
      exact this
    rw [e2, nI_add]
    refine ⟨cv_in hc1 hka hwW, kV_47 hks, cv_in (j := 0) hc1 hks hW.2, ?_⟩
    rw [cv_g hc1 hka hwW, va_up_ne _ _ (by omega), hz0]
    have hs := cv_s' (p := 0) (c := g a (ofs L n + w)) (r' := fun j => if j = 0 then g a (ofs L n + w) else if j < ofs L e1 then 0 else g (15 + n) j) hc1 hks (fun j _ => rfl)
    generalize cs_sI S1 (15 + n) 0 (kI (g a (ofs L n + w))) = S2 at hs
    have hu2 : upK kV S S2 := upK_tr hu1 hs.1
    have hc2 := hs.2
    have hrow : ∀ N V, N ≤ d - n → V < L ^ N → at2 L (fun j => if j = 0 then g a (ofs L n + w) else if j < ofs L e1 then 0 else g (15 + n) j) N V = if N = 0 then at2 L (g a) n w else 0 := by
      intro N V hN hV
      show (if ofs L N + V = 0 then _ else if ofs L N + V < ofs L e1 then _ else _) = _
      have hlt : ofs L N + V < ofs L e1 := by
        have : ofs L (N + 1) ≤ ofs L e1 := ofs_mono (by omega)
        have h2 : ofs L (N + 1) = ofs L N + L ^ N := rfl
        omega
      by_cases h0 : N = 0
      · rw [if_pos h0, if_pos ((ofs_0 (by omega) hV).mpr h0)]; rfl
      · rw [if_neg h0, if_neg (fun z => h0 ((ofs_0 (by omega) hV).mp z)), if_pos hlt]
    rw [hc2.2.1]
    refine ⟨fun hlt => ?_, fun hge => ?_⟩
    · have hnd : n < d := (nI_ltI (by omega) (by omega)).mp hlt
      have hcl1 : (nI n + 1).toNatClampNeg = n + 1 := by rw [nI_1]; exact nI_clamp (by omega)
      have hkn : kV (15 + (n + 1)) := by unfold kV; omega
      refine ⟨by rw [nI_1]; exact vp_in_nI (by omega) (by decide), ?_⟩
      rw [hcl1]
      refine pk_loop (σ := cs_T) (fun k x s => wp_X0_setBehind_77 (wp_X0_setBehind Ln f) Ln Q k s a (nI n) (nI w) (nI y) b (15 + n) (nI (d - n)) (15 + (n + 1)) (nI x)) (fun x s => upK kV S s ∧ ∃ g1, cv L d Ln s g1 ∧ fr (kB n d) g g1 ∧ ∀ N V, N ≤ d - n → V < L ^ N → at2 L (g1 (15 + n)) N V = (if N = 0 then at2 L (g a) n w else 0) + ksum x (fun x => mulR L (phi y (at2 L (g b)) x) (RB L (at2 L (g a)) (phi y (at2 L (g b))) (d - n - 1) (n + 1) (w * L + x)) N V)) L 0 S2 (Nat.zero_le _) ⟨hu2, _, hc2, fr_u ⟨Nat.le_refl _, by omega⟩, fun N V hN hV => ?_⟩ ?_ ?_
      · rw [va_up_self, hrow N V hN hV]
        exact (ka_0 _).symm
      · rintro k s ⟨hu3, g3, hc3, hf3, hr3⟩
        refine ⟨fun _ => hq s g3 hu3 hc3 hf3 (fun N V hN hV => ?_), fun z => absurd (by rw [hc3.2.2.1]; exact nI_le (Nat.le_refl _) (by omega)) z⟩
        rw [hr3 N V hN hV, show d - n = d - n - 1 + 1 by omega]
        rfl
      · rintro k x s hx ⟨hu3, g3, hc3, hf3, hr3⟩ hk
        have hwx : w * L + x < L ^ (n + 1) := by rw [Nat.mul_comm]; exact pow_app hw hx
        have ega : g3 a = g a := hf3 a (by unfold kB; omega)
        have egb : g3 b = g b := hf3 b (by unfold kB; omega)
        refine ⟨fun z => absurd z (by rw [hc3.2.2.1]; exact nI_ge hx (by omega)), fun _ => ?_⟩
        rw [hc3.2.2.1, pk_mul, nI_add, nI_1]
        refine ih (n + 1) (w * L + x) s g3 _ (by omega) (by omega) hwx hc3 (by rw [egb]; exact hb0) (fun S4 g4 hu4 hc4 hf4 hr4 => ?_)
        rw [ega, egb] at hr4
        have eso : g4 (15 + n) = g3 (15 + n) := hf4 (15 + n) (by unfold kB; omega)
        have egb4 : g4 b = g b := (hf4 b (by unfold kB; omega)).trans egb
        have hf04 : fr (kB n d) g g4 := fr_tr hf3 (fr_w hf4 (fun k hk => by unfold kB at hk ⊢; omega))
        have fin : ∀ S5 r5, upK kV S4 S5 → cv L d Ln S5 (va_up g4 (15 + n) r5) → (∀ N V, N ≤ d - n → V < L ^ N → at2 L r5 N V = at2 L (g3 (15 + n)) N V + mulR L (phi y (at2 L (g b)) x) (RB L (at2 L (g a)) (phi y (at2 L (g b))) (d - n - 1) (n + 1) (w * L + x)) N V) → wp_X0_setBehind_144 (wp_X0_setBehind Ln f) Ln (wp_X0_setBehind_77 (wp_X0_setBehind Ln f) Ln Q k) Q S5 a (nI n) (nI w) (nI y) b (15 + n) (nI (d - n)) (15 + (n + 1)) (nI x) := by
          intro S5 r5 hu5 hc5 hr5
          rintro _ rfl
          rw [nI_1]
          refine hk S5 ⟨upK_tr hu3 (upK_tr hu4 hu5), _, hc5, fr_tr hf04 (fr_u ⟨Nat.le_refl _, by omega⟩), fun N V hN hV => ?_⟩
          rw [va_up_self, hr5 N V hN hV, hr3 N V hN hV, ka_a]
          rfl
        rw [nI_eq (by omega) (by omega)]
        have hr4' : ∀ N V, N ≤ d - n - 1 → V < L ^ N → at2 L (g4 (15 + (n + 1))) N V = RB L (at2 L (g a)) (phi y (at2 L (g b))) (d - n - 1) (n + 1) (w * L + x) N V := fun N V hN hV => by
          have := hr4 N V (by omega) hV
          rwa [show d - (n + 1) = d - n - 1 by omega] at this
        refine ⟨fun hxy => ?_, fun hxy => ?_⟩
        · rw [show nI (d - n) - 1 = nI (d - n - 1) from pk_sub (b := 1) (by omega)]
          refine cq_ahead hc4 hks hkn (by omega) hx (by omega) (fun S5 hu5 hc5 => fin S5 _ hu5 hc5 (fun N V hN hV => ?_))
          show g4 (15 + n) (ofs L N + V) + ghA L (g4 (15 + (n + 1))) x (d - n - 1) (ofs L N + V) = _
          rw [ghA_eq (by omega) hx (by omega) hV, eso]
          unfold phi
          rw [if_neg hxy]
          refine congrArg (_ + ·) (mulR_cz (by omega) hV (fun _ _ _ _ => rfl) ?_ (fun m u hm hu => hr4' m u (by omega) hu))
          unfold lt2
          rw [if_neg (by omega)]
        · refine cq_gather (c := 1) hc4 hks hkb hkn (by omega) (by omega) (by omega) (fun S5 hu5 hc5 => fin S5 _ hu5 hc5 (fun N V hN hV => ?_))
          show g4 (15 + n) (ofs L N + V) + gaA L (g4 b) (g4 (15 + (n + 1))) 1 (d - n) (ofs L N + V) = _
          rw [gaA_eq (by omega) hN hV, km_1, eso, egb4]
          unfold phi
          rw [if_pos hxy]
          exact congrArg (_ + ·) (mulR_cz (by omega) hV (fun _ _ _ _ => rfl) hb0 (fun m u hm hu => hr4' m u (by omega) hu))
    · have hnd : ¬ n < d := fun z => hge (nI_lt z (by omega))
      refine hq S2 _ hu2 hc2 (fr_u ⟨Nat.le_refl _, by omega⟩) (fun N V hN hV => ?_)
      rw [va_up_self, hrow N V hN hV, show d - n = 0 by omega]
      rfl
theorem cq_setInAll {S : cs_T} {t a b y : Nat} {Q : cs_T → Prop} (h : cv L d Ln S g) (ht : kV t) (ha : 7 ≤ a ∧ a ≤ 14) (hb : 7 ≤ b ∧ b ≤ 14) (hy : y < L) (hb0 : g b 0 = 0)
    (hq : ∀ S' g', upK kV S S' → cv L d Ln S' g' → fr (fun k => kB 0 d k ∨ k = t) g g' → eqW L d (g' t) (rpK L d y (g a) (g b)) → Q S') : wp_X0_setInAll Ln S t a (nI y) b Q := by
  have hd := cf_d h.1.1
  have hL := cf_L h.1.1
  have k15 : kV 15 := by unfold kV; omega
  refine cq_setBehind ha hb hy 8 0 0 S g _ (by omega) (by omega) (by rw [Nat.pow_zero]; decide) h hb0 (fun S1 g1 hu1 hc1 hf1 hr1 => ⟨vp_in_nI (n := 0) (by decide) (by decide), ?_⟩)
  refine cq_copy (a := 15) hc1 ht k15 (fun S2 hu2 hc2 => hq S2 _ (upK_tr hu1 hu2) hc2 (fr_tr (fr_w hf1 (fun k hk => Or.inl hk)) (fr_u (Or.inr rfl))) (fun w hw => ?_))
  obtain ⟨n, v, hn, hv, rfl⟩ := pl_ex hw
  rw [va_up_self, ← RB_K (by omega) hn hv]
  exact hr1 n v (by omega) hv
end CA
