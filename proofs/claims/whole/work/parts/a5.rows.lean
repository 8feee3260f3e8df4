/-! the class's inner, keepLength, isNought, onlyLength, backward, turnAbout, multiplyByLetter -/
section CR
variable {L d : Nat} {Ln : Nat → Nat} {S : cs_T} {g : Nat → Nat → Kf} {t a b : Nat}
theorem cq_inner {Q : Int32 → cs_T → Prop} (h : cv L d Ln S g) (ha : kV a) (hb : kV b) (hq : Q (kI (ksum (ofs L (d + 1)) (fun j => g a j * g b j))) S) : wp_X0_inner Ln S a b Q := by
  have hW := cv_W h
  have e1 := h.2.2.2.1 a ha
  refine pk_loop (σ := Kf) (fun n i so => wp_X0_inner_5 Ln Q n S a b (kI so) (nI i)) (fun i so => so = ksum i (fun j => g a j * g b j)) (ofs L (d + 1)) 0 0 (Nat.zero_le _) rfl ?_ ?_
  · rintro n _ rfl
    exact ⟨kV_47 ha, fun _ => hq, fun z => absurd (by rw [e1]; exact nI_le (Nat.le_refl _) (by omega)) z⟩
  · rintro n i _ hi rfl hk
    refine ⟨kV_47 ha, fun z => absurd z (by rw [e1]; exact nI_ge hi (by omega)), fun _ => ⟨kV_47 hb, cv_in h hb hi, ?_⟩⟩
    rw [cv_g h hb hi, cv_g h ha hi]
    refine ⟨fun z => ?_, fun _ => ⟨cv_in h ha hi, cv_in h hb hi, kn_more ?_⟩⟩
    · rintro _ rfl
      rw [nI_1]
      refine hk _ ?_
      show _ = ksum i _ + g a i * g b i
      rw [kI_z.mp z, km_0', ka_0]
    · rintro _ rfl
      rw [nI_1]
      exact hk _ rfl
def kpK (L n : Nat) (f : Nat → Kf) : Nat → Kf := fun j => if ofs L n ≤ j ∧ j < ofs L (n + 1) then f j else 0
theorem cq_keep {Q : cs_T → Prop} {n : Nat} (h : cv L d Ln S g) (ht : kV t) (ha : kV a) (hn : n ≤ d) (hq : ∀ S', upK kV S S' → cv L d Ln S' (va_up g t (kpK L n (g a))) → Q S') : wp_X0_keepLength Ln S t a (nI n) Q := by
  have hW := cv_W h
  have e1 := h.2.2.2.1 t ht
  have hm : ofs L (n + 1) ≤ ofs L (d + 1) := ofs_mono (by omega)
  have hm2 : ofs L n ≤ ofs L (n + 1) := ofs_mono (by omega)
  refine lpR (fun k s i => wp_X0_keepLength_3 Ln Q k s t a (nI n) (nI i)) (fun i j => if j < i then kpK L n (g a) j else g t j) 0 (ofs L (d + 1)) (Nat.zero_le _) (g := g) (t := t) (cv_t h (fun j _ => rfl)) ?_ ?_
  · intro k S' hu hc
    exact ⟨kV_47 ht, fun _ => hq S' hu (cv_tc hc (fun j hj => if_pos hj)), fun z => absurd (by rw [e1]; exact nI_le (Nat.le_refl _) (by omega)) z⟩
  · intro k i S' _ hi hu hc hk
    have ea : (va_up g t (fun j => if j < i then kpK L n (g a) j else g t j)) a i = g a i := by
      by_cases h1 : a = t
      · subst h1; rw [va_up_self, if_neg (Nat.lt_irrefl i)]
      · rw [va_up_ne _ _ h1]
    have hs1 := cv_st hc (n := n) (by omega)
    have hs2 := cv_st hc (n := n + 1) (by omega)
    have fin : ∀ c : Kf, kpK L n (g a) i = c → wp_X0_keepLength_57 Ln (wp_X0_keepLength_3 Ln Q k) Q S' t a (nI n) (nI i) t (nI i) (kI c) := by
      intro c hcc
      refine ⟨kV_47 ht, cv_in hc ht hi, ?_⟩
      rintro _ rfl
      rw [nI_1, nI_clamp (by omega)]
      have hs := cv_s' (p := i) (c := c) (r' := fun j => if j < i + 1 then kpK L n (g a) j else g t j) hc ht (fun j hj => by
        rw [if_lt_succ]
        by_cases h1 : j = i
        · subst h1; rw [if_pos rfl, if_pos rfl, hcc]
        · rw [if_neg h1, if_neg h1])
      exact hk _ (upK_tr hu hs.1) hs.2
    have f0 : ¬ (ofs L n ≤ i ∧ i < ofs L (n + 1)) → wp_X0_keepLength_38 Ln (wp_X0_keepLength_3 Ln Q k) Q S' t a (nI n) (nI i) := fun hz => ⟨fun _ => fin 0 (if_neg hz), fun z => absurd rfl z⟩
    refine ⟨kV_47 ht, fun z => absurd z (by rw [e1]; exact nI_ge hi (by omega)), fun _ => ⟨hs1.1, ?_⟩⟩
    rw [hs1.2, nI_1, hs2.2]
    refine pk_lt i (ofs L n) (fun hlt => f0 (by omega)) (fun hge => ⟨hs2.1, pk_le (ofs L (n + 1)) i (fun hle => f0 (by omega)) (fun hlt => ⟨fun z => absurd z (by decide), fun _ => ⟨kV_47 ha, cv_in hc ha hi, ?_⟩⟩)⟩)
    rw [cv_g hc ha hi, ea]
    exact fin _ (if_pos ⟨hge, hlt⟩)
theorem cq_isNought {Q : Int32 → cs_T → Prop} {n : Nat} (h : cv L d Ln S g) (ha : kV a) (hn : n ≤ d) (h1 : (∀ v, v < L ^ n → g a (ofs L n + v) = 0) → Q 1 S) (h0 : ∀ v, v < L ^ n → g a (ofs L n + v) ≠ 0 → Q 0 S) : wp_X0_isNought Ln S a (nI n) Q := by
  have hW := cv_W h
  have hs1 := cv_st h (n := n) (by omega)
  have hs2 := cv_st h (n := n + 1) (by omega)
  have hmW : ofs L n + L ^ n ≤ ofs L (d + 1) := ofs_mono (L := L) (show n + 1 ≤ d + 1 by omega)
  refine ⟨hs1.1, ?_⟩
  rw [hs1.2]
  rintro _ rfl
  refine pk_loop (σ := Unit) (fun k v _ => wp_X0_isNought_7 Ln Q k S a (nI n) (nI (ofs L n + v))) (fun v _ => ∀ u, u < v → g a (ofs L n + u) = 0) (L ^ n) 0 () (Nat.zero_le _) (fun u hu => absurd hu (Nat.not_lt_zero u)) ?_ ?_
  · intro k _ hI
    refine ⟨by rw [nI_1]; exact hs2.1, ?_⟩
    rw [nI_1, hs2.2]
    exact ⟨fun _ => h1 hI, fun z => absurd (nI_le (Nat.le_refl _) (by show ofs L n + L ^ n < _; omega)) z⟩
  · intro k v _ hv hI hk
    have hvW : ofs L n + v < ofs L (d + 1) := by omega
    refine ⟨by rw [nI_1]; exact hs2.1, ?_⟩
    rw [nI_1, hs2.2, cv_g h ha hvW]
    refine ⟨fun z => absurd z (nI_ge (by show _ < ofs L n + L ^ n; omega) (by show ofs L n + L ^ n < _; omega)), fun _ => ⟨kV_47 ha, cv_in h ha hvW, fun z => ?_, fun z => h0 v hv (fun q => z (kI_z.mpr q))⟩⟩
    rintro _ rfl
    rw [nI_1]
    refine hk () (fun u hu => ?_)
    by_cases e : u = v
    · rw [e]; exact kI_z.mp z
    · exact hI u (by omega)
/-- a sum is not 0 at words of this length, and at no others -/
def onl (L d : Nat) (f : Nat → Kf) (n : Nat) : Prop := n ≤ d ∧ (∃ v, v < L ^ n ∧ f (ofs L n + v) ≠ 0) ∧ ∀ m, m ≤ d → m ≠ n → ∀ v, v < L ^ m → f (ofs L m + v) = 0
theorem cq_onlyLength {Q : Int32 → cs_T → Prop} (h : cv L d Ln S g) (ha : kV a) (hq : ∀ n, onl L d (g a) n → Q (nI n) S) (hno : (∀ n, ¬ onl L d (g a) n) → Q (-1) S) : wp_X0_onlyLength Ln S a Q := by
  have hd := cf_d h.1.1
  refine pk_loop (σ := Option Nat) (fun k n o => wp_X0_onlyLength_4 Ln Q k S a (match o with | none => -1 | some m => nI m) (nI n)) (fun n o => match o with | none => ∀ m, m < n → ∀ v, v < L ^ m → g a (ofs L m + v) = 0 | some m => m < n ∧ m ≤ d ∧ (∃ v, v < L ^ m ∧ g a (ofs L m + v) ≠ 0) ∧ ∀ m', m' < n → m' ≠ m → ∀ v, v < L ^ m' → g a (ofs L m' + v) = 0) (d + 1) 0 none (Nat.zero_le _) (fun m hm => absurd hm (Nat.not_lt_zero m)) ?_ ?_
  · intro k o hI
    refine ⟨fun _ => ?_, fun z => absurd (by rw [h.2.1]; exact nI_lt (by omega) (by omega)) z⟩
    cases o with
    | none =>
      refine hno (fun n hn => ?_)
      obtain ⟨h1, ⟨v, hv, hv0⟩, _⟩ := hn
      exact hv0 (hI n (by omega) v hv)
    | some m =>
      obtain ⟨h1, h2, h3, h4⟩ := hI
      exact hq m ⟨h2, h3, fun m' hm' hne => h4 m' (by omega) hne⟩
  · intro k n o hn hI hk
    refine ⟨fun z => absurd z (by rw [h.2.1]; exact nI_nlt (by omega) (by omega)), fun _ => ?_⟩
    refine cq_isNought h ha (by omega) (fun hz => ⟨fun _ => ?_, fun z => absurd z (by decide)⟩) (fun v hv hv0 => ⟨fun z => absurd rfl z, fun _ => ?_⟩)
    · rintro _ rfl
      rw [nI_1]
      refine hk o ?_
      cases o with
      | none =>
        intro m hm
        by_cases e : m = n
        · rw [e]; exact hz
        · exact hI m (by omega)
      | some m =>
        obtain ⟨h1, h2, h3, h4⟩ := hI
        refine ⟨by omega, h2, h3, fun m' hm' hne => ?_⟩
        by_cases e : m' = n
        · rw [e]; exact hz
        · exact h4 m' (by omega) hne
    · cases o with
      | none =>
        refine ⟨fun _ => ?_, fun z => absurd rfl z⟩
        rintro _ rfl
        rw [nI_1]
        exact hk (some n) ⟨by omega, by omega, ⟨v, hv, hv0⟩, fun m' hm' hne => hI m' (by omega)⟩
      | some m =>
        obtain ⟨h1, h2, h3, h4⟩ := hI
        refine ⟨fun z => absurd z (nI_m1 (by omega)), fun _ => hno (fun m' hm' => ?_)⟩
        obtain ⟨q1, q2, q3⟩ := hm'
        by_cases e : m' = n
        · obtain ⟨u, hu, hu0⟩ := h3
          exact hu0 (q3 m h2 (by omega) u hu)
        · exact hv0 (q3 n (by omega) (fun z => e z.symm) v hv)
theorem cq_backward {Q : Int32 → cs_T → Prop} {n v : Nat} (h : cv L d Ln S g) (hn : n ≤ d) (hv : v < L ^ n) (hq : Q (nI (rv L v n)) S) : wp_X6_backward Ln S (nI v) (nI n) Q := by
  have hd := cf_d h.1.1
  have hL := cf_L h.1.1
  have hp := cf_pow h.1.1 hn
  have e2 : S.1 2 = nI L := h.1.2.1
  have key := pk_loop (σ := Unit) (fun k i _ => wp_X6_backward_8 Ln Q k S (nI n) (nI (v / L ^ i)) (nI (rv L v i)) (nI i)) (fun i _ => True) n 0 () (Nat.zero_le _) trivial ?_ ?_
  · rw [Nat.pow_zero, Nat.div_one] at key
    exact key
  · intro k _ _
    exact ⟨fun _ => hq, fun z => absurd (nI_le (Nat.le_refl _) (by omega)) z⟩
  · intro k i _ hi _ hk
    have hr := rv_lt (L := L) (v := v) (by omega) i
    have hpi := cf_pow h.1.1 (n := i) (by omega)
    have hdv : v / L ^ i ≤ v := Nat.div_le_self _ _
    refine ⟨fun z => absurd z (nI_ge hi (by omega)), fun _ => ?_⟩
    rw [e2]
    refine ⟨nI_ne (by omega) (by omega), ?_⟩
    rintro _ rfl
    refine ⟨nI_ne (by omega) (by omega), ?_⟩
    rintro _ rfl _ rfl
    rw [pk_mul, ri_rem (by omega) (by omega) (by omega), nI_add, pk_div (by omega) (by omega) (by omega), nI_1, Nat.div_div_eq_div_mul, ← Nat.pow_succ, Nat.mul_comm (rv L v i) L]
    exact hk () trivial
/-- TURN, by places -/
def sgv (n : Nat) (x : Kf) : Kf := if n % 2 = 0 then x else 0 - x
def turnK (L d : Nat) (f : Nat → Kf) : Nat → Kf := fun w => sgv (wlen L d w) (f (ofs L (wlen L d w) + rv L (w - ofs L (wlen L d w)) (wlen L d w)))
theorem turnK_at {f : Nat → Kf} {n v : Nat} (hn : n ≤ d) (hv : v < L ^ n) : turnK L d f (ofs L n + v) = sgv n (f (ofs L n + rv L v n)) := by
  unfold turnK
  rw [wlen_of hn hv, Nat.add_sub_cancel_left]
theorem cq_turn {Q : cs_T → Prop} (h : cv L d Ln S g) (ht : kV t) (ha : kV a) (ha3 : a ≠ 3) (hq : ∀ S' g', upK kV S S' → cv L d Ln S' g' → fr (fun k => k = 3 ∨ k = t) g g' → g' t = turnK L d (g a) → Q S') : wp_X0_turnAbout Ln S t a Q := by
  have hd := cf_d h.1.1
  have hL := cf_L h.1.1
  have hW := cv_W h
  have k3 : kV 3 := by unfold kV; omega
  refine lpR (fun k s n => wp_X0_turnAbout_2 Ln Q k s t a (nI n)) (fun n j => if wlen L d j < n then turnK L d (g a) j else g 3 j) 0 (d + 1) (Nat.zero_le _) (g := g) (t := 3) (cv_t h (fun j _ => if_neg (Nat.not_lt_zero _))) ?_ ?_
  · intro k S1 hu1 hc1
    refine ⟨fun _ => ?_, fun z => absurd (by rw [hc1.2.1]; exact nI_lt (by omega) (by omega)) z⟩
    have hc2 := cv_tc (r' := turnK L d (g a)) hc1 (fun j hj => if_pos (Nat.lt_succ_of_le wlen_le))
    refine cq_copy hc2 ht k3 (fun S2 hu2 hc3 => ?_)
    rw [va_up_self] at hc3
    exact hq S2 _ (upK_tr hu1 hu2) hc3 (fr_tr (fr_u (Or.inl rfl)) (fr_u (Or.inr rfl))) (va_up_self _ _ _)
  · intro k n S1 _ hn hu1 hc1 hk1
    refine ⟨fun z => absurd z (by rw [hc1.2.1]; exact nI_nlt (by omega) (by omega)), fun _ => ?_⟩
    have hpn := cf_pow h.1.1 (n := n) (by omega)
    refine lpR (S := S1) (fun k2 s v => wp_X0_turnAbout_13 Ln (wp_X0_turnAbout_2 Ln Q k) Q k2 s t a (nI n) (nI v)) (fun v j => if wlen L d j < n ∨ (wlen L d j = n ∧ rv L (j - ofs L n) n < v) then turnK L d (g a) j else g 3 j) 0 (L ^ n) (Nat.zero_le _) (g := g) (t := 3) (cv_tc hc1 (fun j _ => ?_)) ?_ ?_
    · by_cases e : wlen L d j < n
      · rw [if_pos e, if_pos (Or.inl e)]
      · rw [if_neg e, if_neg (fun z => z.elim e (fun q => absurd q.2 (Nat.not_lt_zero _)))]
    · intro k2 S2 hu2 hc2
      have hp2 := cv_pw hc2 (n := n) (by omega)
      refine ⟨hp2.1, ?_⟩
      rw [hp2.2]
      refine ⟨fun _ => ?_, fun z => absurd (nI_le (Nat.le_refl _) (by omega)) z⟩
      rintro _ rfl
      rw [nI_1]
      refine hk1 S2 (upK_tr hu1 hu2) (cv_tc hc2 (fun j hj => ?_))
      by_cases e : wlen L d j < n + 1
      · rw [if_pos e, if_pos]
        by_cases e2 : wlen L d j = n
        · exact Or.inr ⟨e2, rv_lt (by omega) n⟩
        · exact Or.inl (by omega)
      · rw [if_neg e, if_neg (by omega)]
    · intro k2 v S2 _ hv hu2 hc2 hk2
      have hp2 := cv_pw hc2 (n := n) (by omega)
      have hs2 := cv_st hc2 (n := n) (by omega)
      have hvW : ofs L n + v < ofs L (d + 1) := pl_W (by omega) hv
      have hrl : rv L v n < L ^ n := rv_lt (by omega) n
      have hrW : ofs L n + rv L v n < ofs L (d + 1) := pl_W (by omega) hrl
      refine ⟨hp2.1, ?_⟩
      rw [hp2.2]
      refine ⟨fun z => absurd z (nI_ge hv (by omega)), fun _ => ⟨hs2.1, kV_47 ha, ?_⟩⟩
      rw [hs2.2, nI_add]
      refine ⟨cv_in hc2 ha hvW, ?_⟩
      rw [cv_g hc2 ha hvW, va_up_ne _ _ ha3]
      rintro _ rfl
      refine ⟨hs2.1, cq_backward hc2 (by omega) hv ?_⟩
      rw [nI_add]
      rintro _ rfl
      rw [show (2 : Int32) = nI 2 from rfl, ri_rem (by omega) (by decide) (by decide)]
      have fin : ∀ c : Kf, sgv n (g a (ofs L n + v)) = c → wp_X0_turnAbout_79 Ln (wp_X0_turnAbout_2 Ln Q k) (wp_X0_turnAbout_13 Ln (wp_X0_turnAbout_2 Ln Q k) Q k2) Q S2 t a (nI n) (nI v) 3 (nI (ofs L n + rv L v n)) (kI c) := by
        intro c hcc
        refine ⟨by decide, cv_in hc2 k3 hrW, ?_⟩
        rintro _ rfl
        rw [nI_1, nI_clamp (by omega)]
        have hs := cv_s' (p := ofs L n + rv L v n) (c := c) (r' := fun j => if wlen L d j < n ∨ (wlen L d j = n ∧ rv L (j - ofs L n) n < v + 1) then turnK L d (g a) j else g 3 j) hc2 k3 (fun j hj => by
          obtain ⟨N, V, hN, hV, rfl⟩ := pl_ex hj
          rw [wlen_of hN hV]
          by_cases e1 : ofs L N + V = ofs L n + rv L v n
          · obtain ⟨rfl, rfl⟩ := place_inj hV hrl e1
            rw [if_pos e1, Nat.add_sub_cancel_left, rv_rv (by omega) hv, if_pos (Or.inr ⟨rfl, by omega⟩), turnK_at hN hV, rv_rv (by omega) hv, hcc]
          · rw [if_neg e1]
            by_cases e2 : N < n
            · rw [if_pos (Or.inl e2), if_pos (Or.inl e2)]
            · by_cases e3 : N = n
              · subst e3
                rw [Nat.add_sub_cancel_left]
                have hne : rv L V N ≠ v := fun q => e1 (by rw [← q, rv_rv (by omega) hV])
                by_cases e4 : rv L V N < v
                · rw [if_pos (Or.inr ⟨rfl, by omega⟩), if_pos (Or.inr ⟨rfl, e4⟩)]
                · rw [if_neg (by omega), if_neg (by omega)]
              · rw [if_neg (by omega), if_neg (by omega)])
        exact hk2 _ (upK_tr hu2 hs.1) hs.2
      refine ⟨fun z => ?_, fun z => ?_⟩
      · have hz : n % 2 ≠ 0 := fun q => z (by rw [q]; rfl)
        exact kn_minus (a := 0) (fin _ (if_neg hz))
      · have hz : n % 2 = 0 := (nI_eq (a := n % 2) (b := 0) (by omega) (by decide)).mp z
        exact fin _ (if_pos hz)
/-- a letter behind each word -/
def mlK (L d : Nat) (f : Nat → Kf) (c : Nat) : Nat → Kf := fun w => if 1 ≤ wlen L d w ∧ (w - ofs L (wlen L d w)) % L = c then f (ofs L (wlen L d w - 1) + (w - ofs L (wlen L d w)) / L) else 0
theorem mlK_at {f : Nat → Kf} {c n v : Nat} (hn : n ≤ d) (hv : v < L ^ n) : mlK L d f c (ofs L n + v) = if 1 ≤ n ∧ v % L = c then f (ofs L (n - 1) + v / L) else 0 := by
  unfold mlK
  rw [wlen_of hn hv, Nat.add_sub_cancel_left]
theorem cq_byLetter {Q : cs_T → Prop} {c : Nat} (h : cv L d Ln S g) (ht : kV t) (ht3 : t ≠ 3) (hcL : c < L) (hq : ∀ S' g', upK kV S S' → cv L d Ln S' g' → fr (fun k => k = 3 ∨ k = t) g g' → g' t = mlK L d (g t) c → Q S') : wp_X0_multiplyByLetter Ln S t (nI c) Q := by
  have hd := cf_d h.1.1
  have hL := cf_L h.1.1
  have hW := cv_W h
  have k3 : kV 3 := by unfold kV; omega
  refine cq_fill h k3 (fun S0 hu0 hc0 => ?_)
  refine lpR (fun k s n => wp_X0_multiplyByLetter_10 Ln Q k s t (nI c) (nI n)) (fun n j => if wlen L d j < n + 1 then mlK L d (g t) c j else 0) 0 d (Nat.zero_le _) (g := g) (t := 3) (cv_tc hc0 (fun j hj => ?_)) ?_ ?_
  · by_cases e : wlen L d j < 0 + 1
    · rw [if_pos e]
      unfold mlK
      rw [if_neg (by omega)]
    · rw [if_neg e]
  · intro k S1 hu1 hc1
    refine ⟨fun _ => ?_, fun z => absurd (by rw [hc1.2.1]; exact nI_le (Nat.le_refl _) (by omega)) z⟩
    have hc2 := cv_tc (r' := mlK L d (g t) c) hc1 (fun j hj => if_pos (Nat.lt_succ_of_le wlen_le))
    refine cq_copy hc2 ht k3 (fun S2 hu2 hc3 => ?_)
    rw [va_up_self] at hc3
    exact hq S2 _ (upK_tr hu0 (upK_tr hu1 hu2)) hc3 (fr_tr (fr_u (Or.inl rfl)) (fr_u (Or.inr rfl))) (va_up_self _ _ _)
  · intro k n S1 _ hn hu1 hc1 hk1
    have hs1 := cv_st hc1 (n := n + 1) (by omega)
    have hs0 := cv_st hc1 (n := n) (by omega)
    refine ⟨fun z => absurd z (by rw [hc1.2.1]; exact nI_ge hn (by omega)), fun _ => ⟨by rw [nI_1]; exact hs1.1, ?_⟩⟩
    rw [nI_1, hs1.2, nI_add]
    rintro _ rfl
    refine ⟨hs0.1, ?_⟩
    rw [hs0.2]
    rintro _ rfl
    have hpn := cf_pow h.1.1 (n := n) (by omega)
    have hmW : ofs L n + L ^ n ≤ ofs L (d + 1) := ofs_mono (L := L) (show n + 1 ≤ d + 1 by omega)
    have key := lpR (S := S1) (fun k2 s u => wp_X0_multiplyByLetter_38 Ln (wp_X0_multiplyByLetter_10 Ln Q k) Q k2 s t (nI c) (nI n) (nI (ofs L (n + 1) + (L * u + c))) (nI (ofs L n + u))) (fun u j => if wlen L d j < n + 1 ∨ (wlen L d j = n + 1 ∧ (j - ofs L (n + 1)) / L < u) then mlK L d (g t) c j else 0) 0 (L ^ n) (Nat.zero_le _) (g := g) (t := 3) (cv_tc hc1 (fun j _ => ?_)) ?_ ?_
    · rw [Nat.mul_zero, Nat.zero_add, Nat.add_zero] at key
      exact key
    · by_cases e : wlen L d j < n + 1
      · rw [if_pos e, if_pos (Or.inl e)]
      · rw [if_neg e, if_neg (fun z => z.elim e (fun q => absurd q.2 (Nat.not_lt_zero _)))]
    · intro k2 S2 hu2 hc2
      have hs2 := cv_st hc2 (n := n + 1) (by omega)
      refine ⟨by rw [nI_1]; exact hs2.1, ?_⟩
      rw [nI_1, hs2.2]
      refine ⟨fun _ => ?_, fun z => absurd (nI_le (Nat.le_refl _) (by show ofs L n + L ^ n < _; omega)) z⟩
      rintro _ rfl
      refine hk1 S2 (upK_tr hu1 hu2) (cv_tc hc2 (fun j hj => ?_))
      obtain ⟨N, V, hN, hV, rfl⟩ := pl_ex hj
      rw [wlen_of hN hV]
      by_cases e : N < n + 1 + 1
      · rw [if_pos e, if_pos]
        by_cases e2 : N = n + 1
        · subst e2
          refine Or.inr ⟨rfl, ?_⟩
          rw [Nat.add_sub_cancel_left, Nat.div_lt_iff_lt_mul (by omega), ← Nat.pow_succ]
          exact hV
        · exact Or.inl (by omega)
      · rw [if_neg e, if_neg (by omega)]
    · intro k2 u S2 _ hu' hu2 hc2 hk2
      have hs2 := cv_st hc2 (n := n + 1) (by omega)
      have huW : ofs L n + u < ofs L (d + 1) := by omega
      have hlt : L * u + c < L ^ (n + 1) := pow_app hu' hcL
      have htW : ofs L (n + 1) + (L * u + c) < ofs L (d + 1) := pl_W (by omega) hlt
      refine ⟨by rw [nI_1]; exact hs2.1, ?_⟩
      rw [nI_1, hs2.2, cv_g hc2 ht huW, va_up_ne _ _ ht3]
      refine ⟨fun z => absurd z (nI_ge (by show _ < ofs L n + L ^ n; omega) (by show ofs L n + L ^ n < _; omega)), fun _ => ⟨kV_47 ht, cv_in hc2 ht huW, cv_in hc2 k3 htW, ?_⟩⟩
      rintro _ rfl _ rfl
      rw [nI_clamp (by omega)]
      have hs := cv_s' (p := ofs L (n + 1) + (L * u + c)) (c := g t (ofs L n + u)) (r' := fun j => if wlen L d j < n + 1 ∨ (wlen L d j = n + 1 ∧ (j - ofs L (n + 1)) / L < u + 1) then mlK L d (g t) c j else 0) hc2 k3 (fun j hj => by
        obtain ⟨N, V, hN, hV, rfl⟩ := pl_ex hj
        rw [wlen_of hN hV, mlK_at hN hV]
        have hdm := Nat.div_add_mod V L
        have hml := Nat.mod_lt V (show 0 < L by omega)
        by_cases e1 : ofs L N + V = ofs L (n + 1) + (L * u + c)
        · obtain ⟨rfl, rfl⟩ := place_inj hV hlt e1
          have q1 : (L * u + c) / L = u := by rw [Nat.mul_add_div (by omega), Nat.div_eq_of_lt hcL, Nat.add_zero]
          have q2 : (L * u + c) % L = c := by rw [Nat.mul_add_mod, Nat.mod_eq_of_lt hcL]
          rw [if_pos e1, Nat.add_sub_cancel_left, q1, q2, if_pos (Or.inr ⟨rfl, by omega⟩), if_pos ⟨by omega, rfl⟩, Nat.add_sub_cancel]
        · rw [if_neg e1]
          by_cases e2 : N < n + 1
          · rw [if_pos (Or.inl e2), if_pos (Or.inl e2)]
          · by_cases e3 : N = n + 1
            · subst e3
              rw [Nat.add_sub_cancel_left]
              by_cases e4 : V / L < u
              · rw [if_pos (Or.inr ⟨rfl, by omega⟩), if_pos (Or.inr ⟨rfl, e4⟩)]
              · by_cases e5 : V / L = u
                · have hne : V % L ≠ c := fun q => e1 (by rw [← q, ← e5]; omega)
                  rw [if_pos (Or.inr ⟨rfl, by omega⟩), if_neg (fun q => hne q.2), if_neg (by omega)]
                · rw [if_neg (by omega), if_neg (by omega)]
            · rw [if_neg (by omega), if_neg (by omega)])
      have e1 : (cs_sI S2 3 (ofs L (n + 1) + (L * u + c)) (kI (g t (ofs L n + u)))).1 1 = nI L := hs.2.2.2.1
      rw [e1, nI_1, nI_add, show ofs L (n + 1) + (L * u + c) + L = ofs L (n + 1) + (L * (u + 1) + c) by rw [Nat.mul_succ]; omega]
      exact hk2 _ (upK_tr hu2 hs.1) hs.2
end CR
