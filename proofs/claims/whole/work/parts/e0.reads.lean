/-! the reference's reading: the steps of its loop -/
def upM (S S' : ms_T) : Prop := (∀ j, j ≠ 8 → S'.1 j = S.1 j) ∧ (∀ k, k ≠ 12 → S'.2.1 k = S.2.1 k) ∧ S'.2.2 = S.2.2
theorem upM_rf {S : ms_T} : upM S S := ⟨fun _ _ => rfl, fun _ _ => rfl, rfl⟩
def rM (L t : Nat) (b : Nat → Nat) (S0 S : ms_T) (D : Nat) (m : Nat → Nat) : Prop := upM S0 S ∧ tap S0 t b ∧ S0.1 0 = nI L ∧ L ≤ 4 ∧ S.1 8 = nI D ∧ D ≤ 5 ∧ ∀ i, i < D → S.2.1 12 i = nI (m i)
def RdW (Q : Int32 → ms_T → Prop) (S : ms_T) (k st : Nat) : Prop := ∃ n : Nat, wp_X8_reads_9 Q n S (nI k) (nI st)
section ME
variable {L t : Nat} {b : Nat → Nat} {S0 S : ms_T} {D : Nat} {m : Nat → Nat} {Q : Int32 → ms_T → Prop}
theorem rM_tap (h : rM L t b S0 S D m) : tap S t b := by
  obtain ⟨⟨u1, u2, u3⟩, ⟨t1, t2, t3⟩, h3⟩ := h
  exact ⟨by rw [u1 7 (by decide)]; exact t1, t2, by rw [u2 11 (by decide)]; exact t3⟩
theorem rM_L (h : rM L t b S0 S D m) : S.1 0 = nI L := by rw [h.1.1 0 (by decide)]; exact h.2.2.1
theorem hb_eq {k c : Nat} (hb : ∀ i, i < t → b i < 256) (hc : c < 256) : hvI t b k = nI c ↔ bt t b k = c := by
  unfold hvI bt
  by_cases e : k < t
  · rw [if_pos e, if_pos e]
    exact nI_eq (by have := hb k e; omega) (by omega)
  · rw [if_neg e, if_neg e]
    exact ⟨fun z => absurd z.symm (nI_m1 (by omega)), fun z => by omega⟩
theorem mr_byte {k : Nat} (h : tap S t b) (hk : k < 1000) (hq : Q (hvI t b k) S) : wp_X8_byteAt S (nI k) Q := by
  obtain ⟨t1, t2, t3⟩ := h
  unfold wp_X8_byteAt
  unfold hvI at hq
  rw [t1]
  refine pk_le t k (fun hle => ?_) (fun hlt => ?_)
  · rwa [if_neg (by omega)] at hq
  · rw [if_pos hlt] at hq
    rw [nI_clamp (by omega), (t3 k hlt).1]
    exact ⟨vp_in_nI (by omega) (by decide), hq⟩
theorem hv_in {k lo hi : Nat} {a c : Int64} {P : Int32 → Prop} (hb : ∀ i, i < t → b i < 256) (ha : a.toInt = lo) (hc : c.toInt = hi) (hh : hi < 256) (h1 : lo ≤ bt t b k → bt t b k ≤ hi → P 1) (h0 : ¬ (lo ≤ bt t b k ∧ bt t b k ≤ hi) → P 0) : wp_X8_in (hvI t b k).toInt64 a c P := by
  refine sp_inI (fun x y => ?_) (fun z => ?_)
  · rw [ha] at x
    rw [hc] at y
    by_cases e : k < t
    · have hv : hvI t b k = nI (b k) := if_pos e
      have hbt : bt t b k = b k := if_pos e
      rw [hv, nI_i (by have := hb k e; omega)] at x y
      exact h1 (by rw [hbt]; omega) (by rw [hbt]; omega)
    · have hv : hvI t b k = -1 := if_neg e
      rw [hv, show ((-1) : Int32).toInt = -1 from by decide] at x
      omega
  · rw [ha, hc] at z
    refine h0 (fun q => z ?_)
    have e : k < t := bt_t (t := t) (b := b) rfl (by omega)
    have hv : hvI t b k = nI (b k) := if_pos e
    have hbt : bt t b k = b k := if_pos e
    rw [hv, nI_i (by have := hb k e; omega)]
    rw [hbt] at q
    omega
theorem mr_digit {k : Nat} {P : Int32 → Prop} (hb : ∀ i, i < t → b i < 256) (h1 : dgP (bt t b k) → P 1) (h0 : ¬ dgP (bt t b k) → P 0) : wp_X8_isDigit (hvI t b k) P :=
  hv_in (lo := 48) (hi := 57) hb (by decide) (by decide) (by decide) (fun x y => ⟨Or.inr rfl, h1 ⟨x, y⟩⟩) (fun z => ⟨Or.inl rfl, h0 z⟩)
theorem mr_ch {k c : Nat} {A B : Prop} (hb : ∀ i, i < t → b i < 256) (hc : c < 256) (h1 : bt t b k = c → A) (h0 : bt t b k ≠ c → B) : (hvI t b k = nI c → A) ∧ (¬ hvI t b k = nI c → B) := by
  rw [hb_eq hb hc]
  exact ⟨h1, h0⟩
theorem mr_ch' {k c : Nat} {A B : Prop} (hb : ∀ i, i < t → b i < 256) (hc : c < 256) (h1 : bt t b k = c → A) (h0 : bt t b k ≠ c → B) : (¬ hvI t b k = nI c → B) ∧ (hvI t b k = nI c → A) := by
  rw [hb_eq hb hc]
  exact ⟨h0, h1⟩
theorem mr_begins {k : Nat} (h : rM L t b S0 S D m) (h1 : bgP L (bt t b k) → Q 1 S) (h0 : ¬ bgP L (bt t b k) → Q 0 S) : wp_X8_begins S (hvI t b k) Q := by
  have hb : ∀ i, i < t → b i < 256 := fun i hi => (h.2.1.2.2 i hi).2
  have hL4 := h.2.2.2.1
  refine mr_digit hb (fun q => ⟨fun _ => h1 (Or.inl q), fun z => absurd z (by decide)⟩) (fun q => ⟨fun z => absurd rfl z, fun _ => ?_⟩)
  have el : ((97 + S.1 0 - 1).toInt64).toInt = ((96 + L : Nat) : Int) := by
    rw [rM_L h, show (97 : Int32) = nI 97 from rfl, nI_add, show (1 : Int32) = nI 1 from rfl, pk_sub (by omega), Int32.toInt_toInt64, nI_i (by omega)]
    omega
  refine hv_in (lo := 97) (hi := 96 + L) hb (by decide) el (by omega) (fun x y => ⟨fun _ => h1 (Or.inr (Or.inl ⟨x, by omega⟩)), fun z => absurd z (by decide)⟩) (fun q2 => ⟨fun z => absurd rfl z, fun _ => ?_⟩)
  refine mr_ch (c := 114) hb (by decide) (fun q3 => h1 (by unfold bgP; omega)) (fun q3 => ?_)
  refine mr_ch (c := 91) hb (by decide) (fun q4 => h1 (by unfold bgP; omega)) (fun q4 => ?_)
  refine mr_ch (c := 40) hb (by decide) (fun q5 => h1 (by unfold bgP; omega)) (fun q5 => ?_)
  refine mr_ch (c := 69) hb (by decide) (fun q6 => h1 (by unfold bgP; omega)) (fun q6 => ?_)
  exact mr_ch' (c := 76) hb (by decide) (fun q7 => h1 (by unfold bgP; omega)) (fun q7 => h0 (by unfold bgP ltP; omega))
theorem mr_digits {k : Nat} (h : tap S t b) (hk : k ≤ 200) (hq : Q (nI (dgn (bt t b) 4 k)) S) : wp_X8_digitsFrom S (nI k) Q := by
  have hle := dgn_le (f := bt t b) 4 k
  have hb : ∀ i, i < t → b i < 256 := fun i hi => (h.2.2 i hi).2
  refine pk_loop (σ := Unit) (fun f i _ => wp_X8_digitsFrom_2 Q f S (nI k) (nI i)) (fun i _ => True) (dgn (bt t b) 4 k) 0 () (Nat.zero_le _) trivial ?_ ?_
  · rintro f _ _
    refine ⟨fun _ => hq, fun z => ?_⟩
    have hlt : dgn (bt t b) 4 k < 4 := by
      by_cases e : dgn (bt t b) 4 k < 4
      · exact e
      · exact absurd (nI_le (a := 4) (b := dgn (bt t b) 4 k) (by omega) (by omega)) z
    rw [nI_add]
    exact mr_byte h (by omega) (mr_digit hb (fun q => absurd q (dgn_end 4 k hlt)) (fun q => ⟨fun _ => hq, fun z => absurd rfl z⟩))
  · rintro f i _ hi _ hk2
    have hdg := dgn_dg (f := bt t b) 4 k i hi
    refine ⟨fun z => absurd z (nI_ge (a := i) (b := 4) (by omega) (by omega)), fun _ => ?_⟩
    rw [nI_add]
    refine mr_byte h (by omega) (mr_digit hb (fun q => ⟨fun z => absurd z (by decide), fun _ => ?_⟩) (fun q => absurd hdg q))
    rintro _ rfl
    rw [nI_1]
    exact hk2 () trivial
/-! steps -/
theorem rd_in {n k st : Nat} (h : rM L t b S0 S D m) (hk : k ≤ t) (hs : st ≤ 2) (hkt : st = 0 ∨ k < t) (hq : wp_X8_reads_21 (wp_X8_reads_9 Q n) Q S (nI k) (nI st)) : RdW Q S k st := by
  have ht := h.2.1.2.1
  have h7 := (rM_tap h).1
  refine ⟨n + 1, fun _ => hq, fun z => ⟨fun z2 => ?_, fun _ => hq⟩⟩
  rw [h7] at z2
  cases hkt with
  | inl e => exact absurd (by rw [e]; rfl) z
  | inr e => exact absurd z2 (nI_ge (a := k) (b := t) (by omega) (by omega))
theorem rd_beg {n k st : Nat} (h : rM L t b S0 S D m) (hk : k ≤ t) (hs : st ≤ 1) (hb : bgP L (bt t b k)) (hr : bt t b k = 114 → 48 ≤ bt t b (k + 1) ∧ bt t b (k + 1) ≤ 55 → wp_X8_reads_66 (wp_X8_reads_9 Q n) Q S (nI k) (hvI t b k)) (hr0 : bt t b k = 114 → ¬ (48 ≤ bt t b (k + 1) ∧ bt t b (k + 1) ≤ 55) → Q (nI (k + 1)) S) (ho : bt t b k ≠ 114 → wp_X8_reads_66 (wp_X8_reads_9 Q n) Q S (nI k) (hvI t b k)) : RdW Q S k st := by
  have hbb : ∀ i, i < t → b i < 256 := fun i hi => (h.2.1.2.2 i hi).2
  have ht := h.2.1.2.1
  have hL4 := h.2.2.2.1
  have hkt : k < t := bt_t (t := t) (b := b) (c := bt t b k) rfl (by unfold bgP dgP ltP at hb; omega)
  refine rd_in (n := n) h hk (by omega) (Or.inr hkt) (mr_byte (rM_tap h) (by omega) ⟨fun z => absurd z (nI_ge (a := st) (b := 2) (by omega) (by omega)), fun _ => mr_begins h (fun _ => ⟨fun z => absurd z (by decide), fun _ => ?_⟩) (fun q => absurd hb q)⟩)
  refine mr_ch' (c := 114) hbb (by decide) (fun e => ?_) ho
  rw [nI_1]
  refine mr_byte (rM_tap h) (by omega) (hv_in (lo := 48) (hi := 55) hbb (by decide) (by decide) (by decide) (fun x y => ⟨fun z => absurd z (by decide), fun _ => hr e ⟨x, y⟩⟩) (fun q => ⟨fun _ => hr0 e q, fun z => absurd rfl z⟩))
theorem rd_flat {n k c : Nat} (hbb : ∀ i, i < t → b i < 256) (ht : t ≤ 100) (htp : tap S t b) (hk : k < t) (hc : bt t b k = c) (hs : dgP c ∨ (97 ≤ c ∧ c < 101) ∨ c = 114) (hq : wp_X8_reads_9 Q n S (nI (k + if c = 114 then 2 else if dgP c then dgn (bt t b) 4 k else 1)) (nI 1)) : wp_X8_reads_66 (wp_X8_reads_9 Q n) Q S (nI k) (hvI t b k) := by
  have h69 : bt t b k ≠ 69 := by unfold dgP at hs; omega
  have h76 : bt t b k ≠ 76 := by unfold dgP at hs; omega
  refine mr_ch (c := 69) hbb (by decide) (fun e => absurd e h69) (fun _ => mr_ch' (c := 76) hbb (by decide) (fun e => absurd e h76) (fun _ => ?_))
  refine mr_ch (c := 69) hbb (by decide) (fun e => absurd e h69) (fun _ => mr_ch' (c := 76) hbb (by decide) (fun e => absurd e h76) (fun _ => ?_))
  refine mr_ch (c := 91) hbb (by decide) (fun e => absurd e (by unfold dgP at hs; omega)) (fun _ => mr_ch (c := 40) hbb (by decide) (fun e => absurd e (by unfold dgP at hs; omega)) (fun _ => mr_ch (c := 69) hbb (by decide) (fun e => absurd e h69) (fun _ => mr_ch' (c := 76) hbb (by decide) (fun e => absurd e h76) (fun _ => ?_))))
  refine mr_ch' (c := 114) hbb (by decide) (fun e => ?_) (fun e => mr_digit hbb (fun q => ⟨fun z => absurd z (by decide), fun _ => mr_digits htp (by omega) ?_⟩) (fun q => ⟨fun _ => ?_, fun z => absurd rfl z⟩))
  · rintro _ rfl
    rw [if_pos (by omega)] at hq
    rw [show nI k + 2 = nI (k + 2) from nI_add _ 2]
    exact hq
  · rintro _ rfl
    rw [if_neg (by omega), if_pos (by rw [← hc]; exact q)] at hq
    rw [nI_add]
    exact hq
  · rintro _ rfl
    rw [if_neg (by omega), if_neg (by rw [← hc]; exact q)] at hq
    rw [nI_1]
    exact hq
end ME
