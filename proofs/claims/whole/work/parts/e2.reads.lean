/-! the reference's reading: no beginning, division, signs, closing, end -/
section MG
variable {L t : Nat} {b : Nat → Nat} {S0 S : ms_T} {D : Nat} {m : Nat → Nat} {Q : Int32 → ms_T → Prop}
theorem rd_nb {n k st : Nat} (h : rM L t b S0 S D m) (hk : k ≤ t) (hs : st ≤ 2) (hkt : st = 0 ∨ k < t) (hb : st = 2 ∨ ¬ bgP L (bt t b k)) (hq : wp_X8_reads_226 (wp_X8_reads_9 Q n) Q S (nI k) (nI st) (hvI t b k)) : RdW Q S k st := by
  have ht := h.2.1.2.1
  refine rd_in (n := n) h hk hs hkt (mr_byte (rM_tap h) (by omega) ⟨fun _ => hq, fun z => mr_begins h (fun q => ?_) (fun _ => ⟨fun _ => hq, fun z => absurd rfl z⟩)⟩)
  cases hb with
  | inl e => exact absurd (nI_le (a := 2) (b := st) (by omega) (by omega)) z
  | inr e => exact absurd q e
theorem rs_none {k : Nat} (h : rM L t b S0 S D m) (hk : k ≤ t) (hb : ¬ bgP L (bt t b k)) (hq : Q (nI k) S) : RdW Q S k 0 :=
  rd_nb (n := 0) h hk (by decide) (Or.inl rfl) (Or.inr hb) ⟨fun z => absurd rfl z, fun _ => hq⟩
theorem rs_div {k : Nat} (h : rM L t b S0 S D m) (hk : k ≤ t) (hc : bt t b k = 47) (h1 : (48 ≤ bt t b (k + 1) ∧ bt t b (k + 1) ≤ 57) ∧ bt t b (k + 1) ≠ 48 → RdW Q S (k + 1 + dgn (bt t b) 4 (k + 1)) 2) (h0 : ¬ ((48 ≤ bt t b (k + 1) ∧ bt t b (k + 1) ≤ 57) ∧ bt t b (k + 1) ≠ 48) → Q (nI (k + 1)) S) : RdW Q S k 1 := by
  have hbb : ∀ i, i < t → b i < 256 := fun i hi => (h.2.1.2.2 i hi).2
  have hL4 := h.2.2.2.1
  have ht := h.2.1.2.1
  have hkt : k < t := bt_t hc (by decide)
  have hd4 := dgn_le (f := bt t b) 4 (k + 1)
  have go : ∀ n, ((48 ≤ bt t b (k + 1) ∧ bt t b (k + 1) ≤ 57) ∧ bt t b (k + 1) ≠ 48 → wp_X8_reads_9 Q n S (nI (k + 1 + dgn (bt t b) 4 (k + 1))) (nI 2)) → RdW Q S k 1 := fun n hn => by
    refine rd_nb (n := n) h hk (by decide) (Or.inr hkt) (Or.inr (by rw [hc]; unfold bgP dgP ltP; omega)) ⟨fun _ => ⟨fun z => absurd rfl z, fun _ => mr_ch' (c := 47) hbb (by decide) (fun _ => ?_) (fun e => absurd hc e)⟩, fun z => absurd z (by decide)⟩
    rw [nI_1]
    refine mr_byte (rM_tap h) (by omega) (mr_ch' (c := 48) hbb (by decide) (fun e => ⟨fun z => absurd rfl z, fun _ => ?_⟩) (fun e => mr_digits (rM_tap h) (by omega) ?_))
    · rw [nI_1]
      exact h0 (fun z => z.2 e)
    · by_cases q : 48 ≤ bt t b (k + 1) ∧ bt t b (k + 1) ≤ 57
      · have := dgn_pos (f := bt t b) q
        refine ⟨fun _ => ?_, fun z => absurd z (nI_ne (by omega) (by omega))⟩
        rintro _ rfl
        rw [show (1 : Int32) + nI (dgn (bt t b) 4 (k + 1)) = nI (1 + dgn (bt t b) 4 (k + 1)) from nI_add 1 _, nI_add, show k + (1 + dgn (bt t b) 4 (k + 1)) = k + 1 + dgn (bt t b) 4 (k + 1) by omega]
        exact hn ⟨q, e⟩
      · have e0 : dgn (bt t b) 4 (k + 1) = 0 := by
          show (if 48 ≤ bt t b (k + 1) ∧ bt t b (k + 1) ≤ 57 then dgn (bt t b) 3 (k + 1 + 1) + 1 else 0) = 0
          rw [if_neg q]
        rw [e0]
        refine ⟨fun z => absurd rfl z, fun _ => ?_⟩
        rw [nI_1]
        exact h0 (fun z => q z.1)
  by_cases e : (48 ≤ bt t b (k + 1) ∧ bt t b (k + 1) ≤ 57) ∧ bt t b (k + 1) ≠ 48
  · obtain ⟨n, hn⟩ := h1 e
    exact go n (fun _ => hn)
  · exact go 0 (fun z => absurd z e)
/-- the next byte begins nothing and divides nothing -/
def stp2 (L st c : Nat) : Prop := st = 2 ∨ (st = 1 ∧ ¬ bgP L c ∧ c ≠ 47)
theorem rd_289 {n k st : Nat} (h : rM L t b S0 S D m) (hk : k < t) (hs : stp2 L st (bt t b k)) (hq : wp_X8_reads_289 (wp_X8_reads_9 Q n) Q S (nI k) (hvI t b k)) : RdW Q S k st := by
  have hbb : ∀ i, i < t → b i < 256 := fun i hi => (h.2.1.2.2 i hi).2
  cases hs with
  | inl e =>
    subst e
    exact rd_nb (n := n) h (by omega) (by decide) (Or.inr hk) (Or.inl rfl) ⟨fun _ => ⟨fun _ => hq, fun z => absurd z (by decide)⟩, fun z => absurd z (by decide)⟩
  | inr e =>
    obtain ⟨e1, e2, e3⟩ := e
    subst e1
    exact rd_nb (n := n) h (by omega) (by decide) (Or.inr hk) (Or.inr e2) ⟨fun _ => ⟨fun z => absurd rfl z, fun _ => mr_ch' (c := 47) hbb (by decide) (fun z => absurd z e3) (fun _ => hq)⟩, fun z => absurd z (by decide)⟩
theorem rs_sign {k st : Nat} (h : rM L t b S0 S D m) (hs : stp2 L st (bt t b k)) (hc : bt t b k = 43 ∨ bt t b k = 45) (hq : RdW Q S (k + 1) 0) : RdW Q S k st := by
  have hbb : ∀ i, i < t → b i < 256 := fun i hi => (h.2.1.2.2 i hi).2
  obtain ⟨n, hn⟩ := hq
  have f : wp_X8_reads_301 (wp_X8_reads_9 Q n) Q S (nI k) := by
    rintro _ rfl
    rw [nI_1]
    exact hn
  refine rd_289 (n := n) h (bt_t (c := bt t b k) rfl (by omega)) hs (mr_ch (c := 43) hbb (by decide) (fun _ => f) (fun e => mr_ch' (c := 45) hbb (by decide) (fun _ => f) (fun e2 => by omega)))
theorem rs_end {st : Nat} (h : rM L t b S0 S D m) (hs : st = 1 ∨ st = 2) (h0 : D = 0 → Q (-1) S) (h1 : 0 < D → Q (nI t) S) : RdW Q S t st := by
  have ht := h.2.1.2.1
  have h8 := h.2.2.2.2.1
  have hD := h.2.2.2.2.2.1
  refine ⟨1, fun z => absurd z (nI_ne (by omega) (by omega)), fun _ => ⟨fun _ => ?_, fun z => absurd (by rw [(rM_tap h).1]; exact nI_le (a := t) (b := t) (Nat.le_refl _) (by omega)) z⟩⟩
  rw [h8, (rM_tap h).1]
  exact pk_le D 0 (fun q => h0 (by omega)) (fun q => h1 (by omega))
theorem rs_close {k st : Nat} (h : rM L t b S0 S D m) (hk : k < t) (hs : stp2 L st (bt t b k)) (h43 : bt t b k ≠ 43) (h45 : bt t b k ≠ 45) (hm : ∀ i, i < D → m i < 256)
    (hcm : bt t b k = 44 → 0 < D → m (D - 1) = 91 → RdW Q (ms_sI S 12 (D - 1) 93) (k + 1) 0) (hcl : 0 < D → (bt t b k = 41 ∧ m (D - 1) = 40) ∨ (bt t b k = 93 ∧ m (D - 1) = 93) → RdW Q (ms_sF S 8 (nI (D - 1))) (k + 1) 1)
    (hno : ¬ (0 < D ∧ ((bt t b k = 44 ∧ m (D - 1) = 91) ∨ (bt t b k = 41 ∧ m (D - 1) = 40) ∨ (bt t b k = 93 ∧ m (D - 1) = 93))) → Q (nI k) S) : RdW Q S k st := by
  have hbb : ∀ i, i < t → b i < 256 := fun i hi => (h.2.1.2.2 i hi).2
  have h8 := h.2.2.2.2.1
  have hD := h.2.2.2.2.2.1
  have h12 := h.2.2.2.2.2.2
  by_cases eD : D = 0
  · have hle : S.1 8 ≤ 0 := by rw [h8, eD]; decide
    have f : wp_X8_reads_359 (wp_X8_reads_9 Q 0) Q S (nI k) (hvI t b k) := ⟨fun _ => hno (fun z => by omega), fun z => absurd hle z⟩
    exact rd_289 (n := 0) h hk hs (mr_ch (c := 43) hbb (by decide) (fun z => absurd z h43) (fun _ => mr_ch' (c := 45) hbb (by decide) (fun z => absurd z h45) (fun _ => ⟨fun _ => f, fun z => absurd hle z⟩)))
  · have hnl : ¬ S.1 8 ≤ 0 := by
      rw [h8]
      exact nI_ge (a := 0) (b := D) (by omega) (by omega)
    have e81 : S.1 8 - 1 = nI (D - 1) := by rw [h8, show (1 : Int32) = nI 1 from rfl, pk_sub (by omega)]
    have hin : vp_in (S.1 8 - 1) 8 := by rw [e81]; exact vp_in_nI (by omega) (by decide)
    have hmk : S.2.1 12 (S.1 8 - 1).toNatClampNeg = nI (m (D - 1)) := by rw [e81, nI_clamp (by omega)]; exact h12 _ (by omega)
    have hmD := hm (D - 1) (by omega)
    have hmeq : ∀ c : Nat, c < 256 → (nI (m (D - 1)) = nI c ↔ m (D - 1) = c) := fun c hc => nI_eq (by omega) (by omega)
    have go : ∀ n, (bt t b k = 44 → m (D - 1) = 91 → wp_X8_reads_9 Q n (ms_sI S 12 (D - 1) 93) (nI (k + 1)) (nI 0)) → ((bt t b k = 41 ∧ m (D - 1) = 40) ∨ (bt t b k = 93 ∧ m (D - 1) = 93) → wp_X8_reads_9 Q n (ms_sF S 8 (nI (D - 1))) (nI (k + 1)) (nI 1)) → RdW Q S k st := fun n n1 n2 => by
      have f410 : (bt t b k = 41 ∧ m (D - 1) = 40) ∨ (bt t b k = 93 ∧ m (D - 1) = 93) → wp_X8_reads_410 (wp_X8_reads_9 Q n) Q S (nI k) := fun q => by
        rintro _ rfl
        rw [nI_1, e81]
        exact n2 q
      have f388 : ¬ (bt t b k = 44 ∧ m (D - 1) = 91) → ¬ (bt t b k = 41 ∧ m (D - 1) = 40) → wp_X8_reads_388 (wp_X8_reads_9 Q n) Q S (nI k) (hvI t b k) := fun q1 q2 => by
        refine mr_ch' (c := 93) hbb (by decide) (fun e => ⟨hin, ?_⟩) (fun e => hno (fun z => by omega))
        rw [hmk]
        exact ⟨fun z => hno (fun q => z ((hmeq 93 (by decide)).mpr (by omega))), fun z => f410 (Or.inr ⟨e, (hmeq 93 (by decide)).mp z⟩)⟩
      have f359 : ¬ (bt t b k = 44 ∧ m (D - 1) = 91) → wp_X8_reads_359 (wp_X8_reads_9 Q n) Q S (nI k) (hvI t b k) := fun q1 => by
        refine ⟨fun z => absurd z hnl, fun _ => mr_ch' (c := 41) hbb (by decide) (fun e => ⟨hin, ?_⟩) (fun e => f388 q1 (fun z => e z.1))⟩
        rw [hmk]
        exact ⟨fun z => f410 (Or.inl ⟨e, (hmeq 40 (by decide)).mp z⟩), fun z => f388 q1 (fun q => z ((hmeq 40 (by decide)).mpr q.2))⟩
      refine rd_289 (n := n) h hk hs (mr_ch (c := 43) hbb (by decide) (fun z => absurd z h43) (fun _ => mr_ch' (c := 45) hbb (by decide) (fun z => absurd z h45) (fun _ => ⟨fun z => absurd z hnl, fun _ => mr_ch' (c := 44) hbb (by decide) (fun e => ⟨hin, ?_⟩) (fun e => f359 (fun z => e z.1))⟩)))
      rw [hmk]
      refine ⟨fun z => f359 (fun q => z ((hmeq 91 (by decide)).mpr q.2)), fun z => ⟨hin, ?_⟩⟩
      rintro _ rfl
      rw [nI_1, e81, nI_clamp (by omega)]
      exact n1 e ((hmeq 91 (by decide)).mp z)
    by_cases q1 : bt t b k = 44 ∧ m (D - 1) = 91
    · obtain ⟨n, hn⟩ := hcm q1.1 (by omega) q1.2
      exact go n (fun _ _ => hn) (fun z => by omega)
    · by_cases q2 : (bt t b k = 41 ∧ m (D - 1) = 40) ∨ (bt t b k = 93 ∧ m (D - 1) = 93)
      · obtain ⟨n, hn⟩ := hcl (by omega) q2
        exact go n (fun x y => absurd ⟨x, y⟩ q1) (fun _ => hn)
      · exact go 0 (fun x y => absurd ⟨x, y⟩ q1) (fun z => absurd z q2)
end MG
