/-! the reference's reading: opening, signs, closing -/
section MF
variable {L t : Nat} {b : Nat → Nat} {S0 S : ms_T} {D : Nat} {m : Nat → Nat} {Q : Int32 → ms_T → Prop}
def puM (S : ms_T) (D : Nat) (c : Int32) : ms_T := ms_sF (ms_sI S 12 D c) 8 (nI (D + 1))
theorem rM_push {c : Nat} (h : rM L t b S0 S D m) (hD : D < 5) : rM L t b S0 (puM S D (nI c)) (D + 1) (fun i => if i = D then c else m i) := by
  obtain ⟨⟨u1, u2, u3⟩, h2, h3, h4, h5, h6, h7⟩ := h
  unfold puM
  refine ⟨⟨fun j hj => ?_, fun k hk => ?_, ?_⟩, h2, h3, h4, ?_, by omega, fun i hi => ?_⟩
  · rw [sF_F, if_neg hj, sI_F]; exact u1 j hj
  · rw [sF_I, sI_r hk]; exact u2 k hk
  · rw [sF_J, sI_J]; exact u3
  · rw [sF_F, if_pos rfl]
  · rw [sF_I, sI_g, if_pos rfl]
    dsimp only
    by_cases e : i = D
    · rw [if_pos e, if_pos e]
    · rw [if_neg e, if_neg e]; exact h7 i (by omega)
theorem rM_mark {c : Nat} (h : rM L t b S0 S D m) (hD : 0 < D) : rM L t b S0 (ms_sI S 12 (D - 1) (nI c)) D (fun i => if i = D - 1 then c else m i) := by
  obtain ⟨⟨u1, u2, u3⟩, h2, h3, h4, h5, h6, h7⟩ := h
  refine ⟨⟨fun j hj => ?_, fun k hk => ?_, ?_⟩, h2, h3, h4, ?_, h6, fun i hi => ?_⟩
  · rw [sI_F]; exact u1 j hj
  · rw [sI_r hk]; exact u2 k hk
  · rw [sI_J]; exact u3
  · rw [sI_F]; exact h5
  · rw [sI_g, if_pos rfl]
    dsimp only
    by_cases e : i = D - 1
    · rw [if_pos e, if_pos e]
    · rw [if_neg e, if_neg e]; exact h7 i hi
theorem rM_pop (h : rM L t b S0 S D m) (hD : 0 < D) : rM L t b S0 (ms_sF S 8 (nI (D - 1))) (D - 1) m := by
  obtain ⟨⟨u1, u2, u3⟩, h2, h3, h4, h5, h6, h7⟩ := h
  refine ⟨⟨fun j hj => ?_, fun k hk => ?_, ?_⟩, h2, h3, h4, ?_, by omega, fun i hi => ?_⟩
  · rw [sF_F, if_neg hj]; exact u1 j hj
  · rw [sF_I]; exact u2 k hk
  · rw [sF_J]; exact u3
  · rw [sF_F, if_pos rfl]
  · rw [sF_I]; exact h7 i (by omega)
theorem rd_139 {n k k1 : Nat} (h : rM L t b S0 S D m) (h5 : D = 5 → Q (nI k1) S) (hq : D < 5 → wp_X8_reads_9 Q n (puM S D (nI (if bt t b k = 91 then 91 else 40))) (nI (k1 + 1)) (nI 0)) : wp_X8_reads_139 (wp_X8_reads_9 Q n) Q S (hvI t b k) (nI k1) := by
  have hbb : ∀ i, i < t → b i < 256 := fun i hi => (h.2.1.2.2 i hi).2
  have h8 := h.2.2.2.2.1
  have hD := h.2.2.2.2.2.1
  have key : ∀ c : Nat, D < 5 → wp_X8_reads_9 Q n (puM S D (nI c)) (nI (k1 + 1)) (nI 0) → wp_X8_reads_171 (wp_X8_reads_9 Q n) Q S (nI k1) (S.1 8) (nI c) := fun c hlt hw => by
    unfold wp_X8_reads_171
    rw [h8]
    refine ⟨vp_in_nI (by omega) (by decide), ?_⟩
    rintro _ rfl
    rw [nI_clamp (by omega), sI_F, h8, nI_1, nI_1]
    exact hw
  unfold wp_X8_reads_139
  refine ⟨fun z => ?_, fun z => h5 ?_⟩
  · have hlt : D < 5 := by
      have : D ≠ 5 := fun e => z (by rw [h8, e]; rfl)
      omega
    refine mr_ch' (c := 91) hbb (by decide) (fun e => ?_) (fun e => ?_)
    · have := hq hlt
      rw [if_pos e] at this
      exact key 91 hlt this
    · have := hq hlt
      rw [if_neg e] at this
      exact key 40 hlt this
  · rw [h8] at z
    exact (nI_eq (a := D) (b := 5) (by omega) (by omega)).mp z
theorem rs_flat {k st c : Nat} (h : rM L t b S0 S D m) (hk : k ≤ t) (hs : st ≤ 1) (hc : bt t b k = c) (hd : dgP c ∨ ltP L c) (hq : RdW Q S (k + if dgP c then dgn (bt t b) 4 k else 1) 1) : RdW Q S k st := by
  obtain ⟨n, hn⟩ := hq
  have hbb : ∀ i, i < t → b i < 256 := fun i hi => (h.2.1.2.2 i hi).2
  have hL4 := h.2.2.2.1
  have h114 : c ≠ 114 := by unfold dgP ltP at hd; omega
  have hkt : k < t := bt_t hc (by unfold dgP ltP at hd; omega)
  have ho := rd_flat (Q := Q) (n := n) hbb h.2.1.2.1 (rM_tap h) hkt hc (by unfold ltP at hd; omega) (by rw [if_neg h114]; exact hn)
  exact rd_beg (n := n) h hk hs (by rw [hc]; unfold bgP; omega) (fun e => absurd (hc.symm.trans e) h114) (fun e => absurd (hc.symm.trans e) h114) (fun _ => ho)
theorem rs_sum {k st : Nat} (h : rM L t b S0 S D m) (hk : k ≤ t) (hs : st ≤ 1) (hc : bt t b k = 114) (h1 : 48 ≤ bt t b (k + 1) ∧ bt t b (k + 1) ≤ 55 → RdW Q S (k + 2) 1) (h0 : ¬ (48 ≤ bt t b (k + 1) ∧ bt t b (k + 1) ≤ 55) → Q (nI (k + 1)) S) : RdW Q S k st := by
  have hbb : ∀ i, i < t → b i < 256 := fun i hi => (h.2.1.2.2 i hi).2
  have hkt : k < t := bt_t hc (by decide)
  by_cases e : 48 ≤ bt t b (k + 1) ∧ bt t b (k + 1) ≤ 55
  · obtain ⟨n, hn⟩ := h1 e
    have ho := rd_flat (Q := Q) (n := n) hbb h.2.1.2.1 (rM_tap h) hkt hc (Or.inr (Or.inr rfl)) (by rw [if_pos rfl]; exact hn)
    exact rd_beg (n := n) h hk hs (by rw [hc]; unfold bgP; omega) (fun _ _ => ho) (fun _ z => absurd e z) (fun z => absurd hc z)
  · exact rd_beg (n := 0) h hk hs (by rw [hc]; unfold bgP; omega) (fun _ z => absurd z e) (fun _ _ => h0 e) (fun z => absurd hc z)
theorem rs_br {k st : Nat} (h : rM L t b S0 S D m) (hk : k ≤ t) (hs : st ≤ 1) (hc : bt t b k = 91) (h0 : D = 5 → Q (nI k) S) (h1 : D < 5 → RdW Q (puM S D 91) (k + 1) 0) : RdW Q S k st := by
  have hbb : ∀ i, i < t → b i < 256 := fun i hi => (h.2.1.2.2 i hi).2
  have go : ∀ n, (D < 5 → wp_X8_reads_9 Q n (puM S D 91) (nI (k + 1)) (nI 0)) → RdW Q S k st := fun n hn => by
    refine rd_beg (n := n) h hk hs (by rw [hc]; unfold bgP; omega) (fun e => absurd (hc.symm.trans e) (by decide)) (fun e => absurd (hc.symm.trans e) (by decide)) (fun _ => ?_)
    refine mr_ch (c := 69) hbb (by decide) (fun e => absurd (hc.symm.trans e) (by decide)) (fun _ => mr_ch' (c := 76) hbb (by decide) (fun e => absurd (hc.symm.trans e) (by decide)) (fun _ => ?_))
    refine mr_ch (c := 69) hbb (by decide) (fun e => absurd (hc.symm.trans e) (by decide)) (fun _ => mr_ch' (c := 76) hbb (by decide) (fun e => absurd (hc.symm.trans e) (by decide)) (fun _ => ?_))
    refine mr_ch (c := 91) hbb (by decide) (fun _ => ?_) (fun e => absurd hc e)
    exact rd_139 (k1 := k) h h0 (fun q => by rw [if_pos hc]; exact hn q)
  by_cases e : D < 5
  · obtain ⟨n, hn⟩ := h1 e
    exact go n (fun _ => hn)
  · exact go 0 (fun z => absurd z e)
theorem rs_rd {k st : Nat} (h : rM L t b S0 S D m) (hk : k ≤ t) (hs : st ≤ 1) (hc : bt t b k = 40 ∨ bt t b k = 69 ∨ bt t b k = 76) (h0 : bt t b (if bt t b k = 40 then k else k + 1) ≠ 40 ∨ D = 5 → Q (nI (if bt t b k = 40 then k else k + 1)) S) (h1 : bt t b (if bt t b k = 40 then k else k + 1) = 40 → D < 5 → RdW Q (puM S D 40) ((if bt t b k = 40 then k else k + 1) + 1) 0) : RdW Q S k st := by
  have hbb : ∀ i, i < t → b i < 256 := fun i hi => (h.2.1.2.2 i hi).2
  have ht := h.2.1.2.1
  have h91 : bt t b k ≠ 91 := by omega
  have hD := h.2.2.2.2.2.1
  have go : ∀ n, (bt t b (if bt t b k = 40 then k else k + 1) = 40 → D < 5 → wp_X8_reads_9 Q n (puM S D 40) (nI ((if bt t b k = 40 then k else k + 1) + 1)) (nI 0)) → RdW Q S k st := fun n hn => by
    refine rd_beg (n := n) h hk hs (by unfold bgP; omega) (fun e => by omega) (fun e => by omega) (fun _ => ?_)
    by_cases e40 : bt t b k = 40
    · rw [if_pos e40] at hn h0
      refine mr_ch (c := 69) hbb (by decide) (fun e => absurd (e40.symm.trans e) (by decide)) (fun _ => mr_ch' (c := 76) hbb (by decide) (fun e => absurd (e40.symm.trans e) (by decide)) (fun _ => ?_))
      refine mr_ch (c := 69) hbb (by decide) (fun e => absurd (e40.symm.trans e) (by decide)) (fun _ => mr_ch' (c := 76) hbb (by decide) (fun e => absurd (e40.symm.trans e) (by decide)) (fun _ => ?_))
      refine mr_ch (c := 91) hbb (by decide) (fun e => absurd e h91) (fun _ => mr_ch (c := 40) hbb (by decide) (fun _ => ?_) (fun e => absurd e40 e))
      exact rd_139 (k1 := k) h (fun q => h0 (Or.inr q)) (fun q => by rw [if_neg h91]; exact hn e40 q)
    · rw [if_neg e40] at hn h0
      have f139 : bt t b (k + 1) = 40 → wp_X8_reads_139 (wp_X8_reads_9 Q n) Q S (hvI t b k) (nI (k + 1)) := fun q1 => rd_139 (k1 := k + 1) h (fun q => h0 (Or.inr q)) (fun q => by rw [if_neg h91]; exact hn q1 q)
      have f113 : bt t b (k + 1) = 40 → wp_X8_reads_113 (wp_X8_reads_9 Q n) Q S (nI k) (hvI t b k) (nI (k + 1)) := fun q1 => by
        refine mr_ch (c := 91) hbb (by decide) (fun e => absurd e h91) (fun _ => mr_ch (c := 40) hbb (by decide) (fun e => absurd e e40) (fun _ => mr_ch (c := 69) hbb (by decide) (fun _ => f139 q1) (fun e69 => mr_ch' (c := 76) hbb (by decide) (fun _ => f139 q1) (fun e76 => by omega))))
      have f94 : bt t b (k + 1) = 40 → wp_X8_reads_94 (wp_X8_reads_9 Q n) Q S (nI k) (hvI t b k) := fun q1 => by
        have f := f113 q1
        rw [← nI_1] at f
        exact mr_ch (c := 69) hbb (by decide) (fun _ => f) (fun e69 => mr_ch' (c := 76) hbb (by decide) (fun _ => f) (fun e76 => by omega))
      have f78 : wp_X8_reads_78 (wp_X8_reads_9 Q n) Q S (nI k) (hvI t b k) := by
        unfold wp_X8_reads_78
        rw [nI_1]
        exact mr_byte (rM_tap h) (by omega) (mr_ch (c := 40) hbb (by decide) f94 (fun e => h0 (Or.inl e)))
      exact mr_ch (c := 69) hbb (by decide) (fun _ => f78) (fun e69 => mr_ch' (c := 76) hbb (by decide) (fun _ => f78) (fun e76 => by omega))
  by_cases e : bt t b (if bt t b k = 40 then k else k + 1) = 40 ∧ D < 5
  · obtain ⟨n, hn⟩ := h1 e.1 e.2
    exact go n (fun _ _ => hn)
  · exact go 0 (fun x y => absurd ⟨x, y⟩ e)
end MF
