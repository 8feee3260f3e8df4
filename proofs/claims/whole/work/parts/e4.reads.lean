/-! the reference's reading: terms, texts -/
section MI
variable {L d t : Nat} {b : Nat → Nat} {X : Nat → Nat → Kf} {S0 : ms_T} {Q : Int32 → ms_T → Prop}
theorem rs_trE {S : ms_T} {D k : Nat} {m : Nat → Nat} {acc : Option (Nat → Kf)} (h : rM L t b S0 S D m) (hk : k ≤ t) (hb : ¬ bgP L (bt t b k))
    (h1 : (trE L d (bt t b) k acc).1 = true → ∀ S' st, rM L t b S0 S' D m → stp2 L st (bt t b (trE L d (bt t b) k acc).2.1) → RdW Q S' (trE L d (bt t b) k acc).2.1 st) (h0 : (trE L d (bt t b) k acc).1 = false → ∀ S', upM S0 S' → Q (nI (trE L d (bt t b) k acc).2.1) S') : RdW Q S k 1 := by
  unfold trE at h1 h0
  by_cases e : bt t b k = 47
  · rw [if_pos e] at h1 h0
    refine rs_div h hk e (fun q => ?_) (fun q => ?_)
    · rw [if_pos q] at h1
      exact h1 rfl S 2 h (Or.inl rfl)
    · rw [if_neg q] at h0
      exact h0 rfl S h.1
  · rw [if_neg e] at h1
    exact h1 rfl S 1 h (Or.inr ⟨rfl, hb, e⟩)
theorem rs_trL {T : Nat → RS} {ok : Bool} {D : Nat} {m : Nat → Nat} (hL4 : L ≤ 4) (hm : ∀ i, i < D → m i < 256) (hok : ok = decide (D < 5)) (hT : okT t T) (hTx : D < 5 → TxM L t b S0 Q (D + 1) T) :
    ∀ n S k st acc, rM L t b S0 S D m → k ≤ t → st ≤ 1 → (st = 0 → bgP L (bt t b k)) → t ≤ n + k → ((trL L d (bt t b) X ok T n k acc).1 = true → ∀ S' st', rM L t b S0 S' D m → stp2 L st' (bt t b (trL L d (bt t b) X ok T n k acc).2.1) → RdW Q S' (trL L d (bt t b) X ok T n k acc).2.1 st') → ((trL L d (bt t b) X ok T n k acc).1 = false → ∀ S', upM S0 S' → Q (nI (trL L d (bt t b) X ok T n k acc).2.1) S') → RdW Q S k st
  | 0, S, k, st, acc, h, hk, hs, hs0, hn, h1, h0 => by
    have h256 : bt t b k = 256 := if_neg (by omega)
    have hnb : ¬ bgP L (bt t b k) := by rw [h256]; unfold bgP dgP ltP; omega
    have e1 : st = 1 := by
      by_cases e : st = 0
      · exact absurd (hs0 e) hnb
      · omega
    subst e1
    exact rs_trE h hk hnb h1 h0
  | n + 1, S, k, st, acc, h, hk, hs, hs0, hn, h1, h0 => by
    unfold trL at h1 h0
    by_cases q : bgP L (bt t b k)
    · rw [if_pos (show dgP (bt t b k) ∨ ltP L (bt t b k) ∨ bt t b k = 114 ∨ bt t b k = 91 ∨ bt t b k = 40 ∨ bt t b k = 69 ∨ bt t b k = 76 from q)] at h1 h0
      have hfl := fac_pl (L := L) (d := d) (X := X) (ok := ok) hT hk q hL4
      refine rs_factor (d := d) (X := X) h hm hk hs hok hT hTx q (fun e S' hr => ?_) (fun e S' hu => ?_)
      · rw [if_neg (by rw [e]; decide)] at h1 h0
        have := hfl.2 e
        exact rs_trL hL4 hm hok hT hTx n S' _ 1 _ hr hfl.1 (Nat.le_refl _) (fun z => absurd z (by decide)) (by omega) h1 h0
      · rw [if_pos e] at h0
        exact h0 rfl S' hu
    · rw [if_neg (show ¬ (dgP (bt t b k) ∨ ltP L (bt t b k) ∨ bt t b k = 114 ∨ bt t b k = 91 ∨ bt t b k = 40 ∨ bt t b k = 69 ∨ bt t b k = 76) from q)] at h1 h0
      have e1 : st = 1 := by
        by_cases e : st = 0
        · exact absurd (hs0 e) q
        · omega
      subst e1
      exact rs_trE h hk q h1 h0
theorem rs_txL {T : Nat → RS} {ok : Bool} {D : Nat} {m : Nat → Nat} (hL4 : L ≤ 4) (ht : t ≤ 100) (hm : ∀ i, i < D → m i < 256) (hok : ok = decide (D < 5)) (hT : okT t T) (hTx : D < 5 → TxM L t b S0 Q (D + 1) T) :
    ∀ n S k s acc, rM L t b S0 S D m → k ≤ t → 1 ≤ n → t ≤ n + k → ((txL L d (bt t b) X ok T n k s acc).1 = true → ∀ S' st', rM L t b S0 S' D m → stp2 L st' (bt t b (txL L d (bt t b) X ok T n k s acc).2.1) → bt t b (txL L d (bt t b) X ok T n k s acc).2.1 ≠ 43 → bt t b (txL L d (bt t b) X ok T n k s acc).2.1 ≠ 45 → RdW Q S' (txL L d (bt t b) X ok T n k s acc).2.1 st') → ((txL L d (bt t b) X ok T n k s acc).1 = false → ∀ S', upM S0 S' → Q (nI (txL L d (bt t b) X ok T n k s acc).2.1) S') → RdW Q S k 0
  | 0, S, k, s, acc, h, hk, hn1, hn, h1, h0 => absurd hn1 (by omega)
  | n + 1, S, k, s, acc, h, hk, hn1, hn, h1, h0 => by
    have htl := trR_pl (L := L) (d := d) (b := b) (X := X) (ok := ok) hT hL4 hk
    unfold txL at h1 h0
    by_cases q : bgP L (bt t b k)
    · have etr : trR L d (bt t b) X ok T k = trL L d (bt t b) X ok T 100 k (some (unitK 1)) := by
        unfold trR
        rw [if_pos q]
      refine rs_trL (d := d) (X := X) hL4 hm hok hT hTx 100 S k 0 (some (unitK 1)) h hk (by decide) (fun _ => q) (by omega) (fun e S' st' hr hs' => ?_) (fun e S' hu => ?_)
      · rw [← etr] at e hs' ⊢
        rw [if_neg (by rw [e]; decide)] at h1 h0
        have hlt := htl.2 e
        by_cases g : bt t b (trR L d (bt t b) X ok T k).2.1 = 43 ∨ bt t b (trR L d (bt t b) X ok T k).2.1 = 45
        · rw [if_pos g] at h1 h0
          have hkt := bt_t (t := t) (b := b) rfl (show bt t b (trR L d (bt t b) X ok T k).2.1 < 256 by omega)
          exact rs_sign hr hs' g (rs_txL hL4 ht hm hok hT hTx n S' _ _ _ hr hkt (by omega) (by omega) h1 h0)
        · rw [if_neg g] at h1
          exact h1 rfl S' st' hr hs' (fun z => g (Or.inl z)) (fun z => g (Or.inr z))
      · rw [← etr] at e ⊢
        rw [if_pos e] at h0
        exact h0 rfl S' hu
    · have etr : trR L d (bt t b) X ok T k = (false, k, none) := by
        unfold trR
        rw [if_neg q]
      rw [etr, if_pos rfl] at h0
      exact rs_none h hk q (h0 rfl S h.1)
theorem rs_TX (hL4 : L ≤ 4) (ht : t ≤ 100) : ∀ e, e ≤ 5 → TxM L t b S0 Q (5 - e) (TX L d (bt t b) X (e + 1))
  | e, he => fun S m k h hm hk h1 h0 => by
    refine rs_txL (d := d) (X := X) (T := TX L d (bt t b) X e) (ok := decide (1 ≤ e)) (D := 5 - e) hL4 ht hm (decide_eq_decide.mpr (by omega)) (TX_pl hL4 e) (fun h5 => ?_) 100 S k 1 (some (fun _ => 0)) h hk (by decide) (by omega) h1 h0
    match e, he, h5 with
    | 0, _, h5 => exact absurd h5 (by omega)
    | e' + 1, he, h5 =>
      have i := rs_TX hL4 ht e' (by omega)
      rw [show 5 - e' = 5 - (e' + 1) + 1 by omega] at i
      exact i
theorem sm_reads {S : ms_T} (hL4 : L ≤ 4) (hL : S.1 0 = nI L) (htp : tap S t b) (hF : (TX L d (bt t b) X 6 0).1 = false ∨ (TX L d (bt t b) X 6 0).2.1 < t → ∀ S', upM S S' → Q (nI (TX L d (bt t b) X 6 0).2.1) S') (h1 : (TX L d (bt t b) X 6 0).1 = true → (TX L d (bt t b) X 6 0).2.1 = t → ∀ S', upM S S' → Q (-1) S') : wp_X8_reads S Q := by
  have ht := htp.2.1
  have hpl := TX_pl (L := L) (d := d) (t := t) (b := b) (X := X) hL4 6 0 (Nat.zero_le _)
  have hr : rM L t b S (ms_sF S 8 0) 0 (fun _ => 0) := ⟨⟨fun j hj => by rw [sF_F, if_neg hj], fun k _ => by rw [sF_I], sF_J⟩, htp, hL, hL4, by rw [sF_F, if_pos rfl]; rfl, by decide, fun i hi => absurd hi (Nat.not_lt_zero i)⟩
  refine rs_TX (d := d) (X := X) hL4 ht 5 (Nat.le_refl _) _ _ 0 hr (fun i hi => absurd hi (Nat.not_lt_zero i)) (Nat.zero_le _) (fun e S' st hr2 hs2 a43 a45 => ?_) (fun e S' hu => hF (Or.inl e) S' hu)
  by_cases q : (TX L d (bt t b) X 6 0).2.1 < t
  · exact rs_close hr2 q hs2 a43 a45 (fun i hi => absurd hi (Nat.not_lt_zero i)) (fun _ z => absurd z (by decide)) (fun z => absurd z (by decide)) (fun _ => hF (Or.inr q) S' hr2.1)
  · have et : (TX L d (bt t b) X 6 0).2.1 = t := by omega
    have i := rs_end (Q := Q) (st := st) hr2 (by unfold stp2 at hs2; omega) (fun _ => h1 e et S' hr2.1) (fun z => absurd z (by decide))
    rw [← et] at i
    exact i
end MI
