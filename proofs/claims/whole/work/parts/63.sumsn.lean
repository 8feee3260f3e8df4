/-! the same, told in numbers: what the rows of sums hold is a function of Nat -/
def rsN (x : Nat → Nat) (b n : Nat) (f : Nat → Nat) : Nat → Nat := fun j => if b ≤ j ∧ j < b + n then f (j - b) else x j
/-- only the sums may differ -/
def upS (S S' : ms_T) : Prop := S'.1 = S.1 ∧ S'.2.1 = S.2.1 ∧ ∀ k, k ≠ 0 → S'.2.2 k = S.2.2 k
theorem upS_rf {S : ms_T} : upS S S := ⟨rfl, rfl, fun _ _ => rfl⟩
theorem upS_tr {S S1 S2 : ms_T} (h : upS S S1) (h1 : upS S1 S2) : upS S S2 := ⟨h1.1.trans h.1, h1.2.1.trans h.2.1, fun k hk => (h1.2.2 k hk).trans (h.2.2 k hk)⟩
theorem upS_mJ {S : ms_T} {g : Nat → Int64} : upS S (mJ S 0 g) := ⟨rfl, rfl, fun k hk => va_up_ne _ _ hk⟩
theorem mt_up {L d : Nat} {S S' : ms_T} (h : mt_ok L d S) (hu : upS S S') : mt_ok L d S' := by
  obtain ⟨h1, h2, h3⟩ := hu
  unfold mt_ok at h ⊢
  rw [h1, h2]
  exact h
theorem nums_rs {S : ms_T} {x : Nat → Nat} {b n : Nat} {f : Nat → Nat} {g : Nat → Int64} (hx : nums S x) (hf : ∀ w, w < n → g w = lN (f w) ∧ f w < PR) : nums (mJ S 0 (rs (S.2.2 0) b n g)) (rsN x b n f) := by
  intro j hj
  rw [mJ_g]
  unfold rs rsN
  by_cases h : b ≤ j ∧ j < b + n
  · rw [if_pos h, if_pos h]; exact hf _ (by omega)
  · rw [if_neg h, if_neg h]; exact hx j hj
theorem rsN_out {x f : Nat → Nat} {b n j : Nat} (h : j < b ∨ b + n ≤ j) : rsN x b n f j = x j := by
  unfold rsN; rw [if_neg (by omega)]
theorem rsN_in {x f : Nat → Nat} {b n i : Nat} (h : i < n) : rsN x b n f (b + i) = f i := by
  unfold rsN; rw [if_pos (by omega), Nat.add_sub_cancel_left]
theorem mt_W {L d : Nat} {S : ms_T} (h : mt_ok L d S) : S.1 2 = nI (ofs L (d + 1)) ∧ ofs L (d + 1) ≤ 364 := ⟨h.2.2.2.1, cf_all h.1⟩
theorem sn_clears {L d s : Nat} {S : ms_T} {x : Nat → Nat} {Q : ms_T → Prop} (h : mt_ok L d S) (hx : nums S x) (hs : s < 36) (hq : ∀ S', upS S S' → nums S' (rsN x (364 * s) (ofs L (d + 1)) (fun _ => 0)) → Q S') : wp_X8_clears S (nI s) Q := by
  refine sp_clears (mt_W h).1 (mt_W h).2 hs (hq _ upS_mJ (nums_rs hx (fun w hw => ⟨rfl, by decide⟩)))
theorem sn_copies {L d s a : Nat} {S : ms_T} {x : Nat → Nat} {Q : ms_T → Prop} (h : mt_ok L d S) (hx : nums S x) (hs : s < 36) (ha : a < 36) (hq : ∀ S', upS S S' → nums S' (rsN x (364 * s) (ofs L (d + 1)) (fun w => x (364 * a + w))) → Q S') : wp_X8_copies S (nI s) (nI a) Q := by
  have hW := (mt_W h).2
  refine sp_copies (mt_W h).1 hW hs ha (hq _ upS_mJ (nums_rs hx (fun w hw => hx _ (by omega))))
theorem sn_adds {L d s a t : Nat} {S : ms_T} {x : Nat → Nat} {Q : ms_T → Prop} (h : mt_ok L d S) (hx : nums S x) (hs : s < 36) (ha : a < 36) (ht : t < PR) (hq : ∀ S', upS S S' → nums S' (rsN x (364 * s) (ofs L (d + 1)) (fun w => (x (364 * s + w) + x (364 * a + w) * t) % PR)) → Q S') : wp_X8_adds S (nI s) (nI a) (lN t) Q := by
  have hW := (mt_W h).2
  refine sp_adds (mt_W h).1 hW hs ha (hq _ upS_mJ (nums_rs hx (fun w hw => ⟨?_, Nat.mod_lt _ (by decide)⟩)))
  rw [(hx (364 * s + w) (by omega)).1, (hx (364 * a + w) (by omega)).1]
  exact rl_add (hx _ (by omega)).2 (hx _ (by omega)).2 ht
theorem nums_one {S : ms_T} {x : Nat → Nat} {i v : Nat} (hx : nums S x) (hv : v < PR) : nums (ms_sJ S 0 i (lN v)) (rsN x i 1 (fun _ => v)) := by
  intro j hj
  show va_up S.2.2 0 (vp_updL (S.2.2 0) i (lN v)) 0 j = _ ∧ _
  rw [va_up_self]
  unfold vp_updL rsN
  by_cases h : j = i
  · rw [if_pos h, if_pos (by omega)]; exact ⟨rfl, hv⟩
  · rw [if_neg h, if_neg (by omega)]; exact hx j hj
theorem upS_sJ {S : ms_T} {i : Nat} {v : Int64} : upS S (ms_sJ S 0 i v) := ⟨rfl, rfl, fun k hk => va_up_ne _ _ hk⟩
theorem sn_ones {L d s : Nat} {S : ms_T} {x : Nat → Nat} {Q : ms_T → Prop} (h : mt_ok L d S) (hx : nums S x) (hs : s < 36) (hq : ∀ S', upS S S' → nums S' (rsN (rsN x (364 * s) (ofs L (d + 1)) (fun _ => 0)) (364 * s) 1 (fun _ => 1)) → Q S') : wp_X8_ones S (nI s) Q := by
  refine sn_clears h hx hs (fun S' hu hx' => ⟨?_, ?_⟩)
  · rw [ix0]; exact vp_in_nI (by omega) (by omega)
  · rw [ix0, nI_clamp (by omega)]
    exact hq _ (upS_tr hu upS_sJ) (nums_one (v := 1) hx' (by decide))
theorem sn_multiplies {L d s a b : Nat} {S : ms_T} {x : Nat → Nat} {Q : ms_T → Prop} (h : mt_ok L d S) (hx : nums S x) (hs : s < 36) (ha : a < 36) (hb : b < 36) (has : a ≠ s) (hbs : b ≠ s) (hq : ∀ S', upS S S' → nums S' (rsN x (364 * s) (ofs L (d + 1)) (fun w => mulW L d x a b w)) → Q S') : wp_X8_multiplies S (nI s) (nI a) (nI b) Q :=
  sp_multiplies h hx hs ha hb has hbs (hq _ upS_mJ (nums_rs hx (fun w hw => ⟨rfl, mulT_lt⟩)))
/-- to is what times answers -/
theorem sp_isSum {r : Int32} {Q : Int32 → Prop} (hq : Q (if 0 ≤ r.toInt ∧ r.toInt ≤ 7 then 1 else 0)) : wp_X8_isSum r Q := by
  unfold wp_X8_isSum
  refine sp_in ⟨?_, ?_⟩
  · by_cases h : (0 : Int64) ≤ r.toInt64 ∧ r.toInt64 ≤ 7
    · rw [if_pos h]; exact Or.inr rfl
    · rw [if_neg h]; exact Or.inl rfl
  · have e : ((0 : Int64) ≤ r.toInt64 ∧ r.toInt64 ≤ 7) ↔ (0 ≤ r.toInt ∧ r.toInt ≤ 7) := by
      rw [i64_le, i64_le, Int32.toInt_toInt64]
      rw [show (0 : Int64).toInt = 0 from by decide, show (7 : Int64).toInt = 7 from by decide]
    by_cases h : 0 ≤ r.toInt ∧ r.toInt ≤ 7
    · rw [if_pos (e.mpr h)]; rwa [if_pos h] at hq
    · rw [if_neg (fun z => h (e.mp z))]; rwa [if_neg h] at hq
