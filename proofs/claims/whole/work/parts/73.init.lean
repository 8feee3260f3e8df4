/-! the reference's constructor: what its tables hold -/
theorem mJ_I {S : ms_T} {k : Nat} {g : Nat → Int64} : (mJ S k g).2.1 = S.2.1 := rfl
theorem mJ_F {S : ms_T} {k : Nat} {g : Nat → Int64} : (mJ S k g).1 = S.1 := rfl
theorem mJ_J {S : ms_T} {k k' : Nat} {g : Nat → Int64} : (mJ S k g).2.2 k' = if k' = k then g else S.2.2 k' := rfl
theorem sF_I {S : ms_T} {k : Nat} {v : Int32} : (ms_sF S k v).2.1 = S.2.1 := rfl
theorem sF_J {S : ms_T} {k : Nat} {v : Int32} : (ms_sF S k v).2.2 = S.2.2 := rfl
theorem sF_F {S : ms_T} {k k' : Nat} {v : Int32} : (ms_sF S k v).1 k' = if k' = k then v else S.1 k' := rfl
theorem sI_F {S : ms_T} {k i : Nat} {v : Int32} : (ms_sI S k i v).1 = S.1 := rfl
theorem sI_J {S : ms_T} {k i : Nat} {v : Int32} : (ms_sI S k i v).2.2 = S.2.2 := rfl
theorem sI_r {S : ms_T} {k i k' : Nat} {v : Int32} (h : k' ≠ k) : (ms_sI S k i v).2.1 k' = S.2.1 k' := va_up_ne _ _ h
theorem bas_lt {L : Nat} : ∀ f n v u, bas L f n v u < PR
  | 0, _, _, _ => (by decide : 0 < PR)
  | f + 1, n, v, u => by
    unfold bas
    by_cases e : n ≤ 1
    · rw [if_pos e]
      by_cases e2 : u = v
      · rw [if_pos e2]; decide
      · rw [if_neg e2]; decide
    · rw [if_neg e]; exact Nat.mod_lt _ (by decide)
def stdB (L n : Nat) : Bool := (List.range (L ^ n)).all (fun v => !chf L n v || chf L (sd L n v) (v / L ^ (n - sd L n v)))
theorem std_of {L n : Nat} (h : stdB L n = true) {v : Nat} (hv : v < L ^ n) (hc : chf L n v = true) : chf L (sd L n v) (v / L ^ (n - sd L n v)) = true := by
  have := List.all_eq_true.mp h v (List.mem_range.mpr hv)
  rw [hc] at this
  simpa using this
/-- both sides of a chief are chiefs -/
theorem std_ok {L d n v : Nat} (h : cf_ok L d) (h2 : 2 ≤ n) (hn : n ≤ d) (hv : v < L ^ n) (hc : chf L n v = true) : chf L (sd L n v) (v / L ^ (n - sd L n v)) = true := by
  refine std_of ?_ hv hc
  rcases h with ⟨rfl, h1, h2⟩ | ⟨rfl, h1, h2⟩ | ⟨rfl, h1, h2⟩
  · rcases (show n = 2 ∨ n = 3 ∨ n = 4 ∨ n = 5 ∨ n = 6 by omega) with rfl | rfl | rfl | rfl | rfl <;> decide +kernel
  · rcases (show n = 2 ∨ n = 3 ∨ n = 4 ∨ n = 5 by omega) with rfl | rfl | rfl | rfl <;> decide +kernel
  · rcases (show n = 2 ∨ n = 3 ∨ n = 4 by omega) with rfl | rfl | rfl <;> decide +kernel
/-- the places of both sides -/
def lfP (L n v : Nat) : Nat := ofs L (sd L n v) + v / L ^ (n - sd L n v)
def rgP (L n v : Nat) : Nat := ofs L (n - sd L n v) + v % L ^ (n - sd L n v)
def rowOK (L d n v : Nat) (S : ms_T) : Prop := S.2.1 7 (ofs L n + v) = nI (cnt L d (ofs L n + v)) ∧ S.2.1 3 (cnt L d (ofs L n + v)) = nI (ofs L n + v) ∧ S.2.1 6 (cnt L d (ofs L n + v)) = nI (4 * n - 3) ∧ (n = 1 → S.2.1 4 (cnt L d (ofs L n + v)) = -1 ∧ S.2.1 5 (cnt L d (ofs L n + v)) = -1) ∧ (2 ≤ n → S.2.1 4 (cnt L d (ofs L n + v)) = nI (cnt L d (lfP L n v)) ∧ S.2.1 5 (cnt L d (ofs L n + v)) = nI (cnt L d (rgP L n v))) ∧ ∀ u, u < L ^ n → S.2.2 1 (256 * cnt L d (ofs L n + v) + u) = lN (bas L n n v u)
def ci (L d w : Nat) (S : ms_T) : Prop := mt_ok L d S ∧ S.1 3 = nI (cnt L d w) ∧ (∀ n v, 1 ≤ n → n ≤ d → v < L ^ n → ofs L n + v < w → (chf L n v = true → rowOK L d n v S) ∧ (chf L n v = false → S.2.1 7 (ofs L n + v) = -1)) ∧ (∀ j, 256 * cnt L d w ≤ j → S.2.2 1 j = 0) ∧ (∀ k, 4 ≤ k → S.1 k = 0) ∧ (∀ k, 8 ≤ k → S.2.1 k = fun _ => 0) ∧ (∀ k, k ≠ 1 → S.2.2 k = fun _ => 0)
theorem place_inj {L n v m u : Nat} (hv : v < L ^ n) (hu : u < L ^ m) (h : ofs L n + v = ofs L m + u) : n = m ∧ v = u := by
  have h1 : ofs L (n + 1) = ofs L n + L ^ n := rfl
  have h2 : ofs L (m + 1) = ofs L m + L ^ m := rfl
  rcases Nat.lt_trichotomy n m with q | q | q
  · have : ofs L (n + 1) ≤ ofs L m := ofs_mono q
    omega
  · subst q; exact ⟨rfl, by omega⟩
  · have : ofs L (m + 1) ≤ ofs L n := ofs_mono q
    omega
theorem ci_no {L d w : Nat} {S : ms_T} (h : ci L d w S) : ci L d w (ms_sI S 7 w (-1)) := by
  obtain ⟨h1, h2, h3, h4, h5, h6, h7⟩ := h
  refine ⟨mt_sI (by omega) h1, h2, fun n v a b c e => ?_, h4, h5, fun k hk => ?_, h7⟩
  · obtain ⟨q1, q2⟩ := h3 n v a b c e
    refine ⟨fun hc => ?_, fun hc => ?_⟩
    · obtain ⟨r1, r2, r3, r4, r5, r6⟩ := q1 hc
      refine ⟨?_, ?_, ?_, ?_, ?_, r6⟩
      · rw [sI_g, if_pos rfl, if_neg (by omega)]; exact r1
      · rw [sI_g, if_neg (by omega)]; exact r2
      · rw [sI_g, if_neg (by omega)]; exact r3
      · intro z; rw [sI_g, if_neg (by omega), sI_g, if_neg (by omega)]; exact r4 z
      · intro z; rw [sI_g, if_neg (by omega), sI_g, if_neg (by omega)]; exact r5 z
    · rw [sI_g, if_pos rfl, if_neg (by omega)]; exact q2 hc
  · rw [sI_r (by omega)]; exact h6 k hk
theorem ci_step_no {L d n v : Nat} {S : ms_T} (h : ci L d (ofs L n + v) S) (h1 : 1 ≤ n) (hn : n ≤ d) (hv : v < L ^ n) (hc : chf L n v = false) : ci L d (ofs L n + v + 1) (ms_sI S 7 (ofs L n + v) (-1)) := by
  obtain ⟨a1, a2, a3, a4, a5, a6, a7⟩ := ci_no h
  have e : cnt L d (ofs L n + v + 1) = cnt L d (ofs L n + v) := by
    rw [cnt_step h1 hn hv, if_neg (by rw [hc]; decide)]; rfl
  refine ⟨a1, by rw [e]; exact a2, fun m u b1 b2 b3 b4 => ?_, by rw [e]; exact a4, a5, a6, a7⟩
  by_cases q : ofs L m + u = ofs L n + v
  · obtain ⟨rfl, rfl⟩ := place_inj b3 hv q
    refine ⟨fun z => absurd z (by rw [hc]; decide), fun _ => ?_⟩
    rw [sI_g, if_pos rfl, if_pos rfl]
  · exact a3 m u b1 b2 b3 (by omega)
theorem ci_ext {L d n v : Nat} {S S' : ms_T} (h : ci L d (ofs L n + v) S) (h1 : 1 ≤ n) (hn : n ≤ d) (hv : v < L ^ n) (hc : chf L n v = true) (hm : mt_ok L d S') (hF : S'.1 3 = nI (cnt L d (ofs L n + v) + 1)) (hF4 : ∀ k, 4 ≤ k → S'.1 k = S.1 k) (hI8 : ∀ k, 8 ≤ k → S'.2.1 k = S.2.1 k) (hJ : ∀ k, k ≠ 1 → S'.2.2 k = S.2.2 k)
    (h7 : ∀ j, j ≠ ofs L n + v → S'.2.1 7 j = S.2.1 7 j) (h3 : ∀ k, 3 ≤ k → k ≤ 6 → ∀ j, j ≠ cnt L d (ofs L n + v) → S'.2.1 k j = S.2.1 k j) (hB : ∀ j, j < 256 * cnt L d (ofs L n + v) ∨ 256 * (cnt L d (ofs L n + v) + 1) ≤ j → S'.2.2 1 j = S.2.2 1 j) (hr : rowOK L d n v S') : ci L d (ofs L n + v + 1) S' := by
  obtain ⟨a1, a2, a3, a4, a5, a6, a7⟩ := h
  have e : cnt L d (ofs L n + v + 1) = cnt L d (ofs L n + v) + 1 := by
    rw [cnt_step h1 hn hv, if_pos hc]
  refine ⟨hm, by rw [e]; exact hF, fun m u b1 b2 b3 b4 => ?_, fun j hj => ?_, fun k hk => (hF4 k hk).trans (a5 k hk), fun k hk => (hI8 k hk).trans (a6 k hk), fun k hk => (hJ k hk).trans (a7 k hk)⟩
  · by_cases q : ofs L m + u = ofs L n + v
    · obtain ⟨rfl, rfl⟩ := place_inj b3 hv q
      exact ⟨fun _ => hr, fun z => absurd z (by rw [hc]; decide)⟩
    · obtain ⟨q1, q2⟩ := a3 m u b1 b2 b3 (by omega)
      refine ⟨fun z => ?_, fun z => ?_⟩
      · obtain ⟨r1, r2, r3, r4, r5, r6⟩ := q1 z
        have hlt : cnt L d (ofs L m + u) < cnt L d (ofs L n + v) := cnt_lt b1 b2 b3 z (by omega)
        have hp := cf_pow hm.1 b2
        refine ⟨?_, ?_, ?_, fun y => ⟨?_, ?_⟩, fun y => ⟨?_, ?_⟩, fun t ht => ?_⟩
        · rw [h7 _ q]; exact r1
        · rw [h3 3 (by omega) (by omega) _ (by omega)]; exact r2
        · rw [h3 6 (by omega) (by omega) _ (by omega)]; exact r3
        · rw [h3 4 (by omega) (by omega) _ (by omega)]; exact (r4 y).1
        · rw [h3 5 (by omega) (by omega) _ (by omega)]; exact (r4 y).2
        · rw [h3 4 (by omega) (by omega) _ (by omega)]; exact (r5 y).1
        · rw [h3 5 (by omega) (by omega) _ (by omega)]; exact (r5 y).2
        · rw [hB _ (Or.inl (by omega))]; exact r6 t ht
      · rw [h7 _ q]; exact q2 z
  · rw [e] at hj
    rw [hB _ (Or.inr hj)]
    exact a4 j (by omega)
theorem sp_comes {L d n v : Nat} {S : ms_T} {Q : ms_T → Prop} (h : ci L d (ofs L n + v) S) (h1 : 1 ≤ n) (hn : n ≤ d) (hv : v < L ^ n) (hc : chf L n v = true) (hq : ∀ S', ci L d (ofs L n + v + 1) S' → Q S') : wp_X8_comes S (nI (ofs L n + v)) Q := by
  have hm := h.1
  have hcf := hm.1
  have hd := cf_d hcf
  have hL := cf_L hcf
  have hw := cf_w hcf hn hv
  have hall : ofs L n + v < ofs L (d + 1) := by
    have a1 : ofs L (n + 1) ≤ ofs L (d + 1) := ofs_mono (by omega)
    have a2 : ofs L (n + 1) = ofs L n + L ^ n := rfl
    omega
  have hc99 : cnt L d (ofs L n + v) ≤ 98 := cnt_99 hcf (by omega)
  obtain ⟨c, hce⟩ : ∃ c, c = cnt L d (ofs L n + v) := ⟨_, rfl⟩
  have hF : S.1 3 = nI c := by rw [hce]; exact h.2.1
  refine ⟨vp_in_nI hw (by omega), ?_⟩
  rw [mt_l hm hn hv]
  rintro _ rfl
  rw [hF]
  rintro _ rfl
  have hc100 : vp_in (nI c) 100 := vp_in_nI (by omega) (by omega)
  refine ⟨hc100, vp_in_nI hw (by omega), hc100, hc100, hc100, ?_⟩
  rw [nI_clamp (show c < 2 ^ 31 by omega), nI_clamp (show ofs L n + v < 2 ^ 31 by omega)]
  rw [show (ms_sI (ms_sI (ms_sI (ms_sI (ms_sI S 3 c (nI (ofs L n + v))) 7 (ofs L n + v) (nI c)) 4 c (-1)) 5 c (-1)) 6 c 1).1 3 = nI c from hF, nI_1]
  obtain ⟨T, hT⟩ : ∃ T, T = ms_sF (ms_sI (ms_sI (ms_sI (ms_sI (ms_sI S 3 c (nI (ofs L n + v))) 7 (ofs L n + v) (nI c)) 4 c (-1)) 5 c (-1)) 6 c 1) 3 (nI (c + 1)) := ⟨_, rfl⟩
  rw [← hT]
  have tm : mt_ok L d T := by rw [hT]; exact mt_sF (by omega) (mt_sI (by omega) (mt_sI (by omega) (mt_sI (by omega) (mt_sI (by omega) (mt_sI (by omega) hm)))))
  have tF : T.1 3 = nI (c + 1) := by rw [hT, sF_F, if_pos rfl]
  have tF4 : ∀ k, 4 ≤ k → T.1 k = S.1 k := fun k hk => by rw [hT, sF_F, if_neg (by omega)]; rfl
  have tJ : T.2.2 = S.2.2 := by rw [hT]; rfl
  have t3 : ∀ j, T.2.1 3 j = if j = c then nI (ofs L n + v) else S.2.1 3 j := fun j => by rw [hT, sF_I]; simp [sI_g]
  have t4 : ∀ j, T.2.1 4 j = if j = c then -1 else S.2.1 4 j := fun j => by rw [hT, sF_I]; simp [sI_g]
  have t5 : ∀ j, T.2.1 5 j = if j = c then -1 else S.2.1 5 j := fun j => by rw [hT, sF_I]; simp [sI_g]
  have t6 : ∀ j, T.2.1 6 j = if j = c then 1 else S.2.1 6 j := fun j => by rw [hT, sF_I]; simp [sI_g]
  have t7 : ∀ j, T.2.1 7 j = if j = ofs L n + v then nI c else S.2.1 7 j := fun j => by rw [hT, sF_I]; simp [sI_g]
  have t8 : ∀ k, 8 ≤ k → T.2.1 k = S.2.1 k := fun k hk => by rw [hT, sF_I, sI_r (by omega), sI_r (by omega), sI_r (by omega), sI_r (by omega), sI_r (by omega)]
  have tz : ∀ j, 256 * c ≤ j → S.2.2 1 j = 0 := fun j hj => h.2.2.2.1 j (by rw [← hce]; exact hj)
  refine ⟨fun hne => ?_, fun he => ?_⟩
  · have h2 : 2 ≤ n := by
      by_cases e : n = 1
      · subst e; exact absurd rfl hne
      · omega
    obtain ⟨q1, q2, q3, q4⟩ := sd_spec (L := L) (v := v) h2
    have q5 := std_ok hcf h2 hn hv hc
    have pe := cf_pow hcf (show n - sd L n v ≤ d by omega)
    have hve : v % L ^ (n - sd L n v) < L ^ (n - sd L n v) := Nat.mod_lt _ pe.1
    have hvb : v / L ^ (n - sd L n v) < L ^ sd L n v := by
      rw [Nat.div_lt_iff_lt_mul pe.1, ← Nat.pow_add, show sd L n v + (n - sd L n v) = n by omega]; exact hv
    have lt1 : ofs L (sd L n v) + v / L ^ (n - sd L n v) < ofs L n := by
      have a1 : ofs L (sd L n v + 1) ≤ ofs L n := ofs_mono q2
      have a2 : ofs L (sd L n v + 1) = ofs L (sd L n v) + L ^ sd L n v := rfl
      omega
    have lt2 : ofs L (n - sd L n v) + v % L ^ (n - sd L n v) < ofs L n := by
      have a1 : ofs L (n - sd L n v + 1) ≤ ofs L n := ofs_mono (by omega)
      have a2 : ofs L (n - sd L n v + 1) = ofs L (n - sd L n v) + L ^ (n - sd L n v) := rfl
      omega
    obtain ⟨l1, l2, l3, l4, l5, l6⟩ := (h.2.2.1 (sd L n v) (v / L ^ (n - sd L n v)) q1 (by omega) hvb (by omega)).1 q5
    obtain ⟨r1, r2, r3, r4, r5, r6⟩ := (h.2.2.1 (n - sd L n v) (v % L ^ (n - sd L n v)) (by omega) (by omega) hve (by omega)).1 q3
    have cl := cnt_lt (d := d) q1 (show sd L n v ≤ d by omega) hvb q5 (show _ < ofs L n + v by omega)
    have cr := cnt_lt (d := d) (show 1 ≤ n - sd L n v by omega) (show n - sd L n v ≤ d by omega) hve q3 (show _ < ofs L n + v by omega)
    rw [← hce] at cl cr
    refine ⟨sd L n v - 1 + 1, ?_⟩
    refine sp_comes_86 (s := sd L n v) (cl := cnt L d (ofs L (sd L n v) + v / L ^ (n - sd L n v))) (cr := cnt L d (ofs L (n - sd L n v) + v % L ^ (n - sd L n v))) (A := bas L (sd L n v) (sd L n v) (v / L ^ (n - sd L n v))) (B := bas L (n - sd L n v) (n - sd L n v) (v % L ^ (n - sd L n v))) tm hn hv (by omega) cl cr q1 q2 q3 q4 ?_ ?_ ?_ ?_ ?_ ?_ ?_ (sd L n v - 1) 1 (by omega) (by omega)
    · rw [t7, if_neg (by omega)]; exact l1
    · rw [t7, if_neg (by omega)]; exact r1
    · rw [t6, if_neg (by omega)]; exact l3
    · rw [t6, if_neg (by omega)]; exact r3
    · intro u hu; rw [tJ]; exact ⟨l6 u hu, bas_lt _ _ _ _⟩
    · intro u hu; rw [tJ]; exact ⟨r6 u hu, bas_lt _ _ _ _⟩
    · have pn := cf_pow hcf hn
      refine hq _ (ci_ext h h1 hn hv hc (mt_mJ (mt_sI (by omega) (mt_sI (by omega) (mt_sI (by omega) tm)))) (by rw [← hce]; exact tF) tF4 (fun k hk => ?_) (fun k hk => ?_) (fun j hj => ?_) (fun k a b j hj => ?_) (fun j hj => ?_) ⟨?_, ?_, ?_, fun z => by omega, fun _ => ⟨?_, ?_⟩, fun u hu => ?_⟩)
      · rw [mJ_I, sI_r (by omega), sI_r (by omega), sI_r (by omega)]; exact t8 k hk
      · rw [mJ_J, if_neg hk, sI_J, sI_J, sI_J, tJ]
      · rw [mJ_I, sI_r (by omega), sI_r (by omega), sI_r (by omega), t7, if_neg hj]
      · rw [← hce] at hj
        rw [mJ_I]
        rcases (show k = 3 ∨ k = 4 ∨ k = 5 ∨ k = 6 by omega) with rfl | rfl | rfl | rfl
        · rw [sI_r (by omega), sI_r (by omega), sI_r (by omega), t3, if_neg hj]
        · rw [sI_r (by omega), sI_r (by omega), sI_g, if_pos rfl, if_neg hj, t4, if_neg hj]
        · rw [sI_r (by omega), sI_g, if_pos rfl, if_neg hj, sI_r (by omega), t5, if_neg hj]
        · rw [sI_g, if_pos rfl, if_neg hj, sI_r (by omega), sI_r (by omega), t6, if_neg hj]
      · rw [← hce] at hj
        rw [mJ_J, if_pos rfl, rs_out (by omega), tJ]
      · rw [← hce, mJ_I, sI_r (by omega), sI_r (by omega), sI_r (by omega), t7, if_pos rfl]
      · rw [← hce, mJ_I, sI_r (by omega), sI_r (by omega), sI_r (by omega), t3, if_pos rfl]
      · rw [← hce, mJ_I, sI_g, if_pos rfl, if_pos rfl]
      · rw [← hce, mJ_I, sI_r (by omega), sI_r (by omega), sI_g, if_pos rfl, if_pos rfl]; rfl
      · rw [← hce, mJ_I, sI_r (by omega), sI_g, if_pos rfl, if_pos rfl]; rfl
      · rw [← hce, mJ_J, if_pos rfl, rs_in hu, bas_n h2]
  · have h2 : n = 1 := by
      have := (nI_eq (show n < 2 ^ 31 by omega) (by decide)).mp (show nI n = nI 1 from he)
      exact this
    subst h2
    have e1 : T.2.1 1 ((1 : Int32)).toNatClampNeg = nI (ofs L 1) := mt_o tm (show 1 ≤ d + 1 by omega)
    have pn := cf_pow hcf hn
    refine ⟨vp_in_nI (n := 1) (by decide) (by decide), ?_⟩
    rw [e1, show (256 : Int32) = nI 256 from rfl, pk_mul, nI_add, pk_sub (by omega), show 256 * c + (ofs L 1 + v) - ofs L 1 = 256 * c + v by omega, nI_clamp (by omega)]
    refine ⟨vp_in_nI (by omega) (by omega), ?_⟩
    refine hq _ (ci_ext h h1 hn hv hc tm (by rw [← hce]; exact tF) tF4 t8 (fun k hk => ?_) (fun j hj => ?_) (fun k a b j hj => ?_) (fun j hj => ?_) ⟨?_, ?_, ?_, fun z => ⟨?_, ?_⟩, fun z => by omega, fun u hu => ?_⟩)
    · rw [sJ_r hk, tJ]
    · show T.2.1 7 j = _
      rw [t7, if_neg hj]
    · rw [← hce] at hj
      show T.2.1 k j = _
      rcases (show k = 3 ∨ k = 4 ∨ k = 5 ∨ k = 6 by omega) with rfl | rfl | rfl | rfl
      · rw [t3, if_neg hj]
      · rw [t4, if_neg hj]
      · rw [t5, if_neg hj]
      · rw [t6, if_neg hj]
    · rw [← hce] at hj
      rw [sJ_g, if_pos rfl, if_neg (by omega), tJ]
    · rw [← hce]; show T.2.1 7 _ = _; rw [t7, if_pos rfl]
    · rw [← hce]; show T.2.1 3 _ = _; rw [t3, if_pos rfl]
    · rw [← hce]; show T.2.1 6 _ = _; rw [t6, if_pos rfl]; rfl
    · rw [← hce]; show T.2.1 4 _ = _; rw [t4, if_pos rfl]
    · rw [← hce]; show T.2.1 5 _ = _; rw [t5, if_pos rfl]
    · rw [← hce]
      rw [sJ_g, if_pos rfl, bas_1]
      by_cases e : u = v
      · subst e; rw [if_pos rfl, if_pos rfl]; rfl
      · rw [if_neg (by omega), if_neg e, tJ, tz _ (by omega)]; rfl
/-- the reference's state behind its constructor -/
def mk_ok (L d : Nat) (S : ms_T) : Prop := ci L d (ofs L (d + 1)) S ∧ S.2.1 7 0 = -1
theorem sp_init_351 {L d : Nat} {Q : ms_T → Prop} (hq : ∀ S, mk_ok L d S → Q S) : ∀ k w S, w + k = ofs L (d + 1) → 1 ≤ w → ci L d w S → wp_X8_init_351 Q (k + 1) S (nI w) := by
  intro k
  induction k with
  | zero =>
    intro w S hw h1 h
    have : w = ofs L (d + 1) := by omega
    subst this
    have hW := mt_W h.1
    refine ⟨fun _ => ⟨vp_in_nI (n := 0) (by decide) (by decide), hq _ ⟨?_, ?_⟩⟩, fun z => absurd ?_ z⟩
    · obtain ⟨a1, a2, a3, a4, a5, a6, a7⟩ := h
      refine ⟨mt_sI (by omega) a1, a2, fun n v b1 b2 b3 b4 => ?_, a4, a5, fun k hk => by rw [sI_r (by omega)]; exact a6 k hk, a7⟩
      have hpos : 1 ≤ ofs L n := by
        have e1 : ofs L 1 ≤ ofs L n := ofs_mono b1
        have e : ofs L 1 = 1 := by show 0 + L ^ 0 = 1; rw [Nat.pow_zero]
        omega
      have hz : ((0 : Int32)).toNatClampNeg = 0 := by decide
      obtain ⟨q1, q2⟩ := a3 n v b1 b2 b3 b4
      refine ⟨fun hc => ?_, fun hc => ?_⟩
      · obtain ⟨r1, r2, r3, r4, r5, r6⟩ := q1 hc
        refine ⟨?_, ?_, ?_, ?_, ?_, r6⟩
        · rw [sI_g, if_pos rfl, hz, if_neg (by omega)]; exact r1
        · rw [sI_g, if_neg (by omega)]; exact r2
        · rw [sI_g, if_neg (by omega)]; exact r3
        · intro z; rw [sI_g, if_neg (by omega), sI_g, if_neg (by omega)]; exact r4 z
        · intro z; rw [sI_g, if_neg (by omega), sI_g, if_neg (by omega)]; exact r5 z
      · rw [sI_g, if_pos rfl, hz, if_neg (by omega)]; exact q2 hc
    · rw [sI_g, if_pos rfl, if_pos (by decide)]
    · rw [hW.1]; exact nI_le (Nat.le_refl _) (by omega)
  | succ k ih =>
    intro w S hw h1 h
    have hW := mt_W h.1
    have g1 : wlen L d w ≤ d := wlen_le
    have g2 : ofs L (wlen L d w) ≤ w := wlen_lo
    have g3 : w < ofs L (wlen L d w) + L ^ wlen L d w := wlen_hi (by omega)
    obtain ⟨v, hv⟩ : ∃ v, w = ofs L (wlen L d w) + v := ⟨w - ofs L (wlen L d w), by omega⟩
    have hvl : v < L ^ wlen L d w := by omega
    have hn1 : 1 ≤ wlen L d w := by
      by_cases e : wlen L d w = 0
      · rw [e] at hvl hv
        rw [Nat.pow_zero] at hvl
        have : ofs L 0 = 0 := rfl
        omega
      · omega
    generalize hne : wlen L d w = n at hv hvl hn1 g1
    subst hv
    have hi := ih (ofs L n + v + 1)
    refine ⟨fun z => absurd z ?_, fun _ => ⟨vp_in_nI (by omega) (by omega), ?_⟩⟩
    · rw [hW.1]; exact nI_ge (by omega) (by omega)
    · rw [nI_clamp (by omega)]
      have hno := ci_no h
      refine sp_isChief hno.1 g1 hvl ⟨fun hz => ?_, fun hz => ?_⟩
      · rintro _ rfl
        rw [nI_1]
        exact hi _ (by omega) (by omega) (ci_step_no h hn1 g1 hvl (b01_0 hz))
      · refine sp_comes hno hn1 g1 hvl (b01_1 hz) (fun S' hS' => ?_)
        rintro _ rfl
        rw [nI_1]
        exact hi _ (by omega) (by omega) hS'
/-- the tables of lengths below n are there; nothing else but letters and degree -/
def ti (L d n v : Nat) (S : ms_T) : Prop := S.1 0 = nI L ∧ S.1 1 = nI d ∧ S.1 2 = nI (ofs L n + v) ∧ (∀ k, k ≤ n → S.2.1 0 k = nI (L ^ k)) ∧ (∀ k, k < n → S.2.1 1 k = nI (ofs L k)) ∧ (∀ k u, k < n → u < L ^ k → S.2.1 2 (ofs L k + u) = nI k) ∧ (∀ u, u < v → S.2.1 2 (ofs L n + u) = nI n) ∧ (∀ k, 3 ≤ k → S.1 k = 0) ∧ (∀ k, 3 ≤ k → S.2.1 k = fun _ => 0) ∧ ∀ k, S.2.2 k = fun _ => 0
theorem sp_init_272 {L d n : Nat} {Q : ms_T → Prop} {K : ms_T → Int32 → Prop} (hc : cf_ok L d) (hn : n ≤ d) (hk : ∀ S, ti L d (n + 1) 0 S → K S (nI (n + 1))) : ∀ k v S, v + k = L ^ n → ti L d n v S → S.2.1 1 n = nI (ofs L n) → wp_X8_init_272 K Q (k + 1) S (nI n) (nI v) := by
  have hd := cf_d hc
  have hL := cf_L hc
  have hp := cf_pow hc hn
  intro k
  induction k with
  | zero =>
    intro v S hv h ho
    have : v = L ^ n := by omega
    subst this
    obtain ⟨a0, a1, a2, a3, a4, a5, a6, a7, a8, a9⟩ := h
    refine ⟨vp_in_nI (by omega) (by omega), ?_⟩
    rw [nI_clamp (show n < 2 ^ 31 by omega), a3 n (Nat.le_refl _)]
    refine ⟨fun _ => ⟨vp_in_nI (by omega) (by omega), ?_⟩, fun z => absurd (nI_le (Nat.le_refl _) (by omega)) z⟩
    rw [nI_1, a0, pk_mul]
    refine ⟨vp_in_nI (by omega) (by omega), ?_⟩
    rintro _ rfl
    rw [nI_clamp (show n + 1 < 2 ^ 31 by omega)]
    refine hk _ ⟨a0, a1, ?_, fun k hk => ?_, fun k hk => ?_, fun k u hk hu => ?_, fun u hu => by omega, a7, fun k hk => ?_, a9⟩
    · rw [sI_F, a2]; rfl
    · rw [sI_g, if_pos rfl]
      by_cases e : k = n + 1
      · rw [if_pos e, e, Nat.pow_succ]
      · rw [if_neg e]; exact a3 k (by omega)
    · rw [sI_g, if_neg (by omega)]
      by_cases e : k = n
      · rw [e]; exact ho
      · exact a4 k (by omega)
    · rw [sI_g, if_neg (by omega)]
      by_cases e : k = n
      · subst e; exact a6 u hu
      · exact a5 k u (by omega) hu
    · rw [sI_r (by omega)]; exact a8 k hk
  | succ k ih =>
    intro v S hv h ho
    obtain ⟨a0, a1, a2, a3, a4, a5, a6, a7, a8, a9⟩ := h
    have hw := cf_w hc hn (show v < L ^ n by omega)
    refine ⟨vp_in_nI (by omega) (by omega), ?_⟩
    rw [nI_clamp (show n < 2 ^ 31 by omega), a3 n (Nat.le_refl _)]
    refine ⟨fun z => absurd z (nI_ge (by omega) (by omega)), fun _ => ?_⟩
    rw [a2]
    refine ⟨vp_in_nI hw (by omega), ?_⟩
    rintro _ rfl
    rw [nI_clamp (show ofs L n + v < 2 ^ 31 by omega), sI_F, a2, nI_1, nI_1]
    refine ih (v + 1) _ (by omega) ⟨?_, ?_, ?_, fun k hk => ?_, fun k hk => ?_, fun k u hk hu => ?_, fun u hu => ?_, fun k hk => ?_, fun k hk => ?_, a9⟩ ?_
    · rw [sF_F, if_neg (by omega)]; exact a0
    · rw [sF_F, if_neg (by omega)]; exact a1
    · rw [sF_F, if_pos rfl]; rfl
    · rw [sF_I, sI_r (by omega)]; exact a3 k hk
    · rw [sF_I, sI_r (by omega)]; exact a4 k hk
    · rw [sF_I, sI_g, if_pos rfl, if_neg]
      · exact a5 k u hk hu
      · intro e
        have e1 : ofs L (k + 1) ≤ ofs L n := ofs_mono hk
        have e2 : ofs L (k + 1) = ofs L k + L ^ k := rfl
        omega
    · rw [sF_I, sI_g, if_pos rfl]
      by_cases e : u = v
      · rw [if_pos (by omega)]
      · rw [if_neg (by omega)]; exact a6 u (by omega)
    · rw [sF_F, if_neg (by omega)]; exact a7 k hk
    · rw [sF_I, sI_r (by omega)]; exact a8 k hk
    · rw [sF_I, sI_r (by omega)]; exact ho
theorem sp_init_251 {L d : Nat} {Q : ms_T → Prop} (hc : cf_ok L d) (hq : ∀ S, mk_ok L d S → Q S) : ∀ k n S, n + k = d + 1 → ti L d n 0 S → wp_X8_init_251 Q (k + 1) S (nI n) := by
  have hd := cf_d hc
  have hL := cf_L hc
  intro k
  induction k with
  | zero =>
    intro n S hn h
    have : n = d + 1 := by omega
    subst this
    obtain ⟨a0, a1, a2, a3, a4, a5, a6, a7, a8, a9⟩ := h
    refine ⟨fun _ => ?_, fun z => absurd ?_ z⟩
    · rw [a1, nI_1, a2, Nat.add_zero, nI_clamp (by omega)]
      refine ⟨vp_in_nI (by omega) (by omega), ofs L (d + 1) - 1 + 1, ?_⟩
      have hpos : 1 ≤ ofs L (d + 1) := by
        have e1 : ofs L 1 ≤ ofs L (d + 1) := ofs_mono (by omega)
        have e : ofs L 1 = 1 := by show 0 + L ^ 0 = 1; rw [Nat.pow_zero]
        omega
      have cz : cnt L d 1 = 0 := by
        show 0 + (if cfP L d 0 = true then 1 else 0) = 0
        rw [if_neg]
        unfold cfP
        rw [decide_eq_false (by omega), Bool.false_and]
        decide
      refine sp_init_351 hq (ofs L (d + 1) - 1) 1 _ (by omega) (Nat.le_refl 1) ⟨⟨hc, a0, a1, ?_, fun n hn => ?_, fun n hn => ?_, fun n v hn hv => ?_⟩, ?_, fun n v b1 b2 b3 b4 => ?_, fun j _ => by rw [sI_J, a9], fun k hk => a7 k (by omega), fun k hk => ?_, fun k _ => a9 k⟩
      · rw [sI_F, a2]; rfl
      · rw [sI_r (by omega)]; exact a3 n hn
      · rw [sI_g, if_pos rfl]
        by_cases e : n = d + 1
        · rw [if_pos e, e]; rfl
        · rw [if_neg e]; exact a4 n (by omega)
      · rw [sI_r (by omega)]; exact a5 n v (by omega) hv
      · rw [cz]; exact a7 3 (by omega)
      · exfalso
        have e1 : ofs L 1 ≤ ofs L n := ofs_mono b1
        have e : ofs L 1 = 1 := by show 0 + L ^ 0 = 1; rw [Nat.pow_zero]
        omega
      · rw [sI_r (by omega)]; exact a8 k (by omega)
    · rw [a1]; exact nI_lt (by omega) (by omega)
  | succ k ih =>
    intro n S hn h
    have h' := h
    obtain ⟨a0, a1, a2, a3, a4, a5, a6, a7, a8, a9⟩ := h
    refine ⟨fun z => absurd z ?_, fun _ => ⟨vp_in_nI (by omega) (by omega), L ^ n + 1, ?_⟩⟩
    · rw [a1]; exact nI_nlt (by omega) (by omega)
    · rw [a2, Nat.add_zero, nI_clamp (by omega)]
      refine sp_init_272 hc (by omega) (fun S' hS' => ih (n + 1) S' (by omega) hS') (L ^ n) 0 _ (by omega) ⟨a0, a1, ?_, fun k hk => ?_, fun k hk => ?_, fun k u hk hu => ?_, fun u hu => by omega, a7, fun k hk => ?_, a9⟩ ?_
      · rw [sI_F]; exact a2
      · rw [sI_r (by omega)]; exact a3 k hk
      · rw [sI_g, if_pos rfl, if_neg (by omega)]; exact a4 k hk
      · rw [sI_r (by omega)]; exact a5 k u hk hu
      · rw [sI_r (by omega)]; exact a8 k hk
      · rw [sI_g, if_pos rfl, if_pos rfl]; rfl
/-- the remainder that is never negative -/
theorem fl_mod {x : Int32} {m : Nat} (h0 : 0 < m) (hm : m < 2 ^ 15) : xr_remI (xr_remI x (nI m) + nI m) (nI m) = nI (x.toInt % m).toNat := by
  have hmi : (nI m).toInt = m := nI_toInt (by omega)
  have hne : nI m ≠ -1 := fun e => by
    have := congrArg Int32.toInt e
    rw [hmi, show ((-1) : Int32).toInt = -1 from by decide] at this
    omega
  have hrem : ∀ y : Int32, (xr_remI y (nI m)).toInt = y.toInt.tmod m := by
    intro y
    have l1 : y.toInt.tmod m < m := Int.tmod_lt_of_pos _ (by omega)
    have l2 : -(m : Int) < y.toInt.tmod m := by
      have := Int.lt_tmod_of_pos y.toInt (show (0 : Int) < m by omega)
      omega
    show (y - y / nI m * nI m).toInt = _
    rw [Int32.toInt_sub, Int32.toInt_mul, Int32.toInt_div_of_ne_right _ _ hne, hmi, Int.sub_bmod_bmod, Int.mul_comm, ← Int.tmod_def]
    simp only [Int.bmod]
    split <;> omega
  have b1 := hrem x
  have l1 : x.toInt.tmod m < m := Int.tmod_lt_of_pos _ (by omega)
  have l2 : -(m : Int) < x.toInt.tmod m := by
    have := Int.lt_tmod_of_pos x.toInt (show (0 : Int) < m by omega)
    omega
  have e2 : (xr_remI x (nI m) + nI m).toInt = x.toInt.tmod m + m := by
    rw [Int32.toInt_add, b1, hmi]
    simp only [Int.bmod]
    split <;> omega
  apply Int32.toInt_inj.mp
  rw [hrem, e2]
  have l3 : x.toInt % (m : Int) < m := Int.emod_lt_of_pos _ (by omega)
  have l4 : 0 ≤ x.toInt % (m : Int) := Int.emod_nonneg _ (by omega)
  rw [nI_toInt (by omega)]
  rw [Int.tmod_eq_emod_of_nonneg (by omega), Int.add_emod_right]
  have : x.toInt.tmod m % m = x.toInt % m := by
    rw [Int.tmod_eq_emod]
    by_cases hz : 0 ≤ x.toInt ∨ (m : Int) ∣ x.toInt
    · rw [if_pos hz]; simp
    · rw [if_neg hz]
      have : (Int.natAbs (m : Int) : Int) = m := by omega
      rw [this, Int.sub_emod, Int.emod_self, Int.sub_zero, Int.emod_emod_of_dvd _ (Int.dvd_refl _), Int.emod_emod_of_dvd _ (Int.dvd_refl _)]
  rw [this]
  omega
def lettersOf (x : Int32) : Nat := 2 + (x.toInt % 3).toNat
def degreeOf (x y : Int32) : Nat := 2 + (y.toInt % ((7 - lettersOf x : Nat) : Int)).toNat
theorem cf_of (x y : Int32) : cf_ok (lettersOf x) (degreeOf x y) := by
  unfold degreeOf cf_ok
  have h1 : lettersOf x = 2 ∨ lettersOf x = 3 ∨ lettersOf x = 4 := by unfold lettersOf; omega
  rcases h1 with e | e | e
  · rw [e]; omega
  · rw [e]; omega
  · rw [e]; omega
theorem sp_init {x y : Int32} {Q : ms_T → Prop} (hq : ∀ S, mk_ok (lettersOf x) (degreeOf x y) S → Q S) : wp_X8_init_b ms_0 x y Q := by
  have hc := cf_of x y
  have hd := cf_d hc
  have fin : ∀ m, m = 7 - lettersOf x → wp_X8_init_235 Q (ms_sF ms_0 0 (nI (lettersOf x))) 2 y (nI m) := by
    intro m hm
    have h0 : 3 ≤ m ∧ m ≤ 5 := by have := cf_L hc; omega
    refine ⟨nI_ne (by omega) (by omega), nI_ne (by omega) (by omega), ?_⟩
    rw [fl_mod (by omega) (by omega)]
    dsimp only
    rw [show (2 : Int32) = nI 2 from rfl, nI_add, show 2 + (y.toInt % (m : Int)).toNat = degreeOf x y from by unfold degreeOf; rw [hm]]
    refine ⟨vp_in_nI (n := 0) (by decide) (by decide), degreeOf x y + 1 + 1, ?_⟩
    refine sp_init_251 hc hq (degreeOf x y + 1) 0 _ (by omega) ⟨?_, ?_, ?_, fun k hk => ?_, fun k hk => by omega, fun k u hk => by omega, fun u hu => by omega, fun k hk => ?_, fun k hk => ?_, fun k => rfl⟩
    · rw [sI_F, sF_F, if_neg (by omega), sF_F, if_pos rfl]
    · rw [sI_F, sF_F, if_pos rfl]
    · rw [sI_F, sF_F, if_neg (by omega), sF_F, if_neg (by omega)]; rfl
    · have : k = 0 := by omega
      subst this
      rw [sI_g, if_pos rfl, if_pos (by decide), Nat.pow_zero]; rfl
    · rw [sI_F, sF_F, if_neg (by omega), sF_F, if_neg (by omega)]; rfl
    · rw [sI_r (by omega)]; rfl
  have hl : (2 : Int32) + xr_remI (xr_remI x 3 + 3) 3 = nI (lettersOf x) := by
    have := fl_mod (x := x) (m := 3) (by decide) (by decide)
    rw [show (3 : Int32) = nI 3 from rfl, this, show (2 : Int32) = nI 2 from rfl, nI_add]
    rfl
  refine ⟨by decide, by decide, ?_⟩
  dsimp only
  rw [hl]
  have e0 : (ms_sF ms_0 0 (nI (lettersOf x))).1 0 = nI (lettersOf x) := by rw [sF_F, if_pos rfl]
  rw [e0]
  have h1 : lettersOf x = 2 ∨ lettersOf x = 3 ∨ lettersOf x = 4 := by unfold lettersOf; omega
  refine ⟨fun n2 => ⟨fun n3 => fin 3 ?_, fun e3 => fin 4 ?_⟩, fun e2 => fin 5 ?_⟩
  · rcases h1 with e | e | e
    · exact absurd (by rw [e]; rfl) n2
    · exact absurd (by rw [e]; rfl) n3
    · rw [e]
  · have := (nI_eq (show lettersOf x < 2 ^ 31 by omega) (by decide)).mp (show nI (lettersOf x) = nI 3 from e3)
    omega
  · have := (nI_eq (show lettersOf x < 2 ^ 31 by omega) (by decide)).mp (show nI (lettersOf x) = nI 2 from e2)
    omega
