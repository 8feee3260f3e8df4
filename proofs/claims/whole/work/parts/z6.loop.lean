/-! the law: its loop -/
section ZF
variable {p : Program} {l : Launch} {e : Env} {s : State} {m : MethodId} {below : List Frame} {meth : Method} {c : Code} {b N : Nat} {xs : Nat → Int32} {D : va_G} {cI cJ cR : ClassId} {La d : Nat}
theorem ofN_sub {N i : Nat} (hN : N ≤ 2562) (hi : i ≤ N + 5) (h : ¬ Int32.ofNat N - 5 < nI i) : i + 5 ≤ N := by
  rw [i32_lt, nI_i (by omega), Int32.toInt_sub, show (Int32.ofNat N).toInt = (N : Int) from nI_i (by omega), show (5 : Int32).toInt = 5 from by decide, Int.bmod_eq_of_le (by omega) (by omega)] at h
  omega
set_option maxHeartbeats 4000000 in
set_option maxRecDepth 100000 in
theorem law_loop (hN : N ≤ 2562) (hkr : KR La d) (hlocks : meth.locks = false) (F : lw_Fx p s m meth c b N xs D cI cJ cR) {adx adm : Nat → Nat} : ∀ (n i : Nat) (x3 : Int32), i ≤ N + 5 → N + 6 ≤ i + n → x3 = nI i → ∀ (A : AS) (H : Heap) (locs : List Loc) (cells slots : Nat) (Sc : cs_T) (Sm : ms_T), lw_St La d D cI cJ cR s A adx adm H locs cells slots Sc Sm → ∀ (ls : Array Slot), lv_has ls 4 [(0, .ref b), (1, .ref (adx 0)), (2, .ref (adm 0)), (3, .int x3)] → W p l e room_1 s m #[Value.ref b] below meth c H locs cells slots (lw_Z below #[Value.ref b] s) (F0 m 38 ls []) := by
  obtain ⟨fx, hX, hbl, hK⟩ := id F
  obtain ⟨⟨hx, hb, hml, hown, hts⟩, hret, hlk⟩ := id fx
  have hbA : ¬ (fun q : Nat => s.heap.size ≤ q) b := Nat.not_le.mpr hbl
  intro n
  induction n with
  | zero =>
    intro i x3 g1 g2
    exact absurd g2 (by omega)
  | succ n ih =>
    intro i x3 hi hin ex3 A H locs cells slots Sc Sm S ls hl
    obtain ⟨hP, hD, hS, hC, hM, hce, hsl⟩ := id S
    refine lv_iload_n hx hb dL_law_38 rfl (lv_at hl 3 rfl) ?_
    refine lv_aload_n hx hb dL_law_39 rfl (lv_at hl 0 rfl) ?_
    refine va_slen hx hb hX hbl hbA hS dL_law_40 ?_
    refine lv_iconst (v := 5) hx hb dL_law_41 (by decide) ?_
    refine lv_isub hx hb dL_law_42 ?_
    refine lv_icmp_gt (tgt := 1382) hx hb dL_law_43 (by decide) (fun c0 => ?_) (fun c0 => ?_)
    · refine lv_iconst (v := 1) hx hb dL_law_1382 (by decide) ?_
      refine va_forget (fun q hq => hS.2.2 q hq) ?_
      refine W.widen (k := 600000) (n := 7302250) (by omega) (by omega) ?_
      exact lw_ret hx hb hret hlocks dL_law_1383
    · have hi5 : i + 5 ≤ N := by
        refine ofN_sub hN hi (fun z => c0 ?_)
        rw [ex3]
        exact z
      have e1 : x3 + 1 = nI (i + 1) := by rw [ex3]; exact nI_add i 1
      have e2 : x3 + 2 = nI (i + 2) := by rw [ex3]; exact nI_add i 2
      have e3 : x3 + 3 = nI (i + 3) := by rw [ex3]; exact nI_add i 3
      have e4 : x3 + 4 = nI (i + 4) := by rw [ex3]; exact nI_add i 4
      have h0 : vp_in x3 N := by rw [ex3]; exact vp_in_nI (by omega) (by omega)
      have h1 : vp_in (x3 + 1) N := by rw [e1]; exact vp_in_nI (by omega) (by omega)
      have h2 : vp_in (x3 + 2) N := by rw [e2]; exact vp_in_nI (by omega) (by omega)
      have h3 : vp_in (x3 + 3) N := by rw [e3]; exact vp_in_nI (by omega) (by omega)
      have h4 : vp_in (x3 + 4) N := by rw [e4]; exact vp_in_nI (by omega) (by omega)
      have kk : ∀ (A' : AS) (H' : Heap) (locs' : List Loc) (cells' slots' : Nat) (Sc' : cs_T) (Sm' : ms_T), lw_St La d D cI cJ cR s A' adx adm H' locs' cells' slots' Sc' Sm' → W p l e room_1 s m #[Value.ref b] below meth c H' locs' cells' slots' (lw_Z below #[Value.ref b] s) (F0 m 1376 ls []) := fun A' H' locs' cells' slots' Sc' Sm' S' => by
        obtain ⟨y3, ey3⟩ : ∃ y : Int32, y = x3 + 5 := ⟨_, rfl⟩
        refine lv_iinc (v := y3) (lv' := [(3, .int y3), (0, .ref b), (1, .ref (adx 0)), (2, .ref (adm 0))]) hx hb dL_law_1376 hl (k := 3) rfl (by rw [ey3]; rfl) (by decide) rfl (fun ls' hl' => ?_)
        refine lv_goto (tgt := 38) hx hb dL_law_1379 (by decide) ?_
        exact ih (i + 5) y3 (by omega) (by omega) (by rw [ey3, ex3]; exact nI_add i 5) A' H' locs' cells' slots' Sc' Sm' S' ls' (lv_sub hl' [1, 2, 3, 0] rfl)
      refine lv_aload_n hx hb dL_law_46 rfl (lv_at hl 0 rfl) ?_
      refine lv_iload_n hx hb dL_law_47 rfl (lv_at hl 3 rfl) ?_
      refine va_sld hx hb hX hbl hbA hS h0 dL_law_48 ?_
      refine lv_bipush (v := 63) hx hb dL_law_49 (by decide) ?_
      refine lv_iand hx hb dL_law_51 ?_
      refine lv_topi (fun y ey => ?_)
      rcases (show (y.toInt < 0 ∨ 33 < y.toInt) ∨ ∃ k : Nat, k ≤ 33 ∧ y.toInt = k by
        by_cases q : y.toInt < 0 ∨ 33 < y.toInt
        · exact Or.inl q
        · exact Or.inr ⟨y.toInt.toNat, by omega, by omega⟩) with q | ⟨k, hk, hyk⟩
      · exact lv_tableOut (tgt := 1376) hx hb dL_law_52 q (by decide) (kk A H locs cells slots Sc Sm S)
      · clear ih
        rcases (show k = 0 ∨ k = 1 ∨ k = 2 ∨ k = 3 ∨ k = 4 ∨ k = 5 ∨ k = 6 ∨ k = 7 ∨ k = 8 ∨ k = 9 ∨ k = 10 ∨ k = 11 ∨ k = 12 ∨ k = 13 ∨ k = 14 ∨ k = 15 ∨ k = 16 ∨ k = 17 ∨ k = 18 ∨ k = 19 ∨ k = 20 ∨ k = 21 ∨ k = 22 ∨ k = 23 ∨ k = 24 ∨ k = 25 ∨ k = 26 ∨ k = 27 ∨ k = 28 ∨ k = 29 ∨ k = 30 ∨ k = 31 ∨ k = 32 ∨ k = 33 by omega) with rfl | rfl | rfl | rfl | rfl | rfl | rfl | rfl | rfl | rfl | rfl | rfl | rfl | rfl | rfl | rfl | rfl | rfl | rfl | rfl | rfl | rfl | rfl | rfl | rfl | rfl | rfl | rfl | rfl | rfl | rfl | rfl | rfl | rfl
        · exact lv_tableIn (off := 152) (tgt := 204) hx hb dL_law_52 (by rw [hyk]; decide) (by rw [hyk]; decide) (by rw [hyk]; rfl) (by decide) (lc_clear hkr F S h1 h2 h3 h4 hl kk)
        · exact lv_tableIn (off := 175) (tgt := 227) hx hb dL_law_52 (by rw [hyk]; decide) (by rw [hyk]; decide) (by rw [hyk]; rfl) (by decide) (lc_put hkr F S h1 h2 h3 h4 hl kk)
        · exact lv_tableIn (off := 228) (tgt := 280) hx hb dL_law_52 (by rw [hyk]; decide) (by rw [hyk]; decide) (by rw [hyk]; rfl) (by decide) (lc_at hkr F S h1 h2 h3 h4 hl kk)
        · exact lv_tableIn (off := 261) (tgt := 313) hx hb dL_law_52 (by rw [hyk]; decide) (by rw [hyk]; decide) (by rw [hyk]; rfl) (by decide) (lc_fraction hkr F S h1 h2 h3 h4 hl kk)
        · exact lv_tableIn (off := 294) (tgt := 346) hx hb dL_law_52 (by rw [hyk]; decide) (by rw [hyk]; decide) (by rw [hyk]; rfl) (by decide) (lc_add hkr F S h1 h2 h3 h4 hl kk)
        · exact lv_tableIn (off := 347) (tgt := 399) hx hb dL_law_52 (by rw [hyk]; decide) (by rw [hyk]; decide) (by rw [hyk]; rfl) (by decide) (lc_times hkr F S h1 h2 h3 h4 hl kk)
        · exact lv_tableIn (off := 390) (tgt := 442) hx hb dL_law_52 (by rw [hyk]; decide) (by rw [hyk]; decide) (by rw [hyk]; rfl) (by decide) (lc_bracket hkr F S h1 h2 h3 h4 hl kk)
        · exact lv_tableIn (off := 433) (tgt := 485) hx hb dL_law_52 (by rw [hyk]; decide) (by rw [hyk]; decide) (by rw [hyk]; rfl) (by decide) (lc_shuffle hkr F S h1 h2 h3 h4 hl kk)
        · exact lv_tableIn (off := 476) (tgt := 528) hx hb dL_law_52 (by rw [hyk]; decide) (by rw [hyk]; decide) (by rw [hyk]; rfl) (by decide) (lc_turn hkr F S h1 h2 h3 h4 hl kk)
        · exact lv_tableIn (off := 509) (tgt := 561) hx hb dL_law_52 (by rw [hyk]; decide) (by rw [hyk]; decide) (by rw [hyk]; rfl) (by decide) (lc_exp hkr F S h1 h2 h3 h4 hl kk)
        · exact lv_tableIn (off := 542) (tgt := 594) hx hb dL_law_52 (by rw [hyk]; decide) (by rw [hyk]; decide) (by rw [hyk]; rfl) (by decide) (lc_log hkr F S h1 h2 h3 h4 hl kk)
        · exact lv_tableIn (off := 575) (tgt := 627) hx hb dL_law_52 (by rw [hyk]; decide) (by rw [hyk]; decide) (by rw [hyk]; rfl) (by decide) (lc_inverse hkr F S h1 h2 h3 h4 hl kk)
        · exact lv_tableIn (off := 608) (tgt := 660) hx hb dL_law_52 (by rw [hyk]; decide) (by rw [hyk]; decide) (by rw [hyk]; rfl) (by decide) (lc_group hkr F S h1 h2 h3 h4 hl kk)
        · exact lv_tableIn (off := 651) (tgt := 703) hx hb dL_law_52 (by rw [hyk]; decide) (by rw [hyk]; decide) (by rw [hyk]; rfl) (by decide) (lc_derive hkr F S h1 h2 h3 h4 hl kk)
        · exact lv_tableIn (off := 704) (tgt := 756) hx hb dL_law_52 (by rw [hyk]; decide) (by rw [hyk]; decide) (by rw [hyk]; rfl) (by decide) (lc_replace hkr F S h1 h2 h3 h4 hl kk)
        · exact lv_tableIn (off := 757) (tgt := 809) hx hb dL_law_52 (by rw [hyk]; decide) (by rw [hyk]; decide) (by rw [hyk]; rfl) (by decide) (lc_part hkr F S h1 h2 h3 h4 hl kk)
        · exact lv_tableIn (off := 800) (tgt := 852) hx hb dL_law_52 (by rw [hyk]; decide) (by rw [hyk]; decide) (by rw [hyk]; rfl) (by decide) (lc_pair hkr F S h1 h2 h3 h4 hl kk)
        · exact lv_tableIn (off := 833) (tgt := 885) hx hb dL_law_52 (by rw [hyk]; decide) (by rw [hyk]; decide) (by rw [hyk]; rfl) (by decide) (lc_lyndon hkr F S h1 h2 h3 h4 hl kk)
        · exact lv_tableIn (off := 856) (tgt := 908) hx hb dL_law_52 (by rw [hyk]; decide) (by rw [hyk]; decide) (by rw [hyk]; rfl) (by decide) (lc_lyndons hkr F S h1 h2 h3 h4 hl kk)
        · exact lv_tableIn (off := 879) (tgt := 931) hx hb dL_law_52 (by rw [hyk]; decide) (by rw [hyk]; decide) (by rw [hyk]; rfl) (by decide) (lc_side hkr F S h1 h2 h3 h4 hl kk)
        · exact lv_tableIn (off := 912) (tgt := 964) hx hb dL_law_52 (by rw [hyk]; decide) (by rw [hyk]; decide) (by rw [hyk]; rfl) (by decide) (lc_basis hkr F S h1 h2 h3 h4 hl kk)
        · exact lv_tableIn (off := 945) (tgt := 997) hx hb dL_law_52 (by rw [hyk]; decide) (by rw [hyk]; decide) (by rw [hyk]; rfl) (by decide) (lc_text hkr F S h1 h2 h3 h4 hl kk)
        · exact lv_tableIn (off := 978) (tgt := 1030) hx hb dL_law_52 (by rw [hyk]; decide) (by rw [hyk]; decide) (by rw [hyk]; rfl) (by decide) (lc_share hkr F S h1 h2 h3 h4 hl kk)
        · exact lv_tableIn (off := 1011) (tgt := 1063) hx hb dL_law_52 (by rw [hyk]; decide) (by rw [hyk]; decide) (by rw [hyk]; rfl) (by decide) (lc_lie hkr F S h1 h2 h3 h4 hl kk)
        · exact lv_tableIn (off := 1034) (tgt := 1086) hx hb dL_law_52 (by rw [hyk]; decide) (by rw [hyk]; decide) (by rw [hyk]; rfl) (by decide) (lc_table hkr F S h1 h2 h3 h4 hl kk)
        · exact lv_tableIn (off := 1077) (tgt := 1129) hx hb dL_law_52 (by rw [hyk]; decide) (by rw [hyk]; decide) (by rw [hyk]; rfl) (by decide) (lc_step hkr F S h1 h2 h3 h4 hl kk)
        · exact lv_tableIn (off := 1120) (tgt := 1172) hx hb dL_law_52 (by rw [hyk]; decide) (by rw [hyk]; decide) (by rw [hyk]; rfl) (by decide) (lc_unstep hkr F S h1 h2 h3 h4 hl kk)
        · exact lv_tableIn (off := 1133) (tgt := 1185) hx hb dL_law_52 (by rw [hyk]; decide) (by rw [hyk]; decide) (by rw [hyk]; rfl) (by decide) (lc_scheme hkr F S h1 h2 h3 h4 hl kk)
        · exact lv_tableIn (off := 1156) (tgt := 1208) hx hb dL_law_52 (by rw [hyk]; decide) (by rw [hyk]; decide) (by rw [hyk]; rfl) (by decide) (lc_order hkr F S h1 h2 h3 h4 hl kk)
        · exact lv_tableIn (off := 1169) (tgt := 1221) hx hb dL_law_52 (by rw [hyk]; decide) (by rw [hyk]; decide) (by rw [hyk]; rfl) (by decide) (lc_relate hkr F S h1 h2 h3 h4 hl kk)
        · exact lv_tableIn (off := 1192) (tgt := 1244) hx hb dL_law_52 (by rw [hyk]; decide) (by rw [hyk]; decide) (by rw [hyk]; rfl) (by decide) (lc_size hkr F S h1 h2 h3 h4 hl kk)
        · exact lv_tableIn (off := 1215) (tgt := 1267) hx hb dL_law_52 (by rw [hyk]; decide) (by rw [hyk]; decide) (by rw [hyk]; rfl) (by decide) (lc_feed hkr F S h1 h2 h3 h4 hl kk)
        · exact lv_tableIn (off := 1278) (tgt := 1330) hx hb dL_law_52 (by rw [hyk]; decide) (by rw [hyk]; decide) (by rw [hyk]; rfl) (by decide) (lc_read hkr F S h1 h2 h3 h4 hl kk)
        · exact lv_tableIn (off := 1301) (tgt := 1353) hx hb dL_law_52 (by rw [hyk]; decide) (by rw [hyk]; decide) (by rw [hyk]; rfl) (by decide) (lc_count hkr F S h1 h2 h3 h4 hl kk)
end ZF
