/-! the class's constructors: Words -/
def powF (L n : Nat) : Nat → Int32 := fun k => if k < n then nI (L ^ k) else 0
def stF (L n : Nat) : Nat → Int32 := fun k => if k ≤ n then nI (ofs L k) else 0
theorem powF_0 {L : Nat} : powF L 0 = fun _ => 0 := by
  funext k; unfold powF; rw [if_neg (by omega)]
theorem stF_0 {L : Nat} : stF L 0 = fun _ => 0 := by
  funext k; unfold stF
  by_cases h : k ≤ 0
  · rw [if_pos h, show k = 0 by omega]; rfl
  · rw [if_neg h]
theorem powF_s {L n : Nat} : upd (powF L n) n (nI (L ^ n)) = powF L (n + 1) := by
  funext k; unfold upd powF
  by_cases h : k = n
  · rw [if_pos h, if_pos (by omega), h]
  · rw [if_neg h]
    by_cases h2 : k < n
    · rw [if_pos h2, if_pos (by omega)]
    · rw [if_neg h2, if_neg (by omega)]
theorem stF_s {L n : Nat} : upd (stF L n) (n + 1) (nI (ofs L n) + nI (L ^ n)) = stF L (n + 1) := by
  funext k; unfold upd stF
  by_cases h : k = n + 1
  · rw [if_pos h, if_pos (by omega), h, nI_add]; rfl
  · rw [if_neg h]
    by_cases h2 : k ≤ n
    · rw [if_pos h2, if_pos (by omega)]
    · rw [if_neg h2, if_neg (by omega)]
theorem powF_at {L n k : Nat} (h : k < n) : powF L n k = nI (L ^ k) := if_pos h
theorem stF_at {L n k : Nat} (h : k ≤ n) : stF L n k = nI (ofs L k) := if_pos h
/-- the words' part of the world -/
def ww (q1 p1 p2 : Nat) (cI : ClassId) (L d : Nat) : va_W := [(q1, .inr (5, [.int (nI L), .int (nI d), .ref p1, .ref p2])), (p1, .inl (cI, d + 1, .inl (powF L (d + 1)))), (p2, .inl (cI, d + 2, .inl (stF L (d + 1))))]
abbrev rm_X6_init : Room := { frames := 1, cells := 2, slots := 15, locals := 12 }
theorem in_X6_init_X6 : ∀ w ∈ wsX60, w ∈ wsX6_init := by decide +kernel
set_option maxHeartbeats 4000000 in
set_option maxRecDepth 100000 in
theorem kw_X6_init_37 {p : Program} {l : Launch} {e : Env} {s : State} {m : MethodId} {args : Array Value} {below : List Frame} {meth : Method} {c : Code} {D : va_G} {cI cJ cR : ClassId} {A : Nat → Prop} {L d q1 x6n1 x6n2 : Nat} (hc : cf_ok L d) (fx : xr_Fx p m c meth cX6_init 5 s args wsX6_init RX6 none) (hnm : meth.name = "<init>") (hK : xr_K D (cs_ty cI cJ cR) s) (hA : ∀ q, s.heap.size ≤ q → A q) : ∀ (k n : Nat) {H : Heap} {locs : List Loc} {ls : Array Slot}, n + k = d + 1 → va_P D vwCl [(q1, .inr (5, [.int (nI L), .int (nI d), .ref x6n1, .ref x6n2])), (x6n1, .inl (cI, d + 1, .inl (powF L n))), (x6n2, .inl (cI, d + 2, .inl (stF L n)))] H → va_D A [(q1, .inr (5, [.int (nI L), .int (nI d), .ref x6n1, .ref x6n2])), (x6n1, .inl (cI, d + 1, .inl (powF L n))), (x6n2, .inl (cI, d + 2, .inl (stF L n)))] → va_S A s.heap H locs → lv_has ls 5 [(0, .ref q1), (1, .int (nI L)), (2, .int (nI d)), (3, .int (nI (L ^ n))), (4, .int (nI n))] → W p l e rm_X6_init s m args below meth c H locs 2 15 (MQ below (va_Qv (fun _ : Nat × Nat => True) (xr_B D (cs_ty cI cJ cR) (fun u : Nat × Nat => ww q1 u.1 u.2 cI L d) A) A) args s 2 15 A) (F0 m 37 ls []) := by
  obtain ⟨⟨hx, hb, hml, hown, hts⟩, hrt, hlk⟩ := id fx
  have hd := cf_d hc
  intro k
  induction k with
  | zero =>
    intro n H locs ls hn hP hD hS hl
    refine lv_iload hx hb dX6_init_37 (lv_at hl 4 rfl) ?_
    refine lv_iload_n hx hb dX6_init_39 rfl (lv_at hl 2 rfl) ?_
    refine lv_icmp_gt (tgt := 79) hx hb dX6_init_40 (by decide) (fun c40 => ?_) (fun c40 => absurd (nI_lt (by omega) (by omega)) c40)
    obtain rfl : n = d + 1 := by omega
    exact xr_rV (wf := (fun u : Nat × Nat => ww q1 u.1 u.2 cI L d)) (S := (x6n1, x6n2)) fx hK hP hD hS trivial dX6_init_79
  | succ k ih =>
    intro n H locs ls hn hP hD hS hl
    refine lv_iload hx hb dX6_init_37 (lv_at hl 4 rfl) ?_
    refine lv_iload_n hx hb dX6_init_39 rfl (lv_at hl 2 rfl) ?_
    refine lv_icmp_gt (tgt := 79) hx hb dX6_init_40 (by decide) (fun c40 => absurd c40 (nI_nlt (by omega) (by omega))) (fun c40 => ?_)
    refine lv_aload_n hx hb dX6_init_43 rfl (lv_at hl 0 rfl) ?_
    refine va_get (D := D) (ci := 5) (v := .ref x6n1) (C := RX6) (T := TX6) (N := 4) hx hb hts in_X6_init_X6 hown hK.1 hP 0 rfl rfl 2 (by decide) (hts (.fieldLink RX6 18 "BracketLetters$Words" "power" "[I") (by decide +kernel)) (fun x h => h) rfl dX6_init_44 ?_
    refine lv_iload hx hb dX6_init_47 (lv_at hl 4 rfl) ?_
    refine lv_iload_n hx hb dX6_init_49 rfl (lv_at hl 3 rfl) ?_
    refine va_iast hx hb hK.1 hP hD hS 1 0 rfl rfl (vp_in_nI (by omega) (by omega)) dX6_init_50 (fun H locs hP hD hS => ?_)
    have hP : va_P D vwCl [(q1, .inr (5, [.int (nI L), .int (nI d), .ref x6n1, .ref x6n2])), (x6n1, .inl (cI, d + 1, .inl (upd (powF L n) (nI n).toNatClampNeg (nI (L ^ n))))), (x6n2, .inl (cI, d + 2, .inl (stF L n)))] H := hP
    have hD : va_D A [(q1, .inr (5, [.int (nI L), .int (nI d), .ref x6n1, .ref x6n2])), (x6n1, .inl (cI, d + 1, .inl (upd (powF L n) (nI n).toNatClampNeg (nI (L ^ n))))), (x6n2, .inl (cI, d + 2, .inl (stF L n)))] := hD
    rw [show upd (powF L n) (nI n).toNatClampNeg (nI (L ^ n)) = powF L (n + 1) from by rw [nI_clamp (by omega), powF_s]] at hP hD
    refine lv_aload_n hx hb dX6_init_51 rfl (lv_at hl 0 rfl) ?_
    refine va_get (D := D) (ci := 5) (v := .ref x6n2) (C := RX6) (T := TX6) (N := 4) hx hb hts in_X6_init_X6 hown hK.1 hP 0 rfl rfl 3 (by decide) (hts (.fieldLink RX6 22 "BracketLetters$Words" "start" "[I") (by decide +kernel)) (fun x h => h) rfl dX6_init_52 ?_
    refine lv_iload hx hb dX6_init_55 (lv_at hl 4 rfl) ?_
    refine lv_iconst (v := 1) hx hb dX6_init_57 (by decide) ?_
    refine lv_iadd hx hb dX6_init_58 ?_
    refine lv_aload_n hx hb dX6_init_59 rfl (lv_at hl 0 rfl) ?_
    refine va_get (D := D) (ci := 5) (v := .ref x6n2) (C := RX6) (T := TX6) (N := 4) hx hb hts in_X6_init_X6 hown hK.1 hP 0 rfl rfl 3 (by decide) (hts (.fieldLink RX6 22 "BracketLetters$Words" "start" "[I") (by decide +kernel)) (fun x h => h) rfl dX6_init_60 ?_
    refine lv_iload hx hb dX6_init_63 (lv_at hl 4 rfl) ?_
    refine va_iald hx hb hK.1 hP 2 0 rfl rfl (vp_in_nI (by omega) (by omega)) dX6_init_65 ?_
    rw [show (stF L n) (nI n).toNatClampNeg = nI (ofs L n) from by rw [nI_clamp (by omega), stF_at (Nat.le_refl _)]]
    refine lv_iload_n hx hb dX6_init_66 rfl (lv_at hl 3 rfl) ?_
    refine lv_iadd hx hb dX6_init_67 ?_
    refine va_iast hx hb hK.1 hP hD hS 2 0 rfl rfl (by rw [nI_1]; exact vp_in_nI (by omega) (by omega)) dX6_init_68 (fun H locs hP hD hS => ?_)
    have hP : va_P D vwCl [(q1, .inr (5, [.int (nI L), .int (nI d), .ref x6n1, .ref x6n2])), (x6n1, .inl (cI, d + 1, .inl (powF L (n + 1)))), (x6n2, .inl (cI, d + 2, .inl (upd (stF L n) ((nI n) + 1).toNatClampNeg ((nI (ofs L n)) + (nI (L ^ n))))))] H := hP
    have hD : va_D A [(q1, .inr (5, [.int (nI L), .int (nI d), .ref x6n1, .ref x6n2])), (x6n1, .inl (cI, d + 1, .inl (powF L (n + 1)))), (x6n2, .inl (cI, d + 2, .inl (upd (stF L n) ((nI n) + 1).toNatClampNeg ((nI (ofs L n)) + (nI (L ^ n))))))] := hD
    rw [show upd (stF L n) ((nI n) + 1).toNatClampNeg ((nI (ofs L n)) + (nI (L ^ n))) = stF L (n + 1) from by rw [nI_1, nI_clamp (by omega), stF_s]] at hP hD
    refine lv_iload_n hx hb dX6_init_69 rfl (lv_at hl 3 rfl) ?_
    refine lv_iload_n hx hb dX6_init_70 rfl (lv_at hl 1 rfl) ?_
    refine lv_imul hx hb dX6_init_71 ?_
    rw [show (nI (L ^ n)) * (nI L) = nI (L ^ (n + 1)) from by rw [pk_mul, Nat.pow_succ]]
    refine lv_istore_n (lv' := [(3, .int (nI (L ^ (n + 1)))), (0, .ref q1), (1, .int (nI L)), (2, .int (nI d)), (4, .int (nI n))]) hx hb dX6_init_72 rfl hl (by decide) rfl (fun ls hl => ?_)
    refine lv_iinc (v := nI (n + 1)) (lv' := [(4, .int (nI (n + 1))), (3, .int (nI (L ^ (n + 1)))), (0, .ref q1), (1, .int (nI L)), (2, .int (nI d))]) hx hb dX6_init_73 hl (k := 4) rfl (nI_1 n) (by decide) rfl (fun ls hl => ?_)
    refine lv_goto (tgt := 37) hx hb dX6_init_76 (by decide) ?_
    exact ih (n + 1) (by omega) hP hD hS (lv_sub hl [2, 3, 4, 1, 0] rfl)
set_option maxHeartbeats 4000000 in
set_option maxRecDepth 100000 in
theorem ct_X6_init (l : Launch) (D : va_G) (cI cJ cR : ClassId) (q1 : Nat) {L d : Nat} (hc : cf_ok L d) : ∀ sz, Met l yX6_init wsX6_init rm_X6_init (xr_P D (cs_ty cI cJ cR) (fun _ : Unit => [(q1, .inr (5, [.int 0, .int 0, .null, .null]))]) () sz [.ref q1, .int (nI L), .int (nI d)]) (va_Qv (fun _ : Nat × Nat => True) (xr_B D (cs_ty cI cJ cR) (fun u : Nat × Nat => ww q1 u.1 u.2 cI L d) (va_A [(q1, .inr (5, [.int 0, .int 0, .null, .null]))] sz)) (va_A [(q1, .inr (5, [.int 0, .int 0, .null, .null]))] sz)) 2 15 (va_A [(q1, .inr (5, [.int 0, .int 0, .null, .null]))] sz) := by
  have hd := cf_d hc
  refine xr_eC (cc := cX6_init) (nL := 5) (own := RX6) (by decide) rfl rfl rfl (Nat.le_of_ble_eq_true rfl) ?_
  intro p e s m args below meth c ls A fx hnm hK hA hP hD hS hl
  obtain ⟨⟨hx, hb, hml, hown, hts⟩, hrt, hlk⟩ := id fx
  have hl : lv_has ls 5 [(0, .ref q1), (1, .int (nI L)), (2, .int (nI d))] := hl
  show W p l e rm_X6_init s m args below meth c s.heap [] 0 0 _ _
  refine lv_aload_n hx hb dX6_init_0 rfl (lv_at hl 0 rfl) ?_
  refine W.objInit hx hb hown (hts (.methodLink RX6 3 objectInit) (by decide +kernel)) (hts (.instanceMethod objectInit) (by decide +kernel)) (hts (.code objectInit ⟨#[0xb1]⟩ 1 none) (by first | exact List.mem_cons_of_mem _ (List.mem_append_left _ (List.mem_of_getElem? (i := 2) rfl)) | exact List.mem_cons_of_mem _ (List.mem_append_left _ (List.mem_append_left _ (List.mem_of_getElem? (i := 2) rfl))) | exact List.mem_cons_of_mem _ (List.mem_append_left _ (List.mem_append_left _ (List.mem_append_left _ (List.mem_of_getElem? (i := 2) rfl)))))) rfl (by rw [hml]; exact hl.1) rfl dX6_init_1 (Nat.le_of_ble_eq_true rfl) (Nat.le_of_ble_eq_true rfl) ?_
  refine W.eq (g2 := F0 m 4 ls []) rfl ?_
  refine lv_aload_n hx hb dX6_init_4 rfl (lv_at hl 0 rfl) ?_
  refine lv_iload_n hx hb dX6_init_5 rfl (lv_at hl 1 rfl) ?_
  refine va_putF (D := D) (ci := 5) (v := .int (nI L)) (ty := .int) (C := RX6) (T := TX6) (N := 4) hx hb hts in_X6_init_X6 tyX6 tyX6_ok nmX6 hown hK.1 hP hD hS 0 rfl rfl 0 (by decide) (hts (.fieldLink RX6 9 "BracketLetters$Words" "letters" "I") (by decide +kernel)) (fun x h => h) rfl hnm rfl (by decide +kernel) rfl rfl (Nat.le_of_ble_eq_true rfl) dX6_init_6 (fun H locs hP hD hS => ?_)
  have hP : va_P D vwCl [(q1, .inr (5, [.int (nI L), .int 0, .null, .null]))] H := hP
  have hD : va_D A [(q1, .inr (5, [.int (nI L), .int 0, .null, .null]))] := hD
  refine lv_aload_n hx hb dX6_init_9 rfl (lv_at hl 0 rfl) ?_
  refine lv_iload_n hx hb dX6_init_10 rfl (lv_at hl 2 rfl) ?_
  refine va_putF (D := D) (ci := 5) (v := .int (nI d)) (ty := .int) (C := RX6) (T := TX6) (N := 4) hx hb hts in_X6_init_X6 tyX6 tyX6_ok nmX6 hown hK.1 hP hD hS 0 rfl rfl 1 (by decide) (hts (.fieldLink RX6 15 "BracketLetters$Words" "degree" "I") (by decide +kernel)) (fun x h => h) rfl hnm rfl (by decide +kernel) rfl rfl (Nat.le_of_ble_eq_true rfl) dX6_init_11 (fun H locs hP hD hS => ?_)
  have hP : va_P D vwCl [(q1, .inr (5, [.int (nI L), .int (nI d), .null, .null]))] H := hP
  have hD : va_D A [(q1, .inr (5, [.int (nI L), .int (nI d), .null, .null]))] := hD
  refine lv_aload_n hx hb dX6_init_14 rfl (lv_at hl 0 rfl) ?_
  refine lv_iload_n hx hb dX6_init_15 rfl (lv_at hl 2 rfl) ?_
  refine lv_iconst (v := 1) hx hb dX6_init_16 (by decide) ?_
  refine lv_iadd hx hb dX6_init_17 ?_
  refine va_newa (atype := .int) (ty := .int) (N' := d + 1) (a0 := (d + 1, .inl (fun _ => 0))) hx hb (hts (.arrayClass .int) (by decide +kernel)) rfl hK.1 hP hD hS hA (fun cA => rfl) (by rw [nI_1]; exact nI_pos (by omega)) (by rw [nI_1]; exact nI_clamp (by omega)) (by show (d + 1) * 4 ≤ 536870912; omega) (by show 0 + 1 ≤ 2; omega) (by show 0 + (d + 1) ≤ 15; omega) dX6_init_18 (fun x6n1 cA H hK2 hP hD hS => ?_)
  have hcA : cA = cI := Option.some.inj ((hK2.2 3 (cA, .int) rfl).2.symm.trans (hK.1.2 0 (cI, .int) rfl).2)
  rw [hcA] at hP hD
  clear hK2 hcA
  have hP : va_P D vwCl [(q1, .inr (5, [.int (nI L), .int (nI d), .null, .null])), (x6n1, .inl (cI, d + 1, .inl (fun _ => 0)))] H := hP
  have hD : va_D A [(q1, .inr (5, [.int (nI L), .int (nI d), .null, .null])), (x6n1, .inl (cI, d + 1, .inl (fun _ => 0)))] := hD
  refine va_putF (D := D) (ci := 5) (v := .ref x6n1) (ty := .array .int) (C := RX6) (T := TX6) (N := 4) hx hb hts in_X6_init_X6 tyX6 tyX6_ok nmX6 hown hK.1 hP hD hS 0 rfl rfl 2 (by decide) (hts (.fieldLink RX6 18 "BracketLetters$Words" "power" "[I") (by decide +kernel)) (fun x h => h) rfl hnm rfl (by decide +kernel) rfl rfl (Nat.le_of_ble_eq_true rfl) dX6_init_20 (fun H locs hP hD hS => ?_)
  have hP : va_P D vwCl [(q1, .inr (5, [.int (nI L), .int (nI d), .ref x6n1, .null])), (x6n1, .inl (cI, d + 1, .inl (fun _ => 0)))] H := hP
  have hD : va_D A [(q1, .inr (5, [.int (nI L), .int (nI d), .ref x6n1, .null])), (x6n1, .inl (cI, d + 1, .inl (fun _ => 0)))] := hD
  refine lv_aload_n hx hb dX6_init_23 rfl (lv_at hl 0 rfl) ?_
  refine lv_iload_n hx hb dX6_init_24 rfl (lv_at hl 2 rfl) ?_
  refine lv_iconst (v := 2) hx hb dX6_init_25 (by decide) ?_
  refine lv_iadd hx hb dX6_init_26 ?_
  refine va_newa (atype := .int) (ty := .int) (N' := d + 2) (a0 := (d + 2, .inl (fun _ => 0))) hx hb (hts (.arrayClass .int) (by decide +kernel)) rfl hK.1 hP hD hS hA (fun cA => rfl) (by rw [show (2 : Int32) = nI 2 from rfl, nI_add]; exact nI_pos (by omega)) (by rw [show (2 : Int32) = nI 2 from rfl, nI_add]; exact nI_clamp (by omega)) (by show (d + 2) * 4 ≤ 536870912; omega) (by show 0 + 1 + 1 ≤ 2; omega) (by show 0 + (d + 1) + (d + 2) ≤ 15; omega) dX6_init_27 (fun x6n2 cA H hK2 hP hD hS => ?_)
  have hcA : cA = cI := Option.some.inj ((hK2.2 3 (cA, .int) rfl).2.symm.trans (hK.1.2 0 (cI, .int) rfl).2)
  rw [hcA] at hP hD
  clear hK2 hcA
  have hP : va_P D vwCl [(q1, .inr (5, [.int (nI L), .int (nI d), .ref x6n1, .null])), (x6n1, .inl (cI, d + 1, .inl (fun _ => 0))), (x6n2, .inl (cI, d + 2, .inl (fun _ => 0)))] H := hP
  have hD : va_D A [(q1, .inr (5, [.int (nI L), .int (nI d), .ref x6n1, .null])), (x6n1, .inl (cI, d + 1, .inl (fun _ => 0))), (x6n2, .inl (cI, d + 2, .inl (fun _ => 0)))] := hD
  refine va_putF (D := D) (ci := 5) (v := .ref x6n2) (ty := .array .int) (C := RX6) (T := TX6) (N := 4) hx hb hts in_X6_init_X6 tyX6 tyX6_ok nmX6 hown hK.1 hP hD hS 0 rfl rfl 3 (by decide) (hts (.fieldLink RX6 22 "BracketLetters$Words" "start" "[I") (by decide +kernel)) (fun x h => h) rfl hnm rfl (by decide +kernel) rfl rfl (Nat.le_of_ble_eq_true rfl) dX6_init_29 (fun H locs hP hD hS => ?_)
  have hP : va_P D vwCl [(q1, .inr (5, [.int (nI L), .int (nI d), .ref x6n1, .ref x6n2])), (x6n1, .inl (cI, d + 1, .inl (fun _ => 0))), (x6n2, .inl (cI, d + 2, .inl (fun _ => 0)))] H := hP
  have hD : va_D A [(q1, .inr (5, [.int (nI L), .int (nI d), .ref x6n1, .ref x6n2])), (x6n1, .inl (cI, d + 1, .inl (fun _ => 0))), (x6n2, .inl (cI, d + 2, .inl (fun _ => 0)))] := hD
  refine lv_iconst (v := 1) hx hb dX6_init_32 (by decide) ?_
  refine lv_istore_n (lv' := [(3, .int 1), (0, .ref q1), (1, .int (nI L)), (2, .int (nI d))]) hx hb dX6_init_33 rfl hl (by decide) rfl (fun ls hl => ?_)
  refine lv_iconst (v := 0) hx hb dX6_init_34 (by decide) ?_
  refine lv_istore (lv' := [(4, .int 0), (3, .int 1), (0, .ref q1), (1, .int (nI L)), (2, .int (nI d))]) hx hb dX6_init_35 hl (by decide) rfl (fun ls hl => ?_)
  refine W.widen (k := 2) (n := 15) (by omega) (by omega) ?_
  have hP : va_P D vwCl [(q1, .inr (5, [.int (nI L), .int (nI d), .ref x6n1, .ref x6n2])), (x6n1, .inl (cI, d + 1, .inl (powF L 0))), (x6n2, .inl (cI, d + 2, .inl (stF L 0)))] H := by rw [powF_0, stF_0]; exact hP
  have hD : va_D A [(q1, .inr (5, [.int (nI L), .int (nI d), .ref x6n1, .ref x6n2])), (x6n1, .inl (cI, d + 1, .inl (powF L 0))), (x6n2, .inl (cI, d + 2, .inl (stF L 0)))] := by rw [powF_0, stF_0]; exact hD
  exact kw_X6_init_37 hc fx hnm hK hA (d + 1) 0 (by omega) hP hD hS (lv_sub hl [2, 3, 4, 1, 0] rfl)
