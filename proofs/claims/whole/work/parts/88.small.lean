/-! the class's constructors: Scheme, Reader -/
def wsch (q4 q1 q2 m1 m2 : Nat) (cI : ClassId) : va_W := [(q4, .inr (4, [.int 0, .ref q1, .ref q2, .ref m1, .ref m2])), (m1, .inl (cI, 12, .inl (fun _ => 0))), (m2, .inl (cI, 12, .inl (fun _ => 0)))]
abbrev rm_X5_init : Room := { frames := 1, cells := 2, slots := 24, locals := 12 }
theorem in_X5_init_X5 : ∀ w ∈ wsX50, w ∈ wsX5_init := by decide +kernel
set_option maxHeartbeats 4000000 in
set_option maxRecDepth 100000 in
theorem ct_X5_init (l : Launch) (D : va_G) (cI cJ cR : ClassId) (q4 q1 q2 : Nat) : ∀ sz, Met l yX5_init wsX5_init rm_X5_init (xr_P D (cs_ty cI cJ cR) (fun _ : Unit => [(q4, .inr (4, [.int 0, .null, .null, .null, .null]))]) () sz [.ref q4, .ref q1, .ref q2]) (va_Qv (fun _ : Nat × Nat => True) (xr_B D (cs_ty cI cJ cR) (fun u : Nat × Nat => wsch q4 q1 q2 u.1 u.2 cI) (va_A [(q4, .inr (4, [.int 0, .null, .null, .null, .null]))] sz)) (va_A [(q4, .inr (4, [.int 0, .null, .null, .null, .null]))] sz)) 2 24 (va_A [(q4, .inr (4, [.int 0, .null, .null, .null, .null]))] sz) := by
  refine xr_eC (cc := cX5_init) (nL := 3) (own := RX5) (by decide) rfl rfl rfl (Nat.le_of_ble_eq_true rfl) ?_
  intro p e s m args below meth c ls A fx hnm hK hA hP hD hS hl
  obtain ⟨⟨hx, hb, hml, hown, hts⟩, hrt, hlk⟩ := id fx
  have hl : lv_has ls 3 [(0, .ref q4), (1, .ref q1), (2, .ref q2)] := hl
  show W p l e rm_X5_init s m args below meth c s.heap [] 0 0 _ _
  refine lv_aload_n hx hb dX5_init_0 rfl (lv_at hl 0 rfl) ?_
  refine W.objInit hx hb hown (hts (.methodLink RX5 3 objectInit) (by decide +kernel)) (hts (.instanceMethod objectInit) (by decide +kernel)) (hts (.code objectInit ⟨#[0xb1]⟩ 1 none) (by first | exact List.mem_cons_of_mem _ (List.mem_append_left _ (List.mem_of_getElem? (i := 2) rfl)) | exact List.mem_cons_of_mem _ (List.mem_append_left _ (List.mem_append_left _ (List.mem_of_getElem? (i := 2) rfl))) | exact List.mem_cons_of_mem _ (List.mem_append_left _ (List.mem_append_left _ (List.mem_append_left _ (List.mem_of_getElem? (i := 2) rfl)))))) rfl (by rw [hml]; exact hl.1) rfl dX5_init_1 (Nat.le_of_ble_eq_true rfl) (Nat.le_of_ble_eq_true rfl) ?_
  refine W.eq (g2 := F0 m 4 ls []) rfl ?_
  refine lv_aload_n hx hb dX5_init_4 rfl (lv_at hl 0 rfl) ?_
  refine lv_aload_n hx hb dX5_init_5 rfl (lv_at hl 1 rfl) ?_
  refine va_putF (D := D) (ci := 4) (v := .ref q1) (ty := .object "BracketLetters$Words") (C := RX5) (T := TX5) (N := 5) hx hb hts in_X5_init_X5 tyX5 tyX5_ok nmX5 hown hK.1 hP hD hS 0 rfl rfl 1 (by decide) (hts (.fieldLink RX5 9 "BracketLetters$Scheme" "words" "LBracketLetters$Words;") (by decide +kernel)) (fun x h => h) rfl hnm rfl (by decide +kernel) rfl rfl (Nat.le_of_ble_eq_true rfl) dX5_init_6 (fun H locs hP hD hS => ?_)
  have hP : va_P D vwCl [(q4, .inr (4, [.int 0, .ref q1, .null, .null, .null]))] H := hP
  have hD : va_D A [(q4, .inr (4, [.int 0, .ref q1, .null, .null, .null]))] := hD
  refine lv_aload_n hx hb dX5_init_9 rfl (lv_at hl 0 rfl) ?_
  refine lv_aload_n hx hb dX5_init_10 rfl (lv_at hl 2 rfl) ?_
  refine va_putF (D := D) (ci := 4) (v := .ref q2) (ty := .object "BracketLetters$Algebra") (C := RX5) (T := TX5) (N := 5) hx hb hts in_X5_init_X5 tyX5 tyX5_ok nmX5 hown hK.1 hP hD hS 0 rfl rfl 2 (by decide) (hts (.fieldLink RX5 15 "BracketLetters$Scheme" "algebra" "LBracketLetters$Algebra;") (by decide +kernel)) (fun x h => h) rfl hnm rfl (by decide +kernel) rfl rfl (Nat.le_of_ble_eq_true rfl) dX5_init_11 (fun H locs hP hD hS => ?_)
  have hP : va_P D vwCl [(q4, .inr (4, [.int 0, .ref q1, .ref q2, .null, .null]))] H := hP
  have hD : va_D A [(q4, .inr (4, [.int 0, .ref q1, .ref q2, .null, .null]))] := hD
  refine lv_aload_n hx hb dX5_init_14 rfl (lv_at hl 0 rfl) ?_
  refine lv_bipush (v := 12) hx hb dX5_init_15 (by decide) ?_
  refine va_newa (atype := .int) (ty := .int) (N' := 12) (a0 := (12, .inl (fun _ => 0))) hx hb (hts (.arrayClass .int) (by decide +kernel)) rfl hK.1 hP hD hS hA (fun cA => rfl) (by decide) (by decide) (by decide) (Nat.le_of_ble_eq_true rfl) (Nat.le_of_ble_eq_true rfl) dX5_init_17 (fun m1 cA H hK2 hP hD hS => ?_)
  have hcA : cA = cI := Option.some.inj ((hK2.2 3 (cA, .int) rfl).2.symm.trans (hK.1.2 0 (cI, .int) rfl).2)
  rw [hcA] at hP hD
  clear hK2 hcA
  have hP : va_P D vwCl [(q4, .inr (4, [.int 0, .ref q1, .ref q2, .null, .null])), (m1, .inl (cI, 12, .inl (fun _ => 0)))] H := hP
  have hD : va_D A [(q4, .inr (4, [.int 0, .ref q1, .ref q2, .null, .null])), (m1, .inl (cI, 12, .inl (fun _ => 0)))] := hD
  refine va_putF (D := D) (ci := 4) (v := .ref m1) (ty := .array .int) (C := RX5) (T := TX5) (N := 5) hx hb hts in_X5_init_X5 tyX5 tyX5_ok nmX5 hown hK.1 hP hD hS 0 rfl rfl 3 (by decide) (hts (.fieldLink RX5 19 "BracketLetters$Scheme" "letter" "[I") (by decide +kernel)) (fun x h => h) rfl hnm rfl (by decide +kernel) rfl rfl (Nat.le_of_ble_eq_true rfl) dX5_init_19 (fun H locs hP hD hS => ?_)
  have hP : va_P D vwCl [(q4, .inr (4, [.int 0, .ref q1, .ref q2, .ref m1, .null])), (m1, .inl (cI, 12, .inl (fun _ => 0)))] H := hP
  have hD : va_D A [(q4, .inr (4, [.int 0, .ref q1, .ref q2, .ref m1, .null])), (m1, .inl (cI, 12, .inl (fun _ => 0)))] := hD
  refine lv_aload_n hx hb dX5_init_22 rfl (lv_at hl 0 rfl) ?_
  refine lv_bipush (v := 12) hx hb dX5_init_23 (by decide) ?_
  refine va_newa (atype := .int) (ty := .int) (N' := 12) (a0 := (12, .inl (fun _ => 0))) hx hb (hts (.arrayClass .int) (by decide +kernel)) rfl hK.1 hP hD hS hA (fun cA => rfl) (by decide) (by decide) (by decide) (Nat.le_of_ble_eq_true rfl) (Nat.le_of_ble_eq_true rfl) dX5_init_25 (fun m2 cA H hK2 hP hD hS => ?_)
  have hcA : cA = cI := Option.some.inj ((hK2.2 3 (cA, .int) rfl).2.symm.trans (hK.1.2 0 (cI, .int) rfl).2)
  rw [hcA] at hP hD
  clear hK2 hcA
  have hP : va_P D vwCl [(q4, .inr (4, [.int 0, .ref q1, .ref q2, .ref m1, .null])), (m1, .inl (cI, 12, .inl (fun _ => 0))), (m2, .inl (cI, 12, .inl (fun _ => 0)))] H := hP
  have hD : va_D A [(q4, .inr (4, [.int 0, .ref q1, .ref q2, .ref m1, .null])), (m1, .inl (cI, 12, .inl (fun _ => 0))), (m2, .inl (cI, 12, .inl (fun _ => 0)))] := hD
  refine va_putF (D := D) (ci := 4) (v := .ref m2) (ty := .array .int) (C := RX5) (T := TX5) (N := 5) hx hb hts in_X5_init_X5 tyX5 tyX5_ok nmX5 hown hK.1 hP hD hS 0 rfl rfl 4 (by decide) (hts (.fieldLink RX5 23 "BracketLetters$Scheme" "number" "[I") (by decide +kernel)) (fun x h => h) rfl hnm rfl (by decide +kernel) rfl rfl (Nat.le_of_ble_eq_true rfl) dX5_init_27 (fun H locs hP hD hS => ?_)
  have hP : va_P D vwCl [(q4, .inr (4, [.int 0, .ref q1, .ref q2, .ref m1, .ref m2])), (m1, .inl (cI, 12, .inl (fun _ => 0))), (m2, .inl (cI, 12, .inl (fun _ => 0)))] H := hP
  have hD : va_D A [(q4, .inr (4, [.int 0, .ref q1, .ref q2, .ref m1, .ref m2])), (m1, .inl (cI, 12, .inl (fun _ => 0))), (m2, .inl (cI, 12, .inl (fun _ => 0)))] := hD
  exact xr_rV (wf := (fun u : Nat × Nat => wsch q4 q1 q2 u.1 u.2 cI)) (S := (m1, m2)) fx hK hP hD hS trivial dX5_init_30
def wrd (lI dI : Int32) (q6 q1 q2 q7 g p1 p2 n1 n2 n3 n4 n5 t1 : Nat) (cI : ClassId) : va_W := [(q6, .inr (3, [.int 0, .ref q1, .ref q2, .ref q7, .ref g, .ref t1, .int 0, .int 0, .int 0])), (q2, .inr (0, [.ref g, .ref q1, .int dI, .int lI, .ref p1, .ref p2, .ref n1, .ref n2, .ref n3, .ref n4, .ref n5])), (t1, .inl (cI, 100, .inl (fun _ => 0)))]
abbrev rm_X4_init : Room := { frames := 1, cells := 1, slots := 100, locals := 12 }
theorem in_X4_init_X0 : ∀ w ∈ wsX00, w ∈ wsX4_init := by decide +kernel
theorem in_X4_init_X4 : ∀ w ∈ wsX40, w ∈ wsX4_init := by decide +kernel
set_option maxHeartbeats 4000000 in
set_option maxRecDepth 100000 in
theorem ct_X4_init (l : Launch) (D : va_G) (cI cJ cR : ClassId) (lI dI : Int32) (q6 q1 q2 q7 g p1 p2 n1 n2 n3 n4 n5 : Nat) : ∀ sz, Met l yX4_init wsX4_init rm_X4_init (xr_P D (cs_ty cI cJ cR) (fun _ : Unit => [(q6, .inr (3, [.int 0, .null, .null, .null, .null, .null, .int 0, .int 0, .int 0])), (q2, .inr (0, [.ref g, .ref q1, .int dI, .int lI, .ref p1, .ref p2, .ref n1, .ref n2, .ref n3, .ref n4, .ref n5]))]) () sz [.ref q6, .ref q1, .ref q2, .ref q7]) (va_Qv (fun _ : Nat => True) (xr_B D (cs_ty cI cJ cR) (fun u : Nat => wrd lI dI q6 q1 q2 q7 g p1 p2 n1 n2 n3 n4 n5 u cI) (va_A [(q6, .inr (3, [.int 0, .null, .null, .null, .null, .null, .int 0, .int 0, .int 0])), (q2, .inr (0, [.ref g, .ref q1, .int dI, .int lI, .ref p1, .ref p2, .ref n1, .ref n2, .ref n3, .ref n4, .ref n5]))] sz)) (va_A [(q6, .inr (3, [.int 0, .null, .null, .null, .null, .null, .int 0, .int 0, .int 0])), (q2, .inr (0, [.ref g, .ref q1, .int dI, .int lI, .ref p1, .ref p2, .ref n1, .ref n2, .ref n3, .ref n4, .ref n5]))] sz)) 1 100 (va_A [(q6, .inr (3, [.int 0, .null, .null, .null, .null, .null, .int 0, .int 0, .int 0])), (q2, .inr (0, [.ref g, .ref q1, .int dI, .int lI, .ref p1, .ref p2, .ref n1, .ref n2, .ref n3, .ref n4, .ref n5]))] sz) := by
  refine xr_eC (cc := cX4_init) (nL := 4) (own := RX4) (by decide) rfl rfl rfl (Nat.le_of_ble_eq_true rfl) ?_
  intro p e s m args below meth c ls A fx hnm hK hA hP hD hS hl
  obtain ⟨⟨hx, hb, hml, hown, hts⟩, hrt, hlk⟩ := id fx
  have hl : lv_has ls 4 [(0, .ref q6), (1, .ref q1), (2, .ref q2), (3, .ref q7)] := hl
  show W p l e rm_X4_init s m args below meth c s.heap [] 0 0 _ _
  refine lv_aload_n hx hb dX4_init_0 rfl (lv_at hl 0 rfl) ?_
  refine W.objInit hx hb hown (hts (.methodLink RX4 3 objectInit) (by decide +kernel)) (hts (.instanceMethod objectInit) (by decide +kernel)) (hts (.code objectInit ⟨#[0xb1]⟩ 1 none) (by first | exact List.mem_cons_of_mem _ (List.mem_append_left _ (List.mem_of_getElem? (i := 2) rfl)) | exact List.mem_cons_of_mem _ (List.mem_append_left _ (List.mem_append_left _ (List.mem_of_getElem? (i := 2) rfl))) | exact List.mem_cons_of_mem _ (List.mem_append_left _ (List.mem_append_left _ (List.mem_append_left _ (List.mem_of_getElem? (i := 2) rfl)))))) rfl (by rw [hml]; exact hl.1) rfl dX4_init_1 (Nat.le_of_ble_eq_true rfl) (Nat.le_of_ble_eq_true rfl) ?_
  refine W.eq (g2 := F0 m 4 ls []) rfl ?_
  refine lv_aload_n hx hb dX4_init_4 rfl (lv_at hl 0 rfl) ?_
  refine lv_aload_n hx hb dX4_init_5 rfl (lv_at hl 1 rfl) ?_
  refine va_putF (D := D) (ci := 3) (v := .ref q1) (ty := .object "BracketLetters$Words") (C := RX4) (T := TX4) (N := 9) hx hb hts in_X4_init_X4 tyX4 tyX4_ok nmX4 hown hK.1 hP hD hS 0 rfl rfl 1 (by decide) (hts (.fieldLink RX4 9 "BracketLetters$Reader" "words" "LBracketLetters$Words;") (by decide +kernel)) (fun x h => h) rfl hnm rfl (by decide +kernel) rfl rfl (Nat.le_of_ble_eq_true rfl) dX4_init_6 (fun H locs hP hD hS => ?_)
  have hP : va_P D vwCl [(q6, .inr (3, [.int 0, .ref q1, .null, .null, .null, .null, .int 0, .int 0, .int 0])), (q2, .inr (0, [.ref g, .ref q1, .int dI, .int lI, .ref p1, .ref p2, .ref n1, .ref n2, .ref n3, .ref n4, .ref n5]))] H := hP
  have hD : va_D A [(q6, .inr (3, [.int 0, .ref q1, .null, .null, .null, .null, .int 0, .int 0, .int 0])), (q2, .inr (0, [.ref g, .ref q1, .int dI, .int lI, .ref p1, .ref p2, .ref n1, .ref n2, .ref n3, .ref n4, .ref n5]))] := hD
  refine lv_aload_n hx hb dX4_init_9 rfl (lv_at hl 0 rfl) ?_
  refine lv_aload_n hx hb dX4_init_10 rfl (lv_at hl 2 rfl) ?_
  refine va_putF (D := D) (ci := 3) (v := .ref q2) (ty := .object "BracketLetters$Algebra") (C := RX4) (T := TX4) (N := 9) hx hb hts in_X4_init_X4 tyX4 tyX4_ok nmX4 hown hK.1 hP hD hS 0 rfl rfl 2 (by decide) (hts (.fieldLink RX4 15 "BracketLetters$Reader" "algebra" "LBracketLetters$Algebra;") (by decide +kernel)) (fun x h => h) rfl hnm rfl (by decide +kernel) rfl rfl (Nat.le_of_ble_eq_true rfl) dX4_init_11 (fun H locs hP hD hS => ?_)
  have hP : va_P D vwCl [(q6, .inr (3, [.int 0, .ref q1, .ref q2, .null, .null, .null, .int 0, .int 0, .int 0])), (q2, .inr (0, [.ref g, .ref q1, .int dI, .int lI, .ref p1, .ref p2, .ref n1, .ref n2, .ref n3, .ref n4, .ref n5]))] H := hP
  have hD : va_D A [(q6, .inr (3, [.int 0, .ref q1, .ref q2, .null, .null, .null, .int 0, .int 0, .int 0])), (q2, .inr (0, [.ref g, .ref q1, .int dI, .int lI, .ref p1, .ref p2, .ref n1, .ref n2, .ref n3, .ref n4, .ref n5]))] := hD
  refine lv_aload_n hx hb dX4_init_14 rfl (lv_at hl 0 rfl) ?_
  refine lv_aload_n hx hb dX4_init_15 rfl (lv_at hl 3 rfl) ?_
  refine va_putF (D := D) (ci := 3) (v := .ref q7) (ty := .array (.array .int)) (C := RX4) (T := TX4) (N := 9) hx hb hts in_X4_init_X4 tyX4 tyX4_ok nmX4 hown hK.1 hP hD hS 0 rfl rfl 3 (by decide) (hts (.fieldLink RX4 19 "BracketLetters$Reader" "sums" "[[I") (by decide +kernel)) (fun x h => h) rfl hnm rfl (by decide +kernel) rfl rfl (Nat.le_of_ble_eq_true rfl) dX4_init_16 (fun H locs hP hD hS => ?_)
  have hP : va_P D vwCl [(q6, .inr (3, [.int 0, .ref q1, .ref q2, .ref q7, .null, .null, .int 0, .int 0, .int 0])), (q2, .inr (0, [.ref g, .ref q1, .int dI, .int lI, .ref p1, .ref p2, .ref n1, .ref n2, .ref n3, .ref n4, .ref n5]))] H := hP
  have hD : va_D A [(q6, .inr (3, [.int 0, .ref q1, .ref q2, .ref q7, .null, .null, .int 0, .int 0, .int 0])), (q2, .inr (0, [.ref g, .ref q1, .int dI, .int lI, .ref p1, .ref p2, .ref n1, .ref n2, .ref n3, .ref n4, .ref n5]))] := hD
  refine lv_aload_n hx hb dX4_init_19 rfl (lv_at hl 0 rfl) ?_
  refine lv_aload_n hx hb dX4_init_20 rfl (lv_at hl 2 rfl) ?_
  refine va_get (D := D) (ci := 0) (v := .ref g) (C := RX0) (T := TX0) (N := 11) hx hb hts in_X4_init_X0 hown hK.1 hP 1 rfl rfl 0 (by decide) (hts (.fieldLink RX4 23 "BracketLetters$Algebra" "stack" "[[I") (by decide +kernel)) (fun x h => h) rfl dX4_init_21 ?_
  refine va_putF (D := D) (ci := 3) (v := .ref g) (ty := .array (.array .int)) (C := RX4) (T := TX4) (N := 9) hx hb hts in_X4_init_X4 tyX4 tyX4_ok nmX4 hown hK.1 hP hD hS 0 rfl rfl 4 (by decide) (hts (.fieldLink RX4 28 "BracketLetters$Reader" "stack" "[[I") (by decide +kernel)) (fun x h => h) rfl hnm rfl (by decide +kernel) rfl rfl (Nat.le_of_ble_eq_true rfl) dX4_init_24 (fun H locs hP hD hS => ?_)
  have hP : va_P D vwCl [(q6, .inr (3, [.int 0, .ref q1, .ref q2, .ref q7, .ref g, .null, .int 0, .int 0, .int 0])), (q2, .inr (0, [.ref g, .ref q1, .int dI, .int lI, .ref p1, .ref p2, .ref n1, .ref n2, .ref n3, .ref n4, .ref n5]))] H := hP
  have hD : va_D A [(q6, .inr (3, [.int 0, .ref q1, .ref q2, .ref q7, .ref g, .null, .int 0, .int 0, .int 0])), (q2, .inr (0, [.ref g, .ref q1, .int dI, .int lI, .ref p1, .ref p2, .ref n1, .ref n2, .ref n3, .ref n4, .ref n5]))] := hD
  refine lv_aload_n hx hb dX4_init_27 rfl (lv_at hl 0 rfl) ?_
  refine lv_bipush (v := 100) hx hb dX4_init_28 (by decide) ?_
  refine va_newa (atype := .int) (ty := .int) (N' := 100) (a0 := (100, .inl (fun _ => 0))) hx hb (hts (.arrayClass .int) (by decide +kernel)) rfl hK.1 hP hD hS hA (fun cA => rfl) (by decide) (by decide) (by decide) (Nat.le_of_ble_eq_true rfl) (Nat.le_of_ble_eq_true rfl) dX4_init_30 (fun t1 cA H hK2 hP hD hS => ?_)
  have hcA : cA = cI := Option.some.inj ((hK2.2 3 (cA, .int) rfl).2.symm.trans (hK.1.2 0 (cI, .int) rfl).2)
  rw [hcA] at hP hD
  clear hK2 hcA
  have hP : va_P D vwCl [(q6, .inr (3, [.int 0, .ref q1, .ref q2, .ref q7, .ref g, .null, .int 0, .int 0, .int 0])), (q2, .inr (0, [.ref g, .ref q1, .int dI, .int lI, .ref p1, .ref p2, .ref n1, .ref n2, .ref n3, .ref n4, .ref n5])), (t1, .inl (cI, 100, .inl (fun _ => 0)))] H := hP
  have hD : va_D A [(q6, .inr (3, [.int 0, .ref q1, .ref q2, .ref q7, .ref g, .null, .int 0, .int 0, .int 0])), (q2, .inr (0, [.ref g, .ref q1, .int dI, .int lI, .ref p1, .ref p2, .ref n1, .ref n2, .ref n3, .ref n4, .ref n5])), (t1, .inl (cI, 100, .inl (fun _ => 0)))] := hD
  refine va_putF (D := D) (ci := 3) (v := .ref t1) (ty := .array .int) (C := RX4) (T := TX4) (N := 9) hx hb hts in_X4_init_X4 tyX4 tyX4_ok nmX4 hown hK.1 hP hD hS 0 rfl rfl 5 (by decide) (hts (.fieldLink RX4 29 "BracketLetters$Reader" "tape" "[I") (by decide +kernel)) (fun x h => h) rfl hnm rfl (by decide +kernel) rfl rfl (Nat.le_of_ble_eq_true rfl) dX4_init_32 (fun H locs hP hD hS => ?_)
  have hP : va_P D vwCl [(q6, .inr (3, [.int 0, .ref q1, .ref q2, .ref q7, .ref g, .ref t1, .int 0, .int 0, .int 0])), (q2, .inr (0, [.ref g, .ref q1, .int dI, .int lI, .ref p1, .ref p2, .ref n1, .ref n2, .ref n3, .ref n4, .ref n5])), (t1, .inl (cI, 100, .inl (fun _ => 0)))] H := hP
  have hD : va_D A [(q6, .inr (3, [.int 0, .ref q1, .ref q2, .ref q7, .ref g, .ref t1, .int 0, .int 0, .int 0])), (q2, .inr (0, [.ref g, .ref q1, .int dI, .int lI, .ref p1, .ref p2, .ref n1, .ref n2, .ref n3, .ref n4, .ref n5])), (t1, .inl (cI, 100, .inl (fun _ => 0)))] := hD
  exact xr_rV (wf := (fun u : Nat => wrd lI dI q6 q1 q2 q7 g p1 p2 n1 n2 n3 n4 n5 u cI)) (S := (t1)) fx hK hP hD hS trivial dX4_init_35
