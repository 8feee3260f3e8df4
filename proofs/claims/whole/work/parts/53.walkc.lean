abbrev rm_X7_text : Room := { frames := 3, cells := 0, slots := 0, locals := 71 }
theorem in_X7_text_X7 : ∀ w ∈ wsX70, w ∈ wsX7_text := by decide +kernel
set_option maxHeartbeats 4000000 in
set_option maxRecDepth 100000 in
theorem ct_X7_text (l : Launch) (D : va_G) (ad : Nat → Nat) (cI cJ cR : ClassId) (Ln : Nat → Nat) {S : cs_T} {a1 : Int32} {a2 : Int32} {Q : Int32 → cs_T → Prop} (h : wp_X7_text Ln S a1 a2 Q) : xr_I l D (cs_ty cI cJ cR) (cs_w ad cI cR Ln) yX7_text wsX7_text rm_X7_text [.ref (ad 0), .int a1, .int a2] S Q := by
  refine xr_eI (cc := cX7_text) (nL := 3) (ret := (some .int)) (own := RX7) (by decide) rfl rfl (Nat.le_of_ble_eq_true rfl) ?_
  intro p e s m args below meth c ls A fx hK hA hP hD hS hl
  have hl : lv_has ls 3 [(0, .ref (ad 0)), (1, .int a1), (2, .int a2)] := hl
  show W p l e rm_X7_text s m args below meth c s.heap [] 0 0 _ _
  obtain ⟨⟨hx, hb, hml, hown, hts⟩, hrt, hlk⟩ := id fx
  have hf : 0 ≤ rm_X7_text.cells ∧ 0 ≤ rm_X7_text.slots := ⟨Nat.zero_le _, Nat.zero_le _⟩
  unfold wp_X7_text at h
  refine lv_aload_n hx hb dX7_text_0 rfl (lv_at hl 0 rfl) ?_
  refine lv_iload_n hx hb dX7_text_1 rfl (lv_at hl 1 rfl) ?_
  refine xr_vI (n := 1) (As := [.int a1]) (rest := []) fx (ct_X7_noChief l D ad cI cJ cR Ln h) gX7_text_X7_noChief rfl rfl (by decide +kernel) ⟨Nat.le_of_ble_eq_true rfl, Nat.le_of_ble_eq_true rfl⟩ ⟨rfl, rfl⟩ hf (cs_recv 0 6 (by decide) rfl rfl hK hP) hK hP hD hS hA hl.1 rfl (Nat.le_of_ble_eq_true rfl) dX7_text_2 (fun r2 S1 H locs h hP hD hS => ?_)
  refine lv_if_eq (tgt := 10) hx hb dX7_text_5 (by decide) (fun c5 => ?_) (fun c5 => ?_)
  · have h := h.1 c5
    refine lv_aload_n hx hb dX7_text_10 rfl (lv_at hl 0 rfl) ?_
    refine cs_get 0 6 3 (v := .ref (ad 3)) (ref := "BracketLetters") fx (by decide) rfl rfl in_X7_text_X7 (by decide) rfl (by decide +kernel) rfl hK hP dX7_text_11 ?_
    refine lv_iload_n hx hb dX7_text_14 rfl (lv_at hl 1 rfl) ?_
    refine lv_iload_n hx hb dX7_text_15 rfl (lv_at hl 2 rfl) ?_
    refine xr_vI (n := 2) (As := [.int a1, .int a2]) (rest := []) fx (ct_X1_written l D ad cI cJ cR Ln h) gX7_text_X1_written rfl rfl (by decide +kernel) ⟨Nat.le_of_ble_eq_true rfl, Nat.le_of_ble_eq_true rfl⟩ ⟨rfl, rfl⟩ hf (cs_recv 3 1 (by decide) rfl rfl hK hP) hK hP hD hS hA hl.1 rfl (Nat.le_of_ble_eq_true rfl) dX7_text_16 (fun r4 S3 H locs h hP hD hS => ?_)
    exact xr_rI fx hK hP hD hS h dX7_text_19
  · have h := h.2 c5
    refine lv_iconst (v := (-1)) hx hb dX7_text_8 (by decide) ?_
    exact xr_rI fx hK hP hD hS h dX7_text_9
abbrev rm_X1_spell : Room := { frames := 0, cells := 0, slots := 0, locals := 0 }
theorem in_X1_spell_X1 : ∀ w ∈ wsX10, w ∈ wsX1_spell := by decide +kernel
theorem in_X1_spell_X6 : ∀ w ∈ wsX60, w ∈ wsX1_spell := by decide +kernel
set_option maxHeartbeats 4000000 in
set_option maxRecDepth 100000 in
theorem kb_X1_spell_17 {p : Program} {l : Launch} {e : Env} {s : State} {m : MethodId} {args : Array Value} {below : List Frame} {meth : Method} {c : Code} {D : va_G} {ad : Nat → Nat} {cI cJ cR : ClassId} {Ln : Nat → Nat} {A : Nat → Prop}  {K17 : cs_T → Int32 → Int32 → Prop} {Q : cs_T → Prop} {S : cs_T} {v3 : Int32} {v4 : Int32} (fx : xr_Fx p m c meth cX1_spell 5 s args wsX1_spell RX1 none) (hK : xr_K D (cs_ty cI cJ cR) s) (hA : ∀ q, s.heap.size ≤ q → A q)   (k17 : ∀ (S : cs_T) (v3 : Int32) (v4 : Int32) {H : Heap} {locs : List Loc} {ls : Array Slot}, va_P D vwCl (cs_w ad cI cR Ln S) H → va_D A (cs_w ad cI cR Ln S) → va_S A s.heap H locs → lv_has ls 5 [(0, .ref (ad 3)), (3, .int v3), (4, .int v4)] → K17 S v3 v4 → W p l e rm_X1_spell s m args below meth c H locs 0 0 (MQ below (va_Qv Q (xr_B D (cs_ty cI cJ cR) (cs_w ad cI cR Ln) A) A) args s 0 0 A) (F0 m 17 ls [])) {H : Heap} {locs : List Loc} {ls : Array Slot} (hP : va_P D vwCl (cs_w ad cI cR Ln S) H) (hD : va_D A (cs_w ad cI cR Ln S)) (hS : va_S A s.heap H locs) (hl : lv_has ls 5 [(0, .ref (ad 3)), (3, .int v3), (4, .int v4)]) (h : wb_X1_spell_17 Ln K17 Q S v3 v4) : W p l e rm_X1_spell s m args below meth c H locs 0 0 (MQ below (va_Qv Q (xr_B D (cs_ty cI cJ cR) (cs_w ad cI cR Ln) A) A) args s 0 0 A) (F0 m 17 ls []) := by
  obtain ⟨⟨hx, hb, hml, hown, hts⟩, hrt, hlk⟩ := id fx
  have hf : 0 ≤ rm_X1_spell.cells ∧ 0 ≤ rm_X1_spell.slots := ⟨Nat.zero_le _, Nat.zero_le _⟩
  unfold wb_X1_spell_17 at h
  refine lv_iload hx hb dX1_spell_17 (lv_at hl 2 rfl) ?_
  refine lv_if_lt (tgt := 54) hx hb dX1_spell_19 (by decide) (fun c19 => ?_) (fun c19 => ?_)
  · have h := h.1 c19
    exact xr_rV fx hK hP hD hS h dX1_spell_54
  · have h := h.2 c19
    refine lv_aload_n hx hb dX1_spell_22 rfl (lv_at hl 0 rfl) ?_
    refine cs_get 3 1 7 (v := .ref (ad (9 + 37))) (ref := "BracketLetters$Chiefs") fx (by decide) rfl rfl in_X1_spell_X1 (by decide) rfl (by decide +kernel) rfl hK hP dX1_spell_23 ?_
    refine lv_iload hx hb dX1_spell_26 (lv_at hl 2 rfl) ?_
    refine lv_iload_n hx hb dX1_spell_28 rfl (lv_at hl 1 rfl) ?_
    refine lv_aload_n hx hb dX1_spell_29 rfl (lv_at hl 0 rfl) ?_
    refine cs_get 3 1 4 (v := .ref (ad 1)) (ref := "BracketLetters$Chiefs") fx (by decide) rfl rfl in_X1_spell_X1 (by decide) rfl (by decide +kernel) rfl hK hP dX1_spell_30 ?_
    refine cs_get 1 5 0 (v := .int (S.1 2)) (ref := "BracketLetters$Words") fx (by decide) rfl rfl in_X1_spell_X6 (by decide) rfl (by decide +kernel) rfl hK hP dX1_spell_33 ?_
    obtain ⟨hz1, h⟩ := h
    refine lv_irem hx hb dX1_spell_36 hz1 ?_
    obtain ⟨hi2, h⟩ := h
    refine cs_iast 37 (by decide) fx hK hP hD hS hi2 dX1_spell_37 (fun H locs hP hD hS => ?_)
    refine lv_iload_n hx hb dX1_spell_38 rfl (lv_at hl 1 rfl) ?_
    refine lv_aload_n hx hb dX1_spell_39 rfl (lv_at hl 0 rfl) ?_
    refine cs_get 3 1 4 (v := .ref (ad 1)) (ref := "BracketLetters$Chiefs") fx (by decide) rfl rfl in_X1_spell_X1 (by decide) rfl (by decide +kernel) rfl hK hP dX1_spell_40 ?_
    refine cs_get 1 5 0 (v := .int ((cs_sI S 37 v4.toNatClampNeg (xr_remI v3 (S.1 2))).1 2)) (ref := "BracketLetters$Words") fx (by decide) rfl rfl in_X1_spell_X6 (by decide) rfl (by decide +kernel) rfl hK hP dX1_spell_43 ?_
    obtain ⟨hz3, h⟩ := h
    refine lv_idiv hx hb dX1_spell_46 hz3 ?_
    refine lv_topi (fun v3_4 ev3_4 => ?_)
    have h := h v3_4 ev3_4
    refine lv_istore_n (lv' := [(3, .int v3_4), (0, .ref (ad 3)), (4, .int v4)]) hx hb dX1_spell_47 rfl hl (by decide) rfl (fun ls hl => ?_)
    obtain ⟨v4_5, ev4_5⟩ : ∃ z : Int32, z = v4 + (-1) := ⟨_, rfl⟩
    have h := h v4_5 ev4_5
    refine lv_iinc (v := v4_5) (lv' := [(4, .int v4_5), (3, .int v3_4), (0, .ref (ad 3))]) hx hb dX1_spell_48 hl (k := 2) rfl (by rw [ev4_5]; rfl) (by decide) rfl (fun ls hl => ?_)
    refine lv_goto (tgt := 17) hx hb dX1_spell_51 (by decide) ?_
    exact k17 _ _ _ hP hD hS (lv_sub hl [2, 1, 0] rfl) h
theorem kw_X1_spell_17 {p : Program} {l : Launch} {e : Env} {s : State} {m : MethodId} {args : Array Value} {below : List Frame} {meth : Method} {c : Code} {D : va_G} {ad : Nat → Nat} {cI cJ cR : ClassId} {Ln : Nat → Nat} {A : Nat → Prop}  {Q : cs_T → Prop} (fx : xr_Fx p m c meth cX1_spell 5 s args wsX1_spell RX1 none) (hK : xr_K D (cs_ty cI cJ cR) s) (hA : ∀ q, s.heap.size ≤ q → A q)   : ∀ (n : Nat) (S : cs_T) (v3 : Int32) (v4 : Int32) {H : Heap} {locs : List Loc} {ls : Array Slot}, va_P D vwCl (cs_w ad cI cR Ln S) H → va_D A (cs_w ad cI cR Ln S) → va_S A s.heap H locs → lv_has ls 5 [(0, .ref (ad 3)), (3, .int v3), (4, .int v4)] → wp_X1_spell_17 Ln Q n S v3 v4 → W p l e rm_X1_spell s m args below meth c H locs 0 0 (MQ below (va_Qv Q (xr_B D (cs_ty cI cJ cR) (cs_w ad cI cR Ln) A) A) args s 0 0 A) (F0 m 17 ls []) := by
  intro n
  induction n with
  | zero => intro S v3 v4 H locs ls hP hD hS hl h; exact False.elim h
  | succ n ih => intro S v3 v4 H locs ls hP hD hS hl h; exact kb_X1_spell_17 fx hK hA ih hP hD hS hl h
set_option maxHeartbeats 4000000 in
set_option maxRecDepth 100000 in
theorem ct_X1_spell (l : Launch) (D : va_G) (ad : Nat → Nat) (cI cJ cR : ClassId) (Ln : Nat → Nat) {S : cs_T} {a1 : Int32} {a2 : Int32} {Q : cs_T → Prop} (h : wp_X1_spell Ln S a1 a2 Q) : xr_V l D (cs_ty cI cJ cR) (cs_w ad cI cR Ln) yX1_spell wsX1_spell rm_X1_spell [.ref (ad 3), .int a1, .int a2] S Q := by
  refine xr_eV (cc := cX1_spell) (nL := 5) (ret := none) (own := RX1) (by decide) rfl rfl (Nat.le_of_ble_eq_true rfl) ?_
  intro p e s m args below meth c ls A fx hK hA hP hD hS hl
  have hl : lv_has ls 5 [(0, .ref (ad 3)), (1, .int a1), (2, .int a2)] := hl
  show W p l e rm_X1_spell s m args below meth c s.heap [] 0 0 _ _
  obtain ⟨⟨hx, hb, hml, hown, hts⟩, hrt, hlk⟩ := id fx
  have hf : 0 ≤ rm_X1_spell.cells ∧ 0 ≤ rm_X1_spell.slots := ⟨Nat.zero_le _, Nat.zero_le _⟩
  unfold wp_X1_spell at h
  refine lv_iload_n hx hb dX1_spell_0 rfl (lv_at hl 1 rfl) ?_
  refine lv_aload_n hx hb dX1_spell_1 rfl (lv_at hl 0 rfl) ?_
  refine cs_get 3 1 4 (v := .ref (ad 1)) (ref := "BracketLetters$Chiefs") fx (by decide) rfl rfl in_X1_spell_X1 (by decide) rfl (by decide +kernel) rfl hK hP dX1_spell_2 ?_
  refine cs_get 1 5 3 (v := .ref (ad (9 + 1))) (ref := "BracketLetters$Words") fx (by decide) rfl rfl in_X1_spell_X6 (by decide) rfl (by decide +kernel) rfl hK hP dX1_spell_5 ?_
  refine lv_iload_n hx hb dX1_spell_8 rfl (lv_at hl 2 rfl) ?_
  obtain ⟨hi6, h⟩ := h
  refine cs_iald 1 (by decide) fx hK hP hi6 dX1_spell_9 ?_
  refine lv_isub hx hb dX1_spell_10 ?_
  refine lv_topi (fun v3_7 ev3_7 => ?_)
  have h := h v3_7 ev3_7
  refine lv_istore_n (lv' := [(3, .int v3_7), (0, .ref (ad 3)), (1, .int a1), (2, .int a2)]) hx hb dX1_spell_11 rfl hl (by decide) rfl (fun ls hl => ?_)
  refine lv_iload_n hx hb dX1_spell_12 rfl (lv_at hl 3 rfl) ?_
  refine lv_iconst (v := 1) hx hb dX1_spell_13 (by decide) ?_
  refine lv_isub hx hb dX1_spell_14 ?_
  refine lv_topi (fun v4_8 ev4_8 => ?_)
  have h := h v4_8 ev4_8
  refine lv_istore (lv' := [(4, .int v4_8), (3, .int v3_7), (0, .ref (ad 3)), (1, .int a1), (2, .int a2)]) hx hb dX1_spell_15 hl (by decide) rfl (fun ls hl => ?_)
  obtain ⟨n, h⟩ := h
  exact kw_X1_spell_17 fx hK hA n _ _ _ hP hD hS (lv_sub hl [2, 1, 0] rfl) h
abbrev rm_X1_headLength : Room := { frames := 0, cells := 0, slots := 0, locals := 0 }
theorem in_X1_headLength_X1 : ∀ w ∈ wsX10, w ∈ wsX1_headLength := by decide +kernel
set_option maxHeartbeats 4000000 in
set_option maxRecDepth 100000 in
theorem kw_X1_headLength_52 {p : Program} {l : Launch} {e : Env} {s : State} {m : MethodId} {args : Array Value} {below : List Frame} {meth : Method} {c : Code} {D : va_G} {ad : Nat → Nat} {cI cJ cR : ClassId} {Ln : Nat → Nat} {A : Nat → Prop} {K7 : cs_T → Int32 → Int32 → Int32 → Int32 → Prop} {Q : Int32 → cs_T → Prop} {S : cs_T} {v1 : Int32} {v2 : Int32} {v4 : Int32} {s0 : Int32} (fx : xr_Fx p m c meth cX1_headLength 5 s args wsX1_headLength RX1 (some .int)) (hK : xr_K D (cs_ty cI cJ cR) s) (hA : ∀ q, s.heap.size ≤ q → A q)  (k7 : ∀ (S : cs_T) (v1 : Int32) (v2 : Int32) (v3 : Int32) (v4 : Int32) {H : Heap} {locs : List Loc} {ls : Array Slot}, va_P D vwCl (cs_w ad cI cR Ln S) H → va_D A (cs_w ad cI cR Ln S) → va_S A s.heap H locs → lv_has ls 5 [(0, .ref (ad 3)), (1, .int v1), (2, .int v2), (3, .int v3), (4, .int v4)] → K7 S v1 v2 v3 v4 → W p l e rm_X1_headLength s m args below meth c H locs 0 0 (MQ below (va_Qi Q (xr_B D (cs_ty cI cJ cR) (cs_w ad cI cR Ln) A) A) args s 0 0 A) (F0 m 7 ls [])) {H : Heap} {locs : List Loc} {ls : Array Slot} (hP : va_P D vwCl (cs_w ad cI cR Ln S) H) (hD : va_D A (cs_w ad cI cR Ln S)) (hS : va_S A s.heap H locs) (hl : lv_has ls 5 [(0, .ref (ad 3)), (1, .int v1), (2, .int v2), (4, .int v4)]) (h : wp_X1_headLength_52 Ln K7 Q S v1 v2 v4 s0) : W p l e rm_X1_headLength s m args below meth c H locs 0 0 (MQ below (va_Qi Q (xr_B D (cs_ty cI cJ cR) (cs_w ad cI cR Ln) A) A) args s 0 0 A) (F0 m 52 ls [.int s0]) := by
  obtain ⟨⟨hx, hb, hml, hown, hts⟩, hrt, hlk⟩ := id fx
  have hf : 0 ≤ rm_X1_headLength.cells ∧ 0 ≤ rm_X1_headLength.slots := ⟨Nat.zero_le _, Nat.zero_le _⟩
  unfold wp_X1_headLength_52 at h
  refine lv_istore_n (lv' := [(3, .int s0), (0, .ref (ad 3)), (1, .int v1), (2, .int v2), (4, .int v4)]) hx hb dX1_headLength_52 rfl hl (by decide) rfl (fun ls hl => ?_)
  obtain ⟨v4_1, ev4_1⟩ : ∃ z : Int32, z = v4 + 1 := ⟨_, rfl⟩
  have h := h v4_1 ev4_1
  refine lv_iinc (v := v4_1) (lv' := [(4, .int v4_1), (3, .int s0), (0, .ref (ad 3)), (1, .int v1), (2, .int v2)]) hx hb dX1_headLength_53 hl (k := 4) rfl (by rw [ev4_1]; rfl) (by decide) rfl (fun ls hl => ?_)
  refine lv_goto (tgt := 7) hx hb dX1_headLength_56 (by decide) ?_
  exact k7 _ _ _ _ _ hP hD hS (lv_sub hl [2, 3, 4, 1, 0] rfl) h
set_option maxHeartbeats 4000000 in
set_option maxRecDepth 100000 in
theorem kb_X1_headLength_7 {p : Program} {l : Launch} {e : Env} {s : State} {m : MethodId} {args : Array Value} {below : List Frame} {meth : Method} {c : Code} {D : va_G} {ad : Nat → Nat} {cI cJ cR : ClassId} {Ln : Nat → Nat} {A : Nat → Prop}  {K7 : cs_T → Int32 → Int32 → Int32 → Int32 → Prop} {Q : Int32 → cs_T → Prop} {S : cs_T} {v1 : Int32} {v2 : Int32} {v3 : Int32} {v4 : Int32} (fx : xr_Fx p m c meth cX1_headLength 5 s args wsX1_headLength RX1 (some .int)) (hK : xr_K D (cs_ty cI cJ cR) s) (hA : ∀ q, s.heap.size ≤ q → A q)   (k7 : ∀ (S : cs_T) (v1 : Int32) (v2 : Int32) (v3 : Int32) (v4 : Int32) {H : Heap} {locs : List Loc} {ls : Array Slot}, va_P D vwCl (cs_w ad cI cR Ln S) H → va_D A (cs_w ad cI cR Ln S) → va_S A s.heap H locs → lv_has ls 5 [(0, .ref (ad 3)), (1, .int v1), (2, .int v2), (3, .int v3), (4, .int v4)] → K7 S v1 v2 v3 v4 → W p l e rm_X1_headLength s m args below meth c H locs 0 0 (MQ below (va_Qi Q (xr_B D (cs_ty cI cJ cR) (cs_w ad cI cR Ln) A) A) args s 0 0 A) (F0 m 7 ls [])) {H : Heap} {locs : List Loc} {ls : Array Slot} (hP : va_P D vwCl (cs_w ad cI cR Ln S) H) (hD : va_D A (cs_w ad cI cR Ln S)) (hS : va_S A s.heap H locs) (hl : lv_has ls 5 [(0, .ref (ad 3)), (1, .int v1), (2, .int v2), (3, .int v3), (4, .int v4)]) (h : wb_X1_headLength_7 Ln K7 Q S v1 v2 v3 v4) : W p l e rm_X1_headLength s m args below meth c H locs 0 0 (MQ below (va_Qi Q (xr_B D (cs_ty cI cJ cR) (cs_w ad cI cR Ln) A) A) args s 0 0 A) (F0 m 7 ls []) := by
  obtain ⟨⟨hx, hb, hml, hown, hts⟩, hrt, hlk⟩ := id fx
  have hf : 0 ≤ rm_X1_headLength.cells ∧ 0 ≤ rm_X1_headLength.slots := ⟨Nat.zero_le _, Nat.zero_le _⟩
  unfold wb_X1_headLength_7 at h
  refine lv_iload hx hb dX1_headLength_7 (lv_at hl 4 rfl) ?_
  refine lv_iload_n hx hb dX1_headLength_9 rfl (lv_at hl 2 rfl) ?_
  refine lv_icmp_ge (tgt := 59) hx hb dX1_headLength_10 (by decide) (fun c10 => ?_) (fun c10 => ?_)
  · have h := h.1 c10
    refine lv_iload hx hb dX1_headLength_59 (lv_at hl 4 rfl) ?_
    refine lv_iload_n hx hb dX1_headLength_61 rfl (lv_at hl 3 rfl) ?_
    refine lv_isub hx hb dX1_headLength_62 ?_
    exact xr_rI fx hK hP hD hS h dX1_headLength_63
  · have h := h.2 c10
    refine lv_aload_n hx hb dX1_headLength_13 rfl (lv_at hl 0 rfl) ?_
    refine cs_get 3 1 7 (v := .ref (ad (9 + 37))) (ref := "BracketLetters$Chiefs") fx (by decide) rfl rfl in_X1_headLength_X1 (by decide) rfl (by decide +kernel) rfl hK hP dX1_headLength_14 ?_
    refine lv_iload_n hx hb dX1_headLength_17 rfl (lv_at hl 3 rfl) ?_
    obtain ⟨hi2, h⟩ := h
    refine cs_iald 37 (by decide) fx hK hP hi2 dX1_headLength_18 ?_
    refine lv_aload_n hx hb dX1_headLength_19 rfl (lv_at hl 0 rfl) ?_
    refine cs_get 3 1 7 (v := .ref (ad (9 + 37))) (ref := "BracketLetters$Chiefs") fx (by decide) rfl rfl in_X1_headLength_X1 (by decide) rfl (by decide +kernel) rfl hK hP dX1_headLength_20 ?_
    refine lv_iload hx hb dX1_headLength_23 (lv_at hl 4 rfl) ?_
    obtain ⟨hi3, h⟩ := h
    refine cs_iald 37 (by decide) fx hK hP hi3 dX1_headLength_25 ?_
    refine lv_icmp_gt (tgt := 59) hx hb dX1_headLength_26 (by decide) (fun c26 => ?_) (fun c26 => ?_)
    · have h := h.1 c26
      refine lv_iload hx hb dX1_headLength_59 (lv_at hl 4 rfl) ?_
      refine lv_iload_n hx hb dX1_headLength_61 rfl (lv_at hl 3 rfl) ?_
      refine lv_isub hx hb dX1_headLength_62 ?_
      exact xr_rI fx hK hP hD hS h dX1_headLength_63
    · have h := h.2 c26
      refine lv_aload_n hx hb dX1_headLength_29 rfl (lv_at hl 0 rfl) ?_
      refine cs_get 3 1 7 (v := .ref (ad (9 + 37))) (ref := "BracketLetters$Chiefs") fx (by decide) rfl rfl in_X1_headLength_X1 (by decide) rfl (by decide +kernel) rfl hK hP dX1_headLength_30 ?_
      refine lv_iload_n hx hb dX1_headLength_33 rfl (lv_at hl 3 rfl) ?_
      obtain ⟨hi4, h⟩ := h
      refine cs_iald 37 (by decide) fx hK hP hi4 dX1_headLength_34 ?_
      refine lv_aload_n hx hb dX1_headLength_35 rfl (lv_at hl 0 rfl) ?_
      refine cs_get 3 1 7 (v := .ref (ad (9 + 37))) (ref := "BracketLetters$Chiefs") fx (by decide) rfl rfl in_X1_headLength_X1 (by decide) rfl (by decide +kernel) rfl hK hP dX1_headLength_36 ?_
      refine lv_iload hx hb dX1_headLength_39 (lv_at hl 4 rfl) ?_
      obtain ⟨hi5, h⟩ := h
      refine cs_iald 37 (by decide) fx hK hP hi5 dX1_headLength_41 ?_
      refine lv_icmp_ge (tgt := 49) hx hb dX1_headLength_42 (by decide) (fun c42 => ?_) (fun c42 => ?_)
      · have h := h.1 c42
        refine lv_iload_n hx hb dX1_headLength_49 rfl (lv_at hl 3 rfl) ?_
        refine lv_iconst (v := 1) hx hb dX1_headLength_50 (by decide) ?_
        refine lv_iadd hx hb dX1_headLength_51 ?_
        exact kw_X1_headLength_52 fx hK hA k7 hP hD hS (lv_sub hl [0, 1, 2, 4] rfl) h
      · have h := h.2 c42
        refine lv_iload_n hx hb dX1_headLength_45 rfl (lv_at hl 1 rfl) ?_
        refine lv_goto (tgt := 52) hx hb dX1_headLength_46 (by decide) ?_
        exact kw_X1_headLength_52 fx hK hA k7 hP hD hS (lv_sub hl [0, 1, 2, 4] rfl) h
theorem kw_X1_headLength_7 {p : Program} {l : Launch} {e : Env} {s : State} {m : MethodId} {args : Array Value} {below : List Frame} {meth : Method} {c : Code} {D : va_G} {ad : Nat → Nat} {cI cJ cR : ClassId} {Ln : Nat → Nat} {A : Nat → Prop}  {Q : Int32 → cs_T → Prop} (fx : xr_Fx p m c meth cX1_headLength 5 s args wsX1_headLength RX1 (some .int)) (hK : xr_K D (cs_ty cI cJ cR) s) (hA : ∀ q, s.heap.size ≤ q → A q)   : ∀ (n : Nat) (S : cs_T) (v1 : Int32) (v2 : Int32) (v3 : Int32) (v4 : Int32) {H : Heap} {locs : List Loc} {ls : Array Slot}, va_P D vwCl (cs_w ad cI cR Ln S) H → va_D A (cs_w ad cI cR Ln S) → va_S A s.heap H locs → lv_has ls 5 [(0, .ref (ad 3)), (1, .int v1), (2, .int v2), (3, .int v3), (4, .int v4)] → wp_X1_headLength_7 Ln Q n S v1 v2 v3 v4 → W p l e rm_X1_headLength s m args below meth c H locs 0 0 (MQ below (va_Qi Q (xr_B D (cs_ty cI cJ cR) (cs_w ad cI cR Ln) A) A) args s 0 0 A) (F0 m 7 ls []) := by
  intro n
  induction n with
  | zero => intro S v1 v2 v3 v4 H locs ls hP hD hS hl h; exact False.elim h
  | succ n ih => intro S v1 v2 v3 v4 H locs ls hP hD hS hl h; exact kb_X1_headLength_7 fx hK hA ih hP hD hS hl h
set_option maxHeartbeats 4000000 in
set_option maxRecDepth 100000 in
theorem ct_X1_headLength (l : Launch) (D : va_G) (ad : Nat → Nat) (cI cJ cR : ClassId) (Ln : Nat → Nat) {S : cs_T} {a1 : Int32} {a2 : Int32} {Q : Int32 → cs_T → Prop} (h : wp_X1_headLength Ln S a1 a2 Q) : xr_I l D (cs_ty cI cJ cR) (cs_w ad cI cR Ln) yX1_headLength wsX1_headLength rm_X1_headLength [.ref (ad 3), .int a1, .int a2] S Q := by
  refine xr_eI (cc := cX1_headLength) (nL := 5) (ret := (some .int)) (own := RX1) (by decide) rfl rfl (Nat.le_of_ble_eq_true rfl) ?_
  intro p e s m args below meth c ls A fx hK hA hP hD hS hl
  have hl : lv_has ls 5 [(0, .ref (ad 3)), (1, .int a1), (2, .int a2)] := hl
  show W p l e rm_X1_headLength s m args below meth c s.heap [] 0 0 _ _
  obtain ⟨⟨hx, hb, hml, hown, hts⟩, hrt, hlk⟩ := id fx
  have hf : 0 ≤ rm_X1_headLength.cells ∧ 0 ≤ rm_X1_headLength.slots := ⟨Nat.zero_le _, Nat.zero_le _⟩
  unfold wp_X1_headLength at h
  refine lv_iload_n hx hb dX1_headLength_0 rfl (lv_at hl 1 rfl) ?_
  refine lv_istore_n (lv' := [(3, .int a1), (0, .ref (ad 3)), (1, .int a1), (2, .int a2)]) hx hb dX1_headLength_1 rfl hl (by decide) rfl (fun ls hl => ?_)
  refine lv_iload_n hx hb dX1_headLength_2 rfl (lv_at hl 2 rfl) ?_
  refine lv_iconst (v := 1) hx hb dX1_headLength_3 (by decide) ?_
  refine lv_iadd hx hb dX1_headLength_4 ?_
  refine lv_topi (fun v4_6 ev4_6 => ?_)
  have h := h v4_6 ev4_6
  refine lv_istore (lv' := [(4, .int v4_6), (3, .int a1), (0, .ref (ad 3)), (1, .int a1), (2, .int a2)]) hx hb dX1_headLength_5 hl (by decide) rfl (fun ls hl => ?_)
  obtain ⟨n, h⟩ := h
  exact kw_X1_headLength_7 fx hK hA n _ _ _ _ _ hP hD hS (lv_sub hl [2, 3, 4, 1, 0] rfl) h
abbrev rm_X1_setAhead : Room := { frames := 2, cells := 0, slots := 0, locals := 48 }
theorem in_X1_setAhead_X1 : ∀ w ∈ wsX10, w ∈ wsX1_setAhead := by decide +kernel
theorem in_X1_setAhead_X6 : ∀ w ∈ wsX60, w ∈ wsX1_setAhead := by decide +kernel
set_option maxHeartbeats 4000000 in
set_option maxRecDepth 100000 in
theorem ct_X1_setAhead (l : Launch) (D : va_G) (ad : Nat → Nat) (cI cJ cR : ClassId) (Ln : Nat → Nat) {S : cs_T} {a1 : Nat} {a2 : Int32} {a3 : Int32} {Q : cs_T → Prop} (h : wp_X1_setAhead Ln S a1 a2 a3 Q) : xr_V l D (cs_ty cI cJ cR) (cs_w ad cI cR Ln) yX1_setAhead wsX1_setAhead rm_X1_setAhead [.ref (ad 3), .ref (ad (9 + a1)), .int a2, .int a3] S Q := by
  refine xr_eV (cc := cX1_setAhead) (nL := 7) (ret := none) (own := RX1) (by decide) rfl rfl (Nat.le_of_ble_eq_true rfl) ?_
  intro p e s m args below meth c ls A fx hK hA hP hD hS hl
  have hl : lv_has ls 7 [(0, .ref (ad 3)), (1, .ref (ad (9 + a1))), (2, .int a2), (3, .int a3)] := hl
  show W p l e rm_X1_setAhead s m args below meth c s.heap [] 0 0 _ _
  obtain ⟨⟨hx, hb, hml, hown, hts⟩, hrt, hlk⟩ := id fx
  have hf : 0 ≤ rm_X1_setAhead.cells ∧ 0 ≤ rm_X1_setAhead.slots := ⟨Nat.zero_le _, Nat.zero_le _⟩
  unfold wp_X1_setAhead at h
  refine lv_aload_n hx hb dX1_setAhead_0 rfl (lv_at hl 0 rfl) ?_
  refine cs_get 3 1 4 (v := .ref (ad 1)) (ref := "BracketLetters$Chiefs") fx (by decide) rfl rfl in_X1_setAhead_X1 (by decide) rfl (by decide +kernel) rfl hK hP dX1_setAhead_1 ?_
  refine cs_get 1 5 2 (v := .ref (ad (9 + 0))) (ref := "BracketLetters$Words") fx (by decide) rfl rfl in_X1_setAhead_X6 (by decide) rfl (by decide +kernel) rfl hK hP dX1_setAhead_4 ?_
  refine lv_iload_n hx hb dX1_setAhead_7 rfl (lv_at hl 3 rfl) ?_
  obtain ⟨hi1, h⟩ := h
  refine cs_iald 0 (by decide) fx hK hP hi1 dX1_setAhead_8 ?_
  refine lv_topi (fun v4_2 ev4_2 => ?_)
  have h := h v4_2 ev4_2
  refine lv_istore (lv' := [(4, .int v4_2), (0, .ref (ad 3)), (1, .ref (ad (9 + a1))), (2, .int a2), (3, .int a3)]) hx hb dX1_setAhead_9 hl (by decide) rfl (fun ls hl => ?_)
  refine lv_aload_n hx hb dX1_setAhead_11 rfl (lv_at hl 1 rfl) ?_
  refine cs_get 3 1 4 (v := .ref (ad 1)) (ref := "BracketLetters$Chiefs") fx (by decide) rfl rfl in_X1_setAhead_X1 (by decide) rfl (by decide +kernel) rfl hK hP dX1_setAhead_12 ?_
  refine cs_get 1 5 3 (v := .ref (ad (9 + 1))) (ref := "BracketLetters$Words") fx (by decide) rfl rfl in_X1_setAhead_X6 (by decide) rfl (by decide +kernel) rfl hK hP dX1_setAhead_15 ?_
  refine lv_iload_n hx hb dX1_setAhead_18 rfl (lv_at hl 4 rfl) ?_
  obtain ⟨hi3, h⟩ := h
  refine cs_iald 1 (by decide) fx hK hP hi3 dX1_setAhead_19 ?_
  refine lv_topi (fun v5_4 ev5_4 => ?_)
  have h := h v5_4 ev5_4
  refine lv_istore (lv' := [(5, .int v5_4), (4, .int v4_2), (0, .ref (ad 3)), (1, .ref (ad (9 + a1))), (2, .int a2), (3, .int a3)]) hx hb dX1_setAhead_20 hl (by decide) rfl (fun ls hl => ?_)
  refine lv_aload_n hx hb dX1_setAhead_22 rfl (lv_at hl 2 rfl) ?_
  refine cs_get 3 1 4 (v := .ref (ad 1)) (ref := "BracketLetters$Chiefs") fx (by decide) rfl rfl in_X1_setAhead_X1 (by decide) rfl (by decide +kernel) rfl hK hP dX1_setAhead_23 ?_
  refine cs_get 1 5 3 (v := .ref (ad (9 + 1))) (ref := "BracketLetters$Words") fx (by decide) rfl rfl in_X1_setAhead_X6 (by decide) rfl (by decide +kernel) rfl hK hP dX1_setAhead_26 ?_
  refine lv_iload_n hx hb dX1_setAhead_29 rfl (lv_at hl 5 rfl) ?_
  refine lv_iconst (v := 1) hx hb dX1_setAhead_30 (by decide) ?_
  refine lv_iadd hx hb dX1_setAhead_31 ?_
  obtain ⟨hi5, h⟩ := h
  refine cs_iald 1 (by decide) fx hK hP hi5 dX1_setAhead_32 ?_
  refine lv_iload_n hx hb dX1_setAhead_33 rfl (lv_at hl 4 rfl) ?_
  refine lv_iload hx hb dX1_setAhead_34 (lv_at hl 1 rfl) ?_
  refine lv_imul hx hb dX1_setAhead_36 ?_
  refine lv_iadd hx hb dX1_setAhead_37 ?_
  refine lv_topi (fun v6_6 ev6_6 => ?_)
  have h := h v6_6 ev6_6
  refine lv_istore (lv' := [(6, .int v6_6), (5, .int v5_4), (4, .int v4_2), (0, .ref (ad 3)), (1, .ref (ad (9 + a1))), (2, .int a2), (3, .int a3)]) hx hb dX1_setAhead_38 hl (by decide) rfl (fun ls hl => ?_)
  refine lv_aload_n hx hb dX1_setAhead_40 rfl (lv_at hl 4 rfl) ?_
  refine lv_iload hx hb dX1_setAhead_41 (lv_at hl 1 rfl) ?_
  refine lv_aload_n hx hb dX1_setAhead_43 rfl (lv_at hl 4 rfl) ?_
  refine lv_iload hx hb dX1_setAhead_44 (lv_at hl 0 rfl) ?_
  refine lv_iload hx hb dX1_setAhead_46 (lv_at hl 2 rfl) ?_
  obtain ⟨hk7, h⟩ := h
  obtain ⟨ha8, ha9, ha10, ha11, ha12, h⟩ := h
  refine cs_copy a1 a1 hk7 hk7 fx (by decide +kernel) (by decide +kernel) (by decide +kernel) (by decide +kernel) hl.1 hK hP hD hS ha8 ha9 ha10 ha11 ha12 (Nat.le_of_ble_eq_true rfl) (Nat.le_of_ble_eq_true rfl) dX1_setAhead_48 (fun H locs hP hD hS => ?_)
  refine lv_aload_n hx hb dX1_setAhead_51 rfl (lv_at hl 4 rfl) ?_
  refine lv_iload hx hb dX1_setAhead_52 (lv_at hl 1 rfl) ?_
  refine lv_iload hx hb dX1_setAhead_54 (lv_at hl 1 rfl) ?_
  refine lv_iload hx hb dX1_setAhead_56 (lv_at hl 2 rfl) ?_
  refine lv_iadd hx hb dX1_setAhead_58 ?_
  refine lv_iconst (v := 0) hx hb dX1_setAhead_59 (by decide) ?_
  refine xr_wV (n := 4) (As := [.ref (ad (9 + a1)), .int v5_4, .int (v5_4 + v4_2), .int 0]) (rest := []) fx (ct_J7_fill_fda19 l D ad cI cJ cR Ln h) gX1_setAhead_J7_fill_fda19 rfl rfl (by decide +kernel) ⟨Nat.le_of_ble_eq_true rfl, Nat.le_of_ble_eq_true rfl⟩ ⟨rfl, rfl⟩ hf hK hP hD hS hA hl.1 rfl (Nat.le_of_ble_eq_true rfl) dX1_setAhead_60 (fun S13 H locs h hP hD hS => ?_)
  exact xr_rV fx hK hP hD hS h dX1_setAhead_63
abbrev rm_X1_headTimes : Room := { frames := 0, cells := 0, slots := 0, locals := 0 }
theorem in_X1_headTimes_X1 : ∀ w ∈ wsX10, w ∈ wsX1_headTimes := by decide +kernel
set_option maxHeartbeats 4000000 in
set_option maxRecDepth 100000 in
theorem kb_X1_headTimes_5 {p : Program} {l : Launch} {e : Env} {s : State} {m : MethodId} {args : Array Value} {below : List Frame} {meth : Method} {c : Code} {D : va_G} {ad : Nat → Nat} {cI cJ cR : ClassId} {Ln : Nat → Nat} {A : Nat → Prop}  {K5 : cs_T → Int32 → Int32 → Int32 → Int32 → Prop} {Q : Int32 → cs_T → Prop} {S : cs_T} {v1 : Int32} {v2 : Int32} {v3 : Int32} {v4 : Int32} (fx : xr_Fx p m c meth cX1_headTimes 5 s args wsX1_headTimes RX1 (some .int)) (hK : xr_K D (cs_ty cI cJ cR) s) (hA : ∀ q, s.heap.size ≤ q → A q)   (k5 : ∀ (S : cs_T) (v1 : Int32) (v2 : Int32) (v3 : Int32) (v4 : Int32) {H : Heap} {locs : List Loc} {ls : Array Slot}, va_P D vwCl (cs_w ad cI cR Ln S) H → va_D A (cs_w ad cI cR Ln S) → va_S A s.heap H locs → lv_has ls 5 [(0, .ref (ad 3)), (1, .int v1), (2, .int v2), (3, .int v3), (4, .int v4)] → K5 S v1 v2 v3 v4 → W p l e rm_X1_headTimes s m args below meth c H locs 0 0 (MQ below (va_Qi Q (xr_B D (cs_ty cI cJ cR) (cs_w ad cI cR Ln) A) A) args s 0 0 A) (F0 m 5 ls [])) {H : Heap} {locs : List Loc} {ls : Array Slot} (hP : va_P D vwCl (cs_w ad cI cR Ln S) H) (hD : va_D A (cs_w ad cI cR Ln S)) (hS : va_S A s.heap H locs) (hl : lv_has ls 5 [(0, .ref (ad 3)), (1, .int v1), (2, .int v2), (3, .int v3), (4, .int v4)]) (h : wb_X1_headTimes_5 Ln K5 Q S v1 v2 v3 v4) : W p l e rm_X1_headTimes s m args below meth c H locs 0 0 (MQ below (va_Qi Q (xr_B D (cs_ty cI cJ cR) (cs_w ad cI cR Ln) A) A) args s 0 0 A) (F0 m 5 ls []) := by
  obtain ⟨⟨hx, hb, hml, hown, hts⟩, hrt, hlk⟩ := id fx
  have hf : 0 ≤ rm_X1_headTimes.cells ∧ 0 ≤ rm_X1_headTimes.slots := ⟨Nat.zero_le _, Nat.zero_le _⟩
  unfold wb_X1_headTimes_5 at h
  refine lv_iload hx hb dX1_headTimes_5 (lv_at hl 4 rfl) ?_
  refine lv_iload_n hx hb dX1_headTimes_7 rfl (lv_at hl 2 rfl) ?_
  refine lv_icmp_ge (tgt := 36) hx hb dX1_headTimes_8 (by decide) (fun c8 => ?_) (fun c8 => ?_)
  · have h := h.1 c8
    refine lv_iload hx hb dX1_headTimes_36 (lv_at hl 4 rfl) ?_
    refine lv_iload_n hx hb dX1_headTimes_38 rfl (lv_at hl 1 rfl) ?_
    refine lv_isub hx hb dX1_headTimes_39 ?_
    refine lv_iload_n hx hb dX1_headTimes_40 rfl (lv_at hl 3 rfl) ?_
    obtain ⟨hz1, h⟩ := h
    refine lv_idiv hx hb dX1_headTimes_41 hz1 ?_
    exact xr_rI fx hK hP hD hS h dX1_headTimes_42
  · have h := h.2 c8
    refine lv_aload_n hx hb dX1_headTimes_11 rfl (lv_at hl 0 rfl) ?_
    refine cs_get 3 1 7 (v := .ref (ad (9 + 37))) (ref := "BracketLetters$Chiefs") fx (by decide) rfl rfl in_X1_headTimes_X1 (by decide) rfl (by decide +kernel) rfl hK hP dX1_headTimes_12 ?_
    refine lv_iload hx hb dX1_headTimes_15 (lv_at hl 4 rfl) ?_
    obtain ⟨hi2, h⟩ := h
    refine cs_iald 37 (by decide) fx hK hP hi2 dX1_headTimes_17 ?_
    refine lv_aload_n hx hb dX1_headTimes_18 rfl (lv_at hl 0 rfl) ?_
    refine cs_get 3 1 7 (v := .ref (ad (9 + 37))) (ref := "BracketLetters$Chiefs") fx (by decide) rfl rfl in_X1_headTimes_X1 (by decide) rfl (by decide +kernel) rfl hK hP dX1_headTimes_19 ?_
    refine lv_iload hx hb dX1_headTimes_22 (lv_at hl 4 rfl) ?_
    refine lv_iload_n hx hb dX1_headTimes_24 rfl (lv_at hl 3 rfl) ?_
    refine lv_isub hx hb dX1_headTimes_25 ?_
    obtain ⟨hi3, h⟩ := h
    refine cs_iald 37 (by decide) fx hK hP hi3 dX1_headTimes_26 ?_
    refine lv_icmp_ne (tgt := 36) hx hb dX1_headTimes_27 (by decide) (fun c27 => ?_) (fun c27 => ?_)
    · have h := h.1 c27
      refine lv_iload hx hb dX1_headTimes_36 (lv_at hl 4 rfl) ?_
      refine lv_iload_n hx hb dX1_headTimes_38 rfl (lv_at hl 1 rfl) ?_
      refine lv_isub hx hb dX1_headTimes_39 ?_
      refine lv_iload_n hx hb dX1_headTimes_40 rfl (lv_at hl 3 rfl) ?_
      obtain ⟨hz4, h⟩ := h
      refine lv_idiv hx hb dX1_headTimes_41 hz4 ?_
      exact xr_rI fx hK hP hD hS h dX1_headTimes_42
    · have h := h.2 c27
      obtain ⟨v4_5, ev4_5⟩ : ∃ z : Int32, z = v4 + 1 := ⟨_, rfl⟩
      have h := h v4_5 ev4_5
      refine lv_iinc (v := v4_5) (lv' := [(4, .int v4_5), (0, .ref (ad 3)), (1, .int v1), (2, .int v2), (3, .int v3)]) hx hb dX1_headTimes_30 hl (k := 4) rfl (by rw [ev4_5]; rfl) (by decide) rfl (fun ls hl => ?_)
      refine lv_goto (tgt := 5) hx hb dX1_headTimes_33 (by decide) ?_
      exact k5 _ _ _ _ _ hP hD hS (lv_sub hl [1, 2, 3, 4, 0] rfl) h
theorem kw_X1_headTimes_5 {p : Program} {l : Launch} {e : Env} {s : State} {m : MethodId} {args : Array Value} {below : List Frame} {meth : Method} {c : Code} {D : va_G} {ad : Nat → Nat} {cI cJ cR : ClassId} {Ln : Nat → Nat} {A : Nat → Prop}  {Q : Int32 → cs_T → Prop} (fx : xr_Fx p m c meth cX1_headTimes 5 s args wsX1_headTimes RX1 (some .int)) (hK : xr_K D (cs_ty cI cJ cR) s) (hA : ∀ q, s.heap.size ≤ q → A q)   : ∀ (n : Nat) (S : cs_T) (v1 : Int32) (v2 : Int32) (v3 : Int32) (v4 : Int32) {H : Heap} {locs : List Loc} {ls : Array Slot}, va_P D vwCl (cs_w ad cI cR Ln S) H → va_D A (cs_w ad cI cR Ln S) → va_S A s.heap H locs → lv_has ls 5 [(0, .ref (ad 3)), (1, .int v1), (2, .int v2), (3, .int v3), (4, .int v4)] → wp_X1_headTimes_5 Ln Q n S v1 v2 v3 v4 → W p l e rm_X1_headTimes s m args below meth c H locs 0 0 (MQ below (va_Qi Q (xr_B D (cs_ty cI cJ cR) (cs_w ad cI cR Ln) A) A) args s 0 0 A) (F0 m 5 ls []) := by
  intro n
  induction n with
  | zero => intro S v1 v2 v3 v4 H locs ls hP hD hS hl h; exact False.elim h
  | succ n ih => intro S v1 v2 v3 v4 H locs ls hP hD hS hl h; exact kb_X1_headTimes_5 fx hK hA ih hP hD hS hl h
set_option maxHeartbeats 4000000 in
set_option maxRecDepth 100000 in
theorem ct_X1_headTimes (l : Launch) (D : va_G) (ad : Nat → Nat) (cI cJ cR : ClassId) (Ln : Nat → Nat) {S : cs_T} {a1 : Int32} {a2 : Int32} {a3 : Int32} {Q : Int32 → cs_T → Prop} (h : wp_X1_headTimes Ln S a1 a2 a3 Q) : xr_I l D (cs_ty cI cJ cR) (cs_w ad cI cR Ln) yX1_headTimes wsX1_headTimes rm_X1_headTimes [.ref (ad 3), .int a1, .int a2, .int a3] S Q := by
  refine xr_eI (cc := cX1_headTimes) (nL := 5) (ret := (some .int)) (own := RX1) (by decide) rfl rfl (Nat.le_of_ble_eq_true rfl) ?_
  intro p e s m args below meth c ls A fx hK hA hP hD hS hl
  have hl : lv_has ls 5 [(0, .ref (ad 3)), (1, .int a1), (2, .int a2), (3, .int a3)] := hl
  show W p l e rm_X1_headTimes s m args below meth c s.heap [] 0 0 _ _
  obtain ⟨⟨hx, hb, hml, hown, hts⟩, hrt, hlk⟩ := id fx
  have hf : 0 ≤ rm_X1_headTimes.cells ∧ 0 ≤ rm_X1_headTimes.slots := ⟨Nat.zero_le _, Nat.zero_le _⟩
  unfold wp_X1_headTimes at h
  refine lv_iload_n hx hb dX1_headTimes_0 rfl (lv_at hl 1 rfl) ?_
  refine lv_iload_n hx hb dX1_headTimes_1 rfl (lv_at hl 3 rfl) ?_
  refine lv_iadd hx hb dX1_headTimes_2 ?_
  refine lv_topi (fun v4_6 ev4_6 => ?_)
  have h := h v4_6 ev4_6
  refine lv_istore (lv' := [(4, .int v4_6), (0, .ref (ad 3)), (1, .int a1), (2, .int a2), (3, .int a3)]) hx hb dX1_headTimes_3 hl (by decide) rfl (fun ls hl => ?_)
  obtain ⟨n, h⟩ := h
  exact kw_X1_headTimes_5 fx hK hA n _ _ _ _ _ hP hD hS (lv_sub hl [1, 2, 3, 4, 0] rfl) h
abbrev rm_X0_scale : Room := { frames := 1, cells := 0, slots := 0, locals := 21 }
set_option maxHeartbeats 4000000 in
set_option maxRecDepth 100000 in
theorem kb_X0_scale_2 {p : Program} {l : Launch} {e : Env} {s : State} {m : MethodId} {args : Array Value} {below : List Frame} {meth : Method} {c : Code} {D : va_G} {ad : Nat → Nat} {cI cJ cR : ClassId} {Ln : Nat → Nat} {A : Nat → Prop}  {K2 : cs_T → Nat → Int32 → Int32 → Prop} {Q : cs_T → Prop} {S : cs_T} {v1 : Nat} {v2 : Int32} {v3 : Int32} (fx : xr_Fx p m c meth cX0_scale 4 s args wsX0_scale RX0 none) (hK : xr_K D (cs_ty cI cJ cR) s) (hA : ∀ q, s.heap.size ≤ q → A q)   (k2 : ∀ (S : cs_T) (v1 : Nat) (v2 : Int32) (v3 : Int32) {H : Heap} {locs : List Loc} {ls : Array Slot}, va_P D vwCl (cs_w ad cI cR Ln S) H → va_D A (cs_w ad cI cR Ln S) → va_S A s.heap H locs → lv_has ls 4 [(0, .ref (ad 2)), (1, .ref (ad (9 + v1))), (2, .int v2), (3, .int v3)] → K2 S v1 v2 v3 → W p l e rm_X0_scale s m args below meth c H locs 0 0 (MQ below (va_Qv Q (xr_B D (cs_ty cI cJ cR) (cs_w ad cI cR Ln) A) A) args s 0 0 A) (F0 m 2 ls [])) {H : Heap} {locs : List Loc} {ls : Array Slot} (hP : va_P D vwCl (cs_w ad cI cR Ln S) H) (hD : va_D A (cs_w ad cI cR Ln S)) (hS : va_S A s.heap H locs) (hl : lv_has ls 4 [(0, .ref (ad 2)), (1, .ref (ad (9 + v1))), (2, .int v2), (3, .int v3)]) (h : wb_X0_scale_2 Ln K2 Q S v1 v2 v3) : W p l e rm_X0_scale s m args below meth c H locs 0 0 (MQ below (va_Qv Q (xr_B D (cs_ty cI cJ cR) (cs_w ad cI cR Ln) A) A) args s 0 0 A) (F0 m 2 ls []) := by
  obtain ⟨⟨hx, hb, hml, hown, hts⟩, hrt, hlk⟩ := id fx
  have hf : 0 ≤ rm_X0_scale.cells ∧ 0 ≤ rm_X0_scale.slots := ⟨Nat.zero_le _, Nat.zero_le _⟩
  unfold wb_X0_scale_2 at h
  refine lv_iload_n hx hb dX0_scale_2 rfl (lv_at hl 3 rfl) ?_
  refine lv_aload_n hx hb dX0_scale_3 rfl (lv_at hl 1 rfl) ?_
  obtain ⟨hk1, h⟩ := h
  refine cs_alen v1 hk1 fx hK hP dX0_scale_4 ?_
  refine lv_icmp_ge (tgt := 24) hx hb dX0_scale_5 (by decide) (fun c5 => ?_) (fun c5 => ?_)
  · have h := h.1 c5
    exact xr_rV fx hK hP hD hS h dX0_scale_24
  · have h := h.2 c5
    refine lv_aload_n hx hb dX0_scale_8 rfl (lv_at hl 1 rfl) ?_
    refine lv_iload_n hx hb dX0_scale_9 rfl (lv_at hl 3 rfl) ?_
    refine lv_aload_n hx hb dX0_scale_10 rfl (lv_at hl 1 rfl) ?_
    refine lv_iload_n hx hb dX0_scale_11 rfl (lv_at hl 3 rfl) ?_
    obtain ⟨hi2, h⟩ := h
    refine cs_iald v1 hk1 fx hK hP hi2 dX0_scale_12 ?_
    refine lv_iload_n hx hb dX0_scale_13 rfl (lv_at hl 2 rfl) ?_
    refine xr_sI (n := 2) (As := [.int (S.2.1 v1 v3.toNatClampNeg), .int v2]) (rest := [.int v3, .ref (ad (9 + v1))]) fx (ct_X3_product l h) gX0_scale_X3_product rfl rfl (by decide +kernel) ⟨Nat.le_of_ble_eq_true rfl, Nat.le_of_ble_eq_true rfl⟩ ⟨rfl, rfl⟩ hf hl.1 rfl (Nat.le_of_ble_eq_true rfl) dX0_scale_14 (fun r3 h => ?_)
    obtain ⟨hi4, h⟩ := h
    refine cs_iast v1 hk1 fx hK hP hD hS hi4 dX0_scale_17 (fun H locs hP hD hS => ?_)
    obtain ⟨v3_5, ev3_5⟩ : ∃ z : Int32, z = v3 + 1 := ⟨_, rfl⟩
    have h := h v3_5 ev3_5
    refine lv_iinc (v := v3_5) (lv' := [(3, .int v3_5), (0, .ref (ad 2)), (1, .ref (ad (9 + v1))), (2, .int v2)]) hx hb dX0_scale_18 hl (k := 3) rfl (by rw [ev3_5]; rfl) (by decide) rfl (fun ls hl => ?_)
    refine lv_goto (tgt := 2) hx hb dX0_scale_21 (by decide) ?_
    exact k2 _ _ _ _ hP hD hS (lv_sub hl [1, 2, 3, 0] rfl) h
theorem kw_X0_scale_2 {p : Program} {l : Launch} {e : Env} {s : State} {m : MethodId} {args : Array Value} {below : List Frame} {meth : Method} {c : Code} {D : va_G} {ad : Nat → Nat} {cI cJ cR : ClassId} {Ln : Nat → Nat} {A : Nat → Prop}  {Q : cs_T → Prop} (fx : xr_Fx p m c meth cX0_scale 4 s args wsX0_scale RX0 none) (hK : xr_K D (cs_ty cI cJ cR) s) (hA : ∀ q, s.heap.size ≤ q → A q)   : ∀ (n : Nat) (S : cs_T) (v1 : Nat) (v2 : Int32) (v3 : Int32) {H : Heap} {locs : List Loc} {ls : Array Slot}, va_P D vwCl (cs_w ad cI cR Ln S) H → va_D A (cs_w ad cI cR Ln S) → va_S A s.heap H locs → lv_has ls 4 [(0, .ref (ad 2)), (1, .ref (ad (9 + v1))), (2, .int v2), (3, .int v3)] → wp_X0_scale_2 Ln Q n S v1 v2 v3 → W p l e rm_X0_scale s m args below meth c H locs 0 0 (MQ below (va_Qv Q (xr_B D (cs_ty cI cJ cR) (cs_w ad cI cR Ln) A) A) args s 0 0 A) (F0 m 2 ls []) := by
  intro n
  induction n with
  | zero => intro S v1 v2 v3 H locs ls hP hD hS hl h; exact False.elim h
  | succ n ih => intro S v1 v2 v3 H locs ls hP hD hS hl h; exact kb_X0_scale_2 fx hK hA ih hP hD hS hl h
set_option maxHeartbeats 4000000 in
set_option maxRecDepth 100000 in
theorem ct_X0_scale (l : Launch) (D : va_G) (ad : Nat → Nat) (cI cJ cR : ClassId) (Ln : Nat → Nat) {S : cs_T} {a1 : Nat} {a2 : Int32} {Q : cs_T → Prop} (h : wp_X0_scale Ln S a1 a2 Q) : xr_V l D (cs_ty cI cJ cR) (cs_w ad cI cR Ln) yX0_scale wsX0_scale rm_X0_scale [.ref (ad 2), .ref (ad (9 + a1)), .int a2] S Q := by
  refine xr_eV (cc := cX0_scale) (nL := 4) (ret := none) (own := RX0) (by decide) rfl rfl (Nat.le_of_ble_eq_true rfl) ?_
  intro p e s m args below meth c ls A fx hK hA hP hD hS hl
  have hl : lv_has ls 4 [(0, .ref (ad 2)), (1, .ref (ad (9 + a1))), (2, .int a2)] := hl
  show W p l e rm_X0_scale s m args below meth c s.heap [] 0 0 _ _
  obtain ⟨⟨hx, hb, hml, hown, hts⟩, hrt, hlk⟩ := id fx
  have hf : 0 ≤ rm_X0_scale.cells ∧ 0 ≤ rm_X0_scale.slots := ⟨Nat.zero_le _, Nat.zero_le _⟩
  unfold wp_X0_scale at h
  refine lv_iconst (v := 0) hx hb dX0_scale_0 (by decide) ?_
  refine lv_istore_n (lv' := [(3, .int 0), (0, .ref (ad 2)), (1, .ref (ad (9 + a1))), (2, .int a2)]) hx hb dX0_scale_1 rfl hl (by decide) rfl (fun ls hl => ?_)
  obtain ⟨n, h⟩ := h
  exact kw_X0_scale_2 fx hK hA n _ _ _ _ hP hD hS (lv_sub hl [1, 2, 3, 0] rfl) h
abbrev rm_X1_measureSpelled (d : Nat) : Room := { frames := 11 * d, cells := 0, slots := 0, locals := 314 * d }
theorem in_X1_measureSpelled_X1 : ∀ w ∈ wsX10, w ∈ wsX1_measureSpelled := by decide +kernel
set_option maxHeartbeats 4000000 in
set_option maxRecDepth 100000 in
theorem cq_X1_measureSpelled (l : Launch) (D : va_G) (ad : Nat → Nat) (cI cJ cR : ClassId) (Ln : Nat → Nat) (d : Nat) {R : cs_T → Int32 → Int32 → Int32 → (cs_T → Prop) → Prop} (hR : ∀ (S : cs_T) (b0 : Int32) (b1 : Int32) (b2 : Int32) (Q : cs_T → Prop), R S b0 b1 b2 Q → xr_V l D (cs_ty cI cJ cR) (cs_w ad cI cR Ln) yX1_measureSpelled wsX1_measureSpelled (rm_X1_measureSpelled d) [.ref (ad 3), .int b0, .int b1, .int b2] S Q) {S : cs_T} {a1 : Int32} {a2 : Int32} {a3 : Int32} {Q : cs_T → Prop} (h : wq_X1_measureSpelled R Ln S a1 a2 a3 Q) : xr_V l D (cs_ty cI cJ cR) (cs_w ad cI cR Ln) yX1_measureSpelled wsX1_measureSpelled (rm_X1_measureSpelled (d + 1)) [.ref (ad 3), .int a1, .int a2, .int a3] S Q := by
  refine xr_eV (cc := cX1_measureSpelled) (nL := 6) (ret := none) (own := RX1) (by decide) rfl rfl (Nat.le_of_ble_eq_true rfl) ?_
  intro p e s m args below meth c ls A fx hK hA hP hD hS hl
  have hl : lv_has ls 6 [(0, .ref (ad 3)), (1, .int a1), (2, .int a2), (3, .int a3)] := hl
  show W p l e (rm_X1_measureSpelled (d + 1)) s m args below meth c s.heap [] 0 0 _ _
  obtain ⟨⟨hx, hb, hml, hown, hts⟩, hrt, hlk⟩ := id fx
  have hf : 0 ≤ (rm_X1_measureSpelled (d + 1)).cells ∧ 0 ≤ (rm_X1_measureSpelled (d + 1)).slots := ⟨Nat.zero_le _, Nat.zero_le _⟩
  unfold wq_X1_measureSpelled at h
  refine lv_aload_n hx hb dX1_measureSpelled_0 rfl (lv_at hl 0 rfl) ?_
  refine cs_get 3 1 6 (v := .ref (ad 8)) (ref := "BracketLetters$Chiefs") fx (by decide) rfl rfl in_X1_measureSpelled_X1 (by decide) rfl (by decide +kernel) rfl hK hP dX1_measureSpelled_1 ?_
  refine lv_iload_n hx hb dX1_measureSpelled_4 rfl (lv_at hl 3 rfl) ?_
  obtain ⟨hi1, h⟩ := h
  refine cs_aald 8 18 15 fx (by decide) rfl hK hP hi1 dX1_measureSpelled_5 ?_
  refine lv_astore (lv' := [(4, .ref (ad (9 + (15 + a3.toNatClampNeg)))), (0, .ref (ad 3)), (1, .int a1), (2, .int a2), (3, .int a3)]) hx hb dX1_measureSpelled_6 hl (by decide) rfl (fun ls hl => ?_)
  refine lv_iload_n hx hb dX1_measureSpelled_8 rfl (lv_at hl 2 rfl) ?_
  refine lv_iload_n hx hb dX1_measureSpelled_9 rfl (lv_at hl 3 rfl) ?_
  refine lv_icmp_ge (tgt := 24) hx hb dX1_measureSpelled_10 (by decide) (fun c10 => ?_) (fun c10 => ?_)
  · have h := h.1 c10
    refine lv_aload_n hx hb dX1_measureSpelled_24 rfl (lv_at hl 1 rfl) ?_
    refine cs_get 3 1 5 (v := .ref (ad 2)) (ref := "BracketLetters$Chiefs") fx (by decide) rfl rfl in_X1_measureSpelled_X1 (by decide) rfl (by decide +kernel) rfl hK hP dX1_measureSpelled_25 ?_
    refine lv_aload hx hb dX1_measureSpelled_28 (lv_at hl 0 rfl) ?_
    refine lv_iconst (v := 1) hx hb dX1_measureSpelled_30 (by decide) ?_
    refine xr_vV (n := 2) (As := [.ref (ad (9 + (15 + a3.toNatClampNeg))), .int 1]) (rest := []) fx (ct_X0_setToUnit l D ad cI cJ cR Ln h) gX1_measureSpelled_X0_setToUnit rfl rfl (by decide +kernel) (by constructor <;> simp [rm_X1_measureSpelled, rm_X0_setToUnit] <;> omega) ⟨rfl, rfl⟩ hf (cs_recv 2 0 (by decide) rfl rfl hK hP) hK hP hD hS hA hl.1 rfl (Nat.le_of_ble_eq_true rfl) dX1_measureSpelled_31 (fun S2 H locs h hP hD hS => ?_)
    exact xr_rV fx hK hP hD hS h dX1_measureSpelled_34
  · have h := h.2 c10
    refine lv_iload_n hx hb dX1_measureSpelled_13 rfl (lv_at hl 4 rfl) ?_
    refine lv_iconst (v := 1) hx hb dX1_measureSpelled_14 (by decide) ?_
    refine lv_iadd hx hb dX1_measureSpelled_15 ?_
    refine lv_aload_n hx hb dX1_measureSpelled_16 rfl (lv_at hl 1 rfl) ?_
    refine cs_get 3 1 6 (v := .ref (ad 8)) (ref := "BracketLetters$Chiefs") fx (by decide) rfl rfl in_X1_measureSpelled_X1 (by decide) rfl (by decide +kernel) rfl hK hP dX1_measureSpelled_17 ?_
    refine cs_glen 8 18 15 fx (by decide) rfl hK hP dX1_measureSpelled_20 ?_
    refine lv_icmp_lt (tgt := 35) hx hb dX1_measureSpelled_21 (by decide) (fun c21 => ?_) (fun c21 => ?_)
    · have h := h.1 c21
      refine lv_aload_n hx hb dX1_measureSpelled_35 rfl (lv_at hl 1 rfl) ?_
      refine lv_iload_n hx hb dX1_measureSpelled_36 rfl (lv_at hl 2 rfl) ?_
      refine lv_iload_n hx hb dX1_measureSpelled_37 rfl (lv_at hl 3 rfl) ?_
      refine xr_vI (n := 2) (As := [.int a1, .int a2]) (rest := []) fx (ct_X1_headLength l D ad cI cJ cR Ln h) gX1_measureSpelled_X1_headLength rfl rfl (by decide +kernel) (by constructor <;> simp [rm_X1_measureSpelled, rm_X1_headLength] <;> omega) ⟨rfl, rfl⟩ hf (cs_recv 3 1 (by decide) rfl rfl hK hP) hK hP hD hS hA hl.1 rfl (Nat.le_of_ble_eq_true rfl) dX1_measureSpelled_38 (fun r4 S3 H locs h hP hD hS => ?_)
      refine lv_istore (lv' := [(5, .int r4), (4, .ref (ad (9 + (15 + a3.toNatClampNeg)))), (0, .ref (ad 3)), (1, .int a1), (2, .int a2), (3, .int a3)]) hx hb dX1_measureSpelled_41 hl (by decide) rfl (fun ls hl => ?_)
      refine lv_iload hx hb dX1_measureSpelled_43 (lv_at hl 0 rfl) ?_
      refine lv_iload_n hx hb dX1_measureSpelled_45 rfl (lv_at hl 4 rfl) ?_
      refine lv_iload_n hx hb dX1_measureSpelled_46 rfl (lv_at hl 3 rfl) ?_
      refine lv_isub hx hb dX1_measureSpelled_47 ?_
      refine lv_icmp_ne (tgt := 77) hx hb dX1_measureSpelled_48 (by decide) (fun c48 => ?_) (fun c48 => ?_)
      · have h := h.1 c48
        refine lv_aload_n hx hb dX1_measureSpelled_77 rfl (lv_at hl 2 rfl) ?_
        refine lv_iload_n hx hb dX1_measureSpelled_78 rfl (lv_at hl 3 rfl) ?_
        refine lv_iload hx hb dX1_measureSpelled_79 (lv_at hl 0 rfl) ?_
        refine lv_iadd hx hb dX1_measureSpelled_81 ?_
        refine lv_iload_n hx hb dX1_measureSpelled_82 rfl (lv_at hl 4 rfl) ?_
        refine lv_iload_n hx hb dX1_measureSpelled_83 rfl (lv_at hl 5 rfl) ?_
        refine xr_vV (n := 3) (As := [.int (a1 + r4), .int a2, .int a3]) (rest := []) fx (hR _ _ _ _ _ h) gX1_measureSpelled_X1_measureSpelled rfl rfl (by decide +kernel) (by constructor <;> simp [rm_X1_measureSpelled, rm_X1_measureSpelled] <;> omega) ⟨rfl, rfl⟩ hf (cs_recv 3 1 (by decide) rfl rfl hK hP) hK hP hD hS hA hl.1 rfl (Nat.le_of_ble_eq_true rfl) dX1_measureSpelled_84 (fun S5 H locs h hP hD hS => ?_)
        refine lv_aload_n hx hb dX1_measureSpelled_87 rfl (lv_at hl 2 rfl) ?_
        refine lv_iload_n hx hb dX1_measureSpelled_88 rfl (lv_at hl 3 rfl) ?_
        refine lv_iload_n hx hb dX1_measureSpelled_89 rfl (lv_at hl 3 rfl) ?_
        refine lv_iload hx hb dX1_measureSpelled_90 (lv_at hl 0 rfl) ?_
        refine lv_iadd hx hb dX1_measureSpelled_92 ?_
        refine lv_iload_n hx hb dX1_measureSpelled_93 rfl (lv_at hl 5 rfl) ?_
        refine lv_iconst (v := 1) hx hb dX1_measureSpelled_94 (by decide) ?_
        refine lv_iadd hx hb dX1_measureSpelled_95 ?_
        refine xr_vV (n := 3) (As := [.int a1, .int (a1 + r4), .int (a3 + 1)]) (rest := []) fx (hR _ _ _ _ _ h) gX1_measureSpelled_X1_measureSpelled rfl rfl (by decide +kernel) (by constructor <;> simp [rm_X1_measureSpelled, rm_X1_measureSpelled] <;> omega) ⟨rfl, rfl⟩ hf (cs_recv 3 1 (by decide) rfl rfl hK hP) hK hP hD hS hA hl.1 rfl (Nat.le_of_ble_eq_true rfl) dX1_measureSpelled_96 (fun S6 H locs h hP hD hS => ?_)
        refine lv_aload_n hx hb dX1_measureSpelled_99 rfl (lv_at hl 2 rfl) ?_
        refine cs_get 3 1 5 (v := .ref (ad 2)) (ref := "BracketLetters$Chiefs") fx (by decide) rfl rfl in_X1_measureSpelled_X1 (by decide) rfl (by decide +kernel) rfl hK hP dX1_measureSpelled_100 ?_
        refine lv_aload hx hb dX1_measureSpelled_103 (lv_at hl 1 rfl) ?_
        refine lv_aload hx hb dX1_measureSpelled_105 (lv_at hl 1 rfl) ?_
        refine lv_aload_n hx hb dX1_measureSpelled_107 rfl (lv_at hl 2 rfl) ?_
        refine cs_get 3 1 6 (v := .ref (ad 8)) (ref := "BracketLetters$Chiefs") fx (by decide) rfl rfl in_X1_measureSpelled_X1 (by decide) rfl (by decide +kernel) rfl hK hP dX1_measureSpelled_108 ?_
        refine lv_iload_n hx hb dX1_measureSpelled_111 rfl (lv_at hl 5 rfl) ?_
        refine lv_iconst (v := 1) hx hb dX1_measureSpelled_112 (by decide) ?_
        refine lv_iadd hx hb dX1_measureSpelled_113 ?_
        obtain ⟨hi7, h⟩ := h
        refine cs_aald 8 18 15 fx (by decide) rfl hK hP hi7 dX1_measureSpelled_114 ?_
        refine xr_vV (n := 3) (As := [.ref (ad (9 + (15 + a3.toNatClampNeg))), .ref (ad (9 + (15 + a3.toNatClampNeg))), .ref (ad (9 + (15 + (a3 + 1).toNatClampNeg)))]) (rest := []) fx (ct_X0_mingle l D ad cI cJ cR Ln h) gX1_measureSpelled_X0_mingle rfl rfl (by decide +kernel) (by constructor <;> simp [rm_X1_measureSpelled, rm_X0_mingle] <;> omega) ⟨rfl, rfl⟩ hf (cs_recv 2 0 (by decide) rfl rfl hK hP) hK hP hD hS hA hl.1 rfl (Nat.le_of_ble_eq_true rfl) dX1_measureSpelled_115 (fun S8 H locs h hP hD hS => ?_)
        refine lv_aload_n hx hb dX1_measureSpelled_118 rfl (lv_at hl 2 rfl) ?_
        refine cs_get 3 1 5 (v := .ref (ad 2)) (ref := "BracketLetters$Chiefs") fx (by decide) rfl rfl in_X1_measureSpelled_X1 (by decide) rfl (by decide +kernel) rfl hK hP dX1_measureSpelled_119 ?_
        refine lv_aload hx hb dX1_measureSpelled_122 (lv_at hl 1 rfl) ?_
        refine lv_aload_n hx hb dX1_measureSpelled_124 rfl (lv_at hl 2 rfl) ?_
        refine lv_iload_n hx hb dX1_measureSpelled_125 rfl (lv_at hl 3 rfl) ?_
        refine lv_iload_n hx hb dX1_measureSpelled_126 rfl (lv_at hl 4 rfl) ?_
        refine lv_iload hx hb dX1_measureSpelled_127 (lv_at hl 0 rfl) ?_
        refine xr_vI (n := 3) (As := [.int a1, .int a2, .int r4]) (rest := [.ref (ad (9 + (15 + a3.toNatClampNeg))), .ref (ad 2)]) fx (ct_X1_headTimes l D ad cI cJ cR Ln h) gX1_measureSpelled_X1_headTimes rfl rfl (by decide +kernel) (by constructor <;> simp [rm_X1_measureSpelled, rm_X1_headTimes] <;> omega) ⟨rfl, rfl⟩ hf (cs_recv 3 1 (by decide) rfl rfl hK hP) hK hP hD hS hA hl.1 rfl (Nat.le_of_ble_eq_true rfl) dX1_measureSpelled_129 (fun r10 S9 H locs h hP hD hS => ?_)
        refine xr_sI (n := 1) (As := [.int r10]) (rest := [.ref (ad (9 + (15 + a3.toNatClampNeg))), .ref (ad 2)]) fx (ct_X3_reciprocal l h) gX1_measureSpelled_X3_reciprocal rfl rfl (by decide +kernel) (by constructor <;> simp [rm_X1_measureSpelled, rm_X3_reciprocal] <;> omega) ⟨rfl, rfl⟩ hf hl.1 rfl (Nat.le_of_ble_eq_true rfl) dX1_measureSpelled_132 (fun r11 h => ?_)
        refine xr_vV (n := 2) (As := [.ref (ad (9 + (15 + a3.toNatClampNeg))), .int r11]) (rest := []) fx (ct_X0_scale l D ad cI cJ cR Ln h) gX1_measureSpelled_X0_scale rfl rfl (by decide +kernel) (by constructor <;> simp [rm_X1_measureSpelled, rm_X0_scale] <;> omega) ⟨rfl, rfl⟩ hf (cs_recv 2 0 (by decide) rfl rfl hK hP) hK hP hD hS hA hl.1 rfl (Nat.le_of_ble_eq_true rfl) dX1_measureSpelled_135 (fun S12 H locs h hP hD hS => ?_)
        exact xr_rV fx hK hP hD hS h dX1_measureSpelled_138
      · have h := h.2 c48
        refine lv_aload_n hx hb dX1_measureSpelled_51 rfl (lv_at hl 2 rfl) ?_
        refine lv_iload_n hx hb dX1_measureSpelled_52 rfl (lv_at hl 3 rfl) ?_
        refine lv_iconst (v := 1) hx hb dX1_measureSpelled_53 (by decide) ?_
        refine lv_iadd hx hb dX1_measureSpelled_54 ?_
        refine lv_iload_n hx hb dX1_measureSpelled_55 rfl (lv_at hl 4 rfl) ?_
        refine lv_iload_n hx hb dX1_measureSpelled_56 rfl (lv_at hl 5 rfl) ?_
        refine xr_vV (n := 3) (As := [.int (a1 + 1), .int a2, .int a3]) (rest := []) fx (hR _ _ _ _ _ h) gX1_measureSpelled_X1_measureSpelled rfl rfl (by decide +kernel) (by constructor <;> simp [rm_X1_measureSpelled, rm_X1_measureSpelled] <;> omega) ⟨rfl, rfl⟩ hf (cs_recv 3 1 (by decide) rfl rfl hK hP) hK hP hD hS hA hl.1 rfl (Nat.le_of_ble_eq_true rfl) dX1_measureSpelled_57 (fun S13 H locs h hP hD hS => ?_)
        refine lv_aload_n hx hb dX1_measureSpelled_60 rfl (lv_at hl 2 rfl) ?_
        refine lv_aload hx hb dX1_measureSpelled_61 (lv_at hl 1 rfl) ?_
        refine lv_aload_n hx hb dX1_measureSpelled_63 rfl (lv_at hl 2 rfl) ?_
        refine cs_get 3 1 7 (v := .ref (ad (9 + 37))) (ref := "BracketLetters$Chiefs") fx (by decide) rfl rfl in_X1_measureSpelled_X1 (by decide) rfl (by decide +kernel) rfl hK hP dX1_measureSpelled_64 ?_
        refine lv_iload_n hx hb dX1_measureSpelled_67 rfl (lv_at hl 3 rfl) ?_
        obtain ⟨hi14, h⟩ := h
        refine cs_iald 37 (by decide) fx hK hP hi14 dX1_measureSpelled_68 ?_
        refine lv_iload hx hb dX1_measureSpelled_69 (lv_at hl 0 rfl) ?_
        refine lv_iconst (v := 1) hx hb dX1_measureSpelled_71 (by decide) ?_
        refine lv_isub hx hb dX1_measureSpelled_72 ?_
        refine xr_vV (n := 3) (As := [.ref (ad (9 + (15 + a3.toNatClampNeg))), .int (S13.2.1 37 a1.toNatClampNeg), .int (r4 - 1)]) (rest := []) fx (ct_X1_setAhead l D ad cI cJ cR Ln h) gX1_measureSpelled_X1_setAhead rfl rfl (by decide +kernel) (by constructor <;> simp [rm_X1_measureSpelled, rm_X1_setAhead] <;> omega) ⟨rfl, rfl⟩ hf (cs_recv 3 1 (by decide) rfl rfl hK hP) hK hP hD hS hA hl.1 rfl (Nat.le_of_ble_eq_true rfl) dX1_measureSpelled_73 (fun S15 H locs h hP hD hS => ?_)
        exact xr_rV fx hK hP hD hS h dX1_measureSpelled_76
    · have h := h.2 c21
      refine lv_aload_n hx hb dX1_measureSpelled_24 rfl (lv_at hl 1 rfl) ?_
      refine cs_get 3 1 5 (v := .ref (ad 2)) (ref := "BracketLetters$Chiefs") fx (by decide) rfl rfl in_X1_measureSpelled_X1 (by decide) rfl (by decide +kernel) rfl hK hP dX1_measureSpelled_25 ?_
      refine lv_aload hx hb dX1_measureSpelled_28 (lv_at hl 0 rfl) ?_
      refine lv_iconst (v := 1) hx hb dX1_measureSpelled_30 (by decide) ?_
      refine xr_vV (n := 2) (As := [.ref (ad (9 + (15 + a3.toNatClampNeg))), .int 1]) (rest := []) fx (ct_X0_setToUnit l D ad cI cJ cR Ln h) gX1_measureSpelled_X0_setToUnit rfl rfl (by decide +kernel) (by constructor <;> simp [rm_X1_measureSpelled, rm_X0_setToUnit] <;> omega) ⟨rfl, rfl⟩ hf (cs_recv 2 0 (by decide) rfl rfl hK hP) hK hP hD hS hA hl.1 rfl (Nat.le_of_ble_eq_true rfl) dX1_measureSpelled_31 (fun S16 H locs h hP hD hS => ?_)
      exact xr_rV fx hK hP hD hS h dX1_measureSpelled_34
theorem ct_X1_measureSpelled (l : Launch) (D : va_G) (ad : Nat → Nat) (cI cJ cR : ClassId) (Ln : Nat → Nat) : ∀ (d : Nat) (S : cs_T) (a1 : Int32) (a2 : Int32) (a3 : Int32) (Q : cs_T → Prop), wp_X1_measureSpelled Ln d S a1 a2 a3 Q → xr_V l D (cs_ty cI cJ cR) (cs_w ad cI cR Ln) yX1_measureSpelled wsX1_measureSpelled (rm_X1_measureSpelled d) [.ref (ad 3), .int a1, .int a2, .int a3] S Q := by
  intro d
  induction d with
  | zero => intro S a1 a2 a3 Q h; exact False.elim h
  | succ d ih => intro S a1 a2 a3 Q h; exact cq_X1_measureSpelled l D ad cI cJ cR Ln d ih h
abbrev rm_X1_measure : Room := { frames := 89, cells := 0, slots := 0, locals := 2537 }
theorem in_X1_measure_X1 : ∀ w ∈ wsX10, w ∈ wsX1_measure := by decide +kernel
set_option maxHeartbeats 4000000 in
set_option maxRecDepth 100000 in
theorem ct_X1_measure (l : Launch) (D : va_G) (ad : Nat → Nat) (cI cJ cR : ClassId) (Ln : Nat → Nat) {S : cs_T} {a1 : Int32} {a2 : Int32} {Q : cs_T → Prop} (h : wp_X1_measure Ln S a1 a2 Q) : xr_V l D (cs_ty cI cJ cR) (cs_w ad cI cR Ln) yX1_measure wsX1_measure rm_X1_measure [.ref (ad 3), .int a1, .int a2] S Q := by
  refine xr_eV (cc := cX1_measure) (nL := 4) (ret := none) (own := RX1) (by decide) rfl rfl (Nat.le_of_ble_eq_true rfl) ?_
  intro p e s m args below meth c ls A fx hK hA hP hD hS hl
  have hl : lv_has ls 4 [(0, .ref (ad 3)), (1, .int a1), (2, .int a2)] := hl
  show W p l e rm_X1_measure s m args below meth c s.heap [] 0 0 _ _
  obtain ⟨⟨hx, hb, hml, hown, hts⟩, hrt, hlk⟩ := id fx
  have hf : 0 ≤ rm_X1_measure.cells ∧ 0 ≤ rm_X1_measure.slots := ⟨Nat.zero_le _, Nat.zero_le _⟩
  unfold wp_X1_measure at h
  refine lv_aload_n hx hb dX1_measure_0 rfl (lv_at hl 0 rfl) ?_
  refine cs_get 3 1 4 (v := .ref (ad 1)) (ref := "BracketLetters$Chiefs") fx (by decide) rfl rfl in_X1_measure_X1 (by decide) rfl (by decide +kernel) rfl hK hP dX1_measure_1 ?_
  refine lv_iload_n hx hb dX1_measure_4 rfl (lv_at hl 1 rfl) ?_
  refine xr_vI (n := 1) (As := [.int a1]) (rest := []) fx (ct_X6_lengthOf l D ad cI cJ cR Ln h) gX1_measure_X6_lengthOf rfl rfl (by decide +kernel) ⟨Nat.le_of_ble_eq_true rfl, Nat.le_of_ble_eq_true rfl⟩ ⟨rfl, rfl⟩ hf (cs_recv 1 5 (by decide) rfl rfl hK hP) hK hP hD hS hA hl.1 rfl (Nat.le_of_ble_eq_true rfl) dX1_measure_5 (fun r2 S1 H locs h hP hD hS => ?_)
  refine lv_istore_n (lv' := [(3, .int r2), (0, .ref (ad 3)), (1, .int a1), (2, .int a2)]) hx hb dX1_measure_8 rfl hl (by decide) rfl (fun ls hl => ?_)
  refine lv_aload_n hx hb dX1_measure_9 rfl (lv_at hl 1 rfl) ?_
  refine lv_iload_n hx hb dX1_measure_10 rfl (lv_at hl 2 rfl) ?_
  refine lv_iload_n hx hb dX1_measure_11 rfl (lv_at hl 0 rfl) ?_
  refine xr_vV (n := 2) (As := [.int a1, .int r2]) (rest := []) fx (ct_X1_spell l D ad cI cJ cR Ln h) gX1_measure_X1_spell rfl rfl (by decide +kernel) ⟨Nat.le_of_ble_eq_true rfl, Nat.le_of_ble_eq_true rfl⟩ ⟨rfl, rfl⟩ hf (cs_recv 3 1 (by decide) rfl rfl hK hP) hK hP hD hS hA hl.1 rfl (Nat.le_of_ble_eq_true rfl) dX1_measure_12 (fun S3 H locs h hP hD hS => ?_)
  refine lv_aload_n hx hb dX1_measure_15 rfl (lv_at hl 1 rfl) ?_
  refine lv_iconst (v := 0) hx hb dX1_measure_16 (by decide) ?_
  refine lv_iload_n hx hb dX1_measure_17 rfl (lv_at hl 0 rfl) ?_
  refine lv_iload_n hx hb dX1_measure_18 rfl (lv_at hl 3 rfl) ?_
  refine xr_vV (n := 3) (As := [.int 0, .int r2, .int a2]) (rest := []) fx (ct_X1_measureSpelled l D ad cI cJ cR Ln 8 _ _ _ _ _ h) gX1_measure_X1_measureSpelled rfl rfl (by decide +kernel) ⟨Nat.le_of_ble_eq_true rfl, Nat.le_of_ble_eq_true rfl⟩ ⟨rfl, rfl⟩ hf (cs_recv 3 1 (by decide) rfl rfl hK hP) hK hP hD hS hA hl.1 rfl (Nat.le_of_ble_eq_true rfl) dX1_measure_19 (fun S4 H locs h hP hD hS => ?_)
  exact xr_rV fx hK hP hD hS h dX1_measure_22
abbrev rm_X7_share : Room := { frames := 90, cells := 0, slots := 0, locals := 2560 }
theorem in_X7_share_X7 : ∀ w ∈ wsX70, w ∈ wsX7_share := by decide +kernel
theorem in_X7_share_X0 : ∀ w ∈ wsX00, w ∈ wsX7_share := by decide +kernel
set_option maxHeartbeats 4000000 in
set_option maxRecDepth 100000 in
theorem ct_X7_share (l : Launch) (D : va_G) (ad : Nat → Nat) (cI cJ cR : ClassId) (Ln : Nat → Nat) {S : cs_T} {a1 : Int32} {a2 : Int32} {Q : Int32 → cs_T → Prop} (h : wp_X7_share Ln S a1 a2 Q) : xr_I l D (cs_ty cI cJ cR) (cs_w ad cI cR Ln) yX7_share wsX7_share rm_X7_share [.ref (ad 0), .int a1, .int a2] S Q := by
  refine xr_eI (cc := cX7_share) (nL := 4) (ret := (some .int)) (own := RX7) (by decide) rfl rfl (Nat.le_of_ble_eq_true rfl) ?_
  intro p e s m args below meth c ls A fx hK hA hP hD hS hl
  have hl : lv_has ls 4 [(0, .ref (ad 0)), (1, .int a1), (2, .int a2)] := hl
  show W p l e rm_X7_share s m args below meth c s.heap [] 0 0 _ _
  obtain ⟨⟨hx, hb, hml, hown, hts⟩, hrt, hlk⟩ := id fx
  have hf : 0 ≤ rm_X7_share.cells ∧ 0 ≤ rm_X7_share.slots := ⟨Nat.zero_le _, Nat.zero_le _⟩
  unfold wp_X7_share at h
  refine lv_aload_n hx hb dX7_share_0 rfl (lv_at hl 0 rfl) ?_
  refine cs_get 0 6 0 (v := .ref (ad 1)) (ref := "BracketLetters") fx (by decide) rfl rfl in_X7_share_X7 (by decide) rfl (by decide +kernel) rfl hK hP dX7_share_1 ?_
  refine lv_iload_n hx hb dX7_share_4 rfl (lv_at hl 2 rfl) ?_
  refine xr_vI (n := 1) (As := [.int a2]) (rest := []) fx (ct_X6_placeOf l D ad cI cJ cR Ln h) gX7_share_X6_placeOf rfl rfl (by decide +kernel) ⟨Nat.le_of_ble_eq_true rfl, Nat.le_of_ble_eq_true rfl⟩ ⟨rfl, rfl⟩ hf (cs_recv 1 5 (by decide) rfl rfl hK hP) hK hP hD hS hA hl.1 rfl (Nat.le_of_ble_eq_true rfl) dX7_share_5 (fun r2 S1 H locs h hP hD hS => ?_)
  refine lv_istore_n (lv' := [(3, .int r2), (0, .ref (ad 0)), (1, .int a1), (2, .int a2)]) hx hb dX7_share_8 rfl hl (by decide) rfl (fun ls hl => ?_)
  refine lv_iload_n hx hb dX7_share_9 rfl (lv_at hl 2 rfl) ?_
  refine xr_sI (n := 1) (As := [.int a1]) (rest := []) fx (ct_X7_noSum l h) gX7_share_X7_noSum rfl rfl (by decide +kernel) ⟨Nat.le_of_ble_eq_true rfl, Nat.le_of_ble_eq_true rfl⟩ ⟨rfl, rfl⟩ hf hl.1 rfl (Nat.le_of_ble_eq_true rfl) dX7_share_10 (fun r3 h => ?_)
  refine lv_if_ne (tgt := 20) hx hb dX7_share_13 (by decide) (fun c13 => ?_) (fun c13 => ?_)
  · have h := h.1 c13
    refine lv_iconst (v := (-1)) hx hb dX7_share_20 (by decide) ?_
    exact xr_rI fx hK hP hD hS h dX7_share_21
  · have h := h.2 c13
    refine lv_iload_n hx hb dX7_share_16 rfl (lv_at hl 0 rfl) ?_
    refine lv_if_ge (tgt := 22) hx hb dX7_share_17 (by decide) (fun c17 => ?_) (fun c17 => ?_)
    · have h := h.1 c17
      refine lv_aload_n hx hb dX7_share_22 rfl (lv_at hl 1 rfl) ?_
      refine cs_get 0 6 3 (v := .ref (ad 3)) (ref := "BracketLetters") fx (by decide) rfl rfl in_X7_share_X7 (by decide) rfl (by decide +kernel) rfl hK hP dX7_share_23 ?_
      refine lv_iload_n hx hb dX7_share_26 rfl (lv_at hl 0 rfl) ?_
      refine lv_iconst (v := 0) hx hb dX7_share_27 (by decide) ?_
      refine xr_vV (n := 2) (As := [.int r2, .int 0]) (rest := []) fx (ct_X1_measure l D ad cI cJ cR Ln h) gX7_share_X1_measure rfl rfl (by decide +kernel) ⟨Nat.le_of_ble_eq_true rfl, Nat.le_of_ble_eq_true rfl⟩ ⟨rfl, rfl⟩ hf (cs_recv 3 1 (by decide) rfl rfl hK hP) hK hP hD hS hA hl.1 rfl (Nat.le_of_ble_eq_true rfl) dX7_share_28 (fun S4 H locs h hP hD hS => ?_)
      refine lv_aload_n hx hb dX7_share_31 rfl (lv_at hl 1 rfl) ?_
      refine cs_get 0 6 2 (v := .ref (ad 2)) (ref := "BracketLetters") fx (by decide) rfl rfl in_X7_share_X7 (by decide) rfl (by decide +kernel) rfl hK hP dX7_share_32 ?_
      refine lv_aload_n hx hb dX7_share_35 rfl (lv_at hl 1 rfl) ?_
      refine cs_get 0 6 1 (v := .ref (ad 7)) (ref := "BracketLetters") fx (by decide) rfl rfl in_X7_share_X7 (by decide) rfl (by decide +kernel) rfl hK hP dX7_share_36 ?_
      refine lv_iload_n hx hb dX7_share_39 rfl (lv_at hl 2 rfl) ?_
      obtain ⟨hi5, h⟩ := h
      refine cs_aald 7 8 7 fx (by decide) rfl hK hP hi5 dX7_share_40 ?_
      refine lv_aload_n hx hb dX7_share_41 rfl (lv_at hl 1 rfl) ?_
      refine cs_get 0 6 2 (v := .ref (ad 2)) (ref := "BracketLetters") fx (by decide) rfl rfl in_X7_share_X7 (by decide) rfl (by decide +kernel) rfl hK hP dX7_share_42 ?_
      refine cs_get 2 0 0 (v := .ref (ad 8)) (ref := "BracketLetters$Algebra") fx (by decide) rfl rfl in_X7_share_X0 (by decide) rfl (by decide +kernel) rfl hK hP dX7_share_45 ?_
      refine lv_iconst (v := 0) hx hb dX7_share_48 (by decide) ?_
      obtain ⟨hi6, h⟩ := h
      refine cs_aald 8 18 15 fx (by decide) rfl hK hP hi6 dX7_share_49 ?_
      refine xr_vI (n := 2) (As := [.ref (ad (9 + (7 + a1.toNatClampNeg))), .ref (ad (9 + (15 + ((0 : Int32)).toNatClampNeg)))]) (rest := []) fx (ct_X0_inner l D ad cI cJ cR Ln h) gX7_share_X0_inner rfl rfl (by decide +kernel) ⟨Nat.le_of_ble_eq_true rfl, Nat.le_of_ble_eq_true rfl⟩ ⟨rfl, rfl⟩ hf (cs_recv 2 0 (by decide) rfl rfl hK hP) hK hP hD hS hA hl.1 rfl (Nat.le_of_ble_eq_true rfl) dX7_share_50 (fun r8 S7 H locs h hP hD hS => ?_)
      exact xr_rI fx hK hP hD hS h dX7_share_53
    · have h := h.2 c17
      refine lv_iconst (v := (-1)) hx hb dX7_share_20 (by decide) ?_
      exact xr_rI fx hK hP hD hS h dX7_share_21
abbrev rm_X0_isNought : Room := { frames := 0, cells := 0, slots := 0, locals := 0 }
theorem in_X0_isNought_X0 : ∀ w ∈ wsX00, w ∈ wsX0_isNought := by decide +kernel
set_option maxHeartbeats 4000000 in
set_option maxRecDepth 100000 in
theorem kb_X0_isNought_7 {p : Program} {l : Launch} {e : Env} {s : State} {m : MethodId} {args : Array Value} {below : List Frame} {meth : Method} {c : Code} {D : va_G} {ad : Nat → Nat} {cI cJ cR : ClassId} {Ln : Nat → Nat} {A : Nat → Prop}  {K7 : cs_T → Nat → Int32 → Int32 → Prop} {Q : Int32 → cs_T → Prop} {S : cs_T} {v1 : Nat} {v2 : Int32} {v3 : Int32} (fx : xr_Fx p m c meth cX0_isNought 4 s args wsX0_isNought RX0 (some .boolean)) (hK : xr_K D (cs_ty cI cJ cR) s) (hA : ∀ q, s.heap.size ≤ q → A q)   (k7 : ∀ (S : cs_T) (v1 : Nat) (v2 : Int32) (v3 : Int32) {H : Heap} {locs : List Loc} {ls : Array Slot}, va_P D vwCl (cs_w ad cI cR Ln S) H → va_D A (cs_w ad cI cR Ln S) → va_S A s.heap H locs → lv_has ls 4 [(0, .ref (ad 2)), (1, .ref (ad (9 + v1))), (2, .int v2), (3, .int v3)] → K7 S v1 v2 v3 → W p l e rm_X0_isNought s m args below meth c H locs 0 0 (MQ below (va_Qi Q (xr_B D (cs_ty cI cJ cR) (cs_w ad cI cR Ln) A) A) args s 0 0 A) (F0 m 7 ls [])) {H : Heap} {locs : List Loc} {ls : Array Slot} (hP : va_P D vwCl (cs_w ad cI cR Ln S) H) (hD : va_D A (cs_w ad cI cR Ln S)) (hS : va_S A s.heap H locs) (hl : lv_has ls 4 [(0, .ref (ad 2)), (1, .ref (ad (9 + v1))), (2, .int v2), (3, .int v3)]) (h : wb_X0_isNought_7 Ln K7 Q S v1 v2 v3) : W p l e rm_X0_isNought s m args below meth c H locs 0 0 (MQ below (va_Qi Q (xr_B D (cs_ty cI cJ cR) (cs_w ad cI cR Ln) A) A) args s 0 0 A) (F0 m 7 ls []) := by
  obtain ⟨⟨hx, hb, hml, hown, hts⟩, hrt, hlk⟩ := id fx
  have hf : 0 ≤ rm_X0_isNought.cells ∧ 0 ≤ rm_X0_isNought.slots := ⟨Nat.zero_le _, Nat.zero_le _⟩
  unfold wb_X0_isNought_7 at h
  refine lv_iload_n hx hb dX0_isNought_7 rfl (lv_at hl 3 rfl) ?_
  refine lv_aload_n hx hb dX0_isNought_8 rfl (lv_at hl 0 rfl) ?_
  refine cs_get 2 0 5 (v := .ref (ad (9 + 1))) (ref := "BracketLetters$Algebra") fx (by decide) rfl rfl in_X0_isNought_X0 (by decide) rfl (by decide +kernel) rfl hK hP dX0_isNought_9 ?_
  refine lv_iload_n hx hb dX0_isNought_12 rfl (lv_at hl 2 rfl) ?_
  refine lv_iconst (v := 1) hx hb dX0_isNought_13 (by decide) ?_
  refine lv_iadd hx hb dX0_isNought_14 ?_
  obtain ⟨hi1, h⟩ := h
  refine cs_iald 1 (by decide) fx hK hP hi1 dX0_isNought_15 ?_
  refine lv_icmp_ge (tgt := 33) hx hb dX0_isNought_16 (by decide) (fun c16 => ?_) (fun c16 => ?_)
  · have h := h.1 c16
    refine lv_iconst (v := 1) hx hb dX0_isNought_33 (by decide) ?_
    exact xr_rZ fx rfl hK hP hD hS h dX0_isNought_34
  · have h := h.2 c16
    refine lv_aload_n hx hb dX0_isNought_19 rfl (lv_at hl 1 rfl) ?_
    refine lv_iload_n hx hb dX0_isNought_20 rfl (lv_at hl 3 rfl) ?_
    obtain ⟨hk3, h⟩ := h
    obtain ⟨hi2, h⟩ := h
    refine cs_iald v1 hk3 fx hK hP hi2 dX0_isNought_21 ?_
    refine lv_if_eq (tgt := 27) hx hb dX0_isNought_22 (by decide) (fun c22 => ?_) (fun c22 => ?_)
    · have h := h.1 c22
      obtain ⟨v3_4, ev3_4⟩ : ∃ z : Int32, z = v3 + 1 := ⟨_, rfl⟩
      have h := h v3_4 ev3_4
      refine lv_iinc (v := v3_4) (lv' := [(3, .int v3_4), (0, .ref (ad 2)), (1, .ref (ad (9 + v1))), (2, .int v2)]) hx hb dX0_isNought_27 hl (k := 3) rfl (by rw [ev3_4]; rfl) (by decide) rfl (fun ls hl => ?_)
      refine lv_goto (tgt := 7) hx hb dX0_isNought_30 (by decide) ?_
      exact k7 _ _ _ _ hP hD hS (lv_sub hl [1, 2, 3, 0] rfl) h
    · have h := h.2 c22
      refine lv_iconst (v := 0) hx hb dX0_isNought_25 (by decide) ?_
      exact xr_rZ fx rfl hK hP hD hS h dX0_isNought_26
theorem kw_X0_isNought_7 {p : Program} {l : Launch} {e : Env} {s : State} {m : MethodId} {args : Array Value} {below : List Frame} {meth : Method} {c : Code} {D : va_G} {ad : Nat → Nat} {cI cJ cR : ClassId} {Ln : Nat → Nat} {A : Nat → Prop}  {Q : Int32 → cs_T → Prop} (fx : xr_Fx p m c meth cX0_isNought 4 s args wsX0_isNought RX0 (some .boolean)) (hK : xr_K D (cs_ty cI cJ cR) s) (hA : ∀ q, s.heap.size ≤ q → A q)   : ∀ (n : Nat) (S : cs_T) (v1 : Nat) (v2 : Int32) (v3 : Int32) {H : Heap} {locs : List Loc} {ls : Array Slot}, va_P D vwCl (cs_w ad cI cR Ln S) H → va_D A (cs_w ad cI cR Ln S) → va_S A s.heap H locs → lv_has ls 4 [(0, .ref (ad 2)), (1, .ref (ad (9 + v1))), (2, .int v2), (3, .int v3)] → wp_X0_isNought_7 Ln Q n S v1 v2 v3 → W p l e rm_X0_isNought s m args below meth c H locs 0 0 (MQ below (va_Qi Q (xr_B D (cs_ty cI cJ cR) (cs_w ad cI cR Ln) A) A) args s 0 0 A) (F0 m 7 ls []) := by
  intro n
  induction n with
  | zero => intro S v1 v2 v3 H locs ls hP hD hS hl h; exact False.elim h
  | succ n ih => intro S v1 v2 v3 H locs ls hP hD hS hl h; exact kb_X0_isNought_7 fx hK hA ih hP hD hS hl h
set_option maxHeartbeats 4000000 in
set_option maxRecDepth 100000 in
theorem ct_X0_isNought (l : Launch) (D : va_G) (ad : Nat → Nat) (cI cJ cR : ClassId) (Ln : Nat → Nat) {S : cs_T} {a1 : Nat} {a2 : Int32} {Q : Int32 → cs_T → Prop} (h : wp_X0_isNought Ln S a1 a2 Q) : xr_I l D (cs_ty cI cJ cR) (cs_w ad cI cR Ln) yX0_isNought wsX0_isNought rm_X0_isNought [.ref (ad 2), .ref (ad (9 + a1)), .int a2] S Q := by
  refine xr_eI (cc := cX0_isNought) (nL := 4) (ret := (some .boolean)) (own := RX0) (by decide) rfl rfl (Nat.le_of_ble_eq_true rfl) ?_
  intro p e s m args below meth c ls A fx hK hA hP hD hS hl
  have hl : lv_has ls 4 [(0, .ref (ad 2)), (1, .ref (ad (9 + a1))), (2, .int a2)] := hl
  show W p l e rm_X0_isNought s m args below meth c s.heap [] 0 0 _ _
  obtain ⟨⟨hx, hb, hml, hown, hts⟩, hrt, hlk⟩ := id fx
  have hf : 0 ≤ rm_X0_isNought.cells ∧ 0 ≤ rm_X0_isNought.slots := ⟨Nat.zero_le _, Nat.zero_le _⟩
  unfold wp_X0_isNought at h
  refine lv_aload_n hx hb dX0_isNought_0 rfl (lv_at hl 0 rfl) ?_
  refine cs_get 2 0 5 (v := .ref (ad (9 + 1))) (ref := "BracketLetters$Algebra") fx (by decide) rfl rfl in_X0_isNought_X0 (by decide) rfl (by decide +kernel) rfl hK hP dX0_isNought_1 ?_
  refine lv_iload_n hx hb dX0_isNought_4 rfl (lv_at hl 2 rfl) ?_
  obtain ⟨hi5, h⟩ := h
  refine cs_iald 1 (by decide) fx hK hP hi5 dX0_isNought_5 ?_
  refine lv_topi (fun v3_6 ev3_6 => ?_)
  have h := h v3_6 ev3_6
  refine lv_istore_n (lv' := [(3, .int v3_6), (0, .ref (ad 2)), (1, .ref (ad (9 + a1))), (2, .int a2)]) hx hb dX0_isNought_6 rfl hl (by decide) rfl (fun ls hl => ?_)
  obtain ⟨n, h⟩ := h
  exact kw_X0_isNought_7 fx hK hA n _ _ _ _ hP hD hS (lv_sub hl [1, 2, 3, 0] rfl) h
abbrev rm_X0_lastAhead : Room := { frames := 0, cells := 0, slots := 0, locals := 0 }
theorem in_X0_lastAhead_X0 : ∀ w ∈ wsX00, w ∈ wsX0_lastAhead := by decide +kernel
set_option maxHeartbeats 4000000 in
set_option maxRecDepth 100000 in
theorem ct_X0_lastAhead (l : Launch) (D : va_G) (ad : Nat → Nat) (cI cJ cR : ClassId) (Ln : Nat → Nat) {S : cs_T} {a1 : Int32} {a2 : Int32} {Q : Int32 → cs_T → Prop} (h : wp_X0_lastAhead Ln S a1 a2 Q) : xr_I l D (cs_ty cI cJ cR) (cs_w ad cI cR Ln) yX0_lastAhead wsX0_lastAhead rm_X0_lastAhead [.ref (ad 2), .int a1, .int a2] S Q := by
  refine xr_eI (cc := cX0_lastAhead) (nL := 5) (ret := (some .int)) (own := RX0) (by decide) rfl rfl (Nat.le_of_ble_eq_true rfl) ?_
  intro p e s m args below meth c ls A fx hK hA hP hD hS hl
  have hl : lv_has ls 5 [(0, .ref (ad 2)), (1, .int a1), (2, .int a2)] := hl
  show W p l e rm_X0_lastAhead s m args below meth c s.heap [] 0 0 _ _
  obtain ⟨⟨hx, hb, hml, hown, hts⟩, hrt, hlk⟩ := id fx
  have hf : 0 ≤ rm_X0_lastAhead.cells ∧ 0 ≤ rm_X0_lastAhead.slots := ⟨Nat.zero_le _, Nat.zero_le _⟩
  unfold wp_X0_lastAhead at h
  refine lv_iload_n hx hb dX0_lastAhead_0 rfl (lv_at hl 1 rfl) ?_
  refine lv_aload_n hx hb dX0_lastAhead_1 rfl (lv_at hl 0 rfl) ?_
  refine cs_get 2 0 4 (v := .ref (ad (9 + 0))) (ref := "BracketLetters$Algebra") fx (by decide) rfl rfl in_X0_lastAhead_X0 (by decide) rfl (by decide +kernel) rfl hK hP dX0_lastAhead_2 ?_
  refine lv_iload_n hx hb dX0_lastAhead_5 rfl (lv_at hl 2 rfl) ?_
  obtain ⟨hi1, h⟩ := h
  refine cs_iald 0 (by decide) fx hK hP hi1 dX0_lastAhead_6 ?_
  obtain ⟨hz2, h⟩ := h
  refine lv_idiv hx hb dX0_lastAhead_7 hz2 ?_
  refine lv_topi (fun v3_3 ev3_3 => ?_)
  have h := h v3_3 ev3_3
  refine lv_istore_n (lv' := [(3, .int v3_3), (0, .ref (ad 2)), (1, .int a1), (2, .int a2)]) hx hb dX0_lastAhead_8 rfl hl (by decide) rfl (fun ls hl => ?_)
  refine lv_iload_n hx hb dX0_lastAhead_9 rfl (lv_at hl 2 rfl) ?_
  refine lv_aload_n hx hb dX0_lastAhead_10 rfl (lv_at hl 1 rfl) ?_
  refine cs_get 2 0 4 (v := .ref (ad (9 + 0))) (ref := "BracketLetters$Algebra") fx (by decide) rfl rfl in_X0_lastAhead_X0 (by decide) rfl (by decide +kernel) rfl hK hP dX0_lastAhead_11 ?_
  refine lv_iload_n hx hb dX0_lastAhead_14 rfl (lv_at hl 3 rfl) ?_
  obtain ⟨hi4, h⟩ := h
  refine cs_iald 0 (by decide) fx hK hP hi4 dX0_lastAhead_15 ?_
  obtain ⟨hz5, h⟩ := h
  refine lv_irem hx hb dX0_lastAhead_16 hz5 ?_
  refine lv_topi (fun v4_6 ev4_6 => ?_)
  have h := h v4_6 ev4_6
  refine lv_istore (lv' := [(4, .int v4_6), (3, .int v3_3), (0, .ref (ad 2)), (1, .int a1), (2, .int a2)]) hx hb dX0_lastAhead_17 hl (by decide) rfl (fun ls hl => ?_)
  refine lv_iload_n hx hb dX0_lastAhead_19 rfl (lv_at hl 1 rfl) ?_
  refine lv_aload_n hx hb dX0_lastAhead_20 rfl (lv_at hl 2 rfl) ?_
  refine cs_get 2 0 4 (v := .ref (ad (9 + 0))) (ref := "BracketLetters$Algebra") fx (by decide) rfl rfl in_X0_lastAhead_X0 (by decide) rfl (by decide +kernel) rfl hK hP dX0_lastAhead_21 ?_
  refine lv_iload_n hx hb dX0_lastAhead_24 rfl (lv_at hl 4 rfl) ?_
  obtain ⟨hi7, h⟩ := h
  refine cs_iald 0 (by decide) fx hK hP hi7 dX0_lastAhead_25 ?_
  refine lv_imul hx hb dX0_lastAhead_26 ?_
  refine lv_iload hx hb dX0_lastAhead_27 (lv_at hl 0 rfl) ?_
  refine lv_aload_n hx hb dX0_lastAhead_29 rfl (lv_at hl 2 rfl) ?_
  refine cs_get 2 0 3 (v := .int (S.1 1)) (ref := "BracketLetters$Algebra") fx (by decide) rfl rfl in_X0_lastAhead_X0 (by decide) rfl (by decide +kernel) rfl hK hP dX0_lastAhead_30 ?_
  obtain ⟨hz8, h⟩ := h
  refine lv_irem hx hb dX0_lastAhead_33 hz8 ?_
  refine lv_aload_n hx hb dX0_lastAhead_34 rfl (lv_at hl 2 rfl) ?_
  refine cs_get 2 0 4 (v := .ref (ad (9 + 0))) (ref := "BracketLetters$Algebra") fx (by decide) rfl rfl in_X0_lastAhead_X0 (by decide) rfl (by decide +kernel) rfl hK hP dX0_lastAhead_35 ?_
  refine lv_iload_n hx hb dX0_lastAhead_38 rfl (lv_at hl 4 rfl) ?_
  refine lv_iconst (v := 1) hx hb dX0_lastAhead_39 (by decide) ?_
  refine lv_isub hx hb dX0_lastAhead_40 ?_
  obtain ⟨hi9, h⟩ := h
  refine cs_iald 0 (by decide) fx hK hP hi9 dX0_lastAhead_41 ?_
  refine lv_imul hx hb dX0_lastAhead_42 ?_
  refine lv_iadd hx hb dX0_lastAhead_43 ?_
  refine lv_iload hx hb dX0_lastAhead_44 (lv_at hl 0 rfl) ?_
  refine lv_aload_n hx hb dX0_lastAhead_46 rfl (lv_at hl 2 rfl) ?_
  refine cs_get 2 0 3 (v := .int (S.1 1)) (ref := "BracketLetters$Algebra") fx (by decide) rfl rfl in_X0_lastAhead_X0 (by decide) rfl (by decide +kernel) rfl hK hP dX0_lastAhead_47 ?_
  obtain ⟨hz10, h⟩ := h
  refine lv_idiv hx hb dX0_lastAhead_50 hz10 ?_
  refine lv_iadd hx hb dX0_lastAhead_51 ?_
  exact xr_rI fx hK hP hD hS h dX0_lastAhead_52
abbrev rm_X0_isLieAt : Room := { frames := 1, cells := 0, slots := 0, locals := 48 }
theorem in_X0_isLieAt_X0 : ∀ w ∈ wsX00, w ∈ wsX0_isLieAt := by decide +kernel
set_option maxHeartbeats 4000000 in
set_option maxRecDepth 100000 in
theorem kb_X0_isLieAt_41 {p : Program} {l : Launch} {e : Env} {s : State} {m : MethodId} {args : Array Value} {below : List Frame} {meth : Method} {c : Code} {D : va_G} {ad : Nat → Nat} {cI cJ cR : ClassId} {Ln : Nat → Nat} {A : Nat → Prop} {K32 : cs_T → Nat → Int32 → Nat → Nat → Int32 → Prop} {K41 : cs_T → Nat → Int32 → Nat → Nat → Int32 → Int32 → Prop} {Q : Int32 → cs_T → Prop} {S : cs_T} {v1 : Nat} {v2 : Int32} {v3 : Nat} {v4 : Nat} {v5 : Int32} {v6 : Int32} (fx : xr_Fx p m c meth cX0_isLieAt 7 s args wsX0_isLieAt RX0 (some .boolean)) (hK : xr_K D (cs_ty cI cJ cR) s) (hA : ∀ q, s.heap.size ≤ q → A q)  (k32 : ∀ (S : cs_T) (v1 : Nat) (v2 : Int32) (v3 : Nat) (v4 : Nat) (v5 : Int32) {H : Heap} {locs : List Loc} {ls : Array Slot}, va_P D vwCl (cs_w ad cI cR Ln S) H → va_D A (cs_w ad cI cR Ln S) → va_S A s.heap H locs → lv_has ls 7 [(0, .ref (ad 2)), (1, .ref (ad (9 + v1))), (2, .int v2), (3, .ref (ad (9 + v3))), (4, .ref (ad (9 + v4))), (5, .int v5)] → K32 S v1 v2 v3 v4 v5 → W p l e rm_X0_isLieAt s m args below meth c H locs 0 0 (MQ below (va_Qi Q (xr_B D (cs_ty cI cJ cR) (cs_w ad cI cR Ln) A) A) args s 0 0 A) (F0 m 32 ls [])) (k41 : ∀ (S : cs_T) (v1 : Nat) (v2 : Int32) (v3 : Nat) (v4 : Nat) (v5 : Int32) (v6 : Int32) {H : Heap} {locs : List Loc} {ls : Array Slot}, va_P D vwCl (cs_w ad cI cR Ln S) H → va_D A (cs_w ad cI cR Ln S) → va_S A s.heap H locs → lv_has ls 7 [(0, .ref (ad 2)), (1, .ref (ad (9 + v1))), (2, .int v2), (3, .ref (ad (9 + v3))), (4, .ref (ad (9 + v4))), (5, .int v5), (6, .int v6)] → K41 S v1 v2 v3 v4 v5 v6 → W p l e rm_X0_isLieAt s m args below meth c H locs 0 0 (MQ below (va_Qi Q (xr_B D (cs_ty cI cJ cR) (cs_w ad cI cR Ln) A) A) args s 0 0 A) (F0 m 41 ls [])) {H : Heap} {locs : List Loc} {ls : Array Slot} (hP : va_P D vwCl (cs_w ad cI cR Ln S) H) (hD : va_D A (cs_w ad cI cR Ln S)) (hS : va_S A s.heap H locs) (hl : lv_has ls 7 [(0, .ref (ad 2)), (1, .ref (ad (9 + v1))), (2, .int v2), (3, .ref (ad (9 + v3))), (4, .ref (ad (9 + v4))), (5, .int v5), (6, .int v6)]) (h : wb_X0_isLieAt_41 Ln K32 K41 Q S v1 v2 v3 v4 v5 v6) : W p l e rm_X0_isLieAt s m args below meth c H locs 0 0 (MQ below (va_Qi Q (xr_B D (cs_ty cI cJ cR) (cs_w ad cI cR Ln) A) A) args s 0 0 A) (F0 m 41 ls []) := by
  obtain ⟨⟨hx, hb, hml, hown, hts⟩, hrt, hlk⟩ := id fx
  have hf : 0 ≤ rm_X0_isLieAt.cells ∧ 0 ≤ rm_X0_isLieAt.slots := ⟨Nat.zero_le _, Nat.zero_le _⟩
  unfold wb_X0_isLieAt_41 at h
  refine lv_iload hx hb dX0_isLieAt_41 (lv_at hl 6 rfl) ?_
  refine lv_aload_n hx hb dX0_isLieAt_43 rfl (lv_at hl 0 rfl) ?_
  refine cs_get 2 0 4 (v := .ref (ad (9 + 0))) (ref := "BracketLetters$Algebra") fx (by decide) rfl rfl in_X0_isLieAt_X0 (by decide) rfl (by decide +kernel) rfl hK hP dX0_isLieAt_44 ?_
  refine lv_iload_n hx hb dX0_isLieAt_47 rfl (lv_at hl 2 rfl) ?_
  obtain ⟨hi1, h⟩ := h
  refine cs_iald 0 (by decide) fx hK hP hi1 dX0_isLieAt_48 ?_
  refine lv_icmp_ge (tgt := 80) hx hb dX0_isLieAt_49 (by decide) (fun c49 => ?_) (fun c49 => ?_)
  · have h := h.1 c49
    refine lv_aload_n hx hb dX0_isLieAt_80 rfl (lv_at hl 3 rfl) ?_
    refine lv_astore (lv' := [(6, .ref (ad (9 + v3))), (0, .ref (ad 2)), (1, .ref (ad (9 + v1))), (2, .int v2), (3, .ref (ad (9 + v3))), (4, .ref (ad (9 + v4))), (5, .int v5)]) hx hb dX0_isLieAt_81 hl (by decide) rfl (fun ls hl => ?_)
    refine lv_aload hx hb dX0_isLieAt_83 (lv_at hl 5 rfl) ?_
    refine lv_astore_n (lv' := [(3, .ref (ad (9 + v4))), (6, .ref (ad (9 + v3))), (0, .ref (ad 2)), (1, .ref (ad (9 + v1))), (2, .int v2), (4, .ref (ad (9 + v4))), (5, .int v5)]) hx hb dX0_isLieAt_85 rfl hl (by decide) rfl (fun ls hl => ?_)
    refine lv_aload hx hb dX0_isLieAt_86 (lv_at hl 1 rfl) ?_
    refine lv_astore (lv' := [(4, .ref (ad (9 + v3))), (3, .ref (ad (9 + v4))), (6, .ref (ad (9 + v3))), (0, .ref (ad 2)), (1, .ref (ad (9 + v1))), (2, .int v2), (5, .int v5)]) hx hb dX0_isLieAt_88 hl (by decide) rfl (fun ls hl => ?_)
    obtain ⟨v5_2, ev5_2⟩ : ∃ z : Int32, z = v5 + 1 := ⟨_, rfl⟩
    have h := h v5_2 ev5_2
    refine lv_iinc (v := v5_2) (lv' := [(5, .int v5_2), (4, .ref (ad (9 + v3))), (3, .ref (ad (9 + v4))), (6, .ref (ad (9 + v3))), (0, .ref (ad 2)), (1, .ref (ad (9 + v1))), (2, .int v2)]) hx hb dX0_isLieAt_90 hl (k := 6) rfl (by rw [ev5_2]; rfl) (by decide) rfl (fun ls hl => ?_)
    refine lv_goto (tgt := 32) hx hb dX0_isLieAt_93 (by decide) ?_
    exact k32 _ _ _ _ _ _ hP hD hS (lv_sub hl [4, 5, 6, 2, 1, 0] rfl) h
  · have h := h.2 c49
    refine lv_aload hx hb dX0_isLieAt_52 (lv_at hl 4 rfl) ?_
    refine lv_iload hx hb dX0_isLieAt_54 (lv_at hl 6 rfl) ?_
    refine lv_aload_n hx hb dX0_isLieAt_56 rfl (lv_at hl 3 rfl) ?_
    refine lv_iload hx hb dX0_isLieAt_57 (lv_at hl 6 rfl) ?_
    obtain ⟨hk4, h⟩ := h
    obtain ⟨hi3, h⟩ := h
    refine cs_iald v3 hk4 fx hK hP hi3 dX0_isLieAt_59 ?_
    refine lv_aload_n hx hb dX0_isLieAt_60 rfl (lv_at hl 3 rfl) ?_
    refine lv_aload_n hx hb dX0_isLieAt_61 rfl (lv_at hl 0 rfl) ?_
    refine lv_iload hx hb dX0_isLieAt_62 (lv_at hl 6 rfl) ?_
    refine lv_iload hx hb dX0_isLieAt_64 (lv_at hl 5 rfl) ?_
    refine xr_vI (n := 2) (As := [.int v6, .int v5]) (rest := [.ref (ad (9 + v3)), .int (S.2.1 v3 v6.toNatClampNeg), .int v6, .ref (ad (9 + v4))]) fx (ct_X0_lastAhead l D ad cI cJ cR Ln h) gX0_isLieAt_X0_lastAhead rfl rfl (by decide +kernel) ⟨Nat.le_of_ble_eq_true rfl, Nat.le_of_ble_eq_true rfl⟩ ⟨rfl, rfl⟩ hf (cs_recv 2 0 (by decide) rfl rfl hK hP) hK hP hD hS hA hl.1 rfl (Nat.le_of_ble_eq_true rfl) dX0_isLieAt_66 (fun r6 S5 H locs h hP hD hS => ?_)
    obtain ⟨hi7, h⟩ := h
    refine cs_iald v3 hk4 fx hK hP hi7 dX0_isLieAt_69 ?_
    refine xr_sI (n := 2) (As := [.int (S.2.1 v3 v6.toNatClampNeg), .int (S5.2.1 v3 r6.toNatClampNeg)]) (rest := [.int v6, .ref (ad (9 + v4))]) fx (ct_X3_minus l h) gX0_isLieAt_X3_minus rfl rfl (by decide +kernel) ⟨Nat.le_of_ble_eq_true rfl, Nat.le_of_ble_eq_true rfl⟩ ⟨rfl, rfl⟩ hf hl.1 rfl (Nat.le_of_ble_eq_true rfl) dX0_isLieAt_70 (fun r8 h => ?_)
    obtain ⟨hk10, h⟩ := h
    obtain ⟨hi9, h⟩ := h
    refine cs_iast v4 hk10 fx hK hP hD hS hi9 dX0_isLieAt_73 (fun H locs hP hD hS => ?_)
    obtain ⟨v6_11, ev6_11⟩ : ∃ z : Int32, z = v6 + 1 := ⟨_, rfl⟩
    have h := h v6_11 ev6_11
    refine lv_iinc (v := v6_11) (lv' := [(6, .int v6_11), (0, .ref (ad 2)), (1, .ref (ad (9 + v1))), (2, .int v2), (3, .ref (ad (9 + v3))), (4, .ref (ad (9 + v4))), (5, .int v5)]) hx hb dX0_isLieAt_74 hl (k := 6) rfl (by rw [ev6_11]; rfl) (by decide) rfl (fun ls hl => ?_)
    refine lv_goto (tgt := 41) hx hb dX0_isLieAt_77 (by decide) ?_
    exact k41 _ _ _ _ _ _ _ hP hD hS (lv_sub hl [1, 2, 3, 4, 5, 6, 0] rfl) h
theorem kw_X0_isLieAt_41 {p : Program} {l : Launch} {e : Env} {s : State} {m : MethodId} {args : Array Value} {below : List Frame} {meth : Method} {c : Code} {D : va_G} {ad : Nat → Nat} {cI cJ cR : ClassId} {Ln : Nat → Nat} {A : Nat → Prop} {K32 : cs_T → Nat → Int32 → Nat → Nat → Int32 → Prop} {Q : Int32 → cs_T → Prop} (fx : xr_Fx p m c meth cX0_isLieAt 7 s args wsX0_isLieAt RX0 (some .boolean)) (hK : xr_K D (cs_ty cI cJ cR) s) (hA : ∀ q, s.heap.size ≤ q → A q)  (k32 : ∀ (S : cs_T) (v1 : Nat) (v2 : Int32) (v3 : Nat) (v4 : Nat) (v5 : Int32) {H : Heap} {locs : List Loc} {ls : Array Slot}, va_P D vwCl (cs_w ad cI cR Ln S) H → va_D A (cs_w ad cI cR Ln S) → va_S A s.heap H locs → lv_has ls 7 [(0, .ref (ad 2)), (1, .ref (ad (9 + v1))), (2, .int v2), (3, .ref (ad (9 + v3))), (4, .ref (ad (9 + v4))), (5, .int v5)] → K32 S v1 v2 v3 v4 v5 → W p l e rm_X0_isLieAt s m args below meth c H locs 0 0 (MQ below (va_Qi Q (xr_B D (cs_ty cI cJ cR) (cs_w ad cI cR Ln) A) A) args s 0 0 A) (F0 m 32 ls [])) : ∀ (n : Nat) (S : cs_T) (v1 : Nat) (v2 : Int32) (v3 : Nat) (v4 : Nat) (v5 : Int32) (v6 : Int32) {H : Heap} {locs : List Loc} {ls : Array Slot}, va_P D vwCl (cs_w ad cI cR Ln S) H → va_D A (cs_w ad cI cR Ln S) → va_S A s.heap H locs → lv_has ls 7 [(0, .ref (ad 2)), (1, .ref (ad (9 + v1))), (2, .int v2), (3, .ref (ad (9 + v3))), (4, .ref (ad (9 + v4))), (5, .int v5), (6, .int v6)] → wp_X0_isLieAt_41 Ln K32 Q n S v1 v2 v3 v4 v5 v6 → W p l e rm_X0_isLieAt s m args below meth c H locs 0 0 (MQ below (va_Qi Q (xr_B D (cs_ty cI cJ cR) (cs_w ad cI cR Ln) A) A) args s 0 0 A) (F0 m 41 ls []) := by
  intro n
  induction n with
  | zero => intro S v1 v2 v3 v4 v5 v6 H locs ls hP hD hS hl h; exact False.elim h
  | succ n ih => intro S v1 v2 v3 v4 v5 v6 H locs ls hP hD hS hl h; exact kb_X0_isLieAt_41 fx hK hA k32 ih hP hD hS hl h
set_option maxHeartbeats 4000000 in
set_option maxRecDepth 100000 in
theorem kb_X0_isLieAt_99 {p : Program} {l : Launch} {e : Env} {s : State} {m : MethodId} {args : Array Value} {below : List Frame} {meth : Method} {c : Code} {D : va_G} {ad : Nat → Nat} {cI cJ cR : ClassId} {Ln : Nat → Nat} {A : Nat → Prop}  {K99 : cs_T → Nat → Int32 → Nat → Int32 → Prop} {Q : Int32 → cs_T → Prop} {S : cs_T} {v1 : Nat} {v2 : Int32} {v3 : Nat} {v5 : Int32} (fx : xr_Fx p m c meth cX0_isLieAt 7 s args wsX0_isLieAt RX0 (some .boolean)) (hK : xr_K D (cs_ty cI cJ cR) s) (hA : ∀ q, s.heap.size ≤ q → A q)   (k99 : ∀ (S : cs_T) (v1 : Nat) (v2 : Int32) (v3 : Nat) (v5 : Int32) {H : Heap} {locs : List Loc} {ls : Array Slot}, va_P D vwCl (cs_w ad cI cR Ln S) H → va_D A (cs_w ad cI cR Ln S) → va_S A s.heap H locs → lv_has ls 7 [(0, .ref (ad 2)), (1, .ref (ad (9 + v1))), (2, .int v2), (3, .ref (ad (9 + v3))), (5, .int v5)] → K99 S v1 v2 v3 v5 → W p l e rm_X0_isLieAt s m args below meth c H locs 0 0 (MQ below (va_Qi Q (xr_B D (cs_ty cI cJ cR) (cs_w ad cI cR Ln) A) A) args s 0 0 A) (F0 m 99 ls [])) {H : Heap} {locs : List Loc} {ls : Array Slot} (hP : va_P D vwCl (cs_w ad cI cR Ln S) H) (hD : va_D A (cs_w ad cI cR Ln S)) (hS : va_S A s.heap H locs) (hl : lv_has ls 7 [(0, .ref (ad 2)), (1, .ref (ad (9 + v1))), (2, .int v2), (3, .ref (ad (9 + v3))), (5, .int v5)]) (h : wb_X0_isLieAt_99 Ln K99 Q S v1 v2 v3 v5) : W p l e rm_X0_isLieAt s m args below meth c H locs 0 0 (MQ below (va_Qi Q (xr_B D (cs_ty cI cJ cR) (cs_w ad cI cR Ln) A) A) args s 0 0 A) (F0 m 99 ls []) := by
  obtain ⟨⟨hx, hb, hml, hown, hts⟩, hrt, hlk⟩ := id fx
  have hf : 0 ≤ rm_X0_isLieAt.cells ∧ 0 ≤ rm_X0_isLieAt.slots := ⟨Nat.zero_le _, Nat.zero_le _⟩
  unfold wb_X0_isLieAt_99 at h
  refine lv_iload hx hb dX0_isLieAt_99 (lv_at hl 4 rfl) ?_
  refine lv_aload_n hx hb dX0_isLieAt_101 rfl (lv_at hl 0 rfl) ?_
  refine cs_get 2 0 4 (v := .ref (ad (9 + 0))) (ref := "BracketLetters$Algebra") fx (by decide) rfl rfl in_X0_isLieAt_X0 (by decide) rfl (by decide +kernel) rfl hK hP dX0_isLieAt_102 ?_
  refine lv_iload_n hx hb dX0_isLieAt_105 rfl (lv_at hl 2 rfl) ?_
  obtain ⟨hi12, h⟩ := h
  refine cs_iald 0 (by decide) fx hK hP hi12 dX0_isLieAt_106 ?_
  refine lv_icmp_ge (tgt := 140) hx hb dX0_isLieAt_107 (by decide) (fun c107 => ?_) (fun c107 => ?_)
  · have h := h.1 c107
    refine lv_iconst (v := 1) hx hb dX0_isLieAt_140 (by decide) ?_
    exact xr_rZ fx rfl hK hP hD hS h dX0_isLieAt_141
  · have h := h.2 c107
    refine lv_aload_n hx hb dX0_isLieAt_110 rfl (lv_at hl 3 rfl) ?_
    refine lv_iload hx hb dX0_isLieAt_111 (lv_at hl 4 rfl) ?_
    obtain ⟨hk14, h⟩ := h
    obtain ⟨hi13, h⟩ := h
    refine cs_iald v3 hk14 fx hK hP hi13 dX0_isLieAt_113 ?_
    refine lv_aload_n hx hb dX0_isLieAt_114 rfl (lv_at hl 1 rfl) ?_
    refine lv_aload_n hx hb dX0_isLieAt_115 rfl (lv_at hl 0 rfl) ?_
    refine cs_get 2 0 5 (v := .ref (ad (9 + 1))) (ref := "BracketLetters$Algebra") fx (by decide) rfl rfl in_X0_isLieAt_X0 (by decide) rfl (by decide +kernel) rfl hK hP dX0_isLieAt_116 ?_
    refine lv_iload_n hx hb dX0_isLieAt_119 rfl (lv_at hl 2 rfl) ?_
    obtain ⟨hi15, h⟩ := h
    refine cs_iald 1 (by decide) fx hK hP hi15 dX0_isLieAt_120 ?_
    refine lv_iload hx hb dX0_isLieAt_121 (lv_at hl 4 rfl) ?_
    refine lv_iadd hx hb dX0_isLieAt_123 ?_
    obtain ⟨hk17, h⟩ := h
    obtain ⟨hi16, h⟩ := h
    refine cs_iald v1 hk17 fx hK hP hi16 dX0_isLieAt_124 ?_
    refine lv_iload_n hx hb dX0_isLieAt_125 rfl (lv_at hl 2 rfl) ?_
    refine xr_sI (n := 2) (As := [.int (S.2.1 v1 ((S.2.1 1 v2.toNatClampNeg) + v5).toNatClampNeg), .int v2]) (rest := [.int (S.2.1 v3 v5.toNatClampNeg)]) fx (ct_X3_product l h) gX0_isLieAt_X3_product rfl rfl (by decide +kernel) ⟨Nat.le_of_ble_eq_true rfl, Nat.le_of_ble_eq_true rfl⟩ ⟨rfl, rfl⟩ hf hl.1 rfl (Nat.le_of_ble_eq_true rfl) dX0_isLieAt_126 (fun r18 h => ?_)
    refine lv_icmp_eq (tgt := 134) hx hb dX0_isLieAt_129 (by decide) (fun c129 => ?_) (fun c129 => ?_)
    · have h := h.1 c129
      obtain ⟨v5_19, ev5_19⟩ : ∃ z : Int32, z = v5 + 1 := ⟨_, rfl⟩
      have h := h v5_19 ev5_19
      refine lv_iinc (v := v5_19) (lv' := [(5, .int v5_19), (0, .ref (ad 2)), (1, .ref (ad (9 + v1))), (2, .int v2), (3, .ref (ad (9 + v3)))]) hx hb dX0_isLieAt_134 hl (k := 4) rfl (by rw [ev5_19]; rfl) (by decide) rfl (fun ls hl => ?_)
      refine lv_goto (tgt := 99) hx hb dX0_isLieAt_137 (by decide) ?_
      exact k99 _ _ _ _ _ hP hD hS (lv_sub hl [1, 2, 3, 4, 0] rfl) h
    · have h := h.2 c129
      refine lv_iconst (v := 0) hx hb dX0_isLieAt_132 (by decide) ?_
      exact xr_rZ fx rfl hK hP hD hS h dX0_isLieAt_133
theorem kw_X0_isLieAt_99 {p : Program} {l : Launch} {e : Env} {s : State} {m : MethodId} {args : Array Value} {below : List Frame} {meth : Method} {c : Code} {D : va_G} {ad : Nat → Nat} {cI cJ cR : ClassId} {Ln : Nat → Nat} {A : Nat → Prop}  {Q : Int32 → cs_T → Prop} (fx : xr_Fx p m c meth cX0_isLieAt 7 s args wsX0_isLieAt RX0 (some .boolean)) (hK : xr_K D (cs_ty cI cJ cR) s) (hA : ∀ q, s.heap.size ≤ q → A q)   : ∀ (n : Nat) (S : cs_T) (v1 : Nat) (v2 : Int32) (v3 : Nat) (v5 : Int32) {H : Heap} {locs : List Loc} {ls : Array Slot}, va_P D vwCl (cs_w ad cI cR Ln S) H → va_D A (cs_w ad cI cR Ln S) → va_S A s.heap H locs → lv_has ls 7 [(0, .ref (ad 2)), (1, .ref (ad (9 + v1))), (2, .int v2), (3, .ref (ad (9 + v3))), (5, .int v5)] → wp_X0_isLieAt_99 Ln Q n S v1 v2 v3 v5 → W p l e rm_X0_isLieAt s m args below meth c H locs 0 0 (MQ below (va_Qi Q (xr_B D (cs_ty cI cJ cR) (cs_w ad cI cR Ln) A) A) args s 0 0 A) (F0 m 99 ls []) := by
  intro n
  induction n with
  | zero => intro S v1 v2 v3 v5 H locs ls hP hD hS hl h; exact False.elim h
  | succ n ih => intro S v1 v2 v3 v5 H locs ls hP hD hS hl h; exact kb_X0_isLieAt_99 fx hK hA ih hP hD hS hl h
set_option maxHeartbeats 4000000 in
set_option maxRecDepth 100000 in
theorem kb_X0_isLieAt_32 {p : Program} {l : Launch} {e : Env} {s : State} {m : MethodId} {args : Array Value} {below : List Frame} {meth : Method} {c : Code} {D : va_G} {ad : Nat → Nat} {cI cJ cR : ClassId} {Ln : Nat → Nat} {A : Nat → Prop}  {K32 : cs_T → Nat → Int32 → Nat → Nat → Int32 → Prop} {Q : Int32 → cs_T → Prop} {S : cs_T} {v1 : Nat} {v2 : Int32} {v3 : Nat} {v4 : Nat} {v5 : Int32} (fx : xr_Fx p m c meth cX0_isLieAt 7 s args wsX0_isLieAt RX0 (some .boolean)) (hK : xr_K D (cs_ty cI cJ cR) s) (hA : ∀ q, s.heap.size ≤ q → A q)   (k32 : ∀ (S : cs_T) (v1 : Nat) (v2 : Int32) (v3 : Nat) (v4 : Nat) (v5 : Int32) {H : Heap} {locs : List Loc} {ls : Array Slot}, va_P D vwCl (cs_w ad cI cR Ln S) H → va_D A (cs_w ad cI cR Ln S) → va_S A s.heap H locs → lv_has ls 7 [(0, .ref (ad 2)), (1, .ref (ad (9 + v1))), (2, .int v2), (3, .ref (ad (9 + v3))), (4, .ref (ad (9 + v4))), (5, .int v5)] → K32 S v1 v2 v3 v4 v5 → W p l e rm_X0_isLieAt s m args below meth c H locs 0 0 (MQ below (va_Qi Q (xr_B D (cs_ty cI cJ cR) (cs_w ad cI cR Ln) A) A) args s 0 0 A) (F0 m 32 ls [])) {H : Heap} {locs : List Loc} {ls : Array Slot} (hP : va_P D vwCl (cs_w ad cI cR Ln S) H) (hD : va_D A (cs_w ad cI cR Ln S)) (hS : va_S A s.heap H locs) (hl : lv_has ls 7 [(0, .ref (ad 2)), (1, .ref (ad (9 + v1))), (2, .int v2), (3, .ref (ad (9 + v3))), (4, .ref (ad (9 + v4))), (5, .int v5)]) (h : wb_X0_isLieAt_32 Ln K32 Q S v1 v2 v3 v4 v5) : W p l e rm_X0_isLieAt s m args below meth c H locs 0 0 (MQ below (va_Qi Q (xr_B D (cs_ty cI cJ cR) (cs_w ad cI cR Ln) A) A) args s 0 0 A) (F0 m 32 ls []) := by
  obtain ⟨⟨hx, hb, hml, hown, hts⟩, hrt, hlk⟩ := id fx
  have hf : 0 ≤ rm_X0_isLieAt.cells ∧ 0 ≤ rm_X0_isLieAt.slots := ⟨Nat.zero_le _, Nat.zero_le _⟩
  unfold wb_X0_isLieAt_32 at h
  refine lv_iload hx hb dX0_isLieAt_32 (lv_at hl 5 rfl) ?_
  refine lv_iload_n hx hb dX0_isLieAt_34 rfl (lv_at hl 2 rfl) ?_
  refine lv_icmp_gt (tgt := 96) hx hb dX0_isLieAt_35 (by decide) (fun c35 => ?_) (fun c35 => ?_)
  · have h := h.1 c35
    refine lv_iconst (v := 0) hx hb dX0_isLieAt_96 (by decide) ?_
    refine lv_istore (lv' := [(5, .int 0), (0, .ref (ad 2)), (1, .ref (ad (9 + v1))), (2, .int v2), (3, .ref (ad (9 + v3))), (4, .ref (ad (9 + v4)))]) hx hb dX0_isLieAt_97 hl (by decide) rfl (fun ls hl => ?_)
    obtain ⟨n, h⟩ := h
    exact kw_X0_isLieAt_99 fx hK hA n _ _ _ _ _ hP hD hS (lv_sub hl [1, 2, 3, 4, 0] rfl) h
  · have h := h.2 c35
    refine lv_iconst (v := 0) hx hb dX0_isLieAt_38 (by decide) ?_
    refine lv_istore (lv' := [(6, .int 0), (0, .ref (ad 2)), (1, .ref (ad (9 + v1))), (2, .int v2), (3, .ref (ad (9 + v3))), (4, .ref (ad (9 + v4))), (5, .int v5)]) hx hb dX0_isLieAt_39 hl (by decide) rfl (fun ls hl => ?_)
    obtain ⟨n, h⟩ := h
    exact kw_X0_isLieAt_41 fx hK hA k32 n _ _ _ _ _ _ _ hP hD hS (lv_sub hl [1, 2, 3, 4, 5, 6, 0] rfl) h
theorem kw_X0_isLieAt_32 {p : Program} {l : Launch} {e : Env} {s : State} {m : MethodId} {args : Array Value} {below : List Frame} {meth : Method} {c : Code} {D : va_G} {ad : Nat → Nat} {cI cJ cR : ClassId} {Ln : Nat → Nat} {A : Nat → Prop}  {Q : Int32 → cs_T → Prop} (fx : xr_Fx p m c meth cX0_isLieAt 7 s args wsX0_isLieAt RX0 (some .boolean)) (hK : xr_K D (cs_ty cI cJ cR) s) (hA : ∀ q, s.heap.size ≤ q → A q)   : ∀ (n : Nat) (S : cs_T) (v1 : Nat) (v2 : Int32) (v3 : Nat) (v4 : Nat) (v5 : Int32) {H : Heap} {locs : List Loc} {ls : Array Slot}, va_P D vwCl (cs_w ad cI cR Ln S) H → va_D A (cs_w ad cI cR Ln S) → va_S A s.heap H locs → lv_has ls 7 [(0, .ref (ad 2)), (1, .ref (ad (9 + v1))), (2, .int v2), (3, .ref (ad (9 + v3))), (4, .ref (ad (9 + v4))), (5, .int v5)] → wp_X0_isLieAt_32 Ln Q n S v1 v2 v3 v4 v5 → W p l e rm_X0_isLieAt s m args below meth c H locs 0 0 (MQ below (va_Qi Q (xr_B D (cs_ty cI cJ cR) (cs_w ad cI cR Ln) A) A) args s 0 0 A) (F0 m 32 ls []) := by
  intro n
  induction n with
  | zero => intro S v1 v2 v3 v4 v5 H locs ls hP hD hS hl h; exact False.elim h
  | succ n ih => intro S v1 v2 v3 v4 v5 H locs ls hP hD hS hl h; exact kb_X0_isLieAt_32 fx hK hA ih hP hD hS hl h
set_option maxHeartbeats 4000000 in
set_option maxRecDepth 100000 in
theorem ct_X0_isLieAt (l : Launch) (D : va_G) (ad : Nat → Nat) (cI cJ cR : ClassId) (Ln : Nat → Nat) {S : cs_T} {a1 : Nat} {a2 : Int32} {Q : Int32 → cs_T → Prop} (h : wp_X0_isLieAt Ln S a1 a2 Q) : xr_I l D (cs_ty cI cJ cR) (cs_w ad cI cR Ln) yX0_isLieAt wsX0_isLieAt rm_X0_isLieAt [.ref (ad 2), .ref (ad (9 + a1)), .int a2] S Q := by
  refine xr_eI (cc := cX0_isLieAt) (nL := 7) (ret := (some .boolean)) (own := RX0) (by decide) rfl rfl (Nat.le_of_ble_eq_true rfl) ?_
  intro p e s m args below meth c ls A fx hK hA hP hD hS hl
  have hl : lv_has ls 7 [(0, .ref (ad 2)), (1, .ref (ad (9 + a1))), (2, .int a2)] := hl
  show W p l e rm_X0_isLieAt s m args below meth c s.heap [] 0 0 _ _
  obtain ⟨⟨hx, hb, hml, hown, hts⟩, hrt, hlk⟩ := id fx
  have hf : 0 ≤ rm_X0_isLieAt.cells ∧ 0 ≤ rm_X0_isLieAt.slots := ⟨Nat.zero_le _, Nat.zero_le _⟩
  unfold wp_X0_isLieAt at h
  refine lv_aload_n hx hb dX0_isLieAt_0 rfl (lv_at hl 0 rfl) ?_
  refine cs_get 2 0 9 (v := .ref (ad (9 + 5))) (ref := "BracketLetters$Algebra") fx (by decide) rfl rfl in_X0_isLieAt_X0 (by decide) rfl (by decide +kernel) rfl hK hP dX0_isLieAt_1 ?_
  refine lv_astore_n (lv' := [(3, .ref (ad (9 + 5))), (0, .ref (ad 2)), (1, .ref (ad (9 + a1))), (2, .int a2)]) hx hb dX0_isLieAt_4 rfl hl (by decide) rfl (fun ls hl => ?_)
  refine lv_aload_n hx hb dX0_isLieAt_5 rfl (lv_at hl 1 rfl) ?_
  refine cs_get 2 0 10 (v := .ref (ad (9 + 6))) (ref := "BracketLetters$Algebra") fx (by decide) rfl rfl in_X0_isLieAt_X0 (by decide) rfl (by decide +kernel) rfl hK hP dX0_isLieAt_6 ?_
  refine lv_astore (lv' := [(4, .ref (ad (9 + 6))), (3, .ref (ad (9 + 5))), (0, .ref (ad 2)), (1, .ref (ad (9 + a1))), (2, .int a2)]) hx hb dX0_isLieAt_9 hl (by decide) rfl (fun ls hl => ?_)
  refine lv_aload_n hx hb dX0_isLieAt_11 rfl (lv_at hl 3 rfl) ?_
  refine lv_aload_n hx hb dX0_isLieAt_12 rfl (lv_at hl 2 rfl) ?_
  refine cs_get 2 0 5 (v := .ref (ad (9 + 1))) (ref := "BracketLetters$Algebra") fx (by decide) rfl rfl in_X0_isLieAt_X0 (by decide) rfl (by decide +kernel) rfl hK hP dX0_isLieAt_13 ?_
  refine lv_iload_n hx hb dX0_isLieAt_16 rfl (lv_at hl 4 rfl) ?_
  obtain ⟨hi20, h⟩ := h
  refine cs_iald 1 (by decide) fx hK hP hi20 dX0_isLieAt_17 ?_
  refine lv_aload_n hx hb dX0_isLieAt_18 rfl (lv_at hl 1 rfl) ?_
  refine lv_iconst (v := 0) hx hb dX0_isLieAt_19 (by decide) ?_
  refine lv_aload_n hx hb dX0_isLieAt_20 rfl (lv_at hl 2 rfl) ?_
  refine cs_get 2 0 4 (v := .ref (ad (9 + 0))) (ref := "BracketLetters$Algebra") fx (by decide) rfl rfl in_X0_isLieAt_X0 (by decide) rfl (by decide +kernel) rfl hK hP dX0_isLieAt_21 ?_
  refine lv_iload_n hx hb dX0_isLieAt_24 rfl (lv_at hl 4 rfl) ?_
  obtain ⟨hi21, h⟩ := h
  refine cs_iald 0 (by decide) fx hK hP hi21 dX0_isLieAt_25 ?_
  obtain ⟨hk22, h⟩ := h
  obtain ⟨ha23, ha24, ha25, ha26, ha27, h⟩ := h
  refine cs_copy a1 5 hk22 (by decide) fx (by decide +kernel) (by decide +kernel) (by decide +kernel) (by decide +kernel) hl.1 hK hP hD hS ha23 ha24 ha25 ha26 ha27 (Nat.le_of_ble_eq_true rfl) (Nat.le_of_ble_eq_true rfl) dX0_isLieAt_26 (fun H locs hP hD hS => ?_)
  refine lv_iconst (v := 2) hx hb dX0_isLieAt_29 (by decide) ?_
  refine lv_istore (lv' := [(5, .int 2), (4, .ref (ad (9 + 6))), (3, .ref (ad (9 + 5))), (0, .ref (ad 2)), (1, .ref (ad (9 + a1))), (2, .int a2)]) hx hb dX0_isLieAt_30 hl (by decide) rfl (fun ls hl => ?_)
  obtain ⟨n, h⟩ := h
  exact kw_X0_isLieAt_32 fx hK hA n _ _ _ _ _ _ hP hD hS (lv_sub hl [3, 4, 5, 2, 1, 0] rfl) h
abbrev rm_X0_isLie : Room := { frames := 2, cells := 0, slots := 0, locals := 74 }
theorem in_X0_isLie_X0 : ∀ w ∈ wsX00, w ∈ wsX0_isLie := by decide +kernel
set_option maxHeartbeats 4000000 in
set_option maxRecDepth 100000 in
theorem kw_X0_isLie_38 {p : Program} {l : Launch} {e : Env} {s : State} {m : MethodId} {args : Array Value} {below : List Frame} {meth : Method} {c : Code} {D : va_G} {ad : Nat → Nat} {cI cJ cR : ClassId} {Ln : Nat → Nat} {A : Nat → Prop} {K10 : cs_T → Nat → Int32 → Prop} {Q : Int32 → cs_T → Prop} {S : cs_T} {v1 : Nat} {v2 : Int32} (fx : xr_Fx p m c meth cX0_isLie 3 s args wsX0_isLie RX0 (some .boolean)) (hK : xr_K D (cs_ty cI cJ cR) s) (hA : ∀ q, s.heap.size ≤ q → A q)  (k10 : ∀ (S : cs_T) (v1 : Nat) (v2 : Int32) {H : Heap} {locs : List Loc} {ls : Array Slot}, va_P D vwCl (cs_w ad cI cR Ln S) H → va_D A (cs_w ad cI cR Ln S) → va_S A s.heap H locs → lv_has ls 3 [(0, .ref (ad 2)), (1, .ref (ad (9 + v1))), (2, .int v2)] → K10 S v1 v2 → W p l e rm_X0_isLie s m args below meth c H locs 0 0 (MQ below (va_Qi Q (xr_B D (cs_ty cI cJ cR) (cs_w ad cI cR Ln) A) A) args s 0 0 A) (F0 m 10 ls [])) {H : Heap} {locs : List Loc} {ls : Array Slot} (hP : va_P D vwCl (cs_w ad cI cR Ln S) H) (hD : va_D A (cs_w ad cI cR Ln S)) (hS : va_S A s.heap H locs) (hl : lv_has ls 3 [(0, .ref (ad 2)), (1, .ref (ad (9 + v1))), (2, .int v2)]) (h : wp_X0_isLie_38 Ln K10 Q S v1 v2) : W p l e rm_X0_isLie s m args below meth c H locs 0 0 (MQ below (va_Qi Q (xr_B D (cs_ty cI cJ cR) (cs_w ad cI cR Ln) A) A) args s 0 0 A) (F0 m 38 ls []) := by
  obtain ⟨⟨hx, hb, hml, hown, hts⟩, hrt, hlk⟩ := id fx
  have hf : 0 ≤ rm_X0_isLie.cells ∧ 0 ≤ rm_X0_isLie.slots := ⟨Nat.zero_le _, Nat.zero_le _⟩
  unfold wp_X0_isLie_38 at h
  obtain ⟨v2_1, ev2_1⟩ : ∃ z : Int32, z = v2 + 1 := ⟨_, rfl⟩
  have h := h v2_1 ev2_1
  refine lv_iinc (v := v2_1) (lv' := [(2, .int v2_1), (0, .ref (ad 2)), (1, .ref (ad (9 + v1)))]) hx hb dX0_isLie_38 hl (k := 2) rfl (by rw [ev2_1]; rfl) (by decide) rfl (fun ls hl => ?_)
  refine lv_goto (tgt := 10) hx hb dX0_isLie_41 (by decide) ?_
  exact k10 _ _ _ hP hD hS (lv_sub hl [1, 2, 0] rfl) h
set_option maxHeartbeats 4000000 in
set_option maxRecDepth 100000 in
theorem kb_X0_isLie_10 {p : Program} {l : Launch} {e : Env} {s : State} {m : MethodId} {args : Array Value} {below : List Frame} {meth : Method} {c : Code} {D : va_G} {ad : Nat → Nat} {cI cJ cR : ClassId} {Ln : Nat → Nat} {A : Nat → Prop}  {K10 : cs_T → Nat → Int32 → Prop} {Q : Int32 → cs_T → Prop} {S : cs_T} {v1 : Nat} {v2 : Int32} (fx : xr_Fx p m c meth cX0_isLie 3 s args wsX0_isLie RX0 (some .boolean)) (hK : xr_K D (cs_ty cI cJ cR) s) (hA : ∀ q, s.heap.size ≤ q → A q)   (k10 : ∀ (S : cs_T) (v1 : Nat) (v2 : Int32) {H : Heap} {locs : List Loc} {ls : Array Slot}, va_P D vwCl (cs_w ad cI cR Ln S) H → va_D A (cs_w ad cI cR Ln S) → va_S A s.heap H locs → lv_has ls 3 [(0, .ref (ad 2)), (1, .ref (ad (9 + v1))), (2, .int v2)] → K10 S v1 v2 → W p l e rm_X0_isLie s m args below meth c H locs 0 0 (MQ below (va_Qi Q (xr_B D (cs_ty cI cJ cR) (cs_w ad cI cR Ln) A) A) args s 0 0 A) (F0 m 10 ls [])) {H : Heap} {locs : List Loc} {ls : Array Slot} (hP : va_P D vwCl (cs_w ad cI cR Ln S) H) (hD : va_D A (cs_w ad cI cR Ln S)) (hS : va_S A s.heap H locs) (hl : lv_has ls 3 [(0, .ref (ad 2)), (1, .ref (ad (9 + v1))), (2, .int v2)]) (h : wb_X0_isLie_10 Ln K10 Q S v1 v2) : W p l e rm_X0_isLie s m args below meth c H locs 0 0 (MQ below (va_Qi Q (xr_B D (cs_ty cI cJ cR) (cs_w ad cI cR Ln) A) A) args s 0 0 A) (F0 m 10 ls []) := by
  obtain ⟨⟨hx, hb, hml, hown, hts⟩, hrt, hlk⟩ := id fx
  have hf : 0 ≤ rm_X0_isLie.cells ∧ 0 ≤ rm_X0_isLie.slots := ⟨Nat.zero_le _, Nat.zero_le _⟩
  unfold wb_X0_isLie_10 at h
  refine lv_iload_n hx hb dX0_isLie_10 rfl (lv_at hl 2 rfl) ?_
  refine lv_aload_n hx hb dX0_isLie_11 rfl (lv_at hl 0 rfl) ?_
  refine cs_get 2 0 2 (v := .int (S.1 0)) (ref := "BracketLetters$Algebra") fx (by decide) rfl rfl in_X0_isLie_X0 (by decide) rfl (by decide +kernel) rfl hK hP dX0_isLie_12 ?_
  refine lv_icmp_gt (tgt := 44) hx hb dX0_isLie_15 (by decide) (fun c15 => ?_) (fun c15 => ?_)
  · have h := h.1 c15
    refine lv_iconst (v := 1) hx hb dX0_isLie_44 (by decide) ?_
    exact xr_rZ fx rfl hK hP hD hS h dX0_isLie_45
  · have h := h.2 c15
    refine lv_aload_n hx hb dX0_isLie_18 rfl (lv_at hl 0 rfl) ?_
    refine lv_aload_n hx hb dX0_isLie_19 rfl (lv_at hl 1 rfl) ?_
    refine lv_iload_n hx hb dX0_isLie_20 rfl (lv_at hl 2 rfl) ?_
    refine xr_vI (n := 2) (As := [.ref (ad (9 + v1)), .int v2]) (rest := []) fx (ct_X0_isNought l D ad cI cJ cR Ln h) gX0_isLie_X0_isNought rfl rfl (by decide +kernel) ⟨Nat.le_of_ble_eq_true rfl, Nat.le_of_ble_eq_true rfl⟩ ⟨rfl, rfl⟩ hf (cs_recv 2 0 (by decide) rfl rfl hK hP) hK hP hD hS hA hl.1 rfl (Nat.le_of_ble_eq_true rfl) dX0_isLie_21 (fun r3 S2 H locs h hP hD hS => ?_)
    refine lv_if_ne (tgt := 38) hx hb dX0_isLie_24 (by decide) (fun c24 => ?_) (fun c24 => ?_)
    · have h := h.1 c24
      exact kw_X0_isLie_38 fx hK hA k10 hP hD hS (lv_sub hl [0, 1, 2] rfl) h
    · have h := h.2 c24
      refine lv_aload_n hx hb dX0_isLie_27 rfl (lv_at hl 0 rfl) ?_
      refine lv_aload_n hx hb dX0_isLie_28 rfl (lv_at hl 1 rfl) ?_
      refine lv_iload_n hx hb dX0_isLie_29 rfl (lv_at hl 2 rfl) ?_
      refine xr_vI (n := 2) (As := [.ref (ad (9 + v1)), .int v2]) (rest := []) fx (ct_X0_isLieAt l D ad cI cJ cR Ln h) gX0_isLie_X0_isLieAt rfl rfl (by decide +kernel) ⟨Nat.le_of_ble_eq_true rfl, Nat.le_of_ble_eq_true rfl⟩ ⟨rfl, rfl⟩ hf (cs_recv 2 0 (by decide) rfl rfl hK hP) hK hP hD hS hA hl.1 rfl (Nat.le_of_ble_eq_true rfl) dX0_isLie_30 (fun r5 S4 H locs h hP hD hS => ?_)
      refine lv_if_ne (tgt := 38) hx hb dX0_isLie_33 (by decide) (fun c33 => ?_) (fun c33 => ?_)
      · have h := h.1 c33
        exact kw_X0_isLie_38 fx hK hA k10 hP hD hS (lv_sub hl [0, 1, 2] rfl) h
      · have h := h.2 c33
        refine lv_iconst (v := 0) hx hb dX0_isLie_36 (by decide) ?_
        exact xr_rZ fx rfl hK hP hD hS h dX0_isLie_37
theorem kw_X0_isLie_10 {p : Program} {l : Launch} {e : Env} {s : State} {m : MethodId} {args : Array Value} {below : List Frame} {meth : Method} {c : Code} {D : va_G} {ad : Nat → Nat} {cI cJ cR : ClassId} {Ln : Nat → Nat} {A : Nat → Prop}  {Q : Int32 → cs_T → Prop} (fx : xr_Fx p m c meth cX0_isLie 3 s args wsX0_isLie RX0 (some .boolean)) (hK : xr_K D (cs_ty cI cJ cR) s) (hA : ∀ q, s.heap.size ≤ q → A q)   : ∀ (n : Nat) (S : cs_T) (v1 : Nat) (v2 : Int32) {H : Heap} {locs : List Loc} {ls : Array Slot}, va_P D vwCl (cs_w ad cI cR Ln S) H → va_D A (cs_w ad cI cR Ln S) → va_S A s.heap H locs → lv_has ls 3 [(0, .ref (ad 2)), (1, .ref (ad (9 + v1))), (2, .int v2)] → wp_X0_isLie_10 Ln Q n S v1 v2 → W p l e rm_X0_isLie s m args below meth c H locs 0 0 (MQ below (va_Qi Q (xr_B D (cs_ty cI cJ cR) (cs_w ad cI cR Ln) A) A) args s 0 0 A) (F0 m 10 ls []) := by
  intro n
  induction n with
  | zero => intro S v1 v2 H locs ls hP hD hS hl h; exact False.elim h
  | succ n ih => intro S v1 v2 H locs ls hP hD hS hl h; exact kb_X0_isLie_10 fx hK hA ih hP hD hS hl h
set_option maxHeartbeats 4000000 in
set_option maxRecDepth 100000 in
theorem ct_X0_isLie (l : Launch) (D : va_G) (ad : Nat → Nat) (cI cJ cR : ClassId) (Ln : Nat → Nat) {S : cs_T} {a1 : Nat} {Q : Int32 → cs_T → Prop} (h : wp_X0_isLie Ln S a1 Q) : xr_I l D (cs_ty cI cJ cR) (cs_w ad cI cR Ln) yX0_isLie wsX0_isLie rm_X0_isLie [.ref (ad 2), .ref (ad (9 + a1))] S Q := by
  refine xr_eI (cc := cX0_isLie) (nL := 3) (ret := (some .boolean)) (own := RX0) (by decide) rfl rfl (Nat.le_of_ble_eq_true rfl) ?_
  intro p e s m args below meth c ls A fx hK hA hP hD hS hl
  have hl : lv_has ls 3 [(0, .ref (ad 2)), (1, .ref (ad (9 + a1)))] := hl
  show W p l e rm_X0_isLie s m args below meth c s.heap [] 0 0 _ _
  obtain ⟨⟨hx, hb, hml, hown, hts⟩, hrt, hlk⟩ := id fx
  have hf : 0 ≤ rm_X0_isLie.cells ∧ 0 ≤ rm_X0_isLie.slots := ⟨Nat.zero_le _, Nat.zero_le _⟩
  unfold wp_X0_isLie at h
  refine lv_aload_n hx hb dX0_isLie_0 rfl (lv_at hl 1 rfl) ?_
  refine lv_iconst (v := 0) hx hb dX0_isLie_1 (by decide) ?_
  obtain ⟨hk7, h⟩ := h
  obtain ⟨hi6, h⟩ := h
  refine cs_iald a1 hk7 fx hK hP hi6 dX0_isLie_2 ?_
  refine lv_if_eq (tgt := 8) hx hb dX0_isLie_3 (by decide) (fun c3 => ?_) (fun c3 => ?_)
  · have h := h.1 c3
    refine lv_iconst (v := 2) hx hb dX0_isLie_8 (by decide) ?_
    refine lv_istore_n (lv' := [(2, .int 2), (0, .ref (ad 2)), (1, .ref (ad (9 + a1)))]) hx hb dX0_isLie_9 rfl hl (by decide) rfl (fun ls hl => ?_)
    obtain ⟨n, h⟩ := h
    exact kw_X0_isLie_10 fx hK hA n _ _ _ hP hD hS (lv_sub hl [1, 2, 0] rfl) h
  · have h := h.2 c3
    refine lv_iconst (v := 0) hx hb dX0_isLie_6 (by decide) ?_
    exact xr_rZ fx rfl hK hP hD hS h dX0_isLie_7
abbrev rm_X7_lie : Room := { frames := 3, cells := 0, slots := 0, locals := 96 }
theorem in_X7_lie_X7 : ∀ w ∈ wsX70, w ∈ wsX7_lie := by decide +kernel
set_option maxHeartbeats 4000000 in
set_option maxRecDepth 100000 in
theorem ct_X7_lie (l : Launch) (D : va_G) (ad : Nat → Nat) (cI cJ cR : ClassId) (Ln : Nat → Nat) {S : cs_T} {a1 : Int32} {Q : Int32 → cs_T → Prop} (h : wp_X7_lie Ln S a1 Q) : xr_I l D (cs_ty cI cJ cR) (cs_w ad cI cR Ln) yX7_lie wsX7_lie rm_X7_lie [.ref (ad 0), .int a1] S Q := by
  refine xr_eI (cc := cX7_lie) (nL := 2) (ret := (some .int)) (own := RX7) (by decide) rfl rfl (Nat.le_of_ble_eq_true rfl) ?_
  intro p e s m args below meth c ls A fx hK hA hP hD hS hl
  have hl : lv_has ls 2 [(0, .ref (ad 0)), (1, .int a1)] := hl
  show W p l e rm_X7_lie s m args below meth c s.heap [] 0 0 _ _
  obtain ⟨⟨hx, hb, hml, hown, hts⟩, hrt, hlk⟩ := id fx
  have hf : 0 ≤ rm_X7_lie.cells ∧ 0 ≤ rm_X7_lie.slots := ⟨Nat.zero_le _, Nat.zero_le _⟩
  unfold wp_X7_lie at h
  refine lv_iload_n hx hb dX7_lie_0 rfl (lv_at hl 1 rfl) ?_
  refine xr_sI (n := 1) (As := [.int a1]) (rest := []) fx (ct_X7_noSum l h) gX7_lie_X7_noSum rfl rfl (by decide +kernel) ⟨Nat.le_of_ble_eq_true rfl, Nat.le_of_ble_eq_true rfl⟩ ⟨rfl, rfl⟩ hf hl.1 rfl (Nat.le_of_ble_eq_true rfl) dX7_lie_1 (fun r1 h => ?_)
  refine lv_if_eq (tgt := 9) hx hb dX7_lie_4 (by decide) (fun c4 => ?_) (fun c4 => ?_)
  · have h := h.1 c4
    refine lv_aload_n hx hb dX7_lie_9 rfl (lv_at hl 0 rfl) ?_
    refine cs_get 0 6 2 (v := .ref (ad 2)) (ref := "BracketLetters") fx (by decide) rfl rfl in_X7_lie_X7 (by decide) rfl (by decide +kernel) rfl hK hP dX7_lie_10 ?_
    refine lv_aload_n hx hb dX7_lie_13 rfl (lv_at hl 0 rfl) ?_
    refine cs_get 0 6 1 (v := .ref (ad 7)) (ref := "BracketLetters") fx (by decide) rfl rfl in_X7_lie_X7 (by decide) rfl (by decide +kernel) rfl hK hP dX7_lie_14 ?_
    refine lv_iload_n hx hb dX7_lie_17 rfl (lv_at hl 1 rfl) ?_
    obtain ⟨hi2, h⟩ := h
    refine cs_aald 7 8 7 fx (by decide) rfl hK hP hi2 dX7_lie_18 ?_
    refine xr_vI (n := 1) (As := [.ref (ad (9 + (7 + a1.toNatClampNeg)))]) (rest := []) fx (ct_X0_isLie l D ad cI cJ cR Ln h) gX7_lie_X0_isLie rfl rfl (by decide +kernel) ⟨Nat.le_of_ble_eq_true rfl, Nat.le_of_ble_eq_true rfl⟩ ⟨rfl, rfl⟩ hf (cs_recv 2 0 (by decide) rfl rfl hK hP) hK hP hD hS hA hl.1 rfl (Nat.le_of_ble_eq_true rfl) dX7_lie_19 (fun r4 S3 H locs h hP hD hS => ?_)
    refine lv_if_eq (tgt := 29) hx hb dX7_lie_22 (by decide) (fun c22 => ?_) (fun c22 => ?_)
    · have h := h.1 c22
      refine lv_iconst (v := 0) hx hb dX7_lie_29 (by decide) ?_
      exact xr_rI fx hK hP hD hS h dX7_lie_30
    · have h := h.2 c22
      refine lv_iconst (v := 1) hx hb dX7_lie_25 (by decide) ?_
      refine lv_goto (tgt := 30) hx hb dX7_lie_26 (by decide) ?_
      exact xr_rI fx hK hP hD hS h dX7_lie_30
  · have h := h.2 c4
    refine lv_iconst (v := (-1)) hx hb dX7_lie_7 (by decide) ?_
    exact xr_rI fx hK hP hD hS h dX7_lie_8
abbrev rm_X1_shareInBracket : Room := { frames := 90, cells := 0, slots := 0, locals := 2560 }
theorem in_X1_shareInBracket_X1 : ∀ w ∈ wsX10, w ∈ wsX1_shareInBracket := by decide +kernel
set_option maxHeartbeats 4000000 in
set_option maxRecDepth 100000 in
theorem ct_X1_shareInBracket (l : Launch) (D : va_G) (ad : Nat → Nat) (cI cJ cR : ClassId) (Ln : Nat → Nat) {S : cs_T} {a1 : Int32} {a2 : Int32} {a3 : Int32} {Q : Int32 → cs_T → Prop} (h : wp_X1_shareInBracket Ln S a1 a2 a3 Q) : xr_I l D (cs_ty cI cJ cR) (cs_w ad cI cR Ln) yX1_shareInBracket wsX1_shareInBracket rm_X1_shareInBracket [.ref (ad 3), .int a1, .int a2, .int a3] S Q := by
  refine xr_eI (cc := cX1_shareInBracket) (nL := 5) (ret := (some .int)) (own := RX1) (by decide) rfl rfl (Nat.le_of_ble_eq_true rfl) ?_
  intro p e s m args below meth c ls A fx hK hA hP hD hS hl
  have hl : lv_has ls 5 [(0, .ref (ad 3)), (1, .int a1), (2, .int a2), (3, .int a3)] := hl
  show W p l e rm_X1_shareInBracket s m args below meth c s.heap [] 0 0 _ _
  obtain ⟨⟨hx, hb, hml, hown, hts⟩, hrt, hlk⟩ := id fx
  have hf : 0 ≤ rm_X1_shareInBracket.cells ∧ 0 ≤ rm_X1_shareInBracket.slots := ⟨Nat.zero_le _, Nat.zero_le _⟩
  unfold wp_X1_shareInBracket at h
  refine lv_aload_n hx hb dX1_shareInBracket_0 rfl (lv_at hl 0 rfl) ?_
  refine cs_get 3 1 4 (v := .ref (ad 1)) (ref := "BracketLetters$Chiefs") fx (by decide) rfl rfl in_X1_shareInBracket_X1 (by decide) rfl (by decide +kernel) rfl hK hP dX1_shareInBracket_1 ?_
  refine lv_aload_n hx hb dX1_shareInBracket_4 rfl (lv_at hl 0 rfl) ?_
  refine cs_get 3 1 0 (v := .ref (ad (9 + 33))) (ref := "BracketLetters$Chiefs") fx (by decide) rfl rfl in_X1_shareInBracket_X1 (by decide) rfl (by decide +kernel) rfl hK hP dX1_shareInBracket_5 ?_
  refine lv_iload_n hx hb dX1_shareInBracket_8 rfl (lv_at hl 1 rfl) ?_
  obtain ⟨hi1, h⟩ := h
  refine cs_iald 33 (by decide) fx hK hP hi1 dX1_shareInBracket_9 ?_
  refine xr_vI (n := 1) (As := [.int (S.2.1 33 a1.toNatClampNeg)]) (rest := []) fx (ct_X6_lengthOf l D ad cI cJ cR Ln h) gX1_shareInBracket_X6_lengthOf rfl rfl (by decide +kernel) ⟨Nat.le_of_ble_eq_true rfl, Nat.le_of_ble_eq_true rfl⟩ ⟨rfl, rfl⟩ hf (cs_recv 1 5 (by decide) rfl rfl hK hP) hK hP hD hS hA hl.1 rfl (Nat.le_of_ble_eq_true rfl) dX1_shareInBracket_10 (fun r3 S2 H locs h hP hD hS => ?_)
  refine lv_aload_n hx hb dX1_shareInBracket_13 rfl (lv_at hl 0 rfl) ?_
  refine cs_get 3 1 4 (v := .ref (ad 1)) (ref := "BracketLetters$Chiefs") fx (by decide) rfl rfl in_X1_shareInBracket_X1 (by decide) rfl (by decide +kernel) rfl hK hP dX1_shareInBracket_14 ?_
  refine lv_aload_n hx hb dX1_shareInBracket_17 rfl (lv_at hl 0 rfl) ?_
  refine cs_get 3 1 0 (v := .ref (ad (9 + 33))) (ref := "BracketLetters$Chiefs") fx (by decide) rfl rfl in_X1_shareInBracket_X1 (by decide) rfl (by decide +kernel) rfl hK hP dX1_shareInBracket_18 ?_
  refine lv_iload_n hx hb dX1_shareInBracket_21 rfl (lv_at hl 2 rfl) ?_
  obtain ⟨hi4, h⟩ := h
  refine cs_iald 33 (by decide) fx hK hP hi4 dX1_shareInBracket_22 ?_
  refine xr_vI (n := 1) (As := [.int (S2.2.1 33 a2.toNatClampNeg)]) (rest := [.int r3]) fx (ct_X6_lengthOf l D ad cI cJ cR Ln h) gX1_shareInBracket_X6_lengthOf rfl rfl (by decide +kernel) ⟨Nat.le_of_ble_eq_true rfl, Nat.le_of_ble_eq_true rfl⟩ ⟨rfl, rfl⟩ hf (cs_recv 1 5 (by decide) rfl rfl hK hP) hK hP hD hS hA hl.1 rfl (Nat.le_of_ble_eq_true rfl) dX1_shareInBracket_23 (fun r6 S5 H locs h hP hD hS => ?_)
  refine lv_iadd hx hb dX1_shareInBracket_26 ?_
  refine lv_topi (fun v4_7 ev4_7 => ?_)
  have h := h v4_7 ev4_7
  refine lv_istore (lv' := [(4, .int v4_7), (0, .ref (ad 3)), (1, .int a1), (2, .int a2), (3, .int a3)]) hx hb dX1_shareInBracket_27 hl (by decide) rfl (fun ls hl => ?_)
  refine lv_iload hx hb dX1_shareInBracket_29 (lv_at hl 0 rfl) ?_
  refine lv_aload_n hx hb dX1_shareInBracket_31 rfl (lv_at hl 1 rfl) ?_
  refine cs_get 3 1 4 (v := .ref (ad 1)) (ref := "BracketLetters$Chiefs") fx (by decide) rfl rfl in_X1_shareInBracket_X1 (by decide) rfl (by decide +kernel) rfl hK hP dX1_shareInBracket_32 ?_
  refine lv_aload_n hx hb dX1_shareInBracket_35 rfl (lv_at hl 1 rfl) ?_
  refine cs_get 3 1 0 (v := .ref (ad (9 + 33))) (ref := "BracketLetters$Chiefs") fx (by decide) rfl rfl in_X1_shareInBracket_X1 (by decide) rfl (by decide +kernel) rfl hK hP dX1_shareInBracket_36 ?_
  refine lv_iload_n hx hb dX1_shareInBracket_39 rfl (lv_at hl 4 rfl) ?_
  obtain ⟨hi8, h⟩ := h
  refine cs_iald 33 (by decide) fx hK hP hi8 dX1_shareInBracket_40 ?_
  refine xr_vI (n := 1) (As := [.int (S5.2.1 33 a3.toNatClampNeg)]) (rest := [.int v4_7]) fx (ct_X6_lengthOf l D ad cI cJ cR Ln h) gX1_shareInBracket_X6_lengthOf rfl rfl (by decide +kernel) ⟨Nat.le_of_ble_eq_true rfl, Nat.le_of_ble_eq_true rfl⟩ ⟨rfl, rfl⟩ hf (cs_recv 1 5 (by decide) rfl rfl hK hP) hK hP hD hS hA hl.1 rfl (Nat.le_of_ble_eq_true rfl) dX1_shareInBracket_41 (fun r10 S9 H locs h hP hD hS => ?_)
  refine lv_icmp_eq (tgt := 49) hx hb dX1_shareInBracket_44 (by decide) (fun c44 => ?_) (fun c44 => ?_)
  · have h := h.1 c44
    refine lv_aload_n hx hb dX1_shareInBracket_49 rfl (lv_at hl 1 rfl) ?_
    refine lv_iload_n hx hb dX1_shareInBracket_50 rfl (lv_at hl 2 rfl) ?_
    refine lv_iconst (v := 0) hx hb dX1_shareInBracket_51 (by decide) ?_
    refine xr_vV (n := 2) (As := [.int a1, .int 0]) (rest := []) fx (ct_X1_weave l D ad cI cJ cR Ln 8 _ _ _ _ h) gX1_shareInBracket_X1_weave rfl rfl (by decide +kernel) ⟨Nat.le_of_ble_eq_true rfl, Nat.le_of_ble_eq_true rfl⟩ ⟨rfl, rfl⟩ hf (cs_recv 3 1 (by decide) rfl rfl hK hP) hK hP hD hS hA hl.1 rfl (Nat.le_of_ble_eq_true rfl) dX1_shareInBracket_52 (fun S11 H locs h hP hD hS => ?_)
    refine lv_aload_n hx hb dX1_shareInBracket_55 rfl (lv_at hl 1 rfl) ?_
    refine lv_iload_n hx hb dX1_shareInBracket_56 rfl (lv_at hl 3 rfl) ?_
    refine lv_iconst (v := 1) hx hb dX1_shareInBracket_57 (by decide) ?_
    refine xr_vV (n := 2) (As := [.int a2, .int 1]) (rest := []) fx (ct_X1_weave l D ad cI cJ cR Ln 8 _ _ _ _ h) gX1_shareInBracket_X1_weave rfl rfl (by decide +kernel) ⟨Nat.le_of_ble_eq_true rfl, Nat.le_of_ble_eq_true rfl⟩ ⟨rfl, rfl⟩ hf (cs_recv 3 1 (by decide) rfl rfl hK hP) hK hP hD hS hA hl.1 rfl (Nat.le_of_ble_eq_true rfl) dX1_shareInBracket_58 (fun S12 H locs h hP hD hS => ?_)
    refine lv_aload_n hx hb dX1_shareInBracket_61 rfl (lv_at hl 1 rfl) ?_
    refine cs_get 3 1 5 (v := .ref (ad 2)) (ref := "BracketLetters$Chiefs") fx (by decide) rfl rfl in_X1_shareInBracket_X1 (by decide) rfl (by decide +kernel) rfl hK hP dX1_shareInBracket_62 ?_
    refine lv_aload_n hx hb dX1_shareInBracket_65 rfl (lv_at hl 1 rfl) ?_
    refine cs_get 3 1 6 (v := .ref (ad 8)) (ref := "BracketLetters$Chiefs") fx (by decide) rfl rfl in_X1_shareInBracket_X1 (by decide) rfl (by decide +kernel) rfl hK hP dX1_shareInBracket_66 ?_
    refine lv_iconst (v := 0) hx hb dX1_shareInBracket_69 (by decide) ?_
    obtain ⟨hi13, h⟩ := h
    refine cs_aald 8 18 15 fx (by decide) rfl hK hP hi13 dX1_shareInBracket_70 ?_
    refine lv_aload_n hx hb dX1_shareInBracket_71 rfl (lv_at hl 1 rfl) ?_
    refine cs_get 3 1 6 (v := .ref (ad 8)) (ref := "BracketLetters$Chiefs") fx (by decide) rfl rfl in_X1_shareInBracket_X1 (by decide) rfl (by decide +kernel) rfl hK hP dX1_shareInBracket_72 ?_
    refine lv_iconst (v := 0) hx hb dX1_shareInBracket_75 (by decide) ?_
    obtain ⟨hi14, h⟩ := h
    refine cs_aald 8 18 15 fx (by decide) rfl hK hP hi14 dX1_shareInBracket_76 ?_
    refine lv_aload_n hx hb dX1_shareInBracket_77 rfl (lv_at hl 1 rfl) ?_
    refine cs_get 3 1 6 (v := .ref (ad 8)) (ref := "BracketLetters$Chiefs") fx (by decide) rfl rfl in_X1_shareInBracket_X1 (by decide) rfl (by decide +kernel) rfl hK hP dX1_shareInBracket_78 ?_
    refine lv_iconst (v := 1) hx hb dX1_shareInBracket_81 (by decide) ?_
    obtain ⟨hi15, h⟩ := h
    refine cs_aald 8 18 15 fx (by decide) rfl hK hP hi15 dX1_shareInBracket_82 ?_
    refine xr_vV (n := 3) (As := [.ref (ad (9 + (15 + ((0 : Int32)).toNatClampNeg))), .ref (ad (9 + (15 + ((0 : Int32)).toNatClampNeg))), .ref (ad (9 + (15 + ((1 : Int32)).toNatClampNeg)))]) (rest := []) fx (ct_X0_commute l D ad cI cJ cR Ln h) gX1_shareInBracket_X0_commute rfl rfl (by decide +kernel) ⟨Nat.le_of_ble_eq_true rfl, Nat.le_of_ble_eq_true rfl⟩ ⟨rfl, rfl⟩ hf (cs_recv 2 0 (by decide) rfl rfl hK hP) hK hP hD hS hA hl.1 rfl (Nat.le_of_ble_eq_true rfl) dX1_shareInBracket_83 (fun S16 H locs h hP hD hS => ?_)
    refine lv_aload_n hx hb dX1_shareInBracket_86 rfl (lv_at hl 1 rfl) ?_
    refine lv_aload_n hx hb dX1_shareInBracket_87 rfl (lv_at hl 1 rfl) ?_
    refine cs_get 3 1 0 (v := .ref (ad (9 + 33))) (ref := "BracketLetters$Chiefs") fx (by decide) rfl rfl in_X1_shareInBracket_X1 (by decide) rfl (by decide +kernel) rfl hK hP dX1_shareInBracket_88 ?_
    refine lv_iload_n hx hb dX1_shareInBracket_91 rfl (lv_at hl 4 rfl) ?_
    obtain ⟨hi17, h⟩ := h
    refine cs_iald 33 (by decide) fx hK hP hi17 dX1_shareInBracket_92 ?_
    refine lv_iconst (v := 1) hx hb dX1_shareInBracket_93 (by decide) ?_
    refine xr_vV (n := 2) (As := [.int (S16.2.1 33 a3.toNatClampNeg), .int 1]) (rest := []) fx (ct_X1_measure l D ad cI cJ cR Ln h) gX1_shareInBracket_X1_measure rfl rfl (by decide +kernel) ⟨Nat.le_of_ble_eq_true rfl, Nat.le_of_ble_eq_true rfl⟩ ⟨rfl, rfl⟩ hf (cs_recv 3 1 (by decide) rfl rfl hK hP) hK hP hD hS hA hl.1 rfl (Nat.le_of_ble_eq_true rfl) dX1_shareInBracket_94 (fun S18 H locs h hP hD hS => ?_)
    refine lv_aload_n hx hb dX1_shareInBracket_97 rfl (lv_at hl 1 rfl) ?_
    refine cs_get 3 1 5 (v := .ref (ad 2)) (ref := "BracketLetters$Chiefs") fx (by decide) rfl rfl in_X1_shareInBracket_X1 (by decide) rfl (by decide +kernel) rfl hK hP dX1_shareInBracket_98 ?_
    refine lv_aload_n hx hb dX1_shareInBracket_101 rfl (lv_at hl 1 rfl) ?_
    refine cs_get 3 1 6 (v := .ref (ad 8)) (ref := "BracketLetters$Chiefs") fx (by decide) rfl rfl in_X1_shareInBracket_X1 (by decide) rfl (by decide +kernel) rfl hK hP dX1_shareInBracket_102 ?_
    refine lv_iconst (v := 0) hx hb dX1_shareInBracket_105 (by decide) ?_
    obtain ⟨hi19, h⟩ := h
    refine cs_aald 8 18 15 fx (by decide) rfl hK hP hi19 dX1_shareInBracket_106 ?_
    refine lv_aload_n hx hb dX1_shareInBracket_107 rfl (lv_at hl 1 rfl) ?_
    refine cs_get 3 1 6 (v := .ref (ad 8)) (ref := "BracketLetters$Chiefs") fx (by decide) rfl rfl in_X1_shareInBracket_X1 (by decide) rfl (by decide +kernel) rfl hK hP dX1_shareInBracket_108 ?_
    refine lv_iconst (v := 1) hx hb dX1_shareInBracket_111 (by decide) ?_
    obtain ⟨hi20, h⟩ := h
    refine cs_aald 8 18 15 fx (by decide) rfl hK hP hi20 dX1_shareInBracket_112 ?_
    refine xr_vI (n := 2) (As := [.ref (ad (9 + (15 + ((0 : Int32)).toNatClampNeg))), .ref (ad (9 + (15 + ((1 : Int32)).toNatClampNeg)))]) (rest := []) fx (ct_X0_inner l D ad cI cJ cR Ln h) gX1_shareInBracket_X0_inner rfl rfl (by decide +kernel) ⟨Nat.le_of_ble_eq_true rfl, Nat.le_of_ble_eq_true rfl⟩ ⟨rfl, rfl⟩ hf (cs_recv 2 0 (by decide) rfl rfl hK hP) hK hP hD hS hA hl.1 rfl (Nat.le_of_ble_eq_true rfl) dX1_shareInBracket_113 (fun r22 S21 H locs h hP hD hS => ?_)
    exact xr_rI fx hK hP hD hS h dX1_shareInBracket_116
  · have h := h.2 c44
    refine lv_iconst (v := 0) hx hb dX1_shareInBracket_47 (by decide) ?_
    exact xr_rI fx hK hP hD hS h dX1_shareInBracket_48
abbrev rm_X7_table : Room := { frames := 91, cells := 0, slots := 0, locals := 2584 }
theorem in_X7_table_X7 : ∀ w ∈ wsX70, w ∈ wsX7_table := by decide +kernel
set_option maxHeartbeats 4000000 in
set_option maxRecDepth 100000 in
theorem ct_X7_table (l : Launch) (D : va_G) (ad : Nat → Nat) (cI cJ cR : ClassId) (Ln : Nat → Nat) {S : cs_T} {a1 : Int32} {a2 : Int32} {a3 : Int32} {Q : Int32 → cs_T → Prop} (h : wp_X7_table Ln S a1 a2 a3 Q) : xr_I l D (cs_ty cI cJ cR) (cs_w ad cI cR Ln) yX7_table wsX7_table rm_X7_table [.ref (ad 0), .int a1, .int a2, .int a3] S Q := by
  refine xr_eI (cc := cX7_table) (nL := 4) (ret := (some .int)) (own := RX7) (by decide) rfl rfl (Nat.le_of_ble_eq_true rfl) ?_
  intro p e s m args below meth c ls A fx hK hA hP hD hS hl
  have hl : lv_has ls 4 [(0, .ref (ad 0)), (1, .int a1), (2, .int a2), (3, .int a3)] := hl
  show W p l e rm_X7_table s m args below meth c s.heap [] 0 0 _ _
  obtain ⟨⟨hx, hb, hml, hown, hts⟩, hrt, hlk⟩ := id fx
  have hf : 0 ≤ rm_X7_table.cells ∧ 0 ≤ rm_X7_table.slots := ⟨Nat.zero_le _, Nat.zero_le _⟩
  unfold wp_X7_table at h
  refine lv_aload_n hx hb dX7_table_0 rfl (lv_at hl 0 rfl) ?_
  refine lv_iload_n hx hb dX7_table_1 rfl (lv_at hl 1 rfl) ?_
  refine xr_vI (n := 1) (As := [.int a1]) (rest := []) fx (ct_X7_noChief l D ad cI cJ cR Ln h) gX7_table_X7_noChief rfl rfl (by decide +kernel) ⟨Nat.le_of_ble_eq_true rfl, Nat.le_of_ble_eq_true rfl⟩ ⟨rfl, rfl⟩ hf (cs_recv 0 6 (by decide) rfl rfl hK hP) hK hP hD hS hA hl.1 rfl (Nat.le_of_ble_eq_true rfl) dX7_table_2 (fun r2 S1 H locs h hP hD hS => ?_)
  refine lv_if_ne (tgt := 24) hx hb dX7_table_5 (by decide) (fun c5 => ?_) (fun c5 => ?_)
  · have h := h.1 c5
    refine lv_ldc (v := (-2147483648)) hx hb hown (hts (.constant RX7 102 (-2147483648)) (by decide +kernel)) dX7_table_24 ?_
    exact xr_rI fx hK hP hD hS h dX7_table_26
  · have h := h.2 c5
    refine lv_aload_n hx hb dX7_table_8 rfl (lv_at hl 0 rfl) ?_
    refine lv_iload_n hx hb dX7_table_9 rfl (lv_at hl 2 rfl) ?_
    refine xr_vI (n := 1) (As := [.int a2]) (rest := []) fx (ct_X7_noChief l D ad cI cJ cR Ln h) gX7_table_X7_noChief rfl rfl (by decide +kernel) ⟨Nat.le_of_ble_eq_true rfl, Nat.le_of_ble_eq_true rfl⟩ ⟨rfl, rfl⟩ hf (cs_recv 0 6 (by decide) rfl rfl hK hP) hK hP hD hS hA hl.1 rfl (Nat.le_of_ble_eq_true rfl) dX7_table_10 (fun r4 S3 H locs h hP hD hS => ?_)
    refine lv_if_ne (tgt := 24) hx hb dX7_table_13 (by decide) (fun c13 => ?_) (fun c13 => ?_)
    · have h := h.1 c13
      refine lv_ldc (v := (-2147483648)) hx hb hown (hts (.constant RX7 102 (-2147483648)) (by decide +kernel)) dX7_table_24 ?_
      exact xr_rI fx hK hP hD hS h dX7_table_26
    · have h := h.2 c13
      refine lv_aload_n hx hb dX7_table_16 rfl (lv_at hl 0 rfl) ?_
      refine lv_iload_n hx hb dX7_table_17 rfl (lv_at hl 3 rfl) ?_
      refine xr_vI (n := 1) (As := [.int a3]) (rest := []) fx (ct_X7_noChief l D ad cI cJ cR Ln h) gX7_table_X7_noChief rfl rfl (by decide +kernel) ⟨Nat.le_of_ble_eq_true rfl, Nat.le_of_ble_eq_true rfl⟩ ⟨rfl, rfl⟩ hf (cs_recv 0 6 (by decide) rfl rfl hK hP) hK hP hD hS hA hl.1 rfl (Nat.le_of_ble_eq_true rfl) dX7_table_18 (fun r6 S5 H locs h hP hD hS => ?_)
      refine lv_if_eq (tgt := 27) hx hb dX7_table_21 (by decide) (fun c21 => ?_) (fun c21 => ?_)
      · have h := h.1 c21
        refine lv_aload_n hx hb dX7_table_27 rfl (lv_at hl 0 rfl) ?_
        refine cs_get 0 6 3 (v := .ref (ad 3)) (ref := "BracketLetters") fx (by decide) rfl rfl in_X7_table_X7 (by decide) rfl (by decide +kernel) rfl hK hP dX7_table_28 ?_
        refine lv_iload_n hx hb dX7_table_31 rfl (lv_at hl 1 rfl) ?_
        refine lv_iload_n hx hb dX7_table_32 rfl (lv_at hl 2 rfl) ?_
        refine lv_iload_n hx hb dX7_table_33 rfl (lv_at hl 3 rfl) ?_
        refine xr_vI (n := 3) (As := [.int a1, .int a2, .int a3]) (rest := []) fx (ct_X1_shareInBracket l D ad cI cJ cR Ln h) gX7_table_X1_shareInBracket rfl rfl (by decide +kernel) ⟨Nat.le_of_ble_eq_true rfl, Nat.le_of_ble_eq_true rfl⟩ ⟨rfl, rfl⟩ hf (cs_recv 3 1 (by decide) rfl rfl hK hP) hK hP hD hS hA hl.1 rfl (Nat.le_of_ble_eq_true rfl) dX7_table_34 (fun r8 S7 H locs h hP hD hS => ?_)
        refine xr_sI (n := 1) (As := [.int r8]) (rest := []) fx (ct_X3_nearNought l h) gX7_table_X3_nearNought rfl rfl (by decide +kernel) ⟨Nat.le_of_ble_eq_true rfl, Nat.le_of_ble_eq_true rfl⟩ ⟨rfl, rfl⟩ hf hl.1 rfl (Nat.le_of_ble_eq_true rfl) dX7_table_37 (fun r9 h => ?_)
        exact xr_rI fx hK hP hD hS h dX7_table_40
      · have h := h.2 c21
        refine lv_ldc (v := (-2147483648)) hx hb hown (hts (.constant RX7 102 (-2147483648)) (by decide +kernel)) dX7_table_24 ?_
        exact xr_rI fx hK hP hD hS h dX7_table_26
abbrev rm_X5_append : Room := { frames := 0, cells := 0, slots := 0, locals := 0 }
theorem in_X5_append_X5 : ∀ w ∈ wsX50, w ∈ wsX5_append := by decide +kernel
set_option maxHeartbeats 4000000 in
set_option maxRecDepth 100000 in
theorem ct_X5_append (l : Launch) (D : va_G) (ad : Nat → Nat) (cI cJ cR : ClassId) (Ln : Nat → Nat) {S : cs_T} {a1 : Int32} {a2 : Int32} {Q : Int32 → cs_T → Prop} (h : wp_X5_append Ln S a1 a2 Q) : xr_I l D (cs_ty cI cJ cR) (cs_w ad cI cR Ln) yX5_append wsX5_append rm_X5_append [.ref (ad 4), .int a1, .int a2] S Q := by
  refine xr_eI (cc := cX5_append) (nL := 3) (ret := (some .int)) (own := RX5) (by decide) rfl rfl (Nat.le_of_ble_eq_true rfl) ?_
  intro p e s m args below meth c ls A fx hK hA hP hD hS hl
  have hl : lv_has ls 3 [(0, .ref (ad 4)), (1, .int a1), (2, .int a2)] := hl
  show W p l e rm_X5_append s m args below meth c s.heap [] 0 0 _ _
  obtain ⟨⟨hx, hb, hml, hown, hts⟩, hrt, hlk⟩ := id fx
  have hf : 0 ≤ rm_X5_append.cells ∧ 0 ≤ rm_X5_append.slots := ⟨Nat.zero_le _, Nat.zero_le _⟩
  unfold wp_X5_append at h
  refine lv_aload_n hx hb dX5_append_0 rfl (lv_at hl 0 rfl) ?_
  refine cs_get 4 4 0 (v := .int (S.1 9)) (ref := "BracketLetters$Scheme") fx (by decide) rfl rfl in_X5_append_X5 (by decide) rfl (by decide +kernel) rfl hK hP dX5_append_1 ?_
  refine lv_bipush (v := 12) hx hb dX5_append_4 (by decide) ?_
  refine lv_icmp_ge (tgt := 39) hx hb dX5_append_6 (by decide) (fun c6 => ?_) (fun c6 => ?_)
  · have h := h.1 c6
    refine lv_aload_n hx hb dX5_append_39 rfl (lv_at hl 0 rfl) ?_
    refine cs_get 4 4 0 (v := .int (S.1 9)) (ref := "BracketLetters$Scheme") fx (by decide) rfl rfl in_X5_append_X5 (by decide) rfl (by decide +kernel) rfl hK hP dX5_append_40 ?_
    exact xr_rI fx hK hP hD hS h dX5_append_43
  · have h := h.2 c6
    refine lv_aload_n hx hb dX5_append_9 rfl (lv_at hl 0 rfl) ?_
    refine cs_get 4 4 3 (v := .ref (ad (9 + 38))) (ref := "BracketLetters$Scheme") fx (by decide) rfl rfl in_X5_append_X5 (by decide) rfl (by decide +kernel) rfl hK hP dX5_append_10 ?_
    refine lv_aload_n hx hb dX5_append_13 rfl (lv_at hl 0 rfl) ?_
    refine cs_get 4 4 0 (v := .int (S.1 9)) (ref := "BracketLetters$Scheme") fx (by decide) rfl rfl in_X5_append_X5 (by decide) rfl (by decide +kernel) rfl hK hP dX5_append_14 ?_
    refine lv_iload_n hx hb dX5_append_17 rfl (lv_at hl 1 rfl) ?_
    obtain ⟨hi1, h⟩ := h
    refine cs_iast 38 (by decide) fx hK hP hD hS hi1 dX5_append_18 (fun H locs hP hD hS => ?_)
    refine lv_aload_n hx hb dX5_append_19 rfl (lv_at hl 0 rfl) ?_
    refine cs_get 4 4 4 (v := .ref (ad (9 + 39))) (ref := "BracketLetters$Scheme") fx (by decide) rfl rfl in_X5_append_X5 (by decide) rfl (by decide +kernel) rfl hK hP dX5_append_20 ?_
    refine lv_aload_n hx hb dX5_append_23 rfl (lv_at hl 0 rfl) ?_
    refine cs_get 4 4 0 (v := .int ((cs_sI S 38 (S.1 9).toNatClampNeg a1).1 9)) (ref := "BracketLetters$Scheme") fx (by decide) rfl rfl in_X5_append_X5 (by decide) rfl (by decide +kernel) rfl hK hP dX5_append_24 ?_
    refine lv_iload_n hx hb dX5_append_27 rfl (lv_at hl 2 rfl) ?_
    obtain ⟨hi2, h⟩ := h
    refine cs_iast 39 (by decide) fx hK hP hD hS hi2 dX5_append_28 (fun H locs hP hD hS => ?_)
    refine lv_aload_n hx hb dX5_append_29 rfl (lv_at hl 0 rfl) ?_
    refine lv_dup hx hb dX5_append_30 rfl ?_
    refine cs_get 4 4 0 (v := .int ((cs_sI (cs_sI S 38 (S.1 9).toNatClampNeg a1) 39 ((cs_sI S 38 (S.1 9).toNatClampNeg a1).1 9).toNatClampNeg a2).1 9)) (ref := "BracketLetters$Scheme") fx (by decide) rfl rfl in_X5_append_X5 (by decide) rfl (by decide +kernel) rfl hK hP dX5_append_31 ?_
    refine lv_iconst (v := 1) hx hb dX5_append_34 (by decide) ?_
    refine lv_iadd hx hb dX5_append_35 ?_
    refine cs_put 4 4 0 9 (ref := "BracketLetters$Scheme") (ty := .int) tyX5 tyX5_ok nmX5 fx (by decide) rfl rfl in_X5_append_X5 (by decide) (Nat.le_of_ble_eq_true rfl) cs_f4_0 (by decide +kernel) rfl rfl (by decide +kernel) rfl rfl hK hP hD hS dX5_append_36 (fun H locs hP hD hS => ?_)
    refine lv_aload_n hx hb dX5_append_39 rfl (lv_at hl 0 rfl) ?_
    refine cs_get 4 4 0 (v := .int ((cs_sF (cs_sI (cs_sI S 38 (S.1 9).toNatClampNeg a1) 39 ((cs_sI S 38 (S.1 9).toNatClampNeg a1).1 9).toNatClampNeg a2) 9 (((cs_sI (cs_sI S 38 (S.1 9).toNatClampNeg a1) 39 ((cs_sI S 38 (S.1 9).toNatClampNeg a1).1 9).toNatClampNeg a2).1 9) + 1)).1 9)) (ref := "BracketLetters$Scheme") fx (by decide) rfl rfl in_X5_append_X5 (by decide) rfl (by decide +kernel) rfl hK hP dX5_append_40 ?_
    exact xr_rI fx hK hP hD hS h dX5_append_43
abbrev rm_X7_step : Room := { frames := 3, cells := 0, slots := 0, locals := 66 }
theorem in_X7_step_X7 : ∀ w ∈ wsX70, w ∈ wsX7_step := by decide +kernel
theorem in_X7_step_X5 : ∀ w ∈ wsX50, w ∈ wsX7_step := by decide +kernel
set_option maxHeartbeats 4000000 in
set_option maxRecDepth 100000 in
theorem ct_X7_step (l : Launch) (D : va_G) (ad : Nat → Nat) (cI cJ cR : ClassId) (Ln : Nat → Nat) {S : cs_T} {a1 : Int32} {a2 : Int32} {a3 : Int32} {Q : Int32 → cs_T → Prop} (h : wp_X7_step Ln S a1 a2 a3 Q) : xr_I l D (cs_ty cI cJ cR) (cs_w ad cI cR Ln) yX7_step wsX7_step rm_X7_step [.ref (ad 0), .int a1, .int a2, .int a3] S Q := by
  refine xr_eI (cc := cX7_step) (nL := 4) (ret := (some .int)) (own := RX7) (by decide) rfl rfl (Nat.le_of_ble_eq_true rfl) ?_
  intro p e s m args below meth c ls A fx hK hA hP hD hS hl
  have hl : lv_has ls 4 [(0, .ref (ad 0)), (1, .int a1), (2, .int a2), (3, .int a3)] := hl
  show W p l e rm_X7_step s m args below meth c s.heap [] 0 0 _ _
  obtain ⟨⟨hx, hb, hml, hown, hts⟩, hrt, hlk⟩ := id fx
  have hf : 0 ≤ rm_X7_step.cells ∧ 0 ≤ rm_X7_step.slots := ⟨Nat.zero_le _, Nat.zero_le _⟩
  unfold wp_X7_step at h
  refine lv_aload_n hx hb dX7_step_0 rfl (lv_at hl 0 rfl) ?_
  refine lv_iload_n hx hb dX7_step_1 rfl (lv_at hl 1 rfl) ?_
  refine xr_vI (n := 1) (As := [.int a1]) (rest := []) fx (ct_X7_noLetter l D ad cI cJ cR Ln h) gX7_step_X7_noLetter rfl rfl (by decide +kernel) ⟨Nat.le_of_ble_eq_true rfl, Nat.le_of_ble_eq_true rfl⟩ ⟨rfl, rfl⟩ hf (cs_recv 0 6 (by decide) rfl rfl hK hP) hK hP hD hS hA hl.1 rfl (Nat.le_of_ble_eq_true rfl) dX7_step_2 (fun r2 S1 H locs h hP hD hS => ?_)
  refine lv_if_eq (tgt := 10) hx hb dX7_step_5 (by decide) (fun c5 => ?_) (fun c5 => ?_)
  · have h := h.1 c5
    refine lv_iload_n hx hb dX7_step_10 rfl (lv_at hl 2 rfl) ?_
    refine lv_iload_n hx hb dX7_step_11 rfl (lv_at hl 3 rfl) ?_
    refine lv_bipush (v := 99) hx hb dX7_step_12 (by decide) ?_
    refine xr_sI (n := 3) (As := [.int a2, .int a3, .int 99]) (rest := []) fx (ct_X7_noFraction l h) gX7_step_X7_noFraction rfl rfl (by decide +kernel) ⟨Nat.le_of_ble_eq_true rfl, Nat.le_of_ble_eq_true rfl⟩ ⟨rfl, rfl⟩ hf hl.1 rfl (Nat.le_of_ble_eq_true rfl) dX7_step_14 (fun r3 h => ?_)
    refine lv_if_eq (tgt := 23) hx hb dX7_step_17 (by decide) (fun c17 => ?_) (fun c17 => ?_)
    · have h := h.1 c17
      refine lv_aload_n hx hb dX7_step_23 rfl (lv_at hl 0 rfl) ?_
      refine cs_get 0 6 4 (v := .ref (ad 4)) (ref := "BracketLetters") fx (by decide) rfl rfl in_X7_step_X7 (by decide) rfl (by decide +kernel) rfl hK hP dX7_step_24 ?_
      refine cs_get 4 4 0 (v := .int (S1.1 9)) (ref := "BracketLetters$Scheme") fx (by decide) rfl rfl in_X7_step_X5 (by decide) rfl (by decide +kernel) rfl hK hP dX7_step_27 ?_
      refine lv_bipush (v := 12) hx hb dX7_step_30 (by decide) ?_
      refine lv_icmp_lt (tgt := 38) hx hb dX7_step_32 (by decide) (fun c32 => ?_) (fun c32 => ?_)
      · have h := h.1 c32
        refine lv_aload_n hx hb dX7_step_38 rfl (lv_at hl 0 rfl) ?_
        refine cs_get 0 6 4 (v := .ref (ad 4)) (ref := "BracketLetters") fx (by decide) rfl rfl in_X7_step_X7 (by decide) rfl (by decide +kernel) rfl hK hP dX7_step_39 ?_
        refine lv_iload_n hx hb dX7_step_42 rfl (lv_at hl 1 rfl) ?_
        refine lv_iload_n hx hb dX7_step_43 rfl (lv_at hl 2 rfl) ?_
        refine lv_iload_n hx hb dX7_step_44 rfl (lv_at hl 3 rfl) ?_
        refine xr_sI (n := 2) (As := [.int a2, .int a3]) (rest := [.int a1, .ref (ad 4)]) fx (ct_X3_ratio l h) gX7_step_X3_ratio rfl rfl (by decide +kernel) ⟨Nat.le_of_ble_eq_true rfl, Nat.le_of_ble_eq_true rfl⟩ ⟨rfl, rfl⟩ hf hl.1 rfl (Nat.le_of_ble_eq_true rfl) dX7_step_45 (fun r4 h => ?_)
        refine xr_vI (n := 2) (As := [.int a1, .int r4]) (rest := []) fx (ct_X5_append l D ad cI cJ cR Ln h) gX7_step_X5_append rfl rfl (by decide +kernel) ⟨Nat.le_of_ble_eq_true rfl, Nat.le_of_ble_eq_true rfl⟩ ⟨rfl, rfl⟩ hf (cs_recv 4 4 (by decide) rfl rfl hK hP) hK hP hD hS hA hl.1 rfl (Nat.le_of_ble_eq_true rfl) dX7_step_48 (fun r6 S5 H locs h hP hD hS => ?_)
        exact xr_rI fx hK hP hD hS h dX7_step_51
      · have h := h.2 c32
        refine lv_bipush (v := (-4)) hx hb dX7_step_35 (by decide) ?_
        exact xr_rI fx hK hP hD hS h dX7_step_37
    · have h := h.2 c17
      refine lv_bipush (v := (-2)) hx hb dX7_step_20 (by decide) ?_
      exact xr_rI fx hK hP hD hS h dX7_step_22
  · have h := h.2 c5
    refine lv_iconst (v := (-1)) hx hb dX7_step_8 (by decide) ?_
    exact xr_rI fx hK hP hD hS h dX7_step_9
abbrev rm_X5_forget : Room := { frames := 0, cells := 0, slots := 0, locals := 0 }
theorem in_X5_forget_X5 : ∀ w ∈ wsX50, w ∈ wsX5_forget := by decide +kernel
set_option maxHeartbeats 4000000 in
set_option maxRecDepth 100000 in
theorem ct_X5_forget (l : Launch) (D : va_G) (ad : Nat → Nat) (cI cJ cR : ClassId) (Ln : Nat → Nat) {S : cs_T} {Q : Int32 → cs_T → Prop} (h : wp_X5_forget Ln S Q) : xr_I l D (cs_ty cI cJ cR) (cs_w ad cI cR Ln) yX5_forget wsX5_forget rm_X5_forget [.ref (ad 4)] S Q := by
  refine xr_eI (cc := cX5_forget) (nL := 2) (ret := (some .int)) (own := RX5) (by decide) rfl rfl (Nat.le_of_ble_eq_true rfl) ?_
  intro p e s m args below meth c ls A fx hK hA hP hD hS hl
  have hl : lv_has ls 2 [(0, .ref (ad 4))] := hl
  show W p l e rm_X5_forget s m args below meth c s.heap [] 0 0 _ _
  obtain ⟨⟨hx, hb, hml, hown, hts⟩, hrt, hlk⟩ := id fx
  have hf : 0 ≤ rm_X5_forget.cells ∧ 0 ≤ rm_X5_forget.slots := ⟨Nat.zero_le _, Nat.zero_le _⟩
  unfold wp_X5_forget at h
  refine lv_aload_n hx hb dX5_forget_0 rfl (lv_at hl 0 rfl) ?_
  refine cs_get 4 4 0 (v := .int (S.1 9)) (ref := "BracketLetters$Scheme") fx (by decide) rfl rfl in_X5_forget_X5 (by decide) rfl (by decide +kernel) rfl hK hP dX5_forget_1 ?_
  refine lv_topi (fun v1_1 ev1_1 => ?_)
  have h := h v1_1 ev1_1
  refine lv_istore_n (lv' := [(1, .int v1_1), (0, .ref (ad 4))]) hx hb dX5_forget_4 rfl hl (by decide) rfl (fun ls hl => ?_)
  refine lv_aload_n hx hb dX5_forget_5 rfl (lv_at hl 1 rfl) ?_
  refine lv_iconst (v := 0) hx hb dX5_forget_6 (by decide) ?_
  refine cs_put 4 4 0 9 (ref := "BracketLetters$Scheme") (ty := .int) tyX5 tyX5_ok nmX5 fx (by decide) rfl rfl in_X5_forget_X5 (by decide) (Nat.le_of_ble_eq_true rfl) cs_f4_0 (by decide +kernel) rfl rfl (by decide +kernel) rfl rfl hK hP hD hS dX5_forget_7 (fun H locs hP hD hS => ?_)
  refine lv_iload_n hx hb dX5_forget_10 rfl (lv_at hl 0 rfl) ?_
  exact xr_rI fx hK hP hD hS h dX5_forget_11
abbrev rm_X7_unstep : Room := { frames := 1, cells := 0, slots := 0, locals := 21 }
theorem in_X7_unstep_X7 : ∀ w ∈ wsX70, w ∈ wsX7_unstep := by decide +kernel
set_option maxHeartbeats 4000000 in
set_option maxRecDepth 100000 in
theorem ct_X7_unstep (l : Launch) (D : va_G) (ad : Nat → Nat) (cI cJ cR : ClassId) (Ln : Nat → Nat) {S : cs_T} {Q : Int32 → cs_T → Prop} (h : wp_X7_unstep Ln S Q) : xr_I l D (cs_ty cI cJ cR) (cs_w ad cI cR Ln) yX7_unstep wsX7_unstep rm_X7_unstep [.ref (ad 0)] S Q := by
  refine xr_eI (cc := cX7_unstep) (nL := 1) (ret := (some .int)) (own := RX7) (by decide) rfl rfl (Nat.le_of_ble_eq_true rfl) ?_
  intro p e s m args below meth c ls A fx hK hA hP hD hS hl
  have hl : lv_has ls 1 [(0, .ref (ad 0))] := hl
  show W p l e rm_X7_unstep s m args below meth c s.heap [] 0 0 _ _
  obtain ⟨⟨hx, hb, hml, hown, hts⟩, hrt, hlk⟩ := id fx
  have hf : 0 ≤ rm_X7_unstep.cells ∧ 0 ≤ rm_X7_unstep.slots := ⟨Nat.zero_le _, Nat.zero_le _⟩
  unfold wp_X7_unstep at h
  refine lv_aload_n hx hb dX7_unstep_0 rfl (lv_at hl 0 rfl) ?_
  refine cs_get 0 6 4 (v := .ref (ad 4)) (ref := "BracketLetters") fx (by decide) rfl rfl in_X7_unstep_X7 (by decide) rfl (by decide +kernel) rfl hK hP dX7_unstep_1 ?_
  refine xr_vI (n := 0) (As := []) (rest := []) fx (ct_X5_forget l D ad cI cJ cR Ln h) gX7_unstep_X5_forget rfl rfl (by decide +kernel) ⟨Nat.le_of_ble_eq_true rfl, Nat.le_of_ble_eq_true rfl⟩ ⟨rfl, rfl⟩ hf (cs_recv 4 4 (by decide) rfl rfl hK hP) hK hP hD hS hA hl.1 rfl (Nat.le_of_ble_eq_true rfl) dX7_unstep_4 (fun r2 S1 H locs h hP hD hS => ?_)
  exact xr_rI fx hK hP hD hS h dX7_unstep_7
abbrev rm_X5_raiseLetter : Room := { frames := 2, cells := 0, slots := 0, locals := 45 }
theorem in_X5_raiseLetter_X5 : ∀ w ∈ wsX50, w ∈ wsX5_raiseLetter := by decide +kernel
theorem in_X5_raiseLetter_X6 : ∀ w ∈ wsX60, w ∈ wsX5_raiseLetter := by decide +kernel
set_option maxHeartbeats 4000000 in
set_option maxRecDepth 100000 in
theorem kb_X5_raiseLetter_18 {p : Program} {l : Launch} {e : Env} {s : State} {m : MethodId} {args : Array Value} {below : List Frame} {meth : Method} {c : Code} {D : va_G} {ad : Nat → Nat} {cI cJ cR : ClassId} {Ln : Nat → Nat} {A : Nat → Prop}  {K18 : cs_T → Nat → Int32 → Int32 → Int32 → Int32 → Int32 → Prop} {Q : cs_T → Prop} {S : cs_T} {v1 : Nat} {v2 : Int32} {v3 : Int32} {v4 : Int32} {v5 : Int32} {v6 : Int32} (fx : xr_Fx p m c meth cX5_raiseLetter 7 s args wsX5_raiseLetter RX5 none) (hK : xr_K D (cs_ty cI cJ cR) s) (hA : ∀ q, s.heap.size ≤ q → A q)   (k18 : ∀ (S : cs_T) (v1 : Nat) (v2 : Int32) (v3 : Int32) (v4 : Int32) (v5 : Int32) (v6 : Int32) {H : Heap} {locs : List Loc} {ls : Array Slot}, va_P D vwCl (cs_w ad cI cR Ln S) H → va_D A (cs_w ad cI cR Ln S) → va_S A s.heap H locs → lv_has ls 7 [(0, .ref (ad 4)), (1, .ref (ad (9 + v1))), (2, .int v2), (3, .int v3), (4, .int v4), (5, .int v5), (6, .int v6)] → K18 S v1 v2 v3 v4 v5 v6 → W p l e rm_X5_raiseLetter s m args below meth c H locs 0 0 (MQ below (va_Qv Q (xr_B D (cs_ty cI cJ cR) (cs_w ad cI cR Ln) A) A) args s 0 0 A) (F0 m 18 ls [])) {H : Heap} {locs : List Loc} {ls : Array Slot} (hP : va_P D vwCl (cs_w ad cI cR Ln S) H) (hD : va_D A (cs_w ad cI cR Ln S)) (hS : va_S A s.heap H locs) (hl : lv_has ls 7 [(0, .ref (ad 4)), (1, .ref (ad (9 + v1))), (2, .int v2), (3, .int v3), (4, .int v4), (5, .int v5), (6, .int v6)]) (h : wb_X5_raiseLetter_18 Ln K18 Q S v1 v2 v3 v4 v5 v6) : W p l e rm_X5_raiseLetter s m args below meth c H locs 0 0 (MQ below (va_Qv Q (xr_B D (cs_ty cI cJ cR) (cs_w ad cI cR Ln) A) A) args s 0 0 A) (F0 m 18 ls []) := by
  obtain ⟨⟨hx, hb, hml, hown, hts⟩, hrt, hlk⟩ := id fx
  have hf : 0 ≤ rm_X5_raiseLetter.cells ∧ 0 ≤ rm_X5_raiseLetter.slots := ⟨Nat.zero_le _, Nat.zero_le _⟩
  unfold wb_X5_raiseLetter_18 at h
  refine lv_iload hx hb dX5_raiseLetter_18 (lv_at hl 6 rfl) ?_
  refine lv_aload_n hx hb dX5_raiseLetter_20 rfl (lv_at hl 0 rfl) ?_
  refine cs_get 4 4 1 (v := .ref (ad 1)) (ref := "BracketLetters$Scheme") fx (by decide) rfl rfl in_X5_raiseLetter_X5 (by decide) rfl (by decide +kernel) rfl hK hP dX5_raiseLetter_21 ?_
  refine cs_get 1 5 1 (v := .int (S.1 3)) (ref := "BracketLetters$Words") fx (by decide) rfl rfl in_X5_raiseLetter_X6 (by decide) rfl (by decide +kernel) rfl hK hP dX5_raiseLetter_24 ?_
  refine lv_icmp_gt (tgt := 83) hx hb dX5_raiseLetter_27 (by decide) (fun c27 => ?_) (fun c27 => ?_)
  · have h := h.1 c27
    exact xr_rV fx hK hP hD hS h dX5_raiseLetter_83
  · have h := h.2 c27
    refine lv_iload hx hb dX5_raiseLetter_30 (lv_at hl 4 rfl) ?_
    refine lv_iload_n hx hb dX5_raiseLetter_32 rfl (lv_at hl 3 rfl) ?_
    refine xr_sI (n := 2) (As := [.int v4, .int v3]) (rest := []) fx (ct_X3_product l h) gX5_raiseLetter_X3_product rfl rfl (by decide +kernel) ⟨Nat.le_of_ble_eq_true rfl, Nat.le_of_ble_eq_true rfl⟩ ⟨rfl, rfl⟩ hf hl.1 rfl (Nat.le_of_ble_eq_true rfl) dX5_raiseLetter_33 (fun r1 h => ?_)
    refine lv_iload hx hb dX5_raiseLetter_36 (lv_at hl 6 rfl) ?_
    refine xr_sI (n := 1) (As := [.int v6]) (rest := [.int r1]) fx (ct_X3_reciprocal l h) gX5_raiseLetter_X3_reciprocal rfl rfl (by decide +kernel) ⟨Nat.le_of_ble_eq_true rfl, Nat.le_of_ble_eq_true rfl⟩ ⟨rfl, rfl⟩ hf hl.1 rfl (Nat.le_of_ble_eq_true rfl) dX5_raiseLetter_38 (fun r2 h => ?_)
    refine xr_sI (n := 2) (As := [.int r1, .int r2]) (rest := []) fx (ct_X3_product l h) gX5_raiseLetter_X3_product rfl rfl (by decide +kernel) ⟨Nat.le_of_ble_eq_true rfl, Nat.le_of_ble_eq_true rfl⟩ ⟨rfl, rfl⟩ hf hl.1 rfl (Nat.le_of_ble_eq_true rfl) dX5_raiseLetter_41 (fun r3 h => ?_)
    refine lv_istore (lv' := [(4, .int r3), (0, .ref (ad 4)), (1, .ref (ad (9 + v1))), (2, .int v2), (3, .int v3), (5, .int v5), (6, .int v6)]) hx hb dX5_raiseLetter_44 hl (by decide) rfl (fun ls hl => ?_)
    refine lv_iload hx hb dX5_raiseLetter_46 (lv_at hl 5 rfl) ?_
    refine lv_aload_n hx hb dX5_raiseLetter_48 rfl (lv_at hl 1 rfl) ?_
    refine cs_get 4 4 1 (v := .ref (ad 1)) (ref := "BracketLetters$Scheme") fx (by decide) rfl rfl in_X5_raiseLetter_X5 (by decide) rfl (by decide +kernel) rfl hK hP dX5_raiseLetter_49 ?_
    refine cs_get 1 5 0 (v := .int (S.1 2)) (ref := "BracketLetters$Words") fx (by decide) rfl rfl in_X5_raiseLetter_X6 (by decide) rfl (by decide +kernel) rfl hK hP dX5_raiseLetter_52 ?_
    refine lv_imul hx hb dX5_raiseLetter_55 ?_
    refine lv_iload_n hx hb dX5_raiseLetter_56 rfl (lv_at hl 3 rfl) ?_
    refine lv_iadd hx hb dX5_raiseLetter_57 ?_
    refine lv_topi (fun v5_4 ev5_4 => ?_)
    have h := h v5_4 ev5_4
    refine lv_istore (lv' := [(5, .int v5_4), (4, .int r3), (0, .ref (ad 4)), (1, .ref (ad (9 + v1))), (2, .int v2), (3, .int v3), (6, .int v6)]) hx hb dX5_raiseLetter_58 hl (by decide) rfl (fun ls hl => ?_)
    refine lv_aload_n hx hb dX5_raiseLetter_60 rfl (lv_at hl 3 rfl) ?_
    refine lv_aload_n hx hb dX5_raiseLetter_61 rfl (lv_at hl 2 rfl) ?_
    refine cs_get 4 4 1 (v := .ref (ad 1)) (ref := "BracketLetters$Scheme") fx (by decide) rfl rfl in_X5_raiseLetter_X5 (by decide) rfl (by decide +kernel) rfl hK hP dX5_raiseLetter_62 ?_
    refine cs_get 1 5 3 (v := .ref (ad (9 + 1))) (ref := "BracketLetters$Words") fx (by decide) rfl rfl in_X5_raiseLetter_X6 (by decide) rfl (by decide +kernel) rfl hK hP dX5_raiseLetter_65 ?_
    refine lv_iload hx hb dX5_raiseLetter_68 (lv_at hl 6 rfl) ?_
    obtain ⟨hi5, h⟩ := h
    refine cs_iald 1 (by decide) fx hK hP hi5 dX5_raiseLetter_70 ?_
    refine lv_iload hx hb dX5_raiseLetter_71 (lv_at hl 0 rfl) ?_
    refine lv_iadd hx hb dX5_raiseLetter_73 ?_
    refine lv_iload hx hb dX5_raiseLetter_74 (lv_at hl 1 rfl) ?_
    obtain ⟨hk7, h⟩ := h
    obtain ⟨hi6, h⟩ := h
    refine cs_iast v1 hk7 fx hK hP hD hS hi6 dX5_raiseLetter_76 (fun H locs hP hD hS => ?_)
    obtain ⟨v6_8, ev6_8⟩ : ∃ z : Int32, z = v6 + 1 := ⟨_, rfl⟩
    have h := h v6_8 ev6_8
    refine lv_iinc (v := v6_8) (lv' := [(6, .int v6_8), (5, .int v5_4), (4, .int r3), (0, .ref (ad 4)), (1, .ref (ad (9 + v1))), (2, .int v2), (3, .int v3)]) hx hb dX5_raiseLetter_77 hl (k := 6) rfl (by rw [ev6_8]; rfl) (by decide) rfl (fun ls hl => ?_)
    refine lv_goto (tgt := 18) hx hb dX5_raiseLetter_80 (by decide) ?_
    exact k18 _ _ _ _ _ _ _ hP hD hS (lv_sub hl [3, 4, 5, 6, 2, 1, 0] rfl) h
theorem kw_X5_raiseLetter_18 {p : Program} {l : Launch} {e : Env} {s : State} {m : MethodId} {args : Array Value} {below : List Frame} {meth : Method} {c : Code} {D : va_G} {ad : Nat → Nat} {cI cJ cR : ClassId} {Ln : Nat → Nat} {A : Nat → Prop}  {Q : cs_T → Prop} (fx : xr_Fx p m c meth cX5_raiseLetter 7 s args wsX5_raiseLetter RX5 none) (hK : xr_K D (cs_ty cI cJ cR) s) (hA : ∀ q, s.heap.size ≤ q → A q)   : ∀ (n : Nat) (S : cs_T) (v1 : Nat) (v2 : Int32) (v3 : Int32) (v4 : Int32) (v5 : Int32) (v6 : Int32) {H : Heap} {locs : List Loc} {ls : Array Slot}, va_P D vwCl (cs_w ad cI cR Ln S) H → va_D A (cs_w ad cI cR Ln S) → va_S A s.heap H locs → lv_has ls 7 [(0, .ref (ad 4)), (1, .ref (ad (9 + v1))), (2, .int v2), (3, .int v3), (4, .int v4), (5, .int v5), (6, .int v6)] → wp_X5_raiseLetter_18 Ln Q n S v1 v2 v3 v4 v5 v6 → W p l e rm_X5_raiseLetter s m args below meth c H locs 0 0 (MQ below (va_Qv Q (xr_B D (cs_ty cI cJ cR) (cs_w ad cI cR Ln) A) A) args s 0 0 A) (F0 m 18 ls []) := by
  intro n
  induction n with
  | zero => intro S v1 v2 v3 v4 v5 v6 H locs ls hP hD hS hl h; exact False.elim h
  | succ n ih => intro S v1 v2 v3 v4 v5 v6 H locs ls hP hD hS hl h; exact kb_X5_raiseLetter_18 fx hK hA ih hP hD hS hl h
set_option maxHeartbeats 4000000 in
set_option maxRecDepth 100000 in
theorem ct_X5_raiseLetter (l : Launch) (D : va_G) (ad : Nat → Nat) (cI cJ cR : ClassId) (Ln : Nat → Nat) {S : cs_T} {a1 : Nat} {a2 : Int32} {a3 : Int32} {Q : cs_T → Prop} (h : wp_X5_raiseLetter Ln S a1 a2 a3 Q) : xr_V l D (cs_ty cI cJ cR) (cs_w ad cI cR Ln) yX5_raiseLetter wsX5_raiseLetter rm_X5_raiseLetter [.ref (ad 4), .ref (ad (9 + a1)), .int a2, .int a3] S Q := by
  refine xr_eV (cc := cX5_raiseLetter) (nL := 7) (ret := none) (own := RX5) (by decide) rfl rfl (Nat.le_of_ble_eq_true rfl) ?_
  intro p e s m args below meth c ls A fx hK hA hP hD hS hl
  have hl : lv_has ls 7 [(0, .ref (ad 4)), (1, .ref (ad (9 + a1))), (2, .int a2), (3, .int a3)] := hl
  show W p l e rm_X5_raiseLetter s m args below meth c s.heap [] 0 0 _ _
  obtain ⟨⟨hx, hb, hml, hown, hts⟩, hrt, hlk⟩ := id fx
  have hf : 0 ≤ rm_X5_raiseLetter.cells ∧ 0 ≤ rm_X5_raiseLetter.slots := ⟨Nat.zero_le _, Nat.zero_le _⟩
  unfold wp_X5_raiseLetter at h
  refine lv_aload_n hx hb dX5_raiseLetter_0 rfl (lv_at hl 0 rfl) ?_
  refine cs_get 4 4 2 (v := .ref (ad 2)) (ref := "BracketLetters$Scheme") fx (by decide) rfl rfl in_X5_raiseLetter_X5 (by decide) rfl (by decide +kernel) rfl hK hP dX5_raiseLetter_1 ?_
  refine lv_aload_n hx hb dX5_raiseLetter_4 rfl (lv_at hl 1 rfl) ?_
  refine lv_iconst (v := 1) hx hb dX5_raiseLetter_5 (by decide) ?_
  refine xr_vV (n := 2) (As := [.ref (ad (9 + a1)), .int 1]) (rest := []) fx (ct_X0_setToUnit l D ad cI cJ cR Ln h) gX5_raiseLetter_X0_setToUnit rfl rfl (by decide +kernel) ⟨Nat.le_of_ble_eq_true rfl, Nat.le_of_ble_eq_true rfl⟩ ⟨rfl, rfl⟩ hf (cs_recv 2 0 (by decide) rfl rfl hK hP) hK hP hD hS hA hl.1 rfl (Nat.le_of_ble_eq_true rfl) dX5_raiseLetter_6 (fun S9 H locs h hP hD hS => ?_)
  refine lv_iconst (v := 1) hx hb dX5_raiseLetter_9 (by decide) ?_
  refine lv_istore (lv' := [(4, .int 1), (0, .ref (ad 4)), (1, .ref (ad (9 + a1))), (2, .int a2), (3, .int a3)]) hx hb dX5_raiseLetter_10 hl (by decide) rfl (fun ls hl => ?_)
  refine lv_iconst (v := 0) hx hb dX5_raiseLetter_12 (by decide) ?_
  refine lv_istore (lv' := [(5, .int 0), (4, .int 1), (0, .ref (ad 4)), (1, .ref (ad (9 + a1))), (2, .int a2), (3, .int a3)]) hx hb dX5_raiseLetter_13 hl (by decide) rfl (fun ls hl => ?_)
  refine lv_iconst (v := 1) hx hb dX5_raiseLetter_15 (by decide) ?_
  refine lv_istore (lv' := [(6, .int 1), (5, .int 0), (4, .int 1), (0, .ref (ad 4)), (1, .ref (ad (9 + a1))), (2, .int a2), (3, .int a3)]) hx hb dX5_raiseLetter_16 hl (by decide) rfl (fun ls hl => ?_)
  obtain ⟨n, h⟩ := h
  exact kw_X5_raiseLetter_18 fx hK hA n _ _ _ _ _ _ _ hP hD hS (lv_sub hl [3, 4, 5, 6, 2, 1, 0] rfl) h
abbrev rm_X5_make : Room := { frames := 3, cells := 0, slots := 0, locals := 96 }
theorem in_X5_make_X0 : ∀ w ∈ wsX00, w ∈ wsX5_make := by decide +kernel
theorem in_X5_make_X5 : ∀ w ∈ wsX50, w ∈ wsX5_make := by decide +kernel
set_option maxHeartbeats 4000000 in
set_option maxRecDepth 100000 in
theorem kb_X5_make_32 {p : Program} {l : Launch} {e : Env} {s : State} {m : MethodId} {args : Array Value} {below : List Frame} {meth : Method} {c : Code} {D : va_G} {ad : Nat → Nat} {cI cJ cR : ClassId} {Ln : Nat → Nat} {A : Nat → Prop}  {K32 : cs_T → Nat → Nat → Nat → Int32 → Prop} {Q : cs_T → Prop} {S : cs_T} {v1 : Nat} {v2 : Nat} {v3 : Nat} {v4 : Int32} (fx : xr_Fx p m c meth cX5_make 5 s args wsX5_make RX5 none) (hK : xr_K D (cs_ty cI cJ cR) s) (hA : ∀ q, s.heap.size ≤ q → A q)   (k32 : ∀ (S : cs_T) (v1 : Nat) (v2 : Nat) (v3 : Nat) (v4 : Int32) {H : Heap} {locs : List Loc} {ls : Array Slot}, va_P D vwCl (cs_w ad cI cR Ln S) H → va_D A (cs_w ad cI cR Ln S) → va_S A s.heap H locs → lv_has ls 5 [(0, .ref (ad 4)), (1, .ref (ad (9 + v1))), (2, .ref (ad (9 + v2))), (3, .ref (ad (9 + v3))), (4, .int v4)] → K32 S v1 v2 v3 v4 → W p l e rm_X5_make s m args below meth c H locs 0 0 (MQ below (va_Qv Q (xr_B D (cs_ty cI cJ cR) (cs_w ad cI cR Ln) A) A) args s 0 0 A) (F0 m 32 ls [])) {H : Heap} {locs : List Loc} {ls : Array Slot} (hP : va_P D vwCl (cs_w ad cI cR Ln S) H) (hD : va_D A (cs_w ad cI cR Ln S)) (hS : va_S A s.heap H locs) (hl : lv_has ls 5 [(0, .ref (ad 4)), (1, .ref (ad (9 + v1))), (2, .ref (ad (9 + v2))), (3, .ref (ad (9 + v3))), (4, .int v4)]) (h : wb_X5_make_32 Ln K32 Q S v1 v2 v3 v4) : W p l e rm_X5_make s m args below meth c H locs 0 0 (MQ below (va_Qv Q (xr_B D (cs_ty cI cJ cR) (cs_w ad cI cR Ln) A) A) args s 0 0 A) (F0 m 32 ls []) := by
  obtain ⟨⟨hx, hb, hml, hown, hts⟩, hrt, hlk⟩ := id fx
  have hf : 0 ≤ rm_X5_make.cells ∧ 0 ≤ rm_X5_make.slots := ⟨Nat.zero_le _, Nat.zero_le _⟩
  unfold wb_X5_make_32 at h
  refine lv_iload hx hb dX5_make_32 (lv_at hl 4 rfl) ?_
  refine lv_aload_n hx hb dX5_make_34 rfl (lv_at hl 0 rfl) ?_
  refine cs_get 4 4 0 (v := .int (S.1 9)) (ref := "BracketLetters$Scheme") fx (by decide) rfl rfl in_X5_make_X5 (by decide) rfl (by decide +kernel) rfl hK hP dX5_make_35 ?_
  refine lv_icmp_ge (tgt := 76) hx hb dX5_make_38 (by decide) (fun c38 => ?_) (fun c38 => ?_)
  · have h := h.1 c38
    refine lv_aload_n hx hb dX5_make_76 rfl (lv_at hl 0 rfl) ?_
    refine cs_get 4 4 2 (v := .ref (ad 2)) (ref := "BracketLetters$Scheme") fx (by decide) rfl rfl in_X5_make_X5 (by decide) rfl (by decide +kernel) rfl hK hP dX5_make_77 ?_
    refine lv_aload_n hx hb dX5_make_80 rfl (lv_at hl 1 rfl) ?_
    refine lv_aload_n hx hb dX5_make_81 rfl (lv_at hl 2 rfl) ?_
    refine xr_vV (n := 2) (As := [.ref (ad (9 + v1)), .ref (ad (9 + v2))]) (rest := []) fx (ct_X0_unraise l D ad cI cJ cR Ln h) gX5_make_X0_unraise rfl rfl (by decide +kernel) ⟨Nat.le_of_ble_eq_true rfl, Nat.le_of_ble_eq_true rfl⟩ ⟨rfl, rfl⟩ hf (cs_recv 2 0 (by decide) rfl rfl hK hP) hK hP hD hS hA hl.1 rfl (Nat.le_of_ble_eq_true rfl) dX5_make_82 (fun S1 H locs h hP hD hS => ?_)
    exact xr_rV fx hK hP hD hS h dX5_make_85
  · have h := h.2 c38
    refine lv_aload_n hx hb dX5_make_41 rfl (lv_at hl 0 rfl) ?_
    refine lv_aload_n hx hb dX5_make_42 rfl (lv_at hl 3 rfl) ?_
    refine lv_aload_n hx hb dX5_make_43 rfl (lv_at hl 0 rfl) ?_
    refine cs_get 4 4 3 (v := .ref (ad (9 + 38))) (ref := "BracketLetters$Scheme") fx (by decide) rfl rfl in_X5_make_X5 (by decide) rfl (by decide +kernel) rfl hK hP dX5_make_44 ?_
    refine lv_iload hx hb dX5_make_47 (lv_at hl 4 rfl) ?_
    obtain ⟨hi2, h⟩ := h
    refine cs_iald 38 (by decide) fx hK hP hi2 dX5_make_49 ?_
    refine lv_aload_n hx hb dX5_make_50 rfl (lv_at hl 0 rfl) ?_
    refine cs_get 4 4 4 (v := .ref (ad (9 + 39))) (ref := "BracketLetters$Scheme") fx (by decide) rfl rfl in_X5_make_X5 (by decide) rfl (by decide +kernel) rfl hK hP dX5_make_51 ?_
    refine lv_iload hx hb dX5_make_54 (lv_at hl 4 rfl) ?_
    obtain ⟨hi3, h⟩ := h
    refine cs_iald 39 (by decide) fx hK hP hi3 dX5_make_56 ?_
    refine xr_vV (n := 3) (As := [.ref (ad (9 + v3)), .int (S.2.1 38 v4.toNatClampNeg), .int (S.2.1 39 v4.toNatClampNeg)]) (rest := []) fx (ct_X5_raiseLetter l D ad cI cJ cR Ln h) gX5_make_X5_raiseLetter rfl rfl (by decide +kernel) ⟨Nat.le_of_ble_eq_true rfl, Nat.le_of_ble_eq_true rfl⟩ ⟨rfl, rfl⟩ hf (cs_recv 4 4 (by decide) rfl rfl hK hP) hK hP hD hS hA hl.1 rfl (Nat.le_of_ble_eq_true rfl) dX5_make_57 (fun S4 H locs h hP hD hS => ?_)
    refine lv_aload_n hx hb dX5_make_60 rfl (lv_at hl 0 rfl) ?_
    refine cs_get 4 4 2 (v := .ref (ad 2)) (ref := "BracketLetters$Scheme") fx (by decide) rfl rfl in_X5_make_X5 (by decide) rfl (by decide +kernel) rfl hK hP dX5_make_61 ?_
    refine lv_aload_n hx hb dX5_make_64 rfl (lv_at hl 2 rfl) ?_
    refine lv_aload_n hx hb dX5_make_65 rfl (lv_at hl 2 rfl) ?_
    refine lv_aload_n hx hb dX5_make_66 rfl (lv_at hl 3 rfl) ?_
    refine xr_vV (n := 3) (As := [.ref (ad (9 + v2)), .ref (ad (9 + v2)), .ref (ad (9 + v3))]) (rest := []) fx (ct_X0_multiply l D ad cI cJ cR Ln h) gX5_make_X0_multiply rfl rfl (by decide +kernel) ⟨Nat.le_of_ble_eq_true rfl, Nat.le_of_ble_eq_true rfl⟩ ⟨rfl, rfl⟩ hf (cs_recv 2 0 (by decide) rfl rfl hK hP) hK hP hD hS hA hl.1 rfl (Nat.le_of_ble_eq_true rfl) dX5_make_67 (fun S5 H locs h hP hD hS => ?_)
    obtain ⟨v4_6, ev4_6⟩ : ∃ z : Int32, z = v4 + 1 := ⟨_, rfl⟩
    have h := h v4_6 ev4_6
    refine lv_iinc (v := v4_6) (lv' := [(4, .int v4_6), (0, .ref (ad 4)), (1, .ref (ad (9 + v1))), (2, .ref (ad (9 + v2))), (3, .ref (ad (9 + v3)))]) hx hb dX5_make_70 hl (k := 4) rfl (by rw [ev4_6]; rfl) (by decide) rfl (fun ls hl => ?_)
    refine lv_goto (tgt := 32) hx hb dX5_make_73 (by decide) ?_
    exact k32 _ _ _ _ _ hP hD hS (lv_sub hl [1, 2, 3, 4, 0] rfl) h
theorem kw_X5_make_32 {p : Program} {l : Launch} {e : Env} {s : State} {m : MethodId} {args : Array Value} {below : List Frame} {meth : Method} {c : Code} {D : va_G} {ad : Nat → Nat} {cI cJ cR : ClassId} {Ln : Nat → Nat} {A : Nat → Prop}  {Q : cs_T → Prop} (fx : xr_Fx p m c meth cX5_make 5 s args wsX5_make RX5 none) (hK : xr_K D (cs_ty cI cJ cR) s) (hA : ∀ q, s.heap.size ≤ q → A q)   : ∀ (n : Nat) (S : cs_T) (v1 : Nat) (v2 : Nat) (v3 : Nat) (v4 : Int32) {H : Heap} {locs : List Loc} {ls : Array Slot}, va_P D vwCl (cs_w ad cI cR Ln S) H → va_D A (cs_w ad cI cR Ln S) → va_S A s.heap H locs → lv_has ls 5 [(0, .ref (ad 4)), (1, .ref (ad (9 + v1))), (2, .ref (ad (9 + v2))), (3, .ref (ad (9 + v3))), (4, .int v4)] → wp_X5_make_32 Ln Q n S v1 v2 v3 v4 → W p l e rm_X5_make s m args below meth c H locs 0 0 (MQ below (va_Qv Q (xr_B D (cs_ty cI cJ cR) (cs_w ad cI cR Ln) A) A) args s 0 0 A) (F0 m 32 ls []) := by
  intro n
  induction n with
  | zero => intro S v1 v2 v3 v4 H locs ls hP hD hS hl h; exact False.elim h
  | succ n ih => intro S v1 v2 v3 v4 H locs ls hP hD hS hl h; exact kb_X5_make_32 fx hK hA ih hP hD hS hl h
set_option maxHeartbeats 4000000 in
set_option maxRecDepth 100000 in
theorem ct_X5_make (l : Launch) (D : va_G) (ad : Nat → Nat) (cI cJ cR : ClassId) (Ln : Nat → Nat) {S : cs_T} {a1 : Nat} {Q : cs_T → Prop} (h : wp_X5_make Ln S a1 Q) : xr_V l D (cs_ty cI cJ cR) (cs_w ad cI cR Ln) yX5_make wsX5_make rm_X5_make [.ref (ad 4), .ref (ad (9 + a1))] S Q := by
  refine xr_eV (cc := cX5_make) (nL := 5) (ret := none) (own := RX5) (by decide) rfl rfl (Nat.le_of_ble_eq_true rfl) ?_
  intro p e s m args below meth c ls A fx hK hA hP hD hS hl
  have hl : lv_has ls 5 [(0, .ref (ad 4)), (1, .ref (ad (9 + a1)))] := hl
  show W p l e rm_X5_make s m args below meth c s.heap [] 0 0 _ _
  obtain ⟨⟨hx, hb, hml, hown, hts⟩, hrt, hlk⟩ := id fx
  have hf : 0 ≤ rm_X5_make.cells ∧ 0 ≤ rm_X5_make.slots := ⟨Nat.zero_le _, Nat.zero_le _⟩
  unfold wp_X5_make at h
  refine lv_aload_n hx hb dX5_make_0 rfl (lv_at hl 0 rfl) ?_
  refine cs_get 4 4 2 (v := .ref (ad 2)) (ref := "BracketLetters$Scheme") fx (by decide) rfl rfl in_X5_make_X5 (by decide) rfl (by decide +kernel) rfl hK hP dX5_make_1 ?_
  refine cs_get 2 0 0 (v := .ref (ad 8)) (ref := "BracketLetters$Algebra") fx (by decide) rfl rfl in_X5_make_X0 (by decide) rfl (by decide +kernel) rfl hK hP dX5_make_4 ?_
  refine lv_iconst (v := 0) hx hb dX5_make_7 (by decide) ?_
  obtain ⟨hi7, h⟩ := h
  refine cs_aald 8 18 15 fx (by decide) rfl hK hP hi7 dX5_make_8 ?_
  refine lv_astore_n (lv' := [(2, .ref (ad (9 + (15 + ((0 : Int32)).toNatClampNeg)))), (0, .ref (ad 4)), (1, .ref (ad (9 + a1)))]) hx hb dX5_make_9 rfl hl (by decide) rfl (fun ls hl => ?_)
  refine lv_aload_n hx hb dX5_make_10 rfl (lv_at hl 1 rfl) ?_
  refine cs_get 4 4 2 (v := .ref (ad 2)) (ref := "BracketLetters$Scheme") fx (by decide) rfl rfl in_X5_make_X5 (by decide) rfl (by decide +kernel) rfl hK hP dX5_make_11 ?_
  refine cs_get 2 0 0 (v := .ref (ad 8)) (ref := "BracketLetters$Algebra") fx (by decide) rfl rfl in_X5_make_X0 (by decide) rfl (by decide +kernel) rfl hK hP dX5_make_14 ?_
  refine lv_iconst (v := 1) hx hb dX5_make_17 (by decide) ?_
  obtain ⟨hi8, h⟩ := h
  refine cs_aald 8 18 15 fx (by decide) rfl hK hP hi8 dX5_make_18 ?_
  refine lv_astore_n (lv' := [(3, .ref (ad (9 + (15 + ((1 : Int32)).toNatClampNeg)))), (2, .ref (ad (9 + (15 + ((0 : Int32)).toNatClampNeg)))), (0, .ref (ad 4)), (1, .ref (ad (9 + a1)))]) hx hb dX5_make_19 rfl hl (by decide) rfl (fun ls hl => ?_)
  refine lv_aload_n hx hb dX5_make_20 rfl (lv_at hl 2 rfl) ?_
  refine cs_get 4 4 2 (v := .ref (ad 2)) (ref := "BracketLetters$Scheme") fx (by decide) rfl rfl in_X5_make_X5 (by decide) rfl (by decide +kernel) rfl hK hP dX5_make_21 ?_
  refine lv_aload_n hx hb dX5_make_24 rfl (lv_at hl 1 rfl) ?_
  refine lv_iconst (v := 1) hx hb dX5_make_25 (by decide) ?_
  refine xr_vV (n := 2) (As := [.ref (ad (9 + (15 + ((0 : Int32)).toNatClampNeg))), .int 1]) (rest := []) fx (ct_X0_setToUnit l D ad cI cJ cR Ln h) gX5_make_X0_setToUnit rfl rfl (by decide +kernel) ⟨Nat.le_of_ble_eq_true rfl, Nat.le_of_ble_eq_true rfl⟩ ⟨rfl, rfl⟩ hf (cs_recv 2 0 (by decide) rfl rfl hK hP) hK hP hD hS hA hl.1 rfl (Nat.le_of_ble_eq_true rfl) dX5_make_26 (fun S9 H locs h hP hD hS => ?_)
  refine lv_iconst (v := 0) hx hb dX5_make_29 (by decide) ?_
  refine lv_istore (lv' := [(4, .int 0), (3, .ref (ad (9 + (15 + ((1 : Int32)).toNatClampNeg)))), (2, .ref (ad (9 + (15 + ((0 : Int32)).toNatClampNeg)))), (0, .ref (ad 4)), (1, .ref (ad (9 + a1)))]) hx hb dX5_make_30 hl (by decide) rfl (fun ls hl => ?_)
  obtain ⟨n, h⟩ := h
  exact kw_X5_make_32 fx hK hA n _ _ _ _ _ hP hD hS (lv_sub hl [3, 4, 2, 1, 0] rfl) h
