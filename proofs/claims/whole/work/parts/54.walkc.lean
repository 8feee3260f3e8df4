abbrev rm_X7_scheme : Room := { frames := 4, cells := 0, slots := 0, locals := 120 }
theorem in_X7_scheme_X7 : ∀ w ∈ wsX70, w ∈ wsX7_scheme := by decide +kernel
set_option maxHeartbeats 4000000 in
set_option maxRecDepth 100000 in
theorem ct_X7_scheme (l : Launch) (D : va_G) (ad : Nat → Nat) (cI cJ cR : ClassId) (Ln : Nat → Nat) {S : cs_T} {a1 : Int32} {Q : Int32 → cs_T → Prop} (h : wp_X7_scheme Ln S a1 Q) : xr_I l D (cs_ty cI cJ cR) (cs_w ad cI cR Ln) yX7_scheme wsX7_scheme rm_X7_scheme [.ref (ad 0), .int a1] S Q := by
  refine xr_eI (cc := cX7_scheme) (nL := 2) (ret := (some .int)) (own := RX7) (by decide) rfl rfl (Nat.le_of_ble_eq_true rfl) ?_
  intro p e s m args below meth c ls A fx hK hA hP hD hS hl
  have hl : lv_has ls 2 [(0, .ref (ad 0)), (1, .int a1)] := hl
  show W p l e rm_X7_scheme s m args below meth c s.heap [] 0 0 _ _
  obtain ⟨⟨hx, hb, hml, hown, hts⟩, hrt, hlk⟩ := id fx
  have hf : 0 ≤ rm_X7_scheme.cells ∧ 0 ≤ rm_X7_scheme.slots := ⟨Nat.zero_le _, Nat.zero_le _⟩
  unfold wp_X7_scheme at h
  refine lv_iload_n hx hb dX7_scheme_0 rfl (lv_at hl 1 rfl) ?_
  refine xr_sI (n := 1) (As := [.int a1]) (rest := []) fx (ct_X7_noSum l h) gX7_scheme_X7_noSum rfl rfl (by decide +kernel) ⟨Nat.le_of_ble_eq_true rfl, Nat.le_of_ble_eq_true rfl⟩ ⟨rfl, rfl⟩ hf hl.1 rfl (Nat.le_of_ble_eq_true rfl) dX7_scheme_1 (fun r1 h => ?_)
  refine lv_if_eq (tgt := 9) hx hb dX7_scheme_4 (by decide) (fun c4 => ?_) (fun c4 => ?_)
  · have h := h.1 c4
    refine lv_aload_n hx hb dX7_scheme_9 rfl (lv_at hl 0 rfl) ?_
    refine cs_get 0 6 4 (v := .ref (ad 4)) (ref := "BracketLetters") fx (by decide) rfl rfl in_X7_scheme_X7 (by decide) rfl (by decide +kernel) rfl hK hP dX7_scheme_10 ?_
    refine lv_aload_n hx hb dX7_scheme_13 rfl (lv_at hl 0 rfl) ?_
    refine cs_get 0 6 1 (v := .ref (ad 7)) (ref := "BracketLetters") fx (by decide) rfl rfl in_X7_scheme_X7 (by decide) rfl (by decide +kernel) rfl hK hP dX7_scheme_14 ?_
    refine lv_iload_n hx hb dX7_scheme_17 rfl (lv_at hl 1 rfl) ?_
    obtain ⟨hi2, h⟩ := h
    refine cs_aald 7 8 7 fx (by decide) rfl hK hP hi2 dX7_scheme_18 ?_
    refine xr_vV (n := 1) (As := [.ref (ad (9 + (7 + a1.toNatClampNeg)))]) (rest := []) fx (ct_X5_make l D ad cI cJ cR Ln h) gX7_scheme_X5_make rfl rfl (by decide +kernel) ⟨Nat.le_of_ble_eq_true rfl, Nat.le_of_ble_eq_true rfl⟩ ⟨rfl, rfl⟩ hf (cs_recv 4 4 (by decide) rfl rfl hK hP) hK hP hD hS hA hl.1 rfl (Nat.le_of_ble_eq_true rfl) dX7_scheme_19 (fun S3 H locs h hP hD hS => ?_)
    refine lv_iconst (v := 0) hx hb dX7_scheme_22 (by decide) ?_
    exact xr_rI fx hK hP hD hS h dX7_scheme_23
  · have h := h.2 c4
    refine lv_iconst (v := (-1)) hx hb dX7_scheme_7 (by decide) ?_
    exact xr_rI fx hK hP hD hS h dX7_scheme_8
abbrev rm_X5_goodLength : Room := { frames := 4, cells := 0, slots := 0, locals := 120 }
theorem in_X5_goodLength_X0 : ∀ w ∈ wsX00, w ∈ wsX5_goodLength := by decide +kernel
theorem in_X5_goodLength_X5 : ∀ w ∈ wsX50, w ∈ wsX5_goodLength := by decide +kernel
theorem in_X5_goodLength_X6 : ∀ w ∈ wsX60, w ∈ wsX5_goodLength := by decide +kernel
set_option maxHeartbeats 4000000 in
set_option maxRecDepth 100000 in
theorem kb_X5_goodLength_55 {p : Program} {l : Launch} {e : Env} {s : State} {m : MethodId} {args : Array Value} {below : List Frame} {meth : Method} {c : Code} {D : va_G} {ad : Nat → Nat} {cI cJ cR : ClassId} {Ln : Nat → Nat} {A : Nat → Prop}  {K55 : cs_T → Nat → Int32 → Prop} {Q : Int32 → cs_T → Prop} {S : cs_T} {v1 : Nat} {v2 : Int32} (fx : xr_Fx p m c meth cX5_goodLength 3 s args wsX5_goodLength RX5 (some .int)) (hK : xr_K D (cs_ty cI cJ cR) s) (hA : ∀ q, s.heap.size ≤ q → A q)   (k55 : ∀ (S : cs_T) (v1 : Nat) (v2 : Int32) {H : Heap} {locs : List Loc} {ls : Array Slot}, va_P D vwCl (cs_w ad cI cR Ln S) H → va_D A (cs_w ad cI cR Ln S) → va_S A s.heap H locs → lv_has ls 3 [(0, .ref (ad 4)), (1, .ref (ad (9 + v1))), (2, .int v2)] → K55 S v1 v2 → W p l e rm_X5_goodLength s m args below meth c H locs 0 0 (MQ below (va_Qi Q (xr_B D (cs_ty cI cJ cR) (cs_w ad cI cR Ln) A) A) args s 0 0 A) (F0 m 55 ls [])) {H : Heap} {locs : List Loc} {ls : Array Slot} (hP : va_P D vwCl (cs_w ad cI cR Ln S) H) (hD : va_D A (cs_w ad cI cR Ln S)) (hS : va_S A s.heap H locs) (hl : lv_has ls 3 [(0, .ref (ad 4)), (1, .ref (ad (9 + v1))), (2, .int v2)]) (h : wb_X5_goodLength_55 Ln K55 Q S v1 v2) : W p l e rm_X5_goodLength s m args below meth c H locs 0 0 (MQ below (va_Qi Q (xr_B D (cs_ty cI cJ cR) (cs_w ad cI cR Ln) A) A) args s 0 0 A) (F0 m 55 ls []) := by
  obtain ⟨⟨hx, hb, hml, hown, hts⟩, hrt, hlk⟩ := id fx
  have hf : 0 ≤ rm_X5_goodLength.cells ∧ 0 ≤ rm_X5_goodLength.slots := ⟨Nat.zero_le _, Nat.zero_le _⟩
  unfold wb_X5_goodLength_55 at h
  refine lv_iload_n hx hb dX5_goodLength_55 rfl (lv_at hl 2 rfl) ?_
  refine lv_aload_n hx hb dX5_goodLength_56 rfl (lv_at hl 0 rfl) ?_
  refine cs_get 4 4 1 (v := .ref (ad 1)) (ref := "BracketLetters$Scheme") fx (by decide) rfl rfl in_X5_goodLength_X5 (by decide) rfl (by decide +kernel) rfl hK hP dX5_goodLength_57 ?_
  refine cs_get 1 5 1 (v := .int (S.1 3)) (ref := "BracketLetters$Words") fx (by decide) rfl rfl in_X5_goodLength_X6 (by decide) rfl (by decide +kernel) rfl hK hP dX5_goodLength_60 ?_
  refine lv_icmp_ge (tgt := 86) hx hb dX5_goodLength_63 (by decide) (fun c63 => ?_) (fun c63 => ?_)
  · have h := h.1 c63
    refine lv_iload_n hx hb dX5_goodLength_86 rfl (lv_at hl 2 rfl) ?_
    exact xr_rI fx hK hP hD hS h dX5_goodLength_87
  · have h := h.2 c63
    refine lv_aload_n hx hb dX5_goodLength_66 rfl (lv_at hl 0 rfl) ?_
    refine cs_get 4 4 2 (v := .ref (ad 2)) (ref := "BracketLetters$Scheme") fx (by decide) rfl rfl in_X5_goodLength_X5 (by decide) rfl (by decide +kernel) rfl hK hP dX5_goodLength_67 ?_
    refine lv_aload_n hx hb dX5_goodLength_70 rfl (lv_at hl 1 rfl) ?_
    refine lv_iload_n hx hb dX5_goodLength_71 rfl (lv_at hl 2 rfl) ?_
    refine lv_iconst (v := 1) hx hb dX5_goodLength_72 (by decide) ?_
    refine lv_iadd hx hb dX5_goodLength_73 ?_
    refine xr_vI (n := 2) (As := [.ref (ad (9 + v1)), .int (v2 + 1)]) (rest := []) fx (ct_X0_isNought l D ad cI cJ cR Ln h) gX5_goodLength_X0_isNought rfl rfl (by decide +kernel) ⟨Nat.le_of_ble_eq_true rfl, Nat.le_of_ble_eq_true rfl⟩ ⟨rfl, rfl⟩ hf (cs_recv 2 0 (by decide) rfl rfl hK hP) hK hP hD hS hA hl.1 rfl (Nat.le_of_ble_eq_true rfl) dX5_goodLength_74 (fun r2 S1 H locs h hP hD hS => ?_)
    refine lv_if_eq (tgt := 86) hx hb dX5_goodLength_77 (by decide) (fun c77 => ?_) (fun c77 => ?_)
    · have h := h.1 c77
      refine lv_iload_n hx hb dX5_goodLength_86 rfl (lv_at hl 2 rfl) ?_
      exact xr_rI fx hK hP hD hS h dX5_goodLength_87
    · have h := h.2 c77
      obtain ⟨v2_3, ev2_3⟩ : ∃ z : Int32, z = v2 + 1 := ⟨_, rfl⟩
      have h := h v2_3 ev2_3
      refine lv_iinc (v := v2_3) (lv' := [(2, .int v2_3), (0, .ref (ad 4)), (1, .ref (ad (9 + v1)))]) hx hb dX5_goodLength_80 hl (k := 2) rfl (by rw [ev2_3]; rfl) (by decide) rfl (fun ls hl => ?_)
      refine lv_goto (tgt := 55) hx hb dX5_goodLength_83 (by decide) ?_
      exact k55 _ _ _ hP hD hS (lv_sub hl [1, 2, 0] rfl) h
theorem kw_X5_goodLength_55 {p : Program} {l : Launch} {e : Env} {s : State} {m : MethodId} {args : Array Value} {below : List Frame} {meth : Method} {c : Code} {D : va_G} {ad : Nat → Nat} {cI cJ cR : ClassId} {Ln : Nat → Nat} {A : Nat → Prop}  {Q : Int32 → cs_T → Prop} (fx : xr_Fx p m c meth cX5_goodLength 3 s args wsX5_goodLength RX5 (some .int)) (hK : xr_K D (cs_ty cI cJ cR) s) (hA : ∀ q, s.heap.size ≤ q → A q)   : ∀ (n : Nat) (S : cs_T) (v1 : Nat) (v2 : Int32) {H : Heap} {locs : List Loc} {ls : Array Slot}, va_P D vwCl (cs_w ad cI cR Ln S) H → va_D A (cs_w ad cI cR Ln S) → va_S A s.heap H locs → lv_has ls 3 [(0, .ref (ad 4)), (1, .ref (ad (9 + v1))), (2, .int v2)] → wp_X5_goodLength_55 Ln Q n S v1 v2 → W p l e rm_X5_goodLength s m args below meth c H locs 0 0 (MQ below (va_Qi Q (xr_B D (cs_ty cI cJ cR) (cs_w ad cI cR Ln) A) A) args s 0 0 A) (F0 m 55 ls []) := by
  intro n
  induction n with
  | zero => intro S v1 v2 H locs ls hP hD hS hl h; exact False.elim h
  | succ n ih => intro S v1 v2 H locs ls hP hD hS hl h; exact kb_X5_goodLength_55 fx hK hA ih hP hD hS hl h
set_option maxHeartbeats 4000000 in
set_option maxRecDepth 100000 in
theorem kb_X5_goodLength_25 {p : Program} {l : Launch} {e : Env} {s : State} {m : MethodId} {args : Array Value} {below : List Frame} {meth : Method} {c : Code} {D : va_G} {ad : Nat → Nat} {cI cJ cR : ClassId} {Ln : Nat → Nat} {A : Nat → Prop}  {K25 : cs_T → Nat → Int32 → Prop} {Q : Int32 → cs_T → Prop} {S : cs_T} {v1 : Nat} {v2 : Int32} (fx : xr_Fx p m c meth cX5_goodLength 3 s args wsX5_goodLength RX5 (some .int)) (hK : xr_K D (cs_ty cI cJ cR) s) (hA : ∀ q, s.heap.size ≤ q → A q)   (k25 : ∀ (S : cs_T) (v1 : Nat) (v2 : Int32) {H : Heap} {locs : List Loc} {ls : Array Slot}, va_P D vwCl (cs_w ad cI cR Ln S) H → va_D A (cs_w ad cI cR Ln S) → va_S A s.heap H locs → lv_has ls 3 [(0, .ref (ad 4)), (1, .ref (ad (9 + v1))), (2, .int v2)] → K25 S v1 v2 → W p l e rm_X5_goodLength s m args below meth c H locs 0 0 (MQ below (va_Qi Q (xr_B D (cs_ty cI cJ cR) (cs_w ad cI cR Ln) A) A) args s 0 0 A) (F0 m 25 ls [])) {H : Heap} {locs : List Loc} {ls : Array Slot} (hP : va_P D vwCl (cs_w ad cI cR Ln S) H) (hD : va_D A (cs_w ad cI cR Ln S)) (hS : va_S A s.heap H locs) (hl : lv_has ls 3 [(0, .ref (ad 4)), (1, .ref (ad (9 + v1))), (2, .int v2)]) (h : wb_X5_goodLength_25 Ln K25 Q S v1 v2) : W p l e rm_X5_goodLength s m args below meth c H locs 0 0 (MQ below (va_Qi Q (xr_B D (cs_ty cI cJ cR) (cs_w ad cI cR Ln) A) A) args s 0 0 A) (F0 m 25 ls []) := by
  obtain ⟨⟨hx, hb, hml, hown, hts⟩, hrt, hlk⟩ := id fx
  have hf : 0 ≤ rm_X5_goodLength.cells ∧ 0 ≤ rm_X5_goodLength.slots := ⟨Nat.zero_le _, Nat.zero_le _⟩
  unfold wb_X5_goodLength_25 at h
  refine lv_iload_n hx hb dX5_goodLength_25 rfl (lv_at hl 2 rfl) ?_
  refine lv_aload_n hx hb dX5_goodLength_26 rfl (lv_at hl 0 rfl) ?_
  refine cs_get 4 4 1 (v := .ref (ad 1)) (ref := "BracketLetters$Scheme") fx (by decide) rfl rfl in_X5_goodLength_X5 (by decide) rfl (by decide +kernel) rfl hK hP dX5_goodLength_27 ?_
  refine cs_get 1 5 3 (v := .ref (ad (9 + 1))) (ref := "BracketLetters$Words") fx (by decide) rfl rfl in_X5_goodLength_X6 (by decide) rfl (by decide +kernel) rfl hK hP dX5_goodLength_30 ?_
  refine lv_iconst (v := 2) hx hb dX5_goodLength_33 (by decide) ?_
  obtain ⟨hi4, h⟩ := h
  refine cs_iald 1 (by decide) fx hK hP hi4 dX5_goodLength_34 ?_
  refine lv_icmp_ge (tgt := 53) hx hb dX5_goodLength_35 (by decide) (fun c35 => ?_) (fun c35 => ?_)
  · have h := h.1 c35
    refine lv_iconst (v := 1) hx hb dX5_goodLength_53 (by decide) ?_
    refine lv_istore_n (lv' := [(2, .int 1), (0, .ref (ad 4)), (1, .ref (ad (9 + v1)))]) hx hb dX5_goodLength_54 rfl hl (by decide) rfl (fun ls hl => ?_)
    obtain ⟨n, h⟩ := h
    exact kw_X5_goodLength_55 fx hK hA n _ _ _ hP hD hS (lv_sub hl [1, 2, 0] rfl) h
  · have h := h.2 c35
    refine lv_aload_n hx hb dX5_goodLength_38 rfl (lv_at hl 1 rfl) ?_
    refine lv_iload_n hx hb dX5_goodLength_39 rfl (lv_at hl 2 rfl) ?_
    obtain ⟨hk6, h⟩ := h
    obtain ⟨hi5, h⟩ := h
    refine cs_iald v1 hk6 fx hK hP hi5 dX5_goodLength_40 ?_
    refine lv_iconst (v := 1) hx hb dX5_goodLength_41 (by decide) ?_
    refine lv_icmp_eq (tgt := 47) hx hb dX5_goodLength_42 (by decide) (fun c42 => ?_) (fun c42 => ?_)
    · have h := h.1 c42
      obtain ⟨v2_7, ev2_7⟩ : ∃ z : Int32, z = v2 + 1 := ⟨_, rfl⟩
      have h := h v2_7 ev2_7
      refine lv_iinc (v := v2_7) (lv' := [(2, .int v2_7), (0, .ref (ad 4)), (1, .ref (ad (9 + v1)))]) hx hb dX5_goodLength_47 hl (k := 2) rfl (by rw [ev2_7]; rfl) (by decide) rfl (fun ls hl => ?_)
      refine lv_goto (tgt := 25) hx hb dX5_goodLength_50 (by decide) ?_
      exact k25 _ _ _ hP hD hS (lv_sub hl [1, 2, 0] rfl) h
    · have h := h.2 c42
      refine lv_iconst (v := 0) hx hb dX5_goodLength_45 (by decide) ?_
      exact xr_rI fx hK hP hD hS h dX5_goodLength_46
theorem kw_X5_goodLength_25 {p : Program} {l : Launch} {e : Env} {s : State} {m : MethodId} {args : Array Value} {below : List Frame} {meth : Method} {c : Code} {D : va_G} {ad : Nat → Nat} {cI cJ cR : ClassId} {Ln : Nat → Nat} {A : Nat → Prop}  {Q : Int32 → cs_T → Prop} (fx : xr_Fx p m c meth cX5_goodLength 3 s args wsX5_goodLength RX5 (some .int)) (hK : xr_K D (cs_ty cI cJ cR) s) (hA : ∀ q, s.heap.size ≤ q → A q)   : ∀ (n : Nat) (S : cs_T) (v1 : Nat) (v2 : Int32) {H : Heap} {locs : List Loc} {ls : Array Slot}, va_P D vwCl (cs_w ad cI cR Ln S) H → va_D A (cs_w ad cI cR Ln S) → va_S A s.heap H locs → lv_has ls 3 [(0, .ref (ad 4)), (1, .ref (ad (9 + v1))), (2, .int v2)] → wp_X5_goodLength_25 Ln Q n S v1 v2 → W p l e rm_X5_goodLength s m args below meth c H locs 0 0 (MQ below (va_Qi Q (xr_B D (cs_ty cI cJ cR) (cs_w ad cI cR Ln) A) A) args s 0 0 A) (F0 m 25 ls []) := by
  intro n
  induction n with
  | zero => intro S v1 v2 H locs ls hP hD hS hl h; exact False.elim h
  | succ n ih => intro S v1 v2 H locs ls hP hD hS hl h; exact kb_X5_goodLength_25 fx hK hA ih hP hD hS hl h
set_option maxHeartbeats 4000000 in
set_option maxRecDepth 100000 in
theorem ct_X5_goodLength (l : Launch) (D : va_G) (ad : Nat → Nat) (cI cJ cR : ClassId) (Ln : Nat → Nat) {S : cs_T} {Q : Int32 → cs_T → Prop} (h : wp_X5_goodLength Ln S Q) : xr_I l D (cs_ty cI cJ cR) (cs_w ad cI cR Ln) yX5_goodLength wsX5_goodLength rm_X5_goodLength [.ref (ad 4)] S Q := by
  refine xr_eI (cc := cX5_goodLength) (nL := 3) (ret := (some .int)) (own := RX5) (by decide) rfl rfl (Nat.le_of_ble_eq_true rfl) ?_
  intro p e s m args below meth c ls A fx hK hA hP hD hS hl
  have hl : lv_has ls 3 [(0, .ref (ad 4))] := hl
  show W p l e rm_X5_goodLength s m args below meth c s.heap [] 0 0 _ _
  obtain ⟨⟨hx, hb, hml, hown, hts⟩, hrt, hlk⟩ := id fx
  have hf : 0 ≤ rm_X5_goodLength.cells ∧ 0 ≤ rm_X5_goodLength.slots := ⟨Nat.zero_le _, Nat.zero_le _⟩
  unfold wp_X5_goodLength at h
  refine lv_aload_n hx hb dX5_goodLength_0 rfl (lv_at hl 0 rfl) ?_
  refine cs_get 4 4 2 (v := .ref (ad 2)) (ref := "BracketLetters$Scheme") fx (by decide) rfl rfl in_X5_goodLength_X5 (by decide) rfl (by decide +kernel) rfl hK hP dX5_goodLength_1 ?_
  refine cs_get 2 0 0 (v := .ref (ad 8)) (ref := "BracketLetters$Algebra") fx (by decide) rfl rfl in_X5_goodLength_X0 (by decide) rfl (by decide +kernel) rfl hK hP dX5_goodLength_4 ?_
  refine lv_iconst (v := 0) hx hb dX5_goodLength_7 (by decide) ?_
  obtain ⟨hi8, h⟩ := h
  refine cs_aald 8 18 15 fx (by decide) rfl hK hP hi8 dX5_goodLength_8 ?_
  refine lv_astore_n (lv' := [(1, .ref (ad (9 + (15 + ((0 : Int32)).toNatClampNeg)))), (0, .ref (ad 4))]) hx hb dX5_goodLength_9 rfl hl (by decide) rfl (fun ls hl => ?_)
  refine lv_aload_n hx hb dX5_goodLength_10 rfl (lv_at hl 1 rfl) ?_
  refine lv_aload_n hx hb dX5_goodLength_11 rfl (lv_at hl 0 rfl) ?_
  refine xr_vV (n := 1) (As := [.ref (ad (9 + (15 + ((0 : Int32)).toNatClampNeg)))]) (rest := []) fx (ct_X5_make l D ad cI cJ cR Ln h) gX5_goodLength_X5_make rfl rfl (by decide +kernel) ⟨Nat.le_of_ble_eq_true rfl, Nat.le_of_ble_eq_true rfl⟩ ⟨rfl, rfl⟩ hf (cs_recv 4 4 (by decide) rfl rfl hK hP) hK hP hD hS hA hl.1 rfl (Nat.le_of_ble_eq_true rfl) dX5_goodLength_12 (fun S9 H locs h hP hD hS => ?_)
  refine lv_aload_n hx hb dX5_goodLength_15 rfl (lv_at hl 1 rfl) ?_
  refine cs_get 4 4 1 (v := .ref (ad 1)) (ref := "BracketLetters$Scheme") fx (by decide) rfl rfl in_X5_goodLength_X5 (by decide) rfl (by decide +kernel) rfl hK hP dX5_goodLength_16 ?_
  refine cs_get 1 5 3 (v := .ref (ad (9 + 1))) (ref := "BracketLetters$Words") fx (by decide) rfl rfl in_X5_goodLength_X6 (by decide) rfl (by decide +kernel) rfl hK hP dX5_goodLength_19 ?_
  refine lv_iconst (v := 1) hx hb dX5_goodLength_22 (by decide) ?_
  obtain ⟨hi10, h⟩ := h
  refine cs_iald 1 (by decide) fx hK hP hi10 dX5_goodLength_23 ?_
  refine lv_topi (fun v2_11 ev2_11 => ?_)
  have h := h v2_11 ev2_11
  refine lv_istore_n (lv' := [(2, .int v2_11), (1, .ref (ad (9 + (15 + ((0 : Int32)).toNatClampNeg)))), (0, .ref (ad 4))]) hx hb dX5_goodLength_24 rfl hl (by decide) rfl (fun ls hl => ?_)
  obtain ⟨n, h⟩ := h
  exact kw_X5_goodLength_25 fx hK hA n _ _ _ hP hD hS (lv_sub hl [2, 1, 0] rfl) h
abbrev rm_X7_order : Room := { frames := 5, cells := 0, slots := 0, locals := 142 }
theorem in_X7_order_X7 : ∀ w ∈ wsX70, w ∈ wsX7_order := by decide +kernel
set_option maxHeartbeats 4000000 in
set_option maxRecDepth 100000 in
theorem ct_X7_order (l : Launch) (D : va_G) (ad : Nat → Nat) (cI cJ cR : ClassId) (Ln : Nat → Nat) {S : cs_T} {Q : Int32 → cs_T → Prop} (h : wp_X7_order Ln S Q) : xr_I l D (cs_ty cI cJ cR) (cs_w ad cI cR Ln) yX7_order wsX7_order rm_X7_order [.ref (ad 0)] S Q := by
  refine xr_eI (cc := cX7_order) (nL := 1) (ret := (some .int)) (own := RX7) (by decide) rfl rfl (Nat.le_of_ble_eq_true rfl) ?_
  intro p e s m args below meth c ls A fx hK hA hP hD hS hl
  have hl : lv_has ls 1 [(0, .ref (ad 0))] := hl
  show W p l e rm_X7_order s m args below meth c s.heap [] 0 0 _ _
  obtain ⟨⟨hx, hb, hml, hown, hts⟩, hrt, hlk⟩ := id fx
  have hf : 0 ≤ rm_X7_order.cells ∧ 0 ≤ rm_X7_order.slots := ⟨Nat.zero_le _, Nat.zero_le _⟩
  unfold wp_X7_order at h
  refine lv_aload_n hx hb dX7_order_0 rfl (lv_at hl 0 rfl) ?_
  refine cs_get 0 6 4 (v := .ref (ad 4)) (ref := "BracketLetters") fx (by decide) rfl rfl in_X7_order_X7 (by decide) rfl (by decide +kernel) rfl hK hP dX7_order_1 ?_
  refine xr_vI (n := 0) (As := []) (rest := []) fx (ct_X5_goodLength l D ad cI cJ cR Ln h) gX7_order_X5_goodLength rfl rfl (by decide +kernel) ⟨Nat.le_of_ble_eq_true rfl, Nat.le_of_ble_eq_true rfl⟩ ⟨rfl, rfl⟩ hf (cs_recv 4 4 (by decide) rfl rfl hK hP) hK hP hD hS hA hl.1 rfl (Nat.le_of_ble_eq_true rfl) dX7_order_4 (fun r2 S1 H locs h hP hD hS => ?_)
  exact xr_rI fx hK hP hD hS h dX7_order_7
abbrev rm_X0_onlyLength : Room := { frames := 1, cells := 0, slots := 0, locals := 23 }
theorem in_X0_onlyLength_X0 : ∀ w ∈ wsX00, w ∈ wsX0_onlyLength := by decide +kernel
set_option maxHeartbeats 4000000 in
set_option maxRecDepth 100000 in
theorem kw_X0_onlyLength_30 {p : Program} {l : Launch} {e : Env} {s : State} {m : MethodId} {args : Array Value} {below : List Frame} {meth : Method} {c : Code} {D : va_G} {ad : Nat → Nat} {cI cJ cR : ClassId} {Ln : Nat → Nat} {A : Nat → Prop} {K4 : cs_T → Nat → Int32 → Int32 → Prop} {Q : Int32 → cs_T → Prop} {S : cs_T} {v1 : Nat} {v2 : Int32} {v3 : Int32} (fx : xr_Fx p m c meth cX0_onlyLength 4 s args wsX0_onlyLength RX0 (some .int)) (hK : xr_K D (cs_ty cI cJ cR) s) (hA : ∀ q, s.heap.size ≤ q → A q)  (k4 : ∀ (S : cs_T) (v1 : Nat) (v2 : Int32) (v3 : Int32) {H : Heap} {locs : List Loc} {ls : Array Slot}, va_P D vwCl (cs_w ad cI cR Ln S) H → va_D A (cs_w ad cI cR Ln S) → va_S A s.heap H locs → lv_has ls 4 [(0, .ref (ad 2)), (1, .ref (ad (9 + v1))), (2, .int v2), (3, .int v3)] → K4 S v1 v2 v3 → W p l e rm_X0_onlyLength s m args below meth c H locs 0 0 (MQ below (va_Qi Q (xr_B D (cs_ty cI cJ cR) (cs_w ad cI cR Ln) A) A) args s 0 0 A) (F0 m 4 ls [])) {H : Heap} {locs : List Loc} {ls : Array Slot} (hP : va_P D vwCl (cs_w ad cI cR Ln S) H) (hD : va_D A (cs_w ad cI cR Ln S)) (hS : va_S A s.heap H locs) (hl : lv_has ls 4 [(0, .ref (ad 2)), (1, .ref (ad (9 + v1))), (2, .int v2), (3, .int v3)]) (h : wp_X0_onlyLength_30 Ln K4 Q S v1 v2 v3) : W p l e rm_X0_onlyLength s m args below meth c H locs 0 0 (MQ below (va_Qi Q (xr_B D (cs_ty cI cJ cR) (cs_w ad cI cR Ln) A) A) args s 0 0 A) (F0 m 30 ls []) := by
  obtain ⟨⟨hx, hb, hml, hown, hts⟩, hrt, hlk⟩ := id fx
  have hf : 0 ≤ rm_X0_onlyLength.cells ∧ 0 ≤ rm_X0_onlyLength.slots := ⟨Nat.zero_le _, Nat.zero_le _⟩
  unfold wp_X0_onlyLength_30 at h
  obtain ⟨v3_1, ev3_1⟩ : ∃ z : Int32, z = v3 + 1 := ⟨_, rfl⟩
  have h := h v3_1 ev3_1
  refine lv_iinc (v := v3_1) (lv' := [(3, .int v3_1), (0, .ref (ad 2)), (1, .ref (ad (9 + v1))), (2, .int v2)]) hx hb dX0_onlyLength_30 hl (k := 3) rfl (by rw [ev3_1]; rfl) (by decide) rfl (fun ls hl => ?_)
  refine lv_goto (tgt := 4) hx hb dX0_onlyLength_33 (by decide) ?_
  exact k4 _ _ _ _ hP hD hS (lv_sub hl [1, 2, 3, 0] rfl) h
set_option maxHeartbeats 4000000 in
set_option maxRecDepth 100000 in
theorem kb_X0_onlyLength_4 {p : Program} {l : Launch} {e : Env} {s : State} {m : MethodId} {args : Array Value} {below : List Frame} {meth : Method} {c : Code} {D : va_G} {ad : Nat → Nat} {cI cJ cR : ClassId} {Ln : Nat → Nat} {A : Nat → Prop}  {K4 : cs_T → Nat → Int32 → Int32 → Prop} {Q : Int32 → cs_T → Prop} {S : cs_T} {v1 : Nat} {v2 : Int32} {v3 : Int32} (fx : xr_Fx p m c meth cX0_onlyLength 4 s args wsX0_onlyLength RX0 (some .int)) (hK : xr_K D (cs_ty cI cJ cR) s) (hA : ∀ q, s.heap.size ≤ q → A q)   (k4 : ∀ (S : cs_T) (v1 : Nat) (v2 : Int32) (v3 : Int32) {H : Heap} {locs : List Loc} {ls : Array Slot}, va_P D vwCl (cs_w ad cI cR Ln S) H → va_D A (cs_w ad cI cR Ln S) → va_S A s.heap H locs → lv_has ls 4 [(0, .ref (ad 2)), (1, .ref (ad (9 + v1))), (2, .int v2), (3, .int v3)] → K4 S v1 v2 v3 → W p l e rm_X0_onlyLength s m args below meth c H locs 0 0 (MQ below (va_Qi Q (xr_B D (cs_ty cI cJ cR) (cs_w ad cI cR Ln) A) A) args s 0 0 A) (F0 m 4 ls [])) {H : Heap} {locs : List Loc} {ls : Array Slot} (hP : va_P D vwCl (cs_w ad cI cR Ln S) H) (hD : va_D A (cs_w ad cI cR Ln S)) (hS : va_S A s.heap H locs) (hl : lv_has ls 4 [(0, .ref (ad 2)), (1, .ref (ad (9 + v1))), (2, .int v2), (3, .int v3)]) (h : wb_X0_onlyLength_4 Ln K4 Q S v1 v2 v3) : W p l e rm_X0_onlyLength s m args below meth c H locs 0 0 (MQ below (va_Qi Q (xr_B D (cs_ty cI cJ cR) (cs_w ad cI cR Ln) A) A) args s 0 0 A) (F0 m 4 ls []) := by
  obtain ⟨⟨hx, hb, hml, hown, hts⟩, hrt, hlk⟩ := id fx
  have hf : 0 ≤ rm_X0_onlyLength.cells ∧ 0 ≤ rm_X0_onlyLength.slots := ⟨Nat.zero_le _, Nat.zero_le _⟩
  unfold wb_X0_onlyLength_4 at h
  refine lv_iload_n hx hb dX0_onlyLength_4 rfl (lv_at hl 3 rfl) ?_
  refine lv_aload_n hx hb dX0_onlyLength_5 rfl (lv_at hl 0 rfl) ?_
  refine cs_get 2 0 2 (v := .int (S.1 0)) (ref := "BracketLetters$Algebra") fx (by decide) rfl rfl in_X0_onlyLength_X0 (by decide) rfl (by decide +kernel) rfl hK hP dX0_onlyLength_6 ?_
  refine lv_icmp_gt (tgt := 36) hx hb dX0_onlyLength_9 (by decide) (fun c9 => ?_) (fun c9 => ?_)
  · have h := h.1 c9
    refine lv_iload_n hx hb dX0_onlyLength_36 rfl (lv_at hl 2 rfl) ?_
    exact xr_rI fx hK hP hD hS h dX0_onlyLength_37
  · have h := h.2 c9
    refine lv_aload_n hx hb dX0_onlyLength_12 rfl (lv_at hl 0 rfl) ?_
    refine lv_aload_n hx hb dX0_onlyLength_13 rfl (lv_at hl 1 rfl) ?_
    refine lv_iload_n hx hb dX0_onlyLength_14 rfl (lv_at hl 3 rfl) ?_
    refine xr_vI (n := 2) (As := [.ref (ad (9 + v1)), .int v3]) (rest := []) fx (ct_X0_isNought l D ad cI cJ cR Ln h) gX0_onlyLength_X0_isNought rfl rfl (by decide +kernel) ⟨Nat.le_of_ble_eq_true rfl, Nat.le_of_ble_eq_true rfl⟩ ⟨rfl, rfl⟩ hf (cs_recv 2 0 (by decide) rfl rfl hK hP) hK hP hD hS hA hl.1 rfl (Nat.le_of_ble_eq_true rfl) dX0_onlyLength_15 (fun r3 S2 H locs h hP hD hS => ?_)
    refine lv_if_ne (tgt := 30) hx hb dX0_onlyLength_18 (by decide) (fun c18 => ?_) (fun c18 => ?_)
    · have h := h.1 c18
      exact kw_X0_onlyLength_30 fx hK hA k4 hP hD hS (lv_sub hl [0, 1, 2, 3] rfl) h
    · have h := h.2 c18
      refine lv_iload_n hx hb dX0_onlyLength_21 rfl (lv_at hl 2 rfl) ?_
      refine lv_iconst (v := (-1)) hx hb dX0_onlyLength_22 (by decide) ?_
      refine lv_icmp_eq (tgt := 28) hx hb dX0_onlyLength_23 (by decide) (fun c23 => ?_) (fun c23 => ?_)
      · have h := h.1 c23
        refine lv_iload_n hx hb dX0_onlyLength_28 rfl (lv_at hl 3 rfl) ?_
        refine lv_istore_n (lv' := [(2, .int v3), (0, .ref (ad 2)), (1, .ref (ad (9 + v1))), (3, .int v3)]) hx hb dX0_onlyLength_29 rfl hl (by decide) rfl (fun ls hl => ?_)
        exact kw_X0_onlyLength_30 fx hK hA k4 hP hD hS (lv_sub hl [1, 2, 0, 3] rfl) h
      · have h := h.2 c23
        refine lv_iconst (v := (-1)) hx hb dX0_onlyLength_26 (by decide) ?_
        exact xr_rI fx hK hP hD hS h dX0_onlyLength_27
theorem kw_X0_onlyLength_4 {p : Program} {l : Launch} {e : Env} {s : State} {m : MethodId} {args : Array Value} {below : List Frame} {meth : Method} {c : Code} {D : va_G} {ad : Nat → Nat} {cI cJ cR : ClassId} {Ln : Nat → Nat} {A : Nat → Prop}  {Q : Int32 → cs_T → Prop} (fx : xr_Fx p m c meth cX0_onlyLength 4 s args wsX0_onlyLength RX0 (some .int)) (hK : xr_K D (cs_ty cI cJ cR) s) (hA : ∀ q, s.heap.size ≤ q → A q)   : ∀ (n : Nat) (S : cs_T) (v1 : Nat) (v2 : Int32) (v3 : Int32) {H : Heap} {locs : List Loc} {ls : Array Slot}, va_P D vwCl (cs_w ad cI cR Ln S) H → va_D A (cs_w ad cI cR Ln S) → va_S A s.heap H locs → lv_has ls 4 [(0, .ref (ad 2)), (1, .ref (ad (9 + v1))), (2, .int v2), (3, .int v3)] → wp_X0_onlyLength_4 Ln Q n S v1 v2 v3 → W p l e rm_X0_onlyLength s m args below meth c H locs 0 0 (MQ below (va_Qi Q (xr_B D (cs_ty cI cJ cR) (cs_w ad cI cR Ln) A) A) args s 0 0 A) (F0 m 4 ls []) := by
  intro n
  induction n with
  | zero => intro S v1 v2 v3 H locs ls hP hD hS hl h; exact False.elim h
  | succ n ih => intro S v1 v2 v3 H locs ls hP hD hS hl h; exact kb_X0_onlyLength_4 fx hK hA ih hP hD hS hl h
set_option maxHeartbeats 4000000 in
set_option maxRecDepth 100000 in
theorem ct_X0_onlyLength (l : Launch) (D : va_G) (ad : Nat → Nat) (cI cJ cR : ClassId) (Ln : Nat → Nat) {S : cs_T} {a1 : Nat} {Q : Int32 → cs_T → Prop} (h : wp_X0_onlyLength Ln S a1 Q) : xr_I l D (cs_ty cI cJ cR) (cs_w ad cI cR Ln) yX0_onlyLength wsX0_onlyLength rm_X0_onlyLength [.ref (ad 2), .ref (ad (9 + a1))] S Q := by
  refine xr_eI (cc := cX0_onlyLength) (nL := 4) (ret := (some .int)) (own := RX0) (by decide) rfl rfl (Nat.le_of_ble_eq_true rfl) ?_
  intro p e s m args below meth c ls A fx hK hA hP hD hS hl
  have hl : lv_has ls 4 [(0, .ref (ad 2)), (1, .ref (ad (9 + a1)))] := hl
  show W p l e rm_X0_onlyLength s m args below meth c s.heap [] 0 0 _ _
  obtain ⟨⟨hx, hb, hml, hown, hts⟩, hrt, hlk⟩ := id fx
  have hf : 0 ≤ rm_X0_onlyLength.cells ∧ 0 ≤ rm_X0_onlyLength.slots := ⟨Nat.zero_le _, Nat.zero_le _⟩
  unfold wp_X0_onlyLength at h
  refine lv_iconst (v := (-1)) hx hb dX0_onlyLength_0 (by decide) ?_
  refine lv_istore_n (lv' := [(2, .int ((-1))), (0, .ref (ad 2)), (1, .ref (ad (9 + a1)))]) hx hb dX0_onlyLength_1 rfl hl (by decide) rfl (fun ls hl => ?_)
  refine lv_iconst (v := 0) hx hb dX0_onlyLength_2 (by decide) ?_
  refine lv_istore_n (lv' := [(3, .int 0), (2, .int ((-1))), (0, .ref (ad 2)), (1, .ref (ad (9 + a1)))]) hx hb dX0_onlyLength_3 rfl hl (by decide) rfl (fun ls hl => ?_)
  obtain ⟨n, h⟩ := h
  exact kw_X0_onlyLength_4 fx hK hA n _ _ _ _ hP hD hS (lv_sub hl [2, 3, 1, 0] rfl) h
abbrev rm_X2_strip : Room := { frames := 1, cells := 0, slots := 0, locals := 22 }
theorem in_X2_strip_X2 : ∀ w ∈ wsX20, w ∈ wsX2_strip := by decide +kernel
theorem in_X2_strip_X6 : ∀ w ∈ wsX60, w ∈ wsX2_strip := by decide +kernel
set_option maxHeartbeats 4000000 in
set_option maxRecDepth 100000 in
theorem kb_X2_strip_49 {p : Program} {l : Launch} {e : Env} {s : State} {m : MethodId} {args : Array Value} {below : List Frame} {meth : Method} {c : Code} {D : va_G} {ad : Nat → Nat} {cI cJ cR : ClassId} {Ln : Nat → Nat} {A : Nat → Prop}  {K49 : cs_T → Int32 → Int32 → Int32 → Int32 → Prop} {Q : cs_T → Prop} {S : cs_T} {v1 : Int32} {v4 : Int32} {v5 : Int32} {v6 : Int32} (fx : xr_Fx p m c meth cX2_strip 7 s args wsX2_strip RX2 none) (hK : xr_K D (cs_ty cI cJ cR) s) (hA : ∀ q, s.heap.size ≤ q → A q)   (k49 : ∀ (S : cs_T) (v1 : Int32) (v4 : Int32) (v5 : Int32) (v6 : Int32) {H : Heap} {locs : List Loc} {ls : Array Slot}, va_P D vwCl (cs_w ad cI cR Ln S) H → va_D A (cs_w ad cI cR Ln S) → va_S A s.heap H locs → lv_has ls 7 [(0, .ref (ad 5)), (1, .int v1), (4, .int v4), (5, .int v5), (6, .int v6)] → K49 S v1 v4 v5 v6 → W p l e rm_X2_strip s m args below meth c H locs 0 0 (MQ below (va_Qv Q (xr_B D (cs_ty cI cJ cR) (cs_w ad cI cR Ln) A) A) args s 0 0 A) (F0 m 49 ls [])) {H : Heap} {locs : List Loc} {ls : Array Slot} (hP : va_P D vwCl (cs_w ad cI cR Ln S) H) (hD : va_D A (cs_w ad cI cR Ln S)) (hS : va_S A s.heap H locs) (hl : lv_has ls 7 [(0, .ref (ad 5)), (1, .int v1), (4, .int v4), (5, .int v5), (6, .int v6)]) (h : wb_X2_strip_49 Ln K49 Q S v1 v4 v5 v6) : W p l e rm_X2_strip s m args below meth c H locs 0 0 (MQ below (va_Qv Q (xr_B D (cs_ty cI cJ cR) (cs_w ad cI cR Ln) A) A) args s 0 0 A) (F0 m 49 ls []) := by
  obtain ⟨⟨hx, hb, hml, hown, hts⟩, hrt, hlk⟩ := id fx
  have hf : 0 ≤ rm_X2_strip.cells ∧ 0 ≤ rm_X2_strip.slots := ⟨Nat.zero_le _, Nat.zero_le _⟩
  unfold wb_X2_strip_49 at h
  refine lv_iload hx hb dX2_strip_49 (lv_at hl 4 rfl) ?_
  refine lv_aload_n hx hb dX2_strip_51 rfl (lv_at hl 0 rfl) ?_
  refine cs_get 5 2 2 (v := .ref (ad 1)) (ref := "BracketLetters$Laws") fx (by decide) rfl rfl in_X2_strip_X2 (by decide) rfl (by decide +kernel) rfl hK hP dX2_strip_52 ?_
  refine cs_get 1 5 2 (v := .ref (ad (9 + 0))) (ref := "BracketLetters$Words") fx (by decide) rfl rfl in_X2_strip_X6 (by decide) rfl (by decide +kernel) rfl hK hP dX2_strip_55 ?_
  refine lv_iload_n hx hb dX2_strip_58 rfl (lv_at hl 1 rfl) ?_
  obtain ⟨hi1, h⟩ := h
  refine cs_iald 0 (by decide) fx hK hP hi1 dX2_strip_59 ?_
  refine lv_icmp_ge (tgt := 103) hx hb dX2_strip_60 (by decide) (fun c60 => ?_) (fun c60 => ?_)
  · have h := h.1 c60
    exact xr_rV fx hK hP hD hS h dX2_strip_103
  · have h := h.2 c60
    refine lv_iload hx hb dX2_strip_63 (lv_at hl 2 rfl) ?_
    refine lv_if_eq (tgt := 103) hx hb dX2_strip_65 (by decide) (fun c65 => ?_) (fun c65 => ?_)
    · have h := h.1 c65
      exact xr_rV fx hK hP hD hS h dX2_strip_103
    · have h := h.2 c65
      refine lv_aload_n hx hb dX2_strip_68 rfl (lv_at hl 0 rfl) ?_
      refine cs_get 5 2 8 (v := .ref (ad (9 + 45))) (ref := "BracketLetters$Laws") fx (by decide) rfl rfl in_X2_strip_X2 (by decide) rfl (by decide +kernel) rfl hK hP dX2_strip_69 ?_
      refine lv_iload hx hb dX2_strip_72 (lv_at hl 4 rfl) ?_
      refine lv_aload_n hx hb dX2_strip_74 rfl (lv_at hl 0 rfl) ?_
      refine cs_get 5 2 8 (v := .ref (ad (9 + 45))) (ref := "BracketLetters$Laws") fx (by decide) rfl rfl in_X2_strip_X2 (by decide) rfl (by decide +kernel) rfl hK hP dX2_strip_75 ?_
      refine lv_iload hx hb dX2_strip_78 (lv_at hl 4 rfl) ?_
      obtain ⟨hi2, h⟩ := h
      refine cs_iald 45 (by decide) fx hK hP hi2 dX2_strip_80 ?_
      refine lv_aload_n hx hb dX2_strip_81 rfl (lv_at hl 0 rfl) ?_
      obtain ⟨q3, hq3, h⟩ := h
      refine cs_get 5 2 9 (v := .ref q3) (ref := "BracketLetters$Laws") fx (by decide) rfl rfl in_X2_strip_X2 (by decide) (by show some (va_rf _) = some (.ref q3); rw [hq3]; rfl) (by decide +kernel) rfl hK hP dX2_strip_82 ?_
      refine lv_iload hx hb dX2_strip_85 (lv_at hl 3 rfl) ?_
      refine lv_iload hx hb dX2_strip_87 (lv_at hl 4 rfl) ?_
      refine lv_iadd hx hb dX2_strip_89 ?_
      obtain ⟨hi4, h⟩ := h
      refine cs_ialdR hq3 fx hK hP hi4 dX2_strip_90 ?_
      refine lv_iload hx hb dX2_strip_91 (lv_at hl 2 rfl) ?_
      refine xr_sI (n := 3) (As := [.int (S.2.1 45 v6.toNatClampNeg), .int (S.2.1 47 (v5 + v6).toNatClampNeg), .int v4]) (rest := [.int v6, .ref (ad (9 + 45))]) fx (ct_X3_productMore l h) gX2_strip_X3_productMore rfl rfl (by decide +kernel) ⟨Nat.le_of_ble_eq_true rfl, Nat.le_of_ble_eq_true rfl⟩ ⟨rfl, rfl⟩ hf hl.1 rfl (Nat.le_of_ble_eq_true rfl) dX2_strip_93 (fun r5 h => ?_)
      obtain ⟨hi6, h⟩ := h
      refine cs_iast 45 (by decide) fx hK hP hD hS hi6 dX2_strip_96 (fun H locs hP hD hS => ?_)
      obtain ⟨v6_7, ev6_7⟩ : ∃ z : Int32, z = v6 + 1 := ⟨_, rfl⟩
      have h := h v6_7 ev6_7
      refine lv_iinc (v := v6_7) (lv' := [(6, .int v6_7), (0, .ref (ad 5)), (1, .int v1), (4, .int v4), (5, .int v5)]) hx hb dX2_strip_97 hl (k := 4) rfl (by rw [ev6_7]; rfl) (by decide) rfl (fun ls hl => ?_)
      refine lv_goto (tgt := 49) hx hb dX2_strip_100 (by decide) ?_
      exact k49 _ _ _ _ _ hP hD hS (lv_sub hl [1, 2, 3, 4, 0] rfl) h
theorem kw_X2_strip_49 {p : Program} {l : Launch} {e : Env} {s : State} {m : MethodId} {args : Array Value} {below : List Frame} {meth : Method} {c : Code} {D : va_G} {ad : Nat → Nat} {cI cJ cR : ClassId} {Ln : Nat → Nat} {A : Nat → Prop}  {Q : cs_T → Prop} (fx : xr_Fx p m c meth cX2_strip 7 s args wsX2_strip RX2 none) (hK : xr_K D (cs_ty cI cJ cR) s) (hA : ∀ q, s.heap.size ≤ q → A q)   : ∀ (n : Nat) (S : cs_T) (v1 : Int32) (v4 : Int32) (v5 : Int32) (v6 : Int32) {H : Heap} {locs : List Loc} {ls : Array Slot}, va_P D vwCl (cs_w ad cI cR Ln S) H → va_D A (cs_w ad cI cR Ln S) → va_S A s.heap H locs → lv_has ls 7 [(0, .ref (ad 5)), (1, .int v1), (4, .int v4), (5, .int v5), (6, .int v6)] → wp_X2_strip_49 Ln Q n S v1 v4 v5 v6 → W p l e rm_X2_strip s m args below meth c H locs 0 0 (MQ below (va_Qv Q (xr_B D (cs_ty cI cJ cR) (cs_w ad cI cR Ln) A) A) args s 0 0 A) (F0 m 49 ls []) := by
  intro n
  induction n with
  | zero => intro S v1 v4 v5 v6 H locs ls hP hD hS hl h; exact False.elim h
  | succ n ih => intro S v1 v4 v5 v6 H locs ls hP hD hS hl h; exact kb_X2_strip_49 fx hK hA ih hP hD hS hl h
set_option maxHeartbeats 4000000 in
set_option maxRecDepth 100000 in
theorem ct_X2_strip (l : Launch) (D : va_G) (ad : Nat → Nat) (cI cJ cR : ClassId) (Ln : Nat → Nat) {S : cs_T} {a1 : Int32} {a2 : Int32} {Q : cs_T → Prop} (h : wp_X2_strip Ln S a1 a2 Q) : xr_V l D (cs_ty cI cJ cR) (cs_w ad cI cR Ln) yX2_strip wsX2_strip rm_X2_strip [.ref (ad 5), .int a1, .int a2] S Q := by
  refine xr_eV (cc := cX2_strip) (nL := 7) (ret := none) (own := RX2) (by decide) rfl rfl (Nat.le_of_ble_eq_true rfl) ?_
  intro p e s m args below meth c ls A fx hK hA hP hD hS hl
  have hl : lv_has ls 7 [(0, .ref (ad 5)), (1, .int a1), (2, .int a2)] := hl
  show W p l e rm_X2_strip s m args below meth c s.heap [] 0 0 _ _
  obtain ⟨⟨hx, hb, hml, hown, hts⟩, hrt, hlk⟩ := id fx
  have hf : 0 ≤ rm_X2_strip.cells ∧ 0 ≤ rm_X2_strip.slots := ⟨Nat.zero_le _, Nat.zero_le _⟩
  unfold wp_X2_strip at h
  refine lv_aload_n hx hb dX2_strip_0 rfl (lv_at hl 0 rfl) ?_
  refine cs_get 5 2 7 (v := .ref (ad (9 + 44))) (ref := "BracketLetters$Laws") fx (by decide) rfl rfl in_X2_strip_X2 (by decide) rfl (by decide +kernel) rfl hK hP dX2_strip_1 ?_
  refine lv_aload_n hx hb dX2_strip_4 rfl (lv_at hl 0 rfl) ?_
  refine cs_get 5 2 6 (v := .ref (ad (9 + 43))) (ref := "BracketLetters$Laws") fx (by decide) rfl rfl in_X2_strip_X2 (by decide) rfl (by decide +kernel) rfl hK hP dX2_strip_5 ?_
  refine lv_iload_n hx hb dX2_strip_8 rfl (lv_at hl 1 rfl) ?_
  obtain ⟨hi8, h⟩ := h
  refine cs_iald 43 (by decide) fx hK hP hi8 dX2_strip_9 ?_
  refine lv_iload_n hx hb dX2_strip_10 rfl (lv_at hl 2 rfl) ?_
  refine lv_iadd hx hb dX2_strip_11 ?_
  obtain ⟨hi9, h⟩ := h
  refine cs_iald 44 (by decide) fx hK hP hi9 dX2_strip_12 ?_
  refine lv_topi (fun v3_10 ev3_10 => ?_)
  have h := h v3_10 ev3_10
  refine lv_istore_n (lv' := [(3, .int v3_10), (0, .ref (ad 5)), (1, .int a1), (2, .int a2)]) hx hb dX2_strip_13 rfl hl (by decide) rfl (fun ls hl => ?_)
  refine lv_iconst (v := 0) hx hb dX2_strip_14 (by decide) ?_
  refine lv_aload_n hx hb dX2_strip_15 rfl (lv_at hl 1 rfl) ?_
  refine cs_get 5 2 8 (v := .ref (ad (9 + 45))) (ref := "BracketLetters$Laws") fx (by decide) rfl rfl in_X2_strip_X2 (by decide) rfl (by decide +kernel) rfl hK hP dX2_strip_16 ?_
  refine lv_iload_n hx hb dX2_strip_19 rfl (lv_at hl 0 rfl) ?_
  obtain ⟨hi11, h⟩ := h
  refine cs_iald 45 (by decide) fx hK hP hi11 dX2_strip_20 ?_
  refine xr_sI (n := 2) (As := [.int 0, .int (S.2.1 45 v3_10.toNatClampNeg)]) (rest := []) fx (ct_X3_minus l h) gX2_strip_X3_minus rfl rfl (by decide +kernel) ⟨Nat.le_of_ble_eq_true rfl, Nat.le_of_ble_eq_true rfl⟩ ⟨rfl, rfl⟩ hf hl.1 rfl (Nat.le_of_ble_eq_true rfl) dX2_strip_21 (fun r12 h => ?_)
  refine lv_istore (lv' := [(4, .int r12), (3, .int v3_10), (0, .ref (ad 5)), (1, .int a1), (2, .int a2)]) hx hb dX2_strip_24 hl (by decide) rfl (fun ls hl => ?_)
  refine lv_aload_n hx hb dX2_strip_26 rfl (lv_at hl 2 rfl) ?_
  refine cs_get 5 2 5 (v := .ref (ad (9 + 42))) (ref := "BracketLetters$Laws") fx (by decide) rfl rfl in_X2_strip_X2 (by decide) rfl (by decide +kernel) rfl hK hP dX2_strip_27 ?_
  refine lv_iload_n hx hb dX2_strip_30 rfl (lv_at hl 3 rfl) ?_
  obtain ⟨hi13, h⟩ := h
  refine cs_iald 42 (by decide) fx hK hP hi13 dX2_strip_31 ?_
  refine lv_iload_n hx hb dX2_strip_32 rfl (lv_at hl 4 rfl) ?_
  refine lv_aload_n hx hb dX2_strip_33 rfl (lv_at hl 2 rfl) ?_
  refine cs_get 5 2 2 (v := .ref (ad 1)) (ref := "BracketLetters$Laws") fx (by decide) rfl rfl in_X2_strip_X2 (by decide) rfl (by decide +kernel) rfl hK hP dX2_strip_34 ?_
  refine cs_get 1 5 2 (v := .ref (ad (9 + 0))) (ref := "BracketLetters$Words") fx (by decide) rfl rfl in_X2_strip_X6 (by decide) rfl (by decide +kernel) rfl hK hP dX2_strip_37 ?_
  refine lv_iload_n hx hb dX2_strip_40 rfl (lv_at hl 3 rfl) ?_
  obtain ⟨hi14, h⟩ := h
  refine cs_iald 0 (by decide) fx hK hP hi14 dX2_strip_41 ?_
  refine lv_imul hx hb dX2_strip_42 ?_
  refine lv_iadd hx hb dX2_strip_43 ?_
  refine lv_topi (fun v5_15 ev5_15 => ?_)
  have h := h v5_15 ev5_15
  refine lv_istore (lv' := [(5, .int v5_15), (4, .int r12), (3, .int v3_10), (0, .ref (ad 5)), (1, .int a1), (2, .int a2)]) hx hb dX2_strip_44 hl (by decide) rfl (fun ls hl => ?_)
  refine lv_iload_n hx hb dX2_strip_46 rfl (lv_at hl 2 rfl) ?_
  refine lv_istore (lv' := [(6, .int v3_10), (5, .int v5_15), (4, .int r12), (3, .int v3_10), (0, .ref (ad 5)), (1, .int a1), (2, .int a2)]) hx hb dX2_strip_47 hl (by decide) rfl (fun ls hl => ?_)
  obtain ⟨n, h⟩ := h
  exact kw_X2_strip_49 fx hK hA n _ _ _ _ _ hP hD hS (lv_sub hl [4, 5, 2, 1, 0] rfl) h
abbrev rm_X2_keep : Room := { frames := 2, cells := 0, slots := 0, locals := 45 }
theorem in_X2_keep_X2 : ∀ w ∈ wsX20, w ∈ wsX2_keep := by decide +kernel
theorem in_X2_keep_X6 : ∀ w ∈ wsX60, w ∈ wsX2_keep := by decide +kernel
set_option maxHeartbeats 4000000 in
set_option maxRecDepth 100000 in
theorem kb_X2_keep_38 {p : Program} {l : Launch} {e : Env} {s : State} {m : MethodId} {args : Array Value} {below : List Frame} {meth : Method} {c : Code} {D : va_G} {ad : Nat → Nat} {cI cJ cR : ClassId} {Ln : Nat → Nat} {A : Nat → Prop}  {K38 : cs_T → Int32 → Int32 → Int32 → Int32 → Int32 → Prop} {Q : cs_T → Prop} {S : cs_T} {v1 : Int32} {v2 : Int32} {v3 : Int32} {v4 : Int32} {v5 : Int32} (fx : xr_Fx p m c meth cX2_keep 6 s args wsX2_keep RX2 none) (hK : xr_K D (cs_ty cI cJ cR) s) (hA : ∀ q, s.heap.size ≤ q → A q)   (k38 : ∀ (S : cs_T) (v1 : Int32) (v2 : Int32) (v3 : Int32) (v4 : Int32) (v5 : Int32) {H : Heap} {locs : List Loc} {ls : Array Slot}, va_P D vwCl (cs_w ad cI cR Ln S) H → va_D A (cs_w ad cI cR Ln S) → va_S A s.heap H locs → lv_has ls 6 [(0, .ref (ad 5)), (1, .int v1), (2, .int v2), (3, .int v3), (4, .int v4), (5, .int v5)] → K38 S v1 v2 v3 v4 v5 → W p l e rm_X2_keep s m args below meth c H locs 0 0 (MQ below (va_Qv Q (xr_B D (cs_ty cI cJ cR) (cs_w ad cI cR Ln) A) A) args s 0 0 A) (F0 m 38 ls [])) {H : Heap} {locs : List Loc} {ls : Array Slot} (hP : va_P D vwCl (cs_w ad cI cR Ln S) H) (hD : va_D A (cs_w ad cI cR Ln S)) (hS : va_S A s.heap H locs) (hl : lv_has ls 6 [(0, .ref (ad 5)), (1, .int v1), (2, .int v2), (3, .int v3), (4, .int v4), (5, .int v5)]) (h : wb_X2_keep_38 Ln K38 Q S v1 v2 v3 v4 v5) : W p l e rm_X2_keep s m args below meth c H locs 0 0 (MQ below (va_Qv Q (xr_B D (cs_ty cI cJ cR) (cs_w ad cI cR Ln) A) A) args s 0 0 A) (F0 m 38 ls []) := by
  obtain ⟨⟨hx, hb, hml, hown, hts⟩, hrt, hlk⟩ := id fx
  have hf : 0 ≤ rm_X2_keep.cells ∧ 0 ≤ rm_X2_keep.slots := ⟨Nat.zero_le _, Nat.zero_le _⟩
  unfold wb_X2_keep_38 at h
  refine lv_iload hx hb dX2_keep_38 (lv_at hl 5 rfl) ?_
  refine lv_aload_n hx hb dX2_keep_40 rfl (lv_at hl 0 rfl) ?_
  refine cs_get 5 2 2 (v := .ref (ad 1)) (ref := "BracketLetters$Laws") fx (by decide) rfl rfl in_X2_keep_X2 (by decide) rfl (by decide +kernel) rfl hK hP dX2_keep_41 ?_
  refine cs_get 1 5 2 (v := .ref (ad (9 + 0))) (ref := "BracketLetters$Words") fx (by decide) rfl rfl in_X2_keep_X6 (by decide) rfl (by decide +kernel) rfl hK hP dX2_keep_44 ?_
  refine lv_iload_n hx hb dX2_keep_47 rfl (lv_at hl 1 rfl) ?_
  obtain ⟨hi1, h⟩ := h
  refine cs_iald 0 (by decide) fx hK hP hi1 dX2_keep_48 ?_
  refine lv_icmp_ge (tgt := 79) hx hb dX2_keep_49 (by decide) (fun c49 => ?_) (fun c49 => ?_)
  · have h := h.1 c49
    refine lv_aload_n hx hb dX2_keep_79 rfl (lv_at hl 0 rfl) ?_
    refine cs_get 5 2 7 (v := .ref (ad (9 + 44))) (ref := "BracketLetters$Laws") fx (by decide) rfl rfl in_X2_keep_X2 (by decide) rfl (by decide +kernel) rfl hK hP dX2_keep_80 ?_
    refine lv_aload_n hx hb dX2_keep_83 rfl (lv_at hl 0 rfl) ?_
    refine cs_get 5 2 6 (v := .ref (ad (9 + 43))) (ref := "BracketLetters$Laws") fx (by decide) rfl rfl in_X2_keep_X2 (by decide) rfl (by decide +kernel) rfl hK hP dX2_keep_84 ?_
    refine lv_iload_n hx hb dX2_keep_87 rfl (lv_at hl 1 rfl) ?_
    obtain ⟨hi2, h⟩ := h
    refine cs_iald 43 (by decide) fx hK hP hi2 dX2_keep_88 ?_
    refine lv_aload_n hx hb dX2_keep_89 rfl (lv_at hl 0 rfl) ?_
    refine cs_get 5 2 1 (v := .ref (ad (9 + 40))) (ref := "BracketLetters$Laws") fx (by decide) rfl rfl in_X2_keep_X2 (by decide) rfl (by decide +kernel) rfl hK hP dX2_keep_90 ?_
    refine lv_iload_n hx hb dX2_keep_93 rfl (lv_at hl 1 rfl) ?_
    obtain ⟨hi3, h⟩ := h
    refine cs_iald 40 (by decide) fx hK hP hi3 dX2_keep_94 ?_
    refine lv_iadd hx hb dX2_keep_95 ?_
    refine lv_iload_n hx hb dX2_keep_96 rfl (lv_at hl 2 rfl) ?_
    obtain ⟨hi4, h⟩ := h
    refine cs_iast 44 (by decide) fx hK hP hD hS hi4 dX2_keep_97 (fun H locs hP hD hS => ?_)
    refine lv_aload_n hx hb dX2_keep_98 rfl (lv_at hl 0 rfl) ?_
    refine cs_get 5 2 1 (v := .ref (ad (9 + 40))) (ref := "BracketLetters$Laws") fx (by decide) rfl rfl in_X2_keep_X2 (by decide) rfl (by decide +kernel) rfl hK hP dX2_keep_99 ?_
    refine lv_iload_n hx hb dX2_keep_102 rfl (lv_at hl 1 rfl) ?_
    refine lv_dup2_11 hx hb dX2_keep_103 rfl rfl ?_
    obtain ⟨hi5, h⟩ := h
    refine cs_iald 40 (by decide) fx hK hP hi5 dX2_keep_104 ?_
    refine lv_iconst (v := 1) hx hb dX2_keep_105 (by decide) ?_
    refine lv_iadd hx hb dX2_keep_106 ?_
    obtain ⟨hi6, h⟩ := h
    refine cs_iast 40 (by decide) fx hK hP hD hS hi6 dX2_keep_107 (fun H locs hP hD hS => ?_)
    exact xr_rV fx hK hP hD hS h dX2_keep_108
  · have h := h.2 c49
    refine lv_aload_n hx hb dX2_keep_52 rfl (lv_at hl 0 rfl) ?_
    obtain ⟨q7, hq7, h⟩ := h
    refine cs_get 5 2 9 (v := .ref q7) (ref := "BracketLetters$Laws") fx (by decide) rfl rfl in_X2_keep_X2 (by decide) (by show some (va_rf _) = some (.ref q7); rw [hq7]; rfl) (by decide +kernel) rfl hK hP dX2_keep_53 ?_
    refine lv_iload hx hb dX2_keep_56 (lv_at hl 4 rfl) ?_
    refine lv_iload hx hb dX2_keep_58 (lv_at hl 5 rfl) ?_
    refine lv_iadd hx hb dX2_keep_60 ?_
    refine lv_aload_n hx hb dX2_keep_61 rfl (lv_at hl 0 rfl) ?_
    refine cs_get 5 2 8 (v := .ref (ad (9 + 45))) (ref := "BracketLetters$Laws") fx (by decide) rfl rfl in_X2_keep_X2 (by decide) rfl (by decide +kernel) rfl hK hP dX2_keep_62 ?_
    refine lv_iload hx hb dX2_keep_65 (lv_at hl 5 rfl) ?_
    obtain ⟨hi8, h⟩ := h
    refine cs_iald 45 (by decide) fx hK hP hi8 dX2_keep_67 ?_
    refine lv_iload_n hx hb dX2_keep_68 rfl (lv_at hl 3 rfl) ?_
    refine xr_sI (n := 2) (As := [.int (S.2.1 45 v5.toNatClampNeg), .int v3]) (rest := [.int (v4 + v5), .ref q7]) fx (ct_X3_product l h) gX2_keep_X3_product rfl rfl (by decide +kernel) ⟨Nat.le_of_ble_eq_true rfl, Nat.le_of_ble_eq_true rfl⟩ ⟨rfl, rfl⟩ hf hl.1 rfl (Nat.le_of_ble_eq_true rfl) dX2_keep_69 (fun r9 h => ?_)
    obtain ⟨hi10, h⟩ := h
    refine cs_iastR hq7 fx hK hP hD hS hi10 dX2_keep_72 (fun H locs hP hD hS => ?_)
    obtain ⟨v5_11, ev5_11⟩ : ∃ z : Int32, z = v5 + 1 := ⟨_, rfl⟩
    have h := h v5_11 ev5_11
    refine lv_iinc (v := v5_11) (lv' := [(5, .int v5_11), (0, .ref (ad 5)), (1, .int v1), (2, .int v2), (3, .int v3), (4, .int v4)]) hx hb dX2_keep_73 hl (k := 5) rfl (by rw [ev5_11]; rfl) (by decide) rfl (fun ls hl => ?_)
    refine lv_goto (tgt := 38) hx hb dX2_keep_76 (by decide) ?_
    exact k38 _ _ _ _ _ _ hP hD hS (lv_sub hl [1, 2, 3, 4, 5, 0] rfl) h
theorem kw_X2_keep_38 {p : Program} {l : Launch} {e : Env} {s : State} {m : MethodId} {args : Array Value} {below : List Frame} {meth : Method} {c : Code} {D : va_G} {ad : Nat → Nat} {cI cJ cR : ClassId} {Ln : Nat → Nat} {A : Nat → Prop}  {Q : cs_T → Prop} (fx : xr_Fx p m c meth cX2_keep 6 s args wsX2_keep RX2 none) (hK : xr_K D (cs_ty cI cJ cR) s) (hA : ∀ q, s.heap.size ≤ q → A q)   : ∀ (n : Nat) (S : cs_T) (v1 : Int32) (v2 : Int32) (v3 : Int32) (v4 : Int32) (v5 : Int32) {H : Heap} {locs : List Loc} {ls : Array Slot}, va_P D vwCl (cs_w ad cI cR Ln S) H → va_D A (cs_w ad cI cR Ln S) → va_S A s.heap H locs → lv_has ls 6 [(0, .ref (ad 5)), (1, .int v1), (2, .int v2), (3, .int v3), (4, .int v4), (5, .int v5)] → wp_X2_keep_38 Ln Q n S v1 v2 v3 v4 v5 → W p l e rm_X2_keep s m args below meth c H locs 0 0 (MQ below (va_Qv Q (xr_B D (cs_ty cI cJ cR) (cs_w ad cI cR Ln) A) A) args s 0 0 A) (F0 m 38 ls []) := by
  intro n
  induction n with
  | zero => intro S v1 v2 v3 v4 v5 H locs ls hP hD hS hl h; exact False.elim h
  | succ n ih => intro S v1 v2 v3 v4 v5 H locs ls hP hD hS hl h; exact kb_X2_keep_38 fx hK hA ih hP hD hS hl h
set_option maxHeartbeats 4000000 in
set_option maxRecDepth 100000 in
theorem ct_X2_keep (l : Launch) (D : va_G) (ad : Nat → Nat) (cI cJ cR : ClassId) (Ln : Nat → Nat) {S : cs_T} {a1 : Int32} {a2 : Int32} {Q : cs_T → Prop} (h : wp_X2_keep Ln S a1 a2 Q) : xr_V l D (cs_ty cI cJ cR) (cs_w ad cI cR Ln) yX2_keep wsX2_keep rm_X2_keep [.ref (ad 5), .int a1, .int a2] S Q := by
  refine xr_eV (cc := cX2_keep) (nL := 6) (ret := none) (own := RX2) (by decide) rfl rfl (Nat.le_of_ble_eq_true rfl) ?_
  intro p e s m args below meth c ls A fx hK hA hP hD hS hl
  have hl : lv_has ls 6 [(0, .ref (ad 5)), (1, .int a1), (2, .int a2)] := hl
  show W p l e rm_X2_keep s m args below meth c s.heap [] 0 0 _ _
  obtain ⟨⟨hx, hb, hml, hown, hts⟩, hrt, hlk⟩ := id fx
  have hf : 0 ≤ rm_X2_keep.cells ∧ 0 ≤ rm_X2_keep.slots := ⟨Nat.zero_le _, Nat.zero_le _⟩
  unfold wp_X2_keep at h
  refine lv_aload_n hx hb dX2_keep_0 rfl (lv_at hl 0 rfl) ?_
  refine cs_get 5 2 8 (v := .ref (ad (9 + 45))) (ref := "BracketLetters$Laws") fx (by decide) rfl rfl in_X2_keep_X2 (by decide) rfl (by decide +kernel) rfl hK hP dX2_keep_1 ?_
  refine lv_iload_n hx hb dX2_keep_4 rfl (lv_at hl 2 rfl) ?_
  obtain ⟨hi12, h⟩ := h
  refine cs_iald 45 (by decide) fx hK hP hi12 dX2_keep_5 ?_
  refine xr_sI (n := 1) (As := [.int (S.2.1 45 a2.toNatClampNeg)]) (rest := []) fx (ct_X3_reciprocal l h) gX2_keep_X3_reciprocal rfl rfl (by decide +kernel) ⟨Nat.le_of_ble_eq_true rfl, Nat.le_of_ble_eq_true rfl⟩ ⟨rfl, rfl⟩ hf hl.1 rfl (Nat.le_of_ble_eq_true rfl) dX2_keep_6 (fun r13 h => ?_)
  refine lv_istore_n (lv' := [(3, .int r13), (0, .ref (ad 5)), (1, .int a1), (2, .int a2)]) hx hb dX2_keep_9 rfl hl (by decide) rfl (fun ls hl => ?_)
  refine lv_aload_n hx hb dX2_keep_10 rfl (lv_at hl 1 rfl) ?_
  refine cs_get 5 2 5 (v := .ref (ad (9 + 42))) (ref := "BracketLetters$Laws") fx (by decide) rfl rfl in_X2_keep_X2 (by decide) rfl (by decide +kernel) rfl hK hP dX2_keep_11 ?_
  refine lv_iload_n hx hb dX2_keep_14 rfl (lv_at hl 2 rfl) ?_
  obtain ⟨hi14, h⟩ := h
  refine cs_iald 42 (by decide) fx hK hP hi14 dX2_keep_15 ?_
  refine lv_aload_n hx hb dX2_keep_16 rfl (lv_at hl 1 rfl) ?_
  refine cs_get 5 2 1 (v := .ref (ad (9 + 40))) (ref := "BracketLetters$Laws") fx (by decide) rfl rfl in_X2_keep_X2 (by decide) rfl (by decide +kernel) rfl hK hP dX2_keep_17 ?_
  refine lv_iload_n hx hb dX2_keep_20 rfl (lv_at hl 2 rfl) ?_
  obtain ⟨hi15, h⟩ := h
  refine cs_iald 40 (by decide) fx hK hP hi15 dX2_keep_21 ?_
  refine lv_aload_n hx hb dX2_keep_22 rfl (lv_at hl 1 rfl) ?_
  refine cs_get 5 2 2 (v := .ref (ad 1)) (ref := "BracketLetters$Laws") fx (by decide) rfl rfl in_X2_keep_X2 (by decide) rfl (by decide +kernel) rfl hK hP dX2_keep_23 ?_
  refine cs_get 1 5 2 (v := .ref (ad (9 + 0))) (ref := "BracketLetters$Words") fx (by decide) rfl rfl in_X2_keep_X6 (by decide) rfl (by decide +kernel) rfl hK hP dX2_keep_26 ?_
  refine lv_iload_n hx hb dX2_keep_29 rfl (lv_at hl 2 rfl) ?_
  obtain ⟨hi16, h⟩ := h
  refine cs_iald 0 (by decide) fx hK hP hi16 dX2_keep_30 ?_
  refine lv_imul hx hb dX2_keep_31 ?_
  refine lv_iadd hx hb dX2_keep_32 ?_
  refine lv_topi (fun v4_17 ev4_17 => ?_)
  have h := h v4_17 ev4_17
  refine lv_istore (lv' := [(4, .int v4_17), (3, .int r13), (0, .ref (ad 5)), (1, .int a1), (2, .int a2)]) hx hb dX2_keep_33 hl (by decide) rfl (fun ls hl => ?_)
  refine lv_iconst (v := 0) hx hb dX2_keep_35 (by decide) ?_
  refine lv_istore (lv' := [(5, .int 0), (4, .int v4_17), (3, .int r13), (0, .ref (ad 5)), (1, .int a1), (2, .int a2)]) hx hb dX2_keep_36 hl (by decide) rfl (fun ls hl => ?_)
  obtain ⟨n, h⟩ := h
  exact kw_X2_keep_38 fx hK hA n _ _ _ _ _ _ hP hD hS (lv_sub hl [3, 4, 5, 2, 1, 0] rfl) h
abbrev rm_X2_settle : Room := { frames := 3, cells := 0, slots := 0, locals := 70 }
theorem in_X2_settle_X2 : ∀ w ∈ wsX20, w ∈ wsX2_settle := by decide +kernel
theorem in_X2_settle_X6 : ∀ w ∈ wsX60, w ∈ wsX2_settle := by decide +kernel
set_option maxHeartbeats 4000000 in
set_option maxRecDepth 100000 in
theorem kw_X2_settle_72 {p : Program} {l : Launch} {e : Env} {s : State} {m : MethodId} {args : Array Value} {below : List Frame} {meth : Method} {c : Code} {D : va_G} {ad : Nat → Nat} {cI cJ cR : ClassId} {Ln : Nat → Nat} {A : Nat → Prop}  {Q : cs_T → Prop} {S : cs_T} {v1 : Int32} {v2 : Int32} (fx : xr_Fx p m c meth cX2_settle 3 s args wsX2_settle RX2 none) (hK : xr_K D (cs_ty cI cJ cR) s) (hA : ∀ q, s.heap.size ≤ q → A q)   {H : Heap} {locs : List Loc} {ls : Array Slot} (hP : va_P D vwCl (cs_w ad cI cR Ln S) H) (hD : va_D A (cs_w ad cI cR Ln S)) (hS : va_S A s.heap H locs) (hl : lv_has ls 3 [(0, .ref (ad 5)), (1, .int v1), (2, .int v2)]) (h : wp_X2_settle_72 Ln Q S v1 v2) : W p l e rm_X2_settle s m args below meth c H locs 0 0 (MQ below (va_Qv Q (xr_B D (cs_ty cI cJ cR) (cs_w ad cI cR Ln) A) A) args s 0 0 A) (F0 m 72 ls []) := by
  obtain ⟨⟨hx, hb, hml, hown, hts⟩, hrt, hlk⟩ := id fx
  have hf : 0 ≤ rm_X2_settle.cells ∧ 0 ≤ rm_X2_settle.slots := ⟨Nat.zero_le _, Nat.zero_le _⟩
  unfold wp_X2_settle_72 at h
  refine lv_iload_n hx hb dX2_settle_72 rfl (lv_at hl 2 rfl) ?_
  refine lv_aload_n hx hb dX2_settle_73 rfl (lv_at hl 0 rfl) ?_
  refine cs_get 5 2 2 (v := .ref (ad 1)) (ref := "BracketLetters$Laws") fx (by decide) rfl rfl in_X2_settle_X2 (by decide) rfl (by decide +kernel) rfl hK hP dX2_settle_74 ?_
  refine cs_get 1 5 2 (v := .ref (ad (9 + 0))) (ref := "BracketLetters$Words") fx (by decide) rfl rfl in_X2_settle_X6 (by decide) rfl (by decide +kernel) rfl hK hP dX2_settle_77 ?_
  refine lv_iload_n hx hb dX2_settle_80 rfl (lv_at hl 1 rfl) ?_
  obtain ⟨hi1, h⟩ := h
  refine cs_iald 0 (by decide) fx hK hP hi1 dX2_settle_81 ?_
  refine lv_icmp_ge (tgt := 91) hx hb dX2_settle_82 (by decide) (fun c82 => ?_) (fun c82 => ?_)
  · have h := h.1 c82
    exact xr_rV fx hK hP hD hS h dX2_settle_91
  · have h := h.2 c82
    refine lv_aload_n hx hb dX2_settle_85 rfl (lv_at hl 0 rfl) ?_
    refine lv_iload_n hx hb dX2_settle_86 rfl (lv_at hl 1 rfl) ?_
    refine lv_iload_n hx hb dX2_settle_87 rfl (lv_at hl 2 rfl) ?_
    refine xr_vV (n := 2) (As := [.int v1, .int v2]) (rest := []) fx (ct_X2_keep l D ad cI cJ cR Ln h) gX2_settle_X2_keep rfl rfl (by decide +kernel) ⟨Nat.le_of_ble_eq_true rfl, Nat.le_of_ble_eq_true rfl⟩ ⟨rfl, rfl⟩ hf (cs_recv 5 2 (by decide) rfl rfl hK hP) hK hP hD hS hA hl.1 rfl (Nat.le_of_ble_eq_true rfl) dX2_settle_88 (fun S2 H locs h hP hD hS => ?_)
    exact xr_rV fx hK hP hD hS h dX2_settle_91
set_option maxHeartbeats 4000000 in
set_option maxRecDepth 100000 in
theorem kb_X2_settle_44 {p : Program} {l : Launch} {e : Env} {s : State} {m : MethodId} {args : Array Value} {below : List Frame} {meth : Method} {c : Code} {D : va_G} {ad : Nat → Nat} {cI cJ cR : ClassId} {Ln : Nat → Nat} {A : Nat → Prop}  {K44 : cs_T → Int32 → Int32 → Prop} {Q : cs_T → Prop} {S : cs_T} {v1 : Int32} {v2 : Int32} (fx : xr_Fx p m c meth cX2_settle 3 s args wsX2_settle RX2 none) (hK : xr_K D (cs_ty cI cJ cR) s) (hA : ∀ q, s.heap.size ≤ q → A q)   (k44 : ∀ (S : cs_T) (v1 : Int32) (v2 : Int32) {H : Heap} {locs : List Loc} {ls : Array Slot}, va_P D vwCl (cs_w ad cI cR Ln S) H → va_D A (cs_w ad cI cR Ln S) → va_S A s.heap H locs → lv_has ls 3 [(0, .ref (ad 5)), (1, .int v1), (2, .int v2)] → K44 S v1 v2 → W p l e rm_X2_settle s m args below meth c H locs 0 0 (MQ below (va_Qv Q (xr_B D (cs_ty cI cJ cR) (cs_w ad cI cR Ln) A) A) args s 0 0 A) (F0 m 44 ls [])) {H : Heap} {locs : List Loc} {ls : Array Slot} (hP : va_P D vwCl (cs_w ad cI cR Ln S) H) (hD : va_D A (cs_w ad cI cR Ln S)) (hS : va_S A s.heap H locs) (hl : lv_has ls 3 [(0, .ref (ad 5)), (1, .int v1), (2, .int v2)]) (h : wb_X2_settle_44 Ln K44 Q S v1 v2) : W p l e rm_X2_settle s m args below meth c H locs 0 0 (MQ below (va_Qv Q (xr_B D (cs_ty cI cJ cR) (cs_w ad cI cR Ln) A) A) args s 0 0 A) (F0 m 44 ls []) := by
  obtain ⟨⟨hx, hb, hml, hown, hts⟩, hrt, hlk⟩ := id fx
  have hf : 0 ≤ rm_X2_settle.cells ∧ 0 ≤ rm_X2_settle.slots := ⟨Nat.zero_le _, Nat.zero_le _⟩
  unfold wb_X2_settle_44 at h
  refine lv_iload_n hx hb dX2_settle_44 rfl (lv_at hl 2 rfl) ?_
  refine lv_aload_n hx hb dX2_settle_45 rfl (lv_at hl 0 rfl) ?_
  refine cs_get 5 2 2 (v := .ref (ad 1)) (ref := "BracketLetters$Laws") fx (by decide) rfl rfl in_X2_settle_X2 (by decide) rfl (by decide +kernel) rfl hK hP dX2_settle_46 ?_
  refine cs_get 1 5 2 (v := .ref (ad (9 + 0))) (ref := "BracketLetters$Words") fx (by decide) rfl rfl in_X2_settle_X6 (by decide) rfl (by decide +kernel) rfl hK hP dX2_settle_49 ?_
  refine lv_iload_n hx hb dX2_settle_52 rfl (lv_at hl 1 rfl) ?_
  obtain ⟨hi3, h⟩ := h
  refine cs_iald 0 (by decide) fx hK hP hi3 dX2_settle_53 ?_
  refine lv_icmp_ge (tgt := 72) hx hb dX2_settle_54 (by decide) (fun c54 => ?_) (fun c54 => ?_)
  · have h := h.1 c54
    exact kw_X2_settle_72 fx hK hA hP hD hS (lv_sub hl [0, 1, 2] rfl) h
  · have h := h.2 c54
    refine lv_aload_n hx hb dX2_settle_57 rfl (lv_at hl 0 rfl) ?_
    refine cs_get 5 2 8 (v := .ref (ad (9 + 45))) (ref := "BracketLetters$Laws") fx (by decide) rfl rfl in_X2_settle_X2 (by decide) rfl (by decide +kernel) rfl hK hP dX2_settle_58 ?_
    refine lv_iload_n hx hb dX2_settle_61 rfl (lv_at hl 2 rfl) ?_
    obtain ⟨hi4, h⟩ := h
    refine cs_iald 45 (by decide) fx hK hP hi4 dX2_settle_62 ?_
    refine lv_if_ne (tgt := 72) hx hb dX2_settle_63 (by decide) (fun c63 => ?_) (fun c63 => ?_)
    · have h := h.1 c63
      exact kw_X2_settle_72 fx hK hA hP hD hS (lv_sub hl [0, 1, 2] rfl) h
    · have h := h.2 c63
      obtain ⟨v2_5, ev2_5⟩ : ∃ z : Int32, z = v2 + 1 := ⟨_, rfl⟩
      have h := h v2_5 ev2_5
      refine lv_iinc (v := v2_5) (lv' := [(2, .int v2_5), (0, .ref (ad 5)), (1, .int v1)]) hx hb dX2_settle_66 hl (k := 2) rfl (by rw [ev2_5]; rfl) (by decide) rfl (fun ls hl => ?_)
      refine lv_goto (tgt := 44) hx hb dX2_settle_69 (by decide) ?_
      exact k44 _ _ _ hP hD hS (lv_sub hl [1, 2, 0] rfl) h
theorem kw_X2_settle_44 {p : Program} {l : Launch} {e : Env} {s : State} {m : MethodId} {args : Array Value} {below : List Frame} {meth : Method} {c : Code} {D : va_G} {ad : Nat → Nat} {cI cJ cR : ClassId} {Ln : Nat → Nat} {A : Nat → Prop}  {Q : cs_T → Prop} (fx : xr_Fx p m c meth cX2_settle 3 s args wsX2_settle RX2 none) (hK : xr_K D (cs_ty cI cJ cR) s) (hA : ∀ q, s.heap.size ≤ q → A q)   : ∀ (n : Nat) (S : cs_T) (v1 : Int32) (v2 : Int32) {H : Heap} {locs : List Loc} {ls : Array Slot}, va_P D vwCl (cs_w ad cI cR Ln S) H → va_D A (cs_w ad cI cR Ln S) → va_S A s.heap H locs → lv_has ls 3 [(0, .ref (ad 5)), (1, .int v1), (2, .int v2)] → wp_X2_settle_44 Ln Q n S v1 v2 → W p l e rm_X2_settle s m args below meth c H locs 0 0 (MQ below (va_Qv Q (xr_B D (cs_ty cI cJ cR) (cs_w ad cI cR Ln) A) A) args s 0 0 A) (F0 m 44 ls []) := by
  intro n
  induction n with
  | zero => intro S v1 v2 H locs ls hP hD hS hl h; exact False.elim h
  | succ n ih => intro S v1 v2 H locs ls hP hD hS hl h; exact kb_X2_settle_44 fx hK hA ih hP hD hS hl h
set_option maxHeartbeats 4000000 in
set_option maxRecDepth 100000 in
theorem kb_X2_settle_20 {p : Program} {l : Launch} {e : Env} {s : State} {m : MethodId} {args : Array Value} {below : List Frame} {meth : Method} {c : Code} {D : va_G} {ad : Nat → Nat} {cI cJ cR : ClassId} {Ln : Nat → Nat} {A : Nat → Prop}  {K20 : cs_T → Int32 → Int32 → Prop} {Q : cs_T → Prop} {S : cs_T} {v1 : Int32} {v2 : Int32} (fx : xr_Fx p m c meth cX2_settle 3 s args wsX2_settle RX2 none) (hK : xr_K D (cs_ty cI cJ cR) s) (hA : ∀ q, s.heap.size ≤ q → A q)   (k20 : ∀ (S : cs_T) (v1 : Int32) (v2 : Int32) {H : Heap} {locs : List Loc} {ls : Array Slot}, va_P D vwCl (cs_w ad cI cR Ln S) H → va_D A (cs_w ad cI cR Ln S) → va_S A s.heap H locs → lv_has ls 3 [(0, .ref (ad 5)), (1, .int v1), (2, .int v2)] → K20 S v1 v2 → W p l e rm_X2_settle s m args below meth c H locs 0 0 (MQ below (va_Qv Q (xr_B D (cs_ty cI cJ cR) (cs_w ad cI cR Ln) A) A) args s 0 0 A) (F0 m 20 ls [])) {H : Heap} {locs : List Loc} {ls : Array Slot} (hP : va_P D vwCl (cs_w ad cI cR Ln S) H) (hD : va_D A (cs_w ad cI cR Ln S)) (hS : va_S A s.heap H locs) (hl : lv_has ls 3 [(0, .ref (ad 5)), (1, .int v1), (2, .int v2)]) (h : wb_X2_settle_20 Ln K20 Q S v1 v2) : W p l e rm_X2_settle s m args below meth c H locs 0 0 (MQ below (va_Qv Q (xr_B D (cs_ty cI cJ cR) (cs_w ad cI cR Ln) A) A) args s 0 0 A) (F0 m 20 ls []) := by
  obtain ⟨⟨hx, hb, hml, hown, hts⟩, hrt, hlk⟩ := id fx
  have hf : 0 ≤ rm_X2_settle.cells ∧ 0 ≤ rm_X2_settle.slots := ⟨Nat.zero_le _, Nat.zero_le _⟩
  unfold wb_X2_settle_20 at h
  refine lv_iload_n hx hb dX2_settle_20 rfl (lv_at hl 2 rfl) ?_
  refine lv_aload_n hx hb dX2_settle_21 rfl (lv_at hl 0 rfl) ?_
  refine cs_get 5 2 1 (v := .ref (ad (9 + 40))) (ref := "BracketLetters$Laws") fx (by decide) rfl rfl in_X2_settle_X2 (by decide) rfl (by decide +kernel) rfl hK hP dX2_settle_22 ?_
  refine lv_iload_n hx hb dX2_settle_25 rfl (lv_at hl 1 rfl) ?_
  obtain ⟨hi6, h⟩ := h
  refine cs_iald 40 (by decide) fx hK hP hi6 dX2_settle_26 ?_
  refine lv_icmp_ge (tgt := 42) hx hb dX2_settle_27 (by decide) (fun c27 => ?_) (fun c27 => ?_)
  · have h := h.1 c27
    refine lv_iconst (v := 0) hx hb dX2_settle_42 (by decide) ?_
    refine lv_istore_n (lv' := [(2, .int 0), (0, .ref (ad 5)), (1, .int v1)]) hx hb dX2_settle_43 rfl hl (by decide) rfl (fun ls hl => ?_)
    obtain ⟨n, h⟩ := h
    exact kw_X2_settle_44 fx hK hA n _ _ _ hP hD hS (lv_sub hl [1, 2, 0] rfl) h
  · have h := h.2 c27
    refine lv_aload_n hx hb dX2_settle_30 rfl (lv_at hl 0 rfl) ?_
    refine lv_iload_n hx hb dX2_settle_31 rfl (lv_at hl 1 rfl) ?_
    refine lv_iload_n hx hb dX2_settle_32 rfl (lv_at hl 2 rfl) ?_
    refine xr_vV (n := 2) (As := [.int v1, .int v2]) (rest := []) fx (ct_X2_strip l D ad cI cJ cR Ln h) gX2_settle_X2_strip rfl rfl (by decide +kernel) ⟨Nat.le_of_ble_eq_true rfl, Nat.le_of_ble_eq_true rfl⟩ ⟨rfl, rfl⟩ hf (cs_recv 5 2 (by decide) rfl rfl hK hP) hK hP hD hS hA hl.1 rfl (Nat.le_of_ble_eq_true rfl) dX2_settle_33 (fun S7 H locs h hP hD hS => ?_)
    obtain ⟨v2_8, ev2_8⟩ : ∃ z : Int32, z = v2 + 1 := ⟨_, rfl⟩
    have h := h v2_8 ev2_8
    refine lv_iinc (v := v2_8) (lv' := [(2, .int v2_8), (0, .ref (ad 5)), (1, .int v1)]) hx hb dX2_settle_36 hl (k := 2) rfl (by rw [ev2_8]; rfl) (by decide) rfl (fun ls hl => ?_)
    refine lv_goto (tgt := 20) hx hb dX2_settle_39 (by decide) ?_
    exact k20 _ _ _ hP hD hS (lv_sub hl [1, 2, 0] rfl) h
theorem kw_X2_settle_20 {p : Program} {l : Launch} {e : Env} {s : State} {m : MethodId} {args : Array Value} {below : List Frame} {meth : Method} {c : Code} {D : va_G} {ad : Nat → Nat} {cI cJ cR : ClassId} {Ln : Nat → Nat} {A : Nat → Prop}  {Q : cs_T → Prop} (fx : xr_Fx p m c meth cX2_settle 3 s args wsX2_settle RX2 none) (hK : xr_K D (cs_ty cI cJ cR) s) (hA : ∀ q, s.heap.size ≤ q → A q)   : ∀ (n : Nat) (S : cs_T) (v1 : Int32) (v2 : Int32) {H : Heap} {locs : List Loc} {ls : Array Slot}, va_P D vwCl (cs_w ad cI cR Ln S) H → va_D A (cs_w ad cI cR Ln S) → va_S A s.heap H locs → lv_has ls 3 [(0, .ref (ad 5)), (1, .int v1), (2, .int v2)] → wp_X2_settle_20 Ln Q n S v1 v2 → W p l e rm_X2_settle s m args below meth c H locs 0 0 (MQ below (va_Qv Q (xr_B D (cs_ty cI cJ cR) (cs_w ad cI cR Ln) A) A) args s 0 0 A) (F0 m 20 ls []) := by
  intro n
  induction n with
  | zero => intro S v1 v2 H locs ls hP hD hS hl h; exact False.elim h
  | succ n ih => intro S v1 v2 H locs ls hP hD hS hl h; exact kb_X2_settle_20 fx hK hA ih hP hD hS hl h
set_option maxHeartbeats 4000000 in
set_option maxRecDepth 100000 in
theorem ct_X2_settle (l : Launch) (D : va_G) (ad : Nat → Nat) (cI cJ cR : ClassId) (Ln : Nat → Nat) {S : cs_T} {a1 : Int32} {Q : cs_T → Prop} (h : wp_X2_settle Ln S a1 Q) : xr_V l D (cs_ty cI cJ cR) (cs_w ad cI cR Ln) yX2_settle wsX2_settle rm_X2_settle [.ref (ad 5), .int a1] S Q := by
  refine xr_eV (cc := cX2_settle) (nL := 3) (ret := none) (own := RX2) (by decide) rfl rfl (Nat.le_of_ble_eq_true rfl) ?_
  intro p e s m args below meth c ls A fx hK hA hP hD hS hl
  have hl : lv_has ls 3 [(0, .ref (ad 5)), (1, .int a1)] := hl
  show W p l e rm_X2_settle s m args below meth c s.heap [] 0 0 _ _
  obtain ⟨⟨hx, hb, hml, hown, hts⟩, hrt, hlk⟩ := id fx
  have hf : 0 ≤ rm_X2_settle.cells ∧ 0 ≤ rm_X2_settle.slots := ⟨Nat.zero_le _, Nat.zero_le _⟩
  unfold wp_X2_settle at h
  refine lv_aload_n hx hb dX2_settle_0 rfl (lv_at hl 0 rfl) ?_
  refine cs_get 5 2 1 (v := .ref (ad (9 + 40))) (ref := "BracketLetters$Laws") fx (by decide) rfl rfl in_X2_settle_X2 (by decide) rfl (by decide +kernel) rfl hK hP dX2_settle_1 ?_
  refine lv_iload_n hx hb dX2_settle_4 rfl (lv_at hl 1 rfl) ?_
  obtain ⟨hi9, h⟩ := h
  refine cs_iald 40 (by decide) fx hK hP hi9 dX2_settle_5 ?_
  refine lv_aload_n hx hb dX2_settle_6 rfl (lv_at hl 0 rfl) ?_
  refine cs_get 5 2 3 (v := .ref (ad 3)) (ref := "BracketLetters$Laws") fx (by decide) rfl rfl in_X2_settle_X2 (by decide) rfl (by decide +kernel) rfl hK hP dX2_settle_7 ?_
  refine lv_iload_n hx hb dX2_settle_10 rfl (lv_at hl 1 rfl) ?_
  refine xr_vI (n := 1) (As := [.int a1]) (rest := [.int (S.2.1 40 a1.toNatClampNeg)]) fx (ct_X1_ofLength l D ad cI cJ cR Ln h) gX2_settle_X1_ofLength rfl rfl (by decide +kernel) ⟨Nat.le_of_ble_eq_true rfl, Nat.le_of_ble_eq_true rfl⟩ ⟨rfl, rfl⟩ hf (cs_recv 3 1 (by decide) rfl rfl hK hP) hK hP hD hS hA hl.1 rfl (Nat.le_of_ble_eq_true rfl) dX2_settle_11 (fun r11 S10 H locs h hP hD hS => ?_)
  refine lv_icmp_lt (tgt := 18) hx hb dX2_settle_14 (by decide) (fun c14 => ?_) (fun c14 => ?_)
  · have h := h.1 c14
    refine lv_iconst (v := 0) hx hb dX2_settle_18 (by decide) ?_
    refine lv_istore_n (lv' := [(2, .int 0), (0, .ref (ad 5)), (1, .int a1)]) hx hb dX2_settle_19 rfl hl (by decide) rfl (fun ls hl => ?_)
    obtain ⟨n, h⟩ := h
    exact kw_X2_settle_20 fx hK hA n _ _ _ hP hD hS (lv_sub hl [1, 2, 0] rfl) h
  · have h := h.2 c14
    exact xr_rV fx hK hP hD hS h dX2_settle_17
abbrev rm_X2_bracketToHand : Room := { frames := 2, cells := 0, slots := 0, locals := 46 }
theorem in_X2_bracketToHand_X2 : ∀ w ∈ wsX20, w ∈ wsX2_bracketToHand := by decide +kernel
theorem in_X2_bracketToHand_X6 : ∀ w ∈ wsX60, w ∈ wsX2_bracketToHand := by decide +kernel
set_option maxHeartbeats 4000000 in
set_option maxRecDepth 100000 in
theorem kb_X2_bracketToHand_49 {p : Program} {l : Launch} {e : Env} {s : State} {m : MethodId} {args : Array Value} {below : List Frame} {meth : Method} {c : Code} {D : va_G} {ad : Nat → Nat} {cI cJ cR : ClassId} {Ln : Nat → Nat} {A : Nat → Prop}  {K49 : cs_T → Int32 → Int32 → Int32 → Int32 → Prop} {Q : cs_T → Prop} {S : cs_T} {v3 : Int32} {v4 : Int32} {v5 : Int32} {v6 : Int32} (fx : xr_Fx p m c meth cX2_bracketToHand 9 s args wsX2_bracketToHand RX2 none) (hK : xr_K D (cs_ty cI cJ cR) s) (hA : ∀ q, s.heap.size ≤ q → A q)   (k49 : ∀ (S : cs_T) (v3 : Int32) (v4 : Int32) (v5 : Int32) (v6 : Int32) {H : Heap} {locs : List Loc} {ls : Array Slot}, va_P D vwCl (cs_w ad cI cR Ln S) H → va_D A (cs_w ad cI cR Ln S) → va_S A s.heap H locs → lv_has ls 9 [(0, .ref (ad 5)), (3, .int v3), (4, .int v4), (5, .int v5), (6, .int v6)] → K49 S v3 v4 v5 v6 → W p l e rm_X2_bracketToHand s m args below meth c H locs 0 0 (MQ below (va_Qv Q (xr_B D (cs_ty cI cJ cR) (cs_w ad cI cR Ln) A) A) args s 0 0 A) (F0 m 49 ls [])) {H : Heap} {locs : List Loc} {ls : Array Slot} (hP : va_P D vwCl (cs_w ad cI cR Ln S) H) (hD : va_D A (cs_w ad cI cR Ln S)) (hS : va_S A s.heap H locs) (hl : lv_has ls 9 [(0, .ref (ad 5)), (3, .int v3), (4, .int v4), (5, .int v5), (6, .int v6)]) (h : wb_X2_bracketToHand_49 Ln K49 Q S v3 v4 v5 v6) : W p l e rm_X2_bracketToHand s m args below meth c H locs 0 0 (MQ below (va_Qv Q (xr_B D (cs_ty cI cJ cR) (cs_w ad cI cR Ln) A) A) args s 0 0 A) (F0 m 49 ls []) := by
  obtain ⟨⟨hx, hb, hml, hown, hts⟩, hrt, hlk⟩ := id fx
  have hf : 0 ≤ rm_X2_bracketToHand.cells ∧ 0 ≤ rm_X2_bracketToHand.slots := ⟨Nat.zero_le _, Nat.zero_le _⟩
  unfold wb_X2_bracketToHand_49 at h
  refine lv_iload hx hb dX2_bracketToHand_49 (lv_at hl 4 rfl) ?_
  refine lv_iload hx hb dX2_bracketToHand_51 (lv_at hl 2 rfl) ?_
  refine lv_icmp_ge (tgt := 139) hx hb dX2_bracketToHand_53 (by decide) (fun c53 => ?_) (fun c53 => ?_)
  · have h := h.1 c53
    exact xr_rV fx hK hP hD hS h dX2_bracketToHand_139
  · have h := h.2 c53
    refine lv_iload_n hx hb dX2_bracketToHand_56 rfl (lv_at hl 1 rfl) ?_
    refine lv_iload hx hb dX2_bracketToHand_57 (lv_at hl 2 rfl) ?_
    refine lv_imul hx hb dX2_bracketToHand_59 ?_
    refine lv_iload hx hb dX2_bracketToHand_60 (lv_at hl 4 rfl) ?_
    refine lv_iadd hx hb dX2_bracketToHand_62 ?_
    refine lv_topi (fun v7_1 ev7_1 => ?_)
    have h := h v7_1 ev7_1
    refine lv_istore (lv' := [(7, .int v7_1), (0, .ref (ad 5)), (3, .int v3), (4, .int v4), (5, .int v5), (6, .int v6)]) hx hb dX2_bracketToHand_63 hl (by decide) rfl (fun ls hl => ?_)
    refine lv_iload hx hb dX2_bracketToHand_65 (lv_at hl 5 rfl) ?_
    refine lv_aload_n hx hb dX2_bracketToHand_67 rfl (lv_at hl 1 rfl) ?_
    refine cs_get 5 2 2 (v := .ref (ad 1)) (ref := "BracketLetters$Laws") fx (by decide) rfl rfl in_X2_bracketToHand_X2 (by decide) rfl (by decide +kernel) rfl hK hP dX2_bracketToHand_68 ?_
    refine cs_get 1 5 0 (v := .int (S.1 2)) (ref := "BracketLetters$Words") fx (by decide) rfl rfl in_X2_bracketToHand_X6 (by decide) rfl (by decide +kernel) rfl hK hP dX2_bracketToHand_71 ?_
    refine lv_imul hx hb dX2_bracketToHand_74 ?_
    refine lv_iload_n hx hb dX2_bracketToHand_75 rfl (lv_at hl 2 rfl) ?_
    refine lv_iadd hx hb dX2_bracketToHand_76 ?_
    refine lv_topi (fun v8_2 ev8_2 => ?_)
    have h := h v8_2 ev8_2
    refine lv_istore (lv' := [(8, .int v8_2), (7, .int v7_1), (0, .ref (ad 5)), (3, .int v3), (4, .int v4), (5, .int v5), (6, .int v6)]) hx hb dX2_bracketToHand_77 hl (by decide) rfl (fun ls hl => ?_)
    refine lv_aload_n hx hb dX2_bracketToHand_79 rfl (lv_at hl 2 rfl) ?_
    refine cs_get 5 2 8 (v := .ref (ad (9 + 45))) (ref := "BracketLetters$Laws") fx (by decide) rfl rfl in_X2_bracketToHand_X2 (by decide) rfl (by decide +kernel) rfl hK hP dX2_bracketToHand_80 ?_
    refine lv_iload hx hb dX2_bracketToHand_83 (lv_at hl 1 rfl) ?_
    refine lv_aload_n hx hb dX2_bracketToHand_85 rfl (lv_at hl 2 rfl) ?_
    refine cs_get 5 2 8 (v := .ref (ad (9 + 45))) (ref := "BracketLetters$Laws") fx (by decide) rfl rfl in_X2_bracketToHand_X2 (by decide) rfl (by decide +kernel) rfl hK hP dX2_bracketToHand_86 ?_
    refine lv_iload hx hb dX2_bracketToHand_89 (lv_at hl 1 rfl) ?_
    obtain ⟨hi3, h⟩ := h
    refine cs_iald 45 (by decide) fx hK hP hi3 dX2_bracketToHand_91 ?_
    refine lv_aload_n hx hb dX2_bracketToHand_92 rfl (lv_at hl 2 rfl) ?_
    obtain ⟨q4, hq4, h⟩ := h
    refine cs_get 5 2 9 (v := .ref q4) (ref := "BracketLetters$Laws") fx (by decide) rfl rfl in_X2_bracketToHand_X2 (by decide) (by show some (va_rf _) = some (.ref q4); rw [hq4]; rfl) (by decide +kernel) rfl hK hP dX2_bracketToHand_93 ?_
    refine lv_iload hx hb dX2_bracketToHand_96 (lv_at hl 5 rfl) ?_
    refine lv_iload hx hb dX2_bracketToHand_98 (lv_at hl 6 rfl) ?_
    refine lv_iadd hx hb dX2_bracketToHand_100 ?_
    obtain ⟨hi5, h⟩ := h
    refine cs_ialdR hq4 fx hK hP hi5 dX2_bracketToHand_101 ?_
    refine xr_sI (n := 2) (As := [.int (S.2.1 45 v7_1.toNatClampNeg), .int (S.2.1 47 (v5 + v6).toNatClampNeg)]) (rest := [.int v7_1, .ref (ad (9 + 45))]) fx (ct_X3_plus l h) gX2_bracketToHand_X3_plus rfl rfl (by decide +kernel) ⟨Nat.le_of_ble_eq_true rfl, Nat.le_of_ble_eq_true rfl⟩ ⟨rfl, rfl⟩ hf hl.1 rfl (Nat.le_of_ble_eq_true rfl) dX2_bracketToHand_102 (fun r6 h => ?_)
    obtain ⟨hi7, h⟩ := h
    refine cs_iast 45 (by decide) fx hK hP hD hS hi7 dX2_bracketToHand_105 (fun H locs hP hD hS => ?_)
    refine lv_aload_n hx hb dX2_bracketToHand_106 rfl (lv_at hl 2 rfl) ?_
    refine cs_get 5 2 8 (v := .ref (ad (9 + 45))) (ref := "BracketLetters$Laws") fx (by decide) rfl rfl in_X2_bracketToHand_X2 (by decide) rfl (by decide +kernel) rfl hK hP dX2_bracketToHand_107 ?_
    refine lv_iload hx hb dX2_bracketToHand_110 (lv_at hl 0 rfl) ?_
    refine lv_aload_n hx hb dX2_bracketToHand_112 rfl (lv_at hl 2 rfl) ?_
    refine cs_get 5 2 8 (v := .ref (ad (9 + 45))) (ref := "BracketLetters$Laws") fx (by decide) rfl rfl in_X2_bracketToHand_X2 (by decide) rfl (by decide +kernel) rfl hK hP dX2_bracketToHand_113 ?_
    refine lv_iload hx hb dX2_bracketToHand_116 (lv_at hl 0 rfl) ?_
    obtain ⟨hi8, h⟩ := h
    refine cs_iald 45 (by decide) fx hK hP hi8 dX2_bracketToHand_118 ?_
    refine lv_aload_n hx hb dX2_bracketToHand_119 rfl (lv_at hl 2 rfl) ?_
    obtain ⟨q9, hq9, h⟩ := h
    refine cs_get 5 2 9 (v := .ref q9) (ref := "BracketLetters$Laws") fx (by decide) rfl rfl in_X2_bracketToHand_X2 (by decide) (by show some (va_rf _) = some (.ref q9); rw [hq9]; rfl) (by decide +kernel) rfl hK hP dX2_bracketToHand_120 ?_
    refine lv_iload hx hb dX2_bracketToHand_123 (lv_at hl 5 rfl) ?_
    refine lv_iload hx hb dX2_bracketToHand_125 (lv_at hl 6 rfl) ?_
    refine lv_iadd hx hb dX2_bracketToHand_127 ?_
    obtain ⟨hi10, h⟩ := h
    refine cs_ialdR hq9 fx hK hP hi10 dX2_bracketToHand_128 ?_
    refine xr_sI (n := 2) (As := [.int ((cs_sI S 45 v7_1.toNatClampNeg r6).2.1 45 v8_2.toNatClampNeg), .int ((cs_sI S 45 v7_1.toNatClampNeg r6).2.1 47 (v5 + v6).toNatClampNeg)]) (rest := [.int v8_2, .ref (ad (9 + 45))]) fx (ct_X3_minus l h) gX2_bracketToHand_X3_minus rfl rfl (by decide +kernel) ⟨Nat.le_of_ble_eq_true rfl, Nat.le_of_ble_eq_true rfl⟩ ⟨rfl, rfl⟩ hf hl.1 rfl (Nat.le_of_ble_eq_true rfl) dX2_bracketToHand_129 (fun r11 h => ?_)
    obtain ⟨hi12, h⟩ := h
    refine cs_iast 45 (by decide) fx hK hP hD hS hi12 dX2_bracketToHand_132 (fun H locs hP hD hS => ?_)
    obtain ⟨v6_13, ev6_13⟩ : ∃ z : Int32, z = v6 + 1 := ⟨_, rfl⟩
    have h := h v6_13 ev6_13
    refine lv_iinc (v := v6_13) (lv' := [(6, .int v6_13), (8, .int v8_2), (7, .int v7_1), (0, .ref (ad 5)), (3, .int v3), (4, .int v4), (5, .int v5)]) hx hb dX2_bracketToHand_133 hl (k := 6) rfl (by rw [ev6_13]; rfl) (by decide) rfl (fun ls hl => ?_)
    refine lv_goto (tgt := 49) hx hb dX2_bracketToHand_136 (by decide) ?_
    exact k49 _ _ _ _ _ hP hD hS (lv_sub hl [3, 4, 5, 6, 0] rfl) h
theorem kw_X2_bracketToHand_49 {p : Program} {l : Launch} {e : Env} {s : State} {m : MethodId} {args : Array Value} {below : List Frame} {meth : Method} {c : Code} {D : va_G} {ad : Nat → Nat} {cI cJ cR : ClassId} {Ln : Nat → Nat} {A : Nat → Prop}  {Q : cs_T → Prop} (fx : xr_Fx p m c meth cX2_bracketToHand 9 s args wsX2_bracketToHand RX2 none) (hK : xr_K D (cs_ty cI cJ cR) s) (hA : ∀ q, s.heap.size ≤ q → A q)   : ∀ (n : Nat) (S : cs_T) (v3 : Int32) (v4 : Int32) (v5 : Int32) (v6 : Int32) {H : Heap} {locs : List Loc} {ls : Array Slot}, va_P D vwCl (cs_w ad cI cR Ln S) H → va_D A (cs_w ad cI cR Ln S) → va_S A s.heap H locs → lv_has ls 9 [(0, .ref (ad 5)), (3, .int v3), (4, .int v4), (5, .int v5), (6, .int v6)] → wp_X2_bracketToHand_49 Ln Q n S v3 v4 v5 v6 → W p l e rm_X2_bracketToHand s m args below meth c H locs 0 0 (MQ below (va_Qv Q (xr_B D (cs_ty cI cJ cR) (cs_w ad cI cR Ln) A) A) args s 0 0 A) (F0 m 49 ls []) := by
  intro n
  induction n with
  | zero => intro S v3 v4 v5 v6 H locs ls hP hD hS hl h; exact False.elim h
  | succ n ih => intro S v3 v4 v5 v6 H locs ls hP hD hS hl h; exact kb_X2_bracketToHand_49 fx hK hA ih hP hD hS hl h
set_option maxHeartbeats 4000000 in
set_option maxRecDepth 100000 in
theorem ct_X2_bracketToHand (l : Launch) (D : va_G) (ad : Nat → Nat) (cI cJ cR : ClassId) (Ln : Nat → Nat) {S : cs_T} {a1 : Int32} {a2 : Int32} {a3 : Int32} {Q : cs_T → Prop} (h : wp_X2_bracketToHand Ln S a1 a2 a3 Q) : xr_V l D (cs_ty cI cJ cR) (cs_w ad cI cR Ln) yX2_bracketToHand wsX2_bracketToHand rm_X2_bracketToHand [.ref (ad 5), .int a1, .int a2, .int a3] S Q := by
  refine xr_eV (cc := cX2_bracketToHand) (nL := 9) (ret := none) (own := RX2) (by decide) rfl rfl (Nat.le_of_ble_eq_true rfl) ?_
  intro p e s m args below meth c ls A fx hK hA hP hD hS hl
  have hl : lv_has ls 9 [(0, .ref (ad 5)), (1, .int a1), (2, .int a2), (3, .int a3)] := hl
  show W p l e rm_X2_bracketToHand s m args below meth c s.heap [] 0 0 _ _
  obtain ⟨⟨hx, hb, hml, hown, hts⟩, hrt, hlk⟩ := id fx
  have hf : 0 ≤ rm_X2_bracketToHand.cells ∧ 0 ≤ rm_X2_bracketToHand.slots := ⟨Nat.zero_le _, Nat.zero_le _⟩
  unfold wp_X2_bracketToHand at h
  refine lv_aload_n hx hb dX2_bracketToHand_0 rfl (lv_at hl 0 rfl) ?_
  refine cs_get 5 2 2 (v := .ref (ad 1)) (ref := "BracketLetters$Laws") fx (by decide) rfl rfl in_X2_bracketToHand_X2 (by decide) rfl (by decide +kernel) rfl hK hP dX2_bracketToHand_1 ?_
  refine cs_get 1 5 2 (v := .ref (ad (9 + 0))) (ref := "BracketLetters$Words") fx (by decide) rfl rfl in_X2_bracketToHand_X6 (by decide) rfl (by decide +kernel) rfl hK hP dX2_bracketToHand_4 ?_
  refine lv_iload_n hx hb dX2_bracketToHand_7 rfl (lv_at hl 1 rfl) ?_
  refine lv_iconst (v := 1) hx hb dX2_bracketToHand_8 (by decide) ?_
  refine lv_isub hx hb dX2_bracketToHand_9 ?_
  obtain ⟨hi14, h⟩ := h
  refine cs_iald 0 (by decide) fx hK hP hi14 dX2_bracketToHand_10 ?_
  refine lv_topi (fun v4_15 ev4_15 => ?_)
  have h := h v4_15 ev4_15
  refine lv_istore (lv' := [(4, .int v4_15), (0, .ref (ad 5)), (1, .int a1), (2, .int a2), (3, .int a3)]) hx hb dX2_bracketToHand_11 hl (by decide) rfl (fun ls hl => ?_)
  refine lv_aload_n hx hb dX2_bracketToHand_13 rfl (lv_at hl 1 rfl) ?_
  refine cs_get 5 2 5 (v := .ref (ad (9 + 42))) (ref := "BracketLetters$Laws") fx (by decide) rfl rfl in_X2_bracketToHand_X2 (by decide) rfl (by decide +kernel) rfl hK hP dX2_bracketToHand_14 ?_
  refine lv_iload_n hx hb dX2_bracketToHand_17 rfl (lv_at hl 2 rfl) ?_
  refine lv_iconst (v := 1) hx hb dX2_bracketToHand_18 (by decide) ?_
  refine lv_isub hx hb dX2_bracketToHand_19 ?_
  obtain ⟨hi16, h⟩ := h
  refine cs_iald 42 (by decide) fx hK hP hi16 dX2_bracketToHand_20 ?_
  refine lv_iload_n hx hb dX2_bracketToHand_21 rfl (lv_at hl 3 rfl) ?_
  refine lv_iload hx hb dX2_bracketToHand_22 (lv_at hl 0 rfl) ?_
  refine lv_imul hx hb dX2_bracketToHand_24 ?_
  refine lv_iadd hx hb dX2_bracketToHand_25 ?_
  refine lv_topi (fun v5_17 ev5_17 => ?_)
  have h := h v5_17 ev5_17
  refine lv_istore (lv' := [(5, .int v5_17), (4, .int v4_15), (0, .ref (ad 5)), (1, .int a1), (2, .int a2), (3, .int a3)]) hx hb dX2_bracketToHand_26 hl (by decide) rfl (fun ls hl => ?_)
  refine lv_aload_n hx hb dX2_bracketToHand_28 rfl (lv_at hl 2 rfl) ?_
  refine cs_get 5 2 8 (v := .ref (ad (9 + 45))) (ref := "BracketLetters$Laws") fx (by decide) rfl rfl in_X2_bracketToHand_X2 (by decide) rfl (by decide +kernel) rfl hK hP dX2_bracketToHand_29 ?_
  refine lv_iconst (v := 0) hx hb dX2_bracketToHand_32 (by decide) ?_
  refine lv_aload_n hx hb dX2_bracketToHand_33 rfl (lv_at hl 2 rfl) ?_
  refine cs_get 5 2 2 (v := .ref (ad 1)) (ref := "BracketLetters$Laws") fx (by decide) rfl rfl in_X2_bracketToHand_X2 (by decide) rfl (by decide +kernel) rfl hK hP dX2_bracketToHand_34 ?_
  refine cs_get 1 5 2 (v := .ref (ad (9 + 0))) (ref := "BracketLetters$Words") fx (by decide) rfl rfl in_X2_bracketToHand_X6 (by decide) rfl (by decide +kernel) rfl hK hP dX2_bracketToHand_37 ?_
  refine lv_iload_n hx hb dX2_bracketToHand_40 rfl (lv_at hl 3 rfl) ?_
  obtain ⟨hi18, h⟩ := h
  refine cs_iald 0 (by decide) fx hK hP hi18 dX2_bracketToHand_41 ?_
  refine lv_iconst (v := 0) hx hb dX2_bracketToHand_42 (by decide) ?_
  refine xr_wV (n := 4) (As := [.ref (ad (9 + 45)), .int 0, .int (S.2.1 0 a1.toNatClampNeg), .int 0]) (rest := []) fx (ct_J7_fill_fda19 l D ad cI cJ cR Ln h) gX2_bracketToHand_J7_fill_fda19 rfl rfl (by decide +kernel) ⟨Nat.le_of_ble_eq_true rfl, Nat.le_of_ble_eq_true rfl⟩ ⟨rfl, rfl⟩ hf hK hP hD hS hA hl.1 rfl (Nat.le_of_ble_eq_true rfl) dX2_bracketToHand_43 (fun S19 H locs h hP hD hS => ?_)
  refine lv_iconst (v := 0) hx hb dX2_bracketToHand_46 (by decide) ?_
  refine lv_istore (lv' := [(6, .int 0), (5, .int v5_17), (4, .int v4_15), (0, .ref (ad 5)), (1, .int a1), (2, .int a2), (3, .int a3)]) hx hb dX2_bracketToHand_47 hl (by decide) rfl (fun ls hl => ?_)
  obtain ⟨n, h⟩ := h
  exact kw_X2_bracketToHand_49 fx hK hA n _ _ _ _ _ hP hD hS (lv_sub hl [3, 6, 2, 1, 0] rfl) h
abbrev rm_X2_enact (mc ms : Nat) : Room := { frames := 4, cells := mc, slots := ms, locals := 92 }
theorem in_X2_enact_X2 : ∀ w ∈ wsX20, w ∈ wsX2_enact := by decide +kernel
theorem in_X2_enact_X6 : ∀ w ∈ wsX60, w ∈ wsX2_enact := by decide +kernel
set_option maxHeartbeats 4000000 in
set_option maxRecDepth 100000 in
theorem kb_X2_enact_118 {p : Program} {l : Launch} {e : Env} {s : State} {m : MethodId} {args : Array Value} {below : List Frame} {meth : Method} {c : Code} {mc ms : Nat} {D : va_G} {ad : Nat → Nat} {cI cJ cR : ClassId} {Ln : Nat → Nat} {A : Nat → Prop} {K81 : cs_T → Int32 → Prop} {K102 : cs_T → Int32 → Int32 → Prop} {K118 : cs_T → Int32 → Int32 → Int32 → Prop} {Q : Int32 → cs_T → Prop} {S : cs_T} {v3 : Int32} {v4 : Int32} {v5 : Int32} (fx : xr_Fx p m c meth cX2_enact 6 s args wsX2_enact RX2 (some .int)) (hK : xr_K D (cs_ty cI cJ cR) s) (hA : ∀ q, s.heap.size ≤ q → A q)  (k81 : ∀ (S : cs_T) (v3 : Int32) {H : Heap} {locs : List Loc} {ls : Array Slot}, va_P D vwCl (cs_w ad cI cR Ln S) H → va_D A (cs_w ad cI cR Ln S) → va_S A s.heap H locs → lv_has ls 6 [(0, .ref (ad 5)), (3, .int v3)] → K81 S v3 → W p l e (rm_X2_enact mc ms) s m args below meth c H locs mc ms (MQ below (va_Qi Q (xr_B D (cs_ty cI cJ cR) (cs_w ad cI cR Ln) A) A) args s mc ms A) (F0 m 81 ls [])) (k102 : ∀ (S : cs_T) (v3 : Int32) (v4 : Int32) {H : Heap} {locs : List Loc} {ls : Array Slot}, va_P D vwCl (cs_w ad cI cR Ln S) H → va_D A (cs_w ad cI cR Ln S) → va_S A s.heap H locs → lv_has ls 6 [(0, .ref (ad 5)), (3, .int v3), (4, .int v4)] → K102 S v3 v4 → W p l e (rm_X2_enact mc ms) s m args below meth c H locs mc ms (MQ below (va_Qi Q (xr_B D (cs_ty cI cJ cR) (cs_w ad cI cR Ln) A) A) args s mc ms A) (F0 m 102 ls [])) (k118 : ∀ (S : cs_T) (v3 : Int32) (v4 : Int32) (v5 : Int32) {H : Heap} {locs : List Loc} {ls : Array Slot}, va_P D vwCl (cs_w ad cI cR Ln S) H → va_D A (cs_w ad cI cR Ln S) → va_S A s.heap H locs → lv_has ls 6 [(0, .ref (ad 5)), (3, .int v3), (4, .int v4), (5, .int v5)] → K118 S v3 v4 v5 → W p l e (rm_X2_enact mc ms) s m args below meth c H locs mc ms (MQ below (va_Qi Q (xr_B D (cs_ty cI cJ cR) (cs_w ad cI cR Ln) A) A) args s mc ms A) (F0 m 118 ls [])) {H : Heap} {locs : List Loc} {ls : Array Slot} (hP : va_P D vwCl (cs_w ad cI cR Ln S) H) (hD : va_D A (cs_w ad cI cR Ln S)) (hS : va_S A s.heap H locs) (hl : lv_has ls 6 [(0, .ref (ad 5)), (3, .int v3), (4, .int v4), (5, .int v5)]) (h : wb_X2_enact_118 Ln K81 K102 K118 Q S v3 v4 v5) : W p l e (rm_X2_enact mc ms) s m args below meth c H locs mc ms (MQ below (va_Qi Q (xr_B D (cs_ty cI cJ cR) (cs_w ad cI cR Ln) A) A) args s mc ms A) (F0 m 118 ls []) := by
  obtain ⟨⟨hx, hb, hml, hown, hts⟩, hrt, hlk⟩ := id fx
  have hf : mc ≤ (rm_X2_enact mc ms).cells ∧ ms ≤ (rm_X2_enact mc ms).slots := ⟨Nat.le_refl _, Nat.le_refl _⟩
  unfold wb_X2_enact_118 at h
  refine lv_iload hx hb dX2_enact_118 (lv_at hl 3 rfl) ?_
  refine lv_aload_n hx hb dX2_enact_120 rfl (lv_at hl 0 rfl) ?_
  refine cs_get 5 2 2 (v := .ref (ad 1)) (ref := "BracketLetters$Laws") fx (by decide) rfl rfl in_X2_enact_X2 (by decide) rfl (by decide +kernel) rfl hK hP dX2_enact_121 ?_
  refine cs_get 1 5 0 (v := .int (S.1 2)) (ref := "BracketLetters$Words") fx (by decide) rfl rfl in_X2_enact_X6 (by decide) rfl (by decide +kernel) rfl hK hP dX2_enact_124 ?_
  refine lv_icmp_ge (tgt := 150) hx hb dX2_enact_127 (by decide) (fun c127 => ?_) (fun c127 => ?_)
  · have h := h.1 c127
    obtain ⟨v4_1, ev4_1⟩ : ∃ z : Int32, z = v4 + 1 := ⟨_, rfl⟩
    have h := h v4_1 ev4_1
    refine lv_iinc (v := v4_1) (lv' := [(4, .int v4_1), (0, .ref (ad 5)), (3, .int v3), (5, .int v5)]) hx hb dX2_enact_150 hl (k := 2) rfl (by rw [ev4_1]; rfl) (by decide) rfl (fun ls hl => ?_)
    refine lv_goto (tgt := 102) hx hb dX2_enact_153 (by decide) ?_
    exact k102 _ _ _ hP hD hS (lv_sub hl [1, 2, 0] rfl) h
  · have h := h.2 c127
    refine lv_aload_n hx hb dX2_enact_130 rfl (lv_at hl 0 rfl) ?_
    refine lv_iload_n hx hb dX2_enact_131 rfl (lv_at hl 1 rfl) ?_
    refine lv_iload hx hb dX2_enact_132 (lv_at hl 2 rfl) ?_
    refine lv_iload hx hb dX2_enact_134 (lv_at hl 3 rfl) ?_
    refine xr_vV (n := 3) (As := [.int v3, .int v4, .int v5]) (rest := []) fx (ct_X2_bracketToHand l D ad cI cJ cR Ln h) gX2_enact_X2_bracketToHand rfl rfl (by decide +kernel) ⟨Nat.le_of_ble_eq_true rfl, Nat.le_of_ble_eq_true rfl⟩ ⟨rfl, rfl⟩ hf (cs_recv 5 2 (by decide) rfl rfl hK hP) hK hP hD hS hA hl.1 rfl (Nat.le_of_ble_eq_true rfl) dX2_enact_136 (fun S2 H locs h hP hD hS => ?_)
    refine lv_aload_n hx hb dX2_enact_139 rfl (lv_at hl 0 rfl) ?_
    refine lv_iload_n hx hb dX2_enact_140 rfl (lv_at hl 1 rfl) ?_
    refine xr_vV (n := 1) (As := [.int v3]) (rest := []) fx (ct_X2_settle l D ad cI cJ cR Ln h) gX2_enact_X2_settle rfl rfl (by decide +kernel) ⟨Nat.le_of_ble_eq_true rfl, Nat.le_of_ble_eq_true rfl⟩ ⟨rfl, rfl⟩ hf (cs_recv 5 2 (by decide) rfl rfl hK hP) hK hP hD hS hA hl.1 rfl (Nat.le_of_ble_eq_true rfl) dX2_enact_141 (fun S3 H locs h hP hD hS => ?_)
    obtain ⟨v5_4, ev5_4⟩ : ∃ z : Int32, z = v5 + 1 := ⟨_, rfl⟩
    have h := h v5_4 ev5_4
    refine lv_iinc (v := v5_4) (lv' := [(5, .int v5_4), (0, .ref (ad 5)), (3, .int v3), (4, .int v4)]) hx hb dX2_enact_144 hl (k := 3) rfl (by rw [ev5_4]; rfl) (by decide) rfl (fun ls hl => ?_)
    refine lv_goto (tgt := 118) hx hb dX2_enact_147 (by decide) ?_
    exact k118 _ _ _ _ hP hD hS (lv_sub hl [1, 2, 3, 0] rfl) h
theorem kw_X2_enact_118 {p : Program} {l : Launch} {e : Env} {s : State} {m : MethodId} {args : Array Value} {below : List Frame} {meth : Method} {c : Code} {mc ms : Nat} {D : va_G} {ad : Nat → Nat} {cI cJ cR : ClassId} {Ln : Nat → Nat} {A : Nat → Prop} {K81 : cs_T → Int32 → Prop} {K102 : cs_T → Int32 → Int32 → Prop} {Q : Int32 → cs_T → Prop} (fx : xr_Fx p m c meth cX2_enact 6 s args wsX2_enact RX2 (some .int)) (hK : xr_K D (cs_ty cI cJ cR) s) (hA : ∀ q, s.heap.size ≤ q → A q)  (k81 : ∀ (S : cs_T) (v3 : Int32) {H : Heap} {locs : List Loc} {ls : Array Slot}, va_P D vwCl (cs_w ad cI cR Ln S) H → va_D A (cs_w ad cI cR Ln S) → va_S A s.heap H locs → lv_has ls 6 [(0, .ref (ad 5)), (3, .int v3)] → K81 S v3 → W p l e (rm_X2_enact mc ms) s m args below meth c H locs mc ms (MQ below (va_Qi Q (xr_B D (cs_ty cI cJ cR) (cs_w ad cI cR Ln) A) A) args s mc ms A) (F0 m 81 ls [])) (k102 : ∀ (S : cs_T) (v3 : Int32) (v4 : Int32) {H : Heap} {locs : List Loc} {ls : Array Slot}, va_P D vwCl (cs_w ad cI cR Ln S) H → va_D A (cs_w ad cI cR Ln S) → va_S A s.heap H locs → lv_has ls 6 [(0, .ref (ad 5)), (3, .int v3), (4, .int v4)] → K102 S v3 v4 → W p l e (rm_X2_enact mc ms) s m args below meth c H locs mc ms (MQ below (va_Qi Q (xr_B D (cs_ty cI cJ cR) (cs_w ad cI cR Ln) A) A) args s mc ms A) (F0 m 102 ls [])) : ∀ (n : Nat) (S : cs_T) (v3 : Int32) (v4 : Int32) (v5 : Int32) {H : Heap} {locs : List Loc} {ls : Array Slot}, va_P D vwCl (cs_w ad cI cR Ln S) H → va_D A (cs_w ad cI cR Ln S) → va_S A s.heap H locs → lv_has ls 6 [(0, .ref (ad 5)), (3, .int v3), (4, .int v4), (5, .int v5)] → wp_X2_enact_118 Ln K81 K102 Q n S v3 v4 v5 → W p l e (rm_X2_enact mc ms) s m args below meth c H locs mc ms (MQ below (va_Qi Q (xr_B D (cs_ty cI cJ cR) (cs_w ad cI cR Ln) A) A) args s mc ms A) (F0 m 118 ls []) := by
  intro n
  induction n with
  | zero => intro S v3 v4 v5 H locs ls hP hD hS hl h; exact False.elim h
  | succ n ih => intro S v3 v4 v5 H locs ls hP hD hS hl h; exact kb_X2_enact_118 fx hK hA k81 k102 ih hP hD hS hl h
set_option maxHeartbeats 4000000 in
set_option maxRecDepth 100000 in
theorem kb_X2_enact_102 {p : Program} {l : Launch} {e : Env} {s : State} {m : MethodId} {args : Array Value} {below : List Frame} {meth : Method} {c : Code} {mc ms : Nat} {D : va_G} {ad : Nat → Nat} {cI cJ cR : ClassId} {Ln : Nat → Nat} {A : Nat → Prop} {K81 : cs_T → Int32 → Prop} {K102 : cs_T → Int32 → Int32 → Prop} {Q : Int32 → cs_T → Prop} {S : cs_T} {v3 : Int32} {v4 : Int32} (fx : xr_Fx p m c meth cX2_enact 6 s args wsX2_enact RX2 (some .int)) (hK : xr_K D (cs_ty cI cJ cR) s) (hA : ∀ q, s.heap.size ≤ q → A q)  (k81 : ∀ (S : cs_T) (v3 : Int32) {H : Heap} {locs : List Loc} {ls : Array Slot}, va_P D vwCl (cs_w ad cI cR Ln S) H → va_D A (cs_w ad cI cR Ln S) → va_S A s.heap H locs → lv_has ls 6 [(0, .ref (ad 5)), (3, .int v3)] → K81 S v3 → W p l e (rm_X2_enact mc ms) s m args below meth c H locs mc ms (MQ below (va_Qi Q (xr_B D (cs_ty cI cJ cR) (cs_w ad cI cR Ln) A) A) args s mc ms A) (F0 m 81 ls [])) (k102 : ∀ (S : cs_T) (v3 : Int32) (v4 : Int32) {H : Heap} {locs : List Loc} {ls : Array Slot}, va_P D vwCl (cs_w ad cI cR Ln S) H → va_D A (cs_w ad cI cR Ln S) → va_S A s.heap H locs → lv_has ls 6 [(0, .ref (ad 5)), (3, .int v3), (4, .int v4)] → K102 S v3 v4 → W p l e (rm_X2_enact mc ms) s m args below meth c H locs mc ms (MQ below (va_Qi Q (xr_B D (cs_ty cI cJ cR) (cs_w ad cI cR Ln) A) A) args s mc ms A) (F0 m 102 ls [])) {H : Heap} {locs : List Loc} {ls : Array Slot} (hP : va_P D vwCl (cs_w ad cI cR Ln S) H) (hD : va_D A (cs_w ad cI cR Ln S)) (hS : va_S A s.heap H locs) (hl : lv_has ls 6 [(0, .ref (ad 5)), (3, .int v3), (4, .int v4)]) (h : wb_X2_enact_102 Ln K81 K102 Q S v3 v4) : W p l e (rm_X2_enact mc ms) s m args below meth c H locs mc ms (MQ below (va_Qi Q (xr_B D (cs_ty cI cJ cR) (cs_w ad cI cR Ln) A) A) args s mc ms A) (F0 m 102 ls []) := by
  obtain ⟨⟨hx, hb, hml, hown, hts⟩, hrt, hlk⟩ := id fx
  have hf : mc ≤ (rm_X2_enact mc ms).cells ∧ ms ≤ (rm_X2_enact mc ms).slots := ⟨Nat.le_refl _, Nat.le_refl _⟩
  unfold wb_X2_enact_102 at h
  refine lv_iload hx hb dX2_enact_102 (lv_at hl 2 rfl) ?_
  refine lv_aload_n hx hb dX2_enact_104 rfl (lv_at hl 0 rfl) ?_
  refine cs_get 5 2 1 (v := .ref (ad (9 + 40))) (ref := "BracketLetters$Laws") fx (by decide) rfl rfl in_X2_enact_X2 (by decide) rfl (by decide +kernel) rfl hK hP dX2_enact_105 ?_
  refine lv_iload_n hx hb dX2_enact_108 rfl (lv_at hl 1 rfl) ?_
  refine lv_iconst (v := 1) hx hb dX2_enact_109 (by decide) ?_
  refine lv_isub hx hb dX2_enact_110 ?_
  obtain ⟨hi5, h⟩ := h
  refine cs_iald 40 (by decide) fx hK hP hi5 dX2_enact_111 ?_
  refine lv_icmp_ge (tgt := 156) hx hb dX2_enact_112 (by decide) (fun c112 => ?_) (fun c112 => ?_)
  · have h := h.1 c112
    obtain ⟨v3_6, ev3_6⟩ : ∃ z : Int32, z = v3 + 1 := ⟨_, rfl⟩
    have h := h v3_6 ev3_6
    refine lv_iinc (v := v3_6) (lv' := [(3, .int v3_6), (0, .ref (ad 5)), (4, .int v4)]) hx hb dX2_enact_156 hl (k := 1) rfl (by rw [ev3_6]; rfl) (by decide) rfl (fun ls hl => ?_)
    refine lv_goto (tgt := 81) hx hb dX2_enact_159 (by decide) ?_
    exact k81 _ _ hP hD hS (lv_sub hl [1, 0] rfl) h
  · have h := h.2 c112
    refine lv_iconst (v := 0) hx hb dX2_enact_115 (by decide) ?_
    refine lv_istore (lv' := [(5, .int 0), (0, .ref (ad 5)), (3, .int v3), (4, .int v4)]) hx hb dX2_enact_116 hl (by decide) rfl (fun ls hl => ?_)
    obtain ⟨n, h⟩ := h
    exact kw_X2_enact_118 fx hK hA k81 k102 n _ _ _ _ hP hD hS (lv_sub hl [1, 2, 3, 0] rfl) h
theorem kw_X2_enact_102 {p : Program} {l : Launch} {e : Env} {s : State} {m : MethodId} {args : Array Value} {below : List Frame} {meth : Method} {c : Code} {mc ms : Nat} {D : va_G} {ad : Nat → Nat} {cI cJ cR : ClassId} {Ln : Nat → Nat} {A : Nat → Prop} {K81 : cs_T → Int32 → Prop} {Q : Int32 → cs_T → Prop} (fx : xr_Fx p m c meth cX2_enact 6 s args wsX2_enact RX2 (some .int)) (hK : xr_K D (cs_ty cI cJ cR) s) (hA : ∀ q, s.heap.size ≤ q → A q)  (k81 : ∀ (S : cs_T) (v3 : Int32) {H : Heap} {locs : List Loc} {ls : Array Slot}, va_P D vwCl (cs_w ad cI cR Ln S) H → va_D A (cs_w ad cI cR Ln S) → va_S A s.heap H locs → lv_has ls 6 [(0, .ref (ad 5)), (3, .int v3)] → K81 S v3 → W p l e (rm_X2_enact mc ms) s m args below meth c H locs mc ms (MQ below (va_Qi Q (xr_B D (cs_ty cI cJ cR) (cs_w ad cI cR Ln) A) A) args s mc ms A) (F0 m 81 ls [])) : ∀ (n : Nat) (S : cs_T) (v3 : Int32) (v4 : Int32) {H : Heap} {locs : List Loc} {ls : Array Slot}, va_P D vwCl (cs_w ad cI cR Ln S) H → va_D A (cs_w ad cI cR Ln S) → va_S A s.heap H locs → lv_has ls 6 [(0, .ref (ad 5)), (3, .int v3), (4, .int v4)] → wp_X2_enact_102 Ln K81 Q n S v3 v4 → W p l e (rm_X2_enact mc ms) s m args below meth c H locs mc ms (MQ below (va_Qi Q (xr_B D (cs_ty cI cJ cR) (cs_w ad cI cR Ln) A) A) args s mc ms A) (F0 m 102 ls []) := by
  intro n
  induction n with
  | zero => intro S v3 v4 H locs ls hP hD hS hl h; exact False.elim h
  | succ n ih => intro S v3 v4 H locs ls hP hD hS hl h; exact kb_X2_enact_102 fx hK hA k81 ih hP hD hS hl h
set_option maxHeartbeats 4000000 in
set_option maxRecDepth 100000 in
theorem kb_X2_enact_81 {p : Program} {l : Launch} {e : Env} {s : State} {m : MethodId} {args : Array Value} {below : List Frame} {meth : Method} {c : Code} {mc ms : Nat} {D : va_G} {ad : Nat → Nat} {cI cJ cR : ClassId} {Ln : Nat → Nat} {A : Nat → Prop}  {K81 : cs_T → Int32 → Prop} {Q : Int32 → cs_T → Prop} {S : cs_T} {v3 : Int32} (fx : xr_Fx p m c meth cX2_enact 6 s args wsX2_enact RX2 (some .int)) (hK : xr_K D (cs_ty cI cJ cR) s) (hA : ∀ q, s.heap.size ≤ q → A q)   (k81 : ∀ (S : cs_T) (v3 : Int32) {H : Heap} {locs : List Loc} {ls : Array Slot}, va_P D vwCl (cs_w ad cI cR Ln S) H → va_D A (cs_w ad cI cR Ln S) → va_S A s.heap H locs → lv_has ls 6 [(0, .ref (ad 5)), (3, .int v3)] → K81 S v3 → W p l e (rm_X2_enact mc ms) s m args below meth c H locs mc ms (MQ below (va_Qi Q (xr_B D (cs_ty cI cJ cR) (cs_w ad cI cR Ln) A) A) args s mc ms A) (F0 m 81 ls [])) {H : Heap} {locs : List Loc} {ls : Array Slot} (hP : va_P D vwCl (cs_w ad cI cR Ln S) H) (hD : va_D A (cs_w ad cI cR Ln S)) (hS : va_S A s.heap H locs) (hl : lv_has ls 6 [(0, .ref (ad 5)), (3, .int v3)]) (h : wb_X2_enact_81 Ln K81 Q S v3) : W p l e (rm_X2_enact mc ms) s m args below meth c H locs mc ms (MQ below (va_Qi Q (xr_B D (cs_ty cI cJ cR) (cs_w ad cI cR Ln) A) A) args s mc ms A) (F0 m 81 ls []) := by
  obtain ⟨⟨hx, hb, hml, hown, hts⟩, hrt, hlk⟩ := id fx
  have hf : mc ≤ (rm_X2_enact mc ms).cells ∧ ms ≤ (rm_X2_enact mc ms).slots := ⟨Nat.le_refl _, Nat.le_refl _⟩
  unfold wb_X2_enact_81 at h
  refine lv_iload_n hx hb dX2_enact_81 rfl (lv_at hl 1 rfl) ?_
  refine lv_aload_n hx hb dX2_enact_82 rfl (lv_at hl 0 rfl) ?_
  refine cs_get 5 2 2 (v := .ref (ad 1)) (ref := "BracketLetters$Laws") fx (by decide) rfl rfl in_X2_enact_X2 (by decide) rfl (by decide +kernel) rfl hK hP dX2_enact_83 ?_
  refine cs_get 1 5 1 (v := .int (S.1 3)) (ref := "BracketLetters$Words") fx (by decide) rfl rfl in_X2_enact_X6 (by decide) rfl (by decide +kernel) rfl hK hP dX2_enact_86 ?_
  refine lv_icmp_gt (tgt := 162) hx hb dX2_enact_89 (by decide) (fun c89 => ?_) (fun c89 => ?_)
  · have h := h.1 c89
    refine lv_aload_n hx hb dX2_enact_162 rfl (lv_at hl 0 rfl) ?_
    refine lv_dup hx hb dX2_enact_163 rfl ?_
    refine cs_get 5 2 0 (v := .int (S.1 4)) (ref := "BracketLetters$Laws") fx (by decide) rfl rfl in_X2_enact_X2 (by decide) rfl (by decide +kernel) rfl hK hP dX2_enact_164 ?_
    refine lv_iconst (v := 1) hx hb dX2_enact_167 (by decide) ?_
    refine lv_iadd hx hb dX2_enact_168 ?_
    refine cs_put 5 2 0 4 (ref := "BracketLetters$Laws") (ty := .int) tyX2 tyX2_ok nmX2 fx (by decide) rfl rfl in_X2_enact_X2 (by decide) (Nat.le_of_ble_eq_true rfl) cs_f5_0 (by decide +kernel) rfl rfl (by decide +kernel) rfl rfl hK hP hD hS dX2_enact_169 (fun H locs hP hD hS => ?_)
    refine lv_aload_n hx hb dX2_enact_172 rfl (lv_at hl 0 rfl) ?_
    refine cs_get 5 2 0 (v := .int ((cs_sF S 4 ((S.1 4) + 1)).1 4)) (ref := "BracketLetters$Laws") fx (by decide) rfl rfl in_X2_enact_X2 (by decide) rfl (by decide +kernel) rfl hK hP dX2_enact_173 ?_
    refine lv_iconst (v := 1) hx hb dX2_enact_176 (by decide) ?_
    refine lv_isub hx hb dX2_enact_177 ?_
    exact xr_rI fx hK hP hD hS h dX2_enact_178
  · have h := h.2 c89
    refine lv_aload_n hx hb dX2_enact_92 rfl (lv_at hl 0 rfl) ?_
    refine cs_get 5 2 4 (v := .ref (ad (9 + 41))) (ref := "BracketLetters$Laws") fx (by decide) rfl rfl in_X2_enact_X2 (by decide) rfl (by decide +kernel) rfl hK hP dX2_enact_93 ?_
    refine lv_iload_n hx hb dX2_enact_96 rfl (lv_at hl 1 rfl) ?_
    refine lv_iconst (v := 1) hx hb dX2_enact_97 (by decide) ?_
    refine lv_isub hx hb dX2_enact_98 ?_
    obtain ⟨hi7, h⟩ := h
    refine cs_iald 41 (by decide) fx hK hP hi7 dX2_enact_99 ?_
    refine lv_topi (fun v4_8 ev4_8 => ?_)
    have h := h v4_8 ev4_8
    refine lv_istore (lv' := [(4, .int v4_8), (0, .ref (ad 5)), (3, .int v3)]) hx hb dX2_enact_100 hl (by decide) rfl (fun ls hl => ?_)
    obtain ⟨n, h⟩ := h
    exact kw_X2_enact_102 fx hK hA k81 n _ _ _ hP hD hS (lv_sub hl [1, 2, 0] rfl) h
theorem kw_X2_enact_81 {p : Program} {l : Launch} {e : Env} {s : State} {m : MethodId} {args : Array Value} {below : List Frame} {meth : Method} {c : Code} {mc ms : Nat} {D : va_G} {ad : Nat → Nat} {cI cJ cR : ClassId} {Ln : Nat → Nat} {A : Nat → Prop}  {Q : Int32 → cs_T → Prop} (fx : xr_Fx p m c meth cX2_enact 6 s args wsX2_enact RX2 (some .int)) (hK : xr_K D (cs_ty cI cJ cR) s) (hA : ∀ q, s.heap.size ≤ q → A q)   : ∀ (n : Nat) (S : cs_T) (v3 : Int32) {H : Heap} {locs : List Loc} {ls : Array Slot}, va_P D vwCl (cs_w ad cI cR Ln S) H → va_D A (cs_w ad cI cR Ln S) → va_S A s.heap H locs → lv_has ls 6 [(0, .ref (ad 5)), (3, .int v3)] → wp_X2_enact_81 Ln Q n S v3 → W p l e (rm_X2_enact mc ms) s m args below meth c H locs mc ms (MQ below (va_Qi Q (xr_B D (cs_ty cI cJ cR) (cs_w ad cI cR Ln) A) A) args s mc ms A) (F0 m 81 ls []) := by
  intro n
  induction n with
  | zero => intro S v3 H locs ls hP hD hS hl h; exact False.elim h
  | succ n ih => intro S v3 H locs ls hP hD hS hl h; exact kb_X2_enact_81 fx hK hA ih hP hD hS hl h
set_option maxHeartbeats 4000000 in
set_option maxRecDepth 100000 in
theorem kw_X2_enact_27 {p : Program} {l : Launch} {e : Env} {s : State} {m : MethodId} {args : Array Value} {below : List Frame} {meth : Method} {c : Code} {mc ms : Nat} {D : va_G} {ad : Nat → Nat} {cI cJ cR : ClassId} {Ln : Nat → Nat} {A : Nat → Prop}  {Q : Int32 → cs_T → Prop} {S : cs_T} {v1 : Nat} {v2 : Int32} (fx : xr_Fx p m c meth cX2_enact 6 s args wsX2_enact RX2 (some .int)) (hK : xr_K D (cs_ty cI cJ cR) s) (hA : ∀ q, s.heap.size ≤ q → A q)   {H : Heap} {locs : List Loc} {ls : Array Slot} (hP : va_P D vwCl (cs_w ad cI cR Ln S) H) (hD : va_D A (cs_w ad cI cR Ln S)) (hS : va_S A s.heap H locs) (hl : lv_has ls 6 [(0, .ref (ad 5)), (1, .ref (ad (9 + v1))), (2, .int v2)]) (h : wp_X2_enact_27 Ln Q S v1 v2) : W p l e (rm_X2_enact mc ms) s m args below meth c H locs mc ms (MQ below (va_Qi Q (xr_B D (cs_ty cI cJ cR) (cs_w ad cI cR Ln) A) A) args s mc ms A) (F0 m 27 ls []) := by
  obtain ⟨⟨hx, hb, hml, hown, hts⟩, hrt, hlk⟩ := id fx
  have hf : mc ≤ (rm_X2_enact mc ms).cells ∧ ms ≤ (rm_X2_enact mc ms).slots := ⟨Nat.le_refl _, Nat.le_refl _⟩
  unfold wp_X2_enact_27 at h
  refine lv_aload_n hx hb dX2_enact_27 rfl (lv_at hl 0 rfl) ?_
  refine cs_get 5 2 1 (v := .ref (ad (9 + 40))) (ref := "BracketLetters$Laws") fx (by decide) rfl rfl in_X2_enact_X2 (by decide) rfl (by decide +kernel) rfl hK hP dX2_enact_28 ?_
  refine lv_iconst (v := 0) hx hb dX2_enact_31 (by decide) ?_
  refine lv_aload_n hx hb dX2_enact_32 rfl (lv_at hl 0 rfl) ?_
  refine cs_get 5 2 4 (v := .ref (ad (9 + 41))) (ref := "BracketLetters$Laws") fx (by decide) rfl rfl in_X2_enact_X2 (by decide) rfl (by decide +kernel) rfl hK hP dX2_enact_33 ?_
  refine lv_iconst (v := 0) hx hb dX2_enact_36 (by decide) ?_
  refine lv_aload_n hx hb dX2_enact_37 rfl (lv_at hl 0 rfl) ?_
  refine cs_get 5 2 1 (v := .ref (ad (9 + 40))) (ref := "BracketLetters$Laws") fx (by decide) rfl rfl in_X2_enact_X2 (by decide) rfl (by decide +kernel) rfl hK hP dX2_enact_38 ?_
  refine cs_alen 40 (by decide) fx hK hP dX2_enact_41 ?_
  obtain ⟨ha9, ha10, ha11, ha12, ha13, h⟩ := h
  refine cs_copy 40 41 (by decide) (by decide) fx (by decide +kernel) (by decide +kernel) (by decide +kernel) (by decide +kernel) hl.1 hK hP hD hS ha9 ha10 ha11 ha12 ha13 (Nat.le_of_ble_eq_true rfl) (Nat.le_of_ble_eq_true rfl) dX2_enact_42 (fun H locs hP hD hS => ?_)
  refine lv_aload_n hx hb dX2_enact_45 rfl (lv_at hl 1 rfl) ?_
  refine lv_aload_n hx hb dX2_enact_46 rfl (lv_at hl 0 rfl) ?_
  refine cs_get 5 2 2 (v := .ref (ad 1)) (ref := "BracketLetters$Laws") fx (by decide) rfl rfl in_X2_enact_X2 (by decide) rfl (by decide +kernel) rfl hK hP dX2_enact_47 ?_
  refine cs_get 1 5 3 (v := .ref (ad (9 + 1))) (ref := "BracketLetters$Words") fx (by decide) rfl rfl in_X2_enact_X6 (by decide) rfl (by decide +kernel) rfl hK hP dX2_enact_50 ?_
  refine lv_iload_n hx hb dX2_enact_53 rfl (lv_at hl 2 rfl) ?_
  obtain ⟨hi14, h⟩ := h
  refine cs_iald 1 (by decide) fx hK hP hi14 dX2_enact_54 ?_
  refine lv_aload_n hx hb dX2_enact_55 rfl (lv_at hl 0 rfl) ?_
  refine cs_get 5 2 8 (v := .ref (ad (9 + 45))) (ref := "BracketLetters$Laws") fx (by decide) rfl rfl in_X2_enact_X2 (by decide) rfl (by decide +kernel) rfl hK hP dX2_enact_56 ?_
  refine lv_iconst (v := 0) hx hb dX2_enact_59 (by decide) ?_
  refine lv_aload_n hx hb dX2_enact_60 rfl (lv_at hl 0 rfl) ?_
  refine cs_get 5 2 2 (v := .ref (ad 1)) (ref := "BracketLetters$Laws") fx (by decide) rfl rfl in_X2_enact_X2 (by decide) rfl (by decide +kernel) rfl hK hP dX2_enact_61 ?_
  refine cs_get 1 5 2 (v := .ref (ad (9 + 0))) (ref := "BracketLetters$Words") fx (by decide) rfl rfl in_X2_enact_X6 (by decide) rfl (by decide +kernel) rfl hK hP dX2_enact_64 ?_
  refine lv_iload_n hx hb dX2_enact_67 rfl (lv_at hl 2 rfl) ?_
  obtain ⟨hi15, h⟩ := h
  refine cs_iald 0 (by decide) fx hK hP hi15 dX2_enact_68 ?_
  obtain ⟨hk16, h⟩ := h
  obtain ⟨ha17, ha18, ha19, ha20, ha21, h⟩ := h
  refine cs_copy v1 45 hk16 (by decide) fx (by decide +kernel) (by decide +kernel) (by decide +kernel) (by decide +kernel) hl.1 hK hP hD hS ha17 ha18 ha19 ha20 ha21 (Nat.le_of_ble_eq_true rfl) (Nat.le_of_ble_eq_true rfl) dX2_enact_69 (fun H locs hP hD hS => ?_)
  refine lv_aload_n hx hb dX2_enact_72 rfl (lv_at hl 0 rfl) ?_
  refine lv_iload_n hx hb dX2_enact_73 rfl (lv_at hl 2 rfl) ?_
  refine xr_vV (n := 1) (As := [.int v2]) (rest := []) fx (ct_X2_settle l D ad cI cJ cR Ln h) gX2_enact_X2_settle rfl rfl (by decide +kernel) ⟨Nat.le_of_ble_eq_true rfl, Nat.le_of_ble_eq_true rfl⟩ ⟨rfl, rfl⟩ hf (cs_recv 5 2 (by decide) rfl rfl hK hP) hK hP hD hS hA hl.1 rfl (Nat.le_of_ble_eq_true rfl) dX2_enact_74 (fun S22 H locs h hP hD hS => ?_)
  refine lv_iload_n hx hb dX2_enact_77 rfl (lv_at hl 2 rfl) ?_
  refine lv_iconst (v := 1) hx hb dX2_enact_78 (by decide) ?_
  refine lv_iadd hx hb dX2_enact_79 ?_
  refine lv_topi (fun v3_23 ev3_23 => ?_)
  have h := h v3_23 ev3_23
  refine lv_istore_n (lv' := [(3, .int v3_23), (0, .ref (ad 5)), (1, .ref (ad (9 + v1))), (2, .int v2)]) hx hb dX2_enact_80 rfl hl (by decide) rfl (fun ls hl => ?_)
  obtain ⟨n, h⟩ := h
  exact kw_X2_enact_81 fx hK hA n _ _ hP hD hS (lv_sub hl [1, 0] rfl) h
abbrev rm_X7_size : Room := { frames := 1, cells := 0, slots := 0, locals := 21 }
theorem in_X7_size_X7 : ∀ w ∈ wsX70, w ∈ wsX7_size := by decide +kernel
theorem in_X7_size_X2 : ∀ w ∈ wsX20, w ∈ wsX7_size := by decide +kernel
theorem in_X7_size_X6 : ∀ w ∈ wsX60, w ∈ wsX7_size := by decide +kernel
set_option maxHeartbeats 4000000 in
set_option maxRecDepth 100000 in
theorem ct_X7_size (l : Launch) (D : va_G) (ad : Nat → Nat) (cI cJ cR : ClassId) (Ln : Nat → Nat) {S : cs_T} {a1 : Int32} {Q : Int32 → cs_T → Prop} (h : wp_X7_size Ln S a1 Q) : xr_I l D (cs_ty cI cJ cR) (cs_w ad cI cR Ln) yX7_size wsX7_size rm_X7_size [.ref (ad 0), .int a1] S Q := by
  refine xr_eI (cc := cX7_size) (nL := 2) (ret := (some .int)) (own := RX7) (by decide) rfl rfl (Nat.le_of_ble_eq_true rfl) ?_
  intro p e s m args below meth c ls A fx hK hA hP hD hS hl
  have hl : lv_has ls 2 [(0, .ref (ad 0)), (1, .int a1)] := hl
  show W p l e rm_X7_size s m args below meth c s.heap [] 0 0 _ _
  obtain ⟨⟨hx, hb, hml, hown, hts⟩, hrt, hlk⟩ := id fx
  have hf : 0 ≤ rm_X7_size.cells ∧ 0 ≤ rm_X7_size.slots := ⟨Nat.zero_le _, Nat.zero_le _⟩
  unfold wp_X7_size at h
  refine lv_iload_n hx hb dX7_size_0 rfl (lv_at hl 1 rfl) ?_
  refine lv_iconst (v := 1) hx hb dX7_size_1 (by decide) ?_
  refine lv_icmp_lt (tgt := 16) hx hb dX7_size_2 (by decide) (fun c2 => ?_) (fun c2 => ?_)
  · have h := h.1 c2
    refine lv_iconst (v := (-1)) hx hb dX7_size_16 (by decide) ?_
    exact xr_rI fx hK hP hD hS h dX7_size_17
  · have h := h.2 c2
    refine lv_iload_n hx hb dX7_size_5 rfl (lv_at hl 1 rfl) ?_
    refine lv_aload_n hx hb dX7_size_6 rfl (lv_at hl 0 rfl) ?_
    refine cs_get 0 6 0 (v := .ref (ad 1)) (ref := "BracketLetters") fx (by decide) rfl rfl in_X7_size_X7 (by decide) rfl (by decide +kernel) rfl hK hP dX7_size_7 ?_
    refine cs_get 1 5 1 (v := .int (S.1 3)) (ref := "BracketLetters$Words") fx (by decide) rfl rfl in_X7_size_X6 (by decide) rfl (by decide +kernel) rfl hK hP dX7_size_10 ?_
    refine lv_icmp_le (tgt := 18) hx hb dX7_size_13 (by decide) (fun c13 => ?_) (fun c13 => ?_)
    · have h := h.1 c13
      refine lv_aload_n hx hb dX7_size_18 rfl (lv_at hl 0 rfl) ?_
      refine cs_get 0 6 3 (v := .ref (ad 3)) (ref := "BracketLetters") fx (by decide) rfl rfl in_X7_size_X7 (by decide) rfl (by decide +kernel) rfl hK hP dX7_size_19 ?_
      refine lv_iload_n hx hb dX7_size_22 rfl (lv_at hl 1 rfl) ?_
      refine xr_vI (n := 1) (As := [.int a1]) (rest := []) fx (ct_X1_ofLength l D ad cI cJ cR Ln h) gX7_size_X1_ofLength rfl rfl (by decide +kernel) ⟨Nat.le_of_ble_eq_true rfl, Nat.le_of_ble_eq_true rfl⟩ ⟨rfl, rfl⟩ hf (cs_recv 3 1 (by decide) rfl rfl hK hP) hK hP hD hS hA hl.1 rfl (Nat.le_of_ble_eq_true rfl) dX7_size_23 (fun r2 S1 H locs h hP hD hS => ?_)
      refine lv_aload_n hx hb dX7_size_26 rfl (lv_at hl 0 rfl) ?_
      refine cs_get 0 6 5 (v := .ref (ad 5)) (ref := "BracketLetters") fx (by decide) rfl rfl in_X7_size_X7 (by decide) rfl (by decide +kernel) rfl hK hP dX7_size_27 ?_
      refine cs_get 5 2 1 (v := .ref (ad (9 + 40))) (ref := "BracketLetters$Laws") fx (by decide) rfl rfl in_X7_size_X2 (by decide) rfl (by decide +kernel) rfl hK hP dX7_size_30 ?_
      refine lv_iload_n hx hb dX7_size_33 rfl (lv_at hl 1 rfl) ?_
      obtain ⟨hi3, h⟩ := h
      refine cs_iald 40 (by decide) fx hK hP hi3 dX7_size_34 ?_
      refine lv_isub hx hb dX7_size_35 ?_
      exact xr_rI fx hK hP hD hS h dX7_size_36
    · have h := h.2 c13
      refine lv_iconst (v := (-1)) hx hb dX7_size_16 (by decide) ?_
      exact xr_rI fx hK hP hD hS h dX7_size_17
abbrev rm_X4_append : Room := { frames := 0, cells := 0, slots := 0, locals := 0 }
theorem in_X4_append_X4 : ∀ w ∈ wsX40, w ∈ wsX4_append := by decide +kernel
set_option maxHeartbeats 4000000 in
set_option maxRecDepth 100000 in
theorem kb_X4_append_5 {p : Program} {l : Launch} {e : Env} {s : State} {m : MethodId} {args : Array Value} {below : List Frame} {meth : Method} {c : Code} {D : va_G} {ad : Nat → Nat} {cI cJ cR : ClassId} {Ln : Nat → Nat} {A : Nat → Prop}  {K5 : cs_T → Int64 → Int32 → Prop} {Q : Int32 → cs_T → Prop} {S : cs_T} {v1 : Int64} {v4 : Int32} (fx : xr_Fx p m c meth cX4_append 5 s args wsX4_append RX4 (some .int)) (hK : xr_K D (cs_ty cI cJ cR) s) (hA : ∀ q, s.heap.size ≤ q → A q)   (k5 : ∀ (S : cs_T) (v1 : Int64) (v4 : Int32) {H : Heap} {locs : List Loc} {ls : Array Slot}, va_P D vwCl (cs_w ad cI cR Ln S) H → va_D A (cs_w ad cI cR Ln S) → va_S A s.heap H locs → lv_has ls 5 [(0, .ref (ad 6)), (1, .long v1), (4, .int v4)] → K5 S v1 v4 → W p l e rm_X4_append s m args below meth c H locs 0 0 (MQ below (va_Qi Q (xr_B D (cs_ty cI cJ cR) (cs_w ad cI cR Ln) A) A) args s 0 0 A) (F0 m 5 ls [])) {H : Heap} {locs : List Loc} {ls : Array Slot} (hP : va_P D vwCl (cs_w ad cI cR Ln S) H) (hD : va_D A (cs_w ad cI cR Ln S)) (hS : va_S A s.heap H locs) (hl : lv_has ls 5 [(0, .ref (ad 6)), (1, .long v1), (4, .int v4)]) (h : wb_X4_append_5 Ln K5 Q S v1 v4) : W p l e rm_X4_append s m args below meth c H locs 0 0 (MQ below (va_Qi Q (xr_B D (cs_ty cI cJ cR) (cs_w ad cI cR Ln) A) A) args s 0 0 A) (F0 m 5 ls []) := by
  obtain ⟨⟨hx, hb, hml, hown, hts⟩, hrt, hlk⟩ := id fx
  have hf : 0 ≤ rm_X4_append.cells ∧ 0 ≤ rm_X4_append.slots := ⟨Nat.zero_le _, Nat.zero_le _⟩
  unfold wb_X4_append_5 at h
  refine lv_iload hx hb dX4_append_5 (lv_at hl 2 rfl) ?_
  refine lv_if_lt (tgt := 56) hx hb dX4_append_7 (by decide) (fun c7 => ?_) (fun c7 => ?_)
  · have h := h.1 c7
    refine lv_aload_n hx hb dX4_append_56 rfl (lv_at hl 0 rfl) ?_
    refine cs_get 6 3 0 (v := .int (S.1 5)) (ref := "BracketLetters$Reader") fx (by decide) rfl rfl in_X4_append_X4 (by decide) rfl (by decide +kernel) rfl hK hP dX4_append_57 ?_
    exact xr_rI fx hK hP hD hS h dX4_append_60
  · have h := h.2 c7
    refine lv_aload_n hx hb dX4_append_10 rfl (lv_at hl 0 rfl) ?_
    refine cs_get 6 3 0 (v := .int (S.1 5)) (ref := "BracketLetters$Reader") fx (by decide) rfl rfl in_X4_append_X4 (by decide) rfl (by decide +kernel) rfl hK hP dX4_append_11 ?_
    refine lv_bipush (v := 100) hx hb dX4_append_14 (by decide) ?_
    refine lv_icmp_ge (tgt := 56) hx hb dX4_append_16 (by decide) (fun c16 => ?_) (fun c16 => ?_)
    · have h := h.1 c16
      refine lv_aload_n hx hb dX4_append_56 rfl (lv_at hl 0 rfl) ?_
      refine cs_get 6 3 0 (v := .int (S.1 5)) (ref := "BracketLetters$Reader") fx (by decide) rfl rfl in_X4_append_X4 (by decide) rfl (by decide +kernel) rfl hK hP dX4_append_57 ?_
      exact xr_rI fx hK hP hD hS h dX4_append_60
    · have h := h.2 c16
      refine lv_aload_n hx hb dX4_append_19 rfl (lv_at hl 0 rfl) ?_
      refine cs_get 6 3 5 (v := .ref (ad (9 + 46))) (ref := "BracketLetters$Reader") fx (by decide) rfl rfl in_X4_append_X4 (by decide) rfl (by decide +kernel) rfl hK hP dX4_append_20 ?_
      refine lv_aload_n hx hb dX4_append_23 rfl (lv_at hl 0 rfl) ?_
      refine cs_get 6 3 0 (v := .int (S.1 5)) (ref := "BracketLetters$Reader") fx (by decide) rfl rfl in_X4_append_X4 (by decide) rfl (by decide +kernel) rfl hK hP dX4_append_24 ?_
      refine lv_lload_n hx hb dX4_append_27 rfl (lv_at hl 1 rfl) ?_
      refine lv_bipush (v := 8) hx hb dX4_append_28 (by decide) ?_
      refine lv_iload hx hb dX4_append_30 (lv_at hl 2 rfl) ?_
      refine lv_imul hx hb dX4_append_32 ?_
      refine lv_lushr hx hb dX4_append_33 rfl ?_
      refine lv_ldc2 (v := 255) hx hb hown (hts (.constantLong RX4 37 (255)) (by decide +kernel)) dX4_append_34 ?_
      refine lv_land hx hb dX4_append_37 ?_
      refine lv_l2i hx hb dX4_append_38 rfl ?_
      obtain ⟨hi1, h⟩ := h
      refine cs_iast 46 (by decide) fx hK hP hD hS hi1 dX4_append_39 (fun H locs hP hD hS => ?_)
      refine lv_aload_n hx hb dX4_append_40 rfl (lv_at hl 0 rfl) ?_
      refine lv_dup hx hb dX4_append_41 rfl ?_
      refine cs_get 6 3 0 (v := .int ((cs_sI S 46 (S.1 5).toNatClampNeg ((((v1.toUInt64 >>> ((8 * v4).toInt64.toUInt64 &&& Int64.toUInt64 63)).toInt64) &&& 255).toInt32)).1 5)) (ref := "BracketLetters$Reader") fx (by decide) rfl rfl in_X4_append_X4 (by decide) rfl (by decide +kernel) rfl hK hP dX4_append_42 ?_
      refine lv_iconst (v := 1) hx hb dX4_append_45 (by decide) ?_
      refine lv_iadd hx hb dX4_append_46 ?_
      refine cs_put 6 3 0 5 (ref := "BracketLetters$Reader") (ty := .int) tyX4 tyX4_ok nmX4 fx (by decide) rfl rfl in_X4_append_X4 (by decide) (Nat.le_of_ble_eq_true rfl) cs_f6_0 (by decide +kernel) rfl rfl (by decide +kernel) rfl rfl hK hP hD hS dX4_append_47 (fun H locs hP hD hS => ?_)
      obtain ⟨v4_2, ev4_2⟩ : ∃ z : Int32, z = v4 + (-1) := ⟨_, rfl⟩
      have h := h v4_2 ev4_2
      refine lv_iinc (v := v4_2) (lv' := [(4, .int v4_2), (0, .ref (ad 6)), (1, .long v1)]) hx hb dX4_append_50 hl (k := 2) rfl (by rw [ev4_2]; rfl) (by decide) rfl (fun ls hl => ?_)
      refine lv_goto (tgt := 5) hx hb dX4_append_53 (by decide) ?_
      exact k5 _ _ _ hP hD hS (lv_sub hl [1, 2, 0] rfl) h
theorem kw_X4_append_5 {p : Program} {l : Launch} {e : Env} {s : State} {m : MethodId} {args : Array Value} {below : List Frame} {meth : Method} {c : Code} {D : va_G} {ad : Nat → Nat} {cI cJ cR : ClassId} {Ln : Nat → Nat} {A : Nat → Prop}  {Q : Int32 → cs_T → Prop} (fx : xr_Fx p m c meth cX4_append 5 s args wsX4_append RX4 (some .int)) (hK : xr_K D (cs_ty cI cJ cR) s) (hA : ∀ q, s.heap.size ≤ q → A q)   : ∀ (n : Nat) (S : cs_T) (v1 : Int64) (v4 : Int32) {H : Heap} {locs : List Loc} {ls : Array Slot}, va_P D vwCl (cs_w ad cI cR Ln S) H → va_D A (cs_w ad cI cR Ln S) → va_S A s.heap H locs → lv_has ls 5 [(0, .ref (ad 6)), (1, .long v1), (4, .int v4)] → wp_X4_append_5 Ln Q n S v1 v4 → W p l e rm_X4_append s m args below meth c H locs 0 0 (MQ below (va_Qi Q (xr_B D (cs_ty cI cJ cR) (cs_w ad cI cR Ln) A) A) args s 0 0 A) (F0 m 5 ls []) := by
  intro n
  induction n with
  | zero => intro S v1 v4 H locs ls hP hD hS hl h; exact False.elim h
  | succ n ih => intro S v1 v4 H locs ls hP hD hS hl h; exact kb_X4_append_5 fx hK hA ih hP hD hS hl h
set_option maxHeartbeats 4000000 in
set_option maxRecDepth 100000 in
theorem ct_X4_append (l : Launch) (D : va_G) (ad : Nat → Nat) (cI cJ cR : ClassId) (Ln : Nat → Nat) {S : cs_T} {a1 : Int64} {a3 : Int32} {Q : Int32 → cs_T → Prop} (h : wp_X4_append Ln S a1 a3 Q) : xr_I l D (cs_ty cI cJ cR) (cs_w ad cI cR Ln) yX4_append wsX4_append rm_X4_append [.ref (ad 6), .long a1, .int a3] S Q := by
  refine xr_eI (cc := cX4_append) (nL := 5) (ret := (some .int)) (own := RX4) (by decide) rfl rfl (Nat.le_of_ble_eq_true rfl) ?_
  intro p e s m args below meth c ls A fx hK hA hP hD hS hl
  have hl : lv_has ls 5 [(0, .ref (ad 6)), (1, .long a1), (3, .int a3)] := hl
  show W p l e rm_X4_append s m args below meth c s.heap [] 0 0 _ _
  obtain ⟨⟨hx, hb, hml, hown, hts⟩, hrt, hlk⟩ := id fx
  have hf : 0 ≤ rm_X4_append.cells ∧ 0 ≤ rm_X4_append.slots := ⟨Nat.zero_le _, Nat.zero_le _⟩
  unfold wp_X4_append at h
  refine lv_iload_n hx hb dX4_append_0 rfl (lv_at hl 2 rfl) ?_
  refine lv_iconst (v := 1) hx hb dX4_append_1 (by decide) ?_
  refine lv_isub hx hb dX4_append_2 ?_
  refine lv_topi (fun v4_3 ev4_3 => ?_)
  have h := h v4_3 ev4_3
  refine lv_istore (lv' := [(4, .int v4_3), (0, .ref (ad 6)), (1, .long a1), (3, .int a3)]) hx hb dX4_append_3 hl (by decide) rfl (fun ls hl => ?_)
  obtain ⟨n, h⟩ := h
  exact kw_X4_append_5 fx hK hA n _ _ _ hP hD hS (lv_sub hl [1, 2, 0] rfl) h
abbrev rm_X7_feed : Room := { frames := 1, cells := 0, slots := 0, locals := 24 }
theorem in_X7_feed_X7 : ∀ w ∈ wsX70, w ∈ wsX7_feed := by decide +kernel
theorem in_X7_feed_X4 : ∀ w ∈ wsX40, w ∈ wsX7_feed := by decide +kernel
set_option maxHeartbeats 4000000 in
set_option maxRecDepth 100000 in
theorem ct_X7_feed (l : Launch) (D : va_G) (ad : Nat → Nat) (cI cJ cR : ClassId) (Ln : Nat → Nat) {S : cs_T} {a1 : Int64} {a3 : Int32} {Q : Int32 → cs_T → Prop} (h : wp_X7_feed Ln S a1 a3 Q) : xr_I l D (cs_ty cI cJ cR) (cs_w ad cI cR Ln) yX7_feed wsX7_feed rm_X7_feed [.ref (ad 0), .long a1, .int a3] S Q := by
  refine xr_eI (cc := cX7_feed) (nL := 4) (ret := (some .int)) (own := RX7) (by decide) rfl rfl (Nat.le_of_ble_eq_true rfl) ?_
  intro p e s m args below meth c ls A fx hK hA hP hD hS hl
  have hl : lv_has ls 4 [(0, .ref (ad 0)), (1, .long a1), (3, .int a3)] := hl
  show W p l e rm_X7_feed s m args below meth c s.heap [] 0 0 _ _
  obtain ⟨⟨hx, hb, hml, hown, hts⟩, hrt, hlk⟩ := id fx
  have hf : 0 ≤ rm_X7_feed.cells ∧ 0 ≤ rm_X7_feed.slots := ⟨Nat.zero_le _, Nat.zero_le _⟩
  unfold wp_X7_feed at h
  refine lv_iload_n hx hb dX7_feed_0 rfl (lv_at hl 2 rfl) ?_
  refine lv_iconst (v := 1) hx hb dX7_feed_1 (by decide) ?_
  refine lv_icmp_lt (tgt := 11) hx hb dX7_feed_2 (by decide) (fun c2 => ?_) (fun c2 => ?_)
  · have h := h.1 c2
    refine lv_bipush (v := (-2)) hx hb dX7_feed_11 (by decide) ?_
    exact xr_rI fx hK hP hD hS h dX7_feed_13
  · have h := h.2 c2
    refine lv_iload_n hx hb dX7_feed_5 rfl (lv_at hl 2 rfl) ?_
    refine lv_bipush (v := 8) hx hb dX7_feed_6 (by decide) ?_
    refine lv_icmp_le (tgt := 14) hx hb dX7_feed_8 (by decide) (fun c8 => ?_) (fun c8 => ?_)
    · have h := h.1 c8
      refine lv_aload_n hx hb dX7_feed_14 rfl (lv_at hl 0 rfl) ?_
      refine cs_get 0 6 6 (v := .ref (ad 6)) (ref := "BracketLetters") fx (by decide) rfl rfl in_X7_feed_X7 (by decide) rfl (by decide +kernel) rfl hK hP dX7_feed_15 ?_
      refine cs_get 6 3 0 (v := .int (S.1 5)) (ref := "BracketLetters$Reader") fx (by decide) rfl rfl in_X7_feed_X4 (by decide) rfl (by decide +kernel) rfl hK hP dX7_feed_18 ?_
      refine lv_iload_n hx hb dX7_feed_21 rfl (lv_at hl 2 rfl) ?_
      refine lv_iadd hx hb dX7_feed_22 ?_
      refine lv_bipush (v := 100) hx hb dX7_feed_23 (by decide) ?_
      refine lv_icmp_le (tgt := 31) hx hb dX7_feed_25 (by decide) (fun c25 => ?_) (fun c25 => ?_)
      · have h := h.1 c25
        refine lv_aload_n hx hb dX7_feed_31 rfl (lv_at hl 0 rfl) ?_
        refine cs_get 0 6 6 (v := .ref (ad 6)) (ref := "BracketLetters") fx (by decide) rfl rfl in_X7_feed_X7 (by decide) rfl (by decide +kernel) rfl hK hP dX7_feed_32 ?_
        refine lv_lload_n hx hb dX7_feed_35 rfl (lv_at hl 1 rfl) ?_
        refine lv_iload_n hx hb dX7_feed_36 rfl (lv_at hl 2 rfl) ?_
        refine xr_vI (n := 2) (As := [.long a1, .int a3]) (rest := []) fx (ct_X4_append l D ad cI cJ cR Ln h) gX7_feed_X4_append rfl rfl (by decide +kernel) ⟨Nat.le_of_ble_eq_true rfl, Nat.le_of_ble_eq_true rfl⟩ ⟨rfl, rfl⟩ hf (cs_recv 6 3 (by decide) rfl rfl hK hP) hK hP hD hS hA hl.1 rfl (Nat.le_of_ble_eq_true rfl) dX7_feed_37 (fun r2 S1 H locs h hP hD hS => ?_)
        exact xr_rI fx hK hP hD hS h dX7_feed_40
      · have h := h.2 c25
        refine lv_bipush (v := (-4)) hx hb dX7_feed_28 (by decide) ?_
        exact xr_rI fx hK hP hD hS h dX7_feed_30
    · have h := h.2 c8
      refine lv_bipush (v := (-2)) hx hb dX7_feed_11 (by decide) ?_
      exact xr_rI fx hK hP hD hS h dX7_feed_13
abbrev rm_X4_wholeOf : Room := { frames := 0, cells := 0, slots := 0, locals := 0 }
theorem in_X4_wholeOf_X4 : ∀ w ∈ wsX40, w ∈ wsX4_wholeOf := by decide +kernel
set_option maxHeartbeats 4000000 in
set_option maxRecDepth 100000 in
theorem ct_X4_wholeOf (l : Launch) (D : va_G) (ad : Nat → Nat) (cI cJ cR : ClassId) (Ln : Nat → Nat) {S : cs_T} {a1 : Int32} {Q : Nat → cs_T → Prop} (h : wp_X4_wholeOf Ln S a1 Q) : xr_R l D (cs_ty cI cJ cR) (cs_w ad cI cR Ln) ad yX4_wholeOf wsX4_wholeOf rm_X4_wholeOf [.ref (ad 6), .int a1] S Q := by
  refine xr_eR (cc := cX4_wholeOf) (nL := 2) (ret := (some (.array .int))) (own := RX4) (by decide) rfl rfl (Nat.le_of_ble_eq_true rfl) ?_
  intro p e s m args below meth c ls A fx hK hA hP hD hS hl
  have hl : lv_has ls 2 [(0, .ref (ad 6)), (1, .int a1)] := hl
  show W p l e rm_X4_wholeOf s m args below meth c s.heap [] 0 0 _ _
  obtain ⟨⟨hx, hb, hml, hown, hts⟩, hrt, hlk⟩ := id fx
  have hf : 0 ≤ rm_X4_wholeOf.cells ∧ 0 ≤ rm_X4_wholeOf.slots := ⟨Nat.zero_le _, Nat.zero_le _⟩
  unfold wp_X4_wholeOf at h
  refine lv_aload_n hx hb dX4_wholeOf_0 rfl (lv_at hl 0 rfl) ?_
  refine cs_get 6 3 4 (v := .ref (ad 8)) (ref := "BracketLetters$Reader") fx (by decide) rfl rfl in_X4_wholeOf_X4 (by decide) rfl (by decide +kernel) rfl hK hP dX4_wholeOf_1 ?_
  refine lv_iconst (v := 3) hx hb dX4_wholeOf_4 (by decide) ?_
  refine lv_iload_n hx hb dX4_wholeOf_5 rfl (lv_at hl 1 rfl) ?_
  refine lv_imul hx hb dX4_wholeOf_6 ?_
  obtain ⟨hi1, h⟩ := h
  refine cs_aald 8 18 15 fx (by decide) rfl hK hP hi1 dX4_wholeOf_7 ?_
  exact xr_rR fx hK hP hD hS h dX4_wholeOf_8
abbrev rm_X4_termOf : Room := { frames := 0, cells := 0, slots := 0, locals := 0 }
theorem in_X4_termOf_X4 : ∀ w ∈ wsX40, w ∈ wsX4_termOf := by decide +kernel
set_option maxHeartbeats 4000000 in
set_option maxRecDepth 100000 in
theorem ct_X4_termOf (l : Launch) (D : va_G) (ad : Nat → Nat) (cI cJ cR : ClassId) (Ln : Nat → Nat) {S : cs_T} {a1 : Int32} {Q : Nat → cs_T → Prop} (h : wp_X4_termOf Ln S a1 Q) : xr_R l D (cs_ty cI cJ cR) (cs_w ad cI cR Ln) ad yX4_termOf wsX4_termOf rm_X4_termOf [.ref (ad 6), .int a1] S Q := by
  refine xr_eR (cc := cX4_termOf) (nL := 2) (ret := (some (.array .int))) (own := RX4) (by decide) rfl rfl (Nat.le_of_ble_eq_true rfl) ?_
  intro p e s m args below meth c ls A fx hK hA hP hD hS hl
  have hl : lv_has ls 2 [(0, .ref (ad 6)), (1, .int a1)] := hl
  show W p l e rm_X4_termOf s m args below meth c s.heap [] 0 0 _ _
  obtain ⟨⟨hx, hb, hml, hown, hts⟩, hrt, hlk⟩ := id fx
  have hf : 0 ≤ rm_X4_termOf.cells ∧ 0 ≤ rm_X4_termOf.slots := ⟨Nat.zero_le _, Nat.zero_le _⟩
  unfold wp_X4_termOf at h
  refine lv_aload_n hx hb dX4_termOf_0 rfl (lv_at hl 0 rfl) ?_
  refine cs_get 6 3 4 (v := .ref (ad 8)) (ref := "BracketLetters$Reader") fx (by decide) rfl rfl in_X4_termOf_X4 (by decide) rfl (by decide +kernel) rfl hK hP dX4_termOf_1 ?_
  refine lv_iconst (v := 3) hx hb dX4_termOf_4 (by decide) ?_
  refine lv_iload_n hx hb dX4_termOf_5 rfl (lv_at hl 1 rfl) ?_
  refine lv_imul hx hb dX4_termOf_6 ?_
  refine lv_iconst (v := 1) hx hb dX4_termOf_7 (by decide) ?_
  refine lv_iadd hx hb dX4_termOf_8 ?_
  obtain ⟨hi1, h⟩ := h
  refine cs_aald 8 18 15 fx (by decide) rfl hK hP hi1 dX4_termOf_9 ?_
  exact xr_rR fx hK hP hD hS h dX4_termOf_10
abbrev rm_X4_hand : Room := { frames := 0, cells := 0, slots := 0, locals := 0 }
theorem in_X4_hand_X4 : ∀ w ∈ wsX40, w ∈ wsX4_hand := by decide +kernel
set_option maxHeartbeats 4000000 in
set_option maxRecDepth 100000 in
theorem ct_X4_hand (l : Launch) (D : va_G) (ad : Nat → Nat) (cI cJ cR : ClassId) (Ln : Nat → Nat) {S : cs_T} {Q : Int32 → cs_T → Prop} (h : wp_X4_hand Ln S Q) : xr_I l D (cs_ty cI cJ cR) (cs_w ad cI cR Ln) yX4_hand wsX4_hand rm_X4_hand [.ref (ad 6)] S Q := by
  refine xr_eI (cc := cX4_hand) (nL := 1) (ret := (some .int)) (own := RX4) (by decide) rfl rfl (Nat.le_of_ble_eq_true rfl) ?_
  intro p e s m args below meth c ls A fx hK hA hP hD hS hl
  have hl : lv_has ls 1 [(0, .ref (ad 6))] := hl
  show W p l e rm_X4_hand s m args below meth c s.heap [] 0 0 _ _
  obtain ⟨⟨hx, hb, hml, hown, hts⟩, hrt, hlk⟩ := id fx
  have hf : 0 ≤ rm_X4_hand.cells ∧ 0 ≤ rm_X4_hand.slots := ⟨Nat.zero_le _, Nat.zero_le _⟩
  unfold wp_X4_hand at h
  refine lv_aload_n hx hb dX4_hand_0 rfl (lv_at hl 0 rfl) ?_
  refine cs_get 6 3 6 (v := .int (S.1 6)) (ref := "BracketLetters$Reader") fx (by decide) rfl rfl in_X4_hand_X4 (by decide) rfl (by decide +kernel) rfl hK hP dX4_hand_1 ?_
  refine lv_aload_n hx hb dX4_hand_4 rfl (lv_at hl 0 rfl) ?_
  refine cs_get 6 3 0 (v := .int (S.1 5)) (ref := "BracketLetters$Reader") fx (by decide) rfl rfl in_X4_hand_X4 (by decide) rfl (by decide +kernel) rfl hK hP dX4_hand_5 ?_
  refine lv_icmp_ge (tgt := 23) hx hb dX4_hand_8 (by decide) (fun c8 => ?_) (fun c8 => ?_)
  · have h := h.1 c8
    refine lv_iconst (v := (-1)) hx hb dX4_hand_23 (by decide) ?_
    exact xr_rI fx hK hP hD hS h dX4_hand_24
  · have h := h.2 c8
    refine lv_aload_n hx hb dX4_hand_11 rfl (lv_at hl 0 rfl) ?_
    refine cs_get 6 3 5 (v := .ref (ad (9 + 46))) (ref := "BracketLetters$Reader") fx (by decide) rfl rfl in_X4_hand_X4 (by decide) rfl (by decide +kernel) rfl hK hP dX4_hand_12 ?_
    refine lv_aload_n hx hb dX4_hand_15 rfl (lv_at hl 0 rfl) ?_
    refine cs_get 6 3 6 (v := .int (S.1 6)) (ref := "BracketLetters$Reader") fx (by decide) rfl rfl in_X4_hand_X4 (by decide) rfl (by decide +kernel) rfl hK hP dX4_hand_16 ?_
    obtain ⟨hi1, h⟩ := h
    refine cs_iald 46 (by decide) fx hK hP hi1 dX4_hand_19 ?_
    refine lv_goto (tgt := 24) hx hb dX4_hand_20 (by decide) ?_
    exact xr_rI fx hK hP hD hS h dX4_hand_24
abbrev rm_X4_isDigit : Room := { frames := 0, cells := 0, slots := 0, locals := 0 }
set_option maxHeartbeats 4000000 in
set_option maxRecDepth 100000 in
theorem ct_X4_isDigit (l : Launch) (D : va_G) (ad : Nat → Nat) (cI cJ cR : ClassId) (Ln : Nat → Nat) {S : cs_T} {a1 : Int32} {Q : Int32 → cs_T → Prop} (h : wp_X4_isDigit Ln S a1 Q) : xr_I l D (cs_ty cI cJ cR) (cs_w ad cI cR Ln) yX4_isDigit wsX4_isDigit rm_X4_isDigit [.ref (ad 6), .int a1] S Q := by
  refine xr_eI (cc := cX4_isDigit) (nL := 2) (ret := (some .boolean)) (own := RX4) (by decide) rfl rfl (Nat.le_of_ble_eq_true rfl) ?_
  intro p e s m args below meth c ls A fx hK hA hP hD hS hl
  have hl : lv_has ls 2 [(0, .ref (ad 6)), (1, .int a1)] := hl
  show W p l e rm_X4_isDigit s m args below meth c s.heap [] 0 0 _ _
  obtain ⟨⟨hx, hb, hml, hown, hts⟩, hrt, hlk⟩ := id fx
  have hf : 0 ≤ rm_X4_isDigit.cells ∧ 0 ≤ rm_X4_isDigit.slots := ⟨Nat.zero_le _, Nat.zero_le _⟩
  unfold wp_X4_isDigit at h
  refine lv_iload_n hx hb dX4_isDigit_0 rfl (lv_at hl 1 rfl) ?_
  refine lv_bipush (v := 48) hx hb dX4_isDigit_1 (by decide) ?_
  refine lv_icmp_lt (tgt := 16) hx hb dX4_isDigit_3 (by decide) (fun c3 => ?_) (fun c3 => ?_)
  · have h := h.1 c3
    refine lv_iconst (v := 0) hx hb dX4_isDigit_16 (by decide) ?_
    exact xr_rZ fx rfl hK hP hD hS h dX4_isDigit_17
  · have h := h.2 c3
    refine lv_iload_n hx hb dX4_isDigit_6 rfl (lv_at hl 1 rfl) ?_
    refine lv_bipush (v := 57) hx hb dX4_isDigit_7 (by decide) ?_
    refine lv_icmp_gt (tgt := 16) hx hb dX4_isDigit_9 (by decide) (fun c9 => ?_) (fun c9 => ?_)
    · have h := h.1 c9
      refine lv_iconst (v := 0) hx hb dX4_isDigit_16 (by decide) ?_
      exact xr_rZ fx rfl hK hP hD hS h dX4_isDigit_17
    · have h := h.2 c9
      refine lv_iconst (v := 1) hx hb dX4_isDigit_12 (by decide) ?_
      refine lv_goto (tgt := 17) hx hb dX4_isDigit_13 (by decide) ?_
      exact xr_rZ fx rfl hK hP hD hS h dX4_isDigit_17
abbrev rm_X4_isLetter : Room := { frames := 0, cells := 0, slots := 0, locals := 0 }
theorem in_X4_isLetter_X4 : ∀ w ∈ wsX40, w ∈ wsX4_isLetter := by decide +kernel
theorem in_X4_isLetter_X6 : ∀ w ∈ wsX60, w ∈ wsX4_isLetter := by decide +kernel
set_option maxHeartbeats 4000000 in
set_option maxRecDepth 100000 in
theorem ct_X4_isLetter (l : Launch) (D : va_G) (ad : Nat → Nat) (cI cJ cR : ClassId) (Ln : Nat → Nat) {S : cs_T} {a1 : Int32} {Q : Int32 → cs_T → Prop} (h : wp_X4_isLetter Ln S a1 Q) : xr_I l D (cs_ty cI cJ cR) (cs_w ad cI cR Ln) yX4_isLetter wsX4_isLetter rm_X4_isLetter [.ref (ad 6), .int a1] S Q := by
  refine xr_eI (cc := cX4_isLetter) (nL := 2) (ret := (some .boolean)) (own := RX4) (by decide) rfl rfl (Nat.le_of_ble_eq_true rfl) ?_
  intro p e s m args below meth c ls A fx hK hA hP hD hS hl
  have hl : lv_has ls 2 [(0, .ref (ad 6)), (1, .int a1)] := hl
  show W p l e rm_X4_isLetter s m args below meth c s.heap [] 0 0 _ _
  obtain ⟨⟨hx, hb, hml, hown, hts⟩, hrt, hlk⟩ := id fx
  have hf : 0 ≤ rm_X4_isLetter.cells ∧ 0 ≤ rm_X4_isLetter.slots := ⟨Nat.zero_le _, Nat.zero_le _⟩
  unfold wp_X4_isLetter at h
  refine lv_iload_n hx hb dX4_isLetter_0 rfl (lv_at hl 1 rfl) ?_
  refine lv_bipush (v := 97) hx hb dX4_isLetter_1 (by decide) ?_
  refine lv_icmp_lt (tgt := 24) hx hb dX4_isLetter_3 (by decide) (fun c3 => ?_) (fun c3 => ?_)
  · have h := h.1 c3
    refine lv_iconst (v := 0) hx hb dX4_isLetter_24 (by decide) ?_
    exact xr_rZ fx rfl hK hP hD hS h dX4_isLetter_25
  · have h := h.2 c3
    refine lv_iload_n hx hb dX4_isLetter_6 rfl (lv_at hl 1 rfl) ?_
    refine lv_bipush (v := 97) hx hb dX4_isLetter_7 (by decide) ?_
    refine lv_aload_n hx hb dX4_isLetter_9 rfl (lv_at hl 0 rfl) ?_
    refine cs_get 6 3 1 (v := .ref (ad 1)) (ref := "BracketLetters$Reader") fx (by decide) rfl rfl in_X4_isLetter_X4 (by decide) rfl (by decide +kernel) rfl hK hP dX4_isLetter_10 ?_
    refine cs_get 1 5 0 (v := .int (S.1 2)) (ref := "BracketLetters$Words") fx (by decide) rfl rfl in_X4_isLetter_X6 (by decide) rfl (by decide +kernel) rfl hK hP dX4_isLetter_13 ?_
    refine lv_iadd hx hb dX4_isLetter_16 ?_
    refine lv_icmp_ge (tgt := 24) hx hb dX4_isLetter_17 (by decide) (fun c17 => ?_) (fun c17 => ?_)
    · have h := h.1 c17
      refine lv_iconst (v := 0) hx hb dX4_isLetter_24 (by decide) ?_
      exact xr_rZ fx rfl hK hP hD hS h dX4_isLetter_25
    · have h := h.2 c17
      refine lv_iconst (v := 1) hx hb dX4_isLetter_20 (by decide) ?_
      refine lv_goto (tgt := 25) hx hb dX4_isLetter_21 (by decide) ?_
      exact xr_rZ fx rfl hK hP hD hS h dX4_isLetter_25
abbrev rm_X4_beginsFactor : Room := { frames := 1, cells := 0, slots := 0, locals := 21 }
set_option maxHeartbeats 4000000 in
set_option maxRecDepth 100000 in
theorem ct_X4_beginsFactor (l : Launch) (D : va_G) (ad : Nat → Nat) (cI cJ cR : ClassId) (Ln : Nat → Nat) {S : cs_T} {a1 : Int32} {Q : Int32 → cs_T → Prop} (h : wp_X4_beginsFactor Ln S a1 Q) : xr_I l D (cs_ty cI cJ cR) (cs_w ad cI cR Ln) yX4_beginsFactor wsX4_beginsFactor rm_X4_beginsFactor [.ref (ad 6), .int a1] S Q := by
  refine xr_eI (cc := cX4_beginsFactor) (nL := 2) (ret := (some .boolean)) (own := RX4) (by decide) rfl rfl (Nat.le_of_ble_eq_true rfl) ?_
  intro p e s m args below meth c ls A fx hK hA hP hD hS hl
  have hl : lv_has ls 2 [(0, .ref (ad 6)), (1, .int a1)] := hl
  show W p l e rm_X4_beginsFactor s m args below meth c s.heap [] 0 0 _ _
  obtain ⟨⟨hx, hb, hml, hown, hts⟩, hrt, hlk⟩ := id fx
  have hf : 0 ≤ rm_X4_beginsFactor.cells ∧ 0 ≤ rm_X4_beginsFactor.slots := ⟨Nat.zero_le _, Nat.zero_le _⟩
  unfold wp_X4_beginsFactor at h
  refine lv_aload_n hx hb dX4_beginsFactor_0 rfl (lv_at hl 0 rfl) ?_
  refine lv_iload_n hx hb dX4_beginsFactor_1 rfl (lv_at hl 1 rfl) ?_
  refine xr_vI (n := 1) (As := [.int a1]) (rest := []) fx (ct_X4_isDigit l D ad cI cJ cR Ln h) gX4_beginsFactor_X4_isDigit rfl rfl (by decide +kernel) ⟨Nat.le_of_ble_eq_true rfl, Nat.le_of_ble_eq_true rfl⟩ ⟨rfl, rfl⟩ hf (cs_recv 6 3 (by decide) rfl rfl hK hP) hK hP hD hS hA hl.1 rfl (Nat.le_of_ble_eq_true rfl) dX4_beginsFactor_2 (fun r2 S1 H locs h hP hD hS => ?_)
  refine lv_if_ne (tgt := 46) hx hb dX4_beginsFactor_5 (by decide) (fun c5 => ?_) (fun c5 => ?_)
  · have h := h.1 c5
    refine lv_iconst (v := 1) hx hb dX4_beginsFactor_46 (by decide) ?_
    refine lv_goto (tgt := 51) hx hb dX4_beginsFactor_47 (by decide) ?_
    exact xr_rZ fx rfl hK hP hD hS h dX4_beginsFactor_51
  · have h := h.2 c5
    refine lv_aload_n hx hb dX4_beginsFactor_8 rfl (lv_at hl 0 rfl) ?_
    refine lv_iload_n hx hb dX4_beginsFactor_9 rfl (lv_at hl 1 rfl) ?_
    refine xr_vI (n := 1) (As := [.int a1]) (rest := []) fx (ct_X4_isLetter l D ad cI cJ cR Ln h) gX4_beginsFactor_X4_isLetter rfl rfl (by decide +kernel) ⟨Nat.le_of_ble_eq_true rfl, Nat.le_of_ble_eq_true rfl⟩ ⟨rfl, rfl⟩ hf (cs_recv 6 3 (by decide) rfl rfl hK hP) hK hP hD hS hA hl.1 rfl (Nat.le_of_ble_eq_true rfl) dX4_beginsFactor_10 (fun r4 S3 H locs h hP hD hS => ?_)
    refine lv_if_ne (tgt := 46) hx hb dX4_beginsFactor_13 (by decide) (fun c13 => ?_) (fun c13 => ?_)
    · have h := h.1 c13
      refine lv_iconst (v := 1) hx hb dX4_beginsFactor_46 (by decide) ?_
      refine lv_goto (tgt := 51) hx hb dX4_beginsFactor_47 (by decide) ?_
      exact xr_rZ fx rfl hK hP hD hS h dX4_beginsFactor_51
    · have h := h.2 c13
      refine lv_iload_n hx hb dX4_beginsFactor_16 rfl (lv_at hl 1 rfl) ?_
      refine lv_bipush (v := 114) hx hb dX4_beginsFactor_17 (by decide) ?_
      refine lv_icmp_eq (tgt := 46) hx hb dX4_beginsFactor_19 (by decide) (fun c19 => ?_) (fun c19 => ?_)
      · have h := h.1 c19
        refine lv_iconst (v := 1) hx hb dX4_beginsFactor_46 (by decide) ?_
        refine lv_goto (tgt := 51) hx hb dX4_beginsFactor_47 (by decide) ?_
        exact xr_rZ fx rfl hK hP hD hS h dX4_beginsFactor_51
      · have h := h.2 c19
        refine lv_iload_n hx hb dX4_beginsFactor_22 rfl (lv_at hl 1 rfl) ?_
        refine lv_bipush (v := 91) hx hb dX4_beginsFactor_23 (by decide) ?_
        refine lv_icmp_eq (tgt := 46) hx hb dX4_beginsFactor_25 (by decide) (fun c25 => ?_) (fun c25 => ?_)
        · have h := h.1 c25
          refine lv_iconst (v := 1) hx hb dX4_beginsFactor_46 (by decide) ?_
          refine lv_goto (tgt := 51) hx hb dX4_beginsFactor_47 (by decide) ?_
          exact xr_rZ fx rfl hK hP hD hS h dX4_beginsFactor_51
        · have h := h.2 c25
          refine lv_iload_n hx hb dX4_beginsFactor_28 rfl (lv_at hl 1 rfl) ?_
          refine lv_bipush (v := 40) hx hb dX4_beginsFactor_29 (by decide) ?_
          refine lv_icmp_eq (tgt := 46) hx hb dX4_beginsFactor_31 (by decide) (fun c31 => ?_) (fun c31 => ?_)
          · have h := h.1 c31
            refine lv_iconst (v := 1) hx hb dX4_beginsFactor_46 (by decide) ?_
            refine lv_goto (tgt := 51) hx hb dX4_beginsFactor_47 (by decide) ?_
            exact xr_rZ fx rfl hK hP hD hS h dX4_beginsFactor_51
          · have h := h.2 c31
            refine lv_iload_n hx hb dX4_beginsFactor_34 rfl (lv_at hl 1 rfl) ?_
            refine lv_bipush (v := 69) hx hb dX4_beginsFactor_35 (by decide) ?_
            refine lv_icmp_eq (tgt := 46) hx hb dX4_beginsFactor_37 (by decide) (fun c37 => ?_) (fun c37 => ?_)
            · have h := h.1 c37
              refine lv_iconst (v := 1) hx hb dX4_beginsFactor_46 (by decide) ?_
              refine lv_goto (tgt := 51) hx hb dX4_beginsFactor_47 (by decide) ?_
              exact xr_rZ fx rfl hK hP hD hS h dX4_beginsFactor_51
            · have h := h.2 c37
              refine lv_iload_n hx hb dX4_beginsFactor_40 rfl (lv_at hl 1 rfl) ?_
              refine lv_bipush (v := 76) hx hb dX4_beginsFactor_41 (by decide) ?_
              refine lv_icmp_ne (tgt := 50) hx hb dX4_beginsFactor_43 (by decide) (fun c43 => ?_) (fun c43 => ?_)
              · have h := h.1 c43
                refine lv_iconst (v := 0) hx hb dX4_beginsFactor_50 (by decide) ?_
                exact xr_rZ fx rfl hK hP hD hS h dX4_beginsFactor_51
              · have h := h.2 c43
                refine lv_iconst (v := 1) hx hb dX4_beginsFactor_46 (by decide) ?_
                refine lv_goto (tgt := 51) hx hb dX4_beginsFactor_47 (by decide) ?_
                exact xr_rZ fx rfl hK hP hD hS h dX4_beginsFactor_51
abbrev rm_X4_readNumber : Room := { frames := 1, cells := 0, slots := 0, locals := 21 }
theorem in_X4_readNumber_X4 : ∀ w ∈ wsX40, w ∈ wsX4_readNumber := by decide +kernel
set_option maxHeartbeats 4000000 in
set_option maxRecDepth 100000 in
theorem kb_X4_readNumber_4 {p : Program} {l : Launch} {e : Env} {s : State} {m : MethodId} {args : Array Value} {below : List Frame} {meth : Method} {c : Code} {D : va_G} {ad : Nat → Nat} {cI cJ cR : ClassId} {Ln : Nat → Nat} {A : Nat → Prop}  {K4 : cs_T → Int32 → Int32 → Prop} {Q : Int32 → cs_T → Prop} {S : cs_T} {v1 : Int32} {v2 : Int32} (fx : xr_Fx p m c meth cX4_readNumber 3 s args wsX4_readNumber RX4 (some .int)) (hK : xr_K D (cs_ty cI cJ cR) s) (hA : ∀ q, s.heap.size ≤ q → A q)   (k4 : ∀ (S : cs_T) (v1 : Int32) (v2 : Int32) {H : Heap} {locs : List Loc} {ls : Array Slot}, va_P D vwCl (cs_w ad cI cR Ln S) H → va_D A (cs_w ad cI cR Ln S) → va_S A s.heap H locs → lv_has ls 3 [(0, .ref (ad 6)), (1, .int v1), (2, .int v2)] → K4 S v1 v2 → W p l e rm_X4_readNumber s m args below meth c H locs 0 0 (MQ below (va_Qi Q (xr_B D (cs_ty cI cJ cR) (cs_w ad cI cR Ln) A) A) args s 0 0 A) (F0 m 4 ls [])) {H : Heap} {locs : List Loc} {ls : Array Slot} (hP : va_P D vwCl (cs_w ad cI cR Ln S) H) (hD : va_D A (cs_w ad cI cR Ln S)) (hS : va_S A s.heap H locs) (hl : lv_has ls 3 [(0, .ref (ad 6)), (1, .int v1), (2, .int v2)]) (h : wb_X4_readNumber_4 Ln K4 Q S v1 v2) : W p l e rm_X4_readNumber s m args below meth c H locs 0 0 (MQ below (va_Qi Q (xr_B D (cs_ty cI cJ cR) (cs_w ad cI cR Ln) A) A) args s 0 0 A) (F0 m 4 ls []) := by
  obtain ⟨⟨hx, hb, hml, hown, hts⟩, hrt, hlk⟩ := id fx
  have hf : 0 ≤ rm_X4_readNumber.cells ∧ 0 ≤ rm_X4_readNumber.slots := ⟨Nat.zero_le _, Nat.zero_le _⟩
  unfold wb_X4_readNumber_4 at h
  refine lv_iload_n hx hb dX4_readNumber_4 rfl (lv_at hl 2 rfl) ?_
  refine lv_iconst (v := 4) hx hb dX4_readNumber_5 (by decide) ?_
  refine lv_icmp_ge (tgt := 49) hx hb dX4_readNumber_6 (by decide) (fun c6 => ?_) (fun c6 => ?_)
  · have h := h.1 c6
    refine lv_iload_n hx hb dX4_readNumber_49 rfl (lv_at hl 1 rfl) ?_
    exact xr_rI fx hK hP hD hS h dX4_readNumber_50
  · have h := h.2 c6
    refine lv_aload_n hx hb dX4_readNumber_9 rfl (lv_at hl 0 rfl) ?_
    refine lv_aload_n hx hb dX4_readNumber_10 rfl (lv_at hl 0 rfl) ?_
    refine xr_vI (n := 0) (As := []) (rest := [.ref (ad 6)]) fx (ct_X4_hand l D ad cI cJ cR Ln h) gX4_readNumber_X4_hand rfl rfl (by decide +kernel) ⟨Nat.le_of_ble_eq_true rfl, Nat.le_of_ble_eq_true rfl⟩ ⟨rfl, rfl⟩ hf (cs_recv 6 3 (by decide) rfl rfl hK hP) hK hP hD hS hA hl.1 rfl (Nat.le_of_ble_eq_true rfl) dX4_readNumber_11 (fun r2 S1 H locs h hP hD hS => ?_)
    refine xr_vI (n := 1) (As := [.int r2]) (rest := []) fx (ct_X4_isDigit l D ad cI cJ cR Ln h) gX4_readNumber_X4_isDigit rfl rfl (by decide +kernel) ⟨Nat.le_of_ble_eq_true rfl, Nat.le_of_ble_eq_true rfl⟩ ⟨rfl, rfl⟩ hf (cs_recv 6 3 (by decide) rfl rfl hK hP) hK hP hD hS hA hl.1 rfl (Nat.le_of_ble_eq_true rfl) dX4_readNumber_14 (fun r4 S3 H locs h hP hD hS => ?_)
    refine lv_if_eq (tgt := 49) hx hb dX4_readNumber_17 (by decide) (fun c17 => ?_) (fun c17 => ?_)
    · have h := h.1 c17
      refine lv_iload_n hx hb dX4_readNumber_49 rfl (lv_at hl 1 rfl) ?_
      exact xr_rI fx hK hP hD hS h dX4_readNumber_50
    · have h := h.2 c17
      refine lv_iload_n hx hb dX4_readNumber_20 rfl (lv_at hl 1 rfl) ?_
      refine lv_bipush (v := 10) hx hb dX4_readNumber_21 (by decide) ?_
      refine lv_imul hx hb dX4_readNumber_23 ?_
      refine lv_aload_n hx hb dX4_readNumber_24 rfl (lv_at hl 0 rfl) ?_
      refine xr_vI (n := 0) (As := []) (rest := [.int (v1 * 10)]) fx (ct_X4_hand l D ad cI cJ cR Ln h) gX4_readNumber_X4_hand rfl rfl (by decide +kernel) ⟨Nat.le_of_ble_eq_true rfl, Nat.le_of_ble_eq_true rfl⟩ ⟨rfl, rfl⟩ hf (cs_recv 6 3 (by decide) rfl rfl hK hP) hK hP hD hS hA hl.1 rfl (Nat.le_of_ble_eq_true rfl) dX4_readNumber_25 (fun r6 S5 H locs h hP hD hS => ?_)
      refine lv_iadd hx hb dX4_readNumber_28 ?_
      refine lv_bipush (v := 48) hx hb dX4_readNumber_29 (by decide) ?_
      refine lv_isub hx hb dX4_readNumber_31 ?_
      refine lv_topi (fun v1_7 ev1_7 => ?_)
      have h := h v1_7 ev1_7
      refine lv_istore_n (lv' := [(1, .int v1_7), (0, .ref (ad 6)), (2, .int v2)]) hx hb dX4_readNumber_32 rfl hl (by decide) rfl (fun ls hl => ?_)
      refine lv_aload_n hx hb dX4_readNumber_33 rfl (lv_at hl 1 rfl) ?_
      refine lv_dup hx hb dX4_readNumber_34 rfl ?_
      refine cs_get 6 3 6 (v := .int (S5.1 6)) (ref := "BracketLetters$Reader") fx (by decide) rfl rfl in_X4_readNumber_X4 (by decide) rfl (by decide +kernel) rfl hK hP dX4_readNumber_35 ?_
      refine lv_iconst (v := 1) hx hb dX4_readNumber_38 (by decide) ?_
      refine lv_iadd hx hb dX4_readNumber_39 ?_
      refine cs_put 6 3 6 6 (ref := "BracketLetters$Reader") (ty := .int) tyX4 tyX4_ok nmX4 fx (by decide) rfl rfl in_X4_readNumber_X4 (by decide) (Nat.le_of_ble_eq_true rfl) cs_f6_6 (by decide +kernel) rfl rfl (by decide +kernel) rfl rfl hK hP hD hS dX4_readNumber_40 (fun H locs hP hD hS => ?_)
      obtain ⟨v2_8, ev2_8⟩ : ∃ z : Int32, z = v2 + 1 := ⟨_, rfl⟩
      have h := h v2_8 ev2_8
      refine lv_iinc (v := v2_8) (lv' := [(2, .int v2_8), (1, .int v1_7), (0, .ref (ad 6))]) hx hb dX4_readNumber_43 hl (k := 2) rfl (by rw [ev2_8]; rfl) (by decide) rfl (fun ls hl => ?_)
      refine lv_goto (tgt := 4) hx hb dX4_readNumber_46 (by decide) ?_
      exact k4 _ _ _ hP hD hS (lv_sub hl [2, 1, 0] rfl) h
theorem kw_X4_readNumber_4 {p : Program} {l : Launch} {e : Env} {s : State} {m : MethodId} {args : Array Value} {below : List Frame} {meth : Method} {c : Code} {D : va_G} {ad : Nat → Nat} {cI cJ cR : ClassId} {Ln : Nat → Nat} {A : Nat → Prop}  {Q : Int32 → cs_T → Prop} (fx : xr_Fx p m c meth cX4_readNumber 3 s args wsX4_readNumber RX4 (some .int)) (hK : xr_K D (cs_ty cI cJ cR) s) (hA : ∀ q, s.heap.size ≤ q → A q)   : ∀ (n : Nat) (S : cs_T) (v1 : Int32) (v2 : Int32) {H : Heap} {locs : List Loc} {ls : Array Slot}, va_P D vwCl (cs_w ad cI cR Ln S) H → va_D A (cs_w ad cI cR Ln S) → va_S A s.heap H locs → lv_has ls 3 [(0, .ref (ad 6)), (1, .int v1), (2, .int v2)] → wp_X4_readNumber_4 Ln Q n S v1 v2 → W p l e rm_X4_readNumber s m args below meth c H locs 0 0 (MQ below (va_Qi Q (xr_B D (cs_ty cI cJ cR) (cs_w ad cI cR Ln) A) A) args s 0 0 A) (F0 m 4 ls []) := by
  intro n
  induction n with
  | zero => intro S v1 v2 H locs ls hP hD hS hl h; exact False.elim h
  | succ n ih => intro S v1 v2 H locs ls hP hD hS hl h; exact kb_X4_readNumber_4 fx hK hA ih hP hD hS hl h
set_option maxHeartbeats 4000000 in
set_option maxRecDepth 100000 in
theorem ct_X4_readNumber (l : Launch) (D : va_G) (ad : Nat → Nat) (cI cJ cR : ClassId) (Ln : Nat → Nat) {S : cs_T} {Q : Int32 → cs_T → Prop} (h : wp_X4_readNumber Ln S Q) : xr_I l D (cs_ty cI cJ cR) (cs_w ad cI cR Ln) yX4_readNumber wsX4_readNumber rm_X4_readNumber [.ref (ad 6)] S Q := by
  refine xr_eI (cc := cX4_readNumber) (nL := 3) (ret := (some .int)) (own := RX4) (by decide) rfl rfl (Nat.le_of_ble_eq_true rfl) ?_
  intro p e s m args below meth c ls A fx hK hA hP hD hS hl
  have hl : lv_has ls 3 [(0, .ref (ad 6))] := hl
  show W p l e rm_X4_readNumber s m args below meth c s.heap [] 0 0 _ _
  obtain ⟨⟨hx, hb, hml, hown, hts⟩, hrt, hlk⟩ := id fx
  have hf : 0 ≤ rm_X4_readNumber.cells ∧ 0 ≤ rm_X4_readNumber.slots := ⟨Nat.zero_le _, Nat.zero_le _⟩
  unfold wp_X4_readNumber at h
  refine lv_iconst (v := 0) hx hb dX4_readNumber_0 (by decide) ?_
  refine lv_istore_n (lv' := [(1, .int 0), (0, .ref (ad 6))]) hx hb dX4_readNumber_1 rfl hl (by decide) rfl (fun ls hl => ?_)
  refine lv_iconst (v := 0) hx hb dX4_readNumber_2 (by decide) ?_
  refine lv_istore_n (lv' := [(2, .int 0), (1, .int 0), (0, .ref (ad 6))]) hx hb dX4_readNumber_3 rfl hl (by decide) rfl (fun ls hl => ?_)
  obtain ⟨n, h⟩ := h
  exact kw_X4_readNumber_4 fx hK hA n _ _ _ hP hD hS (lv_sub hl [2, 1, 0] rfl) h
abbrev rm_X0_multiplyByLetter : Room := { frames := 2, cells := 0, slots := 0, locals := 70 }
theorem in_X0_multiplyByLetter_X0 : ∀ w ∈ wsX00, w ∈ wsX0_multiplyByLetter := by decide +kernel
set_option maxHeartbeats 4000000 in
set_option maxRecDepth 100000 in
theorem kb_X0_multiplyByLetter_38 {p : Program} {l : Launch} {e : Env} {s : State} {m : MethodId} {args : Array Value} {below : List Frame} {meth : Method} {c : Code} {D : va_G} {ad : Nat → Nat} {cI cJ cR : ClassId} {Ln : Nat → Nat} {A : Nat → Prop} {K10 : cs_T → Nat → Int32 → Int32 → Prop} {K38 : cs_T → Nat → Int32 → Int32 → Int32 → Int32 → Prop} {Q : cs_T → Prop} {S : cs_T} {v1 : Nat} {v2 : Int32} {v3 : Int32} {v4 : Int32} {v5 : Int32} (fx : xr_Fx p m c meth cX0_multiplyByLetter 6 s args wsX0_multiplyByLetter RX0 none) (hK : xr_K D (cs_ty cI cJ cR) s) (hA : ∀ q, s.heap.size ≤ q → A q)  (k10 : ∀ (S : cs_T) (v1 : Nat) (v2 : Int32) (v3 : Int32) {H : Heap} {locs : List Loc} {ls : Array Slot}, va_P D vwCl (cs_w ad cI cR Ln S) H → va_D A (cs_w ad cI cR Ln S) → va_S A s.heap H locs → lv_has ls 6 [(0, .ref (ad 2)), (1, .ref (ad (9 + v1))), (2, .int v2), (3, .int v3)] → K10 S v1 v2 v3 → W p l e rm_X0_multiplyByLetter s m args below meth c H locs 0 0 (MQ below (va_Qv Q (xr_B D (cs_ty cI cJ cR) (cs_w ad cI cR Ln) A) A) args s 0 0 A) (F0 m 10 ls [])) (k38 : ∀ (S : cs_T) (v1 : Nat) (v2 : Int32) (v3 : Int32) (v4 : Int32) (v5 : Int32) {H : Heap} {locs : List Loc} {ls : Array Slot}, va_P D vwCl (cs_w ad cI cR Ln S) H → va_D A (cs_w ad cI cR Ln S) → va_S A s.heap H locs → lv_has ls 6 [(0, .ref (ad 2)), (1, .ref (ad (9 + v1))), (2, .int v2), (3, .int v3), (4, .int v4), (5, .int v5)] → K38 S v1 v2 v3 v4 v5 → W p l e rm_X0_multiplyByLetter s m args below meth c H locs 0 0 (MQ below (va_Qv Q (xr_B D (cs_ty cI cJ cR) (cs_w ad cI cR Ln) A) A) args s 0 0 A) (F0 m 38 ls [])) {H : Heap} {locs : List Loc} {ls : Array Slot} (hP : va_P D vwCl (cs_w ad cI cR Ln S) H) (hD : va_D A (cs_w ad cI cR Ln S)) (hS : va_S A s.heap H locs) (hl : lv_has ls 6 [(0, .ref (ad 2)), (1, .ref (ad (9 + v1))), (2, .int v2), (3, .int v3), (4, .int v4), (5, .int v5)]) (h : wb_X0_multiplyByLetter_38 Ln K10 K38 Q S v1 v2 v3 v4 v5) : W p l e rm_X0_multiplyByLetter s m args below meth c H locs 0 0 (MQ below (va_Qv Q (xr_B D (cs_ty cI cJ cR) (cs_w ad cI cR Ln) A) A) args s 0 0 A) (F0 m 38 ls []) := by
  obtain ⟨⟨hx, hb, hml, hown, hts⟩, hrt, hlk⟩ := id fx
  have hf : 0 ≤ rm_X0_multiplyByLetter.cells ∧ 0 ≤ rm_X0_multiplyByLetter.slots := ⟨Nat.zero_le _, Nat.zero_le _⟩
  unfold wb_X0_multiplyByLetter_38 at h
  refine lv_iload hx hb dX0_multiplyByLetter_38 (lv_at hl 5 rfl) ?_
  refine lv_aload_n hx hb dX0_multiplyByLetter_40 rfl (lv_at hl 0 rfl) ?_
  refine cs_get 2 0 5 (v := .ref (ad (9 + 1))) (ref := "BracketLetters$Algebra") fx (by decide) rfl rfl in_X0_multiplyByLetter_X0 (by decide) rfl (by decide +kernel) rfl hK hP dX0_multiplyByLetter_41 ?_
  refine lv_iload_n hx hb dX0_multiplyByLetter_44 rfl (lv_at hl 3 rfl) ?_
  refine lv_iconst (v := 1) hx hb dX0_multiplyByLetter_45 (by decide) ?_
  refine lv_iadd hx hb dX0_multiplyByLetter_46 ?_
  obtain ⟨hi1, h⟩ := h
  refine cs_iald 1 (by decide) fx hK hP hi1 dX0_multiplyByLetter_47 ?_
  refine lv_icmp_ge (tgt := 77) hx hb dX0_multiplyByLetter_48 (by decide) (fun c48 => ?_) (fun c48 => ?_)
  · have h := h.1 c48
    obtain ⟨v3_2, ev3_2⟩ : ∃ z : Int32, z = v3 + 1 := ⟨_, rfl⟩
    have h := h v3_2 ev3_2
    refine lv_iinc (v := v3_2) (lv' := [(3, .int v3_2), (0, .ref (ad 2)), (1, .ref (ad (9 + v1))), (2, .int v2), (4, .int v4), (5, .int v5)]) hx hb dX0_multiplyByLetter_77 hl (k := 3) rfl (by rw [ev3_2]; rfl) (by decide) rfl (fun ls hl => ?_)
    refine lv_goto (tgt := 10) hx hb dX0_multiplyByLetter_80 (by decide) ?_
    exact k10 _ _ _ _ hP hD hS (lv_sub hl [1, 2, 3, 0] rfl) h
  · have h := h.2 c48
    refine lv_aload_n hx hb dX0_multiplyByLetter_51 rfl (lv_at hl 0 rfl) ?_
    refine cs_get 2 0 7 (v := .ref (ad (9 + 3))) (ref := "BracketLetters$Algebra") fx (by decide) rfl rfl in_X0_multiplyByLetter_X0 (by decide) rfl (by decide +kernel) rfl hK hP dX0_multiplyByLetter_52 ?_
    refine lv_iload hx hb dX0_multiplyByLetter_55 (lv_at hl 4 rfl) ?_
    refine lv_aload_n hx hb dX0_multiplyByLetter_57 rfl (lv_at hl 1 rfl) ?_
    refine lv_iload hx hb dX0_multiplyByLetter_58 (lv_at hl 5 rfl) ?_
    obtain ⟨hk4, h⟩ := h
    obtain ⟨hi3, h⟩ := h
    refine cs_iald v1 hk4 fx hK hP hi3 dX0_multiplyByLetter_60 ?_
    obtain ⟨hi5, h⟩ := h
    refine cs_iast 3 (by decide) fx hK hP hD hS hi5 dX0_multiplyByLetter_61 (fun H locs hP hD hS => ?_)
    refine lv_iload hx hb dX0_multiplyByLetter_62 (lv_at hl 4 rfl) ?_
    refine lv_aload_n hx hb dX0_multiplyByLetter_64 rfl (lv_at hl 0 rfl) ?_
    refine cs_get 2 0 3 (v := .int ((cs_sI S 3 v4.toNatClampNeg (S.2.1 v1 v5.toNatClampNeg)).1 1)) (ref := "BracketLetters$Algebra") fx (by decide) rfl rfl in_X0_multiplyByLetter_X0 (by decide) rfl (by decide +kernel) rfl hK hP dX0_multiplyByLetter_65 ?_
    refine lv_iadd hx hb dX0_multiplyByLetter_68 ?_
    refine lv_topi (fun v4_6 ev4_6 => ?_)
    have h := h v4_6 ev4_6
    refine lv_istore (lv' := [(4, .int v4_6), (0, .ref (ad 2)), (1, .ref (ad (9 + v1))), (2, .int v2), (3, .int v3), (5, .int v5)]) hx hb dX0_multiplyByLetter_69 hl (by decide) rfl (fun ls hl => ?_)
    obtain ⟨v5_7, ev5_7⟩ : ∃ z : Int32, z = v5 + 1 := ⟨_, rfl⟩
    have h := h v5_7 ev5_7
    refine lv_iinc (v := v5_7) (lv' := [(5, .int v5_7), (4, .int v4_6), (0, .ref (ad 2)), (1, .ref (ad (9 + v1))), (2, .int v2), (3, .int v3)]) hx hb dX0_multiplyByLetter_71 hl (k := 5) rfl (by rw [ev5_7]; rfl) (by decide) rfl (fun ls hl => ?_)
    refine lv_goto (tgt := 38) hx hb dX0_multiplyByLetter_74 (by decide) ?_
    exact k38 _ _ _ _ _ _ hP hD hS (lv_sub hl [2, 3, 4, 5, 1, 0] rfl) h
theorem kw_X0_multiplyByLetter_38 {p : Program} {l : Launch} {e : Env} {s : State} {m : MethodId} {args : Array Value} {below : List Frame} {meth : Method} {c : Code} {D : va_G} {ad : Nat → Nat} {cI cJ cR : ClassId} {Ln : Nat → Nat} {A : Nat → Prop} {K10 : cs_T → Nat → Int32 → Int32 → Prop} {Q : cs_T → Prop} (fx : xr_Fx p m c meth cX0_multiplyByLetter 6 s args wsX0_multiplyByLetter RX0 none) (hK : xr_K D (cs_ty cI cJ cR) s) (hA : ∀ q, s.heap.size ≤ q → A q)  (k10 : ∀ (S : cs_T) (v1 : Nat) (v2 : Int32) (v3 : Int32) {H : Heap} {locs : List Loc} {ls : Array Slot}, va_P D vwCl (cs_w ad cI cR Ln S) H → va_D A (cs_w ad cI cR Ln S) → va_S A s.heap H locs → lv_has ls 6 [(0, .ref (ad 2)), (1, .ref (ad (9 + v1))), (2, .int v2), (3, .int v3)] → K10 S v1 v2 v3 → W p l e rm_X0_multiplyByLetter s m args below meth c H locs 0 0 (MQ below (va_Qv Q (xr_B D (cs_ty cI cJ cR) (cs_w ad cI cR Ln) A) A) args s 0 0 A) (F0 m 10 ls [])) : ∀ (n : Nat) (S : cs_T) (v1 : Nat) (v2 : Int32) (v3 : Int32) (v4 : Int32) (v5 : Int32) {H : Heap} {locs : List Loc} {ls : Array Slot}, va_P D vwCl (cs_w ad cI cR Ln S) H → va_D A (cs_w ad cI cR Ln S) → va_S A s.heap H locs → lv_has ls 6 [(0, .ref (ad 2)), (1, .ref (ad (9 + v1))), (2, .int v2), (3, .int v3), (4, .int v4), (5, .int v5)] → wp_X0_multiplyByLetter_38 Ln K10 Q n S v1 v2 v3 v4 v5 → W p l e rm_X0_multiplyByLetter s m args below meth c H locs 0 0 (MQ below (va_Qv Q (xr_B D (cs_ty cI cJ cR) (cs_w ad cI cR Ln) A) A) args s 0 0 A) (F0 m 38 ls []) := by
  intro n
  induction n with
  | zero => intro S v1 v2 v3 v4 v5 H locs ls hP hD hS hl h; exact False.elim h
  | succ n ih => intro S v1 v2 v3 v4 v5 H locs ls hP hD hS hl h; exact kb_X0_multiplyByLetter_38 fx hK hA k10 ih hP hD hS hl h
set_option maxHeartbeats 4000000 in
set_option maxRecDepth 100000 in
theorem kb_X0_multiplyByLetter_10 {p : Program} {l : Launch} {e : Env} {s : State} {m : MethodId} {args : Array Value} {below : List Frame} {meth : Method} {c : Code} {D : va_G} {ad : Nat → Nat} {cI cJ cR : ClassId} {Ln : Nat → Nat} {A : Nat → Prop}  {K10 : cs_T → Nat → Int32 → Int32 → Prop} {Q : cs_T → Prop} {S : cs_T} {v1 : Nat} {v2 : Int32} {v3 : Int32} (fx : xr_Fx p m c meth cX0_multiplyByLetter 6 s args wsX0_multiplyByLetter RX0 none) (hK : xr_K D (cs_ty cI cJ cR) s) (hA : ∀ q, s.heap.size ≤ q → A q)   (k10 : ∀ (S : cs_T) (v1 : Nat) (v2 : Int32) (v3 : Int32) {H : Heap} {locs : List Loc} {ls : Array Slot}, va_P D vwCl (cs_w ad cI cR Ln S) H → va_D A (cs_w ad cI cR Ln S) → va_S A s.heap H locs → lv_has ls 6 [(0, .ref (ad 2)), (1, .ref (ad (9 + v1))), (2, .int v2), (3, .int v3)] → K10 S v1 v2 v3 → W p l e rm_X0_multiplyByLetter s m args below meth c H locs 0 0 (MQ below (va_Qv Q (xr_B D (cs_ty cI cJ cR) (cs_w ad cI cR Ln) A) A) args s 0 0 A) (F0 m 10 ls [])) {H : Heap} {locs : List Loc} {ls : Array Slot} (hP : va_P D vwCl (cs_w ad cI cR Ln S) H) (hD : va_D A (cs_w ad cI cR Ln S)) (hS : va_S A s.heap H locs) (hl : lv_has ls 6 [(0, .ref (ad 2)), (1, .ref (ad (9 + v1))), (2, .int v2), (3, .int v3)]) (h : wb_X0_multiplyByLetter_10 Ln K10 Q S v1 v2 v3) : W p l e rm_X0_multiplyByLetter s m args below meth c H locs 0 0 (MQ below (va_Qv Q (xr_B D (cs_ty cI cJ cR) (cs_w ad cI cR Ln) A) A) args s 0 0 A) (F0 m 10 ls []) := by
  obtain ⟨⟨hx, hb, hml, hown, hts⟩, hrt, hlk⟩ := id fx
  have hf : 0 ≤ rm_X0_multiplyByLetter.cells ∧ 0 ≤ rm_X0_multiplyByLetter.slots := ⟨Nat.zero_le _, Nat.zero_le _⟩
  unfold wb_X0_multiplyByLetter_10 at h
  refine lv_iload_n hx hb dX0_multiplyByLetter_10 rfl (lv_at hl 3 rfl) ?_
  refine lv_aload_n hx hb dX0_multiplyByLetter_11 rfl (lv_at hl 0 rfl) ?_
  refine cs_get 2 0 2 (v := .int (S.1 0)) (ref := "BracketLetters$Algebra") fx (by decide) rfl rfl in_X0_multiplyByLetter_X0 (by decide) rfl (by decide +kernel) rfl hK hP dX0_multiplyByLetter_12 ?_
  refine lv_icmp_ge (tgt := 83) hx hb dX0_multiplyByLetter_15 (by decide) (fun c15 => ?_) (fun c15 => ?_)
  · have h := h.1 c15
    refine lv_aload_n hx hb dX0_multiplyByLetter_83 rfl (lv_at hl 0 rfl) ?_
    refine lv_aload_n hx hb dX0_multiplyByLetter_84 rfl (lv_at hl 1 rfl) ?_
    refine lv_aload_n hx hb dX0_multiplyByLetter_85 rfl (lv_at hl 0 rfl) ?_
    refine cs_get 2 0 7 (v := .ref (ad (9 + 3))) (ref := "BracketLetters$Algebra") fx (by decide) rfl rfl in_X0_multiplyByLetter_X0 (by decide) rfl (by decide +kernel) rfl hK hP dX0_multiplyByLetter_86 ?_
    refine xr_vV (n := 2) (As := [.ref (ad (9 + v1)), .ref (ad (9 + 3))]) (rest := []) fx (ct_X0_copy l D ad cI cJ cR Ln h) gX0_multiplyByLetter_X0_copy rfl rfl (by decide +kernel) ⟨Nat.le_of_ble_eq_true rfl, Nat.le_of_ble_eq_true rfl⟩ ⟨rfl, rfl⟩ hf (cs_recv 2 0 (by decide) rfl rfl hK hP) hK hP hD hS hA hl.1 rfl (Nat.le_of_ble_eq_true rfl) dX0_multiplyByLetter_89 (fun S8 H locs h hP hD hS => ?_)
    exact xr_rV fx hK hP hD hS h dX0_multiplyByLetter_92
  · have h := h.2 c15
    refine lv_aload_n hx hb dX0_multiplyByLetter_18 rfl (lv_at hl 0 rfl) ?_
    refine cs_get 2 0 5 (v := .ref (ad (9 + 1))) (ref := "BracketLetters$Algebra") fx (by decide) rfl rfl in_X0_multiplyByLetter_X0 (by decide) rfl (by decide +kernel) rfl hK hP dX0_multiplyByLetter_19 ?_
    refine lv_iload_n hx hb dX0_multiplyByLetter_22 rfl (lv_at hl 3 rfl) ?_
    refine lv_iconst (v := 1) hx hb dX0_multiplyByLetter_23 (by decide) ?_
    refine lv_iadd hx hb dX0_multiplyByLetter_24 ?_
    obtain ⟨hi9, h⟩ := h
    refine cs_iald 1 (by decide) fx hK hP hi9 dX0_multiplyByLetter_25 ?_
    refine lv_iload_n hx hb dX0_multiplyByLetter_26 rfl (lv_at hl 2 rfl) ?_
    refine lv_iadd hx hb dX0_multiplyByLetter_27 ?_
    refine lv_topi (fun v4_10 ev4_10 => ?_)
    have h := h v4_10 ev4_10
    refine lv_istore (lv' := [(4, .int v4_10), (0, .ref (ad 2)), (1, .ref (ad (9 + v1))), (2, .int v2), (3, .int v3)]) hx hb dX0_multiplyByLetter_28 hl (by decide) rfl (fun ls hl => ?_)
    refine lv_aload_n hx hb dX0_multiplyByLetter_30 rfl (lv_at hl 1 rfl) ?_
    refine cs_get 2 0 5 (v := .ref (ad (9 + 1))) (ref := "BracketLetters$Algebra") fx (by decide) rfl rfl in_X0_multiplyByLetter_X0 (by decide) rfl (by decide +kernel) rfl hK hP dX0_multiplyByLetter_31 ?_
    refine lv_iload_n hx hb dX0_multiplyByLetter_34 rfl (lv_at hl 4 rfl) ?_
    obtain ⟨hi11, h⟩ := h
    refine cs_iald 1 (by decide) fx hK hP hi11 dX0_multiplyByLetter_35 ?_
    refine lv_topi (fun v5_12 ev5_12 => ?_)
    have h := h v5_12 ev5_12
    refine lv_istore (lv' := [(5, .int v5_12), (4, .int v4_10), (0, .ref (ad 2)), (1, .ref (ad (9 + v1))), (2, .int v2), (3, .int v3)]) hx hb dX0_multiplyByLetter_36 hl (by decide) rfl (fun ls hl => ?_)
    obtain ⟨n, h⟩ := h
    exact kw_X0_multiplyByLetter_38 fx hK hA k10 n _ _ _ _ _ _ hP hD hS (lv_sub hl [2, 3, 4, 5, 1, 0] rfl) h
theorem kw_X0_multiplyByLetter_10 {p : Program} {l : Launch} {e : Env} {s : State} {m : MethodId} {args : Array Value} {below : List Frame} {meth : Method} {c : Code} {D : va_G} {ad : Nat → Nat} {cI cJ cR : ClassId} {Ln : Nat → Nat} {A : Nat → Prop}  {Q : cs_T → Prop} (fx : xr_Fx p m c meth cX0_multiplyByLetter 6 s args wsX0_multiplyByLetter RX0 none) (hK : xr_K D (cs_ty cI cJ cR) s) (hA : ∀ q, s.heap.size ≤ q → A q)   : ∀ (n : Nat) (S : cs_T) (v1 : Nat) (v2 : Int32) (v3 : Int32) {H : Heap} {locs : List Loc} {ls : Array Slot}, va_P D vwCl (cs_w ad cI cR Ln S) H → va_D A (cs_w ad cI cR Ln S) → va_S A s.heap H locs → lv_has ls 6 [(0, .ref (ad 2)), (1, .ref (ad (9 + v1))), (2, .int v2), (3, .int v3)] → wp_X0_multiplyByLetter_10 Ln Q n S v1 v2 v3 → W p l e rm_X0_multiplyByLetter s m args below meth c H locs 0 0 (MQ below (va_Qv Q (xr_B D (cs_ty cI cJ cR) (cs_w ad cI cR Ln) A) A) args s 0 0 A) (F0 m 10 ls []) := by
  intro n
  induction n with
  | zero => intro S v1 v2 v3 H locs ls hP hD hS hl h; exact False.elim h
  | succ n ih => intro S v1 v2 v3 H locs ls hP hD hS hl h; exact kb_X0_multiplyByLetter_10 fx hK hA ih hP hD hS hl h
set_option maxHeartbeats 4000000 in
set_option maxRecDepth 100000 in
theorem ct_X0_multiplyByLetter (l : Launch) (D : va_G) (ad : Nat → Nat) (cI cJ cR : ClassId) (Ln : Nat → Nat) {S : cs_T} {a1 : Nat} {a2 : Int32} {Q : cs_T → Prop} (h : wp_X0_multiplyByLetter Ln S a1 a2 Q) : xr_V l D (cs_ty cI cJ cR) (cs_w ad cI cR Ln) yX0_multiplyByLetter wsX0_multiplyByLetter rm_X0_multiplyByLetter [.ref (ad 2), .ref (ad (9 + a1)), .int a2] S Q := by
  refine xr_eV (cc := cX0_multiplyByLetter) (nL := 6) (ret := none) (own := RX0) (by decide) rfl rfl (Nat.le_of_ble_eq_true rfl) ?_
  intro p e s m args below meth c ls A fx hK hA hP hD hS hl
  have hl : lv_has ls 6 [(0, .ref (ad 2)), (1, .ref (ad (9 + a1))), (2, .int a2)] := hl
  show W p l e rm_X0_multiplyByLetter s m args below meth c s.heap [] 0 0 _ _
  obtain ⟨⟨hx, hb, hml, hown, hts⟩, hrt, hlk⟩ := id fx
  have hf : 0 ≤ rm_X0_multiplyByLetter.cells ∧ 0 ≤ rm_X0_multiplyByLetter.slots := ⟨Nat.zero_le _, Nat.zero_le _⟩
  unfold wp_X0_multiplyByLetter at h
  refine lv_aload_n hx hb dX0_multiplyByLetter_0 rfl (lv_at hl 0 rfl) ?_
  refine cs_get 2 0 7 (v := .ref (ad (9 + 3))) (ref := "BracketLetters$Algebra") fx (by decide) rfl rfl in_X0_multiplyByLetter_X0 (by decide) rfl (by decide +kernel) rfl hK hP dX0_multiplyByLetter_1 ?_
  refine lv_iconst (v := 0) hx hb dX0_multiplyByLetter_4 (by decide) ?_
  refine xr_wV (n := 2) (As := [.ref (ad (9 + 3)), .int 0]) (rest := []) fx (ct_J7_fill_53178 l D ad cI cJ cR Ln h) gX0_multiplyByLetter_J7_fill_53178 rfl rfl (by decide +kernel) ⟨Nat.le_of_ble_eq_true rfl, Nat.le_of_ble_eq_true rfl⟩ ⟨rfl, rfl⟩ hf hK hP hD hS hA hl.1 rfl (Nat.le_of_ble_eq_true rfl) dX0_multiplyByLetter_5 (fun S13 H locs h hP hD hS => ?_)
  refine lv_iconst (v := 0) hx hb dX0_multiplyByLetter_8 (by decide) ?_
  refine lv_istore_n (lv' := [(3, .int 0), (0, .ref (ad 2)), (1, .ref (ad (9 + a1))), (2, .int a2)]) hx hb dX0_multiplyByLetter_9 rfl hl (by decide) rfl (fun ls hl => ?_)
  obtain ⟨n, h⟩ := h
  exact kw_X0_multiplyByLetter_10 fx hK hA n _ _ _ _ hP hD hS (lv_sub hl [1, 2, 3, 0] rfl) h
