abbrev rm_X4_readSum : Room := { frames := 3, cells := 0, slots := 0, locals := 93 }
theorem in_X4_readSum_X4 : ∀ w ∈ wsX40, w ∈ wsX4_readSum := by decide +kernel
set_option maxHeartbeats 4000000 in
set_option maxRecDepth 100000 in
theorem ct_X4_readSum (l : Launch) (D : va_G) (ad : Nat → Nat) (cI cJ cR : ClassId) (Ln : Nat → Nat) {S : cs_T} {a1 : Int32} {Q : cs_T → Prop} (h : wp_X4_readSum Ln S a1 Q) : xr_V l D (cs_ty cI cJ cR) (cs_w ad cI cR Ln) yX4_readSum wsX4_readSum rm_X4_readSum [.ref (ad 6), .int a1] S Q := by
  refine xr_eV (cc := cX4_readSum) (nL := 3) (ret := none) (own := RX4) (by decide) rfl rfl (Nat.le_of_ble_eq_true rfl) ?_
  intro p e s m args below meth c ls A fx hK hA hP hD hS hl
  have hl : lv_has ls 3 [(0, .ref (ad 6)), (1, .int a1)] := hl
  show W p l e rm_X4_readSum s m args below meth c s.heap [] 0 0 _ _
  obtain ⟨⟨hx, hb, hml, hown, hts⟩, hrt, hlk⟩ := id fx
  have hf : 0 ≤ rm_X4_readSum.cells ∧ 0 ≤ rm_X4_readSum.slots := ⟨Nat.zero_le _, Nat.zero_le _⟩
  unfold wp_X4_readSum at h
  refine lv_aload_n hx hb dX4_readSum_0 rfl (lv_at hl 0 rfl) ?_
  refine xr_vI (n := 0) (As := []) (rest := []) fx (ct_X4_hand l D ad cI cJ cR Ln h) gX4_readSum_X4_hand rfl rfl (by decide +kernel) ⟨Nat.le_of_ble_eq_true rfl, Nat.le_of_ble_eq_true rfl⟩ ⟨rfl, rfl⟩ hf (cs_recv 6 3 (by decide) rfl rfl hK hP) hK hP hD hS hA hl.1 rfl (Nat.le_of_ble_eq_true rfl) dX4_readSum_1 (fun r2 S1 H locs h hP hD hS => ?_)
  refine lv_bipush (v := 48) hx hb dX4_readSum_4 (by decide) ?_
  refine lv_isub hx hb dX4_readSum_6 ?_
  refine lv_topi (fun v2_3 ev2_3 => ?_)
  have h := h v2_3 ev2_3
  refine lv_istore_n (lv' := [(2, .int v2_3), (0, .ref (ad 6)), (1, .int a1)]) hx hb dX4_readSum_7 rfl hl (by decide) rfl (fun ls hl => ?_)
  refine lv_iload_n hx hb dX4_readSum_8 rfl (lv_at hl 0 rfl) ?_
  refine xr_nI (n := 1) (As := [.int v2_3]) (rest := []) (host := RX7) fx (ct_X7_noSum l h) gX4_readSum_X7_noSum_n130 (by decide +kernel) (by decide +kernel) (hK.2 _ (by decide +kernel)) rfl rfl (by decide +kernel) ⟨Nat.le_of_ble_eq_true rfl, Nat.le_of_ble_eq_true rfl⟩ ⟨rfl, rfl⟩ hf hl.1 rfl (Nat.le_of_ble_eq_true rfl) dX4_readSum_9 (fun r4 h => ?_)
  refine lv_if_eq (tgt := 24) hx hb dX4_readSum_12 (by decide) (fun c12 => ?_) (fun c12 => ?_)
  · have h := h.1 c12
    refine lv_aload_n hx hb dX4_readSum_24 rfl (lv_at hl 1 rfl) ?_
    refine lv_dup hx hb dX4_readSum_25 rfl ?_
    refine cs_get 6 3 6 (v := .int (S1.1 6)) (ref := "BracketLetters$Reader") fx (by decide) rfl rfl in_X4_readSum_X4 (by decide) rfl (by decide +kernel) rfl hK hP dX4_readSum_26 ?_
    refine lv_iconst (v := 1) hx hb dX4_readSum_29 (by decide) ?_
    refine lv_iadd hx hb dX4_readSum_30 ?_
    refine cs_put 6 3 6 6 (ref := "BracketLetters$Reader") (ty := .int) tyX4 tyX4_ok nmX4 fx (by decide) rfl rfl in_X4_readSum_X4 (by decide) (Nat.le_of_ble_eq_true rfl) cs_f6_6 (by decide +kernel) rfl rfl (by decide +kernel) rfl rfl hK hP hD hS dX4_readSum_31 (fun H locs hP hD hS => ?_)
    refine lv_aload_n hx hb dX4_readSum_34 rfl (lv_at hl 1 rfl) ?_
    refine cs_get 6 3 2 (v := .ref (ad 2)) (ref := "BracketLetters$Reader") fx (by decide) rfl rfl in_X4_readSum_X4 (by decide) rfl (by decide +kernel) rfl hK hP dX4_readSum_35 ?_
    refine lv_aload_n hx hb dX4_readSum_38 rfl (lv_at hl 1 rfl) ?_
    refine lv_iload_n hx hb dX4_readSum_39 rfl (lv_at hl 2 rfl) ?_
    refine xr_vR (n := 1) (As := [.int a1]) (rest := [.ref (ad 2)]) fx (ct_X4_termOf l D ad cI cJ cR Ln h) gX4_readSum_X4_termOf rfl rfl (by decide +kernel) ⟨Nat.le_of_ble_eq_true rfl, Nat.le_of_ble_eq_true rfl⟩ ⟨rfl, rfl⟩ hf (cs_recv 6 3 (by decide) rfl rfl hK hP) hK hP hD hS hA hl.1 rfl (Nat.le_of_ble_eq_true rfl) dX4_readSum_40 (fun r6 S5 H locs h hP hD hS => ?_)
    refine lv_aload_n hx hb dX4_readSum_43 rfl (lv_at hl 1 rfl) ?_
    refine lv_iload_n hx hb dX4_readSum_44 rfl (lv_at hl 2 rfl) ?_
    refine xr_vR (n := 1) (As := [.int a1]) (rest := [.ref (ad (9 + r6)), .ref (ad 2)]) fx (ct_X4_termOf l D ad cI cJ cR Ln h) gX4_readSum_X4_termOf rfl rfl (by decide +kernel) ⟨Nat.le_of_ble_eq_true rfl, Nat.le_of_ble_eq_true rfl⟩ ⟨rfl, rfl⟩ hf (cs_recv 6 3 (by decide) rfl rfl hK hP) hK hP hD hS hA hl.1 rfl (Nat.le_of_ble_eq_true rfl) dX4_readSum_45 (fun r8 S7 H locs h hP hD hS => ?_)
    refine lv_aload_n hx hb dX4_readSum_48 rfl (lv_at hl 1 rfl) ?_
    refine cs_get 6 3 3 (v := .ref (ad 7)) (ref := "BracketLetters$Reader") fx (by decide) rfl rfl in_X4_readSum_X4 (by decide) rfl (by decide +kernel) rfl hK hP dX4_readSum_49 ?_
    refine lv_iload_n hx hb dX4_readSum_52 rfl (lv_at hl 0 rfl) ?_
    obtain ⟨hi9, h⟩ := h
    refine cs_aald 7 8 7 fx (by decide) rfl hK hP hi9 dX4_readSum_53 ?_
    refine xr_vV (n := 3) (As := [.ref (ad (9 + r6)), .ref (ad (9 + r8)), .ref (ad (9 + (7 + v2_3.toNatClampNeg)))]) (rest := []) fx (ct_X0_multiply l D ad cI cJ cR Ln h) gX4_readSum_X0_multiply rfl rfl (by decide +kernel) ⟨Nat.le_of_ble_eq_true rfl, Nat.le_of_ble_eq_true rfl⟩ ⟨rfl, rfl⟩ hf (cs_recv 2 0 (by decide) rfl rfl hK hP) hK hP hD hS hA hl.1 rfl (Nat.le_of_ble_eq_true rfl) dX4_readSum_54 (fun S10 H locs h hP hD hS => ?_)
    exact xr_rV fx hK hP hD hS h dX4_readSum_57
  · have h := h.2 c12
    refine lv_aload_n hx hb dX4_readSum_15 rfl (lv_at hl 1 rfl) ?_
    refine lv_aload_n hx hb dX4_readSum_16 rfl (lv_at hl 1 rfl) ?_
    refine cs_get 6 3 6 (v := .int (S1.1 6)) (ref := "BracketLetters$Reader") fx (by decide) rfl rfl in_X4_readSum_X4 (by decide) rfl (by decide +kernel) rfl hK hP dX4_readSum_17 ?_
    refine cs_put 6 3 7 7 (ref := "BracketLetters$Reader") (ty := .int) tyX4 tyX4_ok nmX4 fx (by decide) rfl rfl in_X4_readSum_X4 (by decide) (Nat.le_of_ble_eq_true rfl) cs_f6_7 (by decide +kernel) rfl rfl (by decide +kernel) rfl rfl hK hP hD hS dX4_readSum_20 (fun H locs hP hD hS => ?_)
    exact xr_rV fx hK hP hD hS h dX4_readSum_23
abbrev rm_X4_opens : Room := { frames := 1, cells := 0, slots := 0, locals := 20 }
theorem in_X4_opens_X4 : ∀ w ∈ wsX40, w ∈ wsX4_opens := by decide +kernel
set_option maxHeartbeats 4000000 in
set_option maxRecDepth 100000 in
theorem ct_X4_opens (l : Launch) (D : va_G) (ad : Nat → Nat) (cI cJ cR : ClassId) (Ln : Nat → Nat) {S : cs_T} {a1 : Int32} {a2 : Int32} {Q : Int32 → cs_T → Prop} (h : wp_X4_opens Ln S a1 a2 Q) : xr_I l D (cs_ty cI cJ cR) (cs_w ad cI cR Ln) yX4_opens wsX4_opens rm_X4_opens [.ref (ad 6), .int a1, .int a2] S Q := by
  refine xr_eI (cc := cX4_opens) (nL := 3) (ret := (some .boolean)) (own := RX4) (by decide) rfl rfl (Nat.le_of_ble_eq_true rfl) ?_
  intro p e s m args below meth c ls A fx hK hA hP hD hS hl
  have hl : lv_has ls 3 [(0, .ref (ad 6)), (1, .int a1), (2, .int a2)] := hl
  show W p l e rm_X4_opens s m args below meth c s.heap [] 0 0 _ _
  obtain ⟨⟨hx, hb, hml, hown, hts⟩, hrt, hlk⟩ := id fx
  have hf : 0 ≤ rm_X4_opens.cells ∧ 0 ≤ rm_X4_opens.slots := ⟨Nat.zero_le _, Nat.zero_le _⟩
  unfold wp_X4_opens at h
  refine lv_aload_n hx hb dX4_opens_0 rfl (lv_at hl 0 rfl) ?_
  refine xr_vI (n := 0) (As := []) (rest := []) fx (ct_X4_hand l D ad cI cJ cR Ln h) gX4_opens_X4_hand rfl rfl (by decide +kernel) ⟨Nat.le_of_ble_eq_true rfl, Nat.le_of_ble_eq_true rfl⟩ ⟨rfl, rfl⟩ hf (cs_recv 6 3 (by decide) rfl rfl hK hP) hK hP hD hS hA hl.1 rfl (Nat.le_of_ble_eq_true rfl) dX4_opens_1 (fun r2 S1 H locs h hP hD hS => ?_)
  refine lv_iload_n hx hb dX4_opens_4 rfl (lv_at hl 1 rfl) ?_
  refine lv_icmp_ne (tgt := 13) hx hb dX4_opens_5 (by decide) (fun c5 => ?_) (fun c5 => ?_)
  · have h := h.1 c5
    refine lv_aload_n hx hb dX4_opens_13 rfl (lv_at hl 0 rfl) ?_
    refine lv_aload_n hx hb dX4_opens_14 rfl (lv_at hl 0 rfl) ?_
    refine cs_get 6 3 6 (v := .int (S1.1 6)) (ref := "BracketLetters$Reader") fx (by decide) rfl rfl in_X4_opens_X4 (by decide) rfl (by decide +kernel) rfl hK hP dX4_opens_15 ?_
    refine cs_put 6 3 7 7 (ref := "BracketLetters$Reader") (ty := .int) tyX4 tyX4_ok nmX4 fx (by decide) rfl rfl in_X4_opens_X4 (by decide) (Nat.le_of_ble_eq_true rfl) cs_f6_7 (by decide +kernel) rfl rfl (by decide +kernel) rfl rfl hK hP hD hS dX4_opens_18 (fun H locs hP hD hS => ?_)
    refine lv_iconst (v := 0) hx hb dX4_opens_21 (by decide) ?_
    exact xr_rZ fx rfl hK hP hD hS h dX4_opens_22
  · have h := h.2 c5
    refine lv_iload_n hx hb dX4_opens_8 rfl (lv_at hl 2 rfl) ?_
    refine lv_iconst (v := 5) hx hb dX4_opens_9 (by decide) ?_
    refine lv_icmp_lt (tgt := 23) hx hb dX4_opens_10 (by decide) (fun c10 => ?_) (fun c10 => ?_)
    · have h := h.1 c10
      refine lv_aload_n hx hb dX4_opens_23 rfl (lv_at hl 0 rfl) ?_
      refine lv_dup hx hb dX4_opens_24 rfl ?_
      refine cs_get 6 3 6 (v := .int (S1.1 6)) (ref := "BracketLetters$Reader") fx (by decide) rfl rfl in_X4_opens_X4 (by decide) rfl (by decide +kernel) rfl hK hP dX4_opens_25 ?_
      refine lv_iconst (v := 1) hx hb dX4_opens_28 (by decide) ?_
      refine lv_iadd hx hb dX4_opens_29 ?_
      refine cs_put 6 3 6 6 (ref := "BracketLetters$Reader") (ty := .int) tyX4 tyX4_ok nmX4 fx (by decide) rfl rfl in_X4_opens_X4 (by decide) (Nat.le_of_ble_eq_true rfl) cs_f6_6 (by decide +kernel) rfl rfl (by decide +kernel) rfl rfl hK hP hD hS dX4_opens_30 (fun H locs hP hD hS => ?_)
      refine lv_iconst (v := 1) hx hb dX4_opens_33 (by decide) ?_
      exact xr_rZ fx rfl hK hP hD hS h dX4_opens_34
    · have h := h.2 c10
      refine lv_aload_n hx hb dX4_opens_13 rfl (lv_at hl 0 rfl) ?_
      refine lv_aload_n hx hb dX4_opens_14 rfl (lv_at hl 0 rfl) ?_
      refine cs_get 6 3 6 (v := .int (S1.1 6)) (ref := "BracketLetters$Reader") fx (by decide) rfl rfl in_X4_opens_X4 (by decide) rfl (by decide +kernel) rfl hK hP dX4_opens_15 ?_
      refine cs_put 6 3 7 7 (ref := "BracketLetters$Reader") (ty := .int) tyX4 tyX4_ok nmX4 fx (by decide) rfl rfl in_X4_opens_X4 (by decide) (Nat.le_of_ble_eq_true rfl) cs_f6_7 (by decide +kernel) rfl rfl (by decide +kernel) rfl rfl hK hP hD hS dX4_opens_18 (fun H locs hP hD hS => ?_)
      refine lv_iconst (v := 0) hx hb dX4_opens_21 (by decide) ?_
      exact xr_rZ fx rfl hK hP hD hS h dX4_opens_22
abbrev rm_X4_goesOn : Room := { frames := 1, cells := 0, slots := 0, locals := 20 }
theorem in_X4_goesOn_X4 : ∀ w ∈ wsX40, w ∈ wsX4_goesOn := by decide +kernel
set_option maxHeartbeats 4000000 in
set_option maxRecDepth 100000 in
theorem kw_X4_goesOn_27 {p : Program} {l : Launch} {e : Env} {s : State} {m : MethodId} {args : Array Value} {below : List Frame} {meth : Method} {c : Code} {D : va_G} {ad : Nat → Nat} {cI cJ cR : ClassId} {Ln : Nat → Nat} {A : Nat → Prop}  {Q : Int32 → cs_T → Prop} {S : cs_T} (fx : xr_Fx p m c meth cX4_goesOn 2 s args wsX4_goesOn RX4 (some .boolean)) (hK : xr_K D (cs_ty cI cJ cR) s) (hA : ∀ q, s.heap.size ≤ q → A q)   {H : Heap} {locs : List Loc} {ls : Array Slot} (hP : va_P D vwCl (cs_w ad cI cR Ln S) H) (hD : va_D A (cs_w ad cI cR Ln S)) (hS : va_S A s.heap H locs) (hl : lv_has ls 2 [(0, .ref (ad 6))]) (h : wp_X4_goesOn_27 Ln Q S) : W p l e rm_X4_goesOn s m args below meth c H locs 0 0 (MQ below (va_Qi Q (xr_B D (cs_ty cI cJ cR) (cs_w ad cI cR Ln) A) A) args s 0 0 A) (F0 m 27 ls []) := by
  obtain ⟨⟨hx, hb, hml, hown, hts⟩, hrt, hlk⟩ := id fx
  have hf : 0 ≤ rm_X4_goesOn.cells ∧ 0 ≤ rm_X4_goesOn.slots := ⟨Nat.zero_le _, Nat.zero_le _⟩
  unfold wp_X4_goesOn_27 at h
  refine lv_aload_n hx hb dX4_goesOn_27 rfl (lv_at hl 0 rfl) ?_
  refine cs_get 6 3 7 (v := .int (S.1 7)) (ref := "BracketLetters$Reader") fx (by decide) rfl rfl in_X4_goesOn_X4 (by decide) rfl (by decide +kernel) rfl hK hP dX4_goesOn_28 ?_
  refine lv_if_ge (tgt := 42) hx hb dX4_goesOn_31 (by decide) (fun c31 => ?_) (fun c31 => ?_)
  · have h := h.1 c31
    refine lv_iconst (v := 0) hx hb dX4_goesOn_42 (by decide) ?_
    exact xr_rZ fx rfl hK hP hD hS h dX4_goesOn_43
  · have h := h.2 c31
    refine lv_aload_n hx hb dX4_goesOn_34 rfl (lv_at hl 0 rfl) ?_
    refine lv_aload_n hx hb dX4_goesOn_35 rfl (lv_at hl 0 rfl) ?_
    refine cs_get 6 3 6 (v := .int (S.1 6)) (ref := "BracketLetters$Reader") fx (by decide) rfl rfl in_X4_goesOn_X4 (by decide) rfl (by decide +kernel) rfl hK hP dX4_goesOn_36 ?_
    refine cs_put 6 3 7 7 (ref := "BracketLetters$Reader") (ty := .int) tyX4 tyX4_ok nmX4 fx (by decide) rfl rfl in_X4_goesOn_X4 (by decide) (Nat.le_of_ble_eq_true rfl) cs_f6_7 (by decide +kernel) rfl rfl (by decide +kernel) rfl rfl hK hP hD hS dX4_goesOn_39 (fun H locs hP hD hS => ?_)
    refine lv_iconst (v := 0) hx hb dX4_goesOn_42 (by decide) ?_
    exact xr_rZ fx rfl hK hP hD hS h dX4_goesOn_43
set_option maxHeartbeats 4000000 in
set_option maxRecDepth 100000 in
theorem ct_X4_goesOn (l : Launch) (D : va_G) (ad : Nat → Nat) (cI cJ cR : ClassId) (Ln : Nat → Nat) {S : cs_T} {a1 : Int32} {Q : Int32 → cs_T → Prop} (h : wp_X4_goesOn Ln S a1 Q) : xr_I l D (cs_ty cI cJ cR) (cs_w ad cI cR Ln) yX4_goesOn wsX4_goesOn rm_X4_goesOn [.ref (ad 6), .int a1] S Q := by
  refine xr_eI (cc := cX4_goesOn) (nL := 2) (ret := (some .boolean)) (own := RX4) (by decide) rfl rfl (Nat.le_of_ble_eq_true rfl) ?_
  intro p e s m args below meth c ls A fx hK hA hP hD hS hl
  have hl : lv_has ls 2 [(0, .ref (ad 6)), (1, .int a1)] := hl
  show W p l e rm_X4_goesOn s m args below meth c s.heap [] 0 0 _ _
  obtain ⟨⟨hx, hb, hml, hown, hts⟩, hrt, hlk⟩ := id fx
  have hf : 0 ≤ rm_X4_goesOn.cells ∧ 0 ≤ rm_X4_goesOn.slots := ⟨Nat.zero_le _, Nat.zero_le _⟩
  unfold wp_X4_goesOn at h
  refine lv_aload_n hx hb dX4_goesOn_0 rfl (lv_at hl 0 rfl) ?_
  refine cs_get 6 3 7 (v := .int (S.1 7)) (ref := "BracketLetters$Reader") fx (by decide) rfl rfl in_X4_goesOn_X4 (by decide) rfl (by decide +kernel) rfl hK hP dX4_goesOn_1 ?_
  refine lv_if_ge (tgt := 27) hx hb dX4_goesOn_4 (by decide) (fun c4 => ?_) (fun c4 => ?_)
  · have h := h.1 c4
    exact kw_X4_goesOn_27 fx hK hA hP hD hS (lv_sub hl [0] rfl) h
  · have h := h.2 c4
    refine lv_aload_n hx hb dX4_goesOn_7 rfl (lv_at hl 0 rfl) ?_
    refine xr_vI (n := 0) (As := []) (rest := []) fx (ct_X4_hand l D ad cI cJ cR Ln h) gX4_goesOn_X4_hand rfl rfl (by decide +kernel) ⟨Nat.le_of_ble_eq_true rfl, Nat.le_of_ble_eq_true rfl⟩ ⟨rfl, rfl⟩ hf (cs_recv 6 3 (by decide) rfl rfl hK hP) hK hP hD hS hA hl.1 rfl (Nat.le_of_ble_eq_true rfl) dX4_goesOn_8 (fun r2 S1 H locs h hP hD hS => ?_)
    refine lv_iload_n hx hb dX4_goesOn_11 rfl (lv_at hl 1 rfl) ?_
    refine lv_icmp_ne (tgt := 27) hx hb dX4_goesOn_12 (by decide) (fun c12 => ?_) (fun c12 => ?_)
    · have h := h.1 c12
      exact kw_X4_goesOn_27 fx hK hA hP hD hS (lv_sub hl [0] rfl) h
    · have h := h.2 c12
      refine lv_aload_n hx hb dX4_goesOn_15 rfl (lv_at hl 0 rfl) ?_
      refine lv_dup hx hb dX4_goesOn_16 rfl ?_
      refine cs_get 6 3 6 (v := .int (S1.1 6)) (ref := "BracketLetters$Reader") fx (by decide) rfl rfl in_X4_goesOn_X4 (by decide) rfl (by decide +kernel) rfl hK hP dX4_goesOn_17 ?_
      refine lv_iconst (v := 1) hx hb dX4_goesOn_20 (by decide) ?_
      refine lv_iadd hx hb dX4_goesOn_21 ?_
      refine cs_put 6 3 6 6 (ref := "BracketLetters$Reader") (ty := .int) tyX4 tyX4_ok nmX4 fx (by decide) rfl rfl in_X4_goesOn_X4 (by decide) (Nat.le_of_ble_eq_true rfl) cs_f6_6 (by decide +kernel) rfl rfl (by decide +kernel) rfl rfl hK hP hD hS dX4_goesOn_22 (fun H locs hP hD hS => ?_)
      refine lv_iconst (v := 1) hx hb dX4_goesOn_25 (by decide) ?_
      exact xr_rZ fx rfl hK hP hD hS h dX4_goesOn_26
abbrev rm_X4_leftOf : Room := { frames := 0, cells := 0, slots := 0, locals := 0 }
theorem in_X4_leftOf_X4 : ∀ w ∈ wsX40, w ∈ wsX4_leftOf := by decide +kernel
set_option maxHeartbeats 4000000 in
set_option maxRecDepth 100000 in
theorem ct_X4_leftOf (l : Launch) (D : va_G) (ad : Nat → Nat) (cI cJ cR : ClassId) (Ln : Nat → Nat) {S : cs_T} {a1 : Int32} {Q : Nat → cs_T → Prop} (h : wp_X4_leftOf Ln S a1 Q) : xr_R l D (cs_ty cI cJ cR) (cs_w ad cI cR Ln) ad yX4_leftOf wsX4_leftOf rm_X4_leftOf [.ref (ad 6), .int a1] S Q := by
  refine xr_eR (cc := cX4_leftOf) (nL := 2) (ret := (some (.array .int))) (own := RX4) (by decide) rfl rfl (Nat.le_of_ble_eq_true rfl) ?_
  intro p e s m args below meth c ls A fx hK hA hP hD hS hl
  have hl : lv_has ls 2 [(0, .ref (ad 6)), (1, .int a1)] := hl
  show W p l e rm_X4_leftOf s m args below meth c s.heap [] 0 0 _ _
  obtain ⟨⟨hx, hb, hml, hown, hts⟩, hrt, hlk⟩ := id fx
  have hf : 0 ≤ rm_X4_leftOf.cells ∧ 0 ≤ rm_X4_leftOf.slots := ⟨Nat.zero_le _, Nat.zero_le _⟩
  unfold wp_X4_leftOf at h
  refine lv_aload_n hx hb dX4_leftOf_0 rfl (lv_at hl 0 rfl) ?_
  refine cs_get 6 3 4 (v := .ref (ad 8)) (ref := "BracketLetters$Reader") fx (by decide) rfl rfl in_X4_leftOf_X4 (by decide) rfl (by decide +kernel) rfl hK hP dX4_leftOf_1 ?_
  refine lv_iconst (v := 3) hx hb dX4_leftOf_4 (by decide) ?_
  refine lv_iload_n hx hb dX4_leftOf_5 rfl (lv_at hl 1 rfl) ?_
  refine lv_imul hx hb dX4_leftOf_6 ?_
  refine lv_iconst (v := 2) hx hb dX4_leftOf_7 (by decide) ?_
  refine lv_iadd hx hb dX4_leftOf_8 ?_
  obtain ⟨hi1, h⟩ := h
  refine cs_aald 8 18 15 fx (by decide) rfl hK hP hi1 dX4_leftOf_9 ?_
  exact xr_rR fx hK hP hD hS h dX4_leftOf_10
abbrev rm_X4_readDivisor : Room := { frames := 2, cells := 0, slots := 0, locals := 45 }
theorem in_X4_readDivisor_X4 : ∀ w ∈ wsX40, w ∈ wsX4_readDivisor := by decide +kernel
set_option maxHeartbeats 4000000 in
set_option maxRecDepth 100000 in
theorem ct_X4_readDivisor (l : Launch) (D : va_G) (ad : Nat → Nat) (cI cJ cR : ClassId) (Ln : Nat → Nat) {S : cs_T} {a1 : Int32} {Q : cs_T → Prop} (h : wp_X4_readDivisor Ln S a1 Q) : xr_V l D (cs_ty cI cJ cR) (cs_w ad cI cR Ln) yX4_readDivisor wsX4_readDivisor rm_X4_readDivisor [.ref (ad 6), .int a1] S Q := by
  refine xr_eV (cc := cX4_readDivisor) (nL := 2) (ret := none) (own := RX4) (by decide) rfl rfl (Nat.le_of_ble_eq_true rfl) ?_
  intro p e s m args below meth c ls A fx hK hA hP hD hS hl
  have hl : lv_has ls 2 [(0, .ref (ad 6)), (1, .int a1)] := hl
  show W p l e rm_X4_readDivisor s m args below meth c s.heap [] 0 0 _ _
  obtain ⟨⟨hx, hb, hml, hown, hts⟩, hrt, hlk⟩ := id fx
  have hf : 0 ≤ rm_X4_readDivisor.cells ∧ 0 ≤ rm_X4_readDivisor.slots := ⟨Nat.zero_le _, Nat.zero_le _⟩
  unfold wp_X4_readDivisor at h
  refine lv_aload_n hx hb dX4_readDivisor_0 rfl (lv_at hl 0 rfl) ?_
  refine lv_aload_n hx hb dX4_readDivisor_1 rfl (lv_at hl 0 rfl) ?_
  refine xr_vI (n := 0) (As := []) (rest := [.ref (ad 6)]) fx (ct_X4_hand l D ad cI cJ cR Ln h) gX4_readDivisor_X4_hand rfl rfl (by decide +kernel) ⟨Nat.le_of_ble_eq_true rfl, Nat.le_of_ble_eq_true rfl⟩ ⟨rfl, rfl⟩ hf (cs_recv 6 3 (by decide) rfl rfl hK hP) hK hP hD hS hA hl.1 rfl (Nat.le_of_ble_eq_true rfl) dX4_readDivisor_2 (fun r2 S1 H locs h hP hD hS => ?_)
  refine xr_vI (n := 1) (As := [.int r2]) (rest := []) fx (ct_X4_isDigit l D ad cI cJ cR Ln h) gX4_readDivisor_X4_isDigit rfl rfl (by decide +kernel) ⟨Nat.le_of_ble_eq_true rfl, Nat.le_of_ble_eq_true rfl⟩ ⟨rfl, rfl⟩ hf (cs_recv 6 3 (by decide) rfl rfl hK hP) hK hP hD hS hA hl.1 rfl (Nat.le_of_ble_eq_true rfl) dX4_readDivisor_5 (fun r4 S3 H locs h hP hD hS => ?_)
  refine lv_if_eq (tgt := 20) hx hb dX4_readDivisor_8 (by decide) (fun c8 => ?_) (fun c8 => ?_)
  · have h := h.1 c8
    refine lv_aload_n hx hb dX4_readDivisor_20 rfl (lv_at hl 0 rfl) ?_
    refine lv_aload_n hx hb dX4_readDivisor_21 rfl (lv_at hl 0 rfl) ?_
    refine cs_get 6 3 6 (v := .int (S3.1 6)) (ref := "BracketLetters$Reader") fx (by decide) rfl rfl in_X4_readDivisor_X4 (by decide) rfl (by decide +kernel) rfl hK hP dX4_readDivisor_22 ?_
    refine cs_put 6 3 7 7 (ref := "BracketLetters$Reader") (ty := .int) tyX4 tyX4_ok nmX4 fx (by decide) rfl rfl in_X4_readDivisor_X4 (by decide) (Nat.le_of_ble_eq_true rfl) cs_f6_7 (by decide +kernel) rfl rfl (by decide +kernel) rfl rfl hK hP hD hS dX4_readDivisor_25 (fun H locs hP hD hS => ?_)
    exact xr_rV fx hK hP hD hS h dX4_readDivisor_28
  · have h := h.2 c8
    refine lv_aload_n hx hb dX4_readDivisor_11 rfl (lv_at hl 0 rfl) ?_
    refine xr_vI (n := 0) (As := []) (rest := []) fx (ct_X4_hand l D ad cI cJ cR Ln h) gX4_readDivisor_X4_hand rfl rfl (by decide +kernel) ⟨Nat.le_of_ble_eq_true rfl, Nat.le_of_ble_eq_true rfl⟩ ⟨rfl, rfl⟩ hf (cs_recv 6 3 (by decide) rfl rfl hK hP) hK hP hD hS hA hl.1 rfl (Nat.le_of_ble_eq_true rfl) dX4_readDivisor_12 (fun r6 S5 H locs h hP hD hS => ?_)
    refine lv_bipush (v := 48) hx hb dX4_readDivisor_15 (by decide) ?_
    refine lv_icmp_ne (tgt := 29) hx hb dX4_readDivisor_17 (by decide) (fun c17 => ?_) (fun c17 => ?_)
    · have h := h.1 c17
      refine lv_aload_n hx hb dX4_readDivisor_29 rfl (lv_at hl 0 rfl) ?_
      refine cs_get 6 3 2 (v := .ref (ad 2)) (ref := "BracketLetters$Reader") fx (by decide) rfl rfl in_X4_readDivisor_X4 (by decide) rfl (by decide +kernel) rfl hK hP dX4_readDivisor_30 ?_
      refine lv_aload_n hx hb dX4_readDivisor_33 rfl (lv_at hl 0 rfl) ?_
      refine lv_iload_n hx hb dX4_readDivisor_34 rfl (lv_at hl 1 rfl) ?_
      refine xr_vR (n := 1) (As := [.int a1]) (rest := [.ref (ad 2)]) fx (ct_X4_termOf l D ad cI cJ cR Ln h) gX4_readDivisor_X4_termOf rfl rfl (by decide +kernel) ⟨Nat.le_of_ble_eq_true rfl, Nat.le_of_ble_eq_true rfl⟩ ⟨rfl, rfl⟩ hf (cs_recv 6 3 (by decide) rfl rfl hK hP) hK hP hD hS hA hl.1 rfl (Nat.le_of_ble_eq_true rfl) dX4_readDivisor_35 (fun r8 S7 H locs h hP hD hS => ?_)
      refine lv_aload_n hx hb dX4_readDivisor_38 rfl (lv_at hl 0 rfl) ?_
      refine xr_vI (n := 0) (As := []) (rest := [.ref (ad (9 + r8)), .ref (ad 2)]) fx (ct_X4_readNumber l D ad cI cJ cR Ln h) gX4_readDivisor_X4_readNumber rfl rfl (by decide +kernel) ⟨Nat.le_of_ble_eq_true rfl, Nat.le_of_ble_eq_true rfl⟩ ⟨rfl, rfl⟩ hf (cs_recv 6 3 (by decide) rfl rfl hK hP) hK hP hD hS hA hl.1 rfl (Nat.le_of_ble_eq_true rfl) dX4_readDivisor_39 (fun r10 S9 H locs h hP hD hS => ?_)
      refine xr_sI (n := 1) (As := [.int r10]) (rest := [.ref (ad (9 + r8)), .ref (ad 2)]) fx (ct_X3_reciprocal l h) gX4_readDivisor_X3_reciprocal rfl rfl (by decide +kernel) ⟨Nat.le_of_ble_eq_true rfl, Nat.le_of_ble_eq_true rfl⟩ ⟨rfl, rfl⟩ hf hl.1 rfl (Nat.le_of_ble_eq_true rfl) dX4_readDivisor_42 (fun r11 h => ?_)
      refine xr_vV (n := 2) (As := [.ref (ad (9 + r8)), .int r11]) (rest := []) fx (ct_X0_scale l D ad cI cJ cR Ln h) gX4_readDivisor_X0_scale rfl rfl (by decide +kernel) ⟨Nat.le_of_ble_eq_true rfl, Nat.le_of_ble_eq_true rfl⟩ ⟨rfl, rfl⟩ hf (cs_recv 2 0 (by decide) rfl rfl hK hP) hK hP hD hS hA hl.1 rfl (Nat.le_of_ble_eq_true rfl) dX4_readDivisor_45 (fun S12 H locs h hP hD hS => ?_)
      exact xr_rV fx hK hP hD hS h dX4_readDivisor_48
    · have h := h.2 c17
      refine lv_aload_n hx hb dX4_readDivisor_20 rfl (lv_at hl 0 rfl) ?_
      refine lv_aload_n hx hb dX4_readDivisor_21 rfl (lv_at hl 0 rfl) ?_
      refine cs_get 6 3 6 (v := .int (S5.1 6)) (ref := "BracketLetters$Reader") fx (by decide) rfl rfl in_X4_readDivisor_X4 (by decide) rfl (by decide +kernel) rfl hK hP dX4_readDivisor_22 ?_
      refine cs_put 6 3 7 7 (ref := "BracketLetters$Reader") (ty := .int) tyX4 tyX4_ok nmX4 fx (by decide) rfl rfl in_X4_readDivisor_X4 (by decide) (Nat.le_of_ble_eq_true rfl) cs_f6_7 (by decide +kernel) rfl rfl (by decide +kernel) rfl rfl hK hP hD hS dX4_readDivisor_25 (fun H locs hP hD hS => ?_)
      exact xr_rV fx hK hP hD hS h dX4_readDivisor_28
abbrev rm_X6_all : Room := { frames := 0, cells := 0, slots := 0, locals := 0 }
theorem in_X6_all_X6 : ∀ w ∈ wsX60, w ∈ wsX6_all := by decide +kernel
set_option maxHeartbeats 4000000 in
set_option maxRecDepth 100000 in
theorem ct_X6_all (l : Launch) (D : va_G) (ad : Nat → Nat) (cI cJ cR : ClassId) (Ln : Nat → Nat) {S : cs_T} {Q : Int32 → cs_T → Prop} (h : wp_X6_all Ln S Q) : xr_I l D (cs_ty cI cJ cR) (cs_w ad cI cR Ln) yX6_all wsX6_all rm_X6_all [.ref (ad 1)] S Q := by
  refine xr_eI (cc := cX6_all) (nL := 1) (ret := (some .int)) (own := RX6) (by decide) rfl rfl (Nat.le_of_ble_eq_true rfl) ?_
  intro p e s m args below meth c ls A fx hK hA hP hD hS hl
  have hl : lv_has ls 1 [(0, .ref (ad 1))] := hl
  show W p l e rm_X6_all s m args below meth c s.heap [] 0 0 _ _
  obtain ⟨⟨hx, hb, hml, hown, hts⟩, hrt, hlk⟩ := id fx
  have hf : 0 ≤ rm_X6_all.cells ∧ 0 ≤ rm_X6_all.slots := ⟨Nat.zero_le _, Nat.zero_le _⟩
  unfold wp_X6_all at h
  refine lv_aload_n hx hb dX6_all_0 rfl (lv_at hl 0 rfl) ?_
  refine cs_get 1 5 3 (v := .ref (ad (9 + 1))) (ref := "BracketLetters$Words") fx (by decide) rfl rfl in_X6_all_X6 (by decide) rfl (by decide +kernel) rfl hK hP dX6_all_1 ?_
  refine lv_aload_n hx hb dX6_all_4 rfl (lv_at hl 0 rfl) ?_
  refine cs_get 1 5 1 (v := .int (S.1 3)) (ref := "BracketLetters$Words") fx (by decide) rfl rfl in_X6_all_X6 (by decide) rfl (by decide +kernel) rfl hK hP dX6_all_5 ?_
  refine lv_iconst (v := 1) hx hb dX6_all_8 (by decide) ?_
  refine lv_iadd hx hb dX6_all_9 ?_
  obtain ⟨hi1, h⟩ := h
  refine cs_iald 1 (by decide) fx hK hP hi1 dX6_all_10 ?_
  exact xr_rI fx hK hP hD hS h dX6_all_11
abbrev rm_X7_count : Room := { frames := 1, cells := 0, slots := 0, locals := 20 }
theorem in_X7_count_X7 : ∀ w ∈ wsX70, w ∈ wsX7_count := by decide +kernel
theorem in_X7_count_X2 : ∀ w ∈ wsX20, w ∈ wsX7_count := by decide +kernel
theorem in_X7_count_X4 : ∀ w ∈ wsX40, w ∈ wsX7_count := by decide +kernel
theorem in_X7_count_X5 : ∀ w ∈ wsX50, w ∈ wsX7_count := by decide +kernel
theorem in_X7_count_X6 : ∀ w ∈ wsX60, w ∈ wsX7_count := by decide +kernel
set_option maxHeartbeats 4000000 in
set_option maxRecDepth 100000 in
theorem ct_X7_count (l : Launch) (D : va_G) (ad : Nat → Nat) (cI cJ cR : ClassId) (Ln : Nat → Nat) {S : cs_T} {a1 : Int32} {Q : Int32 → cs_T → Prop} (h : wp_X7_count Ln S a1 Q) : xr_I l D (cs_ty cI cJ cR) (cs_w ad cI cR Ln) yX7_count wsX7_count rm_X7_count [.ref (ad 0), .int a1] S Q := by
  refine xr_eI (cc := cX7_count) (nL := 2) (ret := (some .int)) (own := RX7) (by decide) rfl rfl (Nat.le_of_ble_eq_true rfl) ?_
  intro p e s m args below meth c ls A fx hK hA hP hD hS hl
  have hl : lv_has ls 2 [(0, .ref (ad 0)), (1, .int a1)] := hl
  show W p l e rm_X7_count s m args below meth c s.heap [] 0 0 _ _
  obtain ⟨⟨hx, hb, hml, hown, hts⟩, hrt, hlk⟩ := id fx
  have hf : 0 ≤ rm_X7_count.cells ∧ 0 ≤ rm_X7_count.slots := ⟨Nat.zero_le _, Nat.zero_le _⟩
  unfold wp_X7_count at h
  refine lv_iload_n hx hb dX7_count_0 rfl (lv_at hl 1 rfl) ?_
  by_cases c1_0 : a1 = 0
  · have h := h.1 c1_0
    refine lv_tableIn (off := 43) (tgt := 44) hx hb dX7_count_1 (by rw [c1_0]; decide) (by rw [c1_0]; decide) (by rw [c1_0]; decide) (by decide) ?_
    refine lv_aload_n hx hb dX7_count_44 rfl (lv_at hl 0 rfl) ?_
    refine cs_get 0 6 0 (v := .ref (ad 1)) (ref := "BracketLetters") fx (by decide) rfl rfl in_X7_count_X7 (by decide) rfl (by decide +kernel) rfl hK hP dX7_count_45 ?_
    refine cs_get 1 5 0 (v := .int (S.1 2)) (ref := "BracketLetters$Words") fx (by decide) rfl rfl in_X7_count_X6 (by decide) rfl (by decide +kernel) rfl hK hP dX7_count_48 ?_
    exact xr_rI fx hK hP hD hS h dX7_count_51
  have h := h.2
  by_cases c1_1 : a1 = 1
  · have h := h.1 c1_1
    refine lv_tableIn (off := 51) (tgt := 52) hx hb dX7_count_1 (by rw [c1_1]; decide) (by rw [c1_1]; decide) (by rw [c1_1]; decide) (by decide) ?_
    refine lv_aload_n hx hb dX7_count_52 rfl (lv_at hl 0 rfl) ?_
    refine cs_get 0 6 0 (v := .ref (ad 1)) (ref := "BracketLetters") fx (by decide) rfl rfl in_X7_count_X7 (by decide) rfl (by decide +kernel) rfl hK hP dX7_count_53 ?_
    refine cs_get 1 5 1 (v := .int (S.1 3)) (ref := "BracketLetters$Words") fx (by decide) rfl rfl in_X7_count_X6 (by decide) rfl (by decide +kernel) rfl hK hP dX7_count_56 ?_
    exact xr_rI fx hK hP hD hS h dX7_count_59
  have h := h.2
  by_cases c1_2 : a1 = 2
  · have h := h.1 c1_2
    refine lv_tableIn (off := 59) (tgt := 60) hx hb dX7_count_1 (by rw [c1_2]; decide) (by rw [c1_2]; decide) (by rw [c1_2]; decide) (by decide) ?_
    refine lv_aload_n hx hb dX7_count_60 rfl (lv_at hl 0 rfl) ?_
    refine cs_get 0 6 0 (v := .ref (ad 1)) (ref := "BracketLetters") fx (by decide) rfl rfl in_X7_count_X7 (by decide) rfl (by decide +kernel) rfl hK hP dX7_count_61 ?_
    refine xr_vI (n := 0) (As := []) (rest := []) fx (ct_X6_all l D ad cI cJ cR Ln h) gX7_count_X6_all rfl rfl (by decide +kernel) ⟨Nat.le_of_ble_eq_true rfl, Nat.le_of_ble_eq_true rfl⟩ ⟨rfl, rfl⟩ hf (cs_recv 1 5 (by decide) rfl rfl hK hP) hK hP hD hS hA hl.1 rfl (Nat.le_of_ble_eq_true rfl) dX7_count_64 (fun r2 S1 H locs h hP hD hS => ?_)
    exact xr_rI fx hK hP hD hS h dX7_count_67
  have h := h.2
  by_cases c1_3 : a1 = 3
  · have h := h.1 c1_3
    refine lv_tableIn (off := 67) (tgt := 68) hx hb dX7_count_1 (by rw [c1_3]; decide) (by rw [c1_3]; decide) (by rw [c1_3]; decide) (by decide) ?_
    refine lv_aload_n hx hb dX7_count_68 rfl (lv_at hl 0 rfl) ?_
    refine cs_get 0 6 3 (v := .ref (ad 3)) (ref := "BracketLetters") fx (by decide) rfl rfl in_X7_count_X7 (by decide) rfl (by decide +kernel) rfl hK hP dX7_count_69 ?_
    refine xr_vI (n := 0) (As := []) (rest := []) fx (ct_X1_all l D ad cI cJ cR Ln h) gX7_count_X1_all rfl rfl (by decide +kernel) ⟨Nat.le_of_ble_eq_true rfl, Nat.le_of_ble_eq_true rfl⟩ ⟨rfl, rfl⟩ hf (cs_recv 3 1 (by decide) rfl rfl hK hP) hK hP hD hS hA hl.1 rfl (Nat.le_of_ble_eq_true rfl) dX7_count_72 (fun r4 S3 H locs h hP hD hS => ?_)
    exact xr_rI fx hK hP hD hS h dX7_count_75
  have h := h.2
  by_cases c1_4 : a1 = 4
  · have h := h.1 c1_4
    refine lv_tableIn (off := 75) (tgt := 76) hx hb dX7_count_1 (by rw [c1_4]; decide) (by rw [c1_4]; decide) (by rw [c1_4]; decide) (by decide) ?_
    refine lv_aload_n hx hb dX7_count_76 rfl (lv_at hl 0 rfl) ?_
    refine cs_get 0 6 4 (v := .ref (ad 4)) (ref := "BracketLetters") fx (by decide) rfl rfl in_X7_count_X7 (by decide) rfl (by decide +kernel) rfl hK hP dX7_count_77 ?_
    refine cs_get 4 4 0 (v := .int (S.1 9)) (ref := "BracketLetters$Scheme") fx (by decide) rfl rfl in_X7_count_X5 (by decide) rfl (by decide +kernel) rfl hK hP dX7_count_80 ?_
    exact xr_rI fx hK hP hD hS h dX7_count_83
  have h := h.2
  by_cases c1_5 : a1 = 5
  · have h := h.1 c1_5
    refine lv_tableIn (off := 83) (tgt := 84) hx hb dX7_count_1 (by rw [c1_5]; decide) (by rw [c1_5]; decide) (by rw [c1_5]; decide) (by decide) ?_
    refine lv_aload_n hx hb dX7_count_84 rfl (lv_at hl 0 rfl) ?_
    refine cs_get 0 6 5 (v := .ref (ad 5)) (ref := "BracketLetters") fx (by decide) rfl rfl in_X7_count_X7 (by decide) rfl (by decide +kernel) rfl hK hP dX7_count_85 ?_
    refine cs_get 5 2 0 (v := .int (S.1 4)) (ref := "BracketLetters$Laws") fx (by decide) rfl rfl in_X7_count_X2 (by decide) rfl (by decide +kernel) rfl hK hP dX7_count_88 ?_
    exact xr_rI fx hK hP hD hS h dX7_count_91
  have h := h.2
  by_cases c1_6 : a1 = 6
  · have h := h.1 c1_6
    refine lv_tableIn (off := 91) (tgt := 92) hx hb dX7_count_1 (by rw [c1_6]; decide) (by rw [c1_6]; decide) (by rw [c1_6]; decide) (by decide) ?_
    refine lv_aload_n hx hb dX7_count_92 rfl (lv_at hl 0 rfl) ?_
    refine cs_get 0 6 6 (v := .ref (ad 6)) (ref := "BracketLetters") fx (by decide) rfl rfl in_X7_count_X7 (by decide) rfl (by decide +kernel) rfl hK hP dX7_count_93 ?_
    refine cs_get 6 3 0 (v := .int (S.1 5)) (ref := "BracketLetters$Reader") fx (by decide) rfl rfl in_X7_count_X4 (by decide) rfl (by decide +kernel) rfl hK hP dX7_count_96 ?_
    exact xr_rI fx hK hP hD hS h dX7_count_99
  have h := h.2
  have h := h ⟨c1_0, c1_1, c1_2, c1_3, c1_4, c1_5, c1_6⟩
  have c1_0 := xr_ne c1_0
  have c1_1 := xr_ne c1_1
  have c1_2 := xr_ne c1_2
  have c1_3 := xr_ne c1_3
  have c1_4 := xr_ne c1_4
  have c1_5 := xr_ne c1_5
  have c1_6 := xr_ne c1_6
  refine lv_tableOut (tgt := 100) hx hb dX7_count_1 (by rw [show (0 : Int32).toInt = 0 from by decide] at c1_0; rw [show (1 : Int32).toInt = 1 from by decide] at c1_1; rw [show (2 : Int32).toInt = 2 from by decide] at c1_2; rw [show (3 : Int32).toInt = 3 from by decide] at c1_3; rw [show (4 : Int32).toInt = 4 from by decide] at c1_4; rw [show (5 : Int32).toInt = 5 from by decide] at c1_5; rw [show (6 : Int32).toInt = 6 from by decide] at c1_6; omega) (by decide) ?_
  refine lv_iconst (v := (-1)) hx hb dX7_count_100 (by decide) ?_
  exact xr_rI fx hK hP hD hS h dX7_count_101
abbrev rm_X1_findChiefs : Room := { frames := 1, cells := 0, slots := 0, locals := 24 }
theorem in_X1_findChiefs_X1 : ∀ w ∈ wsX10, w ∈ wsX1_findChiefs := by decide +kernel
theorem in_X1_findChiefs_X6 : ∀ w ∈ wsX60, w ∈ wsX1_findChiefs := by decide +kernel
set_option maxHeartbeats 4000000 in
set_option maxRecDepth 100000 in
theorem kw_X1_findChiefs_96 {p : Program} {l : Launch} {e : Env} {s : State} {m : MethodId} {args : Array Value} {below : List Frame} {meth : Method} {c : Code} {D : va_G} {ad : Nat → Nat} {cI cJ cR : ClassId} {Ln : Nat → Nat} {A : Nat → Prop} {K9 : cs_T → Nat → Nat → Int32 → Int32 → Prop} {K41 : cs_T → Nat → Nat → Int32 → Int32 → Int32 → Prop} {Q : Int32 → cs_T → Prop} {S : cs_T} {v1 : Nat} {v2 : Nat} {v3 : Int32} {v4 : Int32} {v5 : Int32} (fx : xr_Fx p m c meth cX1_findChiefs 6 s args wsX1_findChiefs RX1 (some .int)) (hK : xr_K D (cs_ty cI cJ cR) s) (hA : ∀ q, s.heap.size ≤ q → A q)  (k9 : ∀ (S : cs_T) (v1 : Nat) (v2 : Nat) (v3 : Int32) (v4 : Int32) {H : Heap} {locs : List Loc} {ls : Array Slot}, va_P D vwCl (cs_w ad cI cR Ln S) H → va_D A (cs_w ad cI cR Ln S) → va_S A s.heap H locs → lv_has ls 6 [(0, .ref (ad 3)), (1, .ref (ad (9 + v1))), (2, .ref (ad (9 + v2))), (3, .int v3), (4, .int v4)] → K9 S v1 v2 v3 v4 → W p l e rm_X1_findChiefs s m args below meth c H locs 0 0 (MQ below (va_Qi Q (xr_B D (cs_ty cI cJ cR) (cs_w ad cI cR Ln) A) A) args s 0 0 A) (F0 m 9 ls [])) (k41 : ∀ (S : cs_T) (v1 : Nat) (v2 : Nat) (v3 : Int32) (v4 : Int32) (v5 : Int32) {H : Heap} {locs : List Loc} {ls : Array Slot}, va_P D vwCl (cs_w ad cI cR Ln S) H → va_D A (cs_w ad cI cR Ln S) → va_S A s.heap H locs → lv_has ls 6 [(0, .ref (ad 3)), (1, .ref (ad (9 + v1))), (2, .ref (ad (9 + v2))), (3, .int v3), (4, .int v4), (5, .int v5)] → K41 S v1 v2 v3 v4 v5 → W p l e rm_X1_findChiefs s m args below meth c H locs 0 0 (MQ below (va_Qi Q (xr_B D (cs_ty cI cJ cR) (cs_w ad cI cR Ln) A) A) args s 0 0 A) (F0 m 41 ls [])) {H : Heap} {locs : List Loc} {ls : Array Slot} (hP : va_P D vwCl (cs_w ad cI cR Ln S) H) (hD : va_D A (cs_w ad cI cR Ln S)) (hS : va_S A s.heap H locs) (hl : lv_has ls 6 [(0, .ref (ad 3)), (1, .ref (ad (9 + v1))), (2, .ref (ad (9 + v2))), (3, .int v3), (4, .int v4), (5, .int v5)]) (h : wp_X1_findChiefs_96 Ln K9 K41 Q S v1 v2 v3 v4 v5) : W p l e rm_X1_findChiefs s m args below meth c H locs 0 0 (MQ below (va_Qi Q (xr_B D (cs_ty cI cJ cR) (cs_w ad cI cR Ln) A) A) args s 0 0 A) (F0 m 96 ls []) := by
  obtain ⟨⟨hx, hb, hml, hown, hts⟩, hrt, hlk⟩ := id fx
  have hf : 0 ≤ rm_X1_findChiefs.cells ∧ 0 ≤ rm_X1_findChiefs.slots := ⟨Nat.zero_le _, Nat.zero_le _⟩
  unfold wp_X1_findChiefs_96 at h
  obtain ⟨v5_1, ev5_1⟩ : ∃ z : Int32, z = v5 + 1 := ⟨_, rfl⟩
  have h := h v5_1 ev5_1
  refine lv_iinc (v := v5_1) (lv' := [(5, .int v5_1), (0, .ref (ad 3)), (1, .ref (ad (9 + v1))), (2, .ref (ad (9 + v2))), (3, .int v3), (4, .int v4)]) hx hb dX1_findChiefs_96 hl (k := 5) rfl (by rw [ev5_1]; rfl) (by decide) rfl (fun ls hl => ?_)
  refine lv_goto (tgt := 41) hx hb dX1_findChiefs_99 (by decide) ?_
  exact k41 _ _ _ _ _ _ hP hD hS (lv_sub hl [1, 2, 3, 4, 5, 0] rfl) h
set_option maxHeartbeats 4000000 in
set_option maxRecDepth 100000 in
theorem kb_X1_findChiefs_41 {p : Program} {l : Launch} {e : Env} {s : State} {m : MethodId} {args : Array Value} {below : List Frame} {meth : Method} {c : Code} {D : va_G} {ad : Nat → Nat} {cI cJ cR : ClassId} {Ln : Nat → Nat} {A : Nat → Prop} {K9 : cs_T → Nat → Nat → Int32 → Int32 → Prop} {K41 : cs_T → Nat → Nat → Int32 → Int32 → Int32 → Prop} {Q : Int32 → cs_T → Prop} {S : cs_T} {v1 : Nat} {v2 : Nat} {v3 : Int32} {v4 : Int32} {v5 : Int32} (fx : xr_Fx p m c meth cX1_findChiefs 6 s args wsX1_findChiefs RX1 (some .int)) (hK : xr_K D (cs_ty cI cJ cR) s) (hA : ∀ q, s.heap.size ≤ q → A q)  (k9 : ∀ (S : cs_T) (v1 : Nat) (v2 : Nat) (v3 : Int32) (v4 : Int32) {H : Heap} {locs : List Loc} {ls : Array Slot}, va_P D vwCl (cs_w ad cI cR Ln S) H → va_D A (cs_w ad cI cR Ln S) → va_S A s.heap H locs → lv_has ls 6 [(0, .ref (ad 3)), (1, .ref (ad (9 + v1))), (2, .ref (ad (9 + v2))), (3, .int v3), (4, .int v4)] → K9 S v1 v2 v3 v4 → W p l e rm_X1_findChiefs s m args below meth c H locs 0 0 (MQ below (va_Qi Q (xr_B D (cs_ty cI cJ cR) (cs_w ad cI cR Ln) A) A) args s 0 0 A) (F0 m 9 ls [])) (k41 : ∀ (S : cs_T) (v1 : Nat) (v2 : Nat) (v3 : Int32) (v4 : Int32) (v5 : Int32) {H : Heap} {locs : List Loc} {ls : Array Slot}, va_P D vwCl (cs_w ad cI cR Ln S) H → va_D A (cs_w ad cI cR Ln S) → va_S A s.heap H locs → lv_has ls 6 [(0, .ref (ad 3)), (1, .ref (ad (9 + v1))), (2, .ref (ad (9 + v2))), (3, .int v3), (4, .int v4), (5, .int v5)] → K41 S v1 v2 v3 v4 v5 → W p l e rm_X1_findChiefs s m args below meth c H locs 0 0 (MQ below (va_Qi Q (xr_B D (cs_ty cI cJ cR) (cs_w ad cI cR Ln) A) A) args s 0 0 A) (F0 m 41 ls [])) {H : Heap} {locs : List Loc} {ls : Array Slot} (hP : va_P D vwCl (cs_w ad cI cR Ln S) H) (hD : va_D A (cs_w ad cI cR Ln S)) (hS : va_S A s.heap H locs) (hl : lv_has ls 6 [(0, .ref (ad 3)), (1, .ref (ad (9 + v1))), (2, .ref (ad (9 + v2))), (3, .int v3), (4, .int v4), (5, .int v5)]) (h : wb_X1_findChiefs_41 Ln K9 K41 Q S v1 v2 v3 v4 v5) : W p l e rm_X1_findChiefs s m args below meth c H locs 0 0 (MQ below (va_Qi Q (xr_B D (cs_ty cI cJ cR) (cs_w ad cI cR Ln) A) A) args s 0 0 A) (F0 m 41 ls []) := by
  obtain ⟨⟨hx, hb, hml, hown, hts⟩, hrt, hlk⟩ := id fx
  have hf : 0 ≤ rm_X1_findChiefs.cells ∧ 0 ≤ rm_X1_findChiefs.slots := ⟨Nat.zero_le _, Nat.zero_le _⟩
  unfold wb_X1_findChiefs_41 at h
  refine lv_iload hx hb dX1_findChiefs_41 (lv_at hl 5 rfl) ?_
  refine lv_aload_n hx hb dX1_findChiefs_43 rfl (lv_at hl 0 rfl) ?_
  refine cs_get 3 1 4 (v := .ref (ad 1)) (ref := "BracketLetters$Chiefs") fx (by decide) rfl rfl in_X1_findChiefs_X1 (by decide) rfl (by decide +kernel) rfl hK hP dX1_findChiefs_44 ?_
  refine cs_get 1 5 3 (v := .ref (ad (9 + 1))) (ref := "BracketLetters$Words") fx (by decide) rfl rfl in_X1_findChiefs_X6 (by decide) rfl (by decide +kernel) rfl hK hP dX1_findChiefs_47 ?_
  refine lv_iload hx hb dX1_findChiefs_50 (lv_at hl 4 rfl) ?_
  refine lv_iconst (v := 1) hx hb dX1_findChiefs_52 (by decide) ?_
  refine lv_iadd hx hb dX1_findChiefs_53 ?_
  obtain ⟨hi2, h⟩ := h
  refine cs_iald 1 (by decide) fx hK hP hi2 dX1_findChiefs_54 ?_
  refine lv_icmp_ge (tgt := 102) hx hb dX1_findChiefs_55 (by decide) (fun c55 => ?_) (fun c55 => ?_)
  · have h := h.1 c55
    obtain ⟨v4_3, ev4_3⟩ : ∃ z : Int32, z = v4 + 1 := ⟨_, rfl⟩
    have h := h v4_3 ev4_3
    refine lv_iinc (v := v4_3) (lv' := [(4, .int v4_3), (0, .ref (ad 3)), (1, .ref (ad (9 + v1))), (2, .ref (ad (9 + v2))), (3, .int v3), (5, .int v5)]) hx hb dX1_findChiefs_102 hl (k := 4) rfl (by rw [ev4_3]; rfl) (by decide) rfl (fun ls hl => ?_)
    refine lv_goto (tgt := 9) hx hb dX1_findChiefs_105 (by decide) ?_
    exact k9 _ _ _ _ _ hP hD hS (lv_sub hl [1, 2, 3, 4, 0] rfl) h
  · have h := h.2 c55
    refine lv_aload_n hx hb dX1_findChiefs_58 rfl (lv_at hl 0 rfl) ?_
    refine lv_iload hx hb dX1_findChiefs_59 (lv_at hl 5 rfl) ?_
    refine lv_iload hx hb dX1_findChiefs_61 (lv_at hl 4 rfl) ?_
    refine xr_vV (n := 2) (As := [.int v5, .int v4]) (rest := []) fx (ct_X1_spell l D ad cI cJ cR Ln h) gX1_findChiefs_X1_spell rfl rfl (by decide +kernel) ⟨Nat.le_of_ble_eq_true rfl, Nat.le_of_ble_eq_true rfl⟩ ⟨rfl, rfl⟩ hf (cs_recv 3 1 (by decide) rfl rfl hK hP) hK hP hD hS hA hl.1 rfl (Nat.le_of_ble_eq_true rfl) dX1_findChiefs_63 (fun S4 H locs h hP hD hS => ?_)
    refine lv_aload_n hx hb dX1_findChiefs_66 rfl (lv_at hl 2 rfl) ?_
    refine lv_iload hx hb dX1_findChiefs_67 (lv_at hl 5 rfl) ?_
    refine lv_iconst (v := (-1)) hx hb dX1_findChiefs_69 (by decide) ?_
    obtain ⟨hk6, h⟩ := h
    obtain ⟨hi5, h⟩ := h
    refine cs_iast v2 hk6 fx hK hP hD hS hi5 dX1_findChiefs_70 (fun H locs hP hD hS => ?_)
    refine lv_aload_n hx hb dX1_findChiefs_71 rfl (lv_at hl 0 rfl) ?_
    refine lv_iconst (v := 0) hx hb dX1_findChiefs_72 (by decide) ?_
    refine lv_iload hx hb dX1_findChiefs_73 (lv_at hl 4 rfl) ?_
    refine xr_vI (n := 2) (As := [.int 0, .int v4]) (rest := []) fx (ct_X1_headLength l D ad cI cJ cR Ln h) gX1_findChiefs_X1_headLength rfl rfl (by decide +kernel) ⟨Nat.le_of_ble_eq_true rfl, Nat.le_of_ble_eq_true rfl⟩ ⟨rfl, rfl⟩ hf (cs_recv 3 1 (by decide) rfl rfl hK hP) hK hP hD hS hA hl.1 rfl (Nat.le_of_ble_eq_true rfl) dX1_findChiefs_75 (fun r8 S7 H locs h hP hD hS => ?_)
    refine lv_iload hx hb dX1_findChiefs_78 (lv_at hl 4 rfl) ?_
    refine lv_icmp_ne (tgt := 96) hx hb dX1_findChiefs_80 (by decide) (fun c80 => ?_) (fun c80 => ?_)
    · have h := h.1 c80
      exact kw_X1_findChiefs_96 fx hK hA k9 k41 hP hD hS (lv_sub hl [0, 1, 2, 3, 4, 5] rfl) h
    · have h := h.2 c80
      refine lv_aload_n hx hb dX1_findChiefs_83 rfl (lv_at hl 1 rfl) ?_
      refine lv_iload_n hx hb dX1_findChiefs_84 rfl (lv_at hl 3 rfl) ?_
      refine lv_iload hx hb dX1_findChiefs_85 (lv_at hl 5 rfl) ?_
      obtain ⟨hk10, h⟩ := h
      obtain ⟨hi9, h⟩ := h
      refine cs_iast v1 hk10 fx hK hP hD hS hi9 dX1_findChiefs_87 (fun H locs hP hD hS => ?_)
      refine lv_aload_n hx hb dX1_findChiefs_88 rfl (lv_at hl 2 rfl) ?_
      refine lv_iload hx hb dX1_findChiefs_89 (lv_at hl 5 rfl) ?_
      refine lv_iload_n hx hb dX1_findChiefs_91 rfl (lv_at hl 3 rfl) ?_
      obtain ⟨hi11, h⟩ := h
      refine cs_iast v2 hk6 fx hK hP hD hS hi11 dX1_findChiefs_92 (fun H locs hP hD hS => ?_)
      obtain ⟨v3_12, ev3_12⟩ : ∃ z : Int32, z = v3 + 1 := ⟨_, rfl⟩
      have h := h v3_12 ev3_12
      refine lv_iinc (v := v3_12) (lv' := [(3, .int v3_12), (0, .ref (ad 3)), (1, .ref (ad (9 + v1))), (2, .ref (ad (9 + v2))), (4, .int v4), (5, .int v5)]) hx hb dX1_findChiefs_93 hl (k := 3) rfl (by rw [ev3_12]; rfl) (by decide) rfl (fun ls hl => ?_)
      exact kw_X1_findChiefs_96 fx hK hA k9 k41 hP hD hS (lv_sub hl [1, 2, 3, 0, 4, 5] rfl) h
theorem kw_X1_findChiefs_41 {p : Program} {l : Launch} {e : Env} {s : State} {m : MethodId} {args : Array Value} {below : List Frame} {meth : Method} {c : Code} {D : va_G} {ad : Nat → Nat} {cI cJ cR : ClassId} {Ln : Nat → Nat} {A : Nat → Prop} {K9 : cs_T → Nat → Nat → Int32 → Int32 → Prop} {Q : Int32 → cs_T → Prop} (fx : xr_Fx p m c meth cX1_findChiefs 6 s args wsX1_findChiefs RX1 (some .int)) (hK : xr_K D (cs_ty cI cJ cR) s) (hA : ∀ q, s.heap.size ≤ q → A q)  (k9 : ∀ (S : cs_T) (v1 : Nat) (v2 : Nat) (v3 : Int32) (v4 : Int32) {H : Heap} {locs : List Loc} {ls : Array Slot}, va_P D vwCl (cs_w ad cI cR Ln S) H → va_D A (cs_w ad cI cR Ln S) → va_S A s.heap H locs → lv_has ls 6 [(0, .ref (ad 3)), (1, .ref (ad (9 + v1))), (2, .ref (ad (9 + v2))), (3, .int v3), (4, .int v4)] → K9 S v1 v2 v3 v4 → W p l e rm_X1_findChiefs s m args below meth c H locs 0 0 (MQ below (va_Qi Q (xr_B D (cs_ty cI cJ cR) (cs_w ad cI cR Ln) A) A) args s 0 0 A) (F0 m 9 ls [])) : ∀ (n : Nat) (S : cs_T) (v1 : Nat) (v2 : Nat) (v3 : Int32) (v4 : Int32) (v5 : Int32) {H : Heap} {locs : List Loc} {ls : Array Slot}, va_P D vwCl (cs_w ad cI cR Ln S) H → va_D A (cs_w ad cI cR Ln S) → va_S A s.heap H locs → lv_has ls 6 [(0, .ref (ad 3)), (1, .ref (ad (9 + v1))), (2, .ref (ad (9 + v2))), (3, .int v3), (4, .int v4), (5, .int v5)] → wp_X1_findChiefs_41 Ln K9 Q n S v1 v2 v3 v4 v5 → W p l e rm_X1_findChiefs s m args below meth c H locs 0 0 (MQ below (va_Qi Q (xr_B D (cs_ty cI cJ cR) (cs_w ad cI cR Ln) A) A) args s 0 0 A) (F0 m 41 ls []) := by
  intro n
  induction n with
  | zero => intro S v1 v2 v3 v4 v5 H locs ls hP hD hS hl h; exact False.elim h
  | succ n ih => intro S v1 v2 v3 v4 v5 H locs ls hP hD hS hl h; exact kb_X1_findChiefs_41 fx hK hA k9 ih hP hD hS hl h
set_option maxHeartbeats 4000000 in
set_option maxRecDepth 100000 in
theorem kb_X1_findChiefs_9 {p : Program} {l : Launch} {e : Env} {s : State} {m : MethodId} {args : Array Value} {below : List Frame} {meth : Method} {c : Code} {D : va_G} {ad : Nat → Nat} {cI cJ cR : ClassId} {Ln : Nat → Nat} {A : Nat → Prop}  {K9 : cs_T → Nat → Nat → Int32 → Int32 → Prop} {Q : Int32 → cs_T → Prop} {S : cs_T} {v1 : Nat} {v2 : Nat} {v3 : Int32} {v4 : Int32} (fx : xr_Fx p m c meth cX1_findChiefs 6 s args wsX1_findChiefs RX1 (some .int)) (hK : xr_K D (cs_ty cI cJ cR) s) (hA : ∀ q, s.heap.size ≤ q → A q)   (k9 : ∀ (S : cs_T) (v1 : Nat) (v2 : Nat) (v3 : Int32) (v4 : Int32) {H : Heap} {locs : List Loc} {ls : Array Slot}, va_P D vwCl (cs_w ad cI cR Ln S) H → va_D A (cs_w ad cI cR Ln S) → va_S A s.heap H locs → lv_has ls 6 [(0, .ref (ad 3)), (1, .ref (ad (9 + v1))), (2, .ref (ad (9 + v2))), (3, .int v3), (4, .int v4)] → K9 S v1 v2 v3 v4 → W p l e rm_X1_findChiefs s m args below meth c H locs 0 0 (MQ below (va_Qi Q (xr_B D (cs_ty cI cJ cR) (cs_w ad cI cR Ln) A) A) args s 0 0 A) (F0 m 9 ls [])) {H : Heap} {locs : List Loc} {ls : Array Slot} (hP : va_P D vwCl (cs_w ad cI cR Ln S) H) (hD : va_D A (cs_w ad cI cR Ln S)) (hS : va_S A s.heap H locs) (hl : lv_has ls 6 [(0, .ref (ad 3)), (1, .ref (ad (9 + v1))), (2, .ref (ad (9 + v2))), (3, .int v3), (4, .int v4)]) (h : wb_X1_findChiefs_9 Ln K9 Q S v1 v2 v3 v4) : W p l e rm_X1_findChiefs s m args below meth c H locs 0 0 (MQ below (va_Qi Q (xr_B D (cs_ty cI cJ cR) (cs_w ad cI cR Ln) A) A) args s 0 0 A) (F0 m 9 ls []) := by
  obtain ⟨⟨hx, hb, hml, hown, hts⟩, hrt, hlk⟩ := id fx
  have hf : 0 ≤ rm_X1_findChiefs.cells ∧ 0 ≤ rm_X1_findChiefs.slots := ⟨Nat.zero_le _, Nat.zero_le _⟩
  unfold wb_X1_findChiefs_9 at h
  refine lv_iload hx hb dX1_findChiefs_9 (lv_at hl 4 rfl) ?_
  refine lv_aload_n hx hb dX1_findChiefs_11 rfl (lv_at hl 0 rfl) ?_
  refine cs_get 3 1 4 (v := .ref (ad 1)) (ref := "BracketLetters$Chiefs") fx (by decide) rfl rfl in_X1_findChiefs_X1 (by decide) rfl (by decide +kernel) rfl hK hP dX1_findChiefs_12 ?_
  refine cs_get 1 5 1 (v := .int (S.1 3)) (ref := "BracketLetters$Words") fx (by decide) rfl rfl in_X1_findChiefs_X6 (by decide) rfl (by decide +kernel) rfl hK hP dX1_findChiefs_15 ?_
  refine lv_icmp_gt (tgt := 108) hx hb dX1_findChiefs_18 (by decide) (fun c18 => ?_) (fun c18 => ?_)
  · have h := h.1 c18
    refine lv_aload_n hx hb dX1_findChiefs_108 rfl (lv_at hl 0 rfl) ?_
    refine cs_get 3 1 3 (v := .ref (ad (9 + 36))) (ref := "BracketLetters$Chiefs") fx (by decide) rfl rfl in_X1_findChiefs_X1 (by decide) rfl (by decide +kernel) rfl hK hP dX1_findChiefs_109 ?_
    refine lv_aload_n hx hb dX1_findChiefs_112 rfl (lv_at hl 0 rfl) ?_
    refine cs_get 3 1 4 (v := .ref (ad 1)) (ref := "BracketLetters$Chiefs") fx (by decide) rfl rfl in_X1_findChiefs_X1 (by decide) rfl (by decide +kernel) rfl hK hP dX1_findChiefs_113 ?_
    refine cs_get 1 5 1 (v := .int (S.1 3)) (ref := "BracketLetters$Words") fx (by decide) rfl rfl in_X1_findChiefs_X6 (by decide) rfl (by decide +kernel) rfl hK hP dX1_findChiefs_116 ?_
    refine lv_iconst (v := 1) hx hb dX1_findChiefs_119 (by decide) ?_
    refine lv_iadd hx hb dX1_findChiefs_120 ?_
    refine lv_iload_n hx hb dX1_findChiefs_121 rfl (lv_at hl 3 rfl) ?_
    obtain ⟨hi13, h⟩ := h
    refine cs_iast 36 (by decide) fx hK hP hD hS hi13 dX1_findChiefs_122 (fun H locs hP hD hS => ?_)
    refine lv_iload_n hx hb dX1_findChiefs_123 rfl (lv_at hl 3 rfl) ?_
    exact xr_rI fx hK hP hD hS h dX1_findChiefs_124
  · have h := h.2 c18
    refine lv_aload_n hx hb dX1_findChiefs_21 rfl (lv_at hl 0 rfl) ?_
    refine cs_get 3 1 3 (v := .ref (ad (9 + 36))) (ref := "BracketLetters$Chiefs") fx (by decide) rfl rfl in_X1_findChiefs_X1 (by decide) rfl (by decide +kernel) rfl hK hP dX1_findChiefs_22 ?_
    refine lv_iload hx hb dX1_findChiefs_25 (lv_at hl 4 rfl) ?_
    refine lv_iload_n hx hb dX1_findChiefs_27 rfl (lv_at hl 3 rfl) ?_
    obtain ⟨hi14, h⟩ := h
    refine cs_iast 36 (by decide) fx hK hP hD hS hi14 dX1_findChiefs_28 (fun H locs hP hD hS => ?_)
    refine lv_aload_n hx hb dX1_findChiefs_29 rfl (lv_at hl 0 rfl) ?_
    refine cs_get 3 1 4 (v := .ref (ad 1)) (ref := "BracketLetters$Chiefs") fx (by decide) rfl rfl in_X1_findChiefs_X1 (by decide) rfl (by decide +kernel) rfl hK hP dX1_findChiefs_30 ?_
    refine cs_get 1 5 3 (v := .ref (ad (9 + 1))) (ref := "BracketLetters$Words") fx (by decide) rfl rfl in_X1_findChiefs_X6 (by decide) rfl (by decide +kernel) rfl hK hP dX1_findChiefs_33 ?_
    refine lv_iload hx hb dX1_findChiefs_36 (lv_at hl 4 rfl) ?_
    obtain ⟨hi15, h⟩ := h
    refine cs_iald 1 (by decide) fx hK hP hi15 dX1_findChiefs_38 ?_
    refine lv_topi (fun v5_16 ev5_16 => ?_)
    have h := h v5_16 ev5_16
    refine lv_istore (lv' := [(5, .int v5_16), (0, .ref (ad 3)), (1, .ref (ad (9 + v1))), (2, .ref (ad (9 + v2))), (3, .int v3), (4, .int v4)]) hx hb dX1_findChiefs_39 hl (by decide) rfl (fun ls hl => ?_)
    obtain ⟨n, h⟩ := h
    exact kw_X1_findChiefs_41 fx hK hA k9 n _ _ _ _ _ _ hP hD hS (lv_sub hl [1, 2, 3, 4, 5, 0] rfl) h
theorem kw_X1_findChiefs_9 {p : Program} {l : Launch} {e : Env} {s : State} {m : MethodId} {args : Array Value} {below : List Frame} {meth : Method} {c : Code} {D : va_G} {ad : Nat → Nat} {cI cJ cR : ClassId} {Ln : Nat → Nat} {A : Nat → Prop}  {Q : Int32 → cs_T → Prop} (fx : xr_Fx p m c meth cX1_findChiefs 6 s args wsX1_findChiefs RX1 (some .int)) (hK : xr_K D (cs_ty cI cJ cR) s) (hA : ∀ q, s.heap.size ≤ q → A q)   : ∀ (n : Nat) (S : cs_T) (v1 : Nat) (v2 : Nat) (v3 : Int32) (v4 : Int32) {H : Heap} {locs : List Loc} {ls : Array Slot}, va_P D vwCl (cs_w ad cI cR Ln S) H → va_D A (cs_w ad cI cR Ln S) → va_S A s.heap H locs → lv_has ls 6 [(0, .ref (ad 3)), (1, .ref (ad (9 + v1))), (2, .ref (ad (9 + v2))), (3, .int v3), (4, .int v4)] → wp_X1_findChiefs_9 Ln Q n S v1 v2 v3 v4 → W p l e rm_X1_findChiefs s m args below meth c H locs 0 0 (MQ below (va_Qi Q (xr_B D (cs_ty cI cJ cR) (cs_w ad cI cR Ln) A) A) args s 0 0 A) (F0 m 9 ls []) := by
  intro n
  induction n with
  | zero => intro S v1 v2 v3 v4 H locs ls hP hD hS hl h; exact False.elim h
  | succ n ih => intro S v1 v2 v3 v4 H locs ls hP hD hS hl h; exact kb_X1_findChiefs_9 fx hK hA ih hP hD hS hl h
set_option maxHeartbeats 4000000 in
set_option maxRecDepth 100000 in
theorem ct_X1_findChiefs (l : Launch) (D : va_G) (ad : Nat → Nat) (cI cJ cR : ClassId) (Ln : Nat → Nat) {S : cs_T} {a1 : Nat} {a2 : Nat} {Q : Int32 → cs_T → Prop} (h : wp_X1_findChiefs Ln S a1 a2 Q) : xr_I l D (cs_ty cI cJ cR) (cs_w ad cI cR Ln) yX1_findChiefs wsX1_findChiefs rm_X1_findChiefs [.ref (ad 3), .ref (ad (9 + a1)), .ref (ad (9 + a2))] S Q := by
  refine xr_eI (cc := cX1_findChiefs) (nL := 6) (ret := (some .int)) (own := RX1) (by decide) rfl rfl (Nat.le_of_ble_eq_true rfl) ?_
  intro p e s m args below meth c ls A fx hK hA hP hD hS hl
  have hl : lv_has ls 6 [(0, .ref (ad 3)), (1, .ref (ad (9 + a1))), (2, .ref (ad (9 + a2)))] := hl
  show W p l e rm_X1_findChiefs s m args below meth c s.heap [] 0 0 _ _
  obtain ⟨⟨hx, hb, hml, hown, hts⟩, hrt, hlk⟩ := id fx
  have hf : 0 ≤ rm_X1_findChiefs.cells ∧ 0 ≤ rm_X1_findChiefs.slots := ⟨Nat.zero_le _, Nat.zero_le _⟩
  unfold wp_X1_findChiefs at h
  refine lv_iconst (v := 0) hx hb dX1_findChiefs_0 (by decide) ?_
  refine lv_istore_n (lv' := [(3, .int 0), (0, .ref (ad 3)), (1, .ref (ad (9 + a1))), (2, .ref (ad (9 + a2)))]) hx hb dX1_findChiefs_1 rfl hl (by decide) rfl (fun ls hl => ?_)
  refine lv_aload_n hx hb dX1_findChiefs_2 rfl (lv_at hl 3 rfl) ?_
  refine lv_iconst (v := 0) hx hb dX1_findChiefs_3 (by decide) ?_
  refine lv_iconst (v := (-1)) hx hb dX1_findChiefs_4 (by decide) ?_
  obtain ⟨hk18, h⟩ := h
  obtain ⟨hi17, h⟩ := h
  refine cs_iast a2 hk18 fx hK hP hD hS hi17 dX1_findChiefs_5 (fun H locs hP hD hS => ?_)
  refine lv_iconst (v := 1) hx hb dX1_findChiefs_6 (by decide) ?_
  refine lv_istore (lv' := [(4, .int 1), (3, .int 0), (0, .ref (ad 3)), (1, .ref (ad (9 + a1))), (2, .ref (ad (9 + a2)))]) hx hb dX1_findChiefs_7 hl (by decide) rfl (fun ls hl => ?_)
  obtain ⟨n, h⟩ := h
  exact kw_X1_findChiefs_9 fx hK hA n _ _ _ _ _ hP hD hS (lv_sub hl [2, 3, 4, 1, 0] rfl) h
abbrev rm_X1_findSides : Room := { frames := 1, cells := 0, slots := 0, locals := 23 }
theorem in_X1_findSides_X1 : ∀ w ∈ wsX10, w ∈ wsX1_findSides := by decide +kernel
theorem in_X1_findSides_X6 : ∀ w ∈ wsX60, w ∈ wsX1_findSides := by decide +kernel
set_option maxHeartbeats 4000000 in
set_option maxRecDepth 100000 in
theorem kw_X1_findSides_143 {p : Program} {l : Launch} {e : Env} {s : State} {m : MethodId} {args : Array Value} {below : List Frame} {meth : Method} {c : Code} {D : va_G} {ad : Nat → Nat} {cI cJ cR : ClassId} {Ln : Nat → Nat} {A : Nat → Prop} {K51 : cs_T → Int32 → Nat → Int32 → Int32 → Int32 → Prop} {Q : cs_T → Prop} {S : cs_T} {v1 : Int32} {v2 : Nat} {v3 : Int32} {v4 : Int32} {v5 : Int32} (fx : xr_Fx p m c meth cX1_findSides 7 s args wsX1_findSides RX1 none) (hK : xr_K D (cs_ty cI cJ cR) s) (hA : ∀ q, s.heap.size ≤ q → A q)  (k51 : ∀ (S : cs_T) (v1 : Int32) (v2 : Nat) (v3 : Int32) (v4 : Int32) (v5 : Int32) {H : Heap} {locs : List Loc} {ls : Array Slot}, va_P D vwCl (cs_w ad cI cR Ln S) H → va_D A (cs_w ad cI cR Ln S) → va_S A s.heap H locs → lv_has ls 7 [(0, .ref (ad 3)), (1, .int v1), (2, .ref (ad (9 + v2))), (3, .int v3), (4, .int v4), (5, .int v5)] → K51 S v1 v2 v3 v4 v5 → W p l e rm_X1_findSides s m args below meth c H locs 0 0 (MQ below (va_Qv Q (xr_B D (cs_ty cI cJ cR) (cs_w ad cI cR Ln) A) A) args s 0 0 A) (F0 m 51 ls [])) {H : Heap} {locs : List Loc} {ls : Array Slot} (hP : va_P D vwCl (cs_w ad cI cR Ln S) H) (hD : va_D A (cs_w ad cI cR Ln S)) (hS : va_S A s.heap H locs) (hl : lv_has ls 7 [(0, .ref (ad 3)), (1, .int v1), (2, .ref (ad (9 + v2))), (3, .int v3), (4, .int v4), (5, .int v5)]) (h : wp_X1_findSides_143 Ln K51 Q S v1 v2 v3 v4 v5) : W p l e rm_X1_findSides s m args below meth c H locs 0 0 (MQ below (va_Qv Q (xr_B D (cs_ty cI cJ cR) (cs_w ad cI cR Ln) A) A) args s 0 0 A) (F0 m 143 ls []) := by
  obtain ⟨⟨hx, hb, hml, hown, hts⟩, hrt, hlk⟩ := id fx
  have hf : 0 ≤ rm_X1_findSides.cells ∧ 0 ≤ rm_X1_findSides.slots := ⟨Nat.zero_le _, Nat.zero_le _⟩
  unfold wp_X1_findSides_143 at h
  obtain ⟨v5_1, ev5_1⟩ : ∃ z : Int32, z = v5 + (-1) := ⟨_, rfl⟩
  have h := h v5_1 ev5_1
  refine lv_iinc (v := v5_1) (lv' := [(5, .int v5_1), (0, .ref (ad 3)), (1, .int v1), (2, .ref (ad (9 + v2))), (3, .int v3), (4, .int v4)]) hx hb dX1_findSides_143 hl (k := 5) rfl (by rw [ev5_1]; rfl) (by decide) rfl (fun ls hl => ?_)
  refine lv_goto (tgt := 51) hx hb dX1_findSides_146 (by decide) ?_
  exact k51 _ _ _ _ _ _ hP hD hS (lv_sub hl [1, 2, 3, 4, 5, 0] rfl) h
set_option maxHeartbeats 4000000 in
set_option maxRecDepth 100000 in
theorem kb_X1_findSides_51 {p : Program} {l : Launch} {e : Env} {s : State} {m : MethodId} {args : Array Value} {below : List Frame} {meth : Method} {c : Code} {D : va_G} {ad : Nat → Nat} {cI cJ cR : ClassId} {Ln : Nat → Nat} {A : Nat → Prop}  {K51 : cs_T → Int32 → Nat → Int32 → Int32 → Int32 → Prop} {Q : cs_T → Prop} {S : cs_T} {v1 : Int32} {v2 : Nat} {v3 : Int32} {v4 : Int32} {v5 : Int32} (fx : xr_Fx p m c meth cX1_findSides 7 s args wsX1_findSides RX1 none) (hK : xr_K D (cs_ty cI cJ cR) s) (hA : ∀ q, s.heap.size ≤ q → A q)   (k51 : ∀ (S : cs_T) (v1 : Int32) (v2 : Nat) (v3 : Int32) (v4 : Int32) (v5 : Int32) {H : Heap} {locs : List Loc} {ls : Array Slot}, va_P D vwCl (cs_w ad cI cR Ln S) H → va_D A (cs_w ad cI cR Ln S) → va_S A s.heap H locs → lv_has ls 7 [(0, .ref (ad 3)), (1, .int v1), (2, .ref (ad (9 + v2))), (3, .int v3), (4, .int v4), (5, .int v5)] → K51 S v1 v2 v3 v4 v5 → W p l e rm_X1_findSides s m args below meth c H locs 0 0 (MQ below (va_Qv Q (xr_B D (cs_ty cI cJ cR) (cs_w ad cI cR Ln) A) A) args s 0 0 A) (F0 m 51 ls [])) {H : Heap} {locs : List Loc} {ls : Array Slot} (hP : va_P D vwCl (cs_w ad cI cR Ln S) H) (hD : va_D A (cs_w ad cI cR Ln S)) (hS : va_S A s.heap H locs) (hl : lv_has ls 7 [(0, .ref (ad 3)), (1, .int v1), (2, .ref (ad (9 + v2))), (3, .int v3), (4, .int v4), (5, .int v5)]) (h : wb_X1_findSides_51 Ln K51 Q S v1 v2 v3 v4 v5) : W p l e rm_X1_findSides s m args below meth c H locs 0 0 (MQ below (va_Qv Q (xr_B D (cs_ty cI cJ cR) (cs_w ad cI cR Ln) A) A) args s 0 0 A) (F0 m 51 ls []) := by
  obtain ⟨⟨hx, hb, hml, hown, hts⟩, hrt, hlk⟩ := id fx
  have hf : 0 ≤ rm_X1_findSides.cells ∧ 0 ≤ rm_X1_findSides.slots := ⟨Nat.zero_le _, Nat.zero_le _⟩
  unfold wb_X1_findSides_51 at h
  refine lv_iload hx hb dX1_findSides_51 (lv_at hl 5 rfl) ?_
  refine lv_iconst (v := 1) hx hb dX1_findSides_53 (by decide) ?_
  refine lv_icmp_lt (tgt := 149) hx hb dX1_findSides_54 (by decide) (fun c54 => ?_) (fun c54 => ?_)
  · have h := h.1 c54
    exact xr_rV fx hK hP hD hS h dX1_findSides_149
  · have h := h.2 c54
    refine lv_aload_n hx hb dX1_findSides_57 rfl (lv_at hl 0 rfl) ?_
    refine cs_get 3 1 2 (v := .ref (ad (9 + 35))) (ref := "BracketLetters$Chiefs") fx (by decide) rfl rfl in_X1_findSides_X1 (by decide) rfl (by decide +kernel) rfl hK hP dX1_findSides_58 ?_
    refine lv_iload_n hx hb dX1_findSides_61 rfl (lv_at hl 1 rfl) ?_
    obtain ⟨hi2, h⟩ := h
    refine cs_iald 35 (by decide) fx hK hP hi2 dX1_findSides_62 ?_
    refine lv_iconst (v := (-1)) hx hb dX1_findSides_63 (by decide) ?_
    refine lv_icmp_ne (tgt := 149) hx hb dX1_findSides_64 (by decide) (fun c64 => ?_) (fun c64 => ?_)
    · have h := h.1 c64
      exact xr_rV fx hK hP hD hS h dX1_findSides_149
    · have h := h.2 c64
      refine lv_aload_n hx hb dX1_findSides_67 rfl (lv_at hl 2 rfl) ?_
      refine lv_aload_n hx hb dX1_findSides_68 rfl (lv_at hl 0 rfl) ?_
      refine cs_get 3 1 4 (v := .ref (ad 1)) (ref := "BracketLetters$Chiefs") fx (by decide) rfl rfl in_X1_findSides_X1 (by decide) rfl (by decide +kernel) rfl hK hP dX1_findSides_69 ?_
      refine cs_get 1 5 3 (v := .ref (ad (9 + 1))) (ref := "BracketLetters$Words") fx (by decide) rfl rfl in_X1_findSides_X6 (by decide) rfl (by decide +kernel) rfl hK hP dX1_findSides_72 ?_
      refine lv_iload hx hb dX1_findSides_75 (lv_at hl 5 rfl) ?_
      obtain ⟨hi3, h⟩ := h
      refine cs_iald 1 (by decide) fx hK hP hi3 dX1_findSides_77 ?_
      refine lv_iload hx hb dX1_findSides_78 (lv_at hl 4 rfl) ?_
      refine lv_aload_n hx hb dX1_findSides_80 rfl (lv_at hl 0 rfl) ?_
      refine cs_get 3 1 4 (v := .ref (ad 1)) (ref := "BracketLetters$Chiefs") fx (by decide) rfl rfl in_X1_findSides_X1 (by decide) rfl (by decide +kernel) rfl hK hP dX1_findSides_81 ?_
      refine cs_get 1 5 2 (v := .ref (ad (9 + 0))) (ref := "BracketLetters$Words") fx (by decide) rfl rfl in_X1_findSides_X6 (by decide) rfl (by decide +kernel) rfl hK hP dX1_findSides_84 ?_
      refine lv_iload hx hb dX1_findSides_87 (lv_at hl 5 rfl) ?_
      obtain ⟨hi4, h⟩ := h
      refine cs_iald 0 (by decide) fx hK hP hi4 dX1_findSides_89 ?_
      obtain ⟨hz5, h⟩ := h
      refine lv_irem hx hb dX1_findSides_90 hz5 ?_
      refine lv_iadd hx hb dX1_findSides_91 ?_
      obtain ⟨hk7, h⟩ := h
      obtain ⟨hi6, h⟩ := h
      refine cs_iald v2 hk7 fx hK hP hi6 dX1_findSides_92 ?_
      refine lv_topi (fun v6_8 ev6_8 => ?_)
      have h := h v6_8 ev6_8
      refine lv_istore (lv' := [(6, .int v6_8), (0, .ref (ad 3)), (1, .int v1), (2, .ref (ad (9 + v2))), (3, .int v3), (4, .int v4), (5, .int v5)]) hx hb dX1_findSides_93 hl (by decide) rfl (fun ls hl => ?_)
      refine lv_iload hx hb dX1_findSides_95 (lv_at hl 0 rfl) ?_
      refine lv_iconst (v := (-1)) hx hb dX1_findSides_97 (by decide) ?_
      refine lv_icmp_eq (tgt := 143) hx hb dX1_findSides_98 (by decide) (fun c98 => ?_) (fun c98 => ?_)
      · have h := h.1 c98
        exact kw_X1_findSides_143 fx hK hA k51 hP hD hS (lv_sub hl [1, 2, 3, 4, 5, 6] rfl) h
      · have h := h.2 c98
        refine lv_aload_n hx hb dX1_findSides_101 rfl (lv_at hl 1 rfl) ?_
        refine cs_get 3 1 2 (v := .ref (ad (9 + 35))) (ref := "BracketLetters$Chiefs") fx (by decide) rfl rfl in_X1_findSides_X1 (by decide) rfl (by decide +kernel) rfl hK hP dX1_findSides_102 ?_
        refine lv_iload_n hx hb dX1_findSides_105 rfl (lv_at hl 2 rfl) ?_
        refine lv_iload hx hb dX1_findSides_106 (lv_at hl 0 rfl) ?_
        obtain ⟨hi9, h⟩ := h
        refine cs_iast 35 (by decide) fx hK hP hD hS hi9 dX1_findSides_108 (fun H locs hP hD hS => ?_)
        refine lv_aload_n hx hb dX1_findSides_109 rfl (lv_at hl 1 rfl) ?_
        refine cs_get 3 1 1 (v := .ref (ad (9 + 34))) (ref := "BracketLetters$Chiefs") fx (by decide) rfl rfl in_X1_findSides_X1 (by decide) rfl (by decide +kernel) rfl hK hP dX1_findSides_110 ?_
        refine lv_iload_n hx hb dX1_findSides_113 rfl (lv_at hl 2 rfl) ?_
        refine lv_aload_n hx hb dX1_findSides_114 rfl (lv_at hl 3 rfl) ?_
        refine lv_aload_n hx hb dX1_findSides_115 rfl (lv_at hl 1 rfl) ?_
        refine cs_get 3 1 4 (v := .ref (ad 1)) (ref := "BracketLetters$Chiefs") fx (by decide) rfl rfl in_X1_findSides_X1 (by decide) rfl (by decide +kernel) rfl hK hP dX1_findSides_116 ?_
        refine cs_get 1 5 3 (v := .ref (ad (9 + 1))) (ref := "BracketLetters$Words") fx (by decide) rfl rfl in_X1_findSides_X6 (by decide) rfl (by decide +kernel) rfl hK hP dX1_findSides_119 ?_
        refine lv_iload_n hx hb dX1_findSides_122 rfl (lv_at hl 4 rfl) ?_
        refine lv_iload hx hb dX1_findSides_123 (lv_at hl 6 rfl) ?_
        refine lv_isub hx hb dX1_findSides_125 ?_
        obtain ⟨hi10, h⟩ := h
        refine cs_iald 1 (by decide) fx hK hP hi10 dX1_findSides_126 ?_
        refine lv_iload hx hb dX1_findSides_127 (lv_at hl 5 rfl) ?_
        refine lv_aload_n hx hb dX1_findSides_129 rfl (lv_at hl 1 rfl) ?_
        refine cs_get 3 1 4 (v := .ref (ad 1)) (ref := "BracketLetters$Chiefs") fx (by decide) rfl rfl in_X1_findSides_X1 (by decide) rfl (by decide +kernel) rfl hK hP dX1_findSides_130 ?_
        refine cs_get 1 5 2 (v := .ref (ad (9 + 0))) (ref := "BracketLetters$Words") fx (by decide) rfl rfl in_X1_findSides_X6 (by decide) rfl (by decide +kernel) rfl hK hP dX1_findSides_133 ?_
        refine lv_iload hx hb dX1_findSides_136 (lv_at hl 6 rfl) ?_
        obtain ⟨hi11, h⟩ := h
        refine cs_iald 0 (by decide) fx hK hP hi11 dX1_findSides_138 ?_
        obtain ⟨hz12, h⟩ := h
        refine lv_idiv hx hb dX1_findSides_139 hz12 ?_
        refine lv_iadd hx hb dX1_findSides_140 ?_
        obtain ⟨hi13, h⟩ := h
        refine cs_iald v2 hk7 fx hK hP hi13 dX1_findSides_141 ?_
        obtain ⟨hi14, h⟩ := h
        refine cs_iast 34 (by decide) fx hK hP hD hS hi14 dX1_findSides_142 (fun H locs hP hD hS => ?_)
        exact kw_X1_findSides_143 fx hK hA k51 hP hD hS (lv_sub hl [1, 2, 3, 4, 5, 6] rfl) h
theorem kw_X1_findSides_51 {p : Program} {l : Launch} {e : Env} {s : State} {m : MethodId} {args : Array Value} {below : List Frame} {meth : Method} {c : Code} {D : va_G} {ad : Nat → Nat} {cI cJ cR : ClassId} {Ln : Nat → Nat} {A : Nat → Prop}  {Q : cs_T → Prop} (fx : xr_Fx p m c meth cX1_findSides 7 s args wsX1_findSides RX1 none) (hK : xr_K D (cs_ty cI cJ cR) s) (hA : ∀ q, s.heap.size ≤ q → A q)   : ∀ (n : Nat) (S : cs_T) (v1 : Int32) (v2 : Nat) (v3 : Int32) (v4 : Int32) (v5 : Int32) {H : Heap} {locs : List Loc} {ls : Array Slot}, va_P D vwCl (cs_w ad cI cR Ln S) H → va_D A (cs_w ad cI cR Ln S) → va_S A s.heap H locs → lv_has ls 7 [(0, .ref (ad 3)), (1, .int v1), (2, .ref (ad (9 + v2))), (3, .int v3), (4, .int v4), (5, .int v5)] → wp_X1_findSides_51 Ln Q n S v1 v2 v3 v4 v5 → W p l e rm_X1_findSides s m args below meth c H locs 0 0 (MQ below (va_Qv Q (xr_B D (cs_ty cI cJ cR) (cs_w ad cI cR Ln) A) A) args s 0 0 A) (F0 m 51 ls []) := by
  intro n
  induction n with
  | zero => intro S v1 v2 v3 v4 v5 H locs ls hP hD hS hl h; exact False.elim h
  | succ n ih => intro S v1 v2 v3 v4 v5 H locs ls hP hD hS hl h; exact kb_X1_findSides_51 fx hK hA ih hP hD hS hl h
set_option maxHeartbeats 4000000 in
set_option maxRecDepth 100000 in
theorem ct_X1_findSides (l : Launch) (D : va_G) (ad : Nat → Nat) (cI cJ cR : ClassId) (Ln : Nat → Nat) {S : cs_T} {a1 : Int32} {a2 : Nat} {Q : cs_T → Prop} (h : wp_X1_findSides Ln S a1 a2 Q) : xr_V l D (cs_ty cI cJ cR) (cs_w ad cI cR Ln) yX1_findSides wsX1_findSides rm_X1_findSides [.ref (ad 3), .int a1, .ref (ad (9 + a2))] S Q := by
  refine xr_eV (cc := cX1_findSides) (nL := 7) (ret := none) (own := RX1) (by decide) rfl rfl (Nat.le_of_ble_eq_true rfl) ?_
  intro p e s m args below meth c ls A fx hK hA hP hD hS hl
  have hl : lv_has ls 7 [(0, .ref (ad 3)), (1, .int a1), (2, .ref (ad (9 + a2)))] := hl
  show W p l e rm_X1_findSides s m args below meth c s.heap [] 0 0 _ _
  obtain ⟨⟨hx, hb, hml, hown, hts⟩, hrt, hlk⟩ := id fx
  have hf : 0 ≤ rm_X1_findSides.cells ∧ 0 ≤ rm_X1_findSides.slots := ⟨Nat.zero_le _, Nat.zero_le _⟩
  unfold wp_X1_findSides at h
  refine lv_aload_n hx hb dX1_findSides_0 rfl (lv_at hl 0 rfl) ?_
  refine cs_get 3 1 1 (v := .ref (ad (9 + 34))) (ref := "BracketLetters$Chiefs") fx (by decide) rfl rfl in_X1_findSides_X1 (by decide) rfl (by decide +kernel) rfl hK hP dX1_findSides_1 ?_
  refine lv_iload_n hx hb dX1_findSides_4 rfl (lv_at hl 1 rfl) ?_
  refine lv_iconst (v := (-1)) hx hb dX1_findSides_5 (by decide) ?_
  obtain ⟨hi15, h⟩ := h
  refine cs_iast 34 (by decide) fx hK hP hD hS hi15 dX1_findSides_6 (fun H locs hP hD hS => ?_)
  refine lv_aload_n hx hb dX1_findSides_7 rfl (lv_at hl 0 rfl) ?_
  refine cs_get 3 1 2 (v := .ref (ad (9 + 35))) (ref := "BracketLetters$Chiefs") fx (by decide) rfl rfl in_X1_findSides_X1 (by decide) rfl (by decide +kernel) rfl hK hP dX1_findSides_8 ?_
  refine lv_iload_n hx hb dX1_findSides_11 rfl (lv_at hl 1 rfl) ?_
  refine lv_iconst (v := (-1)) hx hb dX1_findSides_12 (by decide) ?_
  obtain ⟨hi16, h⟩ := h
  refine cs_iast 35 (by decide) fx hK hP hD hS hi16 dX1_findSides_13 (fun H locs hP hD hS => ?_)
  refine lv_aload_n hx hb dX1_findSides_14 rfl (lv_at hl 0 rfl) ?_
  refine cs_get 3 1 4 (v := .ref (ad 1)) (ref := "BracketLetters$Chiefs") fx (by decide) rfl rfl in_X1_findSides_X1 (by decide) rfl (by decide +kernel) rfl hK hP dX1_findSides_15 ?_
  refine lv_aload_n hx hb dX1_findSides_18 rfl (lv_at hl 0 rfl) ?_
  refine cs_get 3 1 0 (v := .ref (ad (9 + 33))) (ref := "BracketLetters$Chiefs") fx (by decide) rfl rfl in_X1_findSides_X1 (by decide) rfl (by decide +kernel) rfl hK hP dX1_findSides_19 ?_
  refine lv_iload_n hx hb dX1_findSides_22 rfl (lv_at hl 1 rfl) ?_
  obtain ⟨hi17, h⟩ := h
  refine cs_iald 33 (by decide) fx hK hP hi17 dX1_findSides_23 ?_
  refine xr_vI (n := 1) (As := [.int ((cs_sI (cs_sI S 34 a1.toNatClampNeg ((-1))) 35 a1.toNatClampNeg ((-1))).2.1 33 a1.toNatClampNeg)]) (rest := []) fx (ct_X6_lengthOf l D ad cI cJ cR Ln h) gX1_findSides_X6_lengthOf rfl rfl (by decide +kernel) ⟨Nat.le_of_ble_eq_true rfl, Nat.le_of_ble_eq_true rfl⟩ ⟨rfl, rfl⟩ hf (cs_recv 1 5 (by decide) rfl rfl hK hP) hK hP hD hS hA hl.1 rfl (Nat.le_of_ble_eq_true rfl) dX1_findSides_24 (fun r19 S18 H locs h hP hD hS => ?_)
  refine lv_istore_n (lv' := [(3, .int r19), (0, .ref (ad 3)), (1, .int a1), (2, .ref (ad (9 + a2)))]) hx hb dX1_findSides_27 rfl hl (by decide) rfl (fun ls hl => ?_)
  refine lv_aload_n hx hb dX1_findSides_28 rfl (lv_at hl 1 rfl) ?_
  refine cs_get 3 1 0 (v := .ref (ad (9 + 33))) (ref := "BracketLetters$Chiefs") fx (by decide) rfl rfl in_X1_findSides_X1 (by decide) rfl (by decide +kernel) rfl hK hP dX1_findSides_29 ?_
  refine lv_iload_n hx hb dX1_findSides_32 rfl (lv_at hl 2 rfl) ?_
  obtain ⟨hi20, h⟩ := h
  refine cs_iald 33 (by decide) fx hK hP hi20 dX1_findSides_33 ?_
  refine lv_aload_n hx hb dX1_findSides_34 rfl (lv_at hl 1 rfl) ?_
  refine cs_get 3 1 4 (v := .ref (ad 1)) (ref := "BracketLetters$Chiefs") fx (by decide) rfl rfl in_X1_findSides_X1 (by decide) rfl (by decide +kernel) rfl hK hP dX1_findSides_35 ?_
  refine cs_get 1 5 3 (v := .ref (ad (9 + 1))) (ref := "BracketLetters$Words") fx (by decide) rfl rfl in_X1_findSides_X6 (by decide) rfl (by decide +kernel) rfl hK hP dX1_findSides_38 ?_
  refine lv_iload_n hx hb dX1_findSides_41 rfl (lv_at hl 0 rfl) ?_
  obtain ⟨hi21, h⟩ := h
  refine cs_iald 1 (by decide) fx hK hP hi21 dX1_findSides_42 ?_
  refine lv_isub hx hb dX1_findSides_43 ?_
  refine lv_topi (fun v4_22 ev4_22 => ?_)
  have h := h v4_22 ev4_22
  refine lv_istore (lv' := [(4, .int v4_22), (3, .int r19), (0, .ref (ad 3)), (1, .int a1), (2, .ref (ad (9 + a2)))]) hx hb dX1_findSides_44 hl (by decide) rfl (fun ls hl => ?_)
  refine lv_iload_n hx hb dX1_findSides_46 rfl (lv_at hl 1 rfl) ?_
  refine lv_iconst (v := 1) hx hb dX1_findSides_47 (by decide) ?_
  refine lv_isub hx hb dX1_findSides_48 ?_
  refine lv_topi (fun v5_23 ev5_23 => ?_)
  have h := h v5_23 ev5_23
  refine lv_istore (lv' := [(5, .int v5_23), (4, .int v4_22), (3, .int r19), (0, .ref (ad 3)), (1, .int a1), (2, .ref (ad (9 + a2)))]) hx hb dX1_findSides_49 hl (by decide) rfl (fun ls hl => ?_)
  obtain ⟨n, h⟩ := h
  exact kw_X1_findSides_51 fx hK hA n _ _ _ _ _ _ hP hD hS (lv_sub hl [3, 4, 5, 2, 1, 0] rfl) h
theorem in_X4_readBracket_X4 : ∀ w ∈ wsX40, w ∈ wsX4_readBracket := by decide +kernel
set_option maxHeartbeats 4000000 in
set_option maxRecDepth 100000 in
theorem ct_X4_readBracket (l : Launch) (D : va_G) (ad : Nat → Nat) (cI cJ cR : ClassId) (Ln : Nat → Nat) (d : Nat) {R : cs_T → Int32 → (cs_T → Prop) → Prop} (hR : ∀ (S : cs_T) (b0 : Int32) (Q : cs_T → Prop), R S b0 Q → xr_V l D (cs_ty cI cJ cR) (cs_w ad cI cR Ln) yX4_readText wsX4_readText (rm_X4_readText d) [.ref (ad 6), .int b0] S Q) {S : cs_T} {a1 : Int32} {Q : cs_T → Prop} (h : wp_X4_readBracket R Ln S a1 Q) : xr_V l D (cs_ty cI cJ cR) (cs_w ad cI cR Ln) yX4_readBracket wsX4_readBracket (rm_X4_readBracket d) [.ref (ad 6), .int a1] S Q := by
  refine xr_eV (cc := cX4_readBracket) (nL := 3) (ret := none) (own := RX4) (by decide) rfl rfl (Nat.le_of_ble_eq_true rfl) ?_
  intro p e s m args below meth c ls A fx hK hA hP hD hS hl
  have hl : lv_has ls 3 [(0, .ref (ad 6)), (1, .int a1)] := hl
  show W p l e (rm_X4_readBracket d) s m args below meth c s.heap [] 0 0 _ _
  obtain ⟨⟨hx, hb, hml, hown, hts⟩, hrt, hlk⟩ := id fx
  have hf : 0 ≤ (rm_X4_readBracket d).cells ∧ 0 ≤ (rm_X4_readBracket d).slots := ⟨Nat.zero_le _, Nat.zero_le _⟩
  unfold wp_X4_readBracket at h
  refine lv_aload_n hx hb dX4_readBracket_0 rfl (lv_at hl 0 rfl) ?_
  refine lv_bipush (v := 91) hx hb dX4_readBracket_1 (by decide) ?_
  refine lv_iload_n hx hb dX4_readBracket_3 rfl (lv_at hl 1 rfl) ?_
  refine xr_vI (n := 2) (As := [.int 91, .int a1]) (rest := []) fx (ct_X4_opens l D ad cI cJ cR Ln h) gX4_readBracket_X4_opens rfl rfl (by decide +kernel) (by constructor <;> simp [rm_X4_readBracket, rm_X4_opens] <;> omega) ⟨rfl, rfl⟩ hf (cs_recv 6 3 (by decide) rfl rfl hK hP) hK hP hD hS hA hl.1 rfl (Nat.le_of_ble_eq_true rfl) dX4_readBracket_4 (fun r2 S1 H locs h hP hD hS => ?_)
  refine lv_if_ne (tgt := 11) hx hb dX4_readBracket_7 (by decide) (fun c7 => ?_) (fun c7 => ?_)
  · have h := h.1 c7
    refine lv_aload_n hx hb dX4_readBracket_11 rfl (lv_at hl 0 rfl) ?_
    refine lv_iload_n hx hb dX4_readBracket_12 rfl (lv_at hl 1 rfl) ?_
    refine lv_iconst (v := 1) hx hb dX4_readBracket_13 (by decide) ?_
    refine lv_iadd hx hb dX4_readBracket_14 ?_
    refine xr_vR (n := 1) (As := [.int (a1 + 1)]) (rest := []) fx (ct_X4_wholeOf l D ad cI cJ cR Ln h) gX4_readBracket_X4_wholeOf rfl rfl (by decide +kernel) (by constructor <;> simp [rm_X4_readBracket, rm_X4_wholeOf] <;> omega) ⟨rfl, rfl⟩ hf (cs_recv 6 3 (by decide) rfl rfl hK hP) hK hP hD hS hA hl.1 rfl (Nat.le_of_ble_eq_true rfl) dX4_readBracket_15 (fun r4 S3 H locs h hP hD hS => ?_)
    refine lv_astore_n (lv' := [(2, .ref (ad (9 + r4))), (0, .ref (ad 6)), (1, .int a1)]) hx hb dX4_readBracket_18 rfl hl (by decide) rfl (fun ls hl => ?_)
    refine lv_aload_n hx hb dX4_readBracket_19 rfl (lv_at hl 1 rfl) ?_
    refine lv_iload_n hx hb dX4_readBracket_20 rfl (lv_at hl 2 rfl) ?_
    refine lv_iconst (v := 1) hx hb dX4_readBracket_21 (by decide) ?_
    refine lv_iadd hx hb dX4_readBracket_22 ?_
    refine xr_vV (n := 1) (As := [.int (a1 + 1)]) (rest := []) fx (hR _ _ _ h) gX4_readBracket_X4_readText rfl rfl (by decide +kernel) (by constructor <;> simp [rm_X4_readBracket, rm_X4_readText] <;> omega) ⟨rfl, rfl⟩ hf (cs_recv 6 3 (by decide) rfl rfl hK hP) hK hP hD hS hA hl.1 rfl (Nat.le_of_ble_eq_true rfl) dX4_readBracket_23 (fun S5 H locs h hP hD hS => ?_)
    refine lv_aload_n hx hb dX4_readBracket_26 rfl (lv_at hl 1 rfl) ?_
    refine lv_bipush (v := 44) hx hb dX4_readBracket_27 (by decide) ?_
    refine xr_vI (n := 1) (As := [.int 44]) (rest := []) fx (ct_X4_goesOn l D ad cI cJ cR Ln h) gX4_readBracket_X4_goesOn rfl rfl (by decide +kernel) (by constructor <;> simp [rm_X4_readBracket, rm_X4_goesOn] <;> omega) ⟨rfl, rfl⟩ hf (cs_recv 6 3 (by decide) rfl rfl hK hP) hK hP hD hS hA hl.1 rfl (Nat.le_of_ble_eq_true rfl) dX4_readBracket_29 (fun r7 S6 H locs h hP hD hS => ?_)
    refine lv_if_ne (tgt := 36) hx hb dX4_readBracket_32 (by decide) (fun c32 => ?_) (fun c32 => ?_)
    · have h := h.1 c32
      refine lv_aload_n hx hb dX4_readBracket_36 rfl (lv_at hl 1 rfl) ?_
      refine cs_get 6 3 2 (v := .ref (ad 2)) (ref := "BracketLetters$Reader") fx (by decide) rfl rfl in_X4_readBracket_X4 (by decide) rfl (by decide +kernel) rfl hK hP dX4_readBracket_37 ?_
      refine lv_aload_n hx hb dX4_readBracket_40 rfl (lv_at hl 1 rfl) ?_
      refine lv_iload_n hx hb dX4_readBracket_41 rfl (lv_at hl 2 rfl) ?_
      refine xr_vR (n := 1) (As := [.int a1]) (rest := [.ref (ad 2)]) fx (ct_X4_leftOf l D ad cI cJ cR Ln h) gX4_readBracket_X4_leftOf rfl rfl (by decide +kernel) (by constructor <;> simp [rm_X4_readBracket, rm_X4_leftOf] <;> omega) ⟨rfl, rfl⟩ hf (cs_recv 6 3 (by decide) rfl rfl hK hP) hK hP hD hS hA hl.1 rfl (Nat.le_of_ble_eq_true rfl) dX4_readBracket_42 (fun r9 S8 H locs h hP hD hS => ?_)
      refine lv_aload_n hx hb dX4_readBracket_45 rfl (lv_at hl 0 rfl) ?_
      refine xr_vV (n := 2) (As := [.ref (ad (9 + r9)), .ref (ad (9 + r4))]) (rest := []) fx (ct_X0_copy l D ad cI cJ cR Ln h) gX4_readBracket_X0_copy rfl rfl (by decide +kernel) (by constructor <;> simp [rm_X4_readBracket, rm_X0_copy] <;> omega) ⟨rfl, rfl⟩ hf (cs_recv 2 0 (by decide) rfl rfl hK hP) hK hP hD hS hA hl.1 rfl (Nat.le_of_ble_eq_true rfl) dX4_readBracket_46 (fun S10 H locs h hP hD hS => ?_)
      refine lv_aload_n hx hb dX4_readBracket_49 rfl (lv_at hl 1 rfl) ?_
      refine lv_iload_n hx hb dX4_readBracket_50 rfl (lv_at hl 2 rfl) ?_
      refine lv_iconst (v := 1) hx hb dX4_readBracket_51 (by decide) ?_
      refine lv_iadd hx hb dX4_readBracket_52 ?_
      refine xr_vV (n := 1) (As := [.int (a1 + 1)]) (rest := []) fx (hR _ _ _ h) gX4_readBracket_X4_readText rfl rfl (by decide +kernel) (by constructor <;> simp [rm_X4_readBracket, rm_X4_readText] <;> omega) ⟨rfl, rfl⟩ hf (cs_recv 6 3 (by decide) rfl rfl hK hP) hK hP hD hS hA hl.1 rfl (Nat.le_of_ble_eq_true rfl) dX4_readBracket_53 (fun S11 H locs h hP hD hS => ?_)
      refine lv_aload_n hx hb dX4_readBracket_56 rfl (lv_at hl 1 rfl) ?_
      refine lv_bipush (v := 93) hx hb dX4_readBracket_57 (by decide) ?_
      refine xr_vI (n := 1) (As := [.int 93]) (rest := []) fx (ct_X4_goesOn l D ad cI cJ cR Ln h) gX4_readBracket_X4_goesOn rfl rfl (by decide +kernel) (by constructor <;> simp [rm_X4_readBracket, rm_X4_goesOn] <;> omega) ⟨rfl, rfl⟩ hf (cs_recv 6 3 (by decide) rfl rfl hK hP) hK hP hD hS hA hl.1 rfl (Nat.le_of_ble_eq_true rfl) dX4_readBracket_59 (fun r13 S12 H locs h hP hD hS => ?_)
      refine lv_if_ne (tgt := 66) hx hb dX4_readBracket_62 (by decide) (fun c62 => ?_) (fun c62 => ?_)
      · have h := h.1 c62
        refine lv_aload_n hx hb dX4_readBracket_66 rfl (lv_at hl 1 rfl) ?_
        refine cs_get 6 3 2 (v := .ref (ad 2)) (ref := "BracketLetters$Reader") fx (by decide) rfl rfl in_X4_readBracket_X4 (by decide) rfl (by decide +kernel) rfl hK hP dX4_readBracket_67 ?_
        refine lv_aload_n hx hb dX4_readBracket_70 rfl (lv_at hl 0 rfl) ?_
        refine lv_aload_n hx hb dX4_readBracket_71 rfl (lv_at hl 1 rfl) ?_
        refine lv_iload_n hx hb dX4_readBracket_72 rfl (lv_at hl 2 rfl) ?_
        refine xr_vR (n := 1) (As := [.int a1]) (rest := [.ref (ad (9 + r4)), .ref (ad 2)]) fx (ct_X4_leftOf l D ad cI cJ cR Ln h) gX4_readBracket_X4_leftOf rfl rfl (by decide +kernel) (by constructor <;> simp [rm_X4_readBracket, rm_X4_leftOf] <;> omega) ⟨rfl, rfl⟩ hf (cs_recv 6 3 (by decide) rfl rfl hK hP) hK hP hD hS hA hl.1 rfl (Nat.le_of_ble_eq_true rfl) dX4_readBracket_73 (fun r15 S14 H locs h hP hD hS => ?_)
        refine lv_aload_n hx hb dX4_readBracket_76 rfl (lv_at hl 0 rfl) ?_
        refine xr_vV (n := 3) (As := [.ref (ad (9 + r4)), .ref (ad (9 + r15)), .ref (ad (9 + r4))]) (rest := []) fx (ct_X0_commute l D ad cI cJ cR Ln h) gX4_readBracket_X0_commute rfl rfl (by decide +kernel) (by constructor <;> simp [rm_X4_readBracket, rm_X0_commute] <;> omega) ⟨rfl, rfl⟩ hf (cs_recv 2 0 (by decide) rfl rfl hK hP) hK hP hD hS hA hl.1 rfl (Nat.le_of_ble_eq_true rfl) dX4_readBracket_77 (fun S16 H locs h hP hD hS => ?_)
        refine lv_aload_n hx hb dX4_readBracket_80 rfl (lv_at hl 1 rfl) ?_
        refine cs_get 6 3 2 (v := .ref (ad 2)) (ref := "BracketLetters$Reader") fx (by decide) rfl rfl in_X4_readBracket_X4 (by decide) rfl (by decide +kernel) rfl hK hP dX4_readBracket_81 ?_
        refine lv_aload_n hx hb dX4_readBracket_84 rfl (lv_at hl 1 rfl) ?_
        refine lv_iload_n hx hb dX4_readBracket_85 rfl (lv_at hl 2 rfl) ?_
        refine xr_vR (n := 1) (As := [.int a1]) (rest := [.ref (ad 2)]) fx (ct_X4_termOf l D ad cI cJ cR Ln h) gX4_readBracket_X4_termOf rfl rfl (by decide +kernel) (by constructor <;> simp [rm_X4_readBracket, rm_X4_termOf] <;> omega) ⟨rfl, rfl⟩ hf (cs_recv 6 3 (by decide) rfl rfl hK hP) hK hP hD hS hA hl.1 rfl (Nat.le_of_ble_eq_true rfl) dX4_readBracket_86 (fun r18 S17 H locs h hP hD hS => ?_)
        refine lv_aload_n hx hb dX4_readBracket_89 rfl (lv_at hl 1 rfl) ?_
        refine lv_iload_n hx hb dX4_readBracket_90 rfl (lv_at hl 2 rfl) ?_
        refine xr_vR (n := 1) (As := [.int a1]) (rest := [.ref (ad (9 + r18)), .ref (ad 2)]) fx (ct_X4_termOf l D ad cI cJ cR Ln h) gX4_readBracket_X4_termOf rfl rfl (by decide +kernel) (by constructor <;> simp [rm_X4_readBracket, rm_X4_termOf] <;> omega) ⟨rfl, rfl⟩ hf (cs_recv 6 3 (by decide) rfl rfl hK hP) hK hP hD hS hA hl.1 rfl (Nat.le_of_ble_eq_true rfl) dX4_readBracket_91 (fun r20 S19 H locs h hP hD hS => ?_)
        refine lv_aload_n hx hb dX4_readBracket_94 rfl (lv_at hl 0 rfl) ?_
        refine xr_vV (n := 3) (As := [.ref (ad (9 + r18)), .ref (ad (9 + r20)), .ref (ad (9 + r4))]) (rest := []) fx (ct_X0_multiply l D ad cI cJ cR Ln h) gX4_readBracket_X0_multiply rfl rfl (by decide +kernel) (by constructor <;> simp [rm_X4_readBracket, rm_X0_multiply] <;> omega) ⟨rfl, rfl⟩ hf (cs_recv 2 0 (by decide) rfl rfl hK hP) hK hP hD hS hA hl.1 rfl (Nat.le_of_ble_eq_true rfl) dX4_readBracket_95 (fun S21 H locs h hP hD hS => ?_)
        exact xr_rV fx hK hP hD hS h dX4_readBracket_98
      · have h := h.2 c62
        exact xr_rV fx hK hP hD hS h dX4_readBracket_65
    · have h := h.2 c32
      exact xr_rV fx hK hP hD hS h dX4_readBracket_35
  · have h := h.2 c7
    exact xr_rV fx hK hP hD hS h dX4_readBracket_10
theorem in_X4_readRound_X4 : ∀ w ∈ wsX40, w ∈ wsX4_readRound := by decide +kernel
set_option maxHeartbeats 4000000 in
set_option maxRecDepth 100000 in
theorem kw_X4_readRound_117 {p : Program} {l : Launch} {e : Env} {s : State} {m : MethodId} {args : Array Value} {below : List Frame} {meth : Method} {c : Code} {D : va_G} {ad : Nat → Nat} {cI cJ cR : ClassId} {Ln : Nat → Nat} {A : Nat → Prop} {R : cs_T → Int32 → (cs_T → Prop) → Prop} {d : Nat}  {Q : cs_T → Prop} {S : cs_T} {v1 : Int32} {v3 : Nat} (fx : xr_Fx p m c meth cX4_readRound 4 s args wsX4_readRound RX4 none) (hK : xr_K D (cs_ty cI cJ cR) s) (hA : ∀ q, s.heap.size ≤ q → A q) (hR : ∀ (S : cs_T) (b0 : Int32) (Q : cs_T → Prop), R S b0 Q → xr_V l D (cs_ty cI cJ cR) (cs_w ad cI cR Ln) yX4_readText wsX4_readText (rm_X4_readText d) [.ref (ad 6), .int b0] S Q)  {H : Heap} {locs : List Loc} {ls : Array Slot} (hP : va_P D vwCl (cs_w ad cI cR Ln S) H) (hD : va_D A (cs_w ad cI cR Ln S)) (hS : va_S A s.heap H locs) (hl : lv_has ls 4 [(0, .ref (ad 6)), (1, .int v1), (3, .ref (ad (9 + v3)))]) (h : wp_X4_readRound_117 R Ln Q S v1 v3) : W p l e (rm_X4_readRound d) s m args below meth c H locs 0 0 (MQ below (va_Qv Q (xr_B D (cs_ty cI cJ cR) (cs_w ad cI cR Ln) A) A) args s 0 0 A) (F0 m 117 ls []) := by
  obtain ⟨⟨hx, hb, hml, hown, hts⟩, hrt, hlk⟩ := id fx
  have hf : 0 ≤ (rm_X4_readRound d).cells ∧ 0 ≤ (rm_X4_readRound d).slots := ⟨Nat.zero_le _, Nat.zero_le _⟩
  unfold wp_X4_readRound_117 at h
  refine lv_aload_n hx hb dX4_readRound_117 rfl (lv_at hl 0 rfl) ?_
  refine cs_get 6 3 2 (v := .ref (ad 2)) (ref := "BracketLetters$Reader") fx (by decide) rfl rfl in_X4_readRound_X4 (by decide) rfl (by decide +kernel) rfl hK hP dX4_readRound_118 ?_
  refine lv_aload_n hx hb dX4_readRound_121 rfl (lv_at hl 0 rfl) ?_
  refine lv_iload_n hx hb dX4_readRound_122 rfl (lv_at hl 1 rfl) ?_
  refine xr_vR (n := 1) (As := [.int v1]) (rest := [.ref (ad 2)]) fx (ct_X4_termOf l D ad cI cJ cR Ln h) gX4_readRound_X4_termOf rfl rfl (by decide +kernel) (by constructor <;> simp [rm_X4_readRound, rm_X4_termOf] <;> omega) ⟨rfl, rfl⟩ hf (cs_recv 6 3 (by decide) rfl rfl hK hP) hK hP hD hS hA hl.1 rfl (Nat.le_of_ble_eq_true rfl) dX4_readRound_123 (fun r2 S1 H locs h hP hD hS => ?_)
  refine lv_aload_n hx hb dX4_readRound_126 rfl (lv_at hl 0 rfl) ?_
  refine lv_iload_n hx hb dX4_readRound_127 rfl (lv_at hl 1 rfl) ?_
  refine xr_vR (n := 1) (As := [.int v1]) (rest := [.ref (ad (9 + r2)), .ref (ad 2)]) fx (ct_X4_termOf l D ad cI cJ cR Ln h) gX4_readRound_X4_termOf rfl rfl (by decide +kernel) (by constructor <;> simp [rm_X4_readRound, rm_X4_termOf] <;> omega) ⟨rfl, rfl⟩ hf (cs_recv 6 3 (by decide) rfl rfl hK hP) hK hP hD hS hA hl.1 rfl (Nat.le_of_ble_eq_true rfl) dX4_readRound_128 (fun r4 S3 H locs h hP hD hS => ?_)
  refine lv_aload_n hx hb dX4_readRound_131 rfl (lv_at hl 2 rfl) ?_
  refine xr_vV (n := 3) (As := [.ref (ad (9 + r2)), .ref (ad (9 + r4)), .ref (ad (9 + v3))]) (rest := []) fx (ct_X0_multiply l D ad cI cJ cR Ln h) gX4_readRound_X0_multiply rfl rfl (by decide +kernel) (by constructor <;> simp [rm_X4_readRound, rm_X0_multiply] <;> omega) ⟨rfl, rfl⟩ hf (cs_recv 2 0 (by decide) rfl rfl hK hP) hK hP hD hS hA hl.1 rfl (Nat.le_of_ble_eq_true rfl) dX4_readRound_132 (fun S5 H locs h hP hD hS => ?_)
  exact xr_rV fx hK hP hD hS h dX4_readRound_135
set_option maxHeartbeats 4000000 in
set_option maxRecDepth 100000 in
theorem kw_X4_readRound_106 {p : Program} {l : Launch} {e : Env} {s : State} {m : MethodId} {args : Array Value} {below : List Frame} {meth : Method} {c : Code} {D : va_G} {ad : Nat → Nat} {cI cJ cR : ClassId} {Ln : Nat → Nat} {A : Nat → Prop} {R : cs_T → Int32 → (cs_T → Prop) → Prop} {d : Nat}  {Q : cs_T → Prop} {S : cs_T} {v1 : Int32} {v2 : Int32} {v3 : Nat} (fx : xr_Fx p m c meth cX4_readRound 4 s args wsX4_readRound RX4 none) (hK : xr_K D (cs_ty cI cJ cR) s) (hA : ∀ q, s.heap.size ≤ q → A q) (hR : ∀ (S : cs_T) (b0 : Int32) (Q : cs_T → Prop), R S b0 Q → xr_V l D (cs_ty cI cJ cR) (cs_w ad cI cR Ln) yX4_readText wsX4_readText (rm_X4_readText d) [.ref (ad 6), .int b0] S Q)  {H : Heap} {locs : List Loc} {ls : Array Slot} (hP : va_P D vwCl (cs_w ad cI cR Ln S) H) (hD : va_D A (cs_w ad cI cR Ln S)) (hS : va_S A s.heap H locs) (hl : lv_has ls 4 [(0, .ref (ad 6)), (1, .int v1), (2, .int v2), (3, .ref (ad (9 + v3)))]) (h : wp_X4_readRound_106 R Ln Q S v1 v2 v3) : W p l e (rm_X4_readRound d) s m args below meth c H locs 0 0 (MQ below (va_Qv Q (xr_B D (cs_ty cI cJ cR) (cs_w ad cI cR Ln) A) A) args s 0 0 A) (F0 m 106 ls []) := by
  obtain ⟨⟨hx, hb, hml, hown, hts⟩, hrt, hlk⟩ := id fx
  have hf : 0 ≤ (rm_X4_readRound d).cells ∧ 0 ≤ (rm_X4_readRound d).slots := ⟨Nat.zero_le _, Nat.zero_le _⟩
  unfold wp_X4_readRound_106 at h
  refine lv_iload_n hx hb dX4_readRound_106 rfl (lv_at hl 2 rfl) ?_
  refine lv_bipush (v := 40) hx hb dX4_readRound_107 (by decide) ?_
  refine lv_icmp_eq (tgt := 117) hx hb dX4_readRound_109 (by decide) (fun c109 => ?_) (fun c109 => ?_)
  · have h := h.1 c109
    exact kw_X4_readRound_117 fx hK hA hR hP hD hS (lv_sub hl [0, 1, 3] rfl) h
  · have h := h.2 c109
    refine lv_aload_n hx hb dX4_readRound_112 rfl (lv_at hl 0 rfl) ?_
    refine lv_iconst (v := 1) hx hb dX4_readRound_113 (by decide) ?_
    refine cs_put 6 3 8 8 (ref := "BracketLetters$Reader") (ty := .boolean) tyX4 tyX4_ok nmX4 fx (by decide) rfl rfl in_X4_readRound_X4 (by decide) (Nat.le_of_ble_eq_true rfl) cs_f6_8 (by decide +kernel) rfl rfl (by decide +kernel) rfl rfl hK hP hD hS dX4_readRound_114 (fun H locs hP hD hS => ?_)
    exact kw_X4_readRound_117 fx hK hA hR hP hD hS (lv_sub hl [0, 1, 3] rfl) h
set_option maxHeartbeats 4000000 in
set_option maxRecDepth 100000 in
theorem kw_X4_readRound_81 {p : Program} {l : Launch} {e : Env} {s : State} {m : MethodId} {args : Array Value} {below : List Frame} {meth : Method} {c : Code} {D : va_G} {ad : Nat → Nat} {cI cJ cR : ClassId} {Ln : Nat → Nat} {A : Nat → Prop} {R : cs_T → Int32 → (cs_T → Prop) → Prop} {d : Nat}  {Q : cs_T → Prop} {S : cs_T} {v1 : Int32} {v2 : Int32} {v3 : Nat} (fx : xr_Fx p m c meth cX4_readRound 4 s args wsX4_readRound RX4 none) (hK : xr_K D (cs_ty cI cJ cR) s) (hA : ∀ q, s.heap.size ≤ q → A q) (hR : ∀ (S : cs_T) (b0 : Int32) (Q : cs_T → Prop), R S b0 Q → xr_V l D (cs_ty cI cJ cR) (cs_w ad cI cR Ln) yX4_readText wsX4_readText (rm_X4_readText d) [.ref (ad 6), .int b0] S Q)  {H : Heap} {locs : List Loc} {ls : Array Slot} (hP : va_P D vwCl (cs_w ad cI cR Ln S) H) (hD : va_D A (cs_w ad cI cR Ln S)) (hS : va_S A s.heap H locs) (hl : lv_has ls 4 [(0, .ref (ad 6)), (1, .int v1), (2, .int v2), (3, .ref (ad (9 + v3)))]) (h : wp_X4_readRound_81 R Ln Q S v1 v2 v3) : W p l e (rm_X4_readRound d) s m args below meth c H locs 0 0 (MQ below (va_Qv Q (xr_B D (cs_ty cI cJ cR) (cs_w ad cI cR Ln) A) A) args s 0 0 A) (F0 m 81 ls []) := by
  obtain ⟨⟨hx, hb, hml, hown, hts⟩, hrt, hlk⟩ := id fx
  have hf : 0 ≤ (rm_X4_readRound d).cells ∧ 0 ≤ (rm_X4_readRound d).slots := ⟨Nat.zero_le _, Nat.zero_le _⟩
  unfold wp_X4_readRound_81 at h
  refine lv_iload_n hx hb dX4_readRound_81 rfl (lv_at hl 2 rfl) ?_
  refine lv_bipush (v := 76) hx hb dX4_readRound_82 (by decide) ?_
  refine lv_icmp_ne (tgt := 106) hx hb dX4_readRound_84 (by decide) (fun c84 => ?_) (fun c84 => ?_)
  · have h := h.1 c84
    exact kw_X4_readRound_106 fx hK hA hR hP hD hS (lv_sub hl [0, 1, 2, 3] rfl) h
  · have h := h.2 c84
    refine lv_aload_n hx hb dX4_readRound_87 rfl (lv_at hl 3 rfl) ?_
    refine lv_iconst (v := 0) hx hb dX4_readRound_88 (by decide) ?_
    obtain ⟨hk7, h⟩ := h
    obtain ⟨hi6, h⟩ := h
    refine cs_iald v3 hk7 fx hK hP hi6 dX4_readRound_89 ?_
    refine lv_iconst (v := 1) hx hb dX4_readRound_90 (by decide) ?_
    refine lv_icmp_ne (tgt := 106) hx hb dX4_readRound_91 (by decide) (fun c91 => ?_) (fun c91 => ?_)
    · have h := h.1 c91
      exact kw_X4_readRound_106 fx hK hA hR hP hD hS (lv_sub hl [0, 1, 2, 3] rfl) h
    · have h := h.2 c91
      refine lv_aload_n hx hb dX4_readRound_94 rfl (lv_at hl 0 rfl) ?_
      refine cs_get 6 3 2 (v := .ref (ad 2)) (ref := "BracketLetters$Reader") fx (by decide) rfl rfl in_X4_readRound_X4 (by decide) rfl (by decide +kernel) rfl hK hP dX4_readRound_95 ?_
      refine lv_aload_n hx hb dX4_readRound_98 rfl (lv_at hl 3 rfl) ?_
      refine lv_aload_n hx hb dX4_readRound_99 rfl (lv_at hl 3 rfl) ?_
      refine xr_vV (n := 2) (As := [.ref (ad (9 + v3)), .ref (ad (9 + v3))]) (rest := []) fx (ct_X0_unraise l D ad cI cJ cR Ln h) gX4_readRound_X0_unraise rfl rfl (by decide +kernel) (by constructor <;> simp [rm_X4_readRound, rm_X0_unraise] <;> omega) ⟨rfl, rfl⟩ hf (cs_recv 2 0 (by decide) rfl rfl hK hP) hK hP hD hS hA hl.1 rfl (Nat.le_of_ble_eq_true rfl) dX4_readRound_100 (fun S8 H locs h hP hD hS => ?_)
      refine lv_goto (tgt := 117) hx hb dX4_readRound_103 (by decide) ?_
      exact kw_X4_readRound_117 fx hK hA hR hP hD hS (lv_sub hl [0, 1, 3] rfl) h
set_option maxHeartbeats 4000000 in
set_option maxRecDepth 100000 in
theorem kw_X4_readRound_21 {p : Program} {l : Launch} {e : Env} {s : State} {m : MethodId} {args : Array Value} {below : List Frame} {meth : Method} {c : Code} {D : va_G} {ad : Nat → Nat} {cI cJ cR : ClassId} {Ln : Nat → Nat} {A : Nat → Prop} {R : cs_T → Int32 → (cs_T → Prop) → Prop} {d : Nat}  {Q : cs_T → Prop} {S : cs_T} {v1 : Int32} {v2 : Int32} (fx : xr_Fx p m c meth cX4_readRound 4 s args wsX4_readRound RX4 none) (hK : xr_K D (cs_ty cI cJ cR) s) (hA : ∀ q, s.heap.size ≤ q → A q) (hR : ∀ (S : cs_T) (b0 : Int32) (Q : cs_T → Prop), R S b0 Q → xr_V l D (cs_ty cI cJ cR) (cs_w ad cI cR Ln) yX4_readText wsX4_readText (rm_X4_readText d) [.ref (ad 6), .int b0] S Q)  {H : Heap} {locs : List Loc} {ls : Array Slot} (hP : va_P D vwCl (cs_w ad cI cR Ln S) H) (hD : va_D A (cs_w ad cI cR Ln S)) (hS : va_S A s.heap H locs) (hl : lv_has ls 4 [(0, .ref (ad 6)), (1, .int v1), (2, .int v2)]) (h : wp_X4_readRound_21 R Ln Q S v1 v2) : W p l e (rm_X4_readRound d) s m args below meth c H locs 0 0 (MQ below (va_Qv Q (xr_B D (cs_ty cI cJ cR) (cs_w ad cI cR Ln) A) A) args s 0 0 A) (F0 m 21 ls []) := by
  obtain ⟨⟨hx, hb, hml, hown, hts⟩, hrt, hlk⟩ := id fx
  have hf : 0 ≤ (rm_X4_readRound d).cells ∧ 0 ≤ (rm_X4_readRound d).slots := ⟨Nat.zero_le _, Nat.zero_le _⟩
  unfold wp_X4_readRound_21 at h
  refine lv_aload_n hx hb dX4_readRound_21 rfl (lv_at hl 0 rfl) ?_
  refine lv_bipush (v := 40) hx hb dX4_readRound_22 (by decide) ?_
  refine lv_iload_n hx hb dX4_readRound_24 rfl (lv_at hl 1 rfl) ?_
  refine xr_vI (n := 2) (As := [.int 40, .int v1]) (rest := []) fx (ct_X4_opens l D ad cI cJ cR Ln h) gX4_readRound_X4_opens rfl rfl (by decide +kernel) (by constructor <;> simp [rm_X4_readRound, rm_X4_opens] <;> omega) ⟨rfl, rfl⟩ hf (cs_recv 6 3 (by decide) rfl rfl hK hP) hK hP hD hS hA hl.1 rfl (Nat.le_of_ble_eq_true rfl) dX4_readRound_25 (fun r10 S9 H locs h hP hD hS => ?_)
  refine lv_if_ne (tgt := 32) hx hb dX4_readRound_28 (by decide) (fun c28 => ?_) (fun c28 => ?_)
  · have h := h.1 c28
    refine lv_aload_n hx hb dX4_readRound_32 rfl (lv_at hl 0 rfl) ?_
    refine lv_iload_n hx hb dX4_readRound_33 rfl (lv_at hl 1 rfl) ?_
    refine lv_iconst (v := 1) hx hb dX4_readRound_34 (by decide) ?_
    refine lv_iadd hx hb dX4_readRound_35 ?_
    refine xr_vR (n := 1) (As := [.int (v1 + 1)]) (rest := []) fx (ct_X4_wholeOf l D ad cI cJ cR Ln h) gX4_readRound_X4_wholeOf rfl rfl (by decide +kernel) (by constructor <;> simp [rm_X4_readRound, rm_X4_wholeOf] <;> omega) ⟨rfl, rfl⟩ hf (cs_recv 6 3 (by decide) rfl rfl hK hP) hK hP hD hS hA hl.1 rfl (Nat.le_of_ble_eq_true rfl) dX4_readRound_36 (fun r12 S11 H locs h hP hD hS => ?_)
    refine lv_astore_n (lv' := [(3, .ref (ad (9 + r12))), (0, .ref (ad 6)), (1, .int v1), (2, .int v2)]) hx hb dX4_readRound_39 rfl hl (by decide) rfl (fun ls hl => ?_)
    refine lv_aload_n hx hb dX4_readRound_40 rfl (lv_at hl 1 rfl) ?_
    refine lv_iload_n hx hb dX4_readRound_41 rfl (lv_at hl 2 rfl) ?_
    refine lv_iconst (v := 1) hx hb dX4_readRound_42 (by decide) ?_
    refine lv_iadd hx hb dX4_readRound_43 ?_
    refine xr_vV (n := 1) (As := [.int (v1 + 1)]) (rest := []) fx (hR _ _ _ h) gX4_readRound_X4_readText rfl rfl (by decide +kernel) (by constructor <;> simp [rm_X4_readRound, rm_X4_readText] <;> omega) ⟨rfl, rfl⟩ hf (cs_recv 6 3 (by decide) rfl rfl hK hP) hK hP hD hS hA hl.1 rfl (Nat.le_of_ble_eq_true rfl) dX4_readRound_44 (fun S13 H locs h hP hD hS => ?_)
    refine lv_aload_n hx hb dX4_readRound_47 rfl (lv_at hl 1 rfl) ?_
    refine lv_bipush (v := 41) hx hb dX4_readRound_48 (by decide) ?_
    refine xr_vI (n := 1) (As := [.int 41]) (rest := []) fx (ct_X4_goesOn l D ad cI cJ cR Ln h) gX4_readRound_X4_goesOn rfl rfl (by decide +kernel) (by constructor <;> simp [rm_X4_readRound, rm_X4_goesOn] <;> omega) ⟨rfl, rfl⟩ hf (cs_recv 6 3 (by decide) rfl rfl hK hP) hK hP hD hS hA hl.1 rfl (Nat.le_of_ble_eq_true rfl) dX4_readRound_50 (fun r15 S14 H locs h hP hD hS => ?_)
    refine lv_if_ne (tgt := 57) hx hb dX4_readRound_53 (by decide) (fun c53 => ?_) (fun c53 => ?_)
    · have h := h.1 c53
      refine lv_iload_n hx hb dX4_readRound_57 rfl (lv_at hl 3 rfl) ?_
      refine lv_bipush (v := 69) hx hb dX4_readRound_58 (by decide) ?_
      refine lv_icmp_ne (tgt := 81) hx hb dX4_readRound_60 (by decide) (fun c60 => ?_) (fun c60 => ?_)
      · have h := h.1 c60
        exact kw_X4_readRound_81 fx hK hA hR hP hD hS (lv_sub hl [1, 2, 3, 0] rfl) h
      · have h := h.2 c60
        refine lv_aload_n hx hb dX4_readRound_63 rfl (lv_at hl 0 rfl) ?_
        refine lv_iconst (v := 0) hx hb dX4_readRound_64 (by decide) ?_
        obtain ⟨hk17, h⟩ := h
        obtain ⟨hi16, h⟩ := h
        refine cs_iald r12 hk17 fx hK hP hi16 dX4_readRound_65 ?_
        refine lv_if_ne (tgt := 81) hx hb dX4_readRound_66 (by decide) (fun c66 => ?_) (fun c66 => ?_)
        · have h := h.1 c66
          exact kw_X4_readRound_81 fx hK hA hR hP hD hS (lv_sub hl [1, 2, 3, 0] rfl) h
        · have h := h.2 c66
          refine lv_aload_n hx hb dX4_readRound_69 rfl (lv_at hl 1 rfl) ?_
          refine cs_get 6 3 2 (v := .ref (ad 2)) (ref := "BracketLetters$Reader") fx (by decide) rfl rfl in_X4_readRound_X4 (by decide) rfl (by decide +kernel) rfl hK hP dX4_readRound_70 ?_
          refine lv_aload_n hx hb dX4_readRound_73 rfl (lv_at hl 0 rfl) ?_
          refine lv_aload_n hx hb dX4_readRound_74 rfl (lv_at hl 0 rfl) ?_
          refine xr_vV (n := 2) (As := [.ref (ad (9 + r12)), .ref (ad (9 + r12))]) (rest := []) fx (ct_X0_raise l D ad cI cJ cR Ln h) gX4_readRound_X0_raise rfl rfl (by decide +kernel) (by constructor <;> simp [rm_X4_readRound, rm_X0_raise] <;> omega) ⟨rfl, rfl⟩ hf (cs_recv 2 0 (by decide) rfl rfl hK hP) hK hP hD hS hA hl.1 rfl (Nat.le_of_ble_eq_true rfl) dX4_readRound_75 (fun S18 H locs h hP hD hS => ?_)
          refine lv_goto (tgt := 117) hx hb dX4_readRound_78 (by decide) ?_
          exact kw_X4_readRound_117 fx hK hA hR hP hD hS (lv_sub hl [1, 2, 0] rfl) h
    · have h := h.2 c53
      exact xr_rV fx hK hP hD hS h dX4_readRound_56
  · have h := h.2 c28
    exact xr_rV fx hK hP hD hS h dX4_readRound_31
set_option maxHeartbeats 4000000 in
set_option maxRecDepth 100000 in
theorem ct_X4_readRound (l : Launch) (D : va_G) (ad : Nat → Nat) (cI cJ cR : ClassId) (Ln : Nat → Nat) (d : Nat) {R : cs_T → Int32 → (cs_T → Prop) → Prop} (hR : ∀ (S : cs_T) (b0 : Int32) (Q : cs_T → Prop), R S b0 Q → xr_V l D (cs_ty cI cJ cR) (cs_w ad cI cR Ln) yX4_readText wsX4_readText (rm_X4_readText d) [.ref (ad 6), .int b0] S Q) {S : cs_T} {a1 : Int32} {Q : cs_T → Prop} (h : wp_X4_readRound R Ln S a1 Q) : xr_V l D (cs_ty cI cJ cR) (cs_w ad cI cR Ln) yX4_readRound wsX4_readRound (rm_X4_readRound d) [.ref (ad 6), .int a1] S Q := by
  refine xr_eV (cc := cX4_readRound) (nL := 4) (ret := none) (own := RX4) (by decide) rfl rfl (Nat.le_of_ble_eq_true rfl) ?_
  intro p e s m args below meth c ls A fx hK hA hP hD hS hl
  have hl : lv_has ls 4 [(0, .ref (ad 6)), (1, .int a1)] := hl
  show W p l e (rm_X4_readRound d) s m args below meth c s.heap [] 0 0 _ _
  obtain ⟨⟨hx, hb, hml, hown, hts⟩, hrt, hlk⟩ := id fx
  have hf : 0 ≤ (rm_X4_readRound d).cells ∧ 0 ≤ (rm_X4_readRound d).slots := ⟨Nat.zero_le _, Nat.zero_le _⟩
  unfold wp_X4_readRound at h
  refine lv_aload_n hx hb dX4_readRound_0 rfl (lv_at hl 0 rfl) ?_
  refine xr_vI (n := 0) (As := []) (rest := []) fx (ct_X4_hand l D ad cI cJ cR Ln h) gX4_readRound_X4_hand rfl rfl (by decide +kernel) (by constructor <;> simp [rm_X4_readRound, rm_X4_hand] <;> omega) ⟨rfl, rfl⟩ hf (cs_recv 6 3 (by decide) rfl rfl hK hP) hK hP hD hS hA hl.1 rfl (Nat.le_of_ble_eq_true rfl) dX4_readRound_1 (fun r20 S19 H locs h hP hD hS => ?_)
  refine lv_istore_n (lv' := [(2, .int r20), (0, .ref (ad 6)), (1, .int a1)]) hx hb dX4_readRound_4 rfl hl (by decide) rfl (fun ls hl => ?_)
  refine lv_iload_n hx hb dX4_readRound_5 rfl (lv_at hl 0 rfl) ?_
  refine lv_bipush (v := 40) hx hb dX4_readRound_6 (by decide) ?_
  refine lv_icmp_eq (tgt := 21) hx hb dX4_readRound_8 (by decide) (fun c8 => ?_) (fun c8 => ?_)
  · have h := h.1 c8
    exact kw_X4_readRound_21 fx hK hA hR hP hD hS (lv_sub hl [1, 2, 0] rfl) h
  · have h := h.2 c8
    refine lv_aload_n hx hb dX4_readRound_11 rfl (lv_at hl 1 rfl) ?_
    refine lv_dup hx hb dX4_readRound_12 rfl ?_
    refine cs_get 6 3 6 (v := .int (S19.1 6)) (ref := "BracketLetters$Reader") fx (by decide) rfl rfl in_X4_readRound_X4 (by decide) rfl (by decide +kernel) rfl hK hP dX4_readRound_13 ?_
    refine lv_iconst (v := 1) hx hb dX4_readRound_16 (by decide) ?_
    refine lv_iadd hx hb dX4_readRound_17 ?_
    refine cs_put 6 3 6 6 (ref := "BracketLetters$Reader") (ty := .int) tyX4 tyX4_ok nmX4 fx (by decide) rfl rfl in_X4_readRound_X4 (by decide) (Nat.le_of_ble_eq_true rfl) cs_f6_6 (by decide +kernel) rfl rfl (by decide +kernel) rfl rfl hK hP hD hS dX4_readRound_18 (fun H locs hP hD hS => ?_)
    exact kw_X4_readRound_21 fx hK hA hR hP hD hS (lv_sub hl [1, 2, 0] rfl) h
theorem in_X4_readFactor_X4 : ∀ w ∈ wsX40, w ∈ wsX4_readFactor := by decide +kernel
set_option maxHeartbeats 4000000 in
set_option maxRecDepth 100000 in
theorem ct_X4_readFactor (l : Launch) (D : va_G) (ad : Nat → Nat) (cI cJ cR : ClassId) (Ln : Nat → Nat) (d : Nat) {R : cs_T → Int32 → (cs_T → Prop) → Prop} (hR : ∀ (S : cs_T) (b0 : Int32) (Q : cs_T → Prop), R S b0 Q → xr_V l D (cs_ty cI cJ cR) (cs_w ad cI cR Ln) yX4_readText wsX4_readText (rm_X4_readText d) [.ref (ad 6), .int b0] S Q) {S : cs_T} {a1 : Int32} {Q : cs_T → Prop} (h : wp_X4_readFactor R Ln S a1 Q) : xr_V l D (cs_ty cI cJ cR) (cs_w ad cI cR Ln) yX4_readFactor wsX4_readFactor (rm_X4_readFactor d) [.ref (ad 6), .int a1] S Q := by
  refine xr_eV (cc := cX4_readFactor) (nL := 3) (ret := none) (own := RX4) (by decide) rfl rfl (Nat.le_of_ble_eq_true rfl) ?_
  intro p e s m args below meth c ls A fx hK hA hP hD hS hl
  have hl : lv_has ls 3 [(0, .ref (ad 6)), (1, .int a1)] := hl
  show W p l e (rm_X4_readFactor d) s m args below meth c s.heap [] 0 0 _ _
  obtain ⟨⟨hx, hb, hml, hown, hts⟩, hrt, hlk⟩ := id fx
  have hf : 0 ≤ (rm_X4_readFactor d).cells ∧ 0 ≤ (rm_X4_readFactor d).slots := ⟨Nat.zero_le _, Nat.zero_le _⟩
  unfold wp_X4_readFactor at h
  refine lv_aload_n hx hb dX4_readFactor_0 rfl (lv_at hl 0 rfl) ?_
  refine xr_vI (n := 0) (As := []) (rest := []) fx (ct_X4_hand l D ad cI cJ cR Ln h) gX4_readFactor_X4_hand rfl rfl (by decide +kernel) (by constructor <;> simp [rm_X4_readFactor, rm_X4_hand] <;> omega) ⟨rfl, rfl⟩ hf (cs_recv 6 3 (by decide) rfl rfl hK hP) hK hP hD hS hA hl.1 rfl (Nat.le_of_ble_eq_true rfl) dX4_readFactor_1 (fun r2 S1 H locs h hP hD hS => ?_)
  refine lv_istore_n (lv' := [(2, .int r2), (0, .ref (ad 6)), (1, .int a1)]) hx hb dX4_readFactor_4 rfl hl (by decide) rfl (fun ls hl => ?_)
  refine lv_aload_n hx hb dX4_readFactor_5 rfl (lv_at hl 1 rfl) ?_
  refine lv_iload_n hx hb dX4_readFactor_6 rfl (lv_at hl 0 rfl) ?_
  refine xr_vI (n := 1) (As := [.int r2]) (rest := []) fx (ct_X4_isDigit l D ad cI cJ cR Ln h) gX4_readFactor_X4_isDigit rfl rfl (by decide +kernel) (by constructor <;> simp [rm_X4_readFactor, rm_X4_isDigit] <;> omega) ⟨rfl, rfl⟩ hf (cs_recv 6 3 (by decide) rfl rfl hK hP) hK hP hD hS hA hl.1 rfl (Nat.le_of_ble_eq_true rfl) dX4_readFactor_7 (fun r4 S3 H locs h hP hD hS => ?_)
  refine lv_if_eq (tgt := 32) hx hb dX4_readFactor_10 (by decide) (fun c10 => ?_) (fun c10 => ?_)
  · have h := h.1 c10
    refine lv_aload_n hx hb dX4_readFactor_32 rfl (lv_at hl 1 rfl) ?_
    refine lv_iload_n hx hb dX4_readFactor_33 rfl (lv_at hl 0 rfl) ?_
    refine xr_vI (n := 1) (As := [.int r2]) (rest := []) fx (ct_X4_isLetter l D ad cI cJ cR Ln h) gX4_readFactor_X4_isLetter rfl rfl (by decide +kernel) (by constructor <;> simp [rm_X4_readFactor, rm_X4_isLetter] <;> omega) ⟨rfl, rfl⟩ hf (cs_recv 6 3 (by decide) rfl rfl hK hP) hK hP hD hS hA hl.1 rfl (Nat.le_of_ble_eq_true rfl) dX4_readFactor_34 (fun r6 S5 H locs h hP hD hS => ?_)
    refine lv_if_eq (tgt := 69) hx hb dX4_readFactor_37 (by decide) (fun c37 => ?_) (fun c37 => ?_)
    · have h := h.1 c37
      refine lv_iload_n hx hb dX4_readFactor_69 rfl (lv_at hl 0 rfl) ?_
      refine lv_bipush (v := 114) hx hb dX4_readFactor_70 (by decide) ?_
      refine lv_icmp_ne (tgt := 93) hx hb dX4_readFactor_72 (by decide) (fun c72 => ?_) (fun c72 => ?_)
      · have h := h.1 c72
        refine lv_iload_n hx hb dX4_readFactor_93 rfl (lv_at hl 0 rfl) ?_
        refine lv_bipush (v := 91) hx hb dX4_readFactor_94 (by decide) ?_
        refine lv_icmp_ne (tgt := 107) hx hb dX4_readFactor_96 (by decide) (fun c96 => ?_) (fun c96 => ?_)
        · have h := h.1 c96
          refine lv_aload_n hx hb dX4_readFactor_107 rfl (lv_at hl 1 rfl) ?_
          refine lv_iload_n hx hb dX4_readFactor_108 rfl (lv_at hl 2 rfl) ?_
          refine xr_vV (n := 1) (As := [.int a1]) (rest := []) fx (ct_X4_readRound l D ad cI cJ cR Ln d hR h) gX4_readFactor_X4_readRound rfl rfl (by decide +kernel) (by constructor <;> simp [rm_X4_readFactor, rm_X4_readRound] <;> omega) ⟨rfl, rfl⟩ hf (cs_recv 6 3 (by decide) rfl rfl hK hP) hK hP hD hS hA hl.1 rfl (Nat.le_of_ble_eq_true rfl) dX4_readFactor_109 (fun S7 H locs h hP hD hS => ?_)
          exact xr_rV fx hK hP hD hS h dX4_readFactor_112
        · have h := h.2 c96
          refine lv_aload_n hx hb dX4_readFactor_99 rfl (lv_at hl 1 rfl) ?_
          refine lv_iload_n hx hb dX4_readFactor_100 rfl (lv_at hl 2 rfl) ?_
          refine xr_vV (n := 1) (As := [.int a1]) (rest := []) fx (ct_X4_readBracket l D ad cI cJ cR Ln d hR h) gX4_readFactor_X4_readBracket rfl rfl (by decide +kernel) (by constructor <;> simp [rm_X4_readFactor, rm_X4_readBracket] <;> omega) ⟨rfl, rfl⟩ hf (cs_recv 6 3 (by decide) rfl rfl hK hP) hK hP hD hS hA hl.1 rfl (Nat.le_of_ble_eq_true rfl) dX4_readFactor_101 (fun S8 H locs h hP hD hS => ?_)
          refine lv_goto (tgt := 112) hx hb dX4_readFactor_104 (by decide) ?_
          exact xr_rV fx hK hP hD hS h dX4_readFactor_112
      · have h := h.2 c72
        refine lv_aload_n hx hb dX4_readFactor_75 rfl (lv_at hl 1 rfl) ?_
        refine lv_dup hx hb dX4_readFactor_76 rfl ?_
        refine cs_get 6 3 6 (v := .int (S5.1 6)) (ref := "BracketLetters$Reader") fx (by decide) rfl rfl in_X4_readFactor_X4 (by decide) rfl (by decide +kernel) rfl hK hP dX4_readFactor_77 ?_
        refine lv_iconst (v := 1) hx hb dX4_readFactor_80 (by decide) ?_
        refine lv_iadd hx hb dX4_readFactor_81 ?_
        refine cs_put 6 3 6 6 (ref := "BracketLetters$Reader") (ty := .int) tyX4 tyX4_ok nmX4 fx (by decide) rfl rfl in_X4_readFactor_X4 (by decide) (Nat.le_of_ble_eq_true rfl) cs_f6_6 (by decide +kernel) rfl rfl (by decide +kernel) rfl rfl hK hP hD hS dX4_readFactor_82 (fun H locs hP hD hS => ?_)
        refine lv_aload_n hx hb dX4_readFactor_85 rfl (lv_at hl 1 rfl) ?_
        refine lv_iload_n hx hb dX4_readFactor_86 rfl (lv_at hl 2 rfl) ?_
        refine xr_vV (n := 1) (As := [.int a1]) (rest := []) fx (ct_X4_readSum l D ad cI cJ cR Ln h) gX4_readFactor_X4_readSum rfl rfl (by decide +kernel) (by constructor <;> simp [rm_X4_readFactor, rm_X4_readSum] <;> omega) ⟨rfl, rfl⟩ hf (cs_recv 6 3 (by decide) rfl rfl hK hP) hK hP hD hS hA hl.1 rfl (Nat.le_of_ble_eq_true rfl) dX4_readFactor_87 (fun S9 H locs h hP hD hS => ?_)
        refine lv_goto (tgt := 112) hx hb dX4_readFactor_90 (by decide) ?_
        exact xr_rV fx hK hP hD hS h dX4_readFactor_112
    · have h := h.2 c37
      refine lv_aload_n hx hb dX4_readFactor_40 rfl (lv_at hl 1 rfl) ?_
      refine lv_dup hx hb dX4_readFactor_41 rfl ?_
      refine cs_get 6 3 6 (v := .int (S5.1 6)) (ref := "BracketLetters$Reader") fx (by decide) rfl rfl in_X4_readFactor_X4 (by decide) rfl (by decide +kernel) rfl hK hP dX4_readFactor_42 ?_
      refine lv_iconst (v := 1) hx hb dX4_readFactor_45 (by decide) ?_
      refine lv_iadd hx hb dX4_readFactor_46 ?_
      refine cs_put 6 3 6 6 (ref := "BracketLetters$Reader") (ty := .int) tyX4 tyX4_ok nmX4 fx (by decide) rfl rfl in_X4_readFactor_X4 (by decide) (Nat.le_of_ble_eq_true rfl) cs_f6_6 (by decide +kernel) rfl rfl (by decide +kernel) rfl rfl hK hP hD hS dX4_readFactor_47 (fun H locs hP hD hS => ?_)
      refine lv_aload_n hx hb dX4_readFactor_50 rfl (lv_at hl 1 rfl) ?_
      refine cs_get 6 3 2 (v := .ref (ad 2)) (ref := "BracketLetters$Reader") fx (by decide) rfl rfl in_X4_readFactor_X4 (by decide) rfl (by decide +kernel) rfl hK hP dX4_readFactor_51 ?_
      refine lv_aload_n hx hb dX4_readFactor_54 rfl (lv_at hl 1 rfl) ?_
      refine lv_iload_n hx hb dX4_readFactor_55 rfl (lv_at hl 2 rfl) ?_
      refine xr_vR (n := 1) (As := [.int a1]) (rest := [.ref (ad 2)]) fx (ct_X4_termOf l D ad cI cJ cR Ln h) gX4_readFactor_X4_termOf rfl rfl (by decide +kernel) (by constructor <;> simp [rm_X4_readFactor, rm_X4_termOf] <;> omega) ⟨rfl, rfl⟩ hf (cs_recv 6 3 (by decide) rfl rfl hK hP) hK hP hD hS hA hl.1 rfl (Nat.le_of_ble_eq_true rfl) dX4_readFactor_56 (fun r11 S10 H locs h hP hD hS => ?_)
      refine lv_iload_n hx hb dX4_readFactor_59 rfl (lv_at hl 0 rfl) ?_
      refine lv_bipush (v := 97) hx hb dX4_readFactor_60 (by decide) ?_
      refine lv_isub hx hb dX4_readFactor_62 ?_
      refine xr_vV (n := 2) (As := [.ref (ad (9 + r11)), .int (r2 - 97)]) (rest := []) fx (ct_X0_multiplyByLetter l D ad cI cJ cR Ln h) gX4_readFactor_X0_multiplyByLetter rfl rfl (by decide +kernel) (by constructor <;> simp [rm_X4_readFactor, rm_X0_multiplyByLetter] <;> omega) ⟨rfl, rfl⟩ hf (cs_recv 2 0 (by decide) rfl rfl hK hP) hK hP hD hS hA hl.1 rfl (Nat.le_of_ble_eq_true rfl) dX4_readFactor_63 (fun S12 H locs h hP hD hS => ?_)
      refine lv_goto (tgt := 112) hx hb dX4_readFactor_66 (by decide) ?_
      exact xr_rV fx hK hP hD hS h dX4_readFactor_112
  · have h := h.2 c10
    refine lv_aload_n hx hb dX4_readFactor_13 rfl (lv_at hl 1 rfl) ?_
    refine cs_get 6 3 2 (v := .ref (ad 2)) (ref := "BracketLetters$Reader") fx (by decide) rfl rfl in_X4_readFactor_X4 (by decide) rfl (by decide +kernel) rfl hK hP dX4_readFactor_14 ?_
    refine lv_aload_n hx hb dX4_readFactor_17 rfl (lv_at hl 1 rfl) ?_
    refine lv_iload_n hx hb dX4_readFactor_18 rfl (lv_at hl 2 rfl) ?_
    refine xr_vR (n := 1) (As := [.int a1]) (rest := [.ref (ad 2)]) fx (ct_X4_termOf l D ad cI cJ cR Ln h) gX4_readFactor_X4_termOf rfl rfl (by decide +kernel) (by constructor <;> simp [rm_X4_readFactor, rm_X4_termOf] <;> omega) ⟨rfl, rfl⟩ hf (cs_recv 6 3 (by decide) rfl rfl hK hP) hK hP hD hS hA hl.1 rfl (Nat.le_of_ble_eq_true rfl) dX4_readFactor_19 (fun r14 S13 H locs h hP hD hS => ?_)
    refine lv_aload_n hx hb dX4_readFactor_22 rfl (lv_at hl 1 rfl) ?_
    refine xr_vI (n := 0) (As := []) (rest := [.ref (ad (9 + r14)), .ref (ad 2)]) fx (ct_X4_readNumber l D ad cI cJ cR Ln h) gX4_readFactor_X4_readNumber rfl rfl (by decide +kernel) (by constructor <;> simp [rm_X4_readFactor, rm_X4_readNumber] <;> omega) ⟨rfl, rfl⟩ hf (cs_recv 6 3 (by decide) rfl rfl hK hP) hK hP hD hS hA hl.1 rfl (Nat.le_of_ble_eq_true rfl) dX4_readFactor_23 (fun r16 S15 H locs h hP hD hS => ?_)
    refine xr_vV (n := 2) (As := [.ref (ad (9 + r14)), .int r16]) (rest := []) fx (ct_X0_scale l D ad cI cJ cR Ln h) gX4_readFactor_X0_scale rfl rfl (by decide +kernel) (by constructor <;> simp [rm_X4_readFactor, rm_X0_scale] <;> omega) ⟨rfl, rfl⟩ hf (cs_recv 2 0 (by decide) rfl rfl hK hP) hK hP hD hS hA hl.1 rfl (Nat.le_of_ble_eq_true rfl) dX4_readFactor_26 (fun S17 H locs h hP hD hS => ?_)
    refine lv_goto (tgt := 112) hx hb dX4_readFactor_29 (by decide) ?_
    exact xr_rV fx hK hP hD hS h dX4_readFactor_112
theorem in_X4_readTerm_X4 : ∀ w ∈ wsX40, w ∈ wsX4_readTerm := by decide +kernel
set_option maxHeartbeats 4000000 in
set_option maxRecDepth 100000 in
theorem kw_X4_readTerm_71 {p : Program} {l : Launch} {e : Env} {s : State} {m : MethodId} {args : Array Value} {below : List Frame} {meth : Method} {c : Code} {D : va_G} {ad : Nat → Nat} {cI cJ cR : ClassId} {Ln : Nat → Nat} {A : Nat → Prop} {R : cs_T → Int32 → (cs_T → Prop) → Prop} {d : Nat}  {Q : cs_T → Prop} {S : cs_T} {v1 : Int32} (fx : xr_Fx p m c meth cX4_readTerm 3 s args wsX4_readTerm RX4 none) (hK : xr_K D (cs_ty cI cJ cR) s) (hA : ∀ q, s.heap.size ≤ q → A q) (hR : ∀ (S : cs_T) (b0 : Int32) (Q : cs_T → Prop), R S b0 Q → xr_V l D (cs_ty cI cJ cR) (cs_w ad cI cR Ln) yX4_readText wsX4_readText (rm_X4_readText d) [.ref (ad 6), .int b0] S Q)  {H : Heap} {locs : List Loc} {ls : Array Slot} (hP : va_P D vwCl (cs_w ad cI cR Ln S) H) (hD : va_D A (cs_w ad cI cR Ln S)) (hS : va_S A s.heap H locs) (hl : lv_has ls 3 [(0, .ref (ad 6)), (1, .int v1)]) (h : wp_X4_readTerm_71 R Ln Q S v1) : W p l e (rm_X4_readTerm d) s m args below meth c H locs 0 0 (MQ below (va_Qv Q (xr_B D (cs_ty cI cJ cR) (cs_w ad cI cR Ln) A) A) args s 0 0 A) (F0 m 71 ls []) := by
  obtain ⟨⟨hx, hb, hml, hown, hts⟩, hrt, hlk⟩ := id fx
  have hf : 0 ≤ (rm_X4_readTerm d).cells ∧ 0 ≤ (rm_X4_readTerm d).slots := ⟨Nat.zero_le _, Nat.zero_le _⟩
  unfold wp_X4_readTerm_71 at h
  refine lv_aload_n hx hb dX4_readTerm_71 rfl (lv_at hl 0 rfl) ?_
  refine xr_vI (n := 0) (As := []) (rest := []) fx (ct_X4_hand l D ad cI cJ cR Ln h) gX4_readTerm_X4_hand rfl rfl (by decide +kernel) (by constructor <;> simp [rm_X4_readTerm, rm_X4_hand] <;> omega) ⟨rfl, rfl⟩ hf (cs_recv 6 3 (by decide) rfl rfl hK hP) hK hP hD hS hA hl.1 rfl (Nat.le_of_ble_eq_true rfl) dX4_readTerm_72 (fun r2 S1 H locs h hP hD hS => ?_)
  refine lv_bipush (v := 47) hx hb dX4_readTerm_75 (by decide) ?_
  refine lv_icmp_ne (tgt := 95) hx hb dX4_readTerm_77 (by decide) (fun c77 => ?_) (fun c77 => ?_)
  · have h := h.1 c77
    exact xr_rV fx hK hP hD hS h dX4_readTerm_95
  · have h := h.2 c77
    refine lv_aload_n hx hb dX4_readTerm_80 rfl (lv_at hl 0 rfl) ?_
    refine lv_dup hx hb dX4_readTerm_81 rfl ?_
    refine cs_get 6 3 6 (v := .int (S1.1 6)) (ref := "BracketLetters$Reader") fx (by decide) rfl rfl in_X4_readTerm_X4 (by decide) rfl (by decide +kernel) rfl hK hP dX4_readTerm_82 ?_
    refine lv_iconst (v := 1) hx hb dX4_readTerm_85 (by decide) ?_
    refine lv_iadd hx hb dX4_readTerm_86 ?_
    refine cs_put 6 3 6 6 (ref := "BracketLetters$Reader") (ty := .int) tyX4 tyX4_ok nmX4 fx (by decide) rfl rfl in_X4_readTerm_X4 (by decide) (Nat.le_of_ble_eq_true rfl) cs_f6_6 (by decide +kernel) rfl rfl (by decide +kernel) rfl rfl hK hP hD hS dX4_readTerm_87 (fun H locs hP hD hS => ?_)
    refine lv_aload_n hx hb dX4_readTerm_90 rfl (lv_at hl 0 rfl) ?_
    refine lv_iload_n hx hb dX4_readTerm_91 rfl (lv_at hl 1 rfl) ?_
    refine xr_vV (n := 1) (As := [.int v1]) (rest := []) fx (ct_X4_readDivisor l D ad cI cJ cR Ln h) gX4_readTerm_X4_readDivisor rfl rfl (by decide +kernel) (by constructor <;> simp [rm_X4_readTerm, rm_X4_readDivisor] <;> omega) ⟨rfl, rfl⟩ hf (cs_recv 6 3 (by decide) rfl rfl hK hP) hK hP hD hS hA hl.1 rfl (Nat.le_of_ble_eq_true rfl) dX4_readTerm_92 (fun S3 H locs h hP hD hS => ?_)
    exact xr_rV fx hK hP hD hS h dX4_readTerm_95
set_option maxHeartbeats 4000000 in
set_option maxRecDepth 100000 in
theorem kb_X4_readTerm_35 {p : Program} {l : Launch} {e : Env} {s : State} {m : MethodId} {args : Array Value} {below : List Frame} {meth : Method} {c : Code} {D : va_G} {ad : Nat → Nat} {cI cJ cR : ClassId} {Ln : Nat → Nat} {A : Nat → Prop} {R : cs_T → Int32 → (cs_T → Prop) → Prop} {d : Nat}  {K35 : cs_T → Int32 → Int32 → Prop} {Q : cs_T → Prop} {S : cs_T} {v1 : Int32} {v2 : Int32} (fx : xr_Fx p m c meth cX4_readTerm 3 s args wsX4_readTerm RX4 none) (hK : xr_K D (cs_ty cI cJ cR) s) (hA : ∀ q, s.heap.size ≤ q → A q) (hR : ∀ (S : cs_T) (b0 : Int32) (Q : cs_T → Prop), R S b0 Q → xr_V l D (cs_ty cI cJ cR) (cs_w ad cI cR Ln) yX4_readText wsX4_readText (rm_X4_readText d) [.ref (ad 6), .int b0] S Q)  (k35 : ∀ (S : cs_T) (v1 : Int32) (v2 : Int32) {H : Heap} {locs : List Loc} {ls : Array Slot}, va_P D vwCl (cs_w ad cI cR Ln S) H → va_D A (cs_w ad cI cR Ln S) → va_S A s.heap H locs → lv_has ls 3 [(0, .ref (ad 6)), (1, .int v1), (2, .int v2)] → K35 S v1 v2 → W p l e (rm_X4_readTerm d) s m args below meth c H locs 0 0 (MQ below (va_Qv Q (xr_B D (cs_ty cI cJ cR) (cs_w ad cI cR Ln) A) A) args s 0 0 A) (F0 m 35 ls [])) {H : Heap} {locs : List Loc} {ls : Array Slot} (hP : va_P D vwCl (cs_w ad cI cR Ln S) H) (hD : va_D A (cs_w ad cI cR Ln S)) (hS : va_S A s.heap H locs) (hl : lv_has ls 3 [(0, .ref (ad 6)), (1, .int v1), (2, .int v2)]) (h : wb_X4_readTerm_35 R Ln K35 Q S v1 v2) : W p l e (rm_X4_readTerm d) s m args below meth c H locs 0 0 (MQ below (va_Qv Q (xr_B D (cs_ty cI cJ cR) (cs_w ad cI cR Ln) A) A) args s 0 0 A) (F0 m 35 ls []) := by
  obtain ⟨⟨hx, hb, hml, hown, hts⟩, hrt, hlk⟩ := id fx
  have hf : 0 ≤ (rm_X4_readTerm d).cells ∧ 0 ≤ (rm_X4_readTerm d).slots := ⟨Nat.zero_le _, Nat.zero_le _⟩
  unfold wb_X4_readTerm_35 at h
  refine lv_iload_n hx hb dX4_readTerm_35 rfl (lv_at hl 2 rfl) ?_
  refine lv_bipush (v := 100) hx hb dX4_readTerm_36 (by decide) ?_
  refine lv_icmp_ge (tgt := 71) hx hb dX4_readTerm_38 (by decide) (fun c38 => ?_) (fun c38 => ?_)
  · have h := h.1 c38
    exact kw_X4_readTerm_71 fx hK hA hR hP hD hS (lv_sub hl [0, 1] rfl) h
  · have h := h.2 c38
    refine lv_aload_n hx hb dX4_readTerm_41 rfl (lv_at hl 0 rfl) ?_
    refine lv_aload_n hx hb dX4_readTerm_42 rfl (lv_at hl 0 rfl) ?_
    refine xr_vI (n := 0) (As := []) (rest := [.ref (ad 6)]) fx (ct_X4_hand l D ad cI cJ cR Ln h) gX4_readTerm_X4_hand rfl rfl (by decide +kernel) (by constructor <;> simp [rm_X4_readTerm, rm_X4_hand] <;> omega) ⟨rfl, rfl⟩ hf (cs_recv 6 3 (by decide) rfl rfl hK hP) hK hP hD hS hA hl.1 rfl (Nat.le_of_ble_eq_true rfl) dX4_readTerm_43 (fun r5 S4 H locs h hP hD hS => ?_)
    refine xr_vI (n := 1) (As := [.int r5]) (rest := []) fx (ct_X4_beginsFactor l D ad cI cJ cR Ln h) gX4_readTerm_X4_beginsFactor rfl rfl (by decide +kernel) (by constructor <;> simp [rm_X4_readTerm, rm_X4_beginsFactor] <;> omega) ⟨rfl, rfl⟩ hf (cs_recv 6 3 (by decide) rfl rfl hK hP) hK hP hD hS hA hl.1 rfl (Nat.le_of_ble_eq_true rfl) dX4_readTerm_46 (fun r7 S6 H locs h hP hD hS => ?_)
    refine lv_if_eq (tgt := 71) hx hb dX4_readTerm_49 (by decide) (fun c49 => ?_) (fun c49 => ?_)
    · have h := h.1 c49
      exact kw_X4_readTerm_71 fx hK hA hR hP hD hS (lv_sub hl [0, 1] rfl) h
    · have h := h.2 c49
      refine lv_aload_n hx hb dX4_readTerm_52 rfl (lv_at hl 0 rfl) ?_
      refine lv_iload_n hx hb dX4_readTerm_53 rfl (lv_at hl 1 rfl) ?_
      refine xr_vV (n := 1) (As := [.int v1]) (rest := []) fx (ct_X4_readFactor l D ad cI cJ cR Ln d hR h) gX4_readTerm_X4_readFactor rfl rfl (by decide +kernel) (by constructor <;> simp [rm_X4_readTerm, rm_X4_readFactor] <;> omega) ⟨rfl, rfl⟩ hf (cs_recv 6 3 (by decide) rfl rfl hK hP) hK hP hD hS hA hl.1 rfl (Nat.le_of_ble_eq_true rfl) dX4_readTerm_54 (fun S8 H locs h hP hD hS => ?_)
      refine lv_aload_n hx hb dX4_readTerm_57 rfl (lv_at hl 0 rfl) ?_
      refine cs_get 6 3 7 (v := .int (S8.1 7)) (ref := "BracketLetters$Reader") fx (by decide) rfl rfl in_X4_readTerm_X4 (by decide) rfl (by decide +kernel) rfl hK hP dX4_readTerm_58 ?_
      refine lv_if_lt (tgt := 65) hx hb dX4_readTerm_61 (by decide) (fun c61 => ?_) (fun c61 => ?_)
      · have h := h.1 c61
        obtain ⟨v2_9, ev2_9⟩ : ∃ z : Int32, z = v2 + 1 := ⟨_, rfl⟩
        have h := h v2_9 ev2_9
        refine lv_iinc (v := v2_9) (lv' := [(2, .int v2_9), (0, .ref (ad 6)), (1, .int v1)]) hx hb dX4_readTerm_65 hl (k := 2) rfl (by rw [ev2_9]; rfl) (by decide) rfl (fun ls hl => ?_)
        refine lv_goto (tgt := 35) hx hb dX4_readTerm_68 (by decide) ?_
        exact k35 _ _ _ hP hD hS (lv_sub hl [1, 2, 0] rfl) h
      · have h := h.2 c61
        exact xr_rV fx hK hP hD hS h dX4_readTerm_64
theorem kw_X4_readTerm_35 {p : Program} {l : Launch} {e : Env} {s : State} {m : MethodId} {args : Array Value} {below : List Frame} {meth : Method} {c : Code} {D : va_G} {ad : Nat → Nat} {cI cJ cR : ClassId} {Ln : Nat → Nat} {A : Nat → Prop} {R : cs_T → Int32 → (cs_T → Prop) → Prop} {d : Nat}  {Q : cs_T → Prop} (fx : xr_Fx p m c meth cX4_readTerm 3 s args wsX4_readTerm RX4 none) (hK : xr_K D (cs_ty cI cJ cR) s) (hA : ∀ q, s.heap.size ≤ q → A q) (hR : ∀ (S : cs_T) (b0 : Int32) (Q : cs_T → Prop), R S b0 Q → xr_V l D (cs_ty cI cJ cR) (cs_w ad cI cR Ln) yX4_readText wsX4_readText (rm_X4_readText d) [.ref (ad 6), .int b0] S Q)  : ∀ (n : Nat) (S : cs_T) (v1 : Int32) (v2 : Int32) {H : Heap} {locs : List Loc} {ls : Array Slot}, va_P D vwCl (cs_w ad cI cR Ln S) H → va_D A (cs_w ad cI cR Ln S) → va_S A s.heap H locs → lv_has ls 3 [(0, .ref (ad 6)), (1, .int v1), (2, .int v2)] → wp_X4_readTerm_35 R Ln Q n S v1 v2 → W p l e (rm_X4_readTerm d) s m args below meth c H locs 0 0 (MQ below (va_Qv Q (xr_B D (cs_ty cI cJ cR) (cs_w ad cI cR Ln) A) A) args s 0 0 A) (F0 m 35 ls []) := by
  intro n
  induction n with
  | zero => intro S v1 v2 H locs ls hP hD hS hl h; exact False.elim h
  | succ n ih => intro S v1 v2 H locs ls hP hD hS hl h; exact kb_X4_readTerm_35 fx hK hA hR ih hP hD hS hl h
set_option maxHeartbeats 4000000 in
set_option maxRecDepth 100000 in
theorem ct_X4_readTerm (l : Launch) (D : va_G) (ad : Nat → Nat) (cI cJ cR : ClassId) (Ln : Nat → Nat) (d : Nat) {R : cs_T → Int32 → (cs_T → Prop) → Prop} (hR : ∀ (S : cs_T) (b0 : Int32) (Q : cs_T → Prop), R S b0 Q → xr_V l D (cs_ty cI cJ cR) (cs_w ad cI cR Ln) yX4_readText wsX4_readText (rm_X4_readText d) [.ref (ad 6), .int b0] S Q) {S : cs_T} {a1 : Int32} {Q : cs_T → Prop} (h : wp_X4_readTerm R Ln S a1 Q) : xr_V l D (cs_ty cI cJ cR) (cs_w ad cI cR Ln) yX4_readTerm wsX4_readTerm (rm_X4_readTerm d) [.ref (ad 6), .int a1] S Q := by
  refine xr_eV (cc := cX4_readTerm) (nL := 3) (ret := none) (own := RX4) (by decide) rfl rfl (Nat.le_of_ble_eq_true rfl) ?_
  intro p e s m args below meth c ls A fx hK hA hP hD hS hl
  have hl : lv_has ls 3 [(0, .ref (ad 6)), (1, .int a1)] := hl
  show W p l e (rm_X4_readTerm d) s m args below meth c s.heap [] 0 0 _ _
  obtain ⟨⟨hx, hb, hml, hown, hts⟩, hrt, hlk⟩ := id fx
  have hf : 0 ≤ (rm_X4_readTerm d).cells ∧ 0 ≤ (rm_X4_readTerm d).slots := ⟨Nat.zero_le _, Nat.zero_le _⟩
  unfold wp_X4_readTerm at h
  refine lv_aload_n hx hb dX4_readTerm_0 rfl (lv_at hl 0 rfl) ?_
  refine cs_get 6 3 2 (v := .ref (ad 2)) (ref := "BracketLetters$Reader") fx (by decide) rfl rfl in_X4_readTerm_X4 (by decide) rfl (by decide +kernel) rfl hK hP dX4_readTerm_1 ?_
  refine lv_aload_n hx hb dX4_readTerm_4 rfl (lv_at hl 0 rfl) ?_
  refine lv_iload_n hx hb dX4_readTerm_5 rfl (lv_at hl 1 rfl) ?_
  refine xr_vR (n := 1) (As := [.int a1]) (rest := [.ref (ad 2)]) fx (ct_X4_termOf l D ad cI cJ cR Ln h) gX4_readTerm_X4_termOf rfl rfl (by decide +kernel) (by constructor <;> simp [rm_X4_readTerm, rm_X4_termOf] <;> omega) ⟨rfl, rfl⟩ hf (cs_recv 6 3 (by decide) rfl rfl hK hP) hK hP hD hS hA hl.1 rfl (Nat.le_of_ble_eq_true rfl) dX4_readTerm_6 (fun r11 S10 H locs h hP hD hS => ?_)
  refine lv_iconst (v := 1) hx hb dX4_readTerm_9 (by decide) ?_
  refine xr_vV (n := 2) (As := [.ref (ad (9 + r11)), .int 1]) (rest := []) fx (ct_X0_setToUnit l D ad cI cJ cR Ln h) gX4_readTerm_X0_setToUnit rfl rfl (by decide +kernel) (by constructor <;> simp [rm_X4_readTerm, rm_X0_setToUnit] <;> omega) ⟨rfl, rfl⟩ hf (cs_recv 2 0 (by decide) rfl rfl hK hP) hK hP hD hS hA hl.1 rfl (Nat.le_of_ble_eq_true rfl) dX4_readTerm_10 (fun S12 H locs h hP hD hS => ?_)
  refine lv_aload_n hx hb dX4_readTerm_13 rfl (lv_at hl 0 rfl) ?_
  refine lv_aload_n hx hb dX4_readTerm_14 rfl (lv_at hl 0 rfl) ?_
  refine xr_vI (n := 0) (As := []) (rest := [.ref (ad 6)]) fx (ct_X4_hand l D ad cI cJ cR Ln h) gX4_readTerm_X4_hand rfl rfl (by decide +kernel) (by constructor <;> simp [rm_X4_readTerm, rm_X4_hand] <;> omega) ⟨rfl, rfl⟩ hf (cs_recv 6 3 (by decide) rfl rfl hK hP) hK hP hD hS hA hl.1 rfl (Nat.le_of_ble_eq_true rfl) dX4_readTerm_15 (fun r14 S13 H locs h hP hD hS => ?_)
  refine xr_vI (n := 1) (As := [.int r14]) (rest := []) fx (ct_X4_beginsFactor l D ad cI cJ cR Ln h) gX4_readTerm_X4_beginsFactor rfl rfl (by decide +kernel) (by constructor <;> simp [rm_X4_readTerm, rm_X4_beginsFactor] <;> omega) ⟨rfl, rfl⟩ hf (cs_recv 6 3 (by decide) rfl rfl hK hP) hK hP hD hS hA hl.1 rfl (Nat.le_of_ble_eq_true rfl) dX4_readTerm_18 (fun r16 S15 H locs h hP hD hS => ?_)
  refine lv_if_ne (tgt := 33) hx hb dX4_readTerm_21 (by decide) (fun c21 => ?_) (fun c21 => ?_)
  · have h := h.1 c21
    refine lv_iconst (v := 0) hx hb dX4_readTerm_33 (by decide) ?_
    refine lv_istore_n (lv' := [(2, .int 0), (0, .ref (ad 6)), (1, .int a1)]) hx hb dX4_readTerm_34 rfl hl (by decide) rfl (fun ls hl => ?_)
    obtain ⟨n, h⟩ := h
    exact kw_X4_readTerm_35 fx hK hA hR n _ _ _ hP hD hS (lv_sub hl [1, 2, 0] rfl) h
  · have h := h.2 c21
    refine lv_aload_n hx hb dX4_readTerm_24 rfl (lv_at hl 0 rfl) ?_
    refine lv_aload_n hx hb dX4_readTerm_25 rfl (lv_at hl 0 rfl) ?_
    refine cs_get 6 3 6 (v := .int (S15.1 6)) (ref := "BracketLetters$Reader") fx (by decide) rfl rfl in_X4_readTerm_X4 (by decide) rfl (by decide +kernel) rfl hK hP dX4_readTerm_26 ?_
    refine cs_put 6 3 7 7 (ref := "BracketLetters$Reader") (ty := .int) tyX4 tyX4_ok nmX4 fx (by decide) rfl rfl in_X4_readTerm_X4 (by decide) (Nat.le_of_ble_eq_true rfl) cs_f6_7 (by decide +kernel) rfl rfl (by decide +kernel) rfl rfl hK hP hD hS dX4_readTerm_29 (fun H locs hP hD hS => ?_)
    exact xr_rV fx hK hP hD hS h dX4_readTerm_32
theorem in_X4_readText_X4 : ∀ w ∈ wsX40, w ∈ wsX4_readText := by decide +kernel
set_option maxHeartbeats 4000000 in
set_option maxRecDepth 100000 in
theorem kw_X4_readText_84 {p : Program} {l : Launch} {e : Env} {s : State} {m : MethodId} {args : Array Value} {below : List Frame} {meth : Method} {c : Code} {D : va_G} {ad : Nat → Nat} {cI cJ cR : ClassId} {Ln : Nat → Nat} {A : Nat → Prop} {R : cs_T → Int32 → (cs_T → Prop) → Prop} {d : Nat} {K16 : cs_T → Int32 → Nat → Int32 → Int32 → Prop} {Q : cs_T → Prop} {S : cs_T} {v1 : Int32} {v2 : Nat} {v4 : Int32} {s0 : Int32} (fx : xr_Fx p m c meth cX4_readText 6 s args wsX4_readText RX4 none) (hK : xr_K D (cs_ty cI cJ cR) s) (hA : ∀ q, s.heap.size ≤ q → A q) (hR : ∀ (S : cs_T) (b0 : Int32) (Q : cs_T → Prop), R S b0 Q → xr_V l D (cs_ty cI cJ cR) (cs_w ad cI cR Ln) yX4_readText wsX4_readText (rm_X4_readText d) [.ref (ad 6), .int b0] S Q) (k16 : ∀ (S : cs_T) (v1 : Int32) (v2 : Nat) (v3 : Int32) (v4 : Int32) {H : Heap} {locs : List Loc} {ls : Array Slot}, va_P D vwCl (cs_w ad cI cR Ln S) H → va_D A (cs_w ad cI cR Ln S) → va_S A s.heap H locs → lv_has ls 6 [(0, .ref (ad 6)), (1, .int v1), (2, .ref (ad (9 + v2))), (3, .int v3), (4, .int v4)] → K16 S v1 v2 v3 v4 → W p l e (rm_X4_readText (d + 1)) s m args below meth c H locs 0 0 (MQ below (va_Qv Q (xr_B D (cs_ty cI cJ cR) (cs_w ad cI cR Ln) A) A) args s 0 0 A) (F0 m 16 ls [])) {H : Heap} {locs : List Loc} {ls : Array Slot} (hP : va_P D vwCl (cs_w ad cI cR Ln S) H) (hD : va_D A (cs_w ad cI cR Ln S)) (hS : va_S A s.heap H locs) (hl : lv_has ls 6 [(0, .ref (ad 6)), (1, .int v1), (2, .ref (ad (9 + v2))), (4, .int v4)]) (h : wp_X4_readText_84 R Ln K16 Q S v1 v2 v4 s0) : W p l e (rm_X4_readText (d + 1)) s m args below meth c H locs 0 0 (MQ below (va_Qv Q (xr_B D (cs_ty cI cJ cR) (cs_w ad cI cR Ln) A) A) args s 0 0 A) (F0 m 84 ls [.int s0]) := by
  obtain ⟨⟨hx, hb, hml, hown, hts⟩, hrt, hlk⟩ := id fx
  have hf : 0 ≤ (rm_X4_readText (d + 1)).cells ∧ 0 ≤ (rm_X4_readText (d + 1)).slots := ⟨Nat.zero_le _, Nat.zero_le _⟩
  unfold wp_X4_readText_84 at h
  refine lv_istore_n (lv' := [(3, .int s0), (0, .ref (ad 6)), (1, .int v1), (2, .ref (ad (9 + v2))), (4, .int v4)]) hx hb dX4_readText_84 rfl hl (by decide) rfl (fun ls hl => ?_)
  refine lv_aload_n hx hb dX4_readText_85 rfl (lv_at hl 1 rfl) ?_
  refine lv_dup hx hb dX4_readText_86 rfl ?_
  refine cs_get 6 3 6 (v := .int (S.1 6)) (ref := "BracketLetters$Reader") fx (by decide) rfl rfl in_X4_readText_X4 (by decide) rfl (by decide +kernel) rfl hK hP dX4_readText_87 ?_
  refine lv_iconst (v := 1) hx hb dX4_readText_90 (by decide) ?_
  refine lv_iadd hx hb dX4_readText_91 ?_
  refine cs_put 6 3 6 6 (ref := "BracketLetters$Reader") (ty := .int) tyX4 tyX4_ok nmX4 fx (by decide) rfl rfl in_X4_readText_X4 (by decide) (Nat.le_of_ble_eq_true rfl) cs_f6_6 (by decide +kernel) rfl rfl (by decide +kernel) rfl rfl hK hP hD hS dX4_readText_92 (fun H locs hP hD hS => ?_)
  obtain ⟨v4_1, ev4_1⟩ : ∃ z : Int32, z = v4 + 1 := ⟨_, rfl⟩
  have h := h v4_1 ev4_1
  refine lv_iinc (v := v4_1) (lv' := [(4, .int v4_1), (3, .int s0), (0, .ref (ad 6)), (1, .int v1), (2, .ref (ad (9 + v2)))]) hx hb dX4_readText_95 hl (k := 4) rfl (by rw [ev4_1]; rfl) (by decide) rfl (fun ls hl => ?_)
  refine lv_goto (tgt := 16) hx hb dX4_readText_98 (by decide) ?_
  exact k16 _ _ _ _ _ hP hD hS (lv_sub hl [2, 3, 4, 1, 0] rfl) h
set_option maxHeartbeats 4000000 in
set_option maxRecDepth 100000 in
theorem kw_X4_readText_71 {p : Program} {l : Launch} {e : Env} {s : State} {m : MethodId} {args : Array Value} {below : List Frame} {meth : Method} {c : Code} {D : va_G} {ad : Nat → Nat} {cI cJ cR : ClassId} {Ln : Nat → Nat} {A : Nat → Prop} {R : cs_T → Int32 → (cs_T → Prop) → Prop} {d : Nat} {K16 : cs_T → Int32 → Nat → Int32 → Int32 → Prop} {Q : cs_T → Prop} {S : cs_T} {v1 : Int32} {v2 : Nat} {v4 : Int32} {v5 : Int32} (fx : xr_Fx p m c meth cX4_readText 6 s args wsX4_readText RX4 none) (hK : xr_K D (cs_ty cI cJ cR) s) (hA : ∀ q, s.heap.size ≤ q → A q) (hR : ∀ (S : cs_T) (b0 : Int32) (Q : cs_T → Prop), R S b0 Q → xr_V l D (cs_ty cI cJ cR) (cs_w ad cI cR Ln) yX4_readText wsX4_readText (rm_X4_readText d) [.ref (ad 6), .int b0] S Q) (k16 : ∀ (S : cs_T) (v1 : Int32) (v2 : Nat) (v3 : Int32) (v4 : Int32) {H : Heap} {locs : List Loc} {ls : Array Slot}, va_P D vwCl (cs_w ad cI cR Ln S) H → va_D A (cs_w ad cI cR Ln S) → va_S A s.heap H locs → lv_has ls 6 [(0, .ref (ad 6)), (1, .int v1), (2, .ref (ad (9 + v2))), (3, .int v3), (4, .int v4)] → K16 S v1 v2 v3 v4 → W p l e (rm_X4_readText (d + 1)) s m args below meth c H locs 0 0 (MQ below (va_Qv Q (xr_B D (cs_ty cI cJ cR) (cs_w ad cI cR Ln) A) A) args s 0 0 A) (F0 m 16 ls [])) {H : Heap} {locs : List Loc} {ls : Array Slot} (hP : va_P D vwCl (cs_w ad cI cR Ln S) H) (hD : va_D A (cs_w ad cI cR Ln S)) (hS : va_S A s.heap H locs) (hl : lv_has ls 6 [(0, .ref (ad 6)), (1, .int v1), (2, .ref (ad (9 + v2))), (4, .int v4), (5, .int v5)]) (h : wp_X4_readText_71 R Ln K16 Q S v1 v2 v4 v5) : W p l e (rm_X4_readText (d + 1)) s m args below meth c H locs 0 0 (MQ below (va_Qv Q (xr_B D (cs_ty cI cJ cR) (cs_w ad cI cR Ln) A) A) args s 0 0 A) (F0 m 71 ls []) := by
  obtain ⟨⟨hx, hb, hml, hown, hts⟩, hrt, hlk⟩ := id fx
  have hf : 0 ≤ (rm_X4_readText (d + 1)).cells ∧ 0 ≤ (rm_X4_readText (d + 1)).slots := ⟨Nat.zero_le _, Nat.zero_le _⟩
  unfold wp_X4_readText_71 at h
  refine lv_iload hx hb dX4_readText_71 (lv_at hl 4 rfl) ?_
  refine lv_bipush (v := 43) hx hb dX4_readText_73 (by decide) ?_
  refine lv_icmp_ne (tgt := 82) hx hb dX4_readText_75 (by decide) (fun c75 => ?_) (fun c75 => ?_)
  · have h := h.1 c75
    refine lv_ldc (v := 2147483646) hx hb hown (hts (.constant RX4 81 (2147483646)) (by decide +kernel)) dX4_readText_82 ?_
    exact kw_X4_readText_84 fx hK hA hR k16 hP hD hS (lv_sub hl [0, 1, 2, 3] rfl) h
  · have h := h.2 c75
    refine lv_iconst (v := 1) hx hb dX4_readText_78 (by decide) ?_
    refine lv_goto (tgt := 84) hx hb dX4_readText_79 (by decide) ?_
    exact kw_X4_readText_84 fx hK hA hR k16 hP hD hS (lv_sub hl [0, 1, 2, 3] rfl) h
set_option maxHeartbeats 4000000 in
set_option maxRecDepth 100000 in
theorem kb_X4_readText_16 {p : Program} {l : Launch} {e : Env} {s : State} {m : MethodId} {args : Array Value} {below : List Frame} {meth : Method} {c : Code} {D : va_G} {ad : Nat → Nat} {cI cJ cR : ClassId} {Ln : Nat → Nat} {A : Nat → Prop} {R : cs_T → Int32 → (cs_T → Prop) → Prop} {d : Nat}  {K16 : cs_T → Int32 → Nat → Int32 → Int32 → Prop} {Q : cs_T → Prop} {S : cs_T} {v1 : Int32} {v2 : Nat} {v3 : Int32} {v4 : Int32} (fx : xr_Fx p m c meth cX4_readText 6 s args wsX4_readText RX4 none) (hK : xr_K D (cs_ty cI cJ cR) s) (hA : ∀ q, s.heap.size ≤ q → A q) (hR : ∀ (S : cs_T) (b0 : Int32) (Q : cs_T → Prop), R S b0 Q → xr_V l D (cs_ty cI cJ cR) (cs_w ad cI cR Ln) yX4_readText wsX4_readText (rm_X4_readText d) [.ref (ad 6), .int b0] S Q)  (k16 : ∀ (S : cs_T) (v1 : Int32) (v2 : Nat) (v3 : Int32) (v4 : Int32) {H : Heap} {locs : List Loc} {ls : Array Slot}, va_P D vwCl (cs_w ad cI cR Ln S) H → va_D A (cs_w ad cI cR Ln S) → va_S A s.heap H locs → lv_has ls 6 [(0, .ref (ad 6)), (1, .int v1), (2, .ref (ad (9 + v2))), (3, .int v3), (4, .int v4)] → K16 S v1 v2 v3 v4 → W p l e (rm_X4_readText (d + 1)) s m args below meth c H locs 0 0 (MQ below (va_Qv Q (xr_B D (cs_ty cI cJ cR) (cs_w ad cI cR Ln) A) A) args s 0 0 A) (F0 m 16 ls [])) {H : Heap} {locs : List Loc} {ls : Array Slot} (hP : va_P D vwCl (cs_w ad cI cR Ln S) H) (hD : va_D A (cs_w ad cI cR Ln S)) (hS : va_S A s.heap H locs) (hl : lv_has ls 6 [(0, .ref (ad 6)), (1, .int v1), (2, .ref (ad (9 + v2))), (3, .int v3), (4, .int v4)]) (h : wb_X4_readText_16 R Ln K16 Q S v1 v2 v3 v4) : W p l e (rm_X4_readText (d + 1)) s m args below meth c H locs 0 0 (MQ below (va_Qv Q (xr_B D (cs_ty cI cJ cR) (cs_w ad cI cR Ln) A) A) args s 0 0 A) (F0 m 16 ls []) := by
  obtain ⟨⟨hx, hb, hml, hown, hts⟩, hrt, hlk⟩ := id fx
  have hf : 0 ≤ (rm_X4_readText (d + 1)).cells ∧ 0 ≤ (rm_X4_readText (d + 1)).slots := ⟨Nat.zero_le _, Nat.zero_le _⟩
  unfold wb_X4_readText_16 at h
  refine lv_iload hx hb dX4_readText_16 (lv_at hl 4 rfl) ?_
  refine lv_bipush (v := 100) hx hb dX4_readText_18 (by decide) ?_
  refine lv_icmp_ge (tgt := 101) hx hb dX4_readText_20 (by decide) (fun c20 => ?_) (fun c20 => ?_)
  · have h := h.1 c20
    exact xr_rV fx hK hP hD hS h dX4_readText_101
  · have h := h.2 c20
    refine lv_aload_n hx hb dX4_readText_23 rfl (lv_at hl 0 rfl) ?_
    refine lv_iload_n hx hb dX4_readText_24 rfl (lv_at hl 1 rfl) ?_
    refine xr_vV (n := 1) (As := [.int v1]) (rest := []) fx (ct_X4_readTerm l D ad cI cJ cR Ln d hR h) gX4_readText_X4_readTerm rfl rfl (by decide +kernel) (by constructor <;> simp [rm_X4_readText, rm_X4_readTerm] <;> omega) ⟨rfl, rfl⟩ hf (cs_recv 6 3 (by decide) rfl rfl hK hP) hK hP hD hS hA hl.1 rfl (Nat.le_of_ble_eq_true rfl) dX4_readText_25 (fun S2 H locs h hP hD hS => ?_)
    refine lv_aload_n hx hb dX4_readText_28 rfl (lv_at hl 0 rfl) ?_
    refine cs_get 6 3 7 (v := .int (S2.1 7)) (ref := "BracketLetters$Reader") fx (by decide) rfl rfl in_X4_readText_X4 (by decide) rfl (by decide +kernel) rfl hK hP dX4_readText_29 ?_
    refine lv_if_lt (tgt := 36) hx hb dX4_readText_32 (by decide) (fun c32 => ?_) (fun c32 => ?_)
    · have h := h.1 c32
      refine lv_aload_n hx hb dX4_readText_36 rfl (lv_at hl 0 rfl) ?_
      refine cs_get 6 3 2 (v := .ref (ad 2)) (ref := "BracketLetters$Reader") fx (by decide) rfl rfl in_X4_readText_X4 (by decide) rfl (by decide +kernel) rfl hK hP dX4_readText_37 ?_
      refine lv_aload_n hx hb dX4_readText_40 rfl (lv_at hl 2 rfl) ?_
      refine lv_aload_n hx hb dX4_readText_41 rfl (lv_at hl 0 rfl) ?_
      refine lv_iload_n hx hb dX4_readText_42 rfl (lv_at hl 1 rfl) ?_
      refine xr_vR (n := 1) (As := [.int v1]) (rest := [.ref (ad (9 + v2)), .ref (ad 2)]) fx (ct_X4_termOf l D ad cI cJ cR Ln h) gX4_readText_X4_termOf rfl rfl (by decide +kernel) (by constructor <;> simp [rm_X4_readText, rm_X4_termOf] <;> omega) ⟨rfl, rfl⟩ hf (cs_recv 6 3 (by decide) rfl rfl hK hP) hK hP hD hS hA hl.1 rfl (Nat.le_of_ble_eq_true rfl) dX4_readText_43 (fun r4 S3 H locs h hP hD hS => ?_)
      refine lv_iload_n hx hb dX4_readText_46 rfl (lv_at hl 3 rfl) ?_
      refine xr_vV (n := 3) (As := [.ref (ad (9 + v2)), .ref (ad (9 + r4)), .int v3]) (rest := []) fx (ct_X0_amass l D ad cI cJ cR Ln h) gX4_readText_X0_amass rfl rfl (by decide +kernel) (by constructor <;> simp [rm_X4_readText, rm_X0_amass] <;> omega) ⟨rfl, rfl⟩ hf (cs_recv 2 0 (by decide) rfl rfl hK hP) hK hP hD hS hA hl.1 rfl (Nat.le_of_ble_eq_true rfl) dX4_readText_47 (fun S5 H locs h hP hD hS => ?_)
      refine lv_aload_n hx hb dX4_readText_50 rfl (lv_at hl 0 rfl) ?_
      refine xr_vI (n := 0) (As := []) (rest := []) fx (ct_X4_hand l D ad cI cJ cR Ln h) gX4_readText_X4_hand rfl rfl (by decide +kernel) (by constructor <;> simp [rm_X4_readText, rm_X4_hand] <;> omega) ⟨rfl, rfl⟩ hf (cs_recv 6 3 (by decide) rfl rfl hK hP) hK hP hD hS hA hl.1 rfl (Nat.le_of_ble_eq_true rfl) dX4_readText_51 (fun r7 S6 H locs h hP hD hS => ?_)
      refine lv_istore (lv' := [(5, .int r7), (0, .ref (ad 6)), (1, .int v1), (2, .ref (ad (9 + v2))), (3, .int v3), (4, .int v4)]) hx hb dX4_readText_54 hl (by decide) rfl (fun ls hl => ?_)
      refine lv_iload hx hb dX4_readText_56 (lv_at hl 0 rfl) ?_
      refine lv_bipush (v := 43) hx hb dX4_readText_58 (by decide) ?_
      refine lv_icmp_eq (tgt := 71) hx hb dX4_readText_60 (by decide) (fun c60 => ?_) (fun c60 => ?_)
      · have h := h.1 c60
        exact kw_X4_readText_71 fx hK hA hR k16 hP hD hS (lv_sub hl [1, 2, 3, 5, 0] rfl) h
      · have h := h.2 c60
        refine lv_iload hx hb dX4_readText_63 (lv_at hl 0 rfl) ?_
        refine lv_bipush (v := 45) hx hb dX4_readText_65 (by decide) ?_
        refine lv_icmp_eq (tgt := 71) hx hb dX4_readText_67 (by decide) (fun c67 => ?_) (fun c67 => ?_)
        · have h := h.1 c67
          exact kw_X4_readText_71 fx hK hA hR k16 hP hD hS (lv_sub hl [1, 2, 3, 5, 0] rfl) h
        · have h := h.2 c67
          exact xr_rV fx hK hP hD hS h dX4_readText_70
    · have h := h.2 c32
      exact xr_rV fx hK hP hD hS h dX4_readText_35
theorem kw_X4_readText_16 {p : Program} {l : Launch} {e : Env} {s : State} {m : MethodId} {args : Array Value} {below : List Frame} {meth : Method} {c : Code} {D : va_G} {ad : Nat → Nat} {cI cJ cR : ClassId} {Ln : Nat → Nat} {A : Nat → Prop} {R : cs_T → Int32 → (cs_T → Prop) → Prop} {d : Nat}  {Q : cs_T → Prop} (fx : xr_Fx p m c meth cX4_readText 6 s args wsX4_readText RX4 none) (hK : xr_K D (cs_ty cI cJ cR) s) (hA : ∀ q, s.heap.size ≤ q → A q) (hR : ∀ (S : cs_T) (b0 : Int32) (Q : cs_T → Prop), R S b0 Q → xr_V l D (cs_ty cI cJ cR) (cs_w ad cI cR Ln) yX4_readText wsX4_readText (rm_X4_readText d) [.ref (ad 6), .int b0] S Q)  : ∀ (n : Nat) (S : cs_T) (v1 : Int32) (v2 : Nat) (v3 : Int32) (v4 : Int32) {H : Heap} {locs : List Loc} {ls : Array Slot}, va_P D vwCl (cs_w ad cI cR Ln S) H → va_D A (cs_w ad cI cR Ln S) → va_S A s.heap H locs → lv_has ls 6 [(0, .ref (ad 6)), (1, .int v1), (2, .ref (ad (9 + v2))), (3, .int v3), (4, .int v4)] → wp_X4_readText_16 R Ln Q n S v1 v2 v3 v4 → W p l e (rm_X4_readText (d + 1)) s m args below meth c H locs 0 0 (MQ below (va_Qv Q (xr_B D (cs_ty cI cJ cR) (cs_w ad cI cR Ln) A) A) args s 0 0 A) (F0 m 16 ls []) := by
  intro n
  induction n with
  | zero => intro S v1 v2 v3 v4 H locs ls hP hD hS hl h; exact False.elim h
  | succ n ih => intro S v1 v2 v3 v4 H locs ls hP hD hS hl h; exact kb_X4_readText_16 fx hK hA hR ih hP hD hS hl h
set_option maxHeartbeats 4000000 in
set_option maxRecDepth 100000 in
theorem cq_X4_readText (l : Launch) (D : va_G) (ad : Nat → Nat) (cI cJ cR : ClassId) (Ln : Nat → Nat) (d : Nat) {R : cs_T → Int32 → (cs_T → Prop) → Prop} (hR : ∀ (S : cs_T) (b0 : Int32) (Q : cs_T → Prop), R S b0 Q → xr_V l D (cs_ty cI cJ cR) (cs_w ad cI cR Ln) yX4_readText wsX4_readText (rm_X4_readText d) [.ref (ad 6), .int b0] S Q) {S : cs_T} {a1 : Int32} {Q : cs_T → Prop} (h : wq_X4_readText R Ln S a1 Q) : xr_V l D (cs_ty cI cJ cR) (cs_w ad cI cR Ln) yX4_readText wsX4_readText (rm_X4_readText (d + 1)) [.ref (ad 6), .int a1] S Q := by
  refine xr_eV (cc := cX4_readText) (nL := 6) (ret := none) (own := RX4) (by decide) rfl rfl (Nat.le_of_ble_eq_true rfl) ?_
  intro p e s m args below meth c ls A fx hK hA hP hD hS hl
  have hl : lv_has ls 6 [(0, .ref (ad 6)), (1, .int a1)] := hl
  show W p l e (rm_X4_readText (d + 1)) s m args below meth c s.heap [] 0 0 _ _
  obtain ⟨⟨hx, hb, hml, hown, hts⟩, hrt, hlk⟩ := id fx
  have hf : 0 ≤ (rm_X4_readText (d + 1)).cells ∧ 0 ≤ (rm_X4_readText (d + 1)).slots := ⟨Nat.zero_le _, Nat.zero_le _⟩
  unfold wq_X4_readText at h
  refine lv_aload_n hx hb dX4_readText_0 rfl (lv_at hl 0 rfl) ?_
  refine lv_iload_n hx hb dX4_readText_1 rfl (lv_at hl 1 rfl) ?_
  refine xr_vR (n := 1) (As := [.int a1]) (rest := []) fx (ct_X4_wholeOf l D ad cI cJ cR Ln h) gX4_readText_X4_wholeOf rfl rfl (by decide +kernel) (by constructor <;> simp [rm_X4_readText, rm_X4_wholeOf] <;> omega) ⟨rfl, rfl⟩ hf (cs_recv 6 3 (by decide) rfl rfl hK hP) hK hP hD hS hA hl.1 rfl (Nat.le_of_ble_eq_true rfl) dX4_readText_2 (fun r9 S8 H locs h hP hD hS => ?_)
  refine lv_astore_n (lv' := [(2, .ref (ad (9 + r9))), (0, .ref (ad 6)), (1, .int a1)]) hx hb dX4_readText_5 rfl hl (by decide) rfl (fun ls hl => ?_)
  refine lv_aload_n hx hb dX4_readText_6 rfl (lv_at hl 0 rfl) ?_
  refine lv_iconst (v := 0) hx hb dX4_readText_7 (by decide) ?_
  refine xr_wV (n := 2) (As := [.ref (ad (9 + r9)), .int 0]) (rest := []) fx (ct_J7_fill_53178 l D ad cI cJ cR Ln h) gX4_readText_J7_fill_53178 rfl rfl (by decide +kernel) (by constructor <;> simp [rm_X4_readText, rm_J7_fill_53178] <;> omega) ⟨rfl, rfl⟩ hf hK hP hD hS hA hl.1 rfl (Nat.le_of_ble_eq_true rfl) dX4_readText_8 (fun S10 H locs h hP hD hS => ?_)
  refine lv_iconst (v := 1) hx hb dX4_readText_11 (by decide) ?_
  refine lv_istore_n (lv' := [(3, .int 1), (2, .ref (ad (9 + r9))), (0, .ref (ad 6)), (1, .int a1)]) hx hb dX4_readText_12 rfl hl (by decide) rfl (fun ls hl => ?_)
  refine lv_iconst (v := 0) hx hb dX4_readText_13 (by decide) ?_
  refine lv_istore (lv' := [(4, .int 0), (3, .int 1), (2, .ref (ad (9 + r9))), (0, .ref (ad 6)), (1, .int a1)]) hx hb dX4_readText_14 hl (by decide) rfl (fun ls hl => ?_)
  obtain ⟨n, h⟩ := h
  exact kw_X4_readText_16 fx hK hA hR n _ _ _ _ _ hP hD hS (lv_sub hl [3, 4, 2, 1, 0] rfl) h
theorem ct_X4_readText (l : Launch) (D : va_G) (ad : Nat → Nat) (cI cJ cR : ClassId) (Ln : Nat → Nat) : ∀ (d : Nat) (S : cs_T) (a1 : Int32) (Q : cs_T → Prop), wp_X4_readText Ln d S a1 Q → xr_V l D (cs_ty cI cJ cR) (cs_w ad cI cR Ln) yX4_readText wsX4_readText (rm_X4_readText d) [.ref (ad 6), .int a1] S Q := by
  intro d
  induction d with
  | zero => intro S a1 Q h; exact False.elim h
  | succ d ih => intro S a1 Q h; exact cq_X4_readText l D ad cI cJ cR Ln d ih h
abbrev rm_X4_tell : Room := { frames := 49, cells := 0, slots := 0, locals := 1329 }
theorem in_X4_tell_X4 : ∀ w ∈ wsX40, w ∈ wsX4_tell := by decide +kernel
set_option maxHeartbeats 4000000 in
set_option maxRecDepth 100000 in
theorem kw_X4_tell_46 {p : Program} {l : Launch} {e : Env} {s : State} {m : MethodId} {args : Array Value} {below : List Frame} {meth : Method} {c : Code} {D : va_G} {ad : Nat → Nat} {cI cJ cR : ClassId} {Ln : Nat → Nat} {A : Nat → Prop}  {Q : Int32 → cs_T → Prop} {S : cs_T} {v1 : Nat} (fx : xr_Fx p m c meth cX4_tell 2 s args wsX4_tell RX4 (some .int)) (hK : xr_K D (cs_ty cI cJ cR) s) (hA : ∀ q, s.heap.size ≤ q → A q)   {H : Heap} {locs : List Loc} {ls : Array Slot} (hP : va_P D vwCl (cs_w ad cI cR Ln S) H) (hD : va_D A (cs_w ad cI cR Ln S)) (hS : va_S A s.heap H locs) (hl : lv_has ls 2 [(0, .ref (ad 6)), (1, .ref (ad (9 + v1)))]) (h : wp_X4_tell_46 Ln Q S v1) : W p l e rm_X4_tell s m args below meth c H locs 0 0 (MQ below (va_Qi Q (xr_B D (cs_ty cI cJ cR) (cs_w ad cI cR Ln) A) A) args s 0 0 A) (F0 m 46 ls []) := by
  obtain ⟨⟨hx, hb, hml, hown, hts⟩, hrt, hlk⟩ := id fx
  have hf : 0 ≤ rm_X4_tell.cells ∧ 0 ≤ rm_X4_tell.slots := ⟨Nat.zero_le _, Nat.zero_le _⟩
  unfold wp_X4_tell_46 at h
  refine lv_aload_n hx hb dX4_tell_46 rfl (lv_at hl 0 rfl) ?_
  refine lv_iconst (v := 0) hx hb dX4_tell_47 (by decide) ?_
  refine cs_put 6 3 0 5 (ref := "BracketLetters$Reader") (ty := .int) tyX4 tyX4_ok nmX4 fx (by decide) rfl rfl in_X4_tell_X4 (by decide) (Nat.le_of_ble_eq_true rfl) cs_f6_0 (by decide +kernel) rfl rfl (by decide +kernel) rfl rfl hK hP hD hS dX4_tell_48 (fun H locs hP hD hS => ?_)
  refine lv_aload_n hx hb dX4_tell_51 rfl (lv_at hl 0 rfl) ?_
  refine cs_get 6 3 7 (v := .int ((cs_sF S 5 0).1 7)) (ref := "BracketLetters$Reader") fx (by decide) rfl rfl in_X4_tell_X4 (by decide) rfl (by decide +kernel) rfl hK hP dX4_tell_52 ?_
  refine lv_if_lt (tgt := 66) hx hb dX4_tell_55 (by decide) (fun c55 => ?_) (fun c55 => ?_)
  · have h := h.1 c55
    refine lv_aload_n hx hb dX4_tell_66 rfl (lv_at hl 0 rfl) ?_
    refine cs_get 6 3 8 (v := .int ((cs_sF S 5 0).1 8)) (ref := "BracketLetters$Reader") fx (by decide) rfl rfl in_X4_tell_X4 (by decide) rfl (by decide +kernel) rfl hK hP dX4_tell_67 ?_
    refine lv_if_eq (tgt := 76) hx hb dX4_tell_70 (by decide) (fun c70 => ?_) (fun c70 => ?_)
    · have h := h.1 c70
      refine lv_aload_n hx hb dX4_tell_76 rfl (lv_at hl 0 rfl) ?_
      refine cs_get 6 3 2 (v := .ref (ad 2)) (ref := "BracketLetters$Reader") fx (by decide) rfl rfl in_X4_tell_X4 (by decide) rfl (by decide +kernel) rfl hK hP dX4_tell_77 ?_
      refine lv_aload_n hx hb dX4_tell_80 rfl (lv_at hl 1 rfl) ?_
      refine lv_aload_n hx hb dX4_tell_81 rfl (lv_at hl 0 rfl) ?_
      refine lv_iconst (v := 0) hx hb dX4_tell_82 (by decide) ?_
      refine xr_vR (n := 1) (As := [.int 0]) (rest := [.ref (ad (9 + v1)), .ref (ad 2)]) fx (ct_X4_wholeOf l D ad cI cJ cR Ln h) gX4_tell_X4_wholeOf rfl rfl (by decide +kernel) ⟨Nat.le_of_ble_eq_true rfl, Nat.le_of_ble_eq_true rfl⟩ ⟨rfl, rfl⟩ hf (cs_recv 6 3 (by decide) rfl rfl hK hP) hK hP hD hS hA hl.1 rfl (Nat.le_of_ble_eq_true rfl) dX4_tell_83 (fun r2 S1 H locs h hP hD hS => ?_)
      refine xr_vV (n := 2) (As := [.ref (ad (9 + v1)), .ref (ad (9 + r2))]) (rest := []) fx (ct_X0_copy l D ad cI cJ cR Ln h) gX4_tell_X0_copy rfl rfl (by decide +kernel) ⟨Nat.le_of_ble_eq_true rfl, Nat.le_of_ble_eq_true rfl⟩ ⟨rfl, rfl⟩ hf (cs_recv 2 0 (by decide) rfl rfl hK hP) hK hP hD hS hA hl.1 rfl (Nat.le_of_ble_eq_true rfl) dX4_tell_86 (fun S3 H locs h hP hD hS => ?_)
      refine lv_iconst (v := 0) hx hb dX4_tell_89 (by decide) ?_
      exact xr_rI fx hK hP hD hS h dX4_tell_90
    · have h := h.2 c70
      refine lv_bipush (v := (-9)) hx hb dX4_tell_73 (by decide) ?_
      exact xr_rI fx hK hP hD hS h dX4_tell_75
  · have h := h.2 c55
    refine lv_bipush (v := (-10)) hx hb dX4_tell_58 (by decide) ?_
    refine lv_aload_n hx hb dX4_tell_60 rfl (lv_at hl 0 rfl) ?_
    refine cs_get 6 3 7 (v := .int ((cs_sF S 5 0).1 7)) (ref := "BracketLetters$Reader") fx (by decide) rfl rfl in_X4_tell_X4 (by decide) rfl (by decide +kernel) rfl hK hP dX4_tell_61 ?_
    refine lv_isub hx hb dX4_tell_64 ?_
    exact xr_rI fx hK hP hD hS h dX4_tell_65
set_option maxHeartbeats 4000000 in
set_option maxRecDepth 100000 in
theorem ct_X4_tell (l : Launch) (D : va_G) (ad : Nat → Nat) (cI cJ cR : ClassId) (Ln : Nat → Nat) {S : cs_T} {a1 : Nat} {Q : Int32 → cs_T → Prop} (h : wp_X4_tell Ln S a1 Q) : xr_I l D (cs_ty cI cJ cR) (cs_w ad cI cR Ln) yX4_tell wsX4_tell rm_X4_tell [.ref (ad 6), .ref (ad (9 + a1))] S Q := by
  refine xr_eI (cc := cX4_tell) (nL := 2) (ret := (some .int)) (own := RX4) (by decide) rfl rfl (Nat.le_of_ble_eq_true rfl) ?_
  intro p e s m args below meth c ls A fx hK hA hP hD hS hl
  have hl : lv_has ls 2 [(0, .ref (ad 6)), (1, .ref (ad (9 + a1)))] := hl
  show W p l e rm_X4_tell s m args below meth c s.heap [] 0 0 _ _
  obtain ⟨⟨hx, hb, hml, hown, hts⟩, hrt, hlk⟩ := id fx
  have hf : 0 ≤ rm_X4_tell.cells ∧ 0 ≤ rm_X4_tell.slots := ⟨Nat.zero_le _, Nat.zero_le _⟩
  unfold wp_X4_tell at h
  refine lv_aload_n hx hb dX4_tell_0 rfl (lv_at hl 0 rfl) ?_
  refine lv_iconst (v := 0) hx hb dX4_tell_1 (by decide) ?_
  refine cs_put 6 3 6 6 (ref := "BracketLetters$Reader") (ty := .int) tyX4 tyX4_ok nmX4 fx (by decide) rfl rfl in_X4_tell_X4 (by decide) (Nat.le_of_ble_eq_true rfl) cs_f6_6 (by decide +kernel) rfl rfl (by decide +kernel) rfl rfl hK hP hD hS dX4_tell_2 (fun H locs hP hD hS => ?_)
  refine lv_aload_n hx hb dX4_tell_5 rfl (lv_at hl 0 rfl) ?_
  refine lv_iconst (v := (-1)) hx hb dX4_tell_6 (by decide) ?_
  refine cs_put 6 3 7 7 (ref := "BracketLetters$Reader") (ty := .int) tyX4 tyX4_ok nmX4 fx (by decide) rfl rfl in_X4_tell_X4 (by decide) (Nat.le_of_ble_eq_true rfl) cs_f6_7 (by decide +kernel) rfl rfl (by decide +kernel) rfl rfl hK hP hD hS dX4_tell_7 (fun H locs hP hD hS => ?_)
  refine lv_aload_n hx hb dX4_tell_10 rfl (lv_at hl 0 rfl) ?_
  refine lv_iconst (v := 0) hx hb dX4_tell_11 (by decide) ?_
  refine cs_put 6 3 8 8 (ref := "BracketLetters$Reader") (ty := .boolean) tyX4 tyX4_ok nmX4 fx (by decide) rfl rfl in_X4_tell_X4 (by decide) (Nat.le_of_ble_eq_true rfl) cs_f6_8 (by decide +kernel) rfl rfl (by decide +kernel) rfl rfl hK hP hD hS dX4_tell_12 (fun H locs hP hD hS => ?_)
  refine lv_aload_n hx hb dX4_tell_15 rfl (lv_at hl 0 rfl) ?_
  refine lv_iconst (v := 0) hx hb dX4_tell_16 (by decide) ?_
  refine xr_vV (n := 1) (As := [.int 0]) (rest := []) fx (ct_X4_readText l D ad cI cJ cR Ln 8 _ _ _ h) gX4_tell_X4_readText rfl rfl (by decide +kernel) ⟨Nat.le_of_ble_eq_true rfl, Nat.le_of_ble_eq_true rfl⟩ ⟨rfl, rfl⟩ hf (cs_recv 6 3 (by decide) rfl rfl hK hP) hK hP hD hS hA hl.1 rfl (Nat.le_of_ble_eq_true rfl) dX4_tell_17 (fun S4 H locs h hP hD hS => ?_)
  refine lv_aload_n hx hb dX4_tell_20 rfl (lv_at hl 0 rfl) ?_
  refine cs_get 6 3 7 (v := .int (S4.1 7)) (ref := "BracketLetters$Reader") fx (by decide) rfl rfl in_X4_tell_X4 (by decide) rfl (by decide +kernel) rfl hK hP dX4_tell_21 ?_
  refine lv_if_ge (tgt := 46) hx hb dX4_tell_24 (by decide) (fun c24 => ?_) (fun c24 => ?_)
  · have h := h.1 c24
    exact kw_X4_tell_46 fx hK hA hP hD hS (lv_sub hl [0, 1] rfl) h
  · have h := h.2 c24
    refine lv_aload_n hx hb dX4_tell_27 rfl (lv_at hl 0 rfl) ?_
    refine cs_get 6 3 6 (v := .int (S4.1 6)) (ref := "BracketLetters$Reader") fx (by decide) rfl rfl in_X4_tell_X4 (by decide) rfl (by decide +kernel) rfl hK hP dX4_tell_28 ?_
    refine lv_aload_n hx hb dX4_tell_31 rfl (lv_at hl 0 rfl) ?_
    refine cs_get 6 3 0 (v := .int (S4.1 5)) (ref := "BracketLetters$Reader") fx (by decide) rfl rfl in_X4_tell_X4 (by decide) rfl (by decide +kernel) rfl hK hP dX4_tell_32 ?_
    refine lv_icmp_ge (tgt := 46) hx hb dX4_tell_35 (by decide) (fun c35 => ?_) (fun c35 => ?_)
    · have h := h.1 c35
      exact kw_X4_tell_46 fx hK hA hP hD hS (lv_sub hl [0, 1] rfl) h
    · have h := h.2 c35
      refine lv_aload_n hx hb dX4_tell_38 rfl (lv_at hl 0 rfl) ?_
      refine lv_aload_n hx hb dX4_tell_39 rfl (lv_at hl 0 rfl) ?_
      refine cs_get 6 3 6 (v := .int (S4.1 6)) (ref := "BracketLetters$Reader") fx (by decide) rfl rfl in_X4_tell_X4 (by decide) rfl (by decide +kernel) rfl hK hP dX4_tell_40 ?_
      refine cs_put 6 3 7 7 (ref := "BracketLetters$Reader") (ty := .int) tyX4 tyX4_ok nmX4 fx (by decide) rfl rfl in_X4_tell_X4 (by decide) (Nat.le_of_ble_eq_true rfl) cs_f6_7 (by decide +kernel) rfl rfl (by decide +kernel) rfl rfl hK hP hD hS dX4_tell_43 (fun H locs hP hD hS => ?_)
      exact kw_X4_tell_46 fx hK hA hP hD hS (lv_sub hl [0, 1] rfl) h
abbrev rm_X7_read : Room := { frames := 50, cells := 0, slots := 0, locals := 1350 }
theorem in_X7_read_X7 : ∀ w ∈ wsX70, w ∈ wsX7_read := by decide +kernel
set_option maxHeartbeats 4000000 in
set_option maxRecDepth 100000 in
theorem ct_X7_read (l : Launch) (D : va_G) (ad : Nat → Nat) (cI cJ cR : ClassId) (Ln : Nat → Nat) {S : cs_T} {a1 : Int32} {Q : Int32 → cs_T → Prop} (h : wp_X7_read Ln S a1 Q) : xr_I l D (cs_ty cI cJ cR) (cs_w ad cI cR Ln) yX7_read wsX7_read rm_X7_read [.ref (ad 0), .int a1] S Q := by
  refine xr_eI (cc := cX7_read) (nL := 2) (ret := (some .int)) (own := RX7) (by decide) rfl rfl (Nat.le_of_ble_eq_true rfl) ?_
  intro p e s m args below meth c ls A fx hK hA hP hD hS hl
  have hl : lv_has ls 2 [(0, .ref (ad 0)), (1, .int a1)] := hl
  show W p l e rm_X7_read s m args below meth c s.heap [] 0 0 _ _
  obtain ⟨⟨hx, hb, hml, hown, hts⟩, hrt, hlk⟩ := id fx
  have hf : 0 ≤ rm_X7_read.cells ∧ 0 ≤ rm_X7_read.slots := ⟨Nat.zero_le _, Nat.zero_le _⟩
  unfold wp_X7_read at h
  refine lv_iload_n hx hb dX7_read_0 rfl (lv_at hl 1 rfl) ?_
  refine xr_sI (n := 1) (As := [.int a1]) (rest := []) fx (ct_X7_noSum l h) gX7_read_X7_noSum rfl rfl (by decide +kernel) ⟨Nat.le_of_ble_eq_true rfl, Nat.le_of_ble_eq_true rfl⟩ ⟨rfl, rfl⟩ hf hl.1 rfl (Nat.le_of_ble_eq_true rfl) dX7_read_1 (fun r1 h => ?_)
  refine lv_if_eq (tgt := 9) hx hb dX7_read_4 (by decide) (fun c4 => ?_) (fun c4 => ?_)
  · have h := h.1 c4
    refine lv_aload_n hx hb dX7_read_9 rfl (lv_at hl 0 rfl) ?_
    refine cs_get 0 6 6 (v := .ref (ad 6)) (ref := "BracketLetters") fx (by decide) rfl rfl in_X7_read_X7 (by decide) rfl (by decide +kernel) rfl hK hP dX7_read_10 ?_
    refine lv_aload_n hx hb dX7_read_13 rfl (lv_at hl 0 rfl) ?_
    refine cs_get 0 6 1 (v := .ref (ad 7)) (ref := "BracketLetters") fx (by decide) rfl rfl in_X7_read_X7 (by decide) rfl (by decide +kernel) rfl hK hP dX7_read_14 ?_
    refine lv_iload_n hx hb dX7_read_17 rfl (lv_at hl 1 rfl) ?_
    obtain ⟨hi2, h⟩ := h
    refine cs_aald 7 8 7 fx (by decide) rfl hK hP hi2 dX7_read_18 ?_
    refine xr_vI (n := 1) (As := [.ref (ad (9 + (7 + a1.toNatClampNeg)))]) (rest := []) fx (ct_X4_tell l D ad cI cJ cR Ln h) gX7_read_X4_tell rfl rfl (by decide +kernel) ⟨Nat.le_of_ble_eq_true rfl, Nat.le_of_ble_eq_true rfl⟩ ⟨rfl, rfl⟩ hf (cs_recv 6 3 (by decide) rfl rfl hK hP) hK hP hD hS hA hl.1 rfl (Nat.le_of_ble_eq_true rfl) dX7_read_19 (fun r4 S3 H locs h hP hD hS => ?_)
    exact xr_rI fx hK hP hD hS h dX7_read_22
  · have h := h.2 c4
    refine lv_iconst (v := (-1)) hx hb dX7_read_7 (by decide) ?_
    exact xr_rI fx hK hP hD hS h dX7_read_8
