abbrev rm_X7_derive : Room := { frames := 3, cells := 0, slots := 0, locals := 98 }
theorem in_X7_derive_X7 : ∀ w ∈ wsX70, w ∈ wsX7_derive := by decide +kernel
set_option maxHeartbeats 4000000 in
set_option maxRecDepth 100000 in
theorem ct_X7_derive (l : Launch) (D : va_G) (ad : Nat → Nat) (cI cJ cR : ClassId) (Ln : Nat → Nat) {S : cs_T} {a1 : Int32} {a2 : Int32} {a3 : Int32} {a4 : Int32} {Q : Int32 → cs_T → Prop} (h : wp_X7_derive Ln S a1 a2 a3 a4 Q) : xr_I l D (cs_ty cI cJ cR) (cs_w ad cI cR Ln) yX7_derive wsX7_derive rm_X7_derive [.ref (ad 0), .int a1, .int a2, .int a3, .int a4] S Q := by
  refine xr_eI (cc := cX7_derive) (nL := 5) (ret := (some .int)) (own := RX7) (by decide) rfl rfl (Nat.le_of_ble_eq_true rfl) ?_
  intro p e s m args below meth c ls A fx hK hA hP hD hS hl
  have hl : lv_has ls 5 [(0, .ref (ad 0)), (1, .int a1), (2, .int a2), (3, .int a3), (4, .int a4)] := hl
  show W p l e rm_X7_derive s m args below meth c s.heap [] 0 0 _ _
  obtain ⟨⟨hx, hb, hml, hown, hts⟩, hrt, hlk⟩ := id fx
  have hf : 0 ≤ rm_X7_derive.cells ∧ 0 ≤ rm_X7_derive.slots := ⟨Nat.zero_le _, Nat.zero_le _⟩
  unfold wp_X7_derive at h
  refine lv_iload_n hx hb dX7_derive_0 rfl (lv_at hl 1 rfl) ?_
  refine xr_sI (n := 1) (As := [.int a1]) (rest := []) fx (ct_X7_noSum l h) gX7_derive_X7_noSum rfl rfl (by decide +kernel) ⟨Nat.le_of_ble_eq_true rfl, Nat.le_of_ble_eq_true rfl⟩ ⟨rfl, rfl⟩ hf hl.1 rfl (Nat.le_of_ble_eq_true rfl) dX7_derive_1 (fun r1 h => ?_)
  refine lv_if_ne (tgt := 30) hx hb dX7_derive_4 (by decide) (fun c4 => ?_) (fun c4 => ?_)
  · have h := h.1 c4
    refine lv_iconst (v := (-1)) hx hb dX7_derive_30 (by decide) ?_
    exact xr_rI fx hK hP hD hS h dX7_derive_31
  · have h := h.2 c4
    refine lv_iload_n hx hb dX7_derive_7 rfl (lv_at hl 2 rfl) ?_
    refine xr_sI (n := 1) (As := [.int a2]) (rest := []) fx (ct_X7_noSum l h) gX7_derive_X7_noSum rfl rfl (by decide +kernel) ⟨Nat.le_of_ble_eq_true rfl, Nat.le_of_ble_eq_true rfl⟩ ⟨rfl, rfl⟩ hf hl.1 rfl (Nat.le_of_ble_eq_true rfl) dX7_derive_8 (fun r2 h => ?_)
    refine lv_if_ne (tgt := 30) hx hb dX7_derive_11 (by decide) (fun c11 => ?_) (fun c11 => ?_)
    · have h := h.1 c11
      refine lv_iconst (v := (-1)) hx hb dX7_derive_30 (by decide) ?_
      exact xr_rI fx hK hP hD hS h dX7_derive_31
    · have h := h.2 c11
      refine lv_iload hx hb dX7_derive_14 (lv_at hl 4 rfl) ?_
      refine xr_sI (n := 1) (As := [.int a4]) (rest := []) fx (ct_X7_noSum l h) gX7_derive_X7_noSum rfl rfl (by decide +kernel) ⟨Nat.le_of_ble_eq_true rfl, Nat.le_of_ble_eq_true rfl⟩ ⟨rfl, rfl⟩ hf hl.1 rfl (Nat.le_of_ble_eq_true rfl) dX7_derive_16 (fun r3 h => ?_)
      refine lv_if_ne (tgt := 30) hx hb dX7_derive_19 (by decide) (fun c19 => ?_) (fun c19 => ?_)
      · have h := h.1 c19
        refine lv_iconst (v := (-1)) hx hb dX7_derive_30 (by decide) ?_
        exact xr_rI fx hK hP hD hS h dX7_derive_31
      · have h := h.2 c19
        refine lv_aload_n hx hb dX7_derive_22 rfl (lv_at hl 0 rfl) ?_
        refine lv_iload_n hx hb dX7_derive_23 rfl (lv_at hl 3 rfl) ?_
        refine xr_vI (n := 1) (As := [.int a3]) (rest := []) fx (ct_X7_noLetter l D ad cI cJ cR Ln h) gX7_derive_X7_noLetter rfl rfl (by decide +kernel) ⟨Nat.le_of_ble_eq_true rfl, Nat.le_of_ble_eq_true rfl⟩ ⟨rfl, rfl⟩ hf (cs_recv 0 6 (by decide) rfl rfl hK hP) hK hP hD hS hA hl.1 rfl (Nat.le_of_ble_eq_true rfl) dX7_derive_24 (fun r5 S4 H locs h hP hD hS => ?_)
        refine lv_if_eq (tgt := 32) hx hb dX7_derive_27 (by decide) (fun c27 => ?_) (fun c27 => ?_)
        · have h := h.1 c27
          refine lv_aload_n hx hb dX7_derive_32 rfl (lv_at hl 0 rfl) ?_
          refine cs_get 0 6 2 (v := .ref (ad 2)) (ref := "BracketLetters") fx (by decide) rfl rfl in_X7_derive_X7 (by decide) rfl (by decide +kernel) rfl hK hP dX7_derive_33 ?_
          refine lv_aload_n hx hb dX7_derive_36 rfl (lv_at hl 0 rfl) ?_
          refine cs_get 0 6 1 (v := .ref (ad 7)) (ref := "BracketLetters") fx (by decide) rfl rfl in_X7_derive_X7 (by decide) rfl (by decide +kernel) rfl hK hP dX7_derive_37 ?_
          refine lv_iload_n hx hb dX7_derive_40 rfl (lv_at hl 1 rfl) ?_
          obtain ⟨hi6, h⟩ := h
          refine cs_aald 7 8 7 fx (by decide) rfl hK hP hi6 dX7_derive_41 ?_
          refine lv_aload_n hx hb dX7_derive_42 rfl (lv_at hl 0 rfl) ?_
          refine cs_get 0 6 1 (v := .ref (ad 7)) (ref := "BracketLetters") fx (by decide) rfl rfl in_X7_derive_X7 (by decide) rfl (by decide +kernel) rfl hK hP dX7_derive_43 ?_
          refine lv_iload_n hx hb dX7_derive_46 rfl (lv_at hl 2 rfl) ?_
          obtain ⟨hi7, h⟩ := h
          refine cs_aald 7 8 7 fx (by decide) rfl hK hP hi7 dX7_derive_47 ?_
          refine lv_iload_n hx hb dX7_derive_48 rfl (lv_at hl 3 rfl) ?_
          refine lv_aload_n hx hb dX7_derive_49 rfl (lv_at hl 0 rfl) ?_
          refine cs_get 0 6 1 (v := .ref (ad 7)) (ref := "BracketLetters") fx (by decide) rfl rfl in_X7_derive_X7 (by decide) rfl (by decide +kernel) rfl hK hP dX7_derive_50 ?_
          refine lv_iload hx hb dX7_derive_53 (lv_at hl 4 rfl) ?_
          obtain ⟨hi8, h⟩ := h
          refine cs_aald 7 8 7 fx (by decide) rfl hK hP hi8 dX7_derive_55 ?_
          refine xr_vV (n := 4) (As := [.ref (ad (9 + (7 + a1.toNatClampNeg))), .ref (ad (9 + (7 + a2.toNatClampNeg))), .int a3, .ref (ad (9 + (7 + a4.toNatClampNeg)))]) (rest := []) fx (ct_X0_setInEach l D ad cI cJ cR Ln h) gX7_derive_X0_setInEach rfl rfl (by decide +kernel) ⟨Nat.le_of_ble_eq_true rfl, Nat.le_of_ble_eq_true rfl⟩ ⟨rfl, rfl⟩ hf (cs_recv 2 0 (by decide) rfl rfl hK hP) hK hP hD hS hA hl.1 rfl (Nat.le_of_ble_eq_true rfl) dX7_derive_56 (fun S9 H locs h hP hD hS => ?_)
          refine lv_iconst (v := 0) hx hb dX7_derive_59 (by decide) ?_
          exact xr_rI fx hK hP hD hS h dX7_derive_60
        · have h := h.2 c27
          refine lv_iconst (v := (-1)) hx hb dX7_derive_30 (by decide) ?_
          exact xr_rI fx hK hP hD hS h dX7_derive_31
abbrev rm_J7_rangeCheck_23922 : Room := { frames := 0, cells := 0, slots := 0, locals := 0 }
set_option maxHeartbeats 4000000 in
set_option maxRecDepth 100000 in
theorem ct_J7_rangeCheck_23922 (l : Launch) {a0 : Int32} {a1 : Int32} {a2 : Int32} {Q : Prop} (h : wp_J7_rangeCheck_23922 a0 a1 a2 Q) : xr_SV l yJ7_rangeCheck_23922 wsJ7_rangeCheck_23922 rm_J7_rangeCheck_23922 [.int a0, .int a1, .int a2] Q := by
  refine xr_eSV (cc := cJ7_rangeCheck_23922) (nL := 3) (ret := none) (own := RJ7) (by decide) rfl rfl (Nat.le_of_ble_eq_true rfl) ?_
  intro p e s m args below meth c ls fx hl
  have hl : lv_has ls 3 [(0, .int a0), (1, .int a1), (2, .int a2)] := hl
  show W p l e rm_J7_rangeCheck_23922 s m args below meth c s.heap [] 0 0 _ _
  obtain ⟨⟨hx, hb, hml, hown, hts⟩, hrt, hlk⟩ := id fx
  have hf : 0 ≤ rm_J7_rangeCheck_23922.cells ∧ 0 ≤ rm_J7_rangeCheck_23922.slots := ⟨Nat.zero_le _, Nat.zero_le _⟩
  unfold wp_J7_rangeCheck_23922 at h
  refine lv_iload_n hx hb dJ7_rangeCheck_23922_0 rfl (lv_at hl 1 rfl) ?_
  refine lv_iload_n hx hb dJ7_rangeCheck_23922_1 rfl (lv_at hl 2 rfl) ?_
  refine lv_icmp_le (tgt := 46) hx hb dJ7_rangeCheck_23922_2 (by decide) (fun c2 => ?_) (fun c2 => ?_)
  · have h := h.1 c2
    refine lv_iload_n hx hb dJ7_rangeCheck_23922_46 rfl (lv_at hl 1 rfl) ?_
    refine lv_if_ge (tgt := 59) hx hb dJ7_rangeCheck_23922_47 (by decide) (fun c47 => ?_) (fun c47 => ?_)
    · have h := h.1 c47
      refine lv_iload_n hx hb dJ7_rangeCheck_23922_59 rfl (lv_at hl 2 rfl) ?_
      refine lv_iload_n hx hb dJ7_rangeCheck_23922_60 rfl (lv_at hl 0 rfl) ?_
      refine lv_icmp_le (tgt := 73) hx hb dJ7_rangeCheck_23922_61 (by decide) (fun c61 => ?_) (fun c61 => ?_)
      · have h := h.1 c61
        exact xr_rSV fx h dJ7_rangeCheck_23922_73
      · have h := h.2 c61
        exact False.elim h
    · have h := h.2 c47
      exact False.elim h
  · have h := h.2 c2
    exact False.elim h
abbrev rm_J7_fill_fda19 : Room := { frames := 1, cells := 0, slots := 0, locals := 22 }
set_option maxHeartbeats 4000000 in
set_option maxRecDepth 100000 in
theorem kb_J7_fill_fda19_10 {p : Program} {l : Launch} {e : Env} {s : State} {m : MethodId} {args : Array Value} {below : List Frame} {meth : Method} {c : Code} {D : va_G} {ad : Nat → Nat} {cI cJ cR : ClassId} {Ln : Nat → Nat} {A : Nat → Prop}  {K10 : cs_T → Nat → Int32 → Int32 → Int32 → Prop} {Q : cs_T → Prop} {S : cs_T} {v0 : Nat} {v2 : Int32} {v3 : Int32} {v4 : Int32} (fx : xr_Fx p m c meth cJ7_fill_fda19 5 s args wsJ7_fill_fda19 RJ7 none) (hK : xr_K D (cs_ty cI cJ cR) s) (hA : ∀ q, s.heap.size ≤ q → A q)   (k10 : ∀ (S : cs_T) (v0 : Nat) (v2 : Int32) (v3 : Int32) (v4 : Int32) {H : Heap} {locs : List Loc} {ls : Array Slot}, va_P D vwCl (cs_w ad cI cR Ln S) H → va_D A (cs_w ad cI cR Ln S) → va_S A s.heap H locs → lv_has ls 5 [(0, .ref (ad (9 + v0))), (2, .int v2), (3, .int v3), (4, .int v4)] → K10 S v0 v2 v3 v4 → W p l e rm_J7_fill_fda19 s m args below meth c H locs 0 0 (MQ below (va_Qv Q (xr_B D (cs_ty cI cJ cR) (cs_w ad cI cR Ln) A) A) args s 0 0 A) (F0 m 10 ls [])) {H : Heap} {locs : List Loc} {ls : Array Slot} (hP : va_P D vwCl (cs_w ad cI cR Ln S) H) (hD : va_D A (cs_w ad cI cR Ln S)) (hS : va_S A s.heap H locs) (hl : lv_has ls 5 [(0, .ref (ad (9 + v0))), (2, .int v2), (3, .int v3), (4, .int v4)]) (h : wb_J7_fill_fda19_10 Ln K10 Q S v0 v2 v3 v4) : W p l e rm_J7_fill_fda19 s m args below meth c H locs 0 0 (MQ below (va_Qv Q (xr_B D (cs_ty cI cJ cR) (cs_w ad cI cR Ln) A) A) args s 0 0 A) (F0 m 10 ls []) := by
  obtain ⟨⟨hx, hb, hml, hown, hts⟩, hrt, hlk⟩ := id fx
  have hf : 0 ≤ rm_J7_fill_fda19.cells ∧ 0 ≤ rm_J7_fill_fda19.slots := ⟨Nat.zero_le _, Nat.zero_le _⟩
  unfold wb_J7_fill_fda19_10 at h
  refine lv_iload hx hb dJ7_fill_fda19_10 (lv_at hl 3 rfl) ?_
  refine lv_iload_n hx hb dJ7_fill_fda19_12 rfl (lv_at hl 1 rfl) ?_
  refine lv_icmp_ge (tgt := 27) hx hb dJ7_fill_fda19_13 (by decide) (fun c13 => ?_) (fun c13 => ?_)
  · have h := h.1 c13
    exact xr_rV fx hK hP hD hS h dJ7_fill_fda19_27
  · have h := h.2 c13
    refine lv_aload_n hx hb dJ7_fill_fda19_16 rfl (lv_at hl 0 rfl) ?_
    refine lv_iload hx hb dJ7_fill_fda19_17 (lv_at hl 3 rfl) ?_
    refine lv_iload_n hx hb dJ7_fill_fda19_19 rfl (lv_at hl 2 rfl) ?_
    obtain ⟨hk2, h⟩ := h
    obtain ⟨hi1, h⟩ := h
    refine cs_iast v0 hk2 fx hK hP hD hS hi1 dJ7_fill_fda19_20 (fun H locs hP hD hS => ?_)
    obtain ⟨v4_3, ev4_3⟩ : ∃ z : Int32, z = v4 + 1 := ⟨_, rfl⟩
    have h := h v4_3 ev4_3
    refine lv_iinc (v := v4_3) (lv' := [(4, .int v4_3), (0, .ref (ad (9 + v0))), (2, .int v2), (3, .int v3)]) hx hb dJ7_fill_fda19_21 hl (k := 3) rfl (by rw [ev4_3]; rfl) (by decide) rfl (fun ls hl => ?_)
    refine lv_goto (tgt := 10) hx hb dJ7_fill_fda19_24 (by decide) ?_
    exact k10 _ _ _ _ _ hP hD hS (lv_sub hl [1, 2, 3, 0] rfl) h
theorem kw_J7_fill_fda19_10 {p : Program} {l : Launch} {e : Env} {s : State} {m : MethodId} {args : Array Value} {below : List Frame} {meth : Method} {c : Code} {D : va_G} {ad : Nat → Nat} {cI cJ cR : ClassId} {Ln : Nat → Nat} {A : Nat → Prop}  {Q : cs_T → Prop} (fx : xr_Fx p m c meth cJ7_fill_fda19 5 s args wsJ7_fill_fda19 RJ7 none) (hK : xr_K D (cs_ty cI cJ cR) s) (hA : ∀ q, s.heap.size ≤ q → A q)   : ∀ (n : Nat) (S : cs_T) (v0 : Nat) (v2 : Int32) (v3 : Int32) (v4 : Int32) {H : Heap} {locs : List Loc} {ls : Array Slot}, va_P D vwCl (cs_w ad cI cR Ln S) H → va_D A (cs_w ad cI cR Ln S) → va_S A s.heap H locs → lv_has ls 5 [(0, .ref (ad (9 + v0))), (2, .int v2), (3, .int v3), (4, .int v4)] → wp_J7_fill_fda19_10 Ln Q n S v0 v2 v3 v4 → W p l e rm_J7_fill_fda19 s m args below meth c H locs 0 0 (MQ below (va_Qv Q (xr_B D (cs_ty cI cJ cR) (cs_w ad cI cR Ln) A) A) args s 0 0 A) (F0 m 10 ls []) := by
  intro n
  induction n with
  | zero => intro S v0 v2 v3 v4 H locs ls hP hD hS hl h; exact False.elim h
  | succ n ih => intro S v0 v2 v3 v4 H locs ls hP hD hS hl h; exact kb_J7_fill_fda19_10 fx hK hA ih hP hD hS hl h
set_option maxHeartbeats 4000000 in
set_option maxRecDepth 100000 in
theorem ct_J7_fill_fda19 (l : Launch) (D : va_G) (ad : Nat → Nat) (cI cJ cR : ClassId) (Ln : Nat → Nat) {S : cs_T} {a0 : Nat} {a1 : Int32} {a2 : Int32} {a3 : Int32} {Q : cs_T → Prop} (h : wp_J7_fill_fda19 Ln S a0 a1 a2 a3 Q) : xr_V l D (cs_ty cI cJ cR) (cs_w ad cI cR Ln) yJ7_fill_fda19 wsJ7_fill_fda19 rm_J7_fill_fda19 [.ref (ad (9 + a0)), .int a1, .int a2, .int a3] S Q := by
  refine xr_eV (cc := cJ7_fill_fda19) (nL := 5) (ret := none) (own := RJ7) (by decide) rfl rfl (Nat.le_of_ble_eq_true rfl) ?_
  intro p e s m args below meth c ls A fx hK hA hP hD hS hl
  have hl : lv_has ls 5 [(0, .ref (ad (9 + a0))), (1, .int a1), (2, .int a2), (3, .int a3)] := hl
  show W p l e rm_J7_fill_fda19 s m args below meth c s.heap [] 0 0 _ _
  obtain ⟨⟨hx, hb, hml, hown, hts⟩, hrt, hlk⟩ := id fx
  have hf : 0 ≤ rm_J7_fill_fda19.cells ∧ 0 ≤ rm_J7_fill_fda19.slots := ⟨Nat.zero_le _, Nat.zero_le _⟩
  unfold wp_J7_fill_fda19 at h
  refine lv_aload_n hx hb dJ7_fill_fda19_0 rfl (lv_at hl 0 rfl) ?_
  obtain ⟨hk4, h⟩ := h
  refine cs_alen a0 hk4 fx hK hP dJ7_fill_fda19_1 ?_
  refine lv_iload_n hx hb dJ7_fill_fda19_2 rfl (lv_at hl 1 rfl) ?_
  refine lv_iload_n hx hb dJ7_fill_fda19_3 rfl (lv_at hl 2 rfl) ?_
  refine xr_sV (n := 3) (As := [.int (nI (Ln a0)), .int a1, .int a2]) (rest := []) fx (ct_J7_rangeCheck_23922 l h) gJ7_fill_fda19_J7_rangeCheck_23922 rfl rfl (by decide +kernel) ⟨Nat.le_of_ble_eq_true rfl, Nat.le_of_ble_eq_true rfl⟩ ⟨rfl, rfl⟩ hf hl.1 rfl (Nat.le_of_ble_eq_true rfl) dJ7_fill_fda19_4 (fun h => ?_)
  refine lv_iload_n hx hb dJ7_fill_fda19_7 rfl (lv_at hl 1 rfl) ?_
  refine lv_istore (lv' := [(4, .int a1), (0, .ref (ad (9 + a0))), (1, .int a1), (2, .int a2), (3, .int a3)]) hx hb dJ7_fill_fda19_8 hl (by decide) rfl (fun ls hl => ?_)
  obtain ⟨n, h⟩ := h
  exact kw_J7_fill_fda19_10 fx hK hA n _ _ _ _ _ hP hD hS (lv_sub hl [1, 3, 4, 0] rfl) h
abbrev rm_X0_gatherAhead : Room := { frames := 1, cells := 0, slots := 0, locals := 22 }
theorem in_X0_gatherAhead_X0 : ∀ w ∈ wsX00, w ∈ wsX0_gatherAhead := by decide +kernel
set_option maxHeartbeats 4000000 in
set_option maxRecDepth 100000 in
theorem kb_X0_gatherAhead_40 {p : Program} {l : Launch} {e : Env} {s : State} {m : MethodId} {args : Array Value} {below : List Frame} {meth : Method} {c : Code} {D : va_G} {ad : Nat → Nat} {cI cJ cR : ClassId} {Ln : Nat → Nat} {A : Nat → Prop} {K3 : cs_T → Nat → Nat → Int32 → Int32 → Int32 → Prop} {K40 : cs_T → Nat → Nat → Int32 → Int32 → Int32 → Int32 → Int32 → Prop} {Q : cs_T → Prop} {S : cs_T} {v1 : Nat} {v2 : Nat} {v3 : Int32} {v4 : Int32} {v5 : Int32} {v6 : Int32} {v7 : Int32} (fx : xr_Fx p m c meth cX0_gatherAhead 8 s args wsX0_gatherAhead RX0 none) (hK : xr_K D (cs_ty cI cJ cR) s) (hA : ∀ q, s.heap.size ≤ q → A q)  (k3 : ∀ (S : cs_T) (v1 : Nat) (v2 : Nat) (v3 : Int32) (v4 : Int32) (v5 : Int32) {H : Heap} {locs : List Loc} {ls : Array Slot}, va_P D vwCl (cs_w ad cI cR Ln S) H → va_D A (cs_w ad cI cR Ln S) → va_S A s.heap H locs → lv_has ls 8 [(0, .ref (ad 2)), (1, .ref (ad (9 + v1))), (2, .ref (ad (9 + v2))), (3, .int v3), (4, .int v4), (5, .int v5)] → K3 S v1 v2 v3 v4 v5 → W p l e rm_X0_gatherAhead s m args below meth c H locs 0 0 (MQ below (va_Qv Q (xr_B D (cs_ty cI cJ cR) (cs_w ad cI cR Ln) A) A) args s 0 0 A) (F0 m 3 ls [])) (k40 : ∀ (S : cs_T) (v1 : Nat) (v2 : Nat) (v3 : Int32) (v4 : Int32) (v5 : Int32) (v6 : Int32) (v7 : Int32) {H : Heap} {locs : List Loc} {ls : Array Slot}, va_P D vwCl (cs_w ad cI cR Ln S) H → va_D A (cs_w ad cI cR Ln S) → va_S A s.heap H locs → lv_has ls 8 [(0, .ref (ad 2)), (1, .ref (ad (9 + v1))), (2, .ref (ad (9 + v2))), (3, .int v3), (4, .int v4), (5, .int v5), (6, .int v6), (7, .int v7)] → K40 S v1 v2 v3 v4 v5 v6 v7 → W p l e rm_X0_gatherAhead s m args below meth c H locs 0 0 (MQ below (va_Qv Q (xr_B D (cs_ty cI cJ cR) (cs_w ad cI cR Ln) A) A) args s 0 0 A) (F0 m 40 ls [])) {H : Heap} {locs : List Loc} {ls : Array Slot} (hP : va_P D vwCl (cs_w ad cI cR Ln S) H) (hD : va_D A (cs_w ad cI cR Ln S)) (hS : va_S A s.heap H locs) (hl : lv_has ls 8 [(0, .ref (ad 2)), (1, .ref (ad (9 + v1))), (2, .ref (ad (9 + v2))), (3, .int v3), (4, .int v4), (5, .int v5), (6, .int v6), (7, .int v7)]) (h : wb_X0_gatherAhead_40 Ln K3 K40 Q S v1 v2 v3 v4 v5 v6 v7) : W p l e rm_X0_gatherAhead s m args below meth c H locs 0 0 (MQ below (va_Qv Q (xr_B D (cs_ty cI cJ cR) (cs_w ad cI cR Ln) A) A) args s 0 0 A) (F0 m 40 ls []) := by
  obtain ⟨⟨hx, hb, hml, hown, hts⟩, hrt, hlk⟩ := id fx
  have hf : 0 ≤ rm_X0_gatherAhead.cells ∧ 0 ≤ rm_X0_gatherAhead.slots := ⟨Nat.zero_le _, Nat.zero_le _⟩
  unfold wb_X0_gatherAhead_40 at h
  refine lv_iload hx hb dX0_gatherAhead_40 (lv_at hl 7 rfl) ?_
  refine lv_aload_n hx hb dX0_gatherAhead_42 rfl (lv_at hl 0 rfl) ?_
  refine cs_get 2 0 5 (v := .ref (ad (9 + 1))) (ref := "BracketLetters$Algebra") fx (by decide) rfl rfl in_X0_gatherAhead_X0 (by decide) rfl (by decide +kernel) rfl hK hP dX0_gatherAhead_43 ?_
  refine lv_iload hx hb dX0_gatherAhead_46 (lv_at hl 5 rfl) ?_
  refine lv_iconst (v := 1) hx hb dX0_gatherAhead_48 (by decide) ?_
  refine lv_iadd hx hb dX0_gatherAhead_49 ?_
  obtain ⟨hi1, h⟩ := h
  refine cs_iald 1 (by decide) fx hK hP hi1 dX0_gatherAhead_50 ?_
  refine lv_icmp_ge (tgt := 78) hx hb dX0_gatherAhead_51 (by decide) (fun c51 => ?_) (fun c51 => ?_)
  · have h := h.1 c51
    obtain ⟨v5_2, ev5_2⟩ : ∃ z : Int32, z = v5 + 1 := ⟨_, rfl⟩
    have h := h v5_2 ev5_2
    refine lv_iinc (v := v5_2) (lv' := [(5, .int v5_2), (0, .ref (ad 2)), (1, .ref (ad (9 + v1))), (2, .ref (ad (9 + v2))), (3, .int v3), (4, .int v4), (6, .int v6), (7, .int v7)]) hx hb dX0_gatherAhead_78 hl (k := 5) rfl (by rw [ev5_2]; rfl) (by decide) rfl (fun ls hl => ?_)
    refine lv_goto (tgt := 3) hx hb dX0_gatherAhead_81 (by decide) ?_
    exact k3 _ _ _ _ _ _ hP hD hS (lv_sub hl [1, 2, 3, 4, 5, 0] rfl) h
  · have h := h.2 c51
    refine lv_aload_n hx hb dX0_gatherAhead_54 rfl (lv_at hl 1 rfl) ?_
    refine lv_iload hx hb dX0_gatherAhead_55 (lv_at hl 6 rfl) ?_
    refine lv_aload_n hx hb dX0_gatherAhead_57 rfl (lv_at hl 1 rfl) ?_
    refine lv_iload hx hb dX0_gatherAhead_58 (lv_at hl 6 rfl) ?_
    obtain ⟨hk4, h⟩ := h
    obtain ⟨hi3, h⟩ := h
    refine cs_iald v1 hk4 fx hK hP hi3 dX0_gatherAhead_60 ?_
    refine lv_aload_n hx hb dX0_gatherAhead_61 rfl (lv_at hl 2 rfl) ?_
    refine lv_iload hx hb dX0_gatherAhead_62 (lv_at hl 7 rfl) ?_
    obtain ⟨hk6, h⟩ := h
    obtain ⟨hi5, h⟩ := h
    refine cs_iald v2 hk6 fx hK hP hi5 dX0_gatherAhead_64 ?_
    refine xr_sI (n := 2) (As := [.int (S.2.1 v1 v6.toNatClampNeg), .int (S.2.1 v2 v7.toNatClampNeg)]) (rest := [.int v6, .ref (ad (9 + v1))]) fx (ct_X3_plus l h) gX0_gatherAhead_X3_plus rfl rfl (by decide +kernel) ⟨Nat.le_of_ble_eq_true rfl, Nat.le_of_ble_eq_true rfl⟩ ⟨rfl, rfl⟩ hf hl.1 rfl (Nat.le_of_ble_eq_true rfl) dX0_gatherAhead_65 (fun r7 h => ?_)
    obtain ⟨hi8, h⟩ := h
    refine cs_iast v1 hk4 fx hK hP hD hS hi8 dX0_gatherAhead_68 (fun H locs hP hD hS => ?_)
    obtain ⟨v6_9, ev6_9⟩ : ∃ z : Int32, z = v6 + 1 := ⟨_, rfl⟩
    have h := h v6_9 ev6_9
    refine lv_iinc (v := v6_9) (lv' := [(6, .int v6_9), (0, .ref (ad 2)), (1, .ref (ad (9 + v1))), (2, .ref (ad (9 + v2))), (3, .int v3), (4, .int v4), (5, .int v5), (7, .int v7)]) hx hb dX0_gatherAhead_69 hl (k := 6) rfl (by rw [ev6_9]; rfl) (by decide) rfl (fun ls hl => ?_)
    obtain ⟨v7_10, ev7_10⟩ : ∃ z : Int32, z = v7 + 1 := ⟨_, rfl⟩
    have h := h v7_10 ev7_10
    refine lv_iinc (v := v7_10) (lv' := [(7, .int v7_10), (6, .int v6_9), (0, .ref (ad 2)), (1, .ref (ad (9 + v1))), (2, .ref (ad (9 + v2))), (3, .int v3), (4, .int v4), (5, .int v5)]) hx hb dX0_gatherAhead_72 hl (k := 7) rfl (by rw [ev7_10]; rfl) (by decide) rfl (fun ls hl => ?_)
    refine lv_goto (tgt := 40) hx hb dX0_gatherAhead_75 (by decide) ?_
    exact k40 _ _ _ _ _ _ _ _ hP hD hS (lv_sub hl [2, 3, 4, 5, 6, 7, 1, 0] rfl) h
theorem kw_X0_gatherAhead_40 {p : Program} {l : Launch} {e : Env} {s : State} {m : MethodId} {args : Array Value} {below : List Frame} {meth : Method} {c : Code} {D : va_G} {ad : Nat → Nat} {cI cJ cR : ClassId} {Ln : Nat → Nat} {A : Nat → Prop} {K3 : cs_T → Nat → Nat → Int32 → Int32 → Int32 → Prop} {Q : cs_T → Prop} (fx : xr_Fx p m c meth cX0_gatherAhead 8 s args wsX0_gatherAhead RX0 none) (hK : xr_K D (cs_ty cI cJ cR) s) (hA : ∀ q, s.heap.size ≤ q → A q)  (k3 : ∀ (S : cs_T) (v1 : Nat) (v2 : Nat) (v3 : Int32) (v4 : Int32) (v5 : Int32) {H : Heap} {locs : List Loc} {ls : Array Slot}, va_P D vwCl (cs_w ad cI cR Ln S) H → va_D A (cs_w ad cI cR Ln S) → va_S A s.heap H locs → lv_has ls 8 [(0, .ref (ad 2)), (1, .ref (ad (9 + v1))), (2, .ref (ad (9 + v2))), (3, .int v3), (4, .int v4), (5, .int v5)] → K3 S v1 v2 v3 v4 v5 → W p l e rm_X0_gatherAhead s m args below meth c H locs 0 0 (MQ below (va_Qv Q (xr_B D (cs_ty cI cJ cR) (cs_w ad cI cR Ln) A) A) args s 0 0 A) (F0 m 3 ls [])) : ∀ (n : Nat) (S : cs_T) (v1 : Nat) (v2 : Nat) (v3 : Int32) (v4 : Int32) (v5 : Int32) (v6 : Int32) (v7 : Int32) {H : Heap} {locs : List Loc} {ls : Array Slot}, va_P D vwCl (cs_w ad cI cR Ln S) H → va_D A (cs_w ad cI cR Ln S) → va_S A s.heap H locs → lv_has ls 8 [(0, .ref (ad 2)), (1, .ref (ad (9 + v1))), (2, .ref (ad (9 + v2))), (3, .int v3), (4, .int v4), (5, .int v5), (6, .int v6), (7, .int v7)] → wp_X0_gatherAhead_40 Ln K3 Q n S v1 v2 v3 v4 v5 v6 v7 → W p l e rm_X0_gatherAhead s m args below meth c H locs 0 0 (MQ below (va_Qv Q (xr_B D (cs_ty cI cJ cR) (cs_w ad cI cR Ln) A) A) args s 0 0 A) (F0 m 40 ls []) := by
  intro n
  induction n with
  | zero => intro S v1 v2 v3 v4 v5 v6 v7 H locs ls hP hD hS hl h; exact False.elim h
  | succ n ih => intro S v1 v2 v3 v4 v5 v6 v7 H locs ls hP hD hS hl h; exact kb_X0_gatherAhead_40 fx hK hA k3 ih hP hD hS hl h
set_option maxHeartbeats 4000000 in
set_option maxRecDepth 100000 in
theorem kb_X0_gatherAhead_3 {p : Program} {l : Launch} {e : Env} {s : State} {m : MethodId} {args : Array Value} {below : List Frame} {meth : Method} {c : Code} {D : va_G} {ad : Nat → Nat} {cI cJ cR : ClassId} {Ln : Nat → Nat} {A : Nat → Prop}  {K3 : cs_T → Nat → Nat → Int32 → Int32 → Int32 → Prop} {Q : cs_T → Prop} {S : cs_T} {v1 : Nat} {v2 : Nat} {v3 : Int32} {v4 : Int32} {v5 : Int32} (fx : xr_Fx p m c meth cX0_gatherAhead 8 s args wsX0_gatherAhead RX0 none) (hK : xr_K D (cs_ty cI cJ cR) s) (hA : ∀ q, s.heap.size ≤ q → A q)   (k3 : ∀ (S : cs_T) (v1 : Nat) (v2 : Nat) (v3 : Int32) (v4 : Int32) (v5 : Int32) {H : Heap} {locs : List Loc} {ls : Array Slot}, va_P D vwCl (cs_w ad cI cR Ln S) H → va_D A (cs_w ad cI cR Ln S) → va_S A s.heap H locs → lv_has ls 8 [(0, .ref (ad 2)), (1, .ref (ad (9 + v1))), (2, .ref (ad (9 + v2))), (3, .int v3), (4, .int v4), (5, .int v5)] → K3 S v1 v2 v3 v4 v5 → W p l e rm_X0_gatherAhead s m args below meth c H locs 0 0 (MQ below (va_Qv Q (xr_B D (cs_ty cI cJ cR) (cs_w ad cI cR Ln) A) A) args s 0 0 A) (F0 m 3 ls [])) {H : Heap} {locs : List Loc} {ls : Array Slot} (hP : va_P D vwCl (cs_w ad cI cR Ln S) H) (hD : va_D A (cs_w ad cI cR Ln S)) (hS : va_S A s.heap H locs) (hl : lv_has ls 8 [(0, .ref (ad 2)), (1, .ref (ad (9 + v1))), (2, .ref (ad (9 + v2))), (3, .int v3), (4, .int v4), (5, .int v5)]) (h : wb_X0_gatherAhead_3 Ln K3 Q S v1 v2 v3 v4 v5) : W p l e rm_X0_gatherAhead s m args below meth c H locs 0 0 (MQ below (va_Qv Q (xr_B D (cs_ty cI cJ cR) (cs_w ad cI cR Ln) A) A) args s 0 0 A) (F0 m 3 ls []) := by
  obtain ⟨⟨hx, hb, hml, hown, hts⟩, hrt, hlk⟩ := id fx
  have hf : 0 ≤ rm_X0_gatherAhead.cells ∧ 0 ≤ rm_X0_gatherAhead.slots := ⟨Nat.zero_le _, Nat.zero_le _⟩
  unfold wb_X0_gatherAhead_3 at h
  refine lv_iload hx hb dX0_gatherAhead_3 (lv_at hl 5 rfl) ?_
  refine lv_iload hx hb dX0_gatherAhead_5 (lv_at hl 4 rfl) ?_
  refine lv_icmp_gt (tgt := 84) hx hb dX0_gatherAhead_7 (by decide) (fun c7 => ?_) (fun c7 => ?_)
  · have h := h.1 c7
    exact xr_rV fx hK hP hD hS h dX0_gatherAhead_84
  · have h := h.2 c7
    refine lv_aload_n hx hb dX0_gatherAhead_10 rfl (lv_at hl 0 rfl) ?_
    refine cs_get 2 0 5 (v := .ref (ad (9 + 1))) (ref := "BracketLetters$Algebra") fx (by decide) rfl rfl in_X0_gatherAhead_X0 (by decide) rfl (by decide +kernel) rfl hK hP dX0_gatherAhead_11 ?_
    refine lv_iload hx hb dX0_gatherAhead_14 (lv_at hl 5 rfl) ?_
    refine lv_iconst (v := 1) hx hb dX0_gatherAhead_16 (by decide) ?_
    refine lv_iadd hx hb dX0_gatherAhead_17 ?_
    obtain ⟨hi11, h⟩ := h
    refine cs_iald 1 (by decide) fx hK hP hi11 dX0_gatherAhead_18 ?_
    refine lv_iload_n hx hb dX0_gatherAhead_19 rfl (lv_at hl 3 rfl) ?_
    refine lv_aload_n hx hb dX0_gatherAhead_20 rfl (lv_at hl 0 rfl) ?_
    refine cs_get 2 0 4 (v := .ref (ad (9 + 0))) (ref := "BracketLetters$Algebra") fx (by decide) rfl rfl in_X0_gatherAhead_X0 (by decide) rfl (by decide +kernel) rfl hK hP dX0_gatherAhead_21 ?_
    refine lv_iload hx hb dX0_gatherAhead_24 (lv_at hl 5 rfl) ?_
    obtain ⟨hi12, h⟩ := h
    refine cs_iald 0 (by decide) fx hK hP hi12 dX0_gatherAhead_26 ?_
    refine lv_imul hx hb dX0_gatherAhead_27 ?_
    refine lv_iadd hx hb dX0_gatherAhead_28 ?_
    refine lv_topi (fun v6_13 ev6_13 => ?_)
    have h := h v6_13 ev6_13
    refine lv_istore (lv' := [(6, .int v6_13), (0, .ref (ad 2)), (1, .ref (ad (9 + v1))), (2, .ref (ad (9 + v2))), (3, .int v3), (4, .int v4), (5, .int v5)]) hx hb dX0_gatherAhead_29 hl (by decide) rfl (fun ls hl => ?_)
    refine lv_aload_n hx hb dX0_gatherAhead_31 rfl (lv_at hl 1 rfl) ?_
    refine cs_get 2 0 5 (v := .ref (ad (9 + 1))) (ref := "BracketLetters$Algebra") fx (by decide) rfl rfl in_X0_gatherAhead_X0 (by decide) rfl (by decide +kernel) rfl hK hP dX0_gatherAhead_32 ?_
    refine lv_iload hx hb dX0_gatherAhead_35 (lv_at hl 6 rfl) ?_
    obtain ⟨hi14, h⟩ := h
    refine cs_iald 1 (by decide) fx hK hP hi14 dX0_gatherAhead_37 ?_
    refine lv_topi (fun v7_15 ev7_15 => ?_)
    have h := h v7_15 ev7_15
    refine lv_istore (lv' := [(7, .int v7_15), (6, .int v6_13), (0, .ref (ad 2)), (1, .ref (ad (9 + v1))), (2, .ref (ad (9 + v2))), (3, .int v3), (4, .int v4), (5, .int v5)]) hx hb dX0_gatherAhead_38 hl (by decide) rfl (fun ls hl => ?_)
    obtain ⟨n, h⟩ := h
    exact kw_X0_gatherAhead_40 fx hK hA k3 n _ _ _ _ _ _ _ _ hP hD hS (lv_sub hl [2, 3, 4, 5, 6, 7, 1, 0] rfl) h
theorem kw_X0_gatherAhead_3 {p : Program} {l : Launch} {e : Env} {s : State} {m : MethodId} {args : Array Value} {below : List Frame} {meth : Method} {c : Code} {D : va_G} {ad : Nat → Nat} {cI cJ cR : ClassId} {Ln : Nat → Nat} {A : Nat → Prop}  {Q : cs_T → Prop} (fx : xr_Fx p m c meth cX0_gatherAhead 8 s args wsX0_gatherAhead RX0 none) (hK : xr_K D (cs_ty cI cJ cR) s) (hA : ∀ q, s.heap.size ≤ q → A q)   : ∀ (n : Nat) (S : cs_T) (v1 : Nat) (v2 : Nat) (v3 : Int32) (v4 : Int32) (v5 : Int32) {H : Heap} {locs : List Loc} {ls : Array Slot}, va_P D vwCl (cs_w ad cI cR Ln S) H → va_D A (cs_w ad cI cR Ln S) → va_S A s.heap H locs → lv_has ls 8 [(0, .ref (ad 2)), (1, .ref (ad (9 + v1))), (2, .ref (ad (9 + v2))), (3, .int v3), (4, .int v4), (5, .int v5)] → wp_X0_gatherAhead_3 Ln Q n S v1 v2 v3 v4 v5 → W p l e rm_X0_gatherAhead s m args below meth c H locs 0 0 (MQ below (va_Qv Q (xr_B D (cs_ty cI cJ cR) (cs_w ad cI cR Ln) A) A) args s 0 0 A) (F0 m 3 ls []) := by
  intro n
  induction n with
  | zero => intro S v1 v2 v3 v4 v5 H locs ls hP hD hS hl h; exact False.elim h
  | succ n ih => intro S v1 v2 v3 v4 v5 H locs ls hP hD hS hl h; exact kb_X0_gatherAhead_3 fx hK hA ih hP hD hS hl h
set_option maxHeartbeats 4000000 in
set_option maxRecDepth 100000 in
theorem ct_X0_gatherAhead (l : Launch) (D : va_G) (ad : Nat → Nat) (cI cJ cR : ClassId) (Ln : Nat → Nat) {S : cs_T} {a1 : Nat} {a2 : Nat} {a3 : Int32} {a4 : Int32} {Q : cs_T → Prop} (h : wp_X0_gatherAhead Ln S a1 a2 a3 a4 Q) : xr_V l D (cs_ty cI cJ cR) (cs_w ad cI cR Ln) yX0_gatherAhead wsX0_gatherAhead rm_X0_gatherAhead [.ref (ad 2), .ref (ad (9 + a1)), .ref (ad (9 + a2)), .int a3, .int a4] S Q := by
  refine xr_eV (cc := cX0_gatherAhead) (nL := 8) (ret := none) (own := RX0) (by decide) rfl rfl (Nat.le_of_ble_eq_true rfl) ?_
  intro p e s m args below meth c ls A fx hK hA hP hD hS hl
  have hl : lv_has ls 8 [(0, .ref (ad 2)), (1, .ref (ad (9 + a1))), (2, .ref (ad (9 + a2))), (3, .int a3), (4, .int a4)] := hl
  show W p l e rm_X0_gatherAhead s m args below meth c s.heap [] 0 0 _ _
  obtain ⟨⟨hx, hb, hml, hown, hts⟩, hrt, hlk⟩ := id fx
  have hf : 0 ≤ rm_X0_gatherAhead.cells ∧ 0 ≤ rm_X0_gatherAhead.slots := ⟨Nat.zero_le _, Nat.zero_le _⟩
  unfold wp_X0_gatherAhead at h
  refine lv_iconst (v := 0) hx hb dX0_gatherAhead_0 (by decide) ?_
  refine lv_istore (lv' := [(5, .int 0), (0, .ref (ad 2)), (1, .ref (ad (9 + a1))), (2, .ref (ad (9 + a2))), (3, .int a3), (4, .int a4)]) hx hb dX0_gatherAhead_1 hl (by decide) rfl (fun ls hl => ?_)
  obtain ⟨n, h⟩ := h
  exact kw_X0_gatherAhead_3 fx hK hA n _ _ _ _ _ _ hP hD hS (lv_sub hl [1, 2, 3, 4, 5, 0] rfl) h
abbrev rm_X0_setBehind (d : Nat) : Room := { frames := 2 * d, cells := 0, slots := 0, locals := 49 * d }
theorem in_X0_setBehind_X0 : ∀ w ∈ wsX00, w ∈ wsX0_setBehind := by decide +kernel
set_option maxHeartbeats 4000000 in
set_option maxRecDepth 100000 in
theorem kw_X0_setBehind_144 {p : Program} {l : Launch} {e : Env} {s : State} {m : MethodId} {args : Array Value} {below : List Frame} {meth : Method} {c : Code} {D : va_G} {ad : Nat → Nat} {cI cJ cR : ClassId} {Ln : Nat → Nat} {A : Nat → Prop} {R : cs_T → Nat → Int32 → Int32 → Int32 → Nat → (cs_T → Prop) → Prop} {d : Nat} {K77 : cs_T → Nat → Int32 → Int32 → Int32 → Nat → Nat → Int32 → Nat → Int32 → Prop} {Q : cs_T → Prop} {S : cs_T} {v1 : Nat} {v2 : Int32} {v3 : Int32} {v4 : Int32} {v5 : Nat} {v6 : Nat} {v7 : Int32} {v8 : Nat} {v9 : Int32} (fx : xr_Fx p m c meth cX0_setBehind 10 s args wsX0_setBehind RX0 none) (hK : xr_K D (cs_ty cI cJ cR) s) (hA : ∀ q, s.heap.size ≤ q → A q) (hR : ∀ (S : cs_T) (b0 : Nat) (b1 : Int32) (b2 : Int32) (b3 : Int32) (b4 : Nat) (Q : cs_T → Prop), R S b0 b1 b2 b3 b4 Q → xr_V l D (cs_ty cI cJ cR) (cs_w ad cI cR Ln) yX0_setBehind wsX0_setBehind (rm_X0_setBehind d) [.ref (ad 2), .ref (ad (9 + b0)), .int b1, .int b2, .int b3, .ref (ad (9 + b4))] S Q) (k77 : ∀ (S : cs_T) (v1 : Nat) (v2 : Int32) (v3 : Int32) (v4 : Int32) (v5 : Nat) (v6 : Nat) (v7 : Int32) (v8 : Nat) (v9 : Int32) {H : Heap} {locs : List Loc} {ls : Array Slot}, va_P D vwCl (cs_w ad cI cR Ln S) H → va_D A (cs_w ad cI cR Ln S) → va_S A s.heap H locs → lv_has ls 10 [(0, .ref (ad 2)), (1, .ref (ad (9 + v1))), (2, .int v2), (3, .int v3), (4, .int v4), (5, .ref (ad (9 + v5))), (6, .ref (ad (9 + v6))), (7, .int v7), (8, .ref (ad (9 + v8))), (9, .int v9)] → K77 S v1 v2 v3 v4 v5 v6 v7 v8 v9 → W p l e (rm_X0_setBehind (d + 1)) s m args below meth c H locs 0 0 (MQ below (va_Qv Q (xr_B D (cs_ty cI cJ cR) (cs_w ad cI cR Ln) A) A) args s 0 0 A) (F0 m 77 ls [])) {H : Heap} {locs : List Loc} {ls : Array Slot} (hP : va_P D vwCl (cs_w ad cI cR Ln S) H) (hD : va_D A (cs_w ad cI cR Ln S)) (hS : va_S A s.heap H locs) (hl : lv_has ls 10 [(0, .ref (ad 2)), (1, .ref (ad (9 + v1))), (2, .int v2), (3, .int v3), (4, .int v4), (5, .ref (ad (9 + v5))), (6, .ref (ad (9 + v6))), (7, .int v7), (8, .ref (ad (9 + v8))), (9, .int v9)]) (h : wp_X0_setBehind_144 R Ln K77 Q S v1 v2 v3 v4 v5 v6 v7 v8 v9) : W p l e (rm_X0_setBehind (d + 1)) s m args below meth c H locs 0 0 (MQ below (va_Qv Q (xr_B D (cs_ty cI cJ cR) (cs_w ad cI cR Ln) A) A) args s 0 0 A) (F0 m 144 ls []) := by
  obtain ⟨⟨hx, hb, hml, hown, hts⟩, hrt, hlk⟩ := id fx
  have hf : 0 ≤ (rm_X0_setBehind (d + 1)).cells ∧ 0 ≤ (rm_X0_setBehind (d + 1)).slots := ⟨Nat.zero_le _, Nat.zero_le _⟩
  unfold wp_X0_setBehind_144 at h
  obtain ⟨v9_1, ev9_1⟩ : ∃ z : Int32, z = v9 + 1 := ⟨_, rfl⟩
  have h := h v9_1 ev9_1
  refine lv_iinc (v := v9_1) (lv' := [(9, .int v9_1), (0, .ref (ad 2)), (1, .ref (ad (9 + v1))), (2, .int v2), (3, .int v3), (4, .int v4), (5, .ref (ad (9 + v5))), (6, .ref (ad (9 + v6))), (7, .int v7), (8, .ref (ad (9 + v8)))]) hx hb dX0_setBehind_144 hl (k := 9) rfl (by rw [ev9_1]; rfl) (by decide) rfl (fun ls hl => ?_)
  refine lv_goto (tgt := 77) hx hb dX0_setBehind_147 (by decide) ?_
  exact k77 _ _ _ _ _ _ _ _ _ _ hP hD hS (lv_sub hl [1, 2, 3, 4, 5, 6, 7, 8, 9, 0] rfl) h
set_option maxHeartbeats 4000000 in
set_option maxRecDepth 100000 in
theorem kb_X0_setBehind_77 {p : Program} {l : Launch} {e : Env} {s : State} {m : MethodId} {args : Array Value} {below : List Frame} {meth : Method} {c : Code} {D : va_G} {ad : Nat → Nat} {cI cJ cR : ClassId} {Ln : Nat → Nat} {A : Nat → Prop} {R : cs_T → Nat → Int32 → Int32 → Int32 → Nat → (cs_T → Prop) → Prop} {d : Nat}  {K77 : cs_T → Nat → Int32 → Int32 → Int32 → Nat → Nat → Int32 → Nat → Int32 → Prop} {Q : cs_T → Prop} {S : cs_T} {v1 : Nat} {v2 : Int32} {v3 : Int32} {v4 : Int32} {v5 : Nat} {v6 : Nat} {v7 : Int32} {v8 : Nat} {v9 : Int32} (fx : xr_Fx p m c meth cX0_setBehind 10 s args wsX0_setBehind RX0 none) (hK : xr_K D (cs_ty cI cJ cR) s) (hA : ∀ q, s.heap.size ≤ q → A q) (hR : ∀ (S : cs_T) (b0 : Nat) (b1 : Int32) (b2 : Int32) (b3 : Int32) (b4 : Nat) (Q : cs_T → Prop), R S b0 b1 b2 b3 b4 Q → xr_V l D (cs_ty cI cJ cR) (cs_w ad cI cR Ln) yX0_setBehind wsX0_setBehind (rm_X0_setBehind d) [.ref (ad 2), .ref (ad (9 + b0)), .int b1, .int b2, .int b3, .ref (ad (9 + b4))] S Q)  (k77 : ∀ (S : cs_T) (v1 : Nat) (v2 : Int32) (v3 : Int32) (v4 : Int32) (v5 : Nat) (v6 : Nat) (v7 : Int32) (v8 : Nat) (v9 : Int32) {H : Heap} {locs : List Loc} {ls : Array Slot}, va_P D vwCl (cs_w ad cI cR Ln S) H → va_D A (cs_w ad cI cR Ln S) → va_S A s.heap H locs → lv_has ls 10 [(0, .ref (ad 2)), (1, .ref (ad (9 + v1))), (2, .int v2), (3, .int v3), (4, .int v4), (5, .ref (ad (9 + v5))), (6, .ref (ad (9 + v6))), (7, .int v7), (8, .ref (ad (9 + v8))), (9, .int v9)] → K77 S v1 v2 v3 v4 v5 v6 v7 v8 v9 → W p l e (rm_X0_setBehind (d + 1)) s m args below meth c H locs 0 0 (MQ below (va_Qv Q (xr_B D (cs_ty cI cJ cR) (cs_w ad cI cR Ln) A) A) args s 0 0 A) (F0 m 77 ls [])) {H : Heap} {locs : List Loc} {ls : Array Slot} (hP : va_P D vwCl (cs_w ad cI cR Ln S) H) (hD : va_D A (cs_w ad cI cR Ln S)) (hS : va_S A s.heap H locs) (hl : lv_has ls 10 [(0, .ref (ad 2)), (1, .ref (ad (9 + v1))), (2, .int v2), (3, .int v3), (4, .int v4), (5, .ref (ad (9 + v5))), (6, .ref (ad (9 + v6))), (7, .int v7), (8, .ref (ad (9 + v8))), (9, .int v9)]) (h : wb_X0_setBehind_77 R Ln K77 Q S v1 v2 v3 v4 v5 v6 v7 v8 v9) : W p l e (rm_X0_setBehind (d + 1)) s m args below meth c H locs 0 0 (MQ below (va_Qv Q (xr_B D (cs_ty cI cJ cR) (cs_w ad cI cR Ln) A) A) args s 0 0 A) (F0 m 77 ls []) := by
  obtain ⟨⟨hx, hb, hml, hown, hts⟩, hrt, hlk⟩ := id fx
  have hf : 0 ≤ (rm_X0_setBehind (d + 1)).cells ∧ 0 ≤ (rm_X0_setBehind (d + 1)).slots := ⟨Nat.zero_le _, Nat.zero_le _⟩
  unfold wb_X0_setBehind_77 at h
  refine lv_iload hx hb dX0_setBehind_77 (lv_at hl 9 rfl) ?_
  refine lv_aload_n hx hb dX0_setBehind_79 rfl (lv_at hl 0 rfl) ?_
  refine cs_get 2 0 3 (v := .int (S.1 1)) (ref := "BracketLetters$Algebra") fx (by decide) rfl rfl in_X0_setBehind_X0 (by decide) rfl (by decide +kernel) rfl hK hP dX0_setBehind_80 ?_
  refine lv_icmp_ge (tgt := 150) hx hb dX0_setBehind_83 (by decide) (fun c83 => ?_) (fun c83 => ?_)
  · have h := h.1 c83
    exact xr_rV fx hK hP hD hS h dX0_setBehind_150
  · have h := h.2 c83
    refine lv_aload_n hx hb dX0_setBehind_86 rfl (lv_at hl 0 rfl) ?_
    refine lv_aload_n hx hb dX0_setBehind_87 rfl (lv_at hl 1 rfl) ?_
    refine lv_iload_n hx hb dX0_setBehind_88 rfl (lv_at hl 2 rfl) ?_
    refine lv_iconst (v := 1) hx hb dX0_setBehind_89 (by decide) ?_
    refine lv_iadd hx hb dX0_setBehind_90 ?_
    refine lv_iload_n hx hb dX0_setBehind_91 rfl (lv_at hl 3 rfl) ?_
    refine lv_aload_n hx hb dX0_setBehind_92 rfl (lv_at hl 0 rfl) ?_
    refine cs_get 2 0 3 (v := .int (S.1 1)) (ref := "BracketLetters$Algebra") fx (by decide) rfl rfl in_X0_setBehind_X0 (by decide) rfl (by decide +kernel) rfl hK hP dX0_setBehind_93 ?_
    refine lv_imul hx hb dX0_setBehind_96 ?_
    refine lv_iload hx hb dX0_setBehind_97 (lv_at hl 9 rfl) ?_
    refine lv_iadd hx hb dX0_setBehind_99 ?_
    refine lv_iload hx hb dX0_setBehind_100 (lv_at hl 4 rfl) ?_
    refine lv_aload hx hb dX0_setBehind_102 (lv_at hl 5 rfl) ?_
    refine xr_vV (n := 5) (As := [.ref (ad (9 + v1)), .int (v2 + 1), .int ((v3 * (S.1 1)) + v9), .int v4, .ref (ad (9 + v5))]) (rest := []) fx (hR _ _ _ _ _ _ _ h) gX0_setBehind_X0_setBehind rfl rfl (by decide +kernel) (by constructor <;> simp [rm_X0_setBehind, rm_X0_setBehind] <;> omega) ⟨rfl, rfl⟩ hf (cs_recv 2 0 (by decide) rfl rfl hK hP) hK hP hD hS hA hl.1 rfl (Nat.le_of_ble_eq_true rfl) dX0_setBehind_104 (fun S2 H locs h hP hD hS => ?_)
    refine lv_iload hx hb dX0_setBehind_107 (lv_at hl 9 rfl) ?_
    refine lv_iload hx hb dX0_setBehind_109 (lv_at hl 4 rfl) ?_
    refine lv_icmp_ne (tgt := 130) hx hb dX0_setBehind_111 (by decide) (fun c111 => ?_) (fun c111 => ?_)
    · have h := h.1 c111
      refine lv_aload_n hx hb dX0_setBehind_130 rfl (lv_at hl 0 rfl) ?_
      refine lv_aload hx hb dX0_setBehind_131 (lv_at hl 6 rfl) ?_
      refine lv_aload hx hb dX0_setBehind_133 (lv_at hl 8 rfl) ?_
      refine lv_iload hx hb dX0_setBehind_135 (lv_at hl 9 rfl) ?_
      refine lv_iload hx hb dX0_setBehind_137 (lv_at hl 7 rfl) ?_
      refine lv_iconst (v := 1) hx hb dX0_setBehind_139 (by decide) ?_
      refine lv_isub hx hb dX0_setBehind_140 ?_
      refine xr_vV (n := 4) (As := [.ref (ad (9 + v6)), .ref (ad (9 + v8)), .int v9, .int (v7 - 1)]) (rest := []) fx (ct_X0_gatherAhead l D ad cI cJ cR Ln h) gX0_setBehind_X0_gatherAhead rfl rfl (by decide +kernel) (by constructor <;> simp [rm_X0_setBehind, rm_X0_gatherAhead] <;> omega) ⟨rfl, rfl⟩ hf (cs_recv 2 0 (by decide) rfl rfl hK hP) hK hP hD hS hA hl.1 rfl (Nat.le_of_ble_eq_true rfl) dX0_setBehind_141 (fun S3 H locs h hP hD hS => ?_)
      exact kw_X0_setBehind_144 fx hK hA hR k77 hP hD hS (lv_sub hl [0, 1, 2, 3, 4, 5, 6, 7, 8, 9] rfl) h
    · have h := h.2 c111
      refine lv_aload_n hx hb dX0_setBehind_114 rfl (lv_at hl 0 rfl) ?_
      refine lv_aload hx hb dX0_setBehind_115 (lv_at hl 6 rfl) ?_
      refine lv_aload hx hb dX0_setBehind_117 (lv_at hl 5 rfl) ?_
      refine lv_aload hx hb dX0_setBehind_119 (lv_at hl 8 rfl) ?_
      refine lv_iconst (v := 1) hx hb dX0_setBehind_121 (by decide) ?_
      refine lv_iload hx hb dX0_setBehind_122 (lv_at hl 7 rfl) ?_
      refine xr_vV (n := 5) (As := [.ref (ad (9 + v6)), .ref (ad (9 + v5)), .ref (ad (9 + v8)), .int 1, .int v7]) (rest := []) fx (ct_X0_gather l D ad cI cJ cR Ln h) gX0_setBehind_X0_gather rfl rfl (by decide +kernel) (by constructor <;> simp [rm_X0_setBehind, rm_X0_gather] <;> omega) ⟨rfl, rfl⟩ hf (cs_recv 2 0 (by decide) rfl rfl hK hP) hK hP hD hS hA hl.1 rfl (Nat.le_of_ble_eq_true rfl) dX0_setBehind_124 (fun S4 H locs h hP hD hS => ?_)
      refine lv_goto (tgt := 144) hx hb dX0_setBehind_127 (by decide) ?_
      exact kw_X0_setBehind_144 fx hK hA hR k77 hP hD hS (lv_sub hl [0, 1, 2, 3, 4, 5, 6, 7, 8, 9] rfl) h
theorem kw_X0_setBehind_77 {p : Program} {l : Launch} {e : Env} {s : State} {m : MethodId} {args : Array Value} {below : List Frame} {meth : Method} {c : Code} {D : va_G} {ad : Nat → Nat} {cI cJ cR : ClassId} {Ln : Nat → Nat} {A : Nat → Prop} {R : cs_T → Nat → Int32 → Int32 → Int32 → Nat → (cs_T → Prop) → Prop} {d : Nat}  {Q : cs_T → Prop} (fx : xr_Fx p m c meth cX0_setBehind 10 s args wsX0_setBehind RX0 none) (hK : xr_K D (cs_ty cI cJ cR) s) (hA : ∀ q, s.heap.size ≤ q → A q) (hR : ∀ (S : cs_T) (b0 : Nat) (b1 : Int32) (b2 : Int32) (b3 : Int32) (b4 : Nat) (Q : cs_T → Prop), R S b0 b1 b2 b3 b4 Q → xr_V l D (cs_ty cI cJ cR) (cs_w ad cI cR Ln) yX0_setBehind wsX0_setBehind (rm_X0_setBehind d) [.ref (ad 2), .ref (ad (9 + b0)), .int b1, .int b2, .int b3, .ref (ad (9 + b4))] S Q)  : ∀ (n : Nat) (S : cs_T) (v1 : Nat) (v2 : Int32) (v3 : Int32) (v4 : Int32) (v5 : Nat) (v6 : Nat) (v7 : Int32) (v8 : Nat) (v9 : Int32) {H : Heap} {locs : List Loc} {ls : Array Slot}, va_P D vwCl (cs_w ad cI cR Ln S) H → va_D A (cs_w ad cI cR Ln S) → va_S A s.heap H locs → lv_has ls 10 [(0, .ref (ad 2)), (1, .ref (ad (9 + v1))), (2, .int v2), (3, .int v3), (4, .int v4), (5, .ref (ad (9 + v5))), (6, .ref (ad (9 + v6))), (7, .int v7), (8, .ref (ad (9 + v8))), (9, .int v9)] → wp_X0_setBehind_77 R Ln Q n S v1 v2 v3 v4 v5 v6 v7 v8 v9 → W p l e (rm_X0_setBehind (d + 1)) s m args below meth c H locs 0 0 (MQ below (va_Qv Q (xr_B D (cs_ty cI cJ cR) (cs_w ad cI cR Ln) A) A) args s 0 0 A) (F0 m 77 ls []) := by
  intro n
  induction n with
  | zero => intro S v1 v2 v3 v4 v5 v6 v7 v8 v9 H locs ls hP hD hS hl h; exact False.elim h
  | succ n ih => intro S v1 v2 v3 v4 v5 v6 v7 v8 v9 H locs ls hP hD hS hl h; exact kb_X0_setBehind_77 fx hK hA hR ih hP hD hS hl h
set_option maxHeartbeats 4000000 in
set_option maxRecDepth 100000 in
theorem cq_X0_setBehind (l : Launch) (D : va_G) (ad : Nat → Nat) (cI cJ cR : ClassId) (Ln : Nat → Nat) (d : Nat) {R : cs_T → Nat → Int32 → Int32 → Int32 → Nat → (cs_T → Prop) → Prop} (hR : ∀ (S : cs_T) (b0 : Nat) (b1 : Int32) (b2 : Int32) (b3 : Int32) (b4 : Nat) (Q : cs_T → Prop), R S b0 b1 b2 b3 b4 Q → xr_V l D (cs_ty cI cJ cR) (cs_w ad cI cR Ln) yX0_setBehind wsX0_setBehind (rm_X0_setBehind d) [.ref (ad 2), .ref (ad (9 + b0)), .int b1, .int b2, .int b3, .ref (ad (9 + b4))] S Q) {S : cs_T} {a1 : Nat} {a2 : Int32} {a3 : Int32} {a4 : Int32} {a5 : Nat} {Q : cs_T → Prop} (h : wq_X0_setBehind R Ln S a1 a2 a3 a4 a5 Q) : xr_V l D (cs_ty cI cJ cR) (cs_w ad cI cR Ln) yX0_setBehind wsX0_setBehind (rm_X0_setBehind (d + 1)) [.ref (ad 2), .ref (ad (9 + a1)), .int a2, .int a3, .int a4, .ref (ad (9 + a5))] S Q := by
  refine xr_eV (cc := cX0_setBehind) (nL := 10) (ret := none) (own := RX0) (by decide) rfl rfl (Nat.le_of_ble_eq_true rfl) ?_
  intro p e s m args below meth c ls A fx hK hA hP hD hS hl
  have hl : lv_has ls 10 [(0, .ref (ad 2)), (1, .ref (ad (9 + a1))), (2, .int a2), (3, .int a3), (4, .int a4), (5, .ref (ad (9 + a5)))] := hl
  show W p l e (rm_X0_setBehind (d + 1)) s m args below meth c s.heap [] 0 0 _ _
  obtain ⟨⟨hx, hb, hml, hown, hts⟩, hrt, hlk⟩ := id fx
  have hf : 0 ≤ (rm_X0_setBehind (d + 1)).cells ∧ 0 ≤ (rm_X0_setBehind (d + 1)).slots := ⟨Nat.zero_le _, Nat.zero_le _⟩
  unfold wq_X0_setBehind at h
  refine lv_aload_n hx hb dX0_setBehind_0 rfl (lv_at hl 0 rfl) ?_
  refine cs_get 2 0 0 (v := .ref (ad 8)) (ref := "BracketLetters$Algebra") fx (by decide) rfl rfl in_X0_setBehind_X0 (by decide) rfl (by decide +kernel) rfl hK hP dX0_setBehind_1 ?_
  refine lv_iload_n hx hb dX0_setBehind_4 rfl (lv_at hl 2 rfl) ?_
  obtain ⟨hi5, h⟩ := h
  refine cs_aald 8 18 15 fx (by decide) rfl hK hP hi5 dX0_setBehind_5 ?_
  refine lv_astore (lv' := [(6, .ref (ad (9 + (15 + a2.toNatClampNeg)))), (0, .ref (ad 2)), (1, .ref (ad (9 + a1))), (2, .int a2), (3, .int a3), (4, .int a4), (5, .ref (ad (9 + a5)))]) hx hb dX0_setBehind_6 hl (by decide) rfl (fun ls hl => ?_)
  refine lv_aload_n hx hb dX0_setBehind_8 rfl (lv_at hl 1 rfl) ?_
  refine cs_get 2 0 2 (v := .int (S.1 0)) (ref := "BracketLetters$Algebra") fx (by decide) rfl rfl in_X0_setBehind_X0 (by decide) rfl (by decide +kernel) rfl hK hP dX0_setBehind_9 ?_
  refine lv_iload_n hx hb dX0_setBehind_12 rfl (lv_at hl 3 rfl) ?_
  refine lv_isub hx hb dX0_setBehind_13 ?_
  refine lv_topi (fun v7_6 ev7_6 => ?_)
  have h := h v7_6 ev7_6
  refine lv_istore (lv' := [(7, .int v7_6), (6, .ref (ad (9 + (15 + a2.toNatClampNeg)))), (0, .ref (ad 2)), (1, .ref (ad (9 + a1))), (2, .int a2), (3, .int a3), (4, .int a4), (5, .ref (ad (9 + a5)))]) hx hb dX0_setBehind_14 hl (by decide) rfl (fun ls hl => ?_)
  refine lv_aload hx hb dX0_setBehind_16 (lv_at hl 1 rfl) ?_
  refine lv_iconst (v := 0) hx hb dX0_setBehind_18 (by decide) ?_
  refine lv_aload_n hx hb dX0_setBehind_19 rfl (lv_at hl 2 rfl) ?_
  refine cs_get 2 0 5 (v := .ref (ad (9 + 1))) (ref := "BracketLetters$Algebra") fx (by decide) rfl rfl in_X0_setBehind_X0 (by decide) rfl (by decide +kernel) rfl hK hP dX0_setBehind_20 ?_
  refine lv_iload hx hb dX0_setBehind_23 (lv_at hl 0 rfl) ?_
  refine lv_iconst (v := 2) hx hb dX0_setBehind_25 (by decide) ?_
  refine lv_iadd hx hb dX0_setBehind_26 ?_
  refine lv_aload_n hx hb dX0_setBehind_27 rfl (lv_at hl 2 rfl) ?_
  refine cs_get 2 0 2 (v := .int (S.1 0)) (ref := "BracketLetters$Algebra") fx (by decide) rfl rfl in_X0_setBehind_X0 (by decide) rfl (by decide +kernel) rfl hK hP dX0_setBehind_28 ?_
  refine lv_iconst (v := 1) hx hb dX0_setBehind_31 (by decide) ?_
  refine lv_iadd hx hb dX0_setBehind_32 ?_
  refine va_mmin hx hb (hml.trans hl.1.symm) hown (hts (.methodLink RX0 138 Lib.Math.min.name) (by decide +kernel)) (hts (.static Lib.Math.min.name) (by decide +kernel)) (hts (.initialized "java/lang/Math") (by decide +kernel)) (hts (.code Lib.Math.min.name Lib.Math.min.code 2 (some .int)) (by decide +kernel)) (by simp [rm_X0_setBehind] <;> omega) (by simp [rm_X0_setBehind, Value.category] <;> omega) hf.1 hf.2 dX0_setBehind_33 ?_
  obtain ⟨hi7, h⟩ := h
  refine cs_iald 1 (by decide) fx hK hP hi7 dX0_setBehind_36 ?_
  refine lv_iconst (v := 0) hx hb dX0_setBehind_37 (by decide) ?_
  refine xr_wV (n := 4) (As := [.ref (ad (9 + (15 + a2.toNatClampNeg))), .int 0, .int (S.2.1 1 (if ((S.1 0) + 1) < (v7_6 + 2) then ((S.1 0) + 1) else (v7_6 + 2)).toNatClampNeg), .int 0]) (rest := []) fx (ct_J7_fill_fda19 l D ad cI cJ cR Ln h) gX0_setBehind_J7_fill_fda19 rfl rfl (by decide +kernel) (by constructor <;> simp [rm_X0_setBehind, rm_J7_fill_fda19] <;> omega) ⟨rfl, rfl⟩ hf hK hP hD hS hA hl.1 rfl (Nat.le_of_ble_eq_true rfl) dX0_setBehind_38 (fun S8 H locs h hP hD hS => ?_)
  refine lv_aload hx hb dX0_setBehind_41 (lv_at hl 1 rfl) ?_
  refine lv_iconst (v := 0) hx hb dX0_setBehind_43 (by decide) ?_
  refine lv_aload_n hx hb dX0_setBehind_44 rfl (lv_at hl 3 rfl) ?_
  refine lv_aload_n hx hb dX0_setBehind_45 rfl (lv_at hl 2 rfl) ?_
  refine cs_get 2 0 5 (v := .ref (ad (9 + 1))) (ref := "BracketLetters$Algebra") fx (by decide) rfl rfl in_X0_setBehind_X0 (by decide) rfl (by decide +kernel) rfl hK hP dX0_setBehind_46 ?_
  refine lv_iload_n hx hb dX0_setBehind_49 rfl (lv_at hl 4 rfl) ?_
  obtain ⟨hi9, h⟩ := h
  refine cs_iald 1 (by decide) fx hK hP hi9 dX0_setBehind_50 ?_
  refine lv_iload_n hx hb dX0_setBehind_51 rfl (lv_at hl 5 rfl) ?_
  refine lv_iadd hx hb dX0_setBehind_52 ?_
  obtain ⟨hk11, h⟩ := h
  obtain ⟨hi10, h⟩ := h
  refine cs_iald a1 hk11 fx hK hP hi10 dX0_setBehind_53 ?_
  obtain ⟨hk13, h⟩ := h
  obtain ⟨hi12, h⟩ := h
  refine cs_iast (15 + a2.toNatClampNeg) hk13 fx hK hP hD hS hi12 dX0_setBehind_54 (fun H locs hP hD hS => ?_)
  refine lv_iload_n hx hb dX0_setBehind_55 rfl (lv_at hl 4 rfl) ?_
  refine lv_aload_n hx hb dX0_setBehind_56 rfl (lv_at hl 2 rfl) ?_
  refine cs_get 2 0 2 (v := .int ((cs_sI S8 (15 + a2.toNatClampNeg) ((0 : Int32)).toNatClampNeg (S8.2.1 a1 ((S8.2.1 1 a2.toNatClampNeg) + a3).toNatClampNeg)).1 0)) (ref := "BracketLetters$Algebra") fx (by decide) rfl rfl in_X0_setBehind_X0 (by decide) rfl (by decide +kernel) rfl hK hP dX0_setBehind_57 ?_
  refine lv_icmp_lt (tgt := 64) hx hb dX0_setBehind_60 (by decide) (fun c60 => ?_) (fun c60 => ?_)
  · have h := h.1 c60
    refine lv_aload_n hx hb dX0_setBehind_64 rfl (lv_at hl 2 rfl) ?_
    refine cs_get 2 0 0 (v := .ref (ad 8)) (ref := "BracketLetters$Algebra") fx (by decide) rfl rfl in_X0_setBehind_X0 (by decide) rfl (by decide +kernel) rfl hK hP dX0_setBehind_65 ?_
    refine lv_iload_n hx hb dX0_setBehind_68 rfl (lv_at hl 4 rfl) ?_
    refine lv_iconst (v := 1) hx hb dX0_setBehind_69 (by decide) ?_
    refine lv_iadd hx hb dX0_setBehind_70 ?_
    obtain ⟨hi14, h⟩ := h
    refine cs_aald 8 18 15 fx (by decide) rfl hK hP hi14 dX0_setBehind_71 ?_
    refine lv_astore (lv' := [(8, .ref (ad (9 + (15 + (a2 + 1).toNatClampNeg)))), (7, .int v7_6), (6, .ref (ad (9 + (15 + a2.toNatClampNeg)))), (0, .ref (ad 2)), (1, .ref (ad (9 + a1))), (2, .int a2), (3, .int a3), (4, .int a4), (5, .ref (ad (9 + a5)))]) hx hb dX0_setBehind_72 hl (by decide) rfl (fun ls hl => ?_)
    refine lv_iconst (v := 0) hx hb dX0_setBehind_74 (by decide) ?_
    refine lv_istore (lv' := [(9, .int 0), (8, .ref (ad (9 + (15 + (a2 + 1).toNatClampNeg)))), (7, .int v7_6), (6, .ref (ad (9 + (15 + a2.toNatClampNeg)))), (0, .ref (ad 2)), (1, .ref (ad (9 + a1))), (2, .int a2), (3, .int a3), (4, .int a4), (5, .ref (ad (9 + a5)))]) hx hb dX0_setBehind_75 hl (by decide) rfl (fun ls hl => ?_)
    obtain ⟨n, h⟩ := h
    exact kw_X0_setBehind_77 fx hK hA hR n _ _ _ _ _ _ _ _ _ _ hP hD hS (lv_sub hl [4, 5, 6, 7, 8, 9, 3, 2, 1, 0] rfl) h
  · have h := h.2 c60
    exact xr_rV fx hK hP hD hS h dX0_setBehind_63
theorem ct_X0_setBehind (l : Launch) (D : va_G) (ad : Nat → Nat) (cI cJ cR : ClassId) (Ln : Nat → Nat) : ∀ (d : Nat) (S : cs_T) (a1 : Nat) (a2 : Int32) (a3 : Int32) (a4 : Int32) (a5 : Nat) (Q : cs_T → Prop), wp_X0_setBehind Ln d S a1 a2 a3 a4 a5 Q → xr_V l D (cs_ty cI cJ cR) (cs_w ad cI cR Ln) yX0_setBehind wsX0_setBehind (rm_X0_setBehind d) [.ref (ad 2), .ref (ad (9 + a1)), .int a2, .int a3, .int a4, .ref (ad (9 + a5))] S Q := by
  intro d
  induction d with
  | zero => intro S a1 a2 a3 a4 a5 Q h; exact False.elim h
  | succ d ih => intro S a1 a2 a3 a4 a5 Q h; exact cq_X0_setBehind l D ad cI cJ cR Ln d ih h
abbrev rm_X0_setInAll : Room := { frames := 17, cells := 0, slots := 0, locals := 421 }
theorem in_X0_setInAll_X0 : ∀ w ∈ wsX00, w ∈ wsX0_setInAll := by decide +kernel
set_option maxHeartbeats 4000000 in
set_option maxRecDepth 100000 in
theorem ct_X0_setInAll (l : Launch) (D : va_G) (ad : Nat → Nat) (cI cJ cR : ClassId) (Ln : Nat → Nat) {S : cs_T} {a1 : Nat} {a2 : Nat} {a3 : Int32} {a4 : Nat} {Q : cs_T → Prop} (h : wp_X0_setInAll Ln S a1 a2 a3 a4 Q) : xr_V l D (cs_ty cI cJ cR) (cs_w ad cI cR Ln) yX0_setInAll wsX0_setInAll rm_X0_setInAll [.ref (ad 2), .ref (ad (9 + a1)), .ref (ad (9 + a2)), .int a3, .ref (ad (9 + a4))] S Q := by
  refine xr_eV (cc := cX0_setInAll) (nL := 5) (ret := none) (own := RX0) (by decide) rfl rfl (Nat.le_of_ble_eq_true rfl) ?_
  intro p e s m args below meth c ls A fx hK hA hP hD hS hl
  have hl : lv_has ls 5 [(0, .ref (ad 2)), (1, .ref (ad (9 + a1))), (2, .ref (ad (9 + a2))), (3, .int a3), (4, .ref (ad (9 + a4)))] := hl
  show W p l e rm_X0_setInAll s m args below meth c s.heap [] 0 0 _ _
  obtain ⟨⟨hx, hb, hml, hown, hts⟩, hrt, hlk⟩ := id fx
  have hf : 0 ≤ rm_X0_setInAll.cells ∧ 0 ≤ rm_X0_setInAll.slots := ⟨Nat.zero_le _, Nat.zero_le _⟩
  unfold wp_X0_setInAll at h
  refine lv_aload_n hx hb dX0_setInAll_0 rfl (lv_at hl 0 rfl) ?_
  refine lv_aload_n hx hb dX0_setInAll_1 rfl (lv_at hl 2 rfl) ?_
  refine lv_iconst (v := 0) hx hb dX0_setInAll_2 (by decide) ?_
  refine lv_iconst (v := 0) hx hb dX0_setInAll_3 (by decide) ?_
  refine lv_iload_n hx hb dX0_setInAll_4 rfl (lv_at hl 3 rfl) ?_
  refine lv_aload hx hb dX0_setInAll_5 (lv_at hl 4 rfl) ?_
  refine xr_vV (n := 5) (As := [.ref (ad (9 + a2)), .int 0, .int 0, .int a3, .ref (ad (9 + a4))]) (rest := []) fx (ct_X0_setBehind l D ad cI cJ cR Ln 8 _ _ _ _ _ _ _ h) gX0_setInAll_X0_setBehind rfl rfl (by decide +kernel) ⟨Nat.le_of_ble_eq_true rfl, Nat.le_of_ble_eq_true rfl⟩ ⟨rfl, rfl⟩ hf (cs_recv 2 0 (by decide) rfl rfl hK hP) hK hP hD hS hA hl.1 rfl (Nat.le_of_ble_eq_true rfl) dX0_setInAll_7 (fun S1 H locs h hP hD hS => ?_)
  refine lv_aload_n hx hb dX0_setInAll_10 rfl (lv_at hl 0 rfl) ?_
  refine lv_aload_n hx hb dX0_setInAll_11 rfl (lv_at hl 1 rfl) ?_
  refine lv_aload_n hx hb dX0_setInAll_12 rfl (lv_at hl 0 rfl) ?_
  refine cs_get 2 0 0 (v := .ref (ad 8)) (ref := "BracketLetters$Algebra") fx (by decide) rfl rfl in_X0_setInAll_X0 (by decide) rfl (by decide +kernel) rfl hK hP dX0_setInAll_13 ?_
  refine lv_iconst (v := 0) hx hb dX0_setInAll_16 (by decide) ?_
  obtain ⟨hi2, h⟩ := h
  refine cs_aald 8 18 15 fx (by decide) rfl hK hP hi2 dX0_setInAll_17 ?_
  refine xr_vV (n := 2) (As := [.ref (ad (9 + a1)), .ref (ad (9 + (15 + ((0 : Int32)).toNatClampNeg)))]) (rest := []) fx (ct_X0_copy l D ad cI cJ cR Ln h) gX0_setInAll_X0_copy rfl rfl (by decide +kernel) ⟨Nat.le_of_ble_eq_true rfl, Nat.le_of_ble_eq_true rfl⟩ ⟨rfl, rfl⟩ hf (cs_recv 2 0 (by decide) rfl rfl hK hP) hK hP hD hS hA hl.1 rfl (Nat.le_of_ble_eq_true rfl) dX0_setInAll_18 (fun S3 H locs h hP hD hS => ?_)
  exact xr_rV fx hK hP hD hS h dX0_setInAll_21
abbrev rm_X7_replace : Room := { frames := 18, cells := 0, slots := 0, locals := 445 }
theorem in_X7_replace_X7 : ∀ w ∈ wsX70, w ∈ wsX7_replace := by decide +kernel
set_option maxHeartbeats 4000000 in
set_option maxRecDepth 100000 in
theorem ct_X7_replace (l : Launch) (D : va_G) (ad : Nat → Nat) (cI cJ cR : ClassId) (Ln : Nat → Nat) {S : cs_T} {a1 : Int32} {a2 : Int32} {a3 : Int32} {a4 : Int32} {Q : Int32 → cs_T → Prop} (h : wp_X7_replace Ln S a1 a2 a3 a4 Q) : xr_I l D (cs_ty cI cJ cR) (cs_w ad cI cR Ln) yX7_replace wsX7_replace rm_X7_replace [.ref (ad 0), .int a1, .int a2, .int a3, .int a4] S Q := by
  refine xr_eI (cc := cX7_replace) (nL := 5) (ret := (some .int)) (own := RX7) (by decide) rfl rfl (Nat.le_of_ble_eq_true rfl) ?_
  intro p e s m args below meth c ls A fx hK hA hP hD hS hl
  have hl : lv_has ls 5 [(0, .ref (ad 0)), (1, .int a1), (2, .int a2), (3, .int a3), (4, .int a4)] := hl
  show W p l e rm_X7_replace s m args below meth c s.heap [] 0 0 _ _
  obtain ⟨⟨hx, hb, hml, hown, hts⟩, hrt, hlk⟩ := id fx
  have hf : 0 ≤ rm_X7_replace.cells ∧ 0 ≤ rm_X7_replace.slots := ⟨Nat.zero_le _, Nat.zero_le _⟩
  unfold wp_X7_replace at h
  refine lv_iload_n hx hb dX7_replace_0 rfl (lv_at hl 1 rfl) ?_
  refine xr_sI (n := 1) (As := [.int a1]) (rest := []) fx (ct_X7_noSum l h) gX7_replace_X7_noSum rfl rfl (by decide +kernel) ⟨Nat.le_of_ble_eq_true rfl, Nat.le_of_ble_eq_true rfl⟩ ⟨rfl, rfl⟩ hf hl.1 rfl (Nat.le_of_ble_eq_true rfl) dX7_replace_1 (fun r1 h => ?_)
  refine lv_if_ne (tgt := 30) hx hb dX7_replace_4 (by decide) (fun c4 => ?_) (fun c4 => ?_)
  · have h := h.1 c4
    refine lv_iconst (v := (-1)) hx hb dX7_replace_30 (by decide) ?_
    exact xr_rI fx hK hP hD hS h dX7_replace_31
  · have h := h.2 c4
    refine lv_iload_n hx hb dX7_replace_7 rfl (lv_at hl 2 rfl) ?_
    refine xr_sI (n := 1) (As := [.int a2]) (rest := []) fx (ct_X7_noSum l h) gX7_replace_X7_noSum rfl rfl (by decide +kernel) ⟨Nat.le_of_ble_eq_true rfl, Nat.le_of_ble_eq_true rfl⟩ ⟨rfl, rfl⟩ hf hl.1 rfl (Nat.le_of_ble_eq_true rfl) dX7_replace_8 (fun r2 h => ?_)
    refine lv_if_ne (tgt := 30) hx hb dX7_replace_11 (by decide) (fun c11 => ?_) (fun c11 => ?_)
    · have h := h.1 c11
      refine lv_iconst (v := (-1)) hx hb dX7_replace_30 (by decide) ?_
      exact xr_rI fx hK hP hD hS h dX7_replace_31
    · have h := h.2 c11
      refine lv_iload hx hb dX7_replace_14 (lv_at hl 4 rfl) ?_
      refine xr_sI (n := 1) (As := [.int a4]) (rest := []) fx (ct_X7_noSum l h) gX7_replace_X7_noSum rfl rfl (by decide +kernel) ⟨Nat.le_of_ble_eq_true rfl, Nat.le_of_ble_eq_true rfl⟩ ⟨rfl, rfl⟩ hf hl.1 rfl (Nat.le_of_ble_eq_true rfl) dX7_replace_16 (fun r3 h => ?_)
      refine lv_if_ne (tgt := 30) hx hb dX7_replace_19 (by decide) (fun c19 => ?_) (fun c19 => ?_)
      · have h := h.1 c19
        refine lv_iconst (v := (-1)) hx hb dX7_replace_30 (by decide) ?_
        exact xr_rI fx hK hP hD hS h dX7_replace_31
      · have h := h.2 c19
        refine lv_aload_n hx hb dX7_replace_22 rfl (lv_at hl 0 rfl) ?_
        refine lv_iload_n hx hb dX7_replace_23 rfl (lv_at hl 3 rfl) ?_
        refine xr_vI (n := 1) (As := [.int a3]) (rest := []) fx (ct_X7_noLetter l D ad cI cJ cR Ln h) gX7_replace_X7_noLetter rfl rfl (by decide +kernel) ⟨Nat.le_of_ble_eq_true rfl, Nat.le_of_ble_eq_true rfl⟩ ⟨rfl, rfl⟩ hf (cs_recv 0 6 (by decide) rfl rfl hK hP) hK hP hD hS hA hl.1 rfl (Nat.le_of_ble_eq_true rfl) dX7_replace_24 (fun r5 S4 H locs h hP hD hS => ?_)
        refine lv_if_eq (tgt := 32) hx hb dX7_replace_27 (by decide) (fun c27 => ?_) (fun c27 => ?_)
        · have h := h.1 c27
          refine lv_aload_n hx hb dX7_replace_32 rfl (lv_at hl 0 rfl) ?_
          refine cs_get 0 6 1 (v := .ref (ad 7)) (ref := "BracketLetters") fx (by decide) rfl rfl in_X7_replace_X7 (by decide) rfl (by decide +kernel) rfl hK hP dX7_replace_33 ?_
          refine lv_iload hx hb dX7_replace_36 (lv_at hl 4 rfl) ?_
          obtain ⟨hi6, h⟩ := h
          refine cs_aald 7 8 7 fx (by decide) rfl hK hP hi6 dX7_replace_38 ?_
          refine lv_iconst (v := 0) hx hb dX7_replace_39 (by decide) ?_
          obtain ⟨hk8, h⟩ := h
          obtain ⟨hi7, h⟩ := h
          refine cs_iald (7 + a4.toNatClampNeg) hk8 fx hK hP hi7 dX7_replace_40 ?_
          refine lv_if_eq (tgt := 47) hx hb dX7_replace_41 (by decide) (fun c41 => ?_) (fun c41 => ?_)
          · have h := h.1 c41
            refine lv_aload_n hx hb dX7_replace_47 rfl (lv_at hl 0 rfl) ?_
            refine cs_get 0 6 2 (v := .ref (ad 2)) (ref := "BracketLetters") fx (by decide) rfl rfl in_X7_replace_X7 (by decide) rfl (by decide +kernel) rfl hK hP dX7_replace_48 ?_
            refine lv_aload_n hx hb dX7_replace_51 rfl (lv_at hl 0 rfl) ?_
            refine cs_get 0 6 1 (v := .ref (ad 7)) (ref := "BracketLetters") fx (by decide) rfl rfl in_X7_replace_X7 (by decide) rfl (by decide +kernel) rfl hK hP dX7_replace_52 ?_
            refine lv_iload_n hx hb dX7_replace_55 rfl (lv_at hl 1 rfl) ?_
            obtain ⟨hi9, h⟩ := h
            refine cs_aald 7 8 7 fx (by decide) rfl hK hP hi9 dX7_replace_56 ?_
            refine lv_aload_n hx hb dX7_replace_57 rfl (lv_at hl 0 rfl) ?_
            refine cs_get 0 6 1 (v := .ref (ad 7)) (ref := "BracketLetters") fx (by decide) rfl rfl in_X7_replace_X7 (by decide) rfl (by decide +kernel) rfl hK hP dX7_replace_58 ?_
            refine lv_iload_n hx hb dX7_replace_61 rfl (lv_at hl 2 rfl) ?_
            obtain ⟨hi10, h⟩ := h
            refine cs_aald 7 8 7 fx (by decide) rfl hK hP hi10 dX7_replace_62 ?_
            refine lv_iload_n hx hb dX7_replace_63 rfl (lv_at hl 3 rfl) ?_
            refine lv_aload_n hx hb dX7_replace_64 rfl (lv_at hl 0 rfl) ?_
            refine cs_get 0 6 1 (v := .ref (ad 7)) (ref := "BracketLetters") fx (by decide) rfl rfl in_X7_replace_X7 (by decide) rfl (by decide +kernel) rfl hK hP dX7_replace_65 ?_
            refine lv_iload hx hb dX7_replace_68 (lv_at hl 4 rfl) ?_
            obtain ⟨hi11, h⟩ := h
            refine cs_aald 7 8 7 fx (by decide) rfl hK hP hi11 dX7_replace_70 ?_
            refine xr_vV (n := 4) (As := [.ref (ad (9 + (7 + a1.toNatClampNeg))), .ref (ad (9 + (7 + a2.toNatClampNeg))), .int a3, .ref (ad (9 + (7 + a4.toNatClampNeg)))]) (rest := []) fx (ct_X0_setInAll l D ad cI cJ cR Ln h) gX7_replace_X0_setInAll rfl rfl (by decide +kernel) ⟨Nat.le_of_ble_eq_true rfl, Nat.le_of_ble_eq_true rfl⟩ ⟨rfl, rfl⟩ hf (cs_recv 2 0 (by decide) rfl rfl hK hP) hK hP hD hS hA hl.1 rfl (Nat.le_of_ble_eq_true rfl) dX7_replace_71 (fun S12 H locs h hP hD hS => ?_)
            refine lv_iconst (v := 0) hx hb dX7_replace_74 (by decide) ?_
            exact xr_rI fx hK hP hD hS h dX7_replace_75
          · have h := h.2 c41
            refine lv_bipush (v := (-3)) hx hb dX7_replace_44 (by decide) ?_
            exact xr_rI fx hK hP hD hS h dX7_replace_46
        · have h := h.2 c27
          refine lv_iconst (v := (-1)) hx hb dX7_replace_30 (by decide) ?_
          exact xr_rI fx hK hP hD hS h dX7_replace_31
abbrev rm_X0_keepLength : Room := { frames := 0, cells := 0, slots := 0, locals := 0 }
theorem in_X0_keepLength_X0 : ∀ w ∈ wsX00, w ∈ wsX0_keepLength := by decide +kernel
set_option maxHeartbeats 4000000 in
set_option maxRecDepth 100000 in
theorem kw_X0_keepLength_57 {p : Program} {l : Launch} {e : Env} {s : State} {m : MethodId} {args : Array Value} {below : List Frame} {meth : Method} {c : Code} {D : va_G} {ad : Nat → Nat} {cI cJ cR : ClassId} {Ln : Nat → Nat} {A : Nat → Prop} {K3 : cs_T → Nat → Nat → Int32 → Int32 → Prop} {Q : cs_T → Prop} {S : cs_T} {v1 : Nat} {v2 : Nat} {v3 : Int32} {v4 : Int32} {s0 : Nat} {s1 : Int32} {s2 : Int32} (fx : xr_Fx p m c meth cX0_keepLength 6 s args wsX0_keepLength RX0 none) (hK : xr_K D (cs_ty cI cJ cR) s) (hA : ∀ q, s.heap.size ≤ q → A q)  (k3 : ∀ (S : cs_T) (v1 : Nat) (v2 : Nat) (v3 : Int32) (v4 : Int32) {H : Heap} {locs : List Loc} {ls : Array Slot}, va_P D vwCl (cs_w ad cI cR Ln S) H → va_D A (cs_w ad cI cR Ln S) → va_S A s.heap H locs → lv_has ls 6 [(0, .ref (ad 2)), (1, .ref (ad (9 + v1))), (2, .ref (ad (9 + v2))), (3, .int v3), (4, .int v4)] → K3 S v1 v2 v3 v4 → W p l e rm_X0_keepLength s m args below meth c H locs 0 0 (MQ below (va_Qv Q (xr_B D (cs_ty cI cJ cR) (cs_w ad cI cR Ln) A) A) args s 0 0 A) (F0 m 3 ls [])) {H : Heap} {locs : List Loc} {ls : Array Slot} (hP : va_P D vwCl (cs_w ad cI cR Ln S) H) (hD : va_D A (cs_w ad cI cR Ln S)) (hS : va_S A s.heap H locs) (hl : lv_has ls 6 [(0, .ref (ad 2)), (1, .ref (ad (9 + v1))), (2, .ref (ad (9 + v2))), (3, .int v3), (4, .int v4)]) (h : wp_X0_keepLength_57 Ln K3 Q S v1 v2 v3 v4 s0 s1 s2) : W p l e rm_X0_keepLength s m args below meth c H locs 0 0 (MQ below (va_Qv Q (xr_B D (cs_ty cI cJ cR) (cs_w ad cI cR Ln) A) A) args s 0 0 A) (F0 m 57 ls [.int s2, .int s1, .ref (ad (9 + s0))]) := by
  obtain ⟨⟨hx, hb, hml, hown, hts⟩, hrt, hlk⟩ := id fx
  have hf : 0 ≤ rm_X0_keepLength.cells ∧ 0 ≤ rm_X0_keepLength.slots := ⟨Nat.zero_le _, Nat.zero_le _⟩
  unfold wp_X0_keepLength_57 at h
  obtain ⟨hk2, h⟩ := h
  obtain ⟨hi1, h⟩ := h
  refine cs_iast s0 hk2 fx hK hP hD hS hi1 dX0_keepLength_57 (fun H locs hP hD hS => ?_)
  obtain ⟨v4_3, ev4_3⟩ : ∃ z : Int32, z = v4 + 1 := ⟨_, rfl⟩
  have h := h v4_3 ev4_3
  refine lv_iinc (v := v4_3) (lv' := [(4, .int v4_3), (0, .ref (ad 2)), (1, .ref (ad (9 + v1))), (2, .ref (ad (9 + v2))), (3, .int v3)]) hx hb dX0_keepLength_58 hl (k := 4) rfl (by rw [ev4_3]; rfl) (by decide) rfl (fun ls hl => ?_)
  refine lv_goto (tgt := 3) hx hb dX0_keepLength_61 (by decide) ?_
  exact k3 _ _ _ _ _ hP hD hS (lv_sub hl [1, 2, 3, 4, 0] rfl) h
set_option maxHeartbeats 4000000 in
set_option maxRecDepth 100000 in
theorem kw_X0_keepLength_39 {p : Program} {l : Launch} {e : Env} {s : State} {m : MethodId} {args : Array Value} {below : List Frame} {meth : Method} {c : Code} {D : va_G} {ad : Nat → Nat} {cI cJ cR : ClassId} {Ln : Nat → Nat} {A : Nat → Prop} {K3 : cs_T → Nat → Nat → Int32 → Int32 → Prop} {Q : cs_T → Prop} {S : cs_T} {v1 : Nat} {v2 : Nat} {v3 : Int32} {v4 : Int32} {s0 : Int32} (fx : xr_Fx p m c meth cX0_keepLength 6 s args wsX0_keepLength RX0 none) (hK : xr_K D (cs_ty cI cJ cR) s) (hA : ∀ q, s.heap.size ≤ q → A q)  (k3 : ∀ (S : cs_T) (v1 : Nat) (v2 : Nat) (v3 : Int32) (v4 : Int32) {H : Heap} {locs : List Loc} {ls : Array Slot}, va_P D vwCl (cs_w ad cI cR Ln S) H → va_D A (cs_w ad cI cR Ln S) → va_S A s.heap H locs → lv_has ls 6 [(0, .ref (ad 2)), (1, .ref (ad (9 + v1))), (2, .ref (ad (9 + v2))), (3, .int v3), (4, .int v4)] → K3 S v1 v2 v3 v4 → W p l e rm_X0_keepLength s m args below meth c H locs 0 0 (MQ below (va_Qv Q (xr_B D (cs_ty cI cJ cR) (cs_w ad cI cR Ln) A) A) args s 0 0 A) (F0 m 3 ls [])) {H : Heap} {locs : List Loc} {ls : Array Slot} (hP : va_P D vwCl (cs_w ad cI cR Ln S) H) (hD : va_D A (cs_w ad cI cR Ln S)) (hS : va_S A s.heap H locs) (hl : lv_has ls 6 [(0, .ref (ad 2)), (1, .ref (ad (9 + v1))), (2, .ref (ad (9 + v2))), (3, .int v3), (4, .int v4)]) (h : wp_X0_keepLength_39 Ln K3 Q S v1 v2 v3 v4 s0) : W p l e rm_X0_keepLength s m args below meth c H locs 0 0 (MQ below (va_Qv Q (xr_B D (cs_ty cI cJ cR) (cs_w ad cI cR Ln) A) A) args s 0 0 A) (F0 m 39 ls [.int s0]) := by
  obtain ⟨⟨hx, hb, hml, hown, hts⟩, hrt, hlk⟩ := id fx
  have hf : 0 ≤ rm_X0_keepLength.cells ∧ 0 ≤ rm_X0_keepLength.slots := ⟨Nat.zero_le _, Nat.zero_le _⟩
  unfold wp_X0_keepLength_39 at h
  refine lv_istore (lv' := [(5, .int s0), (0, .ref (ad 2)), (1, .ref (ad (9 + v1))), (2, .ref (ad (9 + v2))), (3, .int v3), (4, .int v4)]) hx hb dX0_keepLength_39 hl (by decide) rfl (fun ls hl => ?_)
  refine lv_aload_n hx hb dX0_keepLength_41 rfl (lv_at hl 2 rfl) ?_
  refine lv_iload hx hb dX0_keepLength_42 (lv_at hl 5 rfl) ?_
  refine lv_iload hx hb dX0_keepLength_44 (lv_at hl 0 rfl) ?_
  refine lv_if_eq (tgt := 56) hx hb dX0_keepLength_46 (by decide) (fun c46 => ?_) (fun c46 => ?_)
  · have h := h.1 c46
    refine lv_iconst (v := 0) hx hb dX0_keepLength_56 (by decide) ?_
    exact kw_X0_keepLength_57 fx hK hA k3 hP hD hS (lv_sub hl [1, 2, 3, 4, 5] rfl) h
  · have h := h.2 c46
    refine lv_aload_n hx hb dX0_keepLength_49 rfl (lv_at hl 3 rfl) ?_
    refine lv_iload hx hb dX0_keepLength_50 (lv_at hl 5 rfl) ?_
    obtain ⟨hk5, h⟩ := h
    obtain ⟨hi4, h⟩ := h
    refine cs_iald v2 hk5 fx hK hP hi4 dX0_keepLength_52 ?_
    refine lv_goto (tgt := 57) hx hb dX0_keepLength_53 (by decide) ?_
    exact kw_X0_keepLength_57 fx hK hA k3 hP hD hS (lv_sub hl [1, 2, 3, 4, 5] rfl) h
set_option maxHeartbeats 4000000 in
set_option maxRecDepth 100000 in
theorem kw_X0_keepLength_38 {p : Program} {l : Launch} {e : Env} {s : State} {m : MethodId} {args : Array Value} {below : List Frame} {meth : Method} {c : Code} {D : va_G} {ad : Nat → Nat} {cI cJ cR : ClassId} {Ln : Nat → Nat} {A : Nat → Prop} {K3 : cs_T → Nat → Nat → Int32 → Int32 → Prop} {Q : cs_T → Prop} {S : cs_T} {v1 : Nat} {v2 : Nat} {v3 : Int32} {v4 : Int32} (fx : xr_Fx p m c meth cX0_keepLength 6 s args wsX0_keepLength RX0 none) (hK : xr_K D (cs_ty cI cJ cR) s) (hA : ∀ q, s.heap.size ≤ q → A q)  (k3 : ∀ (S : cs_T) (v1 : Nat) (v2 : Nat) (v3 : Int32) (v4 : Int32) {H : Heap} {locs : List Loc} {ls : Array Slot}, va_P D vwCl (cs_w ad cI cR Ln S) H → va_D A (cs_w ad cI cR Ln S) → va_S A s.heap H locs → lv_has ls 6 [(0, .ref (ad 2)), (1, .ref (ad (9 + v1))), (2, .ref (ad (9 + v2))), (3, .int v3), (4, .int v4)] → K3 S v1 v2 v3 v4 → W p l e rm_X0_keepLength s m args below meth c H locs 0 0 (MQ below (va_Qv Q (xr_B D (cs_ty cI cJ cR) (cs_w ad cI cR Ln) A) A) args s 0 0 A) (F0 m 3 ls [])) {H : Heap} {locs : List Loc} {ls : Array Slot} (hP : va_P D vwCl (cs_w ad cI cR Ln S) H) (hD : va_D A (cs_w ad cI cR Ln S)) (hS : va_S A s.heap H locs) (hl : lv_has ls 6 [(0, .ref (ad 2)), (1, .ref (ad (9 + v1))), (2, .ref (ad (9 + v2))), (3, .int v3), (4, .int v4)]) (h : wp_X0_keepLength_38 Ln K3 Q S v1 v2 v3 v4) : W p l e rm_X0_keepLength s m args below meth c H locs 0 0 (MQ below (va_Qv Q (xr_B D (cs_ty cI cJ cR) (cs_w ad cI cR Ln) A) A) args s 0 0 A) (F0 m 38 ls []) := by
  obtain ⟨⟨hx, hb, hml, hown, hts⟩, hrt, hlk⟩ := id fx
  have hf : 0 ≤ rm_X0_keepLength.cells ∧ 0 ≤ rm_X0_keepLength.slots := ⟨Nat.zero_le _, Nat.zero_le _⟩
  unfold wp_X0_keepLength_38 at h
  refine lv_iconst (v := 0) hx hb dX0_keepLength_38 (by decide) ?_
  exact kw_X0_keepLength_39 fx hK hA k3 hP hD hS (lv_sub hl [0, 1, 2, 3, 4] rfl) h
set_option maxHeartbeats 4000000 in
set_option maxRecDepth 100000 in
theorem kb_X0_keepLength_3 {p : Program} {l : Launch} {e : Env} {s : State} {m : MethodId} {args : Array Value} {below : List Frame} {meth : Method} {c : Code} {D : va_G} {ad : Nat → Nat} {cI cJ cR : ClassId} {Ln : Nat → Nat} {A : Nat → Prop}  {K3 : cs_T → Nat → Nat → Int32 → Int32 → Prop} {Q : cs_T → Prop} {S : cs_T} {v1 : Nat} {v2 : Nat} {v3 : Int32} {v4 : Int32} (fx : xr_Fx p m c meth cX0_keepLength 6 s args wsX0_keepLength RX0 none) (hK : xr_K D (cs_ty cI cJ cR) s) (hA : ∀ q, s.heap.size ≤ q → A q)   (k3 : ∀ (S : cs_T) (v1 : Nat) (v2 : Nat) (v3 : Int32) (v4 : Int32) {H : Heap} {locs : List Loc} {ls : Array Slot}, va_P D vwCl (cs_w ad cI cR Ln S) H → va_D A (cs_w ad cI cR Ln S) → va_S A s.heap H locs → lv_has ls 6 [(0, .ref (ad 2)), (1, .ref (ad (9 + v1))), (2, .ref (ad (9 + v2))), (3, .int v3), (4, .int v4)] → K3 S v1 v2 v3 v4 → W p l e rm_X0_keepLength s m args below meth c H locs 0 0 (MQ below (va_Qv Q (xr_B D (cs_ty cI cJ cR) (cs_w ad cI cR Ln) A) A) args s 0 0 A) (F0 m 3 ls [])) {H : Heap} {locs : List Loc} {ls : Array Slot} (hP : va_P D vwCl (cs_w ad cI cR Ln S) H) (hD : va_D A (cs_w ad cI cR Ln S)) (hS : va_S A s.heap H locs) (hl : lv_has ls 6 [(0, .ref (ad 2)), (1, .ref (ad (9 + v1))), (2, .ref (ad (9 + v2))), (3, .int v3), (4, .int v4)]) (h : wb_X0_keepLength_3 Ln K3 Q S v1 v2 v3 v4) : W p l e rm_X0_keepLength s m args below meth c H locs 0 0 (MQ below (va_Qv Q (xr_B D (cs_ty cI cJ cR) (cs_w ad cI cR Ln) A) A) args s 0 0 A) (F0 m 3 ls []) := by
  obtain ⟨⟨hx, hb, hml, hown, hts⟩, hrt, hlk⟩ := id fx
  have hf : 0 ≤ rm_X0_keepLength.cells ∧ 0 ≤ rm_X0_keepLength.slots := ⟨Nat.zero_le _, Nat.zero_le _⟩
  unfold wb_X0_keepLength_3 at h
  refine lv_iload hx hb dX0_keepLength_3 (lv_at hl 4 rfl) ?_
  refine lv_aload_n hx hb dX0_keepLength_5 rfl (lv_at hl 1 rfl) ?_
  obtain ⟨hk6, h⟩ := h
  refine cs_alen v1 hk6 fx hK hP dX0_keepLength_6 ?_
  refine lv_icmp_ge (tgt := 64) hx hb dX0_keepLength_7 (by decide) (fun c7 => ?_) (fun c7 => ?_)
  · have h := h.1 c7
    exact xr_rV fx hK hP hD hS h dX0_keepLength_64
  · have h := h.2 c7
    refine lv_iload hx hb dX0_keepLength_10 (lv_at hl 4 rfl) ?_
    refine lv_aload_n hx hb dX0_keepLength_12 rfl (lv_at hl 0 rfl) ?_
    refine cs_get 2 0 5 (v := .ref (ad (9 + 1))) (ref := "BracketLetters$Algebra") fx (by decide) rfl rfl in_X0_keepLength_X0 (by decide) rfl (by decide +kernel) rfl hK hP dX0_keepLength_13 ?_
    refine lv_iload_n hx hb dX0_keepLength_16 rfl (lv_at hl 3 rfl) ?_
    obtain ⟨hi7, h⟩ := h
    refine cs_iald 1 (by decide) fx hK hP hi7 dX0_keepLength_17 ?_
    refine lv_icmp_lt (tgt := 38) hx hb dX0_keepLength_18 (by decide) (fun c18 => ?_) (fun c18 => ?_)
    · have h := h.1 c18
      exact kw_X0_keepLength_38 fx hK hA k3 hP hD hS (lv_sub hl [0, 1, 2, 3, 4] rfl) h
    · have h := h.2 c18
      refine lv_iload hx hb dX0_keepLength_21 (lv_at hl 4 rfl) ?_
      refine lv_aload_n hx hb dX0_keepLength_23 rfl (lv_at hl 0 rfl) ?_
      refine cs_get 2 0 5 (v := .ref (ad (9 + 1))) (ref := "BracketLetters$Algebra") fx (by decide) rfl rfl in_X0_keepLength_X0 (by decide) rfl (by decide +kernel) rfl hK hP dX0_keepLength_24 ?_
      refine lv_iload_n hx hb dX0_keepLength_27 rfl (lv_at hl 3 rfl) ?_
      refine lv_iconst (v := 1) hx hb dX0_keepLength_28 (by decide) ?_
      refine lv_iadd hx hb dX0_keepLength_29 ?_
      obtain ⟨hi8, h⟩ := h
      refine cs_iald 1 (by decide) fx hK hP hi8 dX0_keepLength_30 ?_
      refine lv_icmp_ge (tgt := 38) hx hb dX0_keepLength_31 (by decide) (fun c31 => ?_) (fun c31 => ?_)
      · have h := h.1 c31
        exact kw_X0_keepLength_38 fx hK hA k3 hP hD hS (lv_sub hl [0, 1, 2, 3, 4] rfl) h
      · have h := h.2 c31
        refine lv_iconst (v := 1) hx hb dX0_keepLength_34 (by decide) ?_
        refine lv_goto (tgt := 39) hx hb dX0_keepLength_35 (by decide) ?_
        exact kw_X0_keepLength_39 fx hK hA k3 hP hD hS (lv_sub hl [0, 1, 2, 3, 4] rfl) h
theorem kw_X0_keepLength_3 {p : Program} {l : Launch} {e : Env} {s : State} {m : MethodId} {args : Array Value} {below : List Frame} {meth : Method} {c : Code} {D : va_G} {ad : Nat → Nat} {cI cJ cR : ClassId} {Ln : Nat → Nat} {A : Nat → Prop}  {Q : cs_T → Prop} (fx : xr_Fx p m c meth cX0_keepLength 6 s args wsX0_keepLength RX0 none) (hK : xr_K D (cs_ty cI cJ cR) s) (hA : ∀ q, s.heap.size ≤ q → A q)   : ∀ (n : Nat) (S : cs_T) (v1 : Nat) (v2 : Nat) (v3 : Int32) (v4 : Int32) {H : Heap} {locs : List Loc} {ls : Array Slot}, va_P D vwCl (cs_w ad cI cR Ln S) H → va_D A (cs_w ad cI cR Ln S) → va_S A s.heap H locs → lv_has ls 6 [(0, .ref (ad 2)), (1, .ref (ad (9 + v1))), (2, .ref (ad (9 + v2))), (3, .int v3), (4, .int v4)] → wp_X0_keepLength_3 Ln Q n S v1 v2 v3 v4 → W p l e rm_X0_keepLength s m args below meth c H locs 0 0 (MQ below (va_Qv Q (xr_B D (cs_ty cI cJ cR) (cs_w ad cI cR Ln) A) A) args s 0 0 A) (F0 m 3 ls []) := by
  intro n
  induction n with
  | zero => intro S v1 v2 v3 v4 H locs ls hP hD hS hl h; exact False.elim h
  | succ n ih => intro S v1 v2 v3 v4 H locs ls hP hD hS hl h; exact kb_X0_keepLength_3 fx hK hA ih hP hD hS hl h
set_option maxHeartbeats 4000000 in
set_option maxRecDepth 100000 in
theorem ct_X0_keepLength (l : Launch) (D : va_G) (ad : Nat → Nat) (cI cJ cR : ClassId) (Ln : Nat → Nat) {S : cs_T} {a1 : Nat} {a2 : Nat} {a3 : Int32} {Q : cs_T → Prop} (h : wp_X0_keepLength Ln S a1 a2 a3 Q) : xr_V l D (cs_ty cI cJ cR) (cs_w ad cI cR Ln) yX0_keepLength wsX0_keepLength rm_X0_keepLength [.ref (ad 2), .ref (ad (9 + a1)), .ref (ad (9 + a2)), .int a3] S Q := by
  refine xr_eV (cc := cX0_keepLength) (nL := 6) (ret := none) (own := RX0) (by decide) rfl rfl (Nat.le_of_ble_eq_true rfl) ?_
  intro p e s m args below meth c ls A fx hK hA hP hD hS hl
  have hl : lv_has ls 6 [(0, .ref (ad 2)), (1, .ref (ad (9 + a1))), (2, .ref (ad (9 + a2))), (3, .int a3)] := hl
  show W p l e rm_X0_keepLength s m args below meth c s.heap [] 0 0 _ _
  obtain ⟨⟨hx, hb, hml, hown, hts⟩, hrt, hlk⟩ := id fx
  have hf : 0 ≤ rm_X0_keepLength.cells ∧ 0 ≤ rm_X0_keepLength.slots := ⟨Nat.zero_le _, Nat.zero_le _⟩
  unfold wp_X0_keepLength at h
  refine lv_iconst (v := 0) hx hb dX0_keepLength_0 (by decide) ?_
  refine lv_istore (lv' := [(4, .int 0), (0, .ref (ad 2)), (1, .ref (ad (9 + a1))), (2, .ref (ad (9 + a2))), (3, .int a3)]) hx hb dX0_keepLength_1 hl (by decide) rfl (fun ls hl => ?_)
  obtain ⟨n, h⟩ := h
  exact kw_X0_keepLength_3 fx hK hA n _ _ _ _ _ hP hD hS (lv_sub hl [1, 2, 3, 4, 0] rfl) h
abbrev rm_X7_part : Room := { frames := 1, cells := 0, slots := 0, locals := 25 }
theorem in_X7_part_X7 : ∀ w ∈ wsX70, w ∈ wsX7_part := by decide +kernel
theorem in_X7_part_X6 : ∀ w ∈ wsX60, w ∈ wsX7_part := by decide +kernel
set_option maxHeartbeats 4000000 in
set_option maxRecDepth 100000 in
theorem ct_X7_part (l : Launch) (D : va_G) (ad : Nat → Nat) (cI cJ cR : ClassId) (Ln : Nat → Nat) {S : cs_T} {a1 : Int32} {a2 : Int32} {a3 : Int32} {Q : Int32 → cs_T → Prop} (h : wp_X7_part Ln S a1 a2 a3 Q) : xr_I l D (cs_ty cI cJ cR) (cs_w ad cI cR Ln) yX7_part wsX7_part rm_X7_part [.ref (ad 0), .int a1, .int a2, .int a3] S Q := by
  refine xr_eI (cc := cX7_part) (nL := 4) (ret := (some .int)) (own := RX7) (by decide) rfl rfl (Nat.le_of_ble_eq_true rfl) ?_
  intro p e s m args below meth c ls A fx hK hA hP hD hS hl
  have hl : lv_has ls 4 [(0, .ref (ad 0)), (1, .int a1), (2, .int a2), (3, .int a3)] := hl
  show W p l e rm_X7_part s m args below meth c s.heap [] 0 0 _ _
  obtain ⟨⟨hx, hb, hml, hown, hts⟩, hrt, hlk⟩ := id fx
  have hf : 0 ≤ rm_X7_part.cells ∧ 0 ≤ rm_X7_part.slots := ⟨Nat.zero_le _, Nat.zero_le _⟩
  unfold wp_X7_part at h
  refine lv_iload_n hx hb dX7_part_0 rfl (lv_at hl 1 rfl) ?_
  refine xr_sI (n := 1) (As := [.int a1]) (rest := []) fx (ct_X7_noSum l h) gX7_part_X7_noSum rfl rfl (by decide +kernel) ⟨Nat.le_of_ble_eq_true rfl, Nat.le_of_ble_eq_true rfl⟩ ⟨rfl, rfl⟩ hf hl.1 rfl (Nat.le_of_ble_eq_true rfl) dX7_part_1 (fun r1 h => ?_)
  refine lv_if_ne (tgt := 29) hx hb dX7_part_4 (by decide) (fun c4 => ?_) (fun c4 => ?_)
  · have h := h.1 c4
    refine lv_iconst (v := (-1)) hx hb dX7_part_29 (by decide) ?_
    exact xr_rI fx hK hP hD hS h dX7_part_30
  · have h := h.2 c4
    refine lv_iload_n hx hb dX7_part_7 rfl (lv_at hl 2 rfl) ?_
    refine xr_sI (n := 1) (As := [.int a2]) (rest := []) fx (ct_X7_noSum l h) gX7_part_X7_noSum rfl rfl (by decide +kernel) ⟨Nat.le_of_ble_eq_true rfl, Nat.le_of_ble_eq_true rfl⟩ ⟨rfl, rfl⟩ hf hl.1 rfl (Nat.le_of_ble_eq_true rfl) dX7_part_8 (fun r2 h => ?_)
    refine lv_if_ne (tgt := 29) hx hb dX7_part_11 (by decide) (fun c11 => ?_) (fun c11 => ?_)
    · have h := h.1 c11
      refine lv_iconst (v := (-1)) hx hb dX7_part_29 (by decide) ?_
      exact xr_rI fx hK hP hD hS h dX7_part_30
    · have h := h.2 c11
      refine lv_iload_n hx hb dX7_part_14 rfl (lv_at hl 3 rfl) ?_
      refine lv_if_lt (tgt := 29) hx hb dX7_part_15 (by decide) (fun c15 => ?_) (fun c15 => ?_)
      · have h := h.1 c15
        refine lv_iconst (v := (-1)) hx hb dX7_part_29 (by decide) ?_
        exact xr_rI fx hK hP hD hS h dX7_part_30
      · have h := h.2 c15
        refine lv_iload_n hx hb dX7_part_18 rfl (lv_at hl 3 rfl) ?_
        refine lv_aload_n hx hb dX7_part_19 rfl (lv_at hl 0 rfl) ?_
        refine cs_get 0 6 0 (v := .ref (ad 1)) (ref := "BracketLetters") fx (by decide) rfl rfl in_X7_part_X7 (by decide) rfl (by decide +kernel) rfl hK hP dX7_part_20 ?_
        refine cs_get 1 5 1 (v := .int (S.1 3)) (ref := "BracketLetters$Words") fx (by decide) rfl rfl in_X7_part_X6 (by decide) rfl (by decide +kernel) rfl hK hP dX7_part_23 ?_
        refine lv_icmp_le (tgt := 31) hx hb dX7_part_26 (by decide) (fun c26 => ?_) (fun c26 => ?_)
        · have h := h.1 c26
          refine lv_aload_n hx hb dX7_part_31 rfl (lv_at hl 0 rfl) ?_
          refine cs_get 0 6 2 (v := .ref (ad 2)) (ref := "BracketLetters") fx (by decide) rfl rfl in_X7_part_X7 (by decide) rfl (by decide +kernel) rfl hK hP dX7_part_32 ?_
          refine lv_aload_n hx hb dX7_part_35 rfl (lv_at hl 0 rfl) ?_
          refine cs_get 0 6 1 (v := .ref (ad 7)) (ref := "BracketLetters") fx (by decide) rfl rfl in_X7_part_X7 (by decide) rfl (by decide +kernel) rfl hK hP dX7_part_36 ?_
          refine lv_iload_n hx hb dX7_part_39 rfl (lv_at hl 1 rfl) ?_
          obtain ⟨hi3, h⟩ := h
          refine cs_aald 7 8 7 fx (by decide) rfl hK hP hi3 dX7_part_40 ?_
          refine lv_aload_n hx hb dX7_part_41 rfl (lv_at hl 0 rfl) ?_
          refine cs_get 0 6 1 (v := .ref (ad 7)) (ref := "BracketLetters") fx (by decide) rfl rfl in_X7_part_X7 (by decide) rfl (by decide +kernel) rfl hK hP dX7_part_42 ?_
          refine lv_iload_n hx hb dX7_part_45 rfl (lv_at hl 2 rfl) ?_
          obtain ⟨hi4, h⟩ := h
          refine cs_aald 7 8 7 fx (by decide) rfl hK hP hi4 dX7_part_46 ?_
          refine lv_iload_n hx hb dX7_part_47 rfl (lv_at hl 3 rfl) ?_
          refine xr_vV (n := 3) (As := [.ref (ad (9 + (7 + a1.toNatClampNeg))), .ref (ad (9 + (7 + a2.toNatClampNeg))), .int a3]) (rest := []) fx (ct_X0_keepLength l D ad cI cJ cR Ln h) gX7_part_X0_keepLength rfl rfl (by decide +kernel) ⟨Nat.le_of_ble_eq_true rfl, Nat.le_of_ble_eq_true rfl⟩ ⟨rfl, rfl⟩ hf (cs_recv 2 0 (by decide) rfl rfl hK hP) hK hP hD hS hA hl.1 rfl (Nat.le_of_ble_eq_true rfl) dX7_part_48 (fun S5 H locs h hP hD hS => ?_)
          refine lv_iconst (v := 0) hx hb dX7_part_51 (by decide) ?_
          exact xr_rI fx hK hP hD hS h dX7_part_52
        · have h := h.2 c26
          refine lv_iconst (v := (-1)) hx hb dX7_part_29 (by decide) ?_
          exact xr_rI fx hK hP hD hS h dX7_part_30
abbrev rm_X0_inner : Room := { frames := 1, cells := 0, slots := 0, locals := 22 }
set_option maxHeartbeats 4000000 in
set_option maxRecDepth 100000 in
theorem kw_X0_inner_32 {p : Program} {l : Launch} {e : Env} {s : State} {m : MethodId} {args : Array Value} {below : List Frame} {meth : Method} {c : Code} {D : va_G} {ad : Nat → Nat} {cI cJ cR : ClassId} {Ln : Nat → Nat} {A : Nat → Prop} {K5 : cs_T → Nat → Nat → Int32 → Int32 → Prop} {Q : Int32 → cs_T → Prop} {S : cs_T} {v1 : Nat} {v2 : Nat} {v3 : Int32} {v4 : Int32} (fx : xr_Fx p m c meth cX0_inner 5 s args wsX0_inner RX0 (some .int)) (hK : xr_K D (cs_ty cI cJ cR) s) (hA : ∀ q, s.heap.size ≤ q → A q)  (k5 : ∀ (S : cs_T) (v1 : Nat) (v2 : Nat) (v3 : Int32) (v4 : Int32) {H : Heap} {locs : List Loc} {ls : Array Slot}, va_P D vwCl (cs_w ad cI cR Ln S) H → va_D A (cs_w ad cI cR Ln S) → va_S A s.heap H locs → lv_has ls 5 [(0, .ref (ad 2)), (1, .ref (ad (9 + v1))), (2, .ref (ad (9 + v2))), (3, .int v3), (4, .int v4)] → K5 S v1 v2 v3 v4 → W p l e rm_X0_inner s m args below meth c H locs 0 0 (MQ below (va_Qi Q (xr_B D (cs_ty cI cJ cR) (cs_w ad cI cR Ln) A) A) args s 0 0 A) (F0 m 5 ls [])) {H : Heap} {locs : List Loc} {ls : Array Slot} (hP : va_P D vwCl (cs_w ad cI cR Ln S) H) (hD : va_D A (cs_w ad cI cR Ln S)) (hS : va_S A s.heap H locs) (hl : lv_has ls 5 [(0, .ref (ad 2)), (1, .ref (ad (9 + v1))), (2, .ref (ad (9 + v2))), (3, .int v3), (4, .int v4)]) (h : wp_X0_inner_32 Ln K5 Q S v1 v2 v3 v4) : W p l e rm_X0_inner s m args below meth c H locs 0 0 (MQ below (va_Qi Q (xr_B D (cs_ty cI cJ cR) (cs_w ad cI cR Ln) A) A) args s 0 0 A) (F0 m 32 ls []) := by
  obtain ⟨⟨hx, hb, hml, hown, hts⟩, hrt, hlk⟩ := id fx
  have hf : 0 ≤ rm_X0_inner.cells ∧ 0 ≤ rm_X0_inner.slots := ⟨Nat.zero_le _, Nat.zero_le _⟩
  unfold wp_X0_inner_32 at h
  obtain ⟨v4_1, ev4_1⟩ : ∃ z : Int32, z = v4 + 1 := ⟨_, rfl⟩
  have h := h v4_1 ev4_1
  refine lv_iinc (v := v4_1) (lv' := [(4, .int v4_1), (0, .ref (ad 2)), (1, .ref (ad (9 + v1))), (2, .ref (ad (9 + v2))), (3, .int v3)]) hx hb dX0_inner_32 hl (k := 4) rfl (by rw [ev4_1]; rfl) (by decide) rfl (fun ls hl => ?_)
  refine lv_goto (tgt := 5) hx hb dX0_inner_35 (by decide) ?_
  exact k5 _ _ _ _ _ hP hD hS (lv_sub hl [1, 2, 3, 4, 0] rfl) h
set_option maxHeartbeats 4000000 in
set_option maxRecDepth 100000 in
theorem kb_X0_inner_5 {p : Program} {l : Launch} {e : Env} {s : State} {m : MethodId} {args : Array Value} {below : List Frame} {meth : Method} {c : Code} {D : va_G} {ad : Nat → Nat} {cI cJ cR : ClassId} {Ln : Nat → Nat} {A : Nat → Prop}  {K5 : cs_T → Nat → Nat → Int32 → Int32 → Prop} {Q : Int32 → cs_T → Prop} {S : cs_T} {v1 : Nat} {v2 : Nat} {v3 : Int32} {v4 : Int32} (fx : xr_Fx p m c meth cX0_inner 5 s args wsX0_inner RX0 (some .int)) (hK : xr_K D (cs_ty cI cJ cR) s) (hA : ∀ q, s.heap.size ≤ q → A q)   (k5 : ∀ (S : cs_T) (v1 : Nat) (v2 : Nat) (v3 : Int32) (v4 : Int32) {H : Heap} {locs : List Loc} {ls : Array Slot}, va_P D vwCl (cs_w ad cI cR Ln S) H → va_D A (cs_w ad cI cR Ln S) → va_S A s.heap H locs → lv_has ls 5 [(0, .ref (ad 2)), (1, .ref (ad (9 + v1))), (2, .ref (ad (9 + v2))), (3, .int v3), (4, .int v4)] → K5 S v1 v2 v3 v4 → W p l e rm_X0_inner s m args below meth c H locs 0 0 (MQ below (va_Qi Q (xr_B D (cs_ty cI cJ cR) (cs_w ad cI cR Ln) A) A) args s 0 0 A) (F0 m 5 ls [])) {H : Heap} {locs : List Loc} {ls : Array Slot} (hP : va_P D vwCl (cs_w ad cI cR Ln S) H) (hD : va_D A (cs_w ad cI cR Ln S)) (hS : va_S A s.heap H locs) (hl : lv_has ls 5 [(0, .ref (ad 2)), (1, .ref (ad (9 + v1))), (2, .ref (ad (9 + v2))), (3, .int v3), (4, .int v4)]) (h : wb_X0_inner_5 Ln K5 Q S v1 v2 v3 v4) : W p l e rm_X0_inner s m args below meth c H locs 0 0 (MQ below (va_Qi Q (xr_B D (cs_ty cI cJ cR) (cs_w ad cI cR Ln) A) A) args s 0 0 A) (F0 m 5 ls []) := by
  obtain ⟨⟨hx, hb, hml, hown, hts⟩, hrt, hlk⟩ := id fx
  have hf : 0 ≤ rm_X0_inner.cells ∧ 0 ≤ rm_X0_inner.slots := ⟨Nat.zero_le _, Nat.zero_le _⟩
  unfold wb_X0_inner_5 at h
  refine lv_iload hx hb dX0_inner_5 (lv_at hl 4 rfl) ?_
  refine lv_aload_n hx hb dX0_inner_7 rfl (lv_at hl 1 rfl) ?_
  obtain ⟨hk2, h⟩ := h
  refine cs_alen v1 hk2 fx hK hP dX0_inner_8 ?_
  refine lv_icmp_ge (tgt := 38) hx hb dX0_inner_9 (by decide) (fun c9 => ?_) (fun c9 => ?_)
  · have h := h.1 c9
    refine lv_iload_n hx hb dX0_inner_38 rfl (lv_at hl 3 rfl) ?_
    exact xr_rI fx hK hP hD hS h dX0_inner_39
  · have h := h.2 c9
    refine lv_aload_n hx hb dX0_inner_12 rfl (lv_at hl 2 rfl) ?_
    refine lv_iload hx hb dX0_inner_13 (lv_at hl 4 rfl) ?_
    obtain ⟨hk4, h⟩ := h
    obtain ⟨hi3, h⟩ := h
    refine cs_iald v2 hk4 fx hK hP hi3 dX0_inner_15 ?_
    refine lv_if_eq (tgt := 32) hx hb dX0_inner_16 (by decide) (fun c16 => ?_) (fun c16 => ?_)
    · have h := h.1 c16
      exact kw_X0_inner_32 fx hK hA k5 hP hD hS (lv_sub hl [0, 1, 2, 3, 4] rfl) h
    · have h := h.2 c16
      refine lv_iload_n hx hb dX0_inner_19 rfl (lv_at hl 3 rfl) ?_
      refine lv_aload_n hx hb dX0_inner_20 rfl (lv_at hl 1 rfl) ?_
      refine lv_iload hx hb dX0_inner_21 (lv_at hl 4 rfl) ?_
      obtain ⟨hi5, h⟩ := h
      refine cs_iald v1 hk2 fx hK hP hi5 dX0_inner_23 ?_
      refine lv_aload_n hx hb dX0_inner_24 rfl (lv_at hl 2 rfl) ?_
      refine lv_iload hx hb dX0_inner_25 (lv_at hl 4 rfl) ?_
      obtain ⟨hi6, h⟩ := h
      refine cs_iald v2 hk4 fx hK hP hi6 dX0_inner_27 ?_
      refine xr_sI (n := 3) (As := [.int v3, .int (S.2.1 v1 v4.toNatClampNeg), .int (S.2.1 v2 v4.toNatClampNeg)]) (rest := []) fx (ct_X3_productMore l h) gX0_inner_X3_productMore rfl rfl (by decide +kernel) ⟨Nat.le_of_ble_eq_true rfl, Nat.le_of_ble_eq_true rfl⟩ ⟨rfl, rfl⟩ hf hl.1 rfl (Nat.le_of_ble_eq_true rfl) dX0_inner_28 (fun r7 h => ?_)
      refine lv_istore_n (lv' := [(3, .int r7), (0, .ref (ad 2)), (1, .ref (ad (9 + v1))), (2, .ref (ad (9 + v2))), (4, .int v4)]) hx hb dX0_inner_31 rfl hl (by decide) rfl (fun ls hl => ?_)
      exact kw_X0_inner_32 fx hK hA k5 hP hD hS (lv_sub hl [1, 2, 3, 0, 4] rfl) h
theorem kw_X0_inner_5 {p : Program} {l : Launch} {e : Env} {s : State} {m : MethodId} {args : Array Value} {below : List Frame} {meth : Method} {c : Code} {D : va_G} {ad : Nat → Nat} {cI cJ cR : ClassId} {Ln : Nat → Nat} {A : Nat → Prop}  {Q : Int32 → cs_T → Prop} (fx : xr_Fx p m c meth cX0_inner 5 s args wsX0_inner RX0 (some .int)) (hK : xr_K D (cs_ty cI cJ cR) s) (hA : ∀ q, s.heap.size ≤ q → A q)   : ∀ (n : Nat) (S : cs_T) (v1 : Nat) (v2 : Nat) (v3 : Int32) (v4 : Int32) {H : Heap} {locs : List Loc} {ls : Array Slot}, va_P D vwCl (cs_w ad cI cR Ln S) H → va_D A (cs_w ad cI cR Ln S) → va_S A s.heap H locs → lv_has ls 5 [(0, .ref (ad 2)), (1, .ref (ad (9 + v1))), (2, .ref (ad (9 + v2))), (3, .int v3), (4, .int v4)] → wp_X0_inner_5 Ln Q n S v1 v2 v3 v4 → W p l e rm_X0_inner s m args below meth c H locs 0 0 (MQ below (va_Qi Q (xr_B D (cs_ty cI cJ cR) (cs_w ad cI cR Ln) A) A) args s 0 0 A) (F0 m 5 ls []) := by
  intro n
  induction n with
  | zero => intro S v1 v2 v3 v4 H locs ls hP hD hS hl h; exact False.elim h
  | succ n ih => intro S v1 v2 v3 v4 H locs ls hP hD hS hl h; exact kb_X0_inner_5 fx hK hA ih hP hD hS hl h
set_option maxHeartbeats 4000000 in
set_option maxRecDepth 100000 in
theorem ct_X0_inner (l : Launch) (D : va_G) (ad : Nat → Nat) (cI cJ cR : ClassId) (Ln : Nat → Nat) {S : cs_T} {a1 : Nat} {a2 : Nat} {Q : Int32 → cs_T → Prop} (h : wp_X0_inner Ln S a1 a2 Q) : xr_I l D (cs_ty cI cJ cR) (cs_w ad cI cR Ln) yX0_inner wsX0_inner rm_X0_inner [.ref (ad 2), .ref (ad (9 + a1)), .ref (ad (9 + a2))] S Q := by
  refine xr_eI (cc := cX0_inner) (nL := 5) (ret := (some .int)) (own := RX0) (by decide) rfl rfl (Nat.le_of_ble_eq_true rfl) ?_
  intro p e s m args below meth c ls A fx hK hA hP hD hS hl
  have hl : lv_has ls 5 [(0, .ref (ad 2)), (1, .ref (ad (9 + a1))), (2, .ref (ad (9 + a2)))] := hl
  show W p l e rm_X0_inner s m args below meth c s.heap [] 0 0 _ _
  obtain ⟨⟨hx, hb, hml, hown, hts⟩, hrt, hlk⟩ := id fx
  have hf : 0 ≤ rm_X0_inner.cells ∧ 0 ≤ rm_X0_inner.slots := ⟨Nat.zero_le _, Nat.zero_le _⟩
  unfold wp_X0_inner at h
  refine lv_iconst (v := 0) hx hb dX0_inner_0 (by decide) ?_
  refine lv_istore_n (lv' := [(3, .int 0), (0, .ref (ad 2)), (1, .ref (ad (9 + a1))), (2, .ref (ad (9 + a2)))]) hx hb dX0_inner_1 rfl hl (by decide) rfl (fun ls hl => ?_)
  refine lv_iconst (v := 0) hx hb dX0_inner_2 (by decide) ?_
  refine lv_istore (lv' := [(4, .int 0), (3, .int 0), (0, .ref (ad 2)), (1, .ref (ad (9 + a1))), (2, .ref (ad (9 + a2)))]) hx hb dX0_inner_3 hl (by decide) rfl (fun ls hl => ?_)
  obtain ⟨n, h⟩ := h
  exact kw_X0_inner_5 fx hK hA n _ _ _ _ _ hP hD hS (lv_sub hl [2, 3, 4, 1, 0] rfl) h
abbrev rm_X7_pair : Room := { frames := 2, cells := 0, slots := 0, locals := 46 }
theorem in_X7_pair_X7 : ∀ w ∈ wsX70, w ∈ wsX7_pair := by decide +kernel
set_option maxHeartbeats 4000000 in
set_option maxRecDepth 100000 in
theorem ct_X7_pair (l : Launch) (D : va_G) (ad : Nat → Nat) (cI cJ cR : ClassId) (Ln : Nat → Nat) {S : cs_T} {a1 : Int32} {a2 : Int32} {Q : Int32 → cs_T → Prop} (h : wp_X7_pair Ln S a1 a2 Q) : xr_I l D (cs_ty cI cJ cR) (cs_w ad cI cR Ln) yX7_pair wsX7_pair rm_X7_pair [.ref (ad 0), .int a1, .int a2] S Q := by
  refine xr_eI (cc := cX7_pair) (nL := 3) (ret := (some .int)) (own := RX7) (by decide) rfl rfl (Nat.le_of_ble_eq_true rfl) ?_
  intro p e s m args below meth c ls A fx hK hA hP hD hS hl
  have hl : lv_has ls 3 [(0, .ref (ad 0)), (1, .int a1), (2, .int a2)] := hl
  show W p l e rm_X7_pair s m args below meth c s.heap [] 0 0 _ _
  obtain ⟨⟨hx, hb, hml, hown, hts⟩, hrt, hlk⟩ := id fx
  have hf : 0 ≤ rm_X7_pair.cells ∧ 0 ≤ rm_X7_pair.slots := ⟨Nat.zero_le _, Nat.zero_le _⟩
  unfold wp_X7_pair at h
  refine lv_iload_n hx hb dX7_pair_0 rfl (lv_at hl 1 rfl) ?_
  refine xr_sI (n := 1) (As := [.int a1]) (rest := []) fx (ct_X7_noSum l h) gX7_pair_X7_noSum rfl rfl (by decide +kernel) ⟨Nat.le_of_ble_eq_true rfl, Nat.le_of_ble_eq_true rfl⟩ ⟨rfl, rfl⟩ hf hl.1 rfl (Nat.le_of_ble_eq_true rfl) dX7_pair_1 (fun r1 h => ?_)
  refine lv_if_ne (tgt := 14) hx hb dX7_pair_4 (by decide) (fun c4 => ?_) (fun c4 => ?_)
  · have h := h.1 c4
    refine lv_iconst (v := (-1)) hx hb dX7_pair_14 (by decide) ?_
    exact xr_rI fx hK hP hD hS h dX7_pair_15
  · have h := h.2 c4
    refine lv_iload_n hx hb dX7_pair_7 rfl (lv_at hl 2 rfl) ?_
    refine xr_sI (n := 1) (As := [.int a2]) (rest := []) fx (ct_X7_noSum l h) gX7_pair_X7_noSum rfl rfl (by decide +kernel) ⟨Nat.le_of_ble_eq_true rfl, Nat.le_of_ble_eq_true rfl⟩ ⟨rfl, rfl⟩ hf hl.1 rfl (Nat.le_of_ble_eq_true rfl) dX7_pair_8 (fun r2 h => ?_)
    refine lv_if_eq (tgt := 16) hx hb dX7_pair_11 (by decide) (fun c11 => ?_) (fun c11 => ?_)
    · have h := h.1 c11
      refine lv_aload_n hx hb dX7_pair_16 rfl (lv_at hl 0 rfl) ?_
      refine cs_get 0 6 2 (v := .ref (ad 2)) (ref := "BracketLetters") fx (by decide) rfl rfl in_X7_pair_X7 (by decide) rfl (by decide +kernel) rfl hK hP dX7_pair_17 ?_
      refine lv_aload_n hx hb dX7_pair_20 rfl (lv_at hl 0 rfl) ?_
      refine cs_get 0 6 1 (v := .ref (ad 7)) (ref := "BracketLetters") fx (by decide) rfl rfl in_X7_pair_X7 (by decide) rfl (by decide +kernel) rfl hK hP dX7_pair_21 ?_
      refine lv_iload_n hx hb dX7_pair_24 rfl (lv_at hl 1 rfl) ?_
      obtain ⟨hi3, h⟩ := h
      refine cs_aald 7 8 7 fx (by decide) rfl hK hP hi3 dX7_pair_25 ?_
      refine lv_aload_n hx hb dX7_pair_26 rfl (lv_at hl 0 rfl) ?_
      refine cs_get 0 6 1 (v := .ref (ad 7)) (ref := "BracketLetters") fx (by decide) rfl rfl in_X7_pair_X7 (by decide) rfl (by decide +kernel) rfl hK hP dX7_pair_27 ?_
      refine lv_iload_n hx hb dX7_pair_30 rfl (lv_at hl 2 rfl) ?_
      obtain ⟨hi4, h⟩ := h
      refine cs_aald 7 8 7 fx (by decide) rfl hK hP hi4 dX7_pair_31 ?_
      refine xr_vI (n := 2) (As := [.ref (ad (9 + (7 + a1.toNatClampNeg))), .ref (ad (9 + (7 + a2.toNatClampNeg)))]) (rest := []) fx (ct_X0_inner l D ad cI cJ cR Ln h) gX7_pair_X0_inner rfl rfl (by decide +kernel) ⟨Nat.le_of_ble_eq_true rfl, Nat.le_of_ble_eq_true rfl⟩ ⟨rfl, rfl⟩ hf (cs_recv 2 0 (by decide) rfl rfl hK hP) hK hP hD hS hA hl.1 rfl (Nat.le_of_ble_eq_true rfl) dX7_pair_32 (fun r6 S5 H locs h hP hD hS => ?_)
      exact xr_rI fx hK hP hD hS h dX7_pair_35
    · have h := h.2 c11
      refine lv_iconst (v := (-1)) hx hb dX7_pair_14 (by decide) ?_
      exact xr_rI fx hK hP hD hS h dX7_pair_15
abbrev rm_X1_all : Room := { frames := 0, cells := 0, slots := 0, locals := 0 }
theorem in_X1_all_X1 : ∀ w ∈ wsX10, w ∈ wsX1_all := by decide +kernel
theorem in_X1_all_X6 : ∀ w ∈ wsX60, w ∈ wsX1_all := by decide +kernel
set_option maxHeartbeats 4000000 in
set_option maxRecDepth 100000 in
theorem ct_X1_all (l : Launch) (D : va_G) (ad : Nat → Nat) (cI cJ cR : ClassId) (Ln : Nat → Nat) {S : cs_T} {Q : Int32 → cs_T → Prop} (h : wp_X1_all Ln S Q) : xr_I l D (cs_ty cI cJ cR) (cs_w ad cI cR Ln) yX1_all wsX1_all rm_X1_all [.ref (ad 3)] S Q := by
  refine xr_eI (cc := cX1_all) (nL := 1) (ret := (some .int)) (own := RX1) (by decide) rfl rfl (Nat.le_of_ble_eq_true rfl) ?_
  intro p e s m args below meth c ls A fx hK hA hP hD hS hl
  have hl : lv_has ls 1 [(0, .ref (ad 3))] := hl
  show W p l e rm_X1_all s m args below meth c s.heap [] 0 0 _ _
  obtain ⟨⟨hx, hb, hml, hown, hts⟩, hrt, hlk⟩ := id fx
  have hf : 0 ≤ rm_X1_all.cells ∧ 0 ≤ rm_X1_all.slots := ⟨Nat.zero_le _, Nat.zero_le _⟩
  unfold wp_X1_all at h
  refine lv_aload_n hx hb dX1_all_0 rfl (lv_at hl 0 rfl) ?_
  refine cs_get 3 1 3 (v := .ref (ad (9 + 36))) (ref := "BracketLetters$Chiefs") fx (by decide) rfl rfl in_X1_all_X1 (by decide) rfl (by decide +kernel) rfl hK hP dX1_all_1 ?_
  refine lv_aload_n hx hb dX1_all_4 rfl (lv_at hl 0 rfl) ?_
  refine cs_get 3 1 4 (v := .ref (ad 1)) (ref := "BracketLetters$Chiefs") fx (by decide) rfl rfl in_X1_all_X1 (by decide) rfl (by decide +kernel) rfl hK hP dX1_all_5 ?_
  refine cs_get 1 5 1 (v := .int (S.1 3)) (ref := "BracketLetters$Words") fx (by decide) rfl rfl in_X1_all_X6 (by decide) rfl (by decide +kernel) rfl hK hP dX1_all_8 ?_
  refine lv_iconst (v := 1) hx hb dX1_all_11 (by decide) ?_
  refine lv_iadd hx hb dX1_all_12 ?_
  obtain ⟨hi1, h⟩ := h
  refine cs_iald 36 (by decide) fx hK hP hi1 dX1_all_13 ?_
  exact xr_rI fx hK hP hD hS h dX1_all_14
abbrev rm_X7_noChief : Room := { frames := 1, cells := 0, slots := 0, locals := 20 }
theorem in_X7_noChief_X7 : ∀ w ∈ wsX70, w ∈ wsX7_noChief := by decide +kernel
set_option maxHeartbeats 4000000 in
set_option maxRecDepth 100000 in
theorem ct_X7_noChief (l : Launch) (D : va_G) (ad : Nat → Nat) (cI cJ cR : ClassId) (Ln : Nat → Nat) {S : cs_T} {a1 : Int32} {Q : Int32 → cs_T → Prop} (h : wp_X7_noChief Ln S a1 Q) : xr_I l D (cs_ty cI cJ cR) (cs_w ad cI cR Ln) yX7_noChief wsX7_noChief rm_X7_noChief [.ref (ad 0), .int a1] S Q := by
  refine xr_eI (cc := cX7_noChief) (nL := 2) (ret := (some .boolean)) (own := RX7) (by decide) rfl rfl (Nat.le_of_ble_eq_true rfl) ?_
  intro p e s m args below meth c ls A fx hK hA hP hD hS hl
  have hl : lv_has ls 2 [(0, .ref (ad 0)), (1, .int a1)] := hl
  show W p l e rm_X7_noChief s m args below meth c s.heap [] 0 0 _ _
  obtain ⟨⟨hx, hb, hml, hown, hts⟩, hrt, hlk⟩ := id fx
  have hf : 0 ≤ rm_X7_noChief.cells ∧ 0 ≤ rm_X7_noChief.slots := ⟨Nat.zero_le _, Nat.zero_le _⟩
  unfold wp_X7_noChief at h
  refine lv_iload_n hx hb dX7_noChief_0 rfl (lv_at hl 1 rfl) ?_
  refine lv_if_lt (tgt := 15) hx hb dX7_noChief_1 (by decide) (fun c1 => ?_) (fun c1 => ?_)
  · have h := h.1 c1
    refine lv_iconst (v := 1) hx hb dX7_noChief_15 (by decide) ?_
    refine lv_goto (tgt := 20) hx hb dX7_noChief_16 (by decide) ?_
    exact xr_rZ fx rfl hK hP hD hS h dX7_noChief_20
  · have h := h.2 c1
    refine lv_iload_n hx hb dX7_noChief_4 rfl (lv_at hl 1 rfl) ?_
    refine lv_aload_n hx hb dX7_noChief_5 rfl (lv_at hl 0 rfl) ?_
    refine cs_get 0 6 3 (v := .ref (ad 3)) (ref := "BracketLetters") fx (by decide) rfl rfl in_X7_noChief_X7 (by decide) rfl (by decide +kernel) rfl hK hP dX7_noChief_6 ?_
    refine xr_vI (n := 0) (As := []) (rest := [.int a1]) fx (ct_X1_all l D ad cI cJ cR Ln h) gX7_noChief_X1_all rfl rfl (by decide +kernel) ⟨Nat.le_of_ble_eq_true rfl, Nat.le_of_ble_eq_true rfl⟩ ⟨rfl, rfl⟩ hf (cs_recv 3 1 (by decide) rfl rfl hK hP) hK hP hD hS hA hl.1 rfl (Nat.le_of_ble_eq_true rfl) dX7_noChief_9 (fun r2 S1 H locs h hP hD hS => ?_)
    refine lv_icmp_lt (tgt := 19) hx hb dX7_noChief_12 (by decide) (fun c12 => ?_) (fun c12 => ?_)
    · have h := h.1 c12
      refine lv_iconst (v := 0) hx hb dX7_noChief_19 (by decide) ?_
      exact xr_rZ fx rfl hK hP hD hS h dX7_noChief_20
    · have h := h.2 c12
      refine lv_iconst (v := 1) hx hb dX7_noChief_15 (by decide) ?_
      refine lv_goto (tgt := 20) hx hb dX7_noChief_16 (by decide) ?_
      exact xr_rZ fx rfl hK hP hD hS h dX7_noChief_20
abbrev rm_X6_lengthOf : Room := { frames := 0, cells := 0, slots := 0, locals := 0 }
theorem in_X6_lengthOf_X6 : ∀ w ∈ wsX60, w ∈ wsX6_lengthOf := by decide +kernel
set_option maxHeartbeats 4000000 in
set_option maxRecDepth 100000 in
theorem kw_X6_lengthOf_24 {p : Program} {l : Launch} {e : Env} {s : State} {m : MethodId} {args : Array Value} {below : List Frame} {meth : Method} {c : Code} {D : va_G} {ad : Nat → Nat} {cI cJ cR : ClassId} {Ln : Nat → Nat} {A : Nat → Prop} {K4 : cs_T → Int32 → Int32 → Int32 → Prop} {Q : Int32 → cs_T → Prop} {S : cs_T} {v1 : Int32} {v2 : Int32} {v3 : Int32} (fx : xr_Fx p m c meth cX6_lengthOf 4 s args wsX6_lengthOf RX6 (some .int)) (hK : xr_K D (cs_ty cI cJ cR) s) (hA : ∀ q, s.heap.size ≤ q → A q)  (k4 : ∀ (S : cs_T) (v1 : Int32) (v2 : Int32) (v3 : Int32) {H : Heap} {locs : List Loc} {ls : Array Slot}, va_P D vwCl (cs_w ad cI cR Ln S) H → va_D A (cs_w ad cI cR Ln S) → va_S A s.heap H locs → lv_has ls 4 [(0, .ref (ad 1)), (1, .int v1), (2, .int v2), (3, .int v3)] → K4 S v1 v2 v3 → W p l e rm_X6_lengthOf s m args below meth c H locs 0 0 (MQ below (va_Qi Q (xr_B D (cs_ty cI cJ cR) (cs_w ad cI cR Ln) A) A) args s 0 0 A) (F0 m 4 ls [])) {H : Heap} {locs : List Loc} {ls : Array Slot} (hP : va_P D vwCl (cs_w ad cI cR Ln S) H) (hD : va_D A (cs_w ad cI cR Ln S)) (hS : va_S A s.heap H locs) (hl : lv_has ls 4 [(0, .ref (ad 1)), (1, .int v1), (2, .int v2), (3, .int v3)]) (h : wp_X6_lengthOf_24 Ln K4 Q S v1 v2 v3) : W p l e rm_X6_lengthOf s m args below meth c H locs 0 0 (MQ below (va_Qi Q (xr_B D (cs_ty cI cJ cR) (cs_w ad cI cR Ln) A) A) args s 0 0 A) (F0 m 24 ls []) := by
  obtain ⟨⟨hx, hb, hml, hown, hts⟩, hrt, hlk⟩ := id fx
  have hf : 0 ≤ rm_X6_lengthOf.cells ∧ 0 ≤ rm_X6_lengthOf.slots := ⟨Nat.zero_le _, Nat.zero_le _⟩
  unfold wp_X6_lengthOf_24 at h
  obtain ⟨v3_1, ev3_1⟩ : ∃ z : Int32, z = v3 + 1 := ⟨_, rfl⟩
  have h := h v3_1 ev3_1
  refine lv_iinc (v := v3_1) (lv' := [(3, .int v3_1), (0, .ref (ad 1)), (1, .int v1), (2, .int v2)]) hx hb dX6_lengthOf_24 hl (k := 3) rfl (by rw [ev3_1]; rfl) (by decide) rfl (fun ls hl => ?_)
  refine lv_goto (tgt := 4) hx hb dX6_lengthOf_27 (by decide) ?_
  exact k4 _ _ _ _ hP hD hS (lv_sub hl [1, 2, 3, 0] rfl) h
set_option maxHeartbeats 4000000 in
set_option maxRecDepth 100000 in
theorem kb_X6_lengthOf_4 {p : Program} {l : Launch} {e : Env} {s : State} {m : MethodId} {args : Array Value} {below : List Frame} {meth : Method} {c : Code} {D : va_G} {ad : Nat → Nat} {cI cJ cR : ClassId} {Ln : Nat → Nat} {A : Nat → Prop}  {K4 : cs_T → Int32 → Int32 → Int32 → Prop} {Q : Int32 → cs_T → Prop} {S : cs_T} {v1 : Int32} {v2 : Int32} {v3 : Int32} (fx : xr_Fx p m c meth cX6_lengthOf 4 s args wsX6_lengthOf RX6 (some .int)) (hK : xr_K D (cs_ty cI cJ cR) s) (hA : ∀ q, s.heap.size ≤ q → A q)   (k4 : ∀ (S : cs_T) (v1 : Int32) (v2 : Int32) (v3 : Int32) {H : Heap} {locs : List Loc} {ls : Array Slot}, va_P D vwCl (cs_w ad cI cR Ln S) H → va_D A (cs_w ad cI cR Ln S) → va_S A s.heap H locs → lv_has ls 4 [(0, .ref (ad 1)), (1, .int v1), (2, .int v2), (3, .int v3)] → K4 S v1 v2 v3 → W p l e rm_X6_lengthOf s m args below meth c H locs 0 0 (MQ below (va_Qi Q (xr_B D (cs_ty cI cJ cR) (cs_w ad cI cR Ln) A) A) args s 0 0 A) (F0 m 4 ls [])) {H : Heap} {locs : List Loc} {ls : Array Slot} (hP : va_P D vwCl (cs_w ad cI cR Ln S) H) (hD : va_D A (cs_w ad cI cR Ln S)) (hS : va_S A s.heap H locs) (hl : lv_has ls 4 [(0, .ref (ad 1)), (1, .int v1), (2, .int v2), (3, .int v3)]) (h : wb_X6_lengthOf_4 Ln K4 Q S v1 v2 v3) : W p l e rm_X6_lengthOf s m args below meth c H locs 0 0 (MQ below (va_Qi Q (xr_B D (cs_ty cI cJ cR) (cs_w ad cI cR Ln) A) A) args s 0 0 A) (F0 m 4 ls []) := by
  obtain ⟨⟨hx, hb, hml, hown, hts⟩, hrt, hlk⟩ := id fx
  have hf : 0 ≤ rm_X6_lengthOf.cells ∧ 0 ≤ rm_X6_lengthOf.slots := ⟨Nat.zero_le _, Nat.zero_le _⟩
  unfold wb_X6_lengthOf_4 at h
  refine lv_iload_n hx hb dX6_lengthOf_4 rfl (lv_at hl 3 rfl) ?_
  refine lv_aload_n hx hb dX6_lengthOf_5 rfl (lv_at hl 0 rfl) ?_
  refine cs_get 1 5 1 (v := .int (S.1 3)) (ref := "BracketLetters$Words") fx (by decide) rfl rfl in_X6_lengthOf_X6 (by decide) rfl (by decide +kernel) rfl hK hP dX6_lengthOf_6 ?_
  refine lv_icmp_gt (tgt := 30) hx hb dX6_lengthOf_9 (by decide) (fun c9 => ?_) (fun c9 => ?_)
  · have h := h.1 c9
    refine lv_iload_n hx hb dX6_lengthOf_30 rfl (lv_at hl 2 rfl) ?_
    exact xr_rI fx hK hP hD hS h dX6_lengthOf_31
  · have h := h.2 c9
    refine lv_iload_n hx hb dX6_lengthOf_12 rfl (lv_at hl 1 rfl) ?_
    refine lv_aload_n hx hb dX6_lengthOf_13 rfl (lv_at hl 0 rfl) ?_
    refine cs_get 1 5 3 (v := .ref (ad (9 + 1))) (ref := "BracketLetters$Words") fx (by decide) rfl rfl in_X6_lengthOf_X6 (by decide) rfl (by decide +kernel) rfl hK hP dX6_lengthOf_14 ?_
    refine lv_iload_n hx hb dX6_lengthOf_17 rfl (lv_at hl 3 rfl) ?_
    obtain ⟨hi2, h⟩ := h
    refine cs_iald 1 (by decide) fx hK hP hi2 dX6_lengthOf_18 ?_
    refine lv_icmp_lt (tgt := 24) hx hb dX6_lengthOf_19 (by decide) (fun c19 => ?_) (fun c19 => ?_)
    · have h := h.1 c19
      exact kw_X6_lengthOf_24 fx hK hA k4 hP hD hS (lv_sub hl [0, 1, 2, 3] rfl) h
    · have h := h.2 c19
      refine lv_iload_n hx hb dX6_lengthOf_22 rfl (lv_at hl 3 rfl) ?_
      refine lv_istore_n (lv' := [(2, .int v3), (0, .ref (ad 1)), (1, .int v1), (3, .int v3)]) hx hb dX6_lengthOf_23 rfl hl (by decide) rfl (fun ls hl => ?_)
      exact kw_X6_lengthOf_24 fx hK hA k4 hP hD hS (lv_sub hl [1, 2, 0, 3] rfl) h
theorem kw_X6_lengthOf_4 {p : Program} {l : Launch} {e : Env} {s : State} {m : MethodId} {args : Array Value} {below : List Frame} {meth : Method} {c : Code} {D : va_G} {ad : Nat → Nat} {cI cJ cR : ClassId} {Ln : Nat → Nat} {A : Nat → Prop}  {Q : Int32 → cs_T → Prop} (fx : xr_Fx p m c meth cX6_lengthOf 4 s args wsX6_lengthOf RX6 (some .int)) (hK : xr_K D (cs_ty cI cJ cR) s) (hA : ∀ q, s.heap.size ≤ q → A q)   : ∀ (n : Nat) (S : cs_T) (v1 : Int32) (v2 : Int32) (v3 : Int32) {H : Heap} {locs : List Loc} {ls : Array Slot}, va_P D vwCl (cs_w ad cI cR Ln S) H → va_D A (cs_w ad cI cR Ln S) → va_S A s.heap H locs → lv_has ls 4 [(0, .ref (ad 1)), (1, .int v1), (2, .int v2), (3, .int v3)] → wp_X6_lengthOf_4 Ln Q n S v1 v2 v3 → W p l e rm_X6_lengthOf s m args below meth c H locs 0 0 (MQ below (va_Qi Q (xr_B D (cs_ty cI cJ cR) (cs_w ad cI cR Ln) A) A) args s 0 0 A) (F0 m 4 ls []) := by
  intro n
  induction n with
  | zero => intro S v1 v2 v3 H locs ls hP hD hS hl h; exact False.elim h
  | succ n ih => intro S v1 v2 v3 H locs ls hP hD hS hl h; exact kb_X6_lengthOf_4 fx hK hA ih hP hD hS hl h
set_option maxHeartbeats 4000000 in
set_option maxRecDepth 100000 in
theorem ct_X6_lengthOf (l : Launch) (D : va_G) (ad : Nat → Nat) (cI cJ cR : ClassId) (Ln : Nat → Nat) {S : cs_T} {a1 : Int32} {Q : Int32 → cs_T → Prop} (h : wp_X6_lengthOf Ln S a1 Q) : xr_I l D (cs_ty cI cJ cR) (cs_w ad cI cR Ln) yX6_lengthOf wsX6_lengthOf rm_X6_lengthOf [.ref (ad 1), .int a1] S Q := by
  refine xr_eI (cc := cX6_lengthOf) (nL := 4) (ret := (some .int)) (own := RX6) (by decide) rfl rfl (Nat.le_of_ble_eq_true rfl) ?_
  intro p e s m args below meth c ls A fx hK hA hP hD hS hl
  have hl : lv_has ls 4 [(0, .ref (ad 1)), (1, .int a1)] := hl
  show W p l e rm_X6_lengthOf s m args below meth c s.heap [] 0 0 _ _
  obtain ⟨⟨hx, hb, hml, hown, hts⟩, hrt, hlk⟩ := id fx
  have hf : 0 ≤ rm_X6_lengthOf.cells ∧ 0 ≤ rm_X6_lengthOf.slots := ⟨Nat.zero_le _, Nat.zero_le _⟩
  unfold wp_X6_lengthOf at h
  refine lv_iconst (v := 0) hx hb dX6_lengthOf_0 (by decide) ?_
  refine lv_istore_n (lv' := [(2, .int 0), (0, .ref (ad 1)), (1, .int a1)]) hx hb dX6_lengthOf_1 rfl hl (by decide) rfl (fun ls hl => ?_)
  refine lv_iconst (v := 1) hx hb dX6_lengthOf_2 (by decide) ?_
  refine lv_istore_n (lv' := [(3, .int 1), (2, .int 0), (0, .ref (ad 1)), (1, .int a1)]) hx hb dX6_lengthOf_3 rfl hl (by decide) rfl (fun ls hl => ?_)
  obtain ⟨n, h⟩ := h
  exact kw_X6_lengthOf_4 fx hK hA n _ _ _ _ hP hD hS (lv_sub hl [2, 3, 1, 0] rfl) h
abbrev rm_X6_toldOf : Room := { frames := 1, cells := 0, slots := 0, locals := 23 }
theorem in_X6_toldOf_X6 : ∀ w ∈ wsX60, w ∈ wsX6_toldOf := by decide +kernel
set_option maxHeartbeats 4000000 in
set_option maxRecDepth 100000 in
theorem kb_X6_toldOf_21 {p : Program} {l : Launch} {e : Env} {s : State} {m : MethodId} {args : Array Value} {below : List Frame} {meth : Method} {c : Code} {D : va_G} {ad : Nat → Nat} {cI cJ cR : ClassId} {Ln : Nat → Nat} {A : Nat → Prop}  {K21 : cs_T → Int32 → Int32 → Int32 → Int32 → Prop} {Q : Int32 → cs_T → Prop} {S : cs_T} {v2 : Int32} {v3 : Int32} {v4 : Int32} {v5 : Int32} (fx : xr_Fx p m c meth cX6_toldOf 6 s args wsX6_toldOf RX6 (some .int)) (hK : xr_K D (cs_ty cI cJ cR) s) (hA : ∀ q, s.heap.size ≤ q → A q)   (k21 : ∀ (S : cs_T) (v2 : Int32) (v3 : Int32) (v4 : Int32) (v5 : Int32) {H : Heap} {locs : List Loc} {ls : Array Slot}, va_P D vwCl (cs_w ad cI cR Ln S) H → va_D A (cs_w ad cI cR Ln S) → va_S A s.heap H locs → lv_has ls 6 [(0, .ref (ad 1)), (2, .int v2), (3, .int v3), (4, .int v4), (5, .int v5)] → K21 S v2 v3 v4 v5 → W p l e rm_X6_toldOf s m args below meth c H locs 0 0 (MQ below (va_Qi Q (xr_B D (cs_ty cI cJ cR) (cs_w ad cI cR Ln) A) A) args s 0 0 A) (F0 m 21 ls [])) {H : Heap} {locs : List Loc} {ls : Array Slot} (hP : va_P D vwCl (cs_w ad cI cR Ln S) H) (hD : va_D A (cs_w ad cI cR Ln S)) (hS : va_S A s.heap H locs) (hl : lv_has ls 6 [(0, .ref (ad 1)), (2, .int v2), (3, .int v3), (4, .int v4), (5, .int v5)]) (h : wb_X6_toldOf_21 Ln K21 Q S v2 v3 v4 v5) : W p l e rm_X6_toldOf s m args below meth c H locs 0 0 (MQ below (va_Qi Q (xr_B D (cs_ty cI cJ cR) (cs_w ad cI cR Ln) A) A) args s 0 0 A) (F0 m 21 ls []) := by
  obtain ⟨⟨hx, hb, hml, hown, hts⟩, hrt, hlk⟩ := id fx
  have hf : 0 ≤ rm_X6_toldOf.cells ∧ 0 ≤ rm_X6_toldOf.slots := ⟨Nat.zero_le _, Nat.zero_le _⟩
  unfold wb_X6_toldOf_21 at h
  refine lv_iload hx hb dX6_toldOf_21 (lv_at hl 4 rfl) ?_
  refine lv_iload_n hx hb dX6_toldOf_23 rfl (lv_at hl 1 rfl) ?_
  refine lv_icmp_ge (tgt := 58) hx hb dX6_toldOf_24 (by decide) (fun c24 => ?_) (fun c24 => ?_)
  · have h := h.1 c24
    refine lv_iload hx hb dX6_toldOf_58 (lv_at hl 3 rfl) ?_
    exact xr_rI fx hK hP hD hS h dX6_toldOf_60
  · have h := h.2 c24
    refine lv_iload hx hb dX6_toldOf_27 (lv_at hl 3 rfl) ?_
    refine lv_iload_n hx hb dX6_toldOf_29 rfl (lv_at hl 2 rfl) ?_
    refine lv_aload_n hx hb dX6_toldOf_30 rfl (lv_at hl 0 rfl) ?_
    refine cs_get 1 5 0 (v := .int (S.1 2)) (ref := "BracketLetters$Words") fx (by decide) rfl rfl in_X6_toldOf_X6 (by decide) rfl (by decide +kernel) rfl hK hP dX6_toldOf_31 ?_
    obtain ⟨hz1, h⟩ := h
    refine lv_irem hx hb dX6_toldOf_34 hz1 ?_
    refine lv_iconst (v := 1) hx hb dX6_toldOf_35 (by decide) ?_
    refine lv_iadd hx hb dX6_toldOf_36 ?_
    refine lv_iconst (v := 3) hx hb dX6_toldOf_37 (by decide) ?_
    refine lv_iload hx hb dX6_toldOf_38 (lv_at hl 4 rfl) ?_
    refine lv_imul hx hb dX6_toldOf_40 ?_
    refine lv_ishl hx hb dX6_toldOf_41 ?_
    refine lv_ior hx hb dX6_toldOf_42 ?_
    refine lv_topi (fun v4_2 ev4_2 => ?_)
    have h := h v4_2 ev4_2
    refine lv_istore (lv' := [(4, .int v4_2), (0, .ref (ad 1)), (2, .int v2), (3, .int v3), (5, .int v5)]) hx hb dX6_toldOf_43 hl (by decide) rfl (fun ls hl => ?_)
    refine lv_iload_n hx hb dX6_toldOf_45 rfl (lv_at hl 3 rfl) ?_
    refine lv_aload_n hx hb dX6_toldOf_46 rfl (lv_at hl 1 rfl) ?_
    refine cs_get 1 5 0 (v := .int (S.1 2)) (ref := "BracketLetters$Words") fx (by decide) rfl rfl in_X6_toldOf_X6 (by decide) rfl (by decide +kernel) rfl hK hP dX6_toldOf_47 ?_
    obtain ⟨hz3, h⟩ := h
    refine lv_idiv hx hb dX6_toldOf_50 hz3 ?_
    refine lv_topi (fun v3_4 ev3_4 => ?_)
    have h := h v3_4 ev3_4
    refine lv_istore_n (lv' := [(3, .int v3_4), (4, .int v4_2), (0, .ref (ad 1)), (2, .int v2), (5, .int v5)]) hx hb dX6_toldOf_51 rfl hl (by decide) rfl (fun ls hl => ?_)
    obtain ⟨v5_5, ev5_5⟩ : ∃ z : Int32, z = v5 + 1 := ⟨_, rfl⟩
    have h := h v5_5 ev5_5
    refine lv_iinc (v := v5_5) (lv' := [(5, .int v5_5), (3, .int v3_4), (4, .int v4_2), (0, .ref (ad 1)), (2, .int v2)]) hx hb dX6_toldOf_52 hl (k := 4) rfl (by rw [ev5_5]; rfl) (by decide) rfl (fun ls hl => ?_)
    refine lv_goto (tgt := 21) hx hb dX6_toldOf_55 (by decide) ?_
    exact k21 _ _ _ _ _ hP hD hS (lv_sub hl [3, 4, 1, 2, 0] rfl) h
theorem kw_X6_toldOf_21 {p : Program} {l : Launch} {e : Env} {s : State} {m : MethodId} {args : Array Value} {below : List Frame} {meth : Method} {c : Code} {D : va_G} {ad : Nat → Nat} {cI cJ cR : ClassId} {Ln : Nat → Nat} {A : Nat → Prop}  {Q : Int32 → cs_T → Prop} (fx : xr_Fx p m c meth cX6_toldOf 6 s args wsX6_toldOf RX6 (some .int)) (hK : xr_K D (cs_ty cI cJ cR) s) (hA : ∀ q, s.heap.size ≤ q → A q)   : ∀ (n : Nat) (S : cs_T) (v2 : Int32) (v3 : Int32) (v4 : Int32) (v5 : Int32) {H : Heap} {locs : List Loc} {ls : Array Slot}, va_P D vwCl (cs_w ad cI cR Ln S) H → va_D A (cs_w ad cI cR Ln S) → va_S A s.heap H locs → lv_has ls 6 [(0, .ref (ad 1)), (2, .int v2), (3, .int v3), (4, .int v4), (5, .int v5)] → wp_X6_toldOf_21 Ln Q n S v2 v3 v4 v5 → W p l e rm_X6_toldOf s m args below meth c H locs 0 0 (MQ below (va_Qi Q (xr_B D (cs_ty cI cJ cR) (cs_w ad cI cR Ln) A) A) args s 0 0 A) (F0 m 21 ls []) := by
  intro n
  induction n with
  | zero => intro S v2 v3 v4 v5 H locs ls hP hD hS hl h; exact False.elim h
  | succ n ih => intro S v2 v3 v4 v5 H locs ls hP hD hS hl h; exact kb_X6_toldOf_21 fx hK hA ih hP hD hS hl h
set_option maxHeartbeats 4000000 in
set_option maxRecDepth 100000 in
theorem ct_X6_toldOf (l : Launch) (D : va_G) (ad : Nat → Nat) (cI cJ cR : ClassId) (Ln : Nat → Nat) {S : cs_T} {a1 : Int32} {Q : Int32 → cs_T → Prop} (h : wp_X6_toldOf Ln S a1 Q) : xr_I l D (cs_ty cI cJ cR) (cs_w ad cI cR Ln) yX6_toldOf wsX6_toldOf rm_X6_toldOf [.ref (ad 1), .int a1] S Q := by
  refine xr_eI (cc := cX6_toldOf) (nL := 6) (ret := (some .int)) (own := RX6) (by decide) rfl rfl (Nat.le_of_ble_eq_true rfl) ?_
  intro p e s m args below meth c ls A fx hK hA hP hD hS hl
  have hl : lv_has ls 6 [(0, .ref (ad 1)), (1, .int a1)] := hl
  show W p l e rm_X6_toldOf s m args below meth c s.heap [] 0 0 _ _
  obtain ⟨⟨hx, hb, hml, hown, hts⟩, hrt, hlk⟩ := id fx
  have hf : 0 ≤ rm_X6_toldOf.cells ∧ 0 ≤ rm_X6_toldOf.slots := ⟨Nat.zero_le _, Nat.zero_le _⟩
  unfold wp_X6_toldOf at h
  refine lv_aload_n hx hb dX6_toldOf_0 rfl (lv_at hl 0 rfl) ?_
  refine lv_iload_n hx hb dX6_toldOf_1 rfl (lv_at hl 1 rfl) ?_
  refine xr_vI (n := 1) (As := [.int a1]) (rest := []) fx (ct_X6_lengthOf l D ad cI cJ cR Ln h) gX6_toldOf_X6_lengthOf rfl rfl (by decide +kernel) ⟨Nat.le_of_ble_eq_true rfl, Nat.le_of_ble_eq_true rfl⟩ ⟨rfl, rfl⟩ hf (cs_recv 1 5 (by decide) rfl rfl hK hP) hK hP hD hS hA hl.1 rfl (Nat.le_of_ble_eq_true rfl) dX6_toldOf_2 (fun r7 S6 H locs h hP hD hS => ?_)
  refine lv_istore_n (lv' := [(2, .int r7), (0, .ref (ad 1)), (1, .int a1)]) hx hb dX6_toldOf_5 rfl hl (by decide) rfl (fun ls hl => ?_)
  refine lv_iload_n hx hb dX6_toldOf_6 rfl (lv_at hl 2 rfl) ?_
  refine lv_aload_n hx hb dX6_toldOf_7 rfl (lv_at hl 1 rfl) ?_
  refine cs_get 1 5 3 (v := .ref (ad (9 + 1))) (ref := "BracketLetters$Words") fx (by decide) rfl rfl in_X6_toldOf_X6 (by decide) rfl (by decide +kernel) rfl hK hP dX6_toldOf_8 ?_
  refine lv_iload_n hx hb dX6_toldOf_11 rfl (lv_at hl 0 rfl) ?_
  obtain ⟨hi8, h⟩ := h
  refine cs_iald 1 (by decide) fx hK hP hi8 dX6_toldOf_12 ?_
  refine lv_isub hx hb dX6_toldOf_13 ?_
  refine lv_topi (fun v3_9 ev3_9 => ?_)
  have h := h v3_9 ev3_9
  refine lv_istore_n (lv' := [(3, .int v3_9), (2, .int r7), (0, .ref (ad 1)), (1, .int a1)]) hx hb dX6_toldOf_14 rfl hl (by decide) rfl (fun ls hl => ?_)
  refine lv_iconst (v := 0) hx hb dX6_toldOf_15 (by decide) ?_
  refine lv_istore (lv' := [(4, .int 0), (3, .int v3_9), (2, .int r7), (0, .ref (ad 1)), (1, .int a1)]) hx hb dX6_toldOf_16 hl (by decide) rfl (fun ls hl => ?_)
  refine lv_iconst (v := 0) hx hb dX6_toldOf_18 (by decide) ?_
  refine lv_istore (lv' := [(5, .int 0), (4, .int 0), (3, .int v3_9), (2, .int r7), (0, .ref (ad 1)), (1, .int a1)]) hx hb dX6_toldOf_19 hl (by decide) rfl (fun ls hl => ?_)
  obtain ⟨n, h⟩ := h
  exact kw_X6_toldOf_21 fx hK hA n _ _ _ _ _ hP hD hS (lv_sub hl [4, 3, 2, 1, 0] rfl) h
abbrev rm_X7_lyndon : Room := { frames := 2, cells := 0, slots := 0, locals := 48 }
theorem in_X7_lyndon_X7 : ∀ w ∈ wsX70, w ∈ wsX7_lyndon := by decide +kernel
theorem in_X7_lyndon_X1 : ∀ w ∈ wsX10, w ∈ wsX7_lyndon := by decide +kernel
set_option maxHeartbeats 4000000 in
set_option maxRecDepth 100000 in
theorem ct_X7_lyndon (l : Launch) (D : va_G) (ad : Nat → Nat) (cI cJ cR : ClassId) (Ln : Nat → Nat) {S : cs_T} {a1 : Int32} {Q : Int32 → cs_T → Prop} (h : wp_X7_lyndon Ln S a1 Q) : xr_I l D (cs_ty cI cJ cR) (cs_w ad cI cR Ln) yX7_lyndon wsX7_lyndon rm_X7_lyndon [.ref (ad 0), .int a1] S Q := by
  refine xr_eI (cc := cX7_lyndon) (nL := 2) (ret := (some .int)) (own := RX7) (by decide) rfl rfl (Nat.le_of_ble_eq_true rfl) ?_
  intro p e s m args below meth c ls A fx hK hA hP hD hS hl
  have hl : lv_has ls 2 [(0, .ref (ad 0)), (1, .int a1)] := hl
  show W p l e rm_X7_lyndon s m args below meth c s.heap [] 0 0 _ _
  obtain ⟨⟨hx, hb, hml, hown, hts⟩, hrt, hlk⟩ := id fx
  have hf : 0 ≤ rm_X7_lyndon.cells ∧ 0 ≤ rm_X7_lyndon.slots := ⟨Nat.zero_le _, Nat.zero_le _⟩
  unfold wp_X7_lyndon at h
  refine lv_aload_n hx hb dX7_lyndon_0 rfl (lv_at hl 0 rfl) ?_
  refine lv_iload_n hx hb dX7_lyndon_1 rfl (lv_at hl 1 rfl) ?_
  refine xr_vI (n := 1) (As := [.int a1]) (rest := []) fx (ct_X7_noChief l D ad cI cJ cR Ln h) gX7_lyndon_X7_noChief rfl rfl (by decide +kernel) ⟨Nat.le_of_ble_eq_true rfl, Nat.le_of_ble_eq_true rfl⟩ ⟨rfl, rfl⟩ hf (cs_recv 0 6 (by decide) rfl rfl hK hP) hK hP hD hS hA hl.1 rfl (Nat.le_of_ble_eq_true rfl) dX7_lyndon_2 (fun r2 S1 H locs h hP hD hS => ?_)
  refine lv_if_eq (tgt := 10) hx hb dX7_lyndon_5 (by decide) (fun c5 => ?_) (fun c5 => ?_)
  · have h := h.1 c5
    refine lv_aload_n hx hb dX7_lyndon_10 rfl (lv_at hl 0 rfl) ?_
    refine cs_get 0 6 0 (v := .ref (ad 1)) (ref := "BracketLetters") fx (by decide) rfl rfl in_X7_lyndon_X7 (by decide) rfl (by decide +kernel) rfl hK hP dX7_lyndon_11 ?_
    refine lv_aload_n hx hb dX7_lyndon_14 rfl (lv_at hl 0 rfl) ?_
    refine cs_get 0 6 3 (v := .ref (ad 3)) (ref := "BracketLetters") fx (by decide) rfl rfl in_X7_lyndon_X7 (by decide) rfl (by decide +kernel) rfl hK hP dX7_lyndon_15 ?_
    refine cs_get 3 1 0 (v := .ref (ad (9 + 33))) (ref := "BracketLetters$Chiefs") fx (by decide) rfl rfl in_X7_lyndon_X1 (by decide) rfl (by decide +kernel) rfl hK hP dX7_lyndon_18 ?_
    refine lv_iload_n hx hb dX7_lyndon_21 rfl (lv_at hl 1 rfl) ?_
    obtain ⟨hi3, h⟩ := h
    refine cs_iald 33 (by decide) fx hK hP hi3 dX7_lyndon_22 ?_
    refine xr_vI (n := 1) (As := [.int (S1.2.1 33 a1.toNatClampNeg)]) (rest := []) fx (ct_X6_toldOf l D ad cI cJ cR Ln h) gX7_lyndon_X6_toldOf rfl rfl (by decide +kernel) ⟨Nat.le_of_ble_eq_true rfl, Nat.le_of_ble_eq_true rfl⟩ ⟨rfl, rfl⟩ hf (cs_recv 1 5 (by decide) rfl rfl hK hP) hK hP hD hS hA hl.1 rfl (Nat.le_of_ble_eq_true rfl) dX7_lyndon_23 (fun r5 S4 H locs h hP hD hS => ?_)
    exact xr_rI fx hK hP hD hS h dX7_lyndon_26
  · have h := h.2 c5
    refine lv_iconst (v := (-1)) hx hb dX7_lyndon_8 (by decide) ?_
    exact xr_rI fx hK hP hD hS h dX7_lyndon_9
abbrev rm_X1_ofLength : Room := { frames := 0, cells := 0, slots := 0, locals := 0 }
theorem in_X1_ofLength_X1 : ∀ w ∈ wsX10, w ∈ wsX1_ofLength := by decide +kernel
set_option maxHeartbeats 4000000 in
set_option maxRecDepth 100000 in
theorem ct_X1_ofLength (l : Launch) (D : va_G) (ad : Nat → Nat) (cI cJ cR : ClassId) (Ln : Nat → Nat) {S : cs_T} {a1 : Int32} {Q : Int32 → cs_T → Prop} (h : wp_X1_ofLength Ln S a1 Q) : xr_I l D (cs_ty cI cJ cR) (cs_w ad cI cR Ln) yX1_ofLength wsX1_ofLength rm_X1_ofLength [.ref (ad 3), .int a1] S Q := by
  refine xr_eI (cc := cX1_ofLength) (nL := 2) (ret := (some .int)) (own := RX1) (by decide) rfl rfl (Nat.le_of_ble_eq_true rfl) ?_
  intro p e s m args below meth c ls A fx hK hA hP hD hS hl
  have hl : lv_has ls 2 [(0, .ref (ad 3)), (1, .int a1)] := hl
  show W p l e rm_X1_ofLength s m args below meth c s.heap [] 0 0 _ _
  obtain ⟨⟨hx, hb, hml, hown, hts⟩, hrt, hlk⟩ := id fx
  have hf : 0 ≤ rm_X1_ofLength.cells ∧ 0 ≤ rm_X1_ofLength.slots := ⟨Nat.zero_le _, Nat.zero_le _⟩
  unfold wp_X1_ofLength at h
  refine lv_aload_n hx hb dX1_ofLength_0 rfl (lv_at hl 0 rfl) ?_
  refine cs_get 3 1 3 (v := .ref (ad (9 + 36))) (ref := "BracketLetters$Chiefs") fx (by decide) rfl rfl in_X1_ofLength_X1 (by decide) rfl (by decide +kernel) rfl hK hP dX1_ofLength_1 ?_
  refine lv_iload_n hx hb dX1_ofLength_4 rfl (lv_at hl 1 rfl) ?_
  refine lv_iconst (v := 1) hx hb dX1_ofLength_5 (by decide) ?_
  refine lv_iadd hx hb dX1_ofLength_6 ?_
  obtain ⟨hi1, h⟩ := h
  refine cs_iald 36 (by decide) fx hK hP hi1 dX1_ofLength_7 ?_
  refine lv_aload_n hx hb dX1_ofLength_8 rfl (lv_at hl 0 rfl) ?_
  refine cs_get 3 1 3 (v := .ref (ad (9 + 36))) (ref := "BracketLetters$Chiefs") fx (by decide) rfl rfl in_X1_ofLength_X1 (by decide) rfl (by decide +kernel) rfl hK hP dX1_ofLength_9 ?_
  refine lv_iload_n hx hb dX1_ofLength_12 rfl (lv_at hl 1 rfl) ?_
  obtain ⟨hi2, h⟩ := h
  refine cs_iald 36 (by decide) fx hK hP hi2 dX1_ofLength_13 ?_
  refine lv_isub hx hb dX1_ofLength_14 ?_
  exact xr_rI fx hK hP hD hS h dX1_ofLength_15
abbrev rm_X7_lyndons : Room := { frames := 1, cells := 0, slots := 0, locals := 21 }
theorem in_X7_lyndons_X7 : ∀ w ∈ wsX70, w ∈ wsX7_lyndons := by decide +kernel
theorem in_X7_lyndons_X6 : ∀ w ∈ wsX60, w ∈ wsX7_lyndons := by decide +kernel
set_option maxHeartbeats 4000000 in
set_option maxRecDepth 100000 in
theorem ct_X7_lyndons (l : Launch) (D : va_G) (ad : Nat → Nat) (cI cJ cR : ClassId) (Ln : Nat → Nat) {S : cs_T} {a1 : Int32} {Q : Int32 → cs_T → Prop} (h : wp_X7_lyndons Ln S a1 Q) : xr_I l D (cs_ty cI cJ cR) (cs_w ad cI cR Ln) yX7_lyndons wsX7_lyndons rm_X7_lyndons [.ref (ad 0), .int a1] S Q := by
  refine xr_eI (cc := cX7_lyndons) (nL := 2) (ret := (some .int)) (own := RX7) (by decide) rfl rfl (Nat.le_of_ble_eq_true rfl) ?_
  intro p e s m args below meth c ls A fx hK hA hP hD hS hl
  have hl : lv_has ls 2 [(0, .ref (ad 0)), (1, .int a1)] := hl
  show W p l e rm_X7_lyndons s m args below meth c s.heap [] 0 0 _ _
  obtain ⟨⟨hx, hb, hml, hown, hts⟩, hrt, hlk⟩ := id fx
  have hf : 0 ≤ rm_X7_lyndons.cells ∧ 0 ≤ rm_X7_lyndons.slots := ⟨Nat.zero_le _, Nat.zero_le _⟩
  unfold wp_X7_lyndons at h
  refine lv_iload_n hx hb dX7_lyndons_0 rfl (lv_at hl 1 rfl) ?_
  refine lv_iconst (v := 1) hx hb dX7_lyndons_1 (by decide) ?_
  refine lv_icmp_lt (tgt := 16) hx hb dX7_lyndons_2 (by decide) (fun c2 => ?_) (fun c2 => ?_)
  · have h := h.1 c2
    refine lv_iconst (v := (-1)) hx hb dX7_lyndons_16 (by decide) ?_
    exact xr_rI fx hK hP hD hS h dX7_lyndons_17
  · have h := h.2 c2
    refine lv_iload_n hx hb dX7_lyndons_5 rfl (lv_at hl 1 rfl) ?_
    refine lv_aload_n hx hb dX7_lyndons_6 rfl (lv_at hl 0 rfl) ?_
    refine cs_get 0 6 0 (v := .ref (ad 1)) (ref := "BracketLetters") fx (by decide) rfl rfl in_X7_lyndons_X7 (by decide) rfl (by decide +kernel) rfl hK hP dX7_lyndons_7 ?_
    refine cs_get 1 5 1 (v := .int (S.1 3)) (ref := "BracketLetters$Words") fx (by decide) rfl rfl in_X7_lyndons_X6 (by decide) rfl (by decide +kernel) rfl hK hP dX7_lyndons_10 ?_
    refine lv_icmp_le (tgt := 18) hx hb dX7_lyndons_13 (by decide) (fun c13 => ?_) (fun c13 => ?_)
    · have h := h.1 c13
      refine lv_aload_n hx hb dX7_lyndons_18 rfl (lv_at hl 0 rfl) ?_
      refine cs_get 0 6 3 (v := .ref (ad 3)) (ref := "BracketLetters") fx (by decide) rfl rfl in_X7_lyndons_X7 (by decide) rfl (by decide +kernel) rfl hK hP dX7_lyndons_19 ?_
      refine lv_iload_n hx hb dX7_lyndons_22 rfl (lv_at hl 1 rfl) ?_
      refine xr_vI (n := 1) (As := [.int a1]) (rest := []) fx (ct_X1_ofLength l D ad cI cJ cR Ln h) gX7_lyndons_X1_ofLength rfl rfl (by decide +kernel) ⟨Nat.le_of_ble_eq_true rfl, Nat.le_of_ble_eq_true rfl⟩ ⟨rfl, rfl⟩ hf (cs_recv 3 1 (by decide) rfl rfl hK hP) hK hP hD hS hA hl.1 rfl (Nat.le_of_ble_eq_true rfl) dX7_lyndons_23 (fun r2 S1 H locs h hP hD hS => ?_)
      exact xr_rI fx hK hP hD hS h dX7_lyndons_26
    · have h := h.2 c13
      refine lv_iconst (v := (-1)) hx hb dX7_lyndons_16 (by decide) ?_
      exact xr_rI fx hK hP hD hS h dX7_lyndons_17
abbrev rm_X7_side : Room := { frames := 2, cells := 0, slots := 0, locals := 41 }
theorem in_X7_side_X7 : ∀ w ∈ wsX70, w ∈ wsX7_side := by decide +kernel
theorem in_X7_side_X1 : ∀ w ∈ wsX10, w ∈ wsX7_side := by decide +kernel
set_option maxHeartbeats 4000000 in
set_option maxRecDepth 100000 in
theorem ct_X7_side (l : Launch) (D : va_G) (ad : Nat → Nat) (cI cJ cR : ClassId) (Ln : Nat → Nat) {S : cs_T} {a1 : Int32} {a2 : Int32} {Q : Int32 → cs_T → Prop} (h : wp_X7_side Ln S a1 a2 Q) : xr_I l D (cs_ty cI cJ cR) (cs_w ad cI cR Ln) yX7_side wsX7_side rm_X7_side [.ref (ad 0), .int a1, .int a2] S Q := by
  refine xr_eI (cc := cX7_side) (nL := 3) (ret := (some .int)) (own := RX7) (by decide) rfl rfl (Nat.le_of_ble_eq_true rfl) ?_
  intro p e s m args below meth c ls A fx hK hA hP hD hS hl
  have hl : lv_has ls 3 [(0, .ref (ad 0)), (1, .int a1), (2, .int a2)] := hl
  show W p l e rm_X7_side s m args below meth c s.heap [] 0 0 _ _
  obtain ⟨⟨hx, hb, hml, hown, hts⟩, hrt, hlk⟩ := id fx
  have hf : 0 ≤ rm_X7_side.cells ∧ 0 ≤ rm_X7_side.slots := ⟨Nat.zero_le _, Nat.zero_le _⟩
  unfold wp_X7_side at h
  refine lv_aload_n hx hb dX7_side_0 rfl (lv_at hl 0 rfl) ?_
  refine lv_iload_n hx hb dX7_side_1 rfl (lv_at hl 1 rfl) ?_
  refine xr_vI (n := 1) (As := [.int a1]) (rest := []) fx (ct_X7_noChief l D ad cI cJ cR Ln h) gX7_side_X7_noChief rfl rfl (by decide +kernel) ⟨Nat.le_of_ble_eq_true rfl, Nat.le_of_ble_eq_true rfl⟩ ⟨rfl, rfl⟩ hf (cs_recv 0 6 (by decide) rfl rfl hK hP) hK hP hD hS hA hl.1 rfl (Nat.le_of_ble_eq_true rfl) dX7_side_2 (fun r2 S1 H locs h hP hD hS => ?_)
  refine lv_if_ne (tgt := 17) hx hb dX7_side_5 (by decide) (fun c5 => ?_) (fun c5 => ?_)
  · have h := h.1 c5
    refine lv_iconst (v := (-1)) hx hb dX7_side_17 (by decide) ?_
    exact xr_rI fx hK hP hD hS h dX7_side_18
  · have h := h.2 c5
    refine lv_iload_n hx hb dX7_side_8 rfl (lv_at hl 2 rfl) ?_
    refine lv_if_lt (tgt := 17) hx hb dX7_side_9 (by decide) (fun c9 => ?_) (fun c9 => ?_)
    · have h := h.1 c9
      refine lv_iconst (v := (-1)) hx hb dX7_side_17 (by decide) ?_
      exact xr_rI fx hK hP hD hS h dX7_side_18
    · have h := h.2 c9
      refine lv_iload_n hx hb dX7_side_12 rfl (lv_at hl 2 rfl) ?_
      refine lv_iconst (v := 1) hx hb dX7_side_13 (by decide) ?_
      refine lv_icmp_le (tgt := 19) hx hb dX7_side_14 (by decide) (fun c14 => ?_) (fun c14 => ?_)
      · have h := h.1 c14
        refine lv_iload_n hx hb dX7_side_19 rfl (lv_at hl 2 rfl) ?_
        refine lv_if_ne (tgt := 35) hx hb dX7_side_20 (by decide) (fun c20 => ?_) (fun c20 => ?_)
        · have h := h.1 c20
          refine lv_aload_n hx hb dX7_side_35 rfl (lv_at hl 0 rfl) ?_
          refine cs_get 0 6 3 (v := .ref (ad 3)) (ref := "BracketLetters") fx (by decide) rfl rfl in_X7_side_X7 (by decide) rfl (by decide +kernel) rfl hK hP dX7_side_36 ?_
          refine cs_get 3 1 2 (v := .ref (ad (9 + 35))) (ref := "BracketLetters$Chiefs") fx (by decide) rfl rfl in_X7_side_X1 (by decide) rfl (by decide +kernel) rfl hK hP dX7_side_39 ?_
          refine lv_iload_n hx hb dX7_side_42 rfl (lv_at hl 1 rfl) ?_
          obtain ⟨hi3, h⟩ := h
          refine cs_iald 35 (by decide) fx hK hP hi3 dX7_side_43 ?_
          exact xr_rI fx hK hP hD hS h dX7_side_44
        · have h := h.2 c20
          refine lv_aload_n hx hb dX7_side_23 rfl (lv_at hl 0 rfl) ?_
          refine cs_get 0 6 3 (v := .ref (ad 3)) (ref := "BracketLetters") fx (by decide) rfl rfl in_X7_side_X7 (by decide) rfl (by decide +kernel) rfl hK hP dX7_side_24 ?_
          refine cs_get 3 1 1 (v := .ref (ad (9 + 34))) (ref := "BracketLetters$Chiefs") fx (by decide) rfl rfl in_X7_side_X1 (by decide) rfl (by decide +kernel) rfl hK hP dX7_side_27 ?_
          refine lv_iload_n hx hb dX7_side_30 rfl (lv_at hl 1 rfl) ?_
          obtain ⟨hi4, h⟩ := h
          refine cs_iald 34 (by decide) fx hK hP hi4 dX7_side_31 ?_
          refine lv_goto (tgt := 44) hx hb dX7_side_32 (by decide) ?_
          exact xr_rI fx hK hP hD hS h dX7_side_44
      · have h := h.2 c14
        refine lv_iconst (v := (-1)) hx hb dX7_side_17 (by decide) ?_
        exact xr_rI fx hK hP hD hS h dX7_side_18
abbrev rm_X1_weave (d : Nat) : Room := { frames := 3 * d, cells := 0, slots := 0, locals := 93 * d }
theorem in_X1_weave_X1 : ∀ w ∈ wsX10, w ∈ wsX1_weave := by decide +kernel
set_option maxHeartbeats 4000000 in
set_option maxRecDepth 100000 in
theorem kw_X1_weave_36 {p : Program} {l : Launch} {e : Env} {s : State} {m : MethodId} {args : Array Value} {below : List Frame} {meth : Method} {c : Code} {D : va_G} {ad : Nat → Nat} {cI cJ cR : ClassId} {Ln : Nat → Nat} {A : Nat → Prop} {R : cs_T → Int32 → Int32 → (cs_T → Prop) → Prop} {d : Nat}  {Q : cs_T → Prop} {S : cs_T} {v1 : Int32} {v3 : Nat} (fx : xr_Fx p m c meth cX1_weave 4 s args wsX1_weave RX1 none) (hK : xr_K D (cs_ty cI cJ cR) s) (hA : ∀ q, s.heap.size ≤ q → A q) (hR : ∀ (S : cs_T) (b0 : Int32) (b1 : Int32) (Q : cs_T → Prop), R S b0 b1 Q → xr_V l D (cs_ty cI cJ cR) (cs_w ad cI cR Ln) yX1_weave wsX1_weave (rm_X1_weave d) [.ref (ad 3), .int b0, .int b1] S Q)  {H : Heap} {locs : List Loc} {ls : Array Slot} (hP : va_P D vwCl (cs_w ad cI cR Ln S) H) (hD : va_D A (cs_w ad cI cR Ln S)) (hS : va_S A s.heap H locs) (hl : lv_has ls 4 [(0, .ref (ad 3)), (1, .int v1), (3, .ref (ad (9 + v3)))]) (h : wp_X1_weave_36 R Ln Q S v1 v3) : W p l e (rm_X1_weave (d + 1)) s m args below meth c H locs 0 0 (MQ below (va_Qv Q (xr_B D (cs_ty cI cJ cR) (cs_w ad cI cR Ln) A) A) args s 0 0 A) (F0 m 36 ls []) := by
  obtain ⟨⟨hx, hb, hml, hown, hts⟩, hrt, hlk⟩ := id fx
  have hf : 0 ≤ (rm_X1_weave (d + 1)).cells ∧ 0 ≤ (rm_X1_weave (d + 1)).slots := ⟨Nat.zero_le _, Nat.zero_le _⟩
  unfold wp_X1_weave_36 at h
  refine lv_aload_n hx hb dX1_weave_36 rfl (lv_at hl 2 rfl) ?_
  refine lv_iconst (v := 0) hx hb dX1_weave_37 (by decide) ?_
  refine xr_wV (n := 2) (As := [.ref (ad (9 + v3)), .int 0]) (rest := []) fx (ct_J7_fill_53178 l D ad cI cJ cR Ln h) gX1_weave_J7_fill_53178 rfl rfl (by decide +kernel) (by constructor <;> simp [rm_X1_weave, rm_J7_fill_53178] <;> omega) ⟨rfl, rfl⟩ hf hK hP hD hS hA hl.1 rfl (Nat.le_of_ble_eq_true rfl) dX1_weave_38 (fun S1 H locs h hP hD hS => ?_)
  refine lv_aload_n hx hb dX1_weave_41 rfl (lv_at hl 2 rfl) ?_
  refine lv_aload_n hx hb dX1_weave_42 rfl (lv_at hl 0 rfl) ?_
  refine cs_get 3 1 0 (v := .ref (ad (9 + 33))) (ref := "BracketLetters$Chiefs") fx (by decide) rfl rfl in_X1_weave_X1 (by decide) rfl (by decide +kernel) rfl hK hP dX1_weave_43 ?_
  refine lv_iload_n hx hb dX1_weave_46 rfl (lv_at hl 1 rfl) ?_
  obtain ⟨hi2, h⟩ := h
  refine cs_iald 33 (by decide) fx hK hP hi2 dX1_weave_47 ?_
  refine lv_iconst (v := 1) hx hb dX1_weave_48 (by decide) ?_
  obtain ⟨hk4, h⟩ := h
  obtain ⟨hi3, h⟩ := h
  refine cs_iast v3 hk4 fx hK hP hD hS hi3 dX1_weave_49 (fun H locs hP hD hS => ?_)
  exact xr_rV fx hK hP hD hS h dX1_weave_50
set_option maxHeartbeats 4000000 in
set_option maxRecDepth 100000 in
theorem cq_X1_weave (l : Launch) (D : va_G) (ad : Nat → Nat) (cI cJ cR : ClassId) (Ln : Nat → Nat) (d : Nat) {R : cs_T → Int32 → Int32 → (cs_T → Prop) → Prop} (hR : ∀ (S : cs_T) (b0 : Int32) (b1 : Int32) (Q : cs_T → Prop), R S b0 b1 Q → xr_V l D (cs_ty cI cJ cR) (cs_w ad cI cR Ln) yX1_weave wsX1_weave (rm_X1_weave d) [.ref (ad 3), .int b0, .int b1] S Q) {S : cs_T} {a1 : Int32} {a2 : Int32} {Q : cs_T → Prop} (h : wq_X1_weave R Ln S a1 a2 Q) : xr_V l D (cs_ty cI cJ cR) (cs_w ad cI cR Ln) yX1_weave wsX1_weave (rm_X1_weave (d + 1)) [.ref (ad 3), .int a1, .int a2] S Q := by
  refine xr_eV (cc := cX1_weave) (nL := 4) (ret := none) (own := RX1) (by decide) rfl rfl (Nat.le_of_ble_eq_true rfl) ?_
  intro p e s m args below meth c ls A fx hK hA hP hD hS hl
  have hl : lv_has ls 4 [(0, .ref (ad 3)), (1, .int a1), (2, .int a2)] := hl
  show W p l e (rm_X1_weave (d + 1)) s m args below meth c s.heap [] 0 0 _ _
  obtain ⟨⟨hx, hb, hml, hown, hts⟩, hrt, hlk⟩ := id fx
  have hf : 0 ≤ (rm_X1_weave (d + 1)).cells ∧ 0 ≤ (rm_X1_weave (d + 1)).slots := ⟨Nat.zero_le _, Nat.zero_le _⟩
  unfold wq_X1_weave at h
  refine lv_aload_n hx hb dX1_weave_0 rfl (lv_at hl 0 rfl) ?_
  refine cs_get 3 1 6 (v := .ref (ad 8)) (ref := "BracketLetters$Chiefs") fx (by decide) rfl rfl in_X1_weave_X1 (by decide) rfl (by decide +kernel) rfl hK hP dX1_weave_1 ?_
  refine lv_iload_n hx hb dX1_weave_4 rfl (lv_at hl 2 rfl) ?_
  obtain ⟨hi5, h⟩ := h
  refine cs_aald 8 18 15 fx (by decide) rfl hK hP hi5 dX1_weave_5 ?_
  refine lv_astore_n (lv' := [(3, .ref (ad (9 + (15 + a2.toNatClampNeg)))), (0, .ref (ad 3)), (1, .int a1), (2, .int a2)]) hx hb dX1_weave_6 rfl hl (by decide) rfl (fun ls hl => ?_)
  refine lv_aload_n hx hb dX1_weave_7 rfl (lv_at hl 1 rfl) ?_
  refine cs_get 3 1 1 (v := .ref (ad (9 + 34))) (ref := "BracketLetters$Chiefs") fx (by decide) rfl rfl in_X1_weave_X1 (by decide) rfl (by decide +kernel) rfl hK hP dX1_weave_8 ?_
  refine lv_iload_n hx hb dX1_weave_11 rfl (lv_at hl 2 rfl) ?_
  obtain ⟨hi6, h⟩ := h
  refine cs_iald 34 (by decide) fx hK hP hi6 dX1_weave_12 ?_
  refine lv_if_lt (tgt := 36) hx hb dX1_weave_13 (by decide) (fun c13 => ?_) (fun c13 => ?_)
  · have h := h.1 c13
    exact kw_X1_weave_36 fx hK hA hR hP hD hS (lv_sub hl [1, 2, 0] rfl) h
  · have h := h.2 c13
    refine lv_aload_n hx hb dX1_weave_16 rfl (lv_at hl 1 rfl) ?_
    refine cs_get 3 1 2 (v := .ref (ad (9 + 35))) (ref := "BracketLetters$Chiefs") fx (by decide) rfl rfl in_X1_weave_X1 (by decide) rfl (by decide +kernel) rfl hK hP dX1_weave_17 ?_
    refine lv_iload_n hx hb dX1_weave_20 rfl (lv_at hl 2 rfl) ?_
    obtain ⟨hi7, h⟩ := h
    refine cs_iald 35 (by decide) fx hK hP hi7 dX1_weave_21 ?_
    refine lv_if_lt (tgt := 36) hx hb dX1_weave_22 (by decide) (fun c22 => ?_) (fun c22 => ?_)
    · have h := h.1 c22
      exact kw_X1_weave_36 fx hK hA hR hP hD hS (lv_sub hl [1, 2, 0] rfl) h
    · have h := h.2 c22
      refine lv_iload_n hx hb dX1_weave_25 rfl (lv_at hl 3 rfl) ?_
      refine lv_iconst (v := 1) hx hb dX1_weave_26 (by decide) ?_
      refine lv_iadd hx hb dX1_weave_27 ?_
      refine lv_aload_n hx hb dX1_weave_28 rfl (lv_at hl 1 rfl) ?_
      refine cs_get 3 1 6 (v := .ref (ad 8)) (ref := "BracketLetters$Chiefs") fx (by decide) rfl rfl in_X1_weave_X1 (by decide) rfl (by decide +kernel) rfl hK hP dX1_weave_29 ?_
      refine cs_glen 8 18 15 fx (by decide) rfl hK hP dX1_weave_32 ?_
      refine lv_icmp_lt (tgt := 51) hx hb dX1_weave_33 (by decide) (fun c33 => ?_) (fun c33 => ?_)
      · have h := h.1 c33
        refine lv_aload_n hx hb dX1_weave_51 rfl (lv_at hl 1 rfl) ?_
        refine lv_aload_n hx hb dX1_weave_52 rfl (lv_at hl 1 rfl) ?_
        refine cs_get 3 1 1 (v := .ref (ad (9 + 34))) (ref := "BracketLetters$Chiefs") fx (by decide) rfl rfl in_X1_weave_X1 (by decide) rfl (by decide +kernel) rfl hK hP dX1_weave_53 ?_
        refine lv_iload_n hx hb dX1_weave_56 rfl (lv_at hl 2 rfl) ?_
        obtain ⟨hi8, h⟩ := h
        refine cs_iald 34 (by decide) fx hK hP hi8 dX1_weave_57 ?_
        refine lv_iload_n hx hb dX1_weave_58 rfl (lv_at hl 3 rfl) ?_
        refine xr_vV (n := 2) (As := [.int (S.2.1 34 a1.toNatClampNeg), .int a2]) (rest := []) fx (hR _ _ _ _ h) gX1_weave_X1_weave rfl rfl (by decide +kernel) (by constructor <;> simp [rm_X1_weave, rm_X1_weave] <;> omega) ⟨rfl, rfl⟩ hf (cs_recv 3 1 (by decide) rfl rfl hK hP) hK hP hD hS hA hl.1 rfl (Nat.le_of_ble_eq_true rfl) dX1_weave_59 (fun S9 H locs h hP hD hS => ?_)
        refine lv_aload_n hx hb dX1_weave_62 rfl (lv_at hl 1 rfl) ?_
        refine lv_aload_n hx hb dX1_weave_63 rfl (lv_at hl 1 rfl) ?_
        refine cs_get 3 1 2 (v := .ref (ad (9 + 35))) (ref := "BracketLetters$Chiefs") fx (by decide) rfl rfl in_X1_weave_X1 (by decide) rfl (by decide +kernel) rfl hK hP dX1_weave_64 ?_
        refine lv_iload_n hx hb dX1_weave_67 rfl (lv_at hl 2 rfl) ?_
        obtain ⟨hi10, h⟩ := h
        refine cs_iald 35 (by decide) fx hK hP hi10 dX1_weave_68 ?_
        refine lv_iload_n hx hb dX1_weave_69 rfl (lv_at hl 3 rfl) ?_
        refine lv_iconst (v := 1) hx hb dX1_weave_70 (by decide) ?_
        refine lv_iadd hx hb dX1_weave_71 ?_
        refine xr_vV (n := 2) (As := [.int (S9.2.1 35 a1.toNatClampNeg), .int (a2 + 1)]) (rest := []) fx (hR _ _ _ _ h) gX1_weave_X1_weave rfl rfl (by decide +kernel) (by constructor <;> simp [rm_X1_weave, rm_X1_weave] <;> omega) ⟨rfl, rfl⟩ hf (cs_recv 3 1 (by decide) rfl rfl hK hP) hK hP hD hS hA hl.1 rfl (Nat.le_of_ble_eq_true rfl) dX1_weave_72 (fun S11 H locs h hP hD hS => ?_)
        refine lv_aload_n hx hb dX1_weave_75 rfl (lv_at hl 1 rfl) ?_
        refine cs_get 3 1 5 (v := .ref (ad 2)) (ref := "BracketLetters$Chiefs") fx (by decide) rfl rfl in_X1_weave_X1 (by decide) rfl (by decide +kernel) rfl hK hP dX1_weave_76 ?_
        refine lv_aload_n hx hb dX1_weave_79 rfl (lv_at hl 0 rfl) ?_
        refine lv_aload_n hx hb dX1_weave_80 rfl (lv_at hl 0 rfl) ?_
        refine lv_aload_n hx hb dX1_weave_81 rfl (lv_at hl 1 rfl) ?_
        refine cs_get 3 1 6 (v := .ref (ad 8)) (ref := "BracketLetters$Chiefs") fx (by decide) rfl rfl in_X1_weave_X1 (by decide) rfl (by decide +kernel) rfl hK hP dX1_weave_82 ?_
        refine lv_iload_n hx hb dX1_weave_85 rfl (lv_at hl 3 rfl) ?_
        refine lv_iconst (v := 1) hx hb dX1_weave_86 (by decide) ?_
        refine lv_iadd hx hb dX1_weave_87 ?_
        obtain ⟨hi12, h⟩ := h
        refine cs_aald 8 18 15 fx (by decide) rfl hK hP hi12 dX1_weave_88 ?_
        refine xr_vV (n := 3) (As := [.ref (ad (9 + (15 + a2.toNatClampNeg))), .ref (ad (9 + (15 + a2.toNatClampNeg))), .ref (ad (9 + (15 + (a2 + 1).toNatClampNeg)))]) (rest := []) fx (ct_X0_commute l D ad cI cJ cR Ln h) gX1_weave_X0_commute rfl rfl (by decide +kernel) (by constructor <;> simp [rm_X1_weave, rm_X0_commute] <;> omega) ⟨rfl, rfl⟩ hf (cs_recv 2 0 (by decide) rfl rfl hK hP) hK hP hD hS hA hl.1 rfl (Nat.le_of_ble_eq_true rfl) dX1_weave_89 (fun S13 H locs h hP hD hS => ?_)
        exact xr_rV fx hK hP hD hS h dX1_weave_92
      · have h := h.2 c33
        exact kw_X1_weave_36 fx hK hA hR hP hD hS (lv_sub hl [1, 2, 0] rfl) h
theorem ct_X1_weave (l : Launch) (D : va_G) (ad : Nat → Nat) (cI cJ cR : ClassId) (Ln : Nat → Nat) : ∀ (d : Nat) (S : cs_T) (a1 : Int32) (a2 : Int32) (Q : cs_T → Prop), wp_X1_weave Ln d S a1 a2 Q → xr_V l D (cs_ty cI cJ cR) (cs_w ad cI cR Ln) yX1_weave wsX1_weave (rm_X1_weave d) [.ref (ad 3), .int a1, .int a2] S Q := by
  intro d
  induction d with
  | zero => intro S a1 a2 Q h; exact False.elim h
  | succ d ih => intro S a1 a2 Q h; exact cq_X1_weave l D ad cI cJ cR Ln d ih h
abbrev rm_X7_basis : Room := { frames := 25, cells := 0, slots := 0, locals := 767 }
theorem in_X7_basis_X7 : ∀ w ∈ wsX70, w ∈ wsX7_basis := by decide +kernel
theorem in_X7_basis_X0 : ∀ w ∈ wsX00, w ∈ wsX7_basis := by decide +kernel
set_option maxHeartbeats 4000000 in
set_option maxRecDepth 100000 in
theorem ct_X7_basis (l : Launch) (D : va_G) (ad : Nat → Nat) (cI cJ cR : ClassId) (Ln : Nat → Nat) {S : cs_T} {a1 : Int32} {a2 : Int32} {Q : Int32 → cs_T → Prop} (h : wp_X7_basis Ln S a1 a2 Q) : xr_I l D (cs_ty cI cJ cR) (cs_w ad cI cR Ln) yX7_basis wsX7_basis rm_X7_basis [.ref (ad 0), .int a1, .int a2] S Q := by
  refine xr_eI (cc := cX7_basis) (nL := 3) (ret := (some .int)) (own := RX7) (by decide) rfl rfl (Nat.le_of_ble_eq_true rfl) ?_
  intro p e s m args below meth c ls A fx hK hA hP hD hS hl
  have hl : lv_has ls 3 [(0, .ref (ad 0)), (1, .int a1), (2, .int a2)] := hl
  show W p l e rm_X7_basis s m args below meth c s.heap [] 0 0 _ _
  obtain ⟨⟨hx, hb, hml, hown, hts⟩, hrt, hlk⟩ := id fx
  have hf : 0 ≤ rm_X7_basis.cells ∧ 0 ≤ rm_X7_basis.slots := ⟨Nat.zero_le _, Nat.zero_le _⟩
  unfold wp_X7_basis at h
  refine lv_iload_n hx hb dX7_basis_0 rfl (lv_at hl 1 rfl) ?_
  refine xr_sI (n := 1) (As := [.int a1]) (rest := []) fx (ct_X7_noSum l h) gX7_basis_X7_noSum rfl rfl (by decide +kernel) ⟨Nat.le_of_ble_eq_true rfl, Nat.le_of_ble_eq_true rfl⟩ ⟨rfl, rfl⟩ hf hl.1 rfl (Nat.le_of_ble_eq_true rfl) dX7_basis_1 (fun r1 h => ?_)
  refine lv_if_ne (tgt := 15) hx hb dX7_basis_4 (by decide) (fun c4 => ?_) (fun c4 => ?_)
  · have h := h.1 c4
    refine lv_iconst (v := (-1)) hx hb dX7_basis_15 (by decide) ?_
    exact xr_rI fx hK hP hD hS h dX7_basis_16
  · have h := h.2 c4
    refine lv_aload_n hx hb dX7_basis_7 rfl (lv_at hl 0 rfl) ?_
    refine lv_iload_n hx hb dX7_basis_8 rfl (lv_at hl 2 rfl) ?_
    refine xr_vI (n := 1) (As := [.int a2]) (rest := []) fx (ct_X7_noChief l D ad cI cJ cR Ln h) gX7_basis_X7_noChief rfl rfl (by decide +kernel) ⟨Nat.le_of_ble_eq_true rfl, Nat.le_of_ble_eq_true rfl⟩ ⟨rfl, rfl⟩ hf (cs_recv 0 6 (by decide) rfl rfl hK hP) hK hP hD hS hA hl.1 rfl (Nat.le_of_ble_eq_true rfl) dX7_basis_9 (fun r3 S2 H locs h hP hD hS => ?_)
    refine lv_if_eq (tgt := 17) hx hb dX7_basis_12 (by decide) (fun c12 => ?_) (fun c12 => ?_)
    · have h := h.1 c12
      refine lv_aload_n hx hb dX7_basis_17 rfl (lv_at hl 0 rfl) ?_
      refine cs_get 0 6 3 (v := .ref (ad 3)) (ref := "BracketLetters") fx (by decide) rfl rfl in_X7_basis_X7 (by decide) rfl (by decide +kernel) rfl hK hP dX7_basis_18 ?_
      refine lv_iload_n hx hb dX7_basis_21 rfl (lv_at hl 2 rfl) ?_
      refine lv_iconst (v := 0) hx hb dX7_basis_22 (by decide) ?_
      refine xr_vV (n := 2) (As := [.int a2, .int 0]) (rest := []) fx (ct_X1_weave l D ad cI cJ cR Ln 8 _ _ _ _ h) gX7_basis_X1_weave rfl rfl (by decide +kernel) ⟨Nat.le_of_ble_eq_true rfl, Nat.le_of_ble_eq_true rfl⟩ ⟨rfl, rfl⟩ hf (cs_recv 3 1 (by decide) rfl rfl hK hP) hK hP hD hS hA hl.1 rfl (Nat.le_of_ble_eq_true rfl) dX7_basis_23 (fun S4 H locs h hP hD hS => ?_)
      refine lv_aload_n hx hb dX7_basis_26 rfl (lv_at hl 0 rfl) ?_
      refine cs_get 0 6 2 (v := .ref (ad 2)) (ref := "BracketLetters") fx (by decide) rfl rfl in_X7_basis_X7 (by decide) rfl (by decide +kernel) rfl hK hP dX7_basis_27 ?_
      refine lv_aload_n hx hb dX7_basis_30 rfl (lv_at hl 0 rfl) ?_
      refine cs_get 0 6 1 (v := .ref (ad 7)) (ref := "BracketLetters") fx (by decide) rfl rfl in_X7_basis_X7 (by decide) rfl (by decide +kernel) rfl hK hP dX7_basis_31 ?_
      refine lv_iload_n hx hb dX7_basis_34 rfl (lv_at hl 1 rfl) ?_
      obtain ⟨hi5, h⟩ := h
      refine cs_aald 7 8 7 fx (by decide) rfl hK hP hi5 dX7_basis_35 ?_
      refine lv_aload_n hx hb dX7_basis_36 rfl (lv_at hl 0 rfl) ?_
      refine cs_get 0 6 2 (v := .ref (ad 2)) (ref := "BracketLetters") fx (by decide) rfl rfl in_X7_basis_X7 (by decide) rfl (by decide +kernel) rfl hK hP dX7_basis_37 ?_
      refine cs_get 2 0 0 (v := .ref (ad 8)) (ref := "BracketLetters$Algebra") fx (by decide) rfl rfl in_X7_basis_X0 (by decide) rfl (by decide +kernel) rfl hK hP dX7_basis_40 ?_
      refine lv_iconst (v := 0) hx hb dX7_basis_43 (by decide) ?_
      obtain ⟨hi6, h⟩ := h
      refine cs_aald 8 18 15 fx (by decide) rfl hK hP hi6 dX7_basis_44 ?_
      refine xr_vV (n := 2) (As := [.ref (ad (9 + (7 + a1.toNatClampNeg))), .ref (ad (9 + (15 + ((0 : Int32)).toNatClampNeg)))]) (rest := []) fx (ct_X0_copy l D ad cI cJ cR Ln h) gX7_basis_X0_copy rfl rfl (by decide +kernel) ⟨Nat.le_of_ble_eq_true rfl, Nat.le_of_ble_eq_true rfl⟩ ⟨rfl, rfl⟩ hf (cs_recv 2 0 (by decide) rfl rfl hK hP) hK hP hD hS hA hl.1 rfl (Nat.le_of_ble_eq_true rfl) dX7_basis_45 (fun S7 H locs h hP hD hS => ?_)
      refine lv_iconst (v := 0) hx hb dX7_basis_48 (by decide) ?_
      exact xr_rI fx hK hP hD hS h dX7_basis_49
    · have h := h.2 c12
      refine lv_iconst (v := (-1)) hx hb dX7_basis_15 (by decide) ?_
      exact xr_rI fx hK hP hD hS h dX7_basis_16
abbrev rm_X1_writtenLength : Room := { frames := 1, cells := 0, slots := 0, locals := 23 }
theorem in_X1_writtenLength_X1 : ∀ w ∈ wsX10, w ∈ wsX1_writtenLength := by decide +kernel
set_option maxHeartbeats 4000000 in
set_option maxRecDepth 100000 in
theorem ct_X1_writtenLength (l : Launch) (D : va_G) (ad : Nat → Nat) (cI cJ cR : ClassId) (Ln : Nat → Nat) {S : cs_T} {a1 : Int32} {Q : Int32 → cs_T → Prop} (h : wp_X1_writtenLength Ln S a1 Q) : xr_I l D (cs_ty cI cJ cR) (cs_w ad cI cR Ln) yX1_writtenLength wsX1_writtenLength rm_X1_writtenLength [.ref (ad 3), .int a1] S Q := by
  refine xr_eI (cc := cX1_writtenLength) (nL := 2) (ret := (some .int)) (own := RX1) (by decide) rfl rfl (Nat.le_of_ble_eq_true rfl) ?_
  intro p e s m args below meth c ls A fx hK hA hP hD hS hl
  have hl : lv_has ls 2 [(0, .ref (ad 3)), (1, .int a1)] := hl
  show W p l e rm_X1_writtenLength s m args below meth c s.heap [] 0 0 _ _
  obtain ⟨⟨hx, hb, hml, hown, hts⟩, hrt, hlk⟩ := id fx
  have hf : 0 ≤ rm_X1_writtenLength.cells ∧ 0 ≤ rm_X1_writtenLength.slots := ⟨Nat.zero_le _, Nat.zero_le _⟩
  unfold wp_X1_writtenLength at h
  refine lv_iconst (v := 4) hx hb dX1_writtenLength_0 (by decide) ?_
  refine lv_aload_n hx hb dX1_writtenLength_1 rfl (lv_at hl 0 rfl) ?_
  refine cs_get 3 1 4 (v := .ref (ad 1)) (ref := "BracketLetters$Chiefs") fx (by decide) rfl rfl in_X1_writtenLength_X1 (by decide) rfl (by decide +kernel) rfl hK hP dX1_writtenLength_2 ?_
  refine lv_aload_n hx hb dX1_writtenLength_5 rfl (lv_at hl 0 rfl) ?_
  refine cs_get 3 1 0 (v := .ref (ad (9 + 33))) (ref := "BracketLetters$Chiefs") fx (by decide) rfl rfl in_X1_writtenLength_X1 (by decide) rfl (by decide +kernel) rfl hK hP dX1_writtenLength_6 ?_
  refine lv_iload_n hx hb dX1_writtenLength_9 rfl (lv_at hl 1 rfl) ?_
  obtain ⟨hi1, h⟩ := h
  refine cs_iald 33 (by decide) fx hK hP hi1 dX1_writtenLength_10 ?_
  refine xr_vI (n := 1) (As := [.int (S.2.1 33 a1.toNatClampNeg)]) (rest := [.int 4]) fx (ct_X6_lengthOf l D ad cI cJ cR Ln h) gX1_writtenLength_X6_lengthOf rfl rfl (by decide +kernel) ⟨Nat.le_of_ble_eq_true rfl, Nat.le_of_ble_eq_true rfl⟩ ⟨rfl, rfl⟩ hf (cs_recv 1 5 (by decide) rfl rfl hK hP) hK hP hD hS hA hl.1 rfl (Nat.le_of_ble_eq_true rfl) dX1_writtenLength_11 (fun r3 S2 H locs h hP hD hS => ?_)
  refine lv_imul hx hb dX1_writtenLength_14 ?_
  refine lv_iconst (v := 3) hx hb dX1_writtenLength_15 (by decide) ?_
  refine lv_isub hx hb dX1_writtenLength_16 ?_
  exact xr_rI fx hK hP hD hS h dX1_writtenLength_17
abbrev rm_X1_written : Room := { frames := 2, cells := 0, slots := 0, locals := 44 }
theorem in_X1_written_X1 : ∀ w ∈ wsX10, w ∈ wsX1_written := by decide +kernel
theorem in_X1_written_X6 : ∀ w ∈ wsX60, w ∈ wsX1_written := by decide +kernel
set_option maxHeartbeats 4000000 in
set_option maxRecDepth 100000 in
theorem kw_X1_written_148 {p : Program} {l : Launch} {e : Env} {s : State} {m : MethodId} {args : Array Value} {below : List Frame} {meth : Method} {c : Code} {D : va_G} {ad : Nat → Nat} {cI cJ cR : ClassId} {Ln : Nat → Nat} {A : Nat → Prop} {K8 : cs_T → Int32 → Int32 → Int32 → Prop} {Q : Int32 → cs_T → Prop} {S : cs_T} {v3 : Int32} {v5 : Int32} {s0 : Int32} {s1 : Int32} (fx : xr_Fx p m c meth cX1_written 8 s args wsX1_written RX1 (some .int)) (hK : xr_K D (cs_ty cI cJ cR) s) (hA : ∀ q, s.heap.size ≤ q → A q)  (k8 : ∀ (S : cs_T) (v3 : Int32) (v4 : Int32) (v5 : Int32) {H : Heap} {locs : List Loc} {ls : Array Slot}, va_P D vwCl (cs_w ad cI cR Ln S) H → va_D A (cs_w ad cI cR Ln S) → va_S A s.heap H locs → lv_has ls 8 [(0, .ref (ad 3)), (3, .int v3), (4, .int v4), (5, .int v5)] → K8 S v3 v4 v5 → W p l e rm_X1_written s m args below meth c H locs 0 0 (MQ below (va_Qi Q (xr_B D (cs_ty cI cJ cR) (cs_w ad cI cR Ln) A) A) args s 0 0 A) (F0 m 8 ls [])) {H : Heap} {locs : List Loc} {ls : Array Slot} (hP : va_P D vwCl (cs_w ad cI cR Ln S) H) (hD : va_D A (cs_w ad cI cR Ln S)) (hS : va_S A s.heap H locs) (hl : lv_has ls 8 [(0, .ref (ad 3)), (3, .int v3), (5, .int v5)]) (h : wp_X1_written_148 Ln K8 Q S v3 v5 s0 s1) : W p l e rm_X1_written s m args below meth c H locs 0 0 (MQ below (va_Qi Q (xr_B D (cs_ty cI cJ cR) (cs_w ad cI cR Ln) A) A) args s 0 0 A) (F0 m 148 ls [.int s1, .int s0]) := by
  obtain ⟨⟨hx, hb, hml, hown, hts⟩, hrt, hlk⟩ := id fx
  have hf : 0 ≤ rm_X1_written.cells ∧ 0 ≤ rm_X1_written.slots := ⟨Nat.zero_le _, Nat.zero_le _⟩
  unfold wp_X1_written_148 at h
  refine lv_isub hx hb dX1_written_148 ?_
  refine lv_topi (fun v4_1 ev4_1 => ?_)
  have h := h v4_1 ev4_1
  refine lv_istore (lv' := [(4, .int v4_1), (0, .ref (ad 3)), (3, .int v3), (5, .int v5)]) hx hb dX1_written_149 hl (by decide) rfl (fun ls hl => ?_)
  obtain ⟨v5_2, ev5_2⟩ : ∃ z : Int32, z = v5 + 1 := ⟨_, rfl⟩
  have h := h v5_2 ev5_2
  refine lv_iinc (v := v5_2) (lv' := [(5, .int v5_2), (4, .int v4_1), (0, .ref (ad 3)), (3, .int v3)]) hx hb dX1_written_151 hl (k := 3) rfl (by rw [ev5_2]; rfl) (by decide) rfl (fun ls hl => ?_)
  refine lv_goto (tgt := 8) hx hb dX1_written_154 (by decide) ?_
  exact k8 _ _ _ _ hP hD hS (lv_sub hl [2, 3, 1, 0] rfl) h
set_option maxHeartbeats 4000000 in
set_option maxRecDepth 100000 in
theorem kw_X1_written_130 {p : Program} {l : Launch} {e : Env} {s : State} {m : MethodId} {args : Array Value} {below : List Frame} {meth : Method} {c : Code} {D : va_G} {ad : Nat → Nat} {cI cJ cR : ClassId} {Ln : Nat → Nat} {A : Nat → Prop} {K8 : cs_T → Int32 → Int32 → Int32 → Prop} {Q : Int32 → cs_T → Prop} {S : cs_T} {v4 : Int32} {v5 : Int32} {v7 : Int32} {s0 : Int32} (fx : xr_Fx p m c meth cX1_written 8 s args wsX1_written RX1 (some .int)) (hK : xr_K D (cs_ty cI cJ cR) s) (hA : ∀ q, s.heap.size ≤ q → A q)  (k8 : ∀ (S : cs_T) (v3 : Int32) (v4 : Int32) (v5 : Int32) {H : Heap} {locs : List Loc} {ls : Array Slot}, va_P D vwCl (cs_w ad cI cR Ln S) H → va_D A (cs_w ad cI cR Ln S) → va_S A s.heap H locs → lv_has ls 8 [(0, .ref (ad 3)), (3, .int v3), (4, .int v4), (5, .int v5)] → K8 S v3 v4 v5 → W p l e rm_X1_written s m args below meth c H locs 0 0 (MQ below (va_Qi Q (xr_B D (cs_ty cI cJ cR) (cs_w ad cI cR Ln) A) A) args s 0 0 A) (F0 m 8 ls [])) {H : Heap} {locs : List Loc} {ls : Array Slot} (hP : va_P D vwCl (cs_w ad cI cR Ln S) H) (hD : va_D A (cs_w ad cI cR Ln S)) (hS : va_S A s.heap H locs) (hl : lv_has ls 8 [(0, .ref (ad 3)), (4, .int v4), (5, .int v5), (7, .int v7)]) (h : wp_X1_written_130 Ln K8 Q S v4 v5 v7 s0) : W p l e rm_X1_written s m args below meth c H locs 0 0 (MQ below (va_Qi Q (xr_B D (cs_ty cI cJ cR) (cs_w ad cI cR Ln) A) A) args s 0 0 A) (F0 m 130 ls [.int s0]) := by
  obtain ⟨⟨hx, hb, hml, hown, hts⟩, hrt, hlk⟩ := id fx
  have hf : 0 ≤ rm_X1_written.cells ∧ 0 ≤ rm_X1_written.slots := ⟨Nat.zero_le _, Nat.zero_le _⟩
  unfold wp_X1_written_130 at h
  refine lv_istore_n (lv' := [(3, .int s0), (0, .ref (ad 3)), (4, .int v4), (5, .int v5), (7, .int v7)]) hx hb dX1_written_130 rfl hl (by decide) rfl (fun ls hl => ?_)
  refine lv_iload hx hb dX1_written_131 (lv_at hl 2 rfl) ?_
  refine lv_iload hx hb dX1_written_133 (lv_at hl 2 rfl) ?_
  refine lv_iload hx hb dX1_written_135 (lv_at hl 4 rfl) ?_
  refine lv_icmp_ge (tgt := 144) hx hb dX1_written_137 (by decide) (fun c137 => ?_) (fun c137 => ?_)
  · have h := h.1 c137
    refine lv_iload hx hb dX1_written_144 (lv_at hl 4 rfl) ?_
    refine lv_iconst (v := 1) hx hb dX1_written_146 (by decide) ?_
    refine lv_iadd hx hb dX1_written_147 ?_
    exact kw_X1_written_148 fx hK hA k8 hP hD hS (lv_sub hl [1, 0, 3] rfl) h
  · have h := h.2 c137
    refine lv_iconst (v := 1) hx hb dX1_written_140 (by decide) ?_
    refine lv_goto (tgt := 148) hx hb dX1_written_141 (by decide) ?_
    exact kw_X1_written_148 fx hK hA k8 hP hD hS (lv_sub hl [1, 0, 3] rfl) h
set_option maxHeartbeats 4000000 in
set_option maxRecDepth 100000 in
theorem kb_X1_written_8 {p : Program} {l : Launch} {e : Env} {s : State} {m : MethodId} {args : Array Value} {below : List Frame} {meth : Method} {c : Code} {D : va_G} {ad : Nat → Nat} {cI cJ cR : ClassId} {Ln : Nat → Nat} {A : Nat → Prop}  {K8 : cs_T → Int32 → Int32 → Int32 → Prop} {Q : Int32 → cs_T → Prop} {S : cs_T} {v3 : Int32} {v4 : Int32} {v5 : Int32} (fx : xr_Fx p m c meth cX1_written 8 s args wsX1_written RX1 (some .int)) (hK : xr_K D (cs_ty cI cJ cR) s) (hA : ∀ q, s.heap.size ≤ q → A q)   (k8 : ∀ (S : cs_T) (v3 : Int32) (v4 : Int32) (v5 : Int32) {H : Heap} {locs : List Loc} {ls : Array Slot}, va_P D vwCl (cs_w ad cI cR Ln S) H → va_D A (cs_w ad cI cR Ln S) → va_S A s.heap H locs → lv_has ls 8 [(0, .ref (ad 3)), (3, .int v3), (4, .int v4), (5, .int v5)] → K8 S v3 v4 v5 → W p l e rm_X1_written s m args below meth c H locs 0 0 (MQ below (va_Qi Q (xr_B D (cs_ty cI cJ cR) (cs_w ad cI cR Ln) A) A) args s 0 0 A) (F0 m 8 ls [])) {H : Heap} {locs : List Loc} {ls : Array Slot} (hP : va_P D vwCl (cs_w ad cI cR Ln S) H) (hD : va_D A (cs_w ad cI cR Ln S)) (hS : va_S A s.heap H locs) (hl : lv_has ls 8 [(0, .ref (ad 3)), (3, .int v3), (4, .int v4), (5, .int v5)]) (h : wb_X1_written_8 Ln K8 Q S v3 v4 v5) : W p l e rm_X1_written s m args below meth c H locs 0 0 (MQ below (va_Qi Q (xr_B D (cs_ty cI cJ cR) (cs_w ad cI cR Ln) A) A) args s 0 0 A) (F0 m 8 ls []) := by
  obtain ⟨⟨hx, hb, hml, hown, hts⟩, hrt, hlk⟩ := id fx
  have hf : 0 ≤ rm_X1_written.cells ∧ 0 ≤ rm_X1_written.slots := ⟨Nat.zero_le _, Nat.zero_le _⟩
  unfold wb_X1_written_8 at h
  refine lv_iload hx hb dX1_written_8 (lv_at hl 3 rfl) ?_
  refine lv_aload_n hx hb dX1_written_10 rfl (lv_at hl 0 rfl) ?_
  refine cs_get 3 1 4 (v := .ref (ad 1)) (ref := "BracketLetters$Chiefs") fx (by decide) rfl rfl in_X1_written_X1 (by decide) rfl (by decide +kernel) rfl hK hP dX1_written_11 ?_
  refine cs_get 1 5 1 (v := .int (S.1 3)) (ref := "BracketLetters$Words") fx (by decide) rfl rfl in_X1_written_X6 (by decide) rfl (by decide +kernel) rfl hK hP dX1_written_14 ?_
  refine lv_icmp_gt (tgt := 157) hx hb dX1_written_17 (by decide) (fun c17 => ?_) (fun c17 => ?_)
  · have h := h.1 c17
    refine lv_iconst (v := (-1)) hx hb dX1_written_157 (by decide) ?_
    exact xr_rI fx hK hP hD hS h dX1_written_158
  · have h := h.2 c17
    refine lv_aload_n hx hb dX1_written_20 rfl (lv_at hl 0 rfl) ?_
    refine lv_iload_n hx hb dX1_written_21 rfl (lv_at hl 1 rfl) ?_
    refine xr_vI (n := 1) (As := [.int v3]) (rest := []) fx (ct_X1_writtenLength l D ad cI cJ cR Ln h) gX1_written_X1_writtenLength rfl rfl (by decide +kernel) ⟨Nat.le_of_ble_eq_true rfl, Nat.le_of_ble_eq_true rfl⟩ ⟨rfl, rfl⟩ hf (cs_recv 3 1 (by decide) rfl rfl hK hP) hK hP hD hS hA hl.1 rfl (Nat.le_of_ble_eq_true rfl) dX1_written_22 (fun r4 S3 H locs h hP hD hS => ?_)
    refine lv_istore (lv' := [(6, .int r4), (0, .ref (ad 3)), (3, .int v3), (4, .int v4), (5, .int v5)]) hx hb dX1_written_25 hl (by decide) rfl (fun ls hl => ?_)
    refine lv_iload hx hb dX1_written_27 (lv_at hl 3 rfl) ?_
    refine lv_if_lt (tgt := 39) hx hb dX1_written_29 (by decide) (fun c29 => ?_) (fun c29 => ?_)
    · have h := h.1 c29
      refine lv_iconst (v := (-1)) hx hb dX1_written_39 (by decide) ?_
      exact xr_rI fx hK hP hD hS h dX1_written_40
    · have h := h.2 c29
      refine lv_iload hx hb dX1_written_32 (lv_at hl 3 rfl) ?_
      refine lv_iload hx hb dX1_written_34 (lv_at hl 0 rfl) ?_
      refine lv_icmp_lt (tgt := 41) hx hb dX1_written_36 (by decide) (fun c36 => ?_) (fun c36 => ?_)
      · have h := h.1 c36
        refine lv_aload_n hx hb dX1_written_41 rfl (lv_at hl 1 rfl) ?_
        refine cs_get 3 1 1 (v := .ref (ad (9 + 34))) (ref := "BracketLetters$Chiefs") fx (by decide) rfl rfl in_X1_written_X1 (by decide) rfl (by decide +kernel) rfl hK hP dX1_written_42 ?_
        refine lv_iload_n hx hb dX1_written_45 rfl (lv_at hl 2 rfl) ?_
        obtain ⟨hi5, h⟩ := h
        refine cs_iald 34 (by decide) fx hK hP hi5 dX1_written_46 ?_
        refine lv_if_lt (tgt := 59) hx hb dX1_written_47 (by decide) (fun c47 => ?_) (fun c47 => ?_)
        · have h := h.1 c47
          refine lv_bipush (v := 97) hx hb dX1_written_59 (by decide) ?_
          refine lv_iload_n hx hb dX1_written_61 rfl (lv_at hl 2 rfl) ?_
          refine lv_iadd hx hb dX1_written_62 ?_
          exact xr_rI fx hK hP hD hS h dX1_written_63
        · have h := h.2 c47
          refine lv_aload_n hx hb dX1_written_50 rfl (lv_at hl 1 rfl) ?_
          refine cs_get 3 1 2 (v := .ref (ad (9 + 35))) (ref := "BracketLetters$Chiefs") fx (by decide) rfl rfl in_X1_written_X1 (by decide) rfl (by decide +kernel) rfl hK hP dX1_written_51 ?_
          refine lv_iload_n hx hb dX1_written_54 rfl (lv_at hl 2 rfl) ?_
          obtain ⟨hi6, h⟩ := h
          refine cs_iald 35 (by decide) fx hK hP hi6 dX1_written_55 ?_
          refine lv_if_ge (tgt := 64) hx hb dX1_written_56 (by decide) (fun c56 => ?_) (fun c56 => ?_)
          · have h := h.1 c56
            refine lv_iconst (v := 1) hx hb dX1_written_64 (by decide) ?_
            refine lv_aload_n hx hb dX1_written_65 rfl (lv_at hl 1 rfl) ?_
            refine lv_aload_n hx hb dX1_written_66 rfl (lv_at hl 1 rfl) ?_
            refine cs_get 3 1 1 (v := .ref (ad (9 + 34))) (ref := "BracketLetters$Chiefs") fx (by decide) rfl rfl in_X1_written_X1 (by decide) rfl (by decide +kernel) rfl hK hP dX1_written_67 ?_
            refine lv_iload_n hx hb dX1_written_70 rfl (lv_at hl 2 rfl) ?_
            obtain ⟨hi7, h⟩ := h
            refine cs_iald 34 (by decide) fx hK hP hi7 dX1_written_71 ?_
            refine xr_vI (n := 1) (As := [.int (S3.2.1 34 v3.toNatClampNeg)]) (rest := [.int 1]) fx (ct_X1_writtenLength l D ad cI cJ cR Ln h) gX1_written_X1_writtenLength rfl rfl (by decide +kernel) ⟨Nat.le_of_ble_eq_true rfl, Nat.le_of_ble_eq_true rfl⟩ ⟨rfl, rfl⟩ hf (cs_recv 3 1 (by decide) rfl rfl hK hP) hK hP hD hS hA hl.1 rfl (Nat.le_of_ble_eq_true rfl) dX1_written_72 (fun r9 S8 H locs h hP hD hS => ?_)
            refine lv_iadd hx hb dX1_written_75 ?_
            refine lv_topi (fun v7_10 ev7_10 => ?_)
            have h := h v7_10 ev7_10
            refine lv_istore (lv' := [(7, .int v7_10), (6, .int r4), (0, .ref (ad 3)), (3, .int v3), (4, .int v4), (5, .int v5)]) hx hb dX1_written_76 hl (by decide) rfl (fun ls hl => ?_)
            refine lv_iload hx hb dX1_written_78 (lv_at hl 4 rfl) ?_
            refine lv_if_ne (tgt := 86) hx hb dX1_written_80 (by decide) (fun c80 => ?_) (fun c80 => ?_)
            · have h := h.1 c80
              refine lv_iload hx hb dX1_written_86 (lv_at hl 4 rfl) ?_
              refine lv_iload hx hb dX1_written_88 (lv_at hl 0 rfl) ?_
              refine lv_icmp_ne (tgt := 96) hx hb dX1_written_90 (by decide) (fun c90 => ?_) (fun c90 => ?_)
              · have h := h.1 c90
                refine lv_iload hx hb dX1_written_96 (lv_at hl 4 rfl) ?_
                refine lv_iload hx hb dX1_written_98 (lv_at hl 1 rfl) ?_
                refine lv_iconst (v := 1) hx hb dX1_written_100 (by decide) ?_
                refine lv_isub hx hb dX1_written_101 ?_
                refine lv_icmp_ne (tgt := 108) hx hb dX1_written_102 (by decide) (fun c102 => ?_) (fun c102 => ?_)
                · have h := h.1 c102
                  refine lv_iload hx hb dX1_written_108 (lv_at hl 4 rfl) ?_
                  refine lv_iload hx hb dX1_written_110 (lv_at hl 0 rfl) ?_
                  refine lv_icmp_ge (tgt := 124) hx hb dX1_written_112 (by decide) (fun c112 => ?_) (fun c112 => ?_)
                  · have h := h.1 c112
                    refine lv_aload_n hx hb dX1_written_124 rfl (lv_at hl 2 rfl) ?_
                    refine cs_get 3 1 2 (v := .ref (ad (9 + 35))) (ref := "BracketLetters$Chiefs") fx (by decide) rfl rfl in_X1_written_X1 (by decide) rfl (by decide +kernel) rfl hK hP dX1_written_125 ?_
                    refine lv_iload_n hx hb dX1_written_128 rfl (lv_at hl 3 rfl) ?_
                    obtain ⟨hi11, h⟩ := h
                    refine cs_iald 35 (by decide) fx hK hP hi11 dX1_written_129 ?_
                    exact kw_X1_written_130 fx hK hA k8 hP hD hS (lv_sub hl [2, 4, 5, 0] rfl) h
                  · have h := h.2 c112
                    refine lv_aload_n hx hb dX1_written_115 rfl (lv_at hl 2 rfl) ?_
                    refine cs_get 3 1 1 (v := .ref (ad (9 + 34))) (ref := "BracketLetters$Chiefs") fx (by decide) rfl rfl in_X1_written_X1 (by decide) rfl (by decide +kernel) rfl hK hP dX1_written_116 ?_
                    refine lv_iload_n hx hb dX1_written_119 rfl (lv_at hl 3 rfl) ?_
                    obtain ⟨hi12, h⟩ := h
                    refine cs_iald 34 (by decide) fx hK hP hi12 dX1_written_120 ?_
                    refine lv_goto (tgt := 130) hx hb dX1_written_121 (by decide) ?_
                    exact kw_X1_written_130 fx hK hA k8 hP hD hS (lv_sub hl [2, 4, 5, 0] rfl) h
                · have h := h.2 c102
                  refine lv_bipush (v := 93) hx hb dX1_written_105 (by decide) ?_
                  exact xr_rI fx hK hP hD hS h dX1_written_107
              · have h := h.2 c90
                refine lv_bipush (v := 44) hx hb dX1_written_93 (by decide) ?_
                exact xr_rI fx hK hP hD hS h dX1_written_95
            · have h := h.2 c80
              refine lv_bipush (v := 91) hx hb dX1_written_83 (by decide) ?_
              exact xr_rI fx hK hP hD hS h dX1_written_85
          · have h := h.2 c56
            refine lv_bipush (v := 97) hx hb dX1_written_59 (by decide) ?_
            refine lv_iload_n hx hb dX1_written_61 rfl (lv_at hl 2 rfl) ?_
            refine lv_iadd hx hb dX1_written_62 ?_
            exact xr_rI fx hK hP hD hS h dX1_written_63
      · have h := h.2 c36
        refine lv_iconst (v := (-1)) hx hb dX1_written_39 (by decide) ?_
        exact xr_rI fx hK hP hD hS h dX1_written_40
theorem kw_X1_written_8 {p : Program} {l : Launch} {e : Env} {s : State} {m : MethodId} {args : Array Value} {below : List Frame} {meth : Method} {c : Code} {D : va_G} {ad : Nat → Nat} {cI cJ cR : ClassId} {Ln : Nat → Nat} {A : Nat → Prop}  {Q : Int32 → cs_T → Prop} (fx : xr_Fx p m c meth cX1_written 8 s args wsX1_written RX1 (some .int)) (hK : xr_K D (cs_ty cI cJ cR) s) (hA : ∀ q, s.heap.size ≤ q → A q)   : ∀ (n : Nat) (S : cs_T) (v3 : Int32) (v4 : Int32) (v5 : Int32) {H : Heap} {locs : List Loc} {ls : Array Slot}, va_P D vwCl (cs_w ad cI cR Ln S) H → va_D A (cs_w ad cI cR Ln S) → va_S A s.heap H locs → lv_has ls 8 [(0, .ref (ad 3)), (3, .int v3), (4, .int v4), (5, .int v5)] → wp_X1_written_8 Ln Q n S v3 v4 v5 → W p l e rm_X1_written s m args below meth c H locs 0 0 (MQ below (va_Qi Q (xr_B D (cs_ty cI cJ cR) (cs_w ad cI cR Ln) A) A) args s 0 0 A) (F0 m 8 ls []) := by
  intro n
  induction n with
  | zero => intro S v3 v4 v5 H locs ls hP hD hS hl h; exact False.elim h
  | succ n ih => intro S v3 v4 v5 H locs ls hP hD hS hl h; exact kb_X1_written_8 fx hK hA ih hP hD hS hl h
set_option maxHeartbeats 4000000 in
set_option maxRecDepth 100000 in
theorem ct_X1_written (l : Launch) (D : va_G) (ad : Nat → Nat) (cI cJ cR : ClassId) (Ln : Nat → Nat) {S : cs_T} {a1 : Int32} {a2 : Int32} {Q : Int32 → cs_T → Prop} (h : wp_X1_written Ln S a1 a2 Q) : xr_I l D (cs_ty cI cJ cR) (cs_w ad cI cR Ln) yX1_written wsX1_written rm_X1_written [.ref (ad 3), .int a1, .int a2] S Q := by
  refine xr_eI (cc := cX1_written) (nL := 8) (ret := (some .int)) (own := RX1) (by decide) rfl rfl (Nat.le_of_ble_eq_true rfl) ?_
  intro p e s m args below meth c ls A fx hK hA hP hD hS hl
  have hl : lv_has ls 8 [(0, .ref (ad 3)), (1, .int a1), (2, .int a2)] := hl
  show W p l e rm_X1_written s m args below meth c s.heap [] 0 0 _ _
  obtain ⟨⟨hx, hb, hml, hown, hts⟩, hrt, hlk⟩ := id fx
  have hf : 0 ≤ rm_X1_written.cells ∧ 0 ≤ rm_X1_written.slots := ⟨Nat.zero_le _, Nat.zero_le _⟩
  unfold wp_X1_written at h
  refine lv_iload_n hx hb dX1_written_0 rfl (lv_at hl 1 rfl) ?_
  refine lv_istore_n (lv' := [(3, .int a1), (0, .ref (ad 3)), (1, .int a1), (2, .int a2)]) hx hb dX1_written_1 rfl hl (by decide) rfl (fun ls hl => ?_)
  refine lv_iload_n hx hb dX1_written_2 rfl (lv_at hl 3 rfl) ?_
  refine lv_istore (lv' := [(4, .int a2), (3, .int a1), (0, .ref (ad 3)), (1, .int a1), (2, .int a2)]) hx hb dX1_written_3 hl (by decide) rfl (fun ls hl => ?_)
  refine lv_iconst (v := 0) hx hb dX1_written_5 (by decide) ?_
  refine lv_istore (lv' := [(5, .int 0), (4, .int a2), (3, .int a1), (0, .ref (ad 3)), (1, .int a1), (2, .int a2)]) hx hb dX1_written_6 hl (by decide) rfl (fun ls hl => ?_)
  obtain ⟨n, h⟩ := h
  exact kw_X1_written_8 fx hK hA n _ _ _ _ hP hD hS (lv_sub hl [3, 2, 1, 0] rfl) h
