abbrev rm_X7_relate (mc ms : Nat) : Room := { frames := 5, cells := mc, slots := ms, locals := 117 }
theorem in_X7_relate_X7 : ∀ w ∈ wsX70, w ∈ wsX7_relate := by decide +kernel
theorem in_X7_relate_X2 : ∀ w ∈ wsX20, w ∈ wsX7_relate := by decide +kernel
set_option maxHeartbeats 4000000 in
set_option maxRecDepth 100000 in
theorem ct_X7_relate (l : Launch) (D : va_G) (ad : Nat → Nat) (cI cJ cR : ClassId) (Ln : Nat → Nat) (mc ms : Nat) {S : cs_T} {a1 : Int32} {Q : Int32 → cs_T → Prop} (h : wp_X7_relate Ln mc ms S a1 Q) : xr_IA l D (cs_ty cI cJ cR) (cs_w ad cI cR Ln) yX7_relate wsX7_relate (rm_X7_relate mc ms) [.ref (ad 0), .int a1] S Q mc ms := by
  refine xr_eIA (cc := cX7_relate) (nL := 3) (ret := (some .int)) (own := RX7) (by decide) rfl rfl (Nat.le_of_ble_eq_true rfl) ?_
  intro p e s m args below meth c ls A fx hK hA hP hD hS hl
  have hl : lv_has ls 3 [(0, .ref (ad 0)), (1, .int a1)] := hl
  show W p l e (rm_X7_relate mc ms) s m args below meth c s.heap [] 0 0 _ _
  obtain ⟨⟨hx, hb, hml, hown, hts⟩, hrt, hlk⟩ := id fx
  have hf : 0 ≤ (rm_X7_relate mc ms).cells ∧ 0 ≤ (rm_X7_relate mc ms).slots := ⟨Nat.zero_le _, Nat.zero_le _⟩
  unfold wp_X7_relate at h
  refine lv_iload_n hx hb dX7_relate_0 rfl (lv_at hl 1 rfl) ?_
  refine xr_sI (n := 1) (As := [.int a1]) (rest := []) fx (ct_X7_noSum l h) gX7_relate_X7_noSum rfl rfl (by decide +kernel) ⟨Nat.le_of_ble_eq_true rfl, Nat.le_of_ble_eq_true rfl⟩ ⟨rfl, rfl⟩ hf hl.1 rfl (Nat.le_of_ble_eq_true rfl) dX7_relate_1 (fun r1 h => ?_)
  refine lv_if_eq (tgt := 9) hx hb dX7_relate_4 (by decide) (fun c4 => ?_) (fun c4 => ?_)
  · have h := h.1 c4
    refine lv_aload_n hx hb dX7_relate_9 rfl (lv_at hl 0 rfl) ?_
    refine cs_get 0 6 2 (v := .ref (ad 2)) (ref := "BracketLetters") fx (by decide) rfl rfl in_X7_relate_X7 (by decide) rfl (by decide +kernel) rfl hK hP dX7_relate_10 ?_
    refine lv_aload_n hx hb dX7_relate_13 rfl (lv_at hl 0 rfl) ?_
    refine cs_get 0 6 1 (v := .ref (ad 7)) (ref := "BracketLetters") fx (by decide) rfl rfl in_X7_relate_X7 (by decide) rfl (by decide +kernel) rfl hK hP dX7_relate_14 ?_
    refine lv_iload_n hx hb dX7_relate_17 rfl (lv_at hl 1 rfl) ?_
    obtain ⟨hi2, h⟩ := h
    refine cs_aald 7 8 7 fx (by decide) rfl hK hP hi2 dX7_relate_18 ?_
    refine xr_vI (n := 1) (As := [.ref (ad (9 + (7 + a1.toNatClampNeg)))]) (rest := []) fx (ct_X0_onlyLength l D ad cI cJ cR Ln h) gX7_relate_X0_onlyLength rfl rfl (by decide +kernel) ⟨Nat.le_of_ble_eq_true rfl, Nat.le_of_ble_eq_true rfl⟩ ⟨rfl, rfl⟩ hf (cs_recv 2 0 (by decide) rfl rfl hK hP) hK hP hD hS hA hl.1 rfl (Nat.le_of_ble_eq_true rfl) dX7_relate_19 (fun r4 S3 H locs h hP hD hS => ?_)
    refine lv_istore_n (lv' := [(2, .int r4), (0, .ref (ad 0)), (1, .int a1)]) hx hb dX7_relate_22 rfl hl (by decide) rfl (fun ls hl => ?_)
    refine lv_iload_n hx hb dX7_relate_23 rfl (lv_at hl 0 rfl) ?_
    refine lv_iconst (v := 1) hx hb dX7_relate_24 (by decide) ?_
    refine lv_icmp_lt (tgt := 44) hx hb dX7_relate_25 (by decide) (fun c25 => ?_) (fun c25 => ?_)
    · have h := h.1 c25
      refine lv_bipush (v := (-3)) hx hb dX7_relate_44 (by decide) ?_
      refine W.widen (k := mc) (n := ms) (by omega) (by omega) ?_
      exact xr_rI fx hK hP hD hS h dX7_relate_46
    · have h := h.2 c25
      refine lv_aload_n hx hb dX7_relate_28 rfl (lv_at hl 1 rfl) ?_
      refine cs_get 0 6 2 (v := .ref (ad 2)) (ref := "BracketLetters") fx (by decide) rfl rfl in_X7_relate_X7 (by decide) rfl (by decide +kernel) rfl hK hP dX7_relate_29 ?_
      refine lv_aload_n hx hb dX7_relate_32 rfl (lv_at hl 1 rfl) ?_
      refine cs_get 0 6 1 (v := .ref (ad 7)) (ref := "BracketLetters") fx (by decide) rfl rfl in_X7_relate_X7 (by decide) rfl (by decide +kernel) rfl hK hP dX7_relate_33 ?_
      refine lv_iload_n hx hb dX7_relate_36 rfl (lv_at hl 2 rfl) ?_
      obtain ⟨hi5, h⟩ := h
      refine cs_aald 7 8 7 fx (by decide) rfl hK hP hi5 dX7_relate_37 ?_
      refine xr_vI (n := 1) (As := [.ref (ad (9 + (7 + a1.toNatClampNeg)))]) (rest := []) fx (ct_X0_isLie l D ad cI cJ cR Ln h) gX7_relate_X0_isLie rfl rfl (by decide +kernel) ⟨Nat.le_of_ble_eq_true rfl, Nat.le_of_ble_eq_true rfl⟩ ⟨rfl, rfl⟩ hf (cs_recv 2 0 (by decide) rfl rfl hK hP) hK hP hD hS hA hl.1 rfl (Nat.le_of_ble_eq_true rfl) dX7_relate_38 (fun r7 S6 H locs h hP hD hS => ?_)
      refine lv_if_ne (tgt := 47) hx hb dX7_relate_41 (by decide) (fun c41 => ?_) (fun c41 => ?_)
      · have h := h.1 c41
        refine lv_aload_n hx hb dX7_relate_47 rfl (lv_at hl 1 rfl) ?_
        refine cs_get 0 6 5 (v := .ref (ad 5)) (ref := "BracketLetters") fx (by decide) rfl rfl in_X7_relate_X7 (by decide) rfl (by decide +kernel) rfl hK hP dX7_relate_48 ?_
        refine cs_get 5 2 0 (v := .int (S6.1 4)) (ref := "BracketLetters$Laws") fx (by decide) rfl rfl in_X7_relate_X2 (by decide) rfl (by decide +kernel) rfl hK hP dX7_relate_51 ?_
        refine lv_iconst (v := 4) hx hb dX7_relate_54 (by decide) ?_
        refine lv_icmp_lt (tgt := 61) hx hb dX7_relate_55 (by decide) (fun c55 => ?_) (fun c55 => ?_)
        · have h := h.1 c55
          refine lv_aload_n hx hb dX7_relate_61 rfl (lv_at hl 1 rfl) ?_
          refine cs_get 0 6 5 (v := .ref (ad 5)) (ref := "BracketLetters") fx (by decide) rfl rfl in_X7_relate_X7 (by decide) rfl (by decide +kernel) rfl hK hP dX7_relate_62 ?_
          refine lv_aload_n hx hb dX7_relate_65 rfl (lv_at hl 1 rfl) ?_
          refine cs_get 0 6 1 (v := .ref (ad 7)) (ref := "BracketLetters") fx (by decide) rfl rfl in_X7_relate_X7 (by decide) rfl (by decide +kernel) rfl hK hP dX7_relate_66 ?_
          refine lv_iload_n hx hb dX7_relate_69 rfl (lv_at hl 2 rfl) ?_
          obtain ⟨hi8, h⟩ := h
          refine cs_aald 7 8 7 fx (by decide) rfl hK hP hi8 dX7_relate_70 ?_
          refine lv_iload_n hx hb dX7_relate_71 rfl (lv_at hl 0 rfl) ?_
          obtain ⟨hmc, hms, h⟩ := h
          refine xr_vIA (mc := mc) (ms := ms) (n := 2) (As := [.ref (ad (9 + (7 + a1.toNatClampNeg))), .int r4]) (rest := []) fx (hmc ▸ hms ▸ ct_X2_enact l D ad cI cJ cR Ln h) gX7_relate_X2_enact rfl rfl (by decide +kernel) ⟨Nat.le_of_ble_eq_true rfl, Nat.le_of_ble_eq_true rfl⟩ ⟨rfl, rfl⟩ (by constructor <;> simp) (cs_recv 5 2 (by decide) rfl rfl hK hP) hK hP hD hS hA hl.1 rfl (Nat.le_of_ble_eq_true rfl) dX7_relate_72 (fun r10 S9 H locs h hP hD hS => ?_)
          refine W.widen (k := mc) (n := ms) (by omega) (by omega) ?_
          exact xr_rI fx hK hP hD hS h dX7_relate_75
        · have h := h.2 c55
          refine lv_bipush (v := (-4)) hx hb dX7_relate_58 (by decide) ?_
          refine W.widen (k := mc) (n := ms) (by omega) (by omega) ?_
          exact xr_rI fx hK hP hD hS h dX7_relate_60
      · have h := h.2 c41
        refine lv_bipush (v := (-3)) hx hb dX7_relate_44 (by decide) ?_
        refine W.widen (k := mc) (n := ms) (by omega) (by omega) ?_
        exact xr_rI fx hK hP hD hS h dX7_relate_46
  · have h := h.2 c4
    refine lv_iconst (v := (-1)) hx hb dX7_relate_7 (by decide) ?_
    refine W.widen (k := mc) (n := ms) (by omega) (by omega) ?_
    exact xr_rI fx hK hP hD hS h dX7_relate_8
