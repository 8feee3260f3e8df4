abbrev rm_X8_put : Room := { frames := 2, cells := 0, slots := 0, locals := 51 }
theorem in_X8_put : ∀ w ∈ wsX80, w ∈ wsX8_put := by decide +kernel
set_option maxHeartbeats 4000000 in
set_option maxRecDepth 100000 in
theorem ct_X8_put (l : Launch) (D : va_G) (ad : Nat → Nat) (cI cJ cR : ClassId) {S : ms_T} {a1 : Int32} {a2 : Int32} {a3 : Int32} {a4 : Int32} {Q : Int32 → ms_T → Prop} (h : wp_X8_put S a1 a2 a3 a4 Q) : xr_I l D (ms_ty cI cJ cR) (ms_w ad cI cJ) yX8_put wsX8_put rm_X8_put [.ref (ad 0), .int a1, .int a2, .int a3, .int a4] S Q := by
  refine xr_eI (cc := cX8_put) (nL := 6) (ret := (some .int)) (own := RX8) (by decide) rfl rfl (Nat.le_of_ble_eq_true rfl) ?_
  intro p e s m args below meth c ls A fx hK hA hP hD hS hl
  have hl : lv_has ls 6 [(0, .ref (ad 0)), (1, .int a1), (2, .int a2), (3, .int a3), (4, .int a4)] := hl
  show W p l e rm_X8_put s m args below meth c s.heap [] 0 0 _ _
  obtain ⟨⟨hx, hb, hml, hown, hts⟩, hrt, hlk⟩ := id fx
  have hf : 0 ≤ rm_X8_put.cells ∧ 0 ≤ rm_X8_put.slots := ⟨Nat.zero_le _, Nat.zero_le _⟩
  unfold wp_X8_put at h
  refine lv_aload_n hx hb dX8_put_0 rfl (lv_at hl 0 rfl) ?_
  refine lv_iload_n hx hb dX8_put_1 rfl (lv_at hl 2 rfl) ?_
  refine xr_vI (n := 1) (As := [.int a2]) (rest := []) fx (ct_X8_wordOf l D ad cI cJ cR h) gX8_put_X8_wordOf rfl rfl (by decide +kernel) ⟨Nat.le_of_ble_eq_true rfl, Nat.le_of_ble_eq_true rfl⟩ ⟨rfl, rfl⟩ hf (ms_recv hK hP) hK hP hD hS hA hl.1 rfl (Nat.le_of_ble_eq_true rfl) dX8_put_2 (fun r2 S1 H locs h hP hD hS => ?_)
  refine lv_istore (lv' := [(5, .int r2), (0, .ref (ad 0)), (1, .int a1), (2, .int a2), (3, .int a3), (4, .int a4)]) hx hb dX8_put_5 hl (by decide) rfl (fun ls hl => ?_)
  refine lv_iload_n hx hb dX8_put_7 rfl (lv_at hl 2 rfl) ?_
  refine xr_sI (n := 1) (As := [.int a1]) (rest := []) fx (ct_X8_isSum l h) gX8_put_X8_isSum rfl rfl (by decide +kernel) ⟨Nat.le_of_ble_eq_true rfl, Nat.le_of_ble_eq_true rfl⟩ ⟨rfl, rfl⟩ hf hl.1 rfl (Nat.le_of_ble_eq_true rfl) dX8_put_8 (fun r3 h => ?_)
  refine lv_if_eq (tgt := 20) hx hb dX8_put_11 (by decide) (fun c11 => ?_) (fun c11 => ?_)
  · have h := h.1 c11
    refine lv_iconst (v := (-1)) hx hb dX8_put_20 (by decide) ?_
    exact xr_rI fx hK hP hD hS h dX8_put_21
  · have h := h.2 c11
    refine lv_iload hx hb dX8_put_14 (lv_at hl 0 rfl) ?_
    refine lv_iconst (v := (-1)) hx hb dX8_put_16 (by decide) ?_
    refine lv_icmp_ne (tgt := 22) hx hb dX8_put_17 (by decide) (fun c17 => ?_) (fun c17 => ?_)
    · have h := h.1 c17
      refine lv_iload_n hx hb dX8_put_22 rfl (lv_at hl 4 rfl) ?_
      refine lv_iload hx hb dX8_put_23 (lv_at hl 5 rfl) ?_
      refine xr_sI (n := 2) (As := [.int a3, .int a4]) (rest := []) fx (ct_X8_isPart l h) gX8_put_X8_isPart rfl rfl (by decide +kernel) ⟨Nat.le_of_ble_eq_true rfl, Nat.le_of_ble_eq_true rfl⟩ ⟨rfl, rfl⟩ hf hl.1 rfl (Nat.le_of_ble_eq_true rfl) dX8_put_25 (fun r4 h => ?_)
      refine lv_if_ne (tgt := 34) hx hb dX8_put_28 (by decide) (fun c28 => ?_) (fun c28 => ?_)
      · have h := h.1 c28
        refine lv_aload_n hx hb dX8_put_34 rfl (lv_at hl 1 rfl) ?_
        refine ms_get 6 (v := .ref (ad 15)) fx in_X8_put (by decide) rfl (by decide +kernel) rfl hK hP dX8_put_35 ?_
        refine lv_sipush (v := 364) hx hb dX8_put_38 (by decide) ?_
        refine lv_iload_n hx hb dX8_put_41 rfl (lv_at hl 2 rfl) ?_
        refine lv_imul hx hb dX8_put_42 ?_
        refine lv_iload hx hb dX8_put_43 (lv_at hl 0 rfl) ?_
        refine lv_iadd hx hb dX8_put_45 ?_
        refine lv_iload_n hx hb dX8_put_46 rfl (lv_at hl 4 rfl) ?_
        refine lv_iload hx hb dX8_put_47 (lv_at hl 5 rfl) ?_
        refine xr_sL (n := 2) (As := [.int a3, .int a4]) (rest := [.int ((364 * a1) + r2), .ref (ad 15)]) fx (ct_X8_partOf l h) gX8_put_X8_partOf rfl rfl (by decide +kernel) ⟨Nat.le_of_ble_eq_true rfl, Nat.le_of_ble_eq_true rfl⟩ ⟨rfl, rfl⟩ hf hl.1 rfl (Nat.le_of_ble_eq_true rfl) dX8_put_49 (fun r5 h => ?_)
        obtain ⟨hi6, h⟩ := h
        refine ms_last 0 (by decide) fx hK hP hD hS rfl hi6 dX8_put_52 (fun H locs hP hD hS => ?_)
        refine lv_iconst (v := 0) hx hb dX8_put_53 (by decide) ?_
        exact xr_rI fx hK hP hD hS h dX8_put_54
      · have h := h.2 c28
        refine lv_bipush (v := (-2)) hx hb dX8_put_31 (by decide) ?_
        exact xr_rI fx hK hP hD hS h dX8_put_33
    · have h := h.2 c17
      refine lv_iconst (v := (-1)) hx hb dX8_put_20 (by decide) ?_
      exact xr_rI fx hK hP hD hS h dX8_put_21
abbrev rm_X8_at : Room := { frames := 2, cells := 0, slots := 0, locals := 51 }
theorem in_X8_at : ∀ w ∈ wsX80, w ∈ wsX8_at := by decide +kernel
set_option maxHeartbeats 4000000 in
set_option maxRecDepth 100000 in
theorem ct_X8_at (l : Launch) (D : va_G) (ad : Nat → Nat) (cI cJ cR : ClassId) {S : ms_T} {a1 : Int32} {a2 : Int32} {Q : Int32 → ms_T → Prop} (h : wp_X8_at S a1 a2 Q) : xr_I l D (ms_ty cI cJ cR) (ms_w ad cI cJ) yX8_at wsX8_at rm_X8_at [.ref (ad 0), .int a1, .int a2] S Q := by
  refine xr_eI (cc := cX8_at) (nL := 4) (ret := (some .int)) (own := RX8) (by decide) rfl rfl (Nat.le_of_ble_eq_true rfl) ?_
  intro p e s m args below meth c ls A fx hK hA hP hD hS hl
  have hl : lv_has ls 4 [(0, .ref (ad 0)), (1, .int a1), (2, .int a2)] := hl
  show W p l e rm_X8_at s m args below meth c s.heap [] 0 0 _ _
  obtain ⟨⟨hx, hb, hml, hown, hts⟩, hrt, hlk⟩ := id fx
  have hf : 0 ≤ rm_X8_at.cells ∧ 0 ≤ rm_X8_at.slots := ⟨Nat.zero_le _, Nat.zero_le _⟩
  unfold wp_X8_at at h
  refine lv_aload_n hx hb dX8_at_0 rfl (lv_at hl 0 rfl) ?_
  refine lv_iload_n hx hb dX8_at_1 rfl (lv_at hl 2 rfl) ?_
  refine xr_vI (n := 1) (As := [.int a2]) (rest := []) fx (ct_X8_wordOf l D ad cI cJ cR h) gX8_at_X8_wordOf rfl rfl (by decide +kernel) ⟨Nat.le_of_ble_eq_true rfl, Nat.le_of_ble_eq_true rfl⟩ ⟨rfl, rfl⟩ hf (ms_recv hK hP) hK hP hD hS hA hl.1 rfl (Nat.le_of_ble_eq_true rfl) dX8_at_2 (fun r2 S1 H locs h hP hD hS => ?_)
  refine lv_istore_n (lv' := [(3, .int r2), (0, .ref (ad 0)), (1, .int a1), (2, .int a2)]) hx hb dX8_at_5 rfl hl (by decide) rfl (fun ls hl => ?_)
  refine lv_iload_n hx hb dX8_at_6 rfl (lv_at hl 2 rfl) ?_
  refine xr_sI (n := 1) (As := [.int a1]) (rest := []) fx (ct_X8_isSum l h) gX8_at_X8_isSum rfl rfl (by decide +kernel) ⟨Nat.le_of_ble_eq_true rfl, Nat.le_of_ble_eq_true rfl⟩ ⟨rfl, rfl⟩ hf hl.1 rfl (Nat.le_of_ble_eq_true rfl) dX8_at_7 (fun r3 h => ?_)
  refine lv_if_eq (tgt := 34) hx hb dX8_at_10 (by decide) (fun c10 => ?_) (fun c10 => ?_)
  · have h := h.1 c10
    refine lv_iconst (v := (-1)) hx hb dX8_at_34 (by decide) ?_
    exact xr_rI fx hK hP hD hS h dX8_at_35
  · have h := h.2 c10
    refine lv_iload_n hx hb dX8_at_13 rfl (lv_at hl 0 rfl) ?_
    refine lv_iconst (v := (-1)) hx hb dX8_at_14 (by decide) ?_
    refine lv_icmp_eq (tgt := 34) hx hb dX8_at_15 (by decide) (fun c15 => ?_) (fun c15 => ?_)
    · have h := h.1 c15
      refine lv_iconst (v := (-1)) hx hb dX8_at_34 (by decide) ?_
      exact xr_rI fx hK hP hD hS h dX8_at_35
    · have h := h.2 c15
      refine lv_aload_n hx hb dX8_at_18 rfl (lv_at hl 1 rfl) ?_
      refine ms_get 6 (v := .ref (ad 15)) fx in_X8_at (by decide) rfl (by decide +kernel) rfl hK hP dX8_at_19 ?_
      refine lv_sipush (v := 364) hx hb dX8_at_22 (by decide) ?_
      refine lv_iload_n hx hb dX8_at_25 rfl (lv_at hl 2 rfl) ?_
      refine lv_imul hx hb dX8_at_26 ?_
      refine lv_iload_n hx hb dX8_at_27 rfl (lv_at hl 0 rfl) ?_
      refine lv_iadd hx hb dX8_at_28 ?_
      obtain ⟨hi4, h⟩ := h
      refine ms_lald 0 (by decide) fx hK hP rfl hi4 dX8_at_29 ?_
      refine lv_l2i hx hb dX8_at_30 rfl ?_
      refine lv_goto (tgt := 35) hx hb dX8_at_31 (by decide) ?_
      exact xr_rI fx hK hP hD hS h dX8_at_35
abbrev rm_X8_fraction : Room := { frames := 1, cells := 0, slots := 0, locals := 25 }
set_option maxHeartbeats 4000000 in
set_option maxRecDepth 100000 in
theorem kb_X8_fraction_27 {p : Program} {l : Launch} {e : Env} {s : State} {m : MethodId} {args : Array Value} {below : List Frame} {meth : Method} {c : Code} {D : va_G} {ad : Nat → Nat} {cI cJ cR : ClassId} {A : Nat → Prop}  {K27 : ms_T → Int32 → Int32 → Int32 → Prop} {Q : Int32 → ms_T → Prop} {S : ms_T} {v1 : Int32} {v2 : Int32} {v3 : Int32} (fx : xr_Fx p m c meth cX8_fraction 6 s args wsX8_fraction RX8 (some .int)) (hK : xr_K D (ms_ty cI cJ cR) s) (hA : ∀ q, s.heap.size ≤ q → A q)  (k27 : ∀ (S : ms_T) (v1 : Int32) (v2 : Int32) (v3 : Int32) {H : Heap} {locs : List Loc} {ls : Array Slot}, va_P D vwCl (ms_w ad cI cJ S) H → va_D A (ms_w ad cI cJ S) → va_S A s.heap H locs → lv_has ls 6 [(0, .ref (ad 0)), (1, .int v1), (2, .int v2), (3, .int v3)] → K27 S v1 v2 v3 → W p l e rm_X8_fraction s m args below meth c H locs 0 0 (MQ below (va_Qi Q (xr_B D (ms_ty cI cJ cR) (ms_w ad cI cJ) A) A) args s 0 0 A) (F0 m 27 ls [])) {H : Heap} {locs : List Loc} {ls : Array Slot} (hP : va_P D vwCl (ms_w ad cI cJ S) H) (hD : va_D A (ms_w ad cI cJ S)) (hS : va_S A s.heap H locs) (hl : lv_has ls 6 [(0, .ref (ad 0)), (1, .int v1), (2, .int v2), (3, .int v3)]) (h : wb_X8_fraction_27 K27 Q S v1 v2 v3) : W p l e rm_X8_fraction s m args below meth c H locs 0 0 (MQ below (va_Qi Q (xr_B D (ms_ty cI cJ cR) (ms_w ad cI cJ) A) A) args s 0 0 A) (F0 m 27 ls []) := by
  obtain ⟨⟨hx, hb, hml, hown, hts⟩, hrt, hlk⟩ := id fx
  have hf : 0 ≤ rm_X8_fraction.cells ∧ 0 ≤ rm_X8_fraction.slots := ⟨Nat.zero_le _, Nat.zero_le _⟩
  unfold wb_X8_fraction_27 at h
  refine lv_iload_n hx hb dX8_fraction_27 rfl (lv_at hl 3 rfl) ?_
  refine lv_sipush (v := 1000) hx hb dX8_fraction_28 (by decide) ?_
  refine lv_icmp_gt (tgt := 97) hx hb dX8_fraction_31 (by decide) (fun c31 => ?_) (fun c31 => ?_)
  · have h := h.1 c31
    refine lv_ldc (v := (-2147483648)) hx hb hown (hts (.constant RX8 177 (-2147483648)) (by decide +kernel)) dX8_fraction_97 ?_
    exact xr_rI fx hK hP hD hS h dX8_fraction_99
  · have h := h.2 c31
    refine lv_iload_n hx hb dX8_fraction_34 rfl (lv_at hl 1 rfl) ?_
    refine lv_i2l hx hb dX8_fraction_35 rfl ?_
    refine lv_iload_n hx hb dX8_fraction_36 rfl (lv_at hl 3 rfl) ?_
    refine lv_i2l hx hb dX8_fraction_37 rfl ?_
    refine lv_lmul hx hb dX8_fraction_38 ?_
    refine lv_ldc2 (v := 2147483647) hx hb hown (hts (.constantLong RX8 3 (2147483647)) (by decide +kernel)) dX8_fraction_39 ?_
    refine lv_lrem hx hb dX8_fraction_42 (by decide) ?_
    refine lv_topl (fun v4_1 ev4_1 => ?_)
    have h := h v4_1 ev4_1
    refine lv_lstore (lv' := [(4, .long v4_1), (0, .ref (ad 0)), (1, .int v1), (2, .int v2), (3, .int v3)]) hx hb dX8_fraction_43 hl (by decide) rfl (fun ls hl => ?_)
    refine lv_lload hx hb dX8_fraction_45 (lv_at hl 0 rfl) ?_
    refine lv_ldc2 (v := 1000000) hx hb hown (hts (.constantLong RX8 178 (1000000)) (by decide +kernel)) dX8_fraction_47 ?_
    refine W.lcmp hx hb dX8_fraction_50 ?_
    refine lv_if_gt (tgt := 66) hx hb dX8_fraction_51 (by decide) (fun c51 => ?_) (fun c51 => ?_)
    · have h := h.1 ((lg_cmp_gt _ _).mp c51)
      refine lv_lload hx hb dX8_fraction_66 (lv_at hl 0 rfl) ?_
      refine lv_ldc2 (v := 2146483647) hx hb hown (hts (.constantLong RX8 180 (2146483647)) (by decide +kernel)) dX8_fraction_68 ?_
      refine W.lcmp hx hb dX8_fraction_71 ?_
      refine lv_if_lt (tgt := 91) hx hb dX8_fraction_72 (by decide) (fun c72 => ?_) (fun c72 => ?_)
      · have h := h.1 ((lg_cmp_lt _ _).mp c72)
        obtain ⟨v3_2, ev3_2⟩ : ∃ z : Int32, z = v3 + 1 := ⟨_, rfl⟩
        have h := h v3_2 ev3_2
        refine lv_iinc (v := v3_2) (lv' := [(3, .int v3_2), (4, .long v4_1), (0, .ref (ad 0)), (1, .int v1), (2, .int v2)]) hx hb dX8_fraction_91 hl (k := 4) rfl (by rw [ev3_2]; rfl) (by decide) rfl (fun ls hl => ?_)
        refine lv_goto (tgt := 27) hx hb dX8_fraction_94 (by decide) ?_
        exact k27 _ _ _ _ hP hD hS (lv_sub hl [2, 3, 4, 0] rfl) h
      · have h := h.2 (fun z => c72 ((lg_cmp_lt _ _).mpr z))
        refine lv_iload_n hx hb dX8_fraction_75 rfl (lv_at hl 3 rfl) ?_
        refine lv_if_ne (tgt := 89) hx hb dX8_fraction_76 (by decide) (fun c76 => ?_) (fun c76 => ?_)
        · have h := h.1 c76
          refine lv_iload_n hx hb dX8_fraction_89 rfl (lv_at hl 4 rfl) ?_
          exact xr_rI fx hK hP hD hS h dX8_fraction_90
        · have h := h.2 c76
          refine lv_lload hx hb dX8_fraction_79 (lv_at hl 0 rfl) ?_
          refine lv_ldc2 (v := 2147483647) hx hb hown (hts (.constantLong RX8 3 (2147483647)) (by decide +kernel)) dX8_fraction_81 ?_
          refine lv_lsub hx hb dX8_fraction_84 ?_
          refine lv_l2i hx hb dX8_fraction_85 rfl ?_
          refine lv_goto (tgt := 90) hx hb dX8_fraction_86 (by decide) ?_
          exact xr_rI fx hK hP hD hS h dX8_fraction_90
    · have h := h.2 (fun z => c51 ((lg_cmp_gt _ _).mpr z))
      refine lv_iload_n hx hb dX8_fraction_54 rfl (lv_at hl 3 rfl) ?_
      refine lv_if_ne (tgt := 64) hx hb dX8_fraction_55 (by decide) (fun c55 => ?_) (fun c55 => ?_)
      · have h := h.1 c55
        refine lv_iload_n hx hb dX8_fraction_64 rfl (lv_at hl 4 rfl) ?_
        exact xr_rI fx hK hP hD hS h dX8_fraction_65
      · have h := h.2 c55
        refine lv_lload hx hb dX8_fraction_58 (lv_at hl 0 rfl) ?_
        refine lv_l2i hx hb dX8_fraction_60 rfl ?_
        refine lv_goto (tgt := 65) hx hb dX8_fraction_61 (by decide) ?_
        exact xr_rI fx hK hP hD hS h dX8_fraction_65
theorem kw_X8_fraction_27 {p : Program} {l : Launch} {e : Env} {s : State} {m : MethodId} {args : Array Value} {below : List Frame} {meth : Method} {c : Code} {D : va_G} {ad : Nat → Nat} {cI cJ cR : ClassId} {A : Nat → Prop}  {Q : Int32 → ms_T → Prop} (fx : xr_Fx p m c meth cX8_fraction 6 s args wsX8_fraction RX8 (some .int)) (hK : xr_K D (ms_ty cI cJ cR) s) (hA : ∀ q, s.heap.size ≤ q → A q)  : ∀ (n : Nat) (S : ms_T) (v1 : Int32) (v2 : Int32) (v3 : Int32) {H : Heap} {locs : List Loc} {ls : Array Slot}, va_P D vwCl (ms_w ad cI cJ S) H → va_D A (ms_w ad cI cJ S) → va_S A s.heap H locs → lv_has ls 6 [(0, .ref (ad 0)), (1, .int v1), (2, .int v2), (3, .int v3)] → wp_X8_fraction_27 Q n S v1 v2 v3 → W p l e rm_X8_fraction s m args below meth c H locs 0 0 (MQ below (va_Qi Q (xr_B D (ms_ty cI cJ cR) (ms_w ad cI cJ) A) A) args s 0 0 A) (F0 m 27 ls []) := by
  intro n
  induction n with
  | zero => intro S v1 v2 v3 H locs ls hP hD hS hl h; exact False.elim h
  | succ n ih => intro S v1 v2 v3 H locs ls hP hD hS hl h; exact kb_X8_fraction_27 fx hK hA ih hP hD hS hl h
set_option maxHeartbeats 4000000 in
set_option maxRecDepth 100000 in
theorem ct_X8_fraction (l : Launch) (D : va_G) (ad : Nat → Nat) (cI cJ cR : ClassId) {S : ms_T} {a1 : Int32} {a2 : Int32} {Q : Int32 → ms_T → Prop} (h : wp_X8_fraction S a1 a2 Q) : xr_I l D (ms_ty cI cJ cR) (ms_w ad cI cJ) yX8_fraction wsX8_fraction rm_X8_fraction [.ref (ad 0), .int a1, .int a2] S Q := by
  refine xr_eI (cc := cX8_fraction) (nL := 6) (ret := (some .int)) (own := RX8) (by decide) rfl rfl (Nat.le_of_ble_eq_true rfl) ?_
  intro p e s m args below meth c ls A fx hK hA hP hD hS hl
  have hl : lv_has ls 6 [(0, .ref (ad 0)), (1, .int a1), (2, .int a2)] := hl
  show W p l e rm_X8_fraction s m args below meth c s.heap [] 0 0 _ _
  obtain ⟨⟨hx, hb, hml, hown, hts⟩, hrt, hlk⟩ := id fx
  have hf : 0 ≤ rm_X8_fraction.cells ∧ 0 ≤ rm_X8_fraction.slots := ⟨Nat.zero_le _, Nat.zero_le _⟩
  unfold wp_X8_fraction at h
  refine lv_iload_n hx hb dX8_fraction_0 rfl (lv_at hl 1 rfl) ?_
  refine lv_i2l hx hb dX8_fraction_1 rfl ?_
  refine lv_lconst (v := 0) hx hb dX8_fraction_2 (by decide) ?_
  refine lv_ldc2 (v := 2147483646) hx hb hown (hts (.constantLong RX8 175 (2147483646)) (by decide +kernel)) dX8_fraction_3 ?_
  refine xr_sI (n := 3) (As := [.long a1.toInt64, .long 0, .long 2147483646]) (rest := []) fx (ct_X8_in l h) gX8_fraction_X8_in rfl rfl (by decide +kernel) ⟨Nat.le_of_ble_eq_true rfl, Nat.le_of_ble_eq_true rfl⟩ ⟨rfl, rfl⟩ hf hl.1 rfl (Nat.le_of_ble_eq_true rfl) dX8_fraction_6 (fun r3 h => ?_)
  refine lv_if_eq (tgt := 22) hx hb dX8_fraction_9 (by decide) (fun c9 => ?_) (fun c9 => ?_)
  · have h := h.1 c9
    refine lv_ldc (v := (-2147483648)) hx hb hown (hts (.constant RX8 177 (-2147483648)) (by decide +kernel)) dX8_fraction_22 ?_
    exact xr_rI fx hK hP hD hS h dX8_fraction_24
  · have h := h.2 c9
    refine lv_iload_n hx hb dX8_fraction_12 rfl (lv_at hl 2 rfl) ?_
    refine lv_i2l hx hb dX8_fraction_13 rfl ?_
    refine lv_lconst (v := 0) hx hb dX8_fraction_14 (by decide) ?_
    refine lv_lconst (v := 1) hx hb dX8_fraction_15 (by decide) ?_
    refine xr_sI (n := 3) (As := [.long a2.toInt64, .long 0, .long 1]) (rest := []) fx (ct_X8_in l h) gX8_fraction_X8_in rfl rfl (by decide +kernel) ⟨Nat.le_of_ble_eq_true rfl, Nat.le_of_ble_eq_true rfl⟩ ⟨rfl, rfl⟩ hf hl.1 rfl (Nat.le_of_ble_eq_true rfl) dX8_fraction_16 (fun r4 h => ?_)
    refine lv_if_ne (tgt := 25) hx hb dX8_fraction_19 (by decide) (fun c19 => ?_) (fun c19 => ?_)
    · have h := h.1 c19
      refine lv_iconst (v := 1) hx hb dX8_fraction_25 (by decide) ?_
      refine lv_istore_n (lv' := [(3, .int 1), (0, .ref (ad 0)), (1, .int a1), (2, .int a2)]) hx hb dX8_fraction_26 rfl hl (by decide) rfl (fun ls hl => ?_)
      obtain ⟨n, h⟩ := h
      exact kw_X8_fraction_27 fx hK hA n _ _ _ _ hP hD hS (lv_sub hl [1, 2, 3, 0] rfl) h
    · have h := h.2 c19
      refine lv_ldc (v := (-2147483648)) hx hb hown (hts (.constant RX8 177 (-2147483648)) (by decide +kernel)) dX8_fraction_22 ?_
      exact xr_rI fx hK hP hD hS h dX8_fraction_24
abbrev rm_X8_add : Room := { frames := 2, cells := 0, slots := 0, locals := 48 }
set_option maxHeartbeats 4000000 in
set_option maxRecDepth 100000 in
theorem ct_X8_add (l : Launch) (D : va_G) (ad : Nat → Nat) (cI cJ cR : ClassId) {S : ms_T} {a1 : Int32} {a2 : Int32} {a3 : Int32} {a4 : Int32} {Q : Int32 → ms_T → Prop} (h : wp_X8_add S a1 a2 a3 a4 Q) : xr_I l D (ms_ty cI cJ cR) (ms_w ad cI cJ) yX8_add wsX8_add rm_X8_add [.ref (ad 0), .int a1, .int a2, .int a3, .int a4] S Q := by
  refine xr_eI (cc := cX8_add) (nL := 5) (ret := (some .int)) (own := RX8) (by decide) rfl rfl (Nat.le_of_ble_eq_true rfl) ?_
  intro p e s m args below meth c ls A fx hK hA hP hD hS hl
  have hl : lv_has ls 5 [(0, .ref (ad 0)), (1, .int a1), (2, .int a2), (3, .int a3), (4, .int a4)] := hl
  show W p l e rm_X8_add s m args below meth c s.heap [] 0 0 _ _
  obtain ⟨⟨hx, hb, hml, hown, hts⟩, hrt, hlk⟩ := id fx
  have hf : 0 ≤ rm_X8_add.cells ∧ 0 ≤ rm_X8_add.slots := ⟨Nat.zero_le _, Nat.zero_le _⟩
  unfold wp_X8_add at h
  refine lv_iload_n hx hb dX8_add_0 rfl (lv_at hl 1 rfl) ?_
  refine xr_sI (n := 1) (As := [.int a1]) (rest := []) fx (ct_X8_isSum l h) gX8_add_X8_isSum rfl rfl (by decide +kernel) ⟨Nat.le_of_ble_eq_true rfl, Nat.le_of_ble_eq_true rfl⟩ ⟨rfl, rfl⟩ hf hl.1 rfl (Nat.le_of_ble_eq_true rfl) dX8_add_1 (fun r1 h => ?_)
  refine lv_if_eq (tgt := 14) hx hb dX8_add_4 (by decide) (fun c4 => ?_) (fun c4 => ?_)
  · have h := h.1 c4
    refine lv_iconst (v := (-1)) hx hb dX8_add_14 (by decide) ?_
    exact xr_rI fx hK hP hD hS h dX8_add_15
  · have h := h.2 c4
    refine lv_iload_n hx hb dX8_add_7 rfl (lv_at hl 2 rfl) ?_
    refine xr_sI (n := 1) (As := [.int a2]) (rest := []) fx (ct_X8_isSum l h) gX8_add_X8_isSum rfl rfl (by decide +kernel) ⟨Nat.le_of_ble_eq_true rfl, Nat.le_of_ble_eq_true rfl⟩ ⟨rfl, rfl⟩ hf hl.1 rfl (Nat.le_of_ble_eq_true rfl) dX8_add_8 (fun r2 h => ?_)
    refine lv_if_ne (tgt := 16) hx hb dX8_add_11 (by decide) (fun c11 => ?_) (fun c11 => ?_)
    · have h := h.1 c11
      refine lv_iload_n hx hb dX8_add_16 rfl (lv_at hl 3 rfl) ?_
      refine lv_iload hx hb dX8_add_17 (lv_at hl 4 rfl) ?_
      refine xr_sI (n := 2) (As := [.int a3, .int a4]) (rest := []) fx (ct_X8_isPart l h) gX8_add_X8_isPart rfl rfl (by decide +kernel) ⟨Nat.le_of_ble_eq_true rfl, Nat.le_of_ble_eq_true rfl⟩ ⟨rfl, rfl⟩ hf hl.1 rfl (Nat.le_of_ble_eq_true rfl) dX8_add_19 (fun r3 h => ?_)
      refine lv_if_ne (tgt := 28) hx hb dX8_add_22 (by decide) (fun c22 => ?_) (fun c22 => ?_)
      · have h := h.1 c22
        refine lv_aload_n hx hb dX8_add_28 rfl (lv_at hl 0 rfl) ?_
        refine lv_bipush (v := 8) hx hb dX8_add_29 (by decide) ?_
        refine lv_iload_n hx hb dX8_add_31 rfl (lv_at hl 2 rfl) ?_
        refine xr_vV (n := 2) (As := [.int 8, .int a2]) (rest := []) fx (ct_X8_copies l D ad cI cJ cR h) gX8_add_X8_copies rfl rfl (by decide +kernel) ⟨Nat.le_of_ble_eq_true rfl, Nat.le_of_ble_eq_true rfl⟩ ⟨rfl, rfl⟩ hf (ms_recv hK hP) hK hP hD hS hA hl.1 rfl (Nat.le_of_ble_eq_true rfl) dX8_add_32 (fun S4 H locs h hP hD hS => ?_)
        refine lv_aload_n hx hb dX8_add_35 rfl (lv_at hl 0 rfl) ?_
        refine lv_iload_n hx hb dX8_add_36 rfl (lv_at hl 1 rfl) ?_
        refine lv_bipush (v := 8) hx hb dX8_add_37 (by decide) ?_
        refine lv_iload_n hx hb dX8_add_39 rfl (lv_at hl 3 rfl) ?_
        refine lv_iload hx hb dX8_add_40 (lv_at hl 4 rfl) ?_
        refine xr_sL (n := 2) (As := [.int a3, .int a4]) (rest := [.int 8, .int a1, .ref (ad 0)]) fx (ct_X8_partOf l h) gX8_add_X8_partOf rfl rfl (by decide +kernel) ⟨Nat.le_of_ble_eq_true rfl, Nat.le_of_ble_eq_true rfl⟩ ⟨rfl, rfl⟩ hf hl.1 rfl (Nat.le_of_ble_eq_true rfl) dX8_add_42 (fun r5 h => ?_)
        refine xr_vV (n := 3) (As := [.int a1, .int 8, .long r5]) (rest := []) fx (ct_X8_adds l D ad cI cJ cR h) gX8_add_X8_adds rfl rfl (by decide +kernel) ⟨Nat.le_of_ble_eq_true rfl, Nat.le_of_ble_eq_true rfl⟩ ⟨rfl, rfl⟩ hf (ms_recv hK hP) hK hP hD hS hA hl.1 rfl (Nat.le_of_ble_eq_true rfl) dX8_add_45 (fun S6 H locs h hP hD hS => ?_)
        refine lv_iconst (v := 0) hx hb dX8_add_48 (by decide) ?_
        exact xr_rI fx hK hP hD hS h dX8_add_49
      · have h := h.2 c22
        refine lv_bipush (v := (-2)) hx hb dX8_add_25 (by decide) ?_
        exact xr_rI fx hK hP hD hS h dX8_add_27
    · have h := h.2 c11
      refine lv_iconst (v := (-1)) hx hb dX8_add_14 (by decide) ?_
      exact xr_rI fx hK hP hD hS h dX8_add_15
abbrev rm_X8_areSums : Room := { frames := 2, cells := 0, slots := 0, locals := 45 }
set_option maxHeartbeats 4000000 in
set_option maxRecDepth 100000 in
theorem ct_X8_areSums (l : Launch) (D : va_G) (ad : Nat → Nat) (cI cJ cR : ClassId) {S : ms_T} {a1 : Int32} {a2 : Int32} {a3 : Int32} {Q : Int32 → ms_T → Prop} (h : wp_X8_areSums S a1 a2 a3 Q) : xr_I l D (ms_ty cI cJ cR) (ms_w ad cI cJ) yX8_areSums wsX8_areSums rm_X8_areSums [.ref (ad 0), .int a1, .int a2, .int a3] S Q := by
  refine xr_eI (cc := cX8_areSums) (nL := 4) (ret := (some .boolean)) (own := RX8) (by decide) rfl rfl (Nat.le_of_ble_eq_true rfl) ?_
  intro p e s m args below meth c ls A fx hK hA hP hD hS hl
  have hl : lv_has ls 4 [(0, .ref (ad 0)), (1, .int a1), (2, .int a2), (3, .int a3)] := hl
  show W p l e rm_X8_areSums s m args below meth c s.heap [] 0 0 _ _
  obtain ⟨⟨hx, hb, hml, hown, hts⟩, hrt, hlk⟩ := id fx
  have hf : 0 ≤ rm_X8_areSums.cells ∧ 0 ≤ rm_X8_areSums.slots := ⟨Nat.zero_le _, Nat.zero_le _⟩
  unfold wp_X8_areSums at h
  refine lv_iload_n hx hb dX8_areSums_0 rfl (lv_at hl 1 rfl) ?_
  refine xr_sI (n := 1) (As := [.int a1]) (rest := []) fx (ct_X8_isSum l h) gX8_areSums_X8_isSum rfl rfl (by decide +kernel) ⟨Nat.le_of_ble_eq_true rfl, Nat.le_of_ble_eq_true rfl⟩ ⟨rfl, rfl⟩ hf hl.1 rfl (Nat.le_of_ble_eq_true rfl) dX8_areSums_1 (fun r1 h => ?_)
  refine lv_if_eq (tgt := 25) hx hb dX8_areSums_4 (by decide) (fun c4 => ?_) (fun c4 => ?_)
  · have h := h.1 c4
    refine lv_iconst (v := 0) hx hb dX8_areSums_25 (by decide) ?_
    exact xr_rZ fx rfl hK hP hD hS h dX8_areSums_26
  · have h := h.2 c4
    refine lv_iload_n hx hb dX8_areSums_7 rfl (lv_at hl 2 rfl) ?_
    refine xr_sI (n := 1) (As := [.int a2]) (rest := []) fx (ct_X8_isSum l h) gX8_areSums_X8_isSum rfl rfl (by decide +kernel) ⟨Nat.le_of_ble_eq_true rfl, Nat.le_of_ble_eq_true rfl⟩ ⟨rfl, rfl⟩ hf hl.1 rfl (Nat.le_of_ble_eq_true rfl) dX8_areSums_8 (fun r2 h => ?_)
    refine lv_if_eq (tgt := 25) hx hb dX8_areSums_11 (by decide) (fun c11 => ?_) (fun c11 => ?_)
    · have h := h.1 c11
      refine lv_iconst (v := 0) hx hb dX8_areSums_25 (by decide) ?_
      exact xr_rZ fx rfl hK hP hD hS h dX8_areSums_26
    · have h := h.2 c11
      refine lv_iload_n hx hb dX8_areSums_14 rfl (lv_at hl 3 rfl) ?_
      refine xr_sI (n := 1) (As := [.int a3]) (rest := []) fx (ct_X8_isSum l h) gX8_areSums_X8_isSum rfl rfl (by decide +kernel) ⟨Nat.le_of_ble_eq_true rfl, Nat.le_of_ble_eq_true rfl⟩ ⟨rfl, rfl⟩ hf hl.1 rfl (Nat.le_of_ble_eq_true rfl) dX8_areSums_15 (fun r3 h => ?_)
      refine lv_if_eq (tgt := 25) hx hb dX8_areSums_18 (by decide) (fun c18 => ?_) (fun c18 => ?_)
      · have h := h.1 c18
        refine lv_iconst (v := 0) hx hb dX8_areSums_25 (by decide) ?_
        exact xr_rZ fx rfl hK hP hD hS h dX8_areSums_26
      · have h := h.2 c18
        refine lv_iconst (v := 1) hx hb dX8_areSums_21 (by decide) ?_
        refine lv_goto (tgt := 26) hx hb dX8_areSums_22 (by decide) ?_
        exact xr_rZ fx rfl hK hP hD hS h dX8_areSums_26
abbrev rm_X8_times : Room := { frames := 3, cells := 0, slots := 0, locals := 68 }
set_option maxHeartbeats 4000000 in
set_option maxRecDepth 100000 in
theorem ct_X8_times (l : Launch) (D : va_G) (ad : Nat → Nat) (cI cJ cR : ClassId) {S : ms_T} {a1 : Int32} {a2 : Int32} {a3 : Int32} {Q : Int32 → ms_T → Prop} (h : wp_X8_times S a1 a2 a3 Q) : xr_I l D (ms_ty cI cJ cR) (ms_w ad cI cJ) yX8_times wsX8_times rm_X8_times [.ref (ad 0), .int a1, .int a2, .int a3] S Q := by
  refine xr_eI (cc := cX8_times) (nL := 4) (ret := (some .int)) (own := RX8) (by decide) rfl rfl (Nat.le_of_ble_eq_true rfl) ?_
  intro p e s m args below meth c ls A fx hK hA hP hD hS hl
  have hl : lv_has ls 4 [(0, .ref (ad 0)), (1, .int a1), (2, .int a2), (3, .int a3)] := hl
  show W p l e rm_X8_times s m args below meth c s.heap [] 0 0 _ _
  obtain ⟨⟨hx, hb, hml, hown, hts⟩, hrt, hlk⟩ := id fx
  have hf : 0 ≤ rm_X8_times.cells ∧ 0 ≤ rm_X8_times.slots := ⟨Nat.zero_le _, Nat.zero_le _⟩
  unfold wp_X8_times at h
  refine lv_aload_n hx hb dX8_times_0 rfl (lv_at hl 0 rfl) ?_
  refine lv_iload_n hx hb dX8_times_1 rfl (lv_at hl 1 rfl) ?_
  refine lv_iload_n hx hb dX8_times_2 rfl (lv_at hl 2 rfl) ?_
  refine lv_iload_n hx hb dX8_times_3 rfl (lv_at hl 3 rfl) ?_
  refine xr_vI (n := 3) (As := [.int a1, .int a2, .int a3]) (rest := []) fx (ct_X8_areSums l D ad cI cJ cR h) gX8_times_X8_areSums rfl rfl (by decide +kernel) ⟨Nat.le_of_ble_eq_true rfl, Nat.le_of_ble_eq_true rfl⟩ ⟨rfl, rfl⟩ hf (ms_recv hK hP) hK hP hD hS hA hl.1 rfl (Nat.le_of_ble_eq_true rfl) dX8_times_4 (fun r2 S1 H locs h hP hD hS => ?_)
  refine lv_if_ne (tgt := 12) hx hb dX8_times_7 (by decide) (fun c7 => ?_) (fun c7 => ?_)
  · have h := h.1 c7
    refine lv_aload_n hx hb dX8_times_12 rfl (lv_at hl 0 rfl) ?_
    refine lv_bipush (v := 8) hx hb dX8_times_13 (by decide) ?_
    refine lv_iload_n hx hb dX8_times_15 rfl (lv_at hl 2 rfl) ?_
    refine lv_iload_n hx hb dX8_times_16 rfl (lv_at hl 3 rfl) ?_
    refine xr_vV (n := 3) (As := [.int 8, .int a2, .int a3]) (rest := []) fx (ct_X8_multiplies l D ad cI cJ cR h) gX8_times_X8_multiplies rfl rfl (by decide +kernel) ⟨Nat.le_of_ble_eq_true rfl, Nat.le_of_ble_eq_true rfl⟩ ⟨rfl, rfl⟩ hf (ms_recv hK hP) hK hP hD hS hA hl.1 rfl (Nat.le_of_ble_eq_true rfl) dX8_times_17 (fun S3 H locs h hP hD hS => ?_)
    refine lv_aload_n hx hb dX8_times_20 rfl (lv_at hl 0 rfl) ?_
    refine lv_iload_n hx hb dX8_times_21 rfl (lv_at hl 1 rfl) ?_
    refine lv_bipush (v := 8) hx hb dX8_times_22 (by decide) ?_
    refine xr_vV (n := 2) (As := [.int a1, .int 8]) (rest := []) fx (ct_X8_copies l D ad cI cJ cR h) gX8_times_X8_copies rfl rfl (by decide +kernel) ⟨Nat.le_of_ble_eq_true rfl, Nat.le_of_ble_eq_true rfl⟩ ⟨rfl, rfl⟩ hf (ms_recv hK hP) hK hP hD hS hA hl.1 rfl (Nat.le_of_ble_eq_true rfl) dX8_times_24 (fun S4 H locs h hP hD hS => ?_)
    refine lv_iconst (v := 0) hx hb dX8_times_27 (by decide) ?_
    exact xr_rI fx hK hP hD hS h dX8_times_28
  · have h := h.2 c7
    refine lv_iconst (v := (-1)) hx hb dX8_times_10 (by decide) ?_
    exact xr_rI fx hK hP hD hS h dX8_times_11
abbrev rm_X8_bracketOf : Room := { frames := 2, cells := 0, slots := 0, locals := 50 }
set_option maxHeartbeats 4000000 in
set_option maxRecDepth 100000 in
theorem ct_X8_bracketOf (l : Launch) (D : va_G) (ad : Nat → Nat) (cI cJ cR : ClassId) {S : ms_T} {a1 : Int32} {a2 : Int32} {a3 : Int32} {Q : ms_T → Prop} (h : wp_X8_bracketOf S a1 a2 a3 Q) : xr_V l D (ms_ty cI cJ cR) (ms_w ad cI cJ) yX8_bracketOf wsX8_bracketOf rm_X8_bracketOf [.ref (ad 0), .int a1, .int a2, .int a3] S Q := by
  refine xr_eV (cc := cX8_bracketOf) (nL := 4) (ret := none) (own := RX8) (by decide) rfl rfl (Nat.le_of_ble_eq_true rfl) ?_
  intro p e s m args below meth c ls A fx hK hA hP hD hS hl
  have hl : lv_has ls 4 [(0, .ref (ad 0)), (1, .int a1), (2, .int a2), (3, .int a3)] := hl
  show W p l e rm_X8_bracketOf s m args below meth c s.heap [] 0 0 _ _
  obtain ⟨⟨hx, hb, hml, hown, hts⟩, hrt, hlk⟩ := id fx
  have hf : 0 ≤ rm_X8_bracketOf.cells ∧ 0 ≤ rm_X8_bracketOf.slots := ⟨Nat.zero_le _, Nat.zero_le _⟩
  unfold wp_X8_bracketOf at h
  refine lv_aload_n hx hb dX8_bracketOf_0 rfl (lv_at hl 0 rfl) ?_
  refine lv_bipush (v := 8) hx hb dX8_bracketOf_1 (by decide) ?_
  refine lv_iload_n hx hb dX8_bracketOf_3 rfl (lv_at hl 2 rfl) ?_
  refine lv_iload_n hx hb dX8_bracketOf_4 rfl (lv_at hl 3 rfl) ?_
  refine xr_vV (n := 3) (As := [.int 8, .int a2, .int a3]) (rest := []) fx (ct_X8_multiplies l D ad cI cJ cR h) gX8_bracketOf_X8_multiplies rfl rfl (by decide +kernel) ⟨Nat.le_of_ble_eq_true rfl, Nat.le_of_ble_eq_true rfl⟩ ⟨rfl, rfl⟩ hf (ms_recv hK hP) hK hP hD hS hA hl.1 rfl (Nat.le_of_ble_eq_true rfl) dX8_bracketOf_5 (fun S1 H locs h hP hD hS => ?_)
  refine lv_aload_n hx hb dX8_bracketOf_8 rfl (lv_at hl 0 rfl) ?_
  refine lv_bipush (v := 9) hx hb dX8_bracketOf_9 (by decide) ?_
  refine lv_iload_n hx hb dX8_bracketOf_11 rfl (lv_at hl 3 rfl) ?_
  refine lv_iload_n hx hb dX8_bracketOf_12 rfl (lv_at hl 2 rfl) ?_
  refine xr_vV (n := 3) (As := [.int 9, .int a3, .int a2]) (rest := []) fx (ct_X8_multiplies l D ad cI cJ cR h) gX8_bracketOf_X8_multiplies rfl rfl (by decide +kernel) ⟨Nat.le_of_ble_eq_true rfl, Nat.le_of_ble_eq_true rfl⟩ ⟨rfl, rfl⟩ hf (ms_recv hK hP) hK hP hD hS hA hl.1 rfl (Nat.le_of_ble_eq_true rfl) dX8_bracketOf_13 (fun S2 H locs h hP hD hS => ?_)
  refine lv_aload_n hx hb dX8_bracketOf_16 rfl (lv_at hl 0 rfl) ?_
  refine lv_bipush (v := 8) hx hb dX8_bracketOf_17 (by decide) ?_
  refine lv_bipush (v := 9) hx hb dX8_bracketOf_19 (by decide) ?_
  refine lv_ldc2 (v := 2147483646) hx hb hown (hts (.constantLong RX8 175 (2147483646)) (by decide +kernel)) dX8_bracketOf_21 ?_
  refine xr_vV (n := 3) (As := [.int 8, .int 9, .long 2147483646]) (rest := []) fx (ct_X8_adds l D ad cI cJ cR h) gX8_bracketOf_X8_adds rfl rfl (by decide +kernel) ⟨Nat.le_of_ble_eq_true rfl, Nat.le_of_ble_eq_true rfl⟩ ⟨rfl, rfl⟩ hf (ms_recv hK hP) hK hP hD hS hA hl.1 rfl (Nat.le_of_ble_eq_true rfl) dX8_bracketOf_24 (fun S3 H locs h hP hD hS => ?_)
  refine lv_aload_n hx hb dX8_bracketOf_27 rfl (lv_at hl 0 rfl) ?_
  refine lv_iload_n hx hb dX8_bracketOf_28 rfl (lv_at hl 1 rfl) ?_
  refine lv_bipush (v := 8) hx hb dX8_bracketOf_29 (by decide) ?_
  refine xr_vV (n := 2) (As := [.int a1, .int 8]) (rest := []) fx (ct_X8_copies l D ad cI cJ cR h) gX8_bracketOf_X8_copies rfl rfl (by decide +kernel) ⟨Nat.le_of_ble_eq_true rfl, Nat.le_of_ble_eq_true rfl⟩ ⟨rfl, rfl⟩ hf (ms_recv hK hP) hK hP hD hS hA hl.1 rfl (Nat.le_of_ble_eq_true rfl) dX8_bracketOf_31 (fun S4 H locs h hP hD hS => ?_)
  exact xr_rV fx hK hP hD hS h dX8_bracketOf_34
abbrev rm_X8_bracket : Room := { frames := 3, cells := 0, slots := 0, locals := 73 }
set_option maxHeartbeats 4000000 in
set_option maxRecDepth 100000 in
theorem ct_X8_bracket (l : Launch) (D : va_G) (ad : Nat → Nat) (cI cJ cR : ClassId) {S : ms_T} {a1 : Int32} {a2 : Int32} {a3 : Int32} {Q : Int32 → ms_T → Prop} (h : wp_X8_bracket S a1 a2 a3 Q) : xr_I l D (ms_ty cI cJ cR) (ms_w ad cI cJ) yX8_bracket wsX8_bracket rm_X8_bracket [.ref (ad 0), .int a1, .int a2, .int a3] S Q := by
  refine xr_eI (cc := cX8_bracket) (nL := 4) (ret := (some .int)) (own := RX8) (by decide) rfl rfl (Nat.le_of_ble_eq_true rfl) ?_
  intro p e s m args below meth c ls A fx hK hA hP hD hS hl
  have hl : lv_has ls 4 [(0, .ref (ad 0)), (1, .int a1), (2, .int a2), (3, .int a3)] := hl
  show W p l e rm_X8_bracket s m args below meth c s.heap [] 0 0 _ _
  obtain ⟨⟨hx, hb, hml, hown, hts⟩, hrt, hlk⟩ := id fx
  have hf : 0 ≤ rm_X8_bracket.cells ∧ 0 ≤ rm_X8_bracket.slots := ⟨Nat.zero_le _, Nat.zero_le _⟩
  unfold wp_X8_bracket at h
  refine lv_aload_n hx hb dX8_bracket_0 rfl (lv_at hl 0 rfl) ?_
  refine lv_iload_n hx hb dX8_bracket_1 rfl (lv_at hl 1 rfl) ?_
  refine lv_iload_n hx hb dX8_bracket_2 rfl (lv_at hl 2 rfl) ?_
  refine lv_iload_n hx hb dX8_bracket_3 rfl (lv_at hl 3 rfl) ?_
  refine xr_vI (n := 3) (As := [.int a1, .int a2, .int a3]) (rest := []) fx (ct_X8_areSums l D ad cI cJ cR h) gX8_bracket_X8_areSums rfl rfl (by decide +kernel) ⟨Nat.le_of_ble_eq_true rfl, Nat.le_of_ble_eq_true rfl⟩ ⟨rfl, rfl⟩ hf (ms_recv hK hP) hK hP hD hS hA hl.1 rfl (Nat.le_of_ble_eq_true rfl) dX8_bracket_4 (fun r2 S1 H locs h hP hD hS => ?_)
  refine lv_if_ne (tgt := 12) hx hb dX8_bracket_7 (by decide) (fun c7 => ?_) (fun c7 => ?_)
  · have h := h.1 c7
    refine lv_aload_n hx hb dX8_bracket_12 rfl (lv_at hl 0 rfl) ?_
    refine lv_iload_n hx hb dX8_bracket_13 rfl (lv_at hl 1 rfl) ?_
    refine lv_iload_n hx hb dX8_bracket_14 rfl (lv_at hl 2 rfl) ?_
    refine lv_iload_n hx hb dX8_bracket_15 rfl (lv_at hl 3 rfl) ?_
    refine xr_vV (n := 3) (As := [.int a1, .int a2, .int a3]) (rest := []) fx (ct_X8_bracketOf l D ad cI cJ cR h) gX8_bracket_X8_bracketOf rfl rfl (by decide +kernel) ⟨Nat.le_of_ble_eq_true rfl, Nat.le_of_ble_eq_true rfl⟩ ⟨rfl, rfl⟩ hf (ms_recv hK hP) hK hP hD hS hA hl.1 rfl (Nat.le_of_ble_eq_true rfl) dX8_bracket_16 (fun S3 H locs h hP hD hS => ?_)
    refine lv_iconst (v := 0) hx hb dX8_bracket_19 (by decide) ?_
    exact xr_rI fx hK hP hD hS h dX8_bracket_20
  · have h := h.2 c7
    refine lv_iconst (v := (-1)) hx hb dX8_bracket_10 (by decide) ?_
    exact xr_rI fx hK hP hD hS h dX8_bracket_11
abbrev rm_X8_shuffle : Room := { frames := 3, cells := 0, slots := 0, locals := 68 }
theorem in_X8_shuffle : ∀ w ∈ wsX80, w ∈ wsX8_shuffle := by decide +kernel
set_option maxHeartbeats 4000000 in
set_option maxRecDepth 100000 in
theorem kw_X8_shuffle_120 {p : Program} {l : Launch} {e : Env} {s : State} {m : MethodId} {args : Array Value} {below : List Frame} {meth : Method} {c : Code} {D : va_G} {ad : Nat → Nat} {cI cJ cR : ClassId} {A : Nat → Prop} {K15 : ms_T → Int32 → Int32 → Int32 → Int32 → Prop} {K39 : ms_T → Int32 → Int32 → Int32 → Int32 → Int32 → Int64 → Int32 → Prop} {K60 : ms_T → Int32 → Int32 → Int32 → Int32 → Int32 → Int64 → Int32 → Int32 → Int32 → Int32 → Int32 → Prop} {Q : Int32 → ms_T → Prop} {S : ms_T} {v1 : Int32} {v2 : Int32} {v3 : Int32} {v4 : Int32} {v5 : Int32} {v6 : Int64} {v8 : Int32} {v9 : Int32} {v10 : Int32} {v11 : Int32} {v12 : Int32} (fx : xr_Fx p m c meth cX8_shuffle 13 s args wsX8_shuffle RX8 (some .int)) (hK : xr_K D (ms_ty cI cJ cR) s) (hA : ∀ q, s.heap.size ≤ q → A q) (k15 : ∀ (S : ms_T) (v1 : Int32) (v2 : Int32) (v3 : Int32) (v4 : Int32) {H : Heap} {locs : List Loc} {ls : Array Slot}, va_P D vwCl (ms_w ad cI cJ S) H → va_D A (ms_w ad cI cJ S) → va_S A s.heap H locs → lv_has ls 13 [(0, .ref (ad 0)), (1, .int v1), (2, .int v2), (3, .int v3), (4, .int v4)] → K15 S v1 v2 v3 v4 → W p l e rm_X8_shuffle s m args below meth c H locs 0 0 (MQ below (va_Qi Q (xr_B D (ms_ty cI cJ cR) (ms_w ad cI cJ) A) A) args s 0 0 A) (F0 m 15 ls [])) (k39 : ∀ (S : ms_T) (v1 : Int32) (v2 : Int32) (v3 : Int32) (v4 : Int32) (v5 : Int32) (v6 : Int64) (v8 : Int32) {H : Heap} {locs : List Loc} {ls : Array Slot}, va_P D vwCl (ms_w ad cI cJ S) H → va_D A (ms_w ad cI cJ S) → va_S A s.heap H locs → lv_has ls 13 [(0, .ref (ad 0)), (1, .int v1), (2, .int v2), (3, .int v3), (4, .int v4), (5, .int v5), (6, .long v6), (8, .int v8)] → K39 S v1 v2 v3 v4 v5 v6 v8 → W p l e rm_X8_shuffle s m args below meth c H locs 0 0 (MQ below (va_Qi Q (xr_B D (ms_ty cI cJ cR) (ms_w ad cI cJ) A) A) args s 0 0 A) (F0 m 39 ls [])) (k60 : ∀ (S : ms_T) (v1 : Int32) (v2 : Int32) (v3 : Int32) (v4 : Int32) (v5 : Int32) (v6 : Int64) (v8 : Int32) (v9 : Int32) (v10 : Int32) (v11 : Int32) (v12 : Int32) {H : Heap} {locs : List Loc} {ls : Array Slot}, va_P D vwCl (ms_w ad cI cJ S) H → va_D A (ms_w ad cI cJ S) → va_S A s.heap H locs → lv_has ls 13 [(0, .ref (ad 0)), (1, .int v1), (2, .int v2), (3, .int v3), (4, .int v4), (5, .int v5), (6, .long v6), (8, .int v8), (9, .int v9), (10, .int v10), (11, .int v11), (12, .int v12)] → K60 S v1 v2 v3 v4 v5 v6 v8 v9 v10 v11 v12 → W p l e rm_X8_shuffle s m args below meth c H locs 0 0 (MQ below (va_Qi Q (xr_B D (ms_ty cI cJ cR) (ms_w ad cI cJ) A) A) args s 0 0 A) (F0 m 60 ls [])) {H : Heap} {locs : List Loc} {ls : Array Slot} (hP : va_P D vwCl (ms_w ad cI cJ S) H) (hD : va_D A (ms_w ad cI cJ S)) (hS : va_S A s.heap H locs) (hl : lv_has ls 13 [(0, .ref (ad 0)), (1, .int v1), (2, .int v2), (3, .int v3), (4, .int v4), (5, .int v5), (6, .long v6), (8, .int v8), (9, .int v9), (10, .int v10), (11, .int v11), (12, .int v12)]) (h : wp_X8_shuffle_120 K15 K39 K60 Q S v1 v2 v3 v4 v5 v6 v8 v9 v10 v11 v12) : W p l e rm_X8_shuffle s m args below meth c H locs 0 0 (MQ below (va_Qi Q (xr_B D (ms_ty cI cJ cR) (ms_w ad cI cJ) A) A) args s 0 0 A) (F0 m 120 ls []) := by
  obtain ⟨⟨hx, hb, hml, hown, hts⟩, hrt, hlk⟩ := id fx
  have hf : 0 ≤ rm_X8_shuffle.cells ∧ 0 ≤ rm_X8_shuffle.slots := ⟨Nat.zero_le _, Nat.zero_le _⟩
  unfold wp_X8_shuffle_120 at h
  obtain ⟨v12_1, ev12_1⟩ : ∃ z : Int32, z = v12 + 1 := ⟨_, rfl⟩
  have h := h v12_1 ev12_1
  refine lv_iinc (v := v12_1) (lv' := [(12, .int v12_1), (0, .ref (ad 0)), (1, .int v1), (2, .int v2), (3, .int v3), (4, .int v4), (5, .int v5), (6, .long v6), (8, .int v8), (9, .int v9), (10, .int v10), (11, .int v11)]) hx hb dX8_shuffle_120 hl (k := 11) rfl (by rw [ev12_1]; rfl) (by decide) rfl (fun ls hl => ?_)
  refine lv_goto (tgt := 60) hx hb dX8_shuffle_123 (by decide) ?_
  exact k60 _ _ _ _ _ _ _ _ _ _ _ _ hP hD hS (lv_sub hl [1, 2, 3, 4, 5, 6, 7, 8, 9, 10, 11, 0] rfl) h
set_option maxHeartbeats 4000000 in
set_option maxRecDepth 100000 in
theorem kb_X8_shuffle_60 {p : Program} {l : Launch} {e : Env} {s : State} {m : MethodId} {args : Array Value} {below : List Frame} {meth : Method} {c : Code} {D : va_G} {ad : Nat → Nat} {cI cJ cR : ClassId} {A : Nat → Prop} {K15 : ms_T → Int32 → Int32 → Int32 → Int32 → Prop} {K39 : ms_T → Int32 → Int32 → Int32 → Int32 → Int32 → Int64 → Int32 → Prop} {K60 : ms_T → Int32 → Int32 → Int32 → Int32 → Int32 → Int64 → Int32 → Int32 → Int32 → Int32 → Int32 → Prop} {Q : Int32 → ms_T → Prop} {S : ms_T} {v1 : Int32} {v2 : Int32} {v3 : Int32} {v4 : Int32} {v5 : Int32} {v6 : Int64} {v8 : Int32} {v9 : Int32} {v10 : Int32} {v11 : Int32} {v12 : Int32} (fx : xr_Fx p m c meth cX8_shuffle 13 s args wsX8_shuffle RX8 (some .int)) (hK : xr_K D (ms_ty cI cJ cR) s) (hA : ∀ q, s.heap.size ≤ q → A q) (k15 : ∀ (S : ms_T) (v1 : Int32) (v2 : Int32) (v3 : Int32) (v4 : Int32) {H : Heap} {locs : List Loc} {ls : Array Slot}, va_P D vwCl (ms_w ad cI cJ S) H → va_D A (ms_w ad cI cJ S) → va_S A s.heap H locs → lv_has ls 13 [(0, .ref (ad 0)), (1, .int v1), (2, .int v2), (3, .int v3), (4, .int v4)] → K15 S v1 v2 v3 v4 → W p l e rm_X8_shuffle s m args below meth c H locs 0 0 (MQ below (va_Qi Q (xr_B D (ms_ty cI cJ cR) (ms_w ad cI cJ) A) A) args s 0 0 A) (F0 m 15 ls [])) (k39 : ∀ (S : ms_T) (v1 : Int32) (v2 : Int32) (v3 : Int32) (v4 : Int32) (v5 : Int32) (v6 : Int64) (v8 : Int32) {H : Heap} {locs : List Loc} {ls : Array Slot}, va_P D vwCl (ms_w ad cI cJ S) H → va_D A (ms_w ad cI cJ S) → va_S A s.heap H locs → lv_has ls 13 [(0, .ref (ad 0)), (1, .int v1), (2, .int v2), (3, .int v3), (4, .int v4), (5, .int v5), (6, .long v6), (8, .int v8)] → K39 S v1 v2 v3 v4 v5 v6 v8 → W p l e rm_X8_shuffle s m args below meth c H locs 0 0 (MQ below (va_Qi Q (xr_B D (ms_ty cI cJ cR) (ms_w ad cI cJ) A) A) args s 0 0 A) (F0 m 39 ls [])) (k60 : ∀ (S : ms_T) (v1 : Int32) (v2 : Int32) (v3 : Int32) (v4 : Int32) (v5 : Int32) (v6 : Int64) (v8 : Int32) (v9 : Int32) (v10 : Int32) (v11 : Int32) (v12 : Int32) {H : Heap} {locs : List Loc} {ls : Array Slot}, va_P D vwCl (ms_w ad cI cJ S) H → va_D A (ms_w ad cI cJ S) → va_S A s.heap H locs → lv_has ls 13 [(0, .ref (ad 0)), (1, .int v1), (2, .int v2), (3, .int v3), (4, .int v4), (5, .int v5), (6, .long v6), (8, .int v8), (9, .int v9), (10, .int v10), (11, .int v11), (12, .int v12)] → K60 S v1 v2 v3 v4 v5 v6 v8 v9 v10 v11 v12 → W p l e rm_X8_shuffle s m args below meth c H locs 0 0 (MQ below (va_Qi Q (xr_B D (ms_ty cI cJ cR) (ms_w ad cI cJ) A) A) args s 0 0 A) (F0 m 60 ls [])) {H : Heap} {locs : List Loc} {ls : Array Slot} (hP : va_P D vwCl (ms_w ad cI cJ S) H) (hD : va_D A (ms_w ad cI cJ S)) (hS : va_S A s.heap H locs) (hl : lv_has ls 13 [(0, .ref (ad 0)), (1, .int v1), (2, .int v2), (3, .int v3), (4, .int v4), (5, .int v5), (6, .long v6), (8, .int v8), (9, .int v9), (10, .int v10), (11, .int v11), (12, .int v12)]) (h : wb_X8_shuffle_60 K15 K39 K60 Q S v1 v2 v3 v4 v5 v6 v8 v9 v10 v11 v12) : W p l e rm_X8_shuffle s m args below meth c H locs 0 0 (MQ below (va_Qi Q (xr_B D (ms_ty cI cJ cR) (ms_w ad cI cJ) A) A) args s 0 0 A) (F0 m 60 ls []) := by
  obtain ⟨⟨hx, hb, hml, hown, hts⟩, hrt, hlk⟩ := id fx
  have hf : 0 ≤ rm_X8_shuffle.cells ∧ 0 ≤ rm_X8_shuffle.slots := ⟨Nat.zero_le _, Nat.zero_le _⟩
  unfold wb_X8_shuffle_60 at h
  refine lv_iload hx hb dX8_shuffle_60 (lv_at hl 11 rfl) ?_
  refine lv_iload hx hb dX8_shuffle_62 (lv_at hl 5 rfl) ?_
  refine lv_icmp_ge (tgt := 126) hx hb dX8_shuffle_64 (by decide) (fun c64 => ?_) (fun c64 => ?_)
  · have h := h.1 c64
    refine lv_lload hx hb dX8_shuffle_126 (lv_at hl 6 rfl) ?_
    refine lv_aload_n hx hb dX8_shuffle_128 rfl (lv_at hl 0 rfl) ?_
    refine ms_get 6 (v := .ref (ad 15)) fx in_X8_shuffle (by decide) rfl (by decide +kernel) rfl hK hP dX8_shuffle_129 ?_
    refine lv_sipush (v := 364) hx hb dX8_shuffle_132 (by decide) ?_
    refine lv_iload_n hx hb dX8_shuffle_135 rfl (lv_at hl 2 rfl) ?_
    refine lv_imul hx hb dX8_shuffle_136 ?_
    refine lv_aload_n hx hb dX8_shuffle_137 rfl (lv_at hl 0 rfl) ?_
    refine ms_get 4 (v := .ref (ad 2)) fx in_X8_shuffle (by decide) rfl (by decide +kernel) rfl hK hP dX8_shuffle_138 ?_
    refine lv_iload hx hb dX8_shuffle_141 (lv_at hl 10 rfl) ?_
    obtain ⟨hi2, h⟩ := h
    refine ms_iald 1 (by decide) fx hK hP rfl hi2 dX8_shuffle_143 ?_
    refine lv_iadd hx hb dX8_shuffle_144 ?_
    refine lv_iload hx hb dX8_shuffle_145 (lv_at hl 8 rfl) ?_
    refine lv_iadd hx hb dX8_shuffle_147 ?_
    obtain ⟨hi3, h⟩ := h
    refine ms_lald 0 (by decide) fx hK hP rfl hi3 dX8_shuffle_148 ?_
    refine lv_aload_n hx hb dX8_shuffle_149 rfl (lv_at hl 0 rfl) ?_
    refine ms_get 6 (v := .ref (ad 15)) fx in_X8_shuffle (by decide) rfl (by decide +kernel) rfl hK hP dX8_shuffle_150 ?_
    refine lv_sipush (v := 364) hx hb dX8_shuffle_153 (by decide) ?_
    refine lv_iload_n hx hb dX8_shuffle_156 rfl (lv_at hl 3 rfl) ?_
    refine lv_imul hx hb dX8_shuffle_157 ?_
    refine lv_aload_n hx hb dX8_shuffle_158 rfl (lv_at hl 0 rfl) ?_
    refine ms_get 4 (v := .ref (ad 2)) fx in_X8_shuffle (by decide) rfl (by decide +kernel) rfl hK hP dX8_shuffle_159 ?_
    refine lv_iload hx hb dX8_shuffle_162 (lv_at hl 5 rfl) ?_
    refine lv_iload hx hb dX8_shuffle_164 (lv_at hl 10 rfl) ?_
    refine lv_isub hx hb dX8_shuffle_166 ?_
    obtain ⟨hi4, h⟩ := h
    refine ms_iald 1 (by decide) fx hK hP rfl hi4 dX8_shuffle_167 ?_
    refine lv_iadd hx hb dX8_shuffle_168 ?_
    refine lv_iload hx hb dX8_shuffle_169 (lv_at hl 9 rfl) ?_
    refine lv_iadd hx hb dX8_shuffle_171 ?_
    obtain ⟨hi5, h⟩ := h
    refine ms_lald 0 (by decide) fx hK hP rfl hi5 dX8_shuffle_172 ?_
    refine lv_lmul hx hb dX8_shuffle_173 ?_
    refine lv_ladd hx hb dX8_shuffle_174 ?_
    refine lv_ldc2 (v := 2147483647) hx hb hown (hts (.constantLong RX8 3 (2147483647)) (by decide +kernel)) dX8_shuffle_175 ?_
    refine lv_lrem hx hb dX8_shuffle_178 (by decide) ?_
    refine lv_topl (fun v6_6 ev6_6 => ?_)
    have h := h v6_6 ev6_6
    refine lv_lstore (lv' := [(6, .long v6_6), (0, .ref (ad 0)), (1, .int v1), (2, .int v2), (3, .int v3), (4, .int v4), (5, .int v5), (8, .int v8), (9, .int v9), (10, .int v10), (11, .int v11), (12, .int v12)]) hx hb dX8_shuffle_179 hl (by decide) rfl (fun ls hl => ?_)
    obtain ⟨v8_7, ev8_7⟩ : ∃ z : Int32, z = v8 + 1 := ⟨_, rfl⟩
    have h := h v8_7 ev8_7
    refine lv_iinc (v := v8_7) (lv' := [(8, .int v8_7), (6, .long v6_6), (0, .ref (ad 0)), (1, .int v1), (2, .int v2), (3, .int v3), (4, .int v4), (5, .int v5), (9, .int v9), (10, .int v10), (11, .int v11), (12, .int v12)]) hx hb dX8_shuffle_181 hl (k := 7) rfl (by rw [ev8_7]; rfl) (by decide) rfl (fun ls hl => ?_)
    refine lv_goto (tgt := 39) hx hb dX8_shuffle_184 (by decide) ?_
    exact k39 _ _ _ _ _ _ _ _ hP hD hS (lv_sub hl [2, 3, 4, 5, 6, 7, 1, 0] rfl) h
  · have h := h.2 c64
    refine lv_iload hx hb dX8_shuffle_67 (lv_at hl 7 rfl) ?_
    refine lv_iload hx hb dX8_shuffle_69 (lv_at hl 11 rfl) ?_
    refine lv_ishr hx hb dX8_shuffle_71 ?_
    refine lv_iconst (v := 1) hx hb dX8_shuffle_72 (by decide) ?_
    refine lv_iand hx hb dX8_shuffle_73 ?_
    refine lv_iconst (v := 1) hx hb dX8_shuffle_74 (by decide) ?_
    refine lv_icmp_ne (tgt := 102) hx hb dX8_shuffle_75 (by decide) (fun c75 => ?_) (fun c75 => ?_)
    · have h := h.1 c75
      refine lv_aload_n hx hb dX8_shuffle_102 rfl (lv_at hl 0 rfl) ?_
      refine ms_get 0 (v := .int (S.1 0)) fx in_X8_shuffle (by decide) rfl (by decide +kernel) rfl hK hP dX8_shuffle_103 ?_
      refine lv_iload hx hb dX8_shuffle_106 (lv_at hl 9 rfl) ?_
      refine lv_imul hx hb dX8_shuffle_108 ?_
      refine lv_aload_n hx hb dX8_shuffle_109 rfl (lv_at hl 0 rfl) ?_
      refine lv_iload hx hb dX8_shuffle_110 (lv_at hl 4 rfl) ?_
      refine lv_iload hx hb dX8_shuffle_112 (lv_at hl 11 rfl) ?_
      refine xr_vI (n := 2) (As := [.int v4, .int v12]) (rest := [.int ((S.1 0) * v10)]) fx (ct_X8_letterAt l D ad cI cJ cR h) gX8_shuffle_X8_letterAt rfl rfl (by decide +kernel) ⟨Nat.le_of_ble_eq_true rfl, Nat.le_of_ble_eq_true rfl⟩ ⟨rfl, rfl⟩ hf (ms_recv hK hP) hK hP hD hS hA hl.1 rfl (Nat.le_of_ble_eq_true rfl) dX8_shuffle_114 (fun r9 S8 H locs h hP hD hS => ?_)
      refine lv_iadd hx hb dX8_shuffle_117 ?_
      refine lv_topi (fun v10_10 ev10_10 => ?_)
      have h := h v10_10 ev10_10
      refine lv_istore (lv' := [(10, .int v10_10), (0, .ref (ad 0)), (1, .int v1), (2, .int v2), (3, .int v3), (4, .int v4), (5, .int v5), (6, .long v6), (8, .int v8), (9, .int v9), (11, .int v11), (12, .int v12)]) hx hb dX8_shuffle_118 hl (by decide) rfl (fun ls hl => ?_)
      exact kw_X8_shuffle_120 fx hK hA k15 k39 k60 hP hD hS (lv_sub hl [1, 2, 3, 4, 5, 6, 7, 8, 9, 0, 10, 11] rfl) h
    · have h := h.2 c75
      refine lv_aload_n hx hb dX8_shuffle_78 rfl (lv_at hl 0 rfl) ?_
      refine ms_get 0 (v := .int (S.1 0)) fx in_X8_shuffle (by decide) rfl (by decide +kernel) rfl hK hP dX8_shuffle_79 ?_
      refine lv_iload hx hb dX8_shuffle_82 (lv_at hl 8 rfl) ?_
      refine lv_imul hx hb dX8_shuffle_84 ?_
      refine lv_aload_n hx hb dX8_shuffle_85 rfl (lv_at hl 0 rfl) ?_
      refine lv_iload hx hb dX8_shuffle_86 (lv_at hl 4 rfl) ?_
      refine lv_iload hx hb dX8_shuffle_88 (lv_at hl 11 rfl) ?_
      refine xr_vI (n := 2) (As := [.int v4, .int v12]) (rest := [.int ((S.1 0) * v9)]) fx (ct_X8_letterAt l D ad cI cJ cR h) gX8_shuffle_X8_letterAt rfl rfl (by decide +kernel) ⟨Nat.le_of_ble_eq_true rfl, Nat.le_of_ble_eq_true rfl⟩ ⟨rfl, rfl⟩ hf (ms_recv hK hP) hK hP hD hS hA hl.1 rfl (Nat.le_of_ble_eq_true rfl) dX8_shuffle_90 (fun r12 S11 H locs h hP hD hS => ?_)
      refine lv_iadd hx hb dX8_shuffle_93 ?_
      refine lv_topi (fun v9_13 ev9_13 => ?_)
      have h := h v9_13 ev9_13
      refine lv_istore (lv' := [(9, .int v9_13), (0, .ref (ad 0)), (1, .int v1), (2, .int v2), (3, .int v3), (4, .int v4), (5, .int v5), (6, .long v6), (8, .int v8), (10, .int v10), (11, .int v11), (12, .int v12)]) hx hb dX8_shuffle_94 hl (by decide) rfl (fun ls hl => ?_)
      obtain ⟨v11_14, ev11_14⟩ : ∃ z : Int32, z = v11 + 1 := ⟨_, rfl⟩
      have h := h v11_14 ev11_14
      refine lv_iinc (v := v11_14) (lv' := [(11, .int v11_14), (9, .int v9_13), (0, .ref (ad 0)), (1, .int v1), (2, .int v2), (3, .int v3), (4, .int v4), (5, .int v5), (6, .long v6), (8, .int v8), (10, .int v10), (12, .int v12)]) hx hb dX8_shuffle_96 hl (k := 10) rfl (by rw [ev11_14]; rfl) (by decide) rfl (fun ls hl => ?_)
      refine lv_goto (tgt := 120) hx hb dX8_shuffle_99 (by decide) ?_
      exact kw_X8_shuffle_120 fx hK hA k15 k39 k60 hP hD hS (lv_sub hl [2, 3, 4, 5, 6, 7, 8, 9, 1, 10, 0, 11] rfl) h
theorem kw_X8_shuffle_60 {p : Program} {l : Launch} {e : Env} {s : State} {m : MethodId} {args : Array Value} {below : List Frame} {meth : Method} {c : Code} {D : va_G} {ad : Nat → Nat} {cI cJ cR : ClassId} {A : Nat → Prop} {K15 : ms_T → Int32 → Int32 → Int32 → Int32 → Prop} {K39 : ms_T → Int32 → Int32 → Int32 → Int32 → Int32 → Int64 → Int32 → Prop} {Q : Int32 → ms_T → Prop} (fx : xr_Fx p m c meth cX8_shuffle 13 s args wsX8_shuffle RX8 (some .int)) (hK : xr_K D (ms_ty cI cJ cR) s) (hA : ∀ q, s.heap.size ≤ q → A q) (k15 : ∀ (S : ms_T) (v1 : Int32) (v2 : Int32) (v3 : Int32) (v4 : Int32) {H : Heap} {locs : List Loc} {ls : Array Slot}, va_P D vwCl (ms_w ad cI cJ S) H → va_D A (ms_w ad cI cJ S) → va_S A s.heap H locs → lv_has ls 13 [(0, .ref (ad 0)), (1, .int v1), (2, .int v2), (3, .int v3), (4, .int v4)] → K15 S v1 v2 v3 v4 → W p l e rm_X8_shuffle s m args below meth c H locs 0 0 (MQ below (va_Qi Q (xr_B D (ms_ty cI cJ cR) (ms_w ad cI cJ) A) A) args s 0 0 A) (F0 m 15 ls [])) (k39 : ∀ (S : ms_T) (v1 : Int32) (v2 : Int32) (v3 : Int32) (v4 : Int32) (v5 : Int32) (v6 : Int64) (v8 : Int32) {H : Heap} {locs : List Loc} {ls : Array Slot}, va_P D vwCl (ms_w ad cI cJ S) H → va_D A (ms_w ad cI cJ S) → va_S A s.heap H locs → lv_has ls 13 [(0, .ref (ad 0)), (1, .int v1), (2, .int v2), (3, .int v3), (4, .int v4), (5, .int v5), (6, .long v6), (8, .int v8)] → K39 S v1 v2 v3 v4 v5 v6 v8 → W p l e rm_X8_shuffle s m args below meth c H locs 0 0 (MQ below (va_Qi Q (xr_B D (ms_ty cI cJ cR) (ms_w ad cI cJ) A) A) args s 0 0 A) (F0 m 39 ls [])) : ∀ (n : Nat) (S : ms_T) (v1 : Int32) (v2 : Int32) (v3 : Int32) (v4 : Int32) (v5 : Int32) (v6 : Int64) (v8 : Int32) (v9 : Int32) (v10 : Int32) (v11 : Int32) (v12 : Int32) {H : Heap} {locs : List Loc} {ls : Array Slot}, va_P D vwCl (ms_w ad cI cJ S) H → va_D A (ms_w ad cI cJ S) → va_S A s.heap H locs → lv_has ls 13 [(0, .ref (ad 0)), (1, .int v1), (2, .int v2), (3, .int v3), (4, .int v4), (5, .int v5), (6, .long v6), (8, .int v8), (9, .int v9), (10, .int v10), (11, .int v11), (12, .int v12)] → wp_X8_shuffle_60 K15 K39 Q n S v1 v2 v3 v4 v5 v6 v8 v9 v10 v11 v12 → W p l e rm_X8_shuffle s m args below meth c H locs 0 0 (MQ below (va_Qi Q (xr_B D (ms_ty cI cJ cR) (ms_w ad cI cJ) A) A) args s 0 0 A) (F0 m 60 ls []) := by
  intro n
  induction n with
  | zero => intro S v1 v2 v3 v4 v5 v6 v8 v9 v10 v11 v12 H locs ls hP hD hS hl h; exact False.elim h
  | succ n ih => intro S v1 v2 v3 v4 v5 v6 v8 v9 v10 v11 v12 H locs ls hP hD hS hl h; exact kb_X8_shuffle_60 fx hK hA k15 k39 ih hP hD hS hl h
set_option maxHeartbeats 4000000 in
set_option maxRecDepth 100000 in
theorem kb_X8_shuffle_39 {p : Program} {l : Launch} {e : Env} {s : State} {m : MethodId} {args : Array Value} {below : List Frame} {meth : Method} {c : Code} {D : va_G} {ad : Nat → Nat} {cI cJ cR : ClassId} {A : Nat → Prop} {K15 : ms_T → Int32 → Int32 → Int32 → Int32 → Prop} {K39 : ms_T → Int32 → Int32 → Int32 → Int32 → Int32 → Int64 → Int32 → Prop} {Q : Int32 → ms_T → Prop} {S : ms_T} {v1 : Int32} {v2 : Int32} {v3 : Int32} {v4 : Int32} {v5 : Int32} {v6 : Int64} {v8 : Int32} (fx : xr_Fx p m c meth cX8_shuffle 13 s args wsX8_shuffle RX8 (some .int)) (hK : xr_K D (ms_ty cI cJ cR) s) (hA : ∀ q, s.heap.size ≤ q → A q) (k15 : ∀ (S : ms_T) (v1 : Int32) (v2 : Int32) (v3 : Int32) (v4 : Int32) {H : Heap} {locs : List Loc} {ls : Array Slot}, va_P D vwCl (ms_w ad cI cJ S) H → va_D A (ms_w ad cI cJ S) → va_S A s.heap H locs → lv_has ls 13 [(0, .ref (ad 0)), (1, .int v1), (2, .int v2), (3, .int v3), (4, .int v4)] → K15 S v1 v2 v3 v4 → W p l e rm_X8_shuffle s m args below meth c H locs 0 0 (MQ below (va_Qi Q (xr_B D (ms_ty cI cJ cR) (ms_w ad cI cJ) A) A) args s 0 0 A) (F0 m 15 ls [])) (k39 : ∀ (S : ms_T) (v1 : Int32) (v2 : Int32) (v3 : Int32) (v4 : Int32) (v5 : Int32) (v6 : Int64) (v8 : Int32) {H : Heap} {locs : List Loc} {ls : Array Slot}, va_P D vwCl (ms_w ad cI cJ S) H → va_D A (ms_w ad cI cJ S) → va_S A s.heap H locs → lv_has ls 13 [(0, .ref (ad 0)), (1, .int v1), (2, .int v2), (3, .int v3), (4, .int v4), (5, .int v5), (6, .long v6), (8, .int v8)] → K39 S v1 v2 v3 v4 v5 v6 v8 → W p l e rm_X8_shuffle s m args below meth c H locs 0 0 (MQ below (va_Qi Q (xr_B D (ms_ty cI cJ cR) (ms_w ad cI cJ) A) A) args s 0 0 A) (F0 m 39 ls [])) {H : Heap} {locs : List Loc} {ls : Array Slot} (hP : va_P D vwCl (ms_w ad cI cJ S) H) (hD : va_D A (ms_w ad cI cJ S)) (hS : va_S A s.heap H locs) (hl : lv_has ls 13 [(0, .ref (ad 0)), (1, .int v1), (2, .int v2), (3, .int v3), (4, .int v4), (5, .int v5), (6, .long v6), (8, .int v8)]) (h : wb_X8_shuffle_39 K15 K39 Q S v1 v2 v3 v4 v5 v6 v8) : W p l e rm_X8_shuffle s m args below meth c H locs 0 0 (MQ below (va_Qi Q (xr_B D (ms_ty cI cJ cR) (ms_w ad cI cJ) A) A) args s 0 0 A) (F0 m 39 ls []) := by
  obtain ⟨⟨hx, hb, hml, hown, hts⟩, hrt, hlk⟩ := id fx
  have hf : 0 ≤ rm_X8_shuffle.cells ∧ 0 ≤ rm_X8_shuffle.slots := ⟨Nat.zero_le _, Nat.zero_le _⟩
  unfold wb_X8_shuffle_39 at h
  refine lv_iload hx hb dX8_shuffle_39 (lv_at hl 7 rfl) ?_
  refine lv_iconst (v := 1) hx hb dX8_shuffle_41 (by decide) ?_
  refine lv_iload hx hb dX8_shuffle_42 (lv_at hl 5 rfl) ?_
  refine lv_ishl hx hb dX8_shuffle_44 ?_
  refine lv_icmp_ge (tgt := 187) hx hb dX8_shuffle_45 (by decide) (fun c45 => ?_) (fun c45 => ?_)
  · have h := h.1 c45
    refine lv_aload_n hx hb dX8_shuffle_187 rfl (lv_at hl 0 rfl) ?_
    refine ms_get 6 (v := .ref (ad 15)) fx in_X8_shuffle (by decide) rfl (by decide +kernel) rfl hK hP dX8_shuffle_188 ?_
    refine lv_sipush (v := 2912) hx hb dX8_shuffle_191 (by decide) ?_
    refine lv_iload hx hb dX8_shuffle_194 (lv_at hl 4 rfl) ?_
    refine lv_iadd hx hb dX8_shuffle_196 ?_
    refine lv_lload hx hb dX8_shuffle_197 (lv_at hl 6 rfl) ?_
    obtain ⟨hi15, h⟩ := h
    refine ms_last 0 (by decide) fx hK hP hD hS rfl hi15 dX8_shuffle_199 (fun H locs hP hD hS => ?_)
    obtain ⟨v4_16, ev4_16⟩ : ∃ z : Int32, z = v4 + 1 := ⟨_, rfl⟩
    have h := h v4_16 ev4_16
    refine lv_iinc (v := v4_16) (lv' := [(4, .int v4_16), (0, .ref (ad 0)), (1, .int v1), (2, .int v2), (3, .int v3), (5, .int v5), (6, .long v6), (8, .int v8)]) hx hb dX8_shuffle_200 hl (k := 4) rfl (by rw [ev4_16]; rfl) (by decide) rfl (fun ls hl => ?_)
    refine lv_goto (tgt := 15) hx hb dX8_shuffle_203 (by decide) ?_
    exact k15 _ _ _ _ _ hP hD hS (lv_sub hl [1, 2, 3, 4, 0] rfl) h
  · have h := h.2 c45
    refine lv_iconst (v := 0) hx hb dX8_shuffle_48 (by decide) ?_
    refine lv_istore (lv' := [(9, .int 0), (0, .ref (ad 0)), (1, .int v1), (2, .int v2), (3, .int v3), (4, .int v4), (5, .int v5), (6, .long v6), (8, .int v8)]) hx hb dX8_shuffle_49 hl (by decide) rfl (fun ls hl => ?_)
    refine lv_iconst (v := 0) hx hb dX8_shuffle_51 (by decide) ?_
    refine lv_istore (lv' := [(10, .int 0), (9, .int 0), (0, .ref (ad 0)), (1, .int v1), (2, .int v2), (3, .int v3), (4, .int v4), (5, .int v5), (6, .long v6), (8, .int v8)]) hx hb dX8_shuffle_52 hl (by decide) rfl (fun ls hl => ?_)
    refine lv_iconst (v := 0) hx hb dX8_shuffle_54 (by decide) ?_
    refine lv_istore (lv' := [(11, .int 0), (10, .int 0), (9, .int 0), (0, .ref (ad 0)), (1, .int v1), (2, .int v2), (3, .int v3), (4, .int v4), (5, .int v5), (6, .long v6), (8, .int v8)]) hx hb dX8_shuffle_55 hl (by decide) rfl (fun ls hl => ?_)
    refine lv_iconst (v := 0) hx hb dX8_shuffle_57 (by decide) ?_
    refine lv_istore (lv' := [(12, .int 0), (11, .int 0), (10, .int 0), (9, .int 0), (0, .ref (ad 0)), (1, .int v1), (2, .int v2), (3, .int v3), (4, .int v4), (5, .int v5), (6, .long v6), (8, .int v8)]) hx hb dX8_shuffle_58 hl (by decide) rfl (fun ls hl => ?_)
    obtain ⟨n, h⟩ := h
    exact kw_X8_shuffle_60 fx hK hA k15 k39 n _ _ _ _ _ _ _ _ _ _ _ _ hP hD hS (lv_sub hl [4, 5, 6, 7, 8, 9, 10, 11, 3, 2, 1, 0] rfl) h
theorem kw_X8_shuffle_39 {p : Program} {l : Launch} {e : Env} {s : State} {m : MethodId} {args : Array Value} {below : List Frame} {meth : Method} {c : Code} {D : va_G} {ad : Nat → Nat} {cI cJ cR : ClassId} {A : Nat → Prop} {K15 : ms_T → Int32 → Int32 → Int32 → Int32 → Prop} {Q : Int32 → ms_T → Prop} (fx : xr_Fx p m c meth cX8_shuffle 13 s args wsX8_shuffle RX8 (some .int)) (hK : xr_K D (ms_ty cI cJ cR) s) (hA : ∀ q, s.heap.size ≤ q → A q) (k15 : ∀ (S : ms_T) (v1 : Int32) (v2 : Int32) (v3 : Int32) (v4 : Int32) {H : Heap} {locs : List Loc} {ls : Array Slot}, va_P D vwCl (ms_w ad cI cJ S) H → va_D A (ms_w ad cI cJ S) → va_S A s.heap H locs → lv_has ls 13 [(0, .ref (ad 0)), (1, .int v1), (2, .int v2), (3, .int v3), (4, .int v4)] → K15 S v1 v2 v3 v4 → W p l e rm_X8_shuffle s m args below meth c H locs 0 0 (MQ below (va_Qi Q (xr_B D (ms_ty cI cJ cR) (ms_w ad cI cJ) A) A) args s 0 0 A) (F0 m 15 ls [])) : ∀ (n : Nat) (S : ms_T) (v1 : Int32) (v2 : Int32) (v3 : Int32) (v4 : Int32) (v5 : Int32) (v6 : Int64) (v8 : Int32) {H : Heap} {locs : List Loc} {ls : Array Slot}, va_P D vwCl (ms_w ad cI cJ S) H → va_D A (ms_w ad cI cJ S) → va_S A s.heap H locs → lv_has ls 13 [(0, .ref (ad 0)), (1, .int v1), (2, .int v2), (3, .int v3), (4, .int v4), (5, .int v5), (6, .long v6), (8, .int v8)] → wp_X8_shuffle_39 K15 Q n S v1 v2 v3 v4 v5 v6 v8 → W p l e rm_X8_shuffle s m args below meth c H locs 0 0 (MQ below (va_Qi Q (xr_B D (ms_ty cI cJ cR) (ms_w ad cI cJ) A) A) args s 0 0 A) (F0 m 39 ls []) := by
  intro n
  induction n with
  | zero => intro S v1 v2 v3 v4 v5 v6 v8 H locs ls hP hD hS hl h; exact False.elim h
  | succ n ih => intro S v1 v2 v3 v4 v5 v6 v8 H locs ls hP hD hS hl h; exact kb_X8_shuffle_39 fx hK hA k15 ih hP hD hS hl h
set_option maxHeartbeats 4000000 in
set_option maxRecDepth 100000 in
theorem kb_X8_shuffle_15 {p : Program} {l : Launch} {e : Env} {s : State} {m : MethodId} {args : Array Value} {below : List Frame} {meth : Method} {c : Code} {D : va_G} {ad : Nat → Nat} {cI cJ cR : ClassId} {A : Nat → Prop}  {K15 : ms_T → Int32 → Int32 → Int32 → Int32 → Prop} {Q : Int32 → ms_T → Prop} {S : ms_T} {v1 : Int32} {v2 : Int32} {v3 : Int32} {v4 : Int32} (fx : xr_Fx p m c meth cX8_shuffle 13 s args wsX8_shuffle RX8 (some .int)) (hK : xr_K D (ms_ty cI cJ cR) s) (hA : ∀ q, s.heap.size ≤ q → A q)  (k15 : ∀ (S : ms_T) (v1 : Int32) (v2 : Int32) (v3 : Int32) (v4 : Int32) {H : Heap} {locs : List Loc} {ls : Array Slot}, va_P D vwCl (ms_w ad cI cJ S) H → va_D A (ms_w ad cI cJ S) → va_S A s.heap H locs → lv_has ls 13 [(0, .ref (ad 0)), (1, .int v1), (2, .int v2), (3, .int v3), (4, .int v4)] → K15 S v1 v2 v3 v4 → W p l e rm_X8_shuffle s m args below meth c H locs 0 0 (MQ below (va_Qi Q (xr_B D (ms_ty cI cJ cR) (ms_w ad cI cJ) A) A) args s 0 0 A) (F0 m 15 ls [])) {H : Heap} {locs : List Loc} {ls : Array Slot} (hP : va_P D vwCl (ms_w ad cI cJ S) H) (hD : va_D A (ms_w ad cI cJ S)) (hS : va_S A s.heap H locs) (hl : lv_has ls 13 [(0, .ref (ad 0)), (1, .int v1), (2, .int v2), (3, .int v3), (4, .int v4)]) (h : wb_X8_shuffle_15 K15 Q S v1 v2 v3 v4) : W p l e rm_X8_shuffle s m args below meth c H locs 0 0 (MQ below (va_Qi Q (xr_B D (ms_ty cI cJ cR) (ms_w ad cI cJ) A) A) args s 0 0 A) (F0 m 15 ls []) := by
  obtain ⟨⟨hx, hb, hml, hown, hts⟩, hrt, hlk⟩ := id fx
  have hf : 0 ≤ rm_X8_shuffle.cells ∧ 0 ≤ rm_X8_shuffle.slots := ⟨Nat.zero_le _, Nat.zero_le _⟩
  unfold wb_X8_shuffle_15 at h
  refine lv_iload hx hb dX8_shuffle_15 (lv_at hl 4 rfl) ?_
  refine lv_aload_n hx hb dX8_shuffle_17 rfl (lv_at hl 0 rfl) ?_
  refine ms_get 2 (v := .int (S.1 2)) fx in_X8_shuffle (by decide) rfl (by decide +kernel) rfl hK hP dX8_shuffle_18 ?_
  refine lv_icmp_ge (tgt := 206) hx hb dX8_shuffle_21 (by decide) (fun c21 => ?_) (fun c21 => ?_)
  · have h := h.1 c21
    refine lv_aload_n hx hb dX8_shuffle_206 rfl (lv_at hl 0 rfl) ?_
    refine lv_iload_n hx hb dX8_shuffle_207 rfl (lv_at hl 1 rfl) ?_
    refine lv_bipush (v := 8) hx hb dX8_shuffle_208 (by decide) ?_
    refine xr_vV (n := 2) (As := [.int v1, .int 8]) (rest := []) fx (ct_X8_copies l D ad cI cJ cR h) gX8_shuffle_X8_copies rfl rfl (by decide +kernel) ⟨Nat.le_of_ble_eq_true rfl, Nat.le_of_ble_eq_true rfl⟩ ⟨rfl, rfl⟩ hf (ms_recv hK hP) hK hP hD hS hA hl.1 rfl (Nat.le_of_ble_eq_true rfl) dX8_shuffle_210 (fun S17 H locs h hP hD hS => ?_)
    refine lv_iconst (v := 0) hx hb dX8_shuffle_213 (by decide) ?_
    exact xr_rI fx hK hP hD hS h dX8_shuffle_214
  · have h := h.2 c21
    refine lv_aload_n hx hb dX8_shuffle_24 rfl (lv_at hl 0 rfl) ?_
    refine ms_get 5 (v := .ref (ad 3)) fx in_X8_shuffle (by decide) rfl (by decide +kernel) rfl hK hP dX8_shuffle_25 ?_
    refine lv_iload hx hb dX8_shuffle_28 (lv_at hl 4 rfl) ?_
    obtain ⟨hi18, h⟩ := h
    refine ms_iald 2 (by decide) fx hK hP rfl hi18 dX8_shuffle_30 ?_
    refine lv_topi (fun v5_19 ev5_19 => ?_)
    have h := h v5_19 ev5_19
    refine lv_istore (lv' := [(5, .int v5_19), (0, .ref (ad 0)), (1, .int v1), (2, .int v2), (3, .int v3), (4, .int v4)]) hx hb dX8_shuffle_31 hl (by decide) rfl (fun ls hl => ?_)
    refine lv_lconst (v := 0) hx hb dX8_shuffle_33 (by decide) ?_
    refine lv_lstore (lv' := [(6, .long 0), (5, .int v5_19), (0, .ref (ad 0)), (1, .int v1), (2, .int v2), (3, .int v3), (4, .int v4)]) hx hb dX8_shuffle_34 hl (by decide) rfl (fun ls hl => ?_)
    refine lv_iconst (v := 0) hx hb dX8_shuffle_36 (by decide) ?_
    refine lv_istore (lv' := [(8, .int 0), (6, .long 0), (5, .int v5_19), (0, .ref (ad 0)), (1, .int v1), (2, .int v2), (3, .int v3), (4, .int v4)]) hx hb dX8_shuffle_37 hl (by decide) rfl (fun ls hl => ?_)
    obtain ⟨n, h⟩ := h
    exact kw_X8_shuffle_39 fx hK hA k15 n _ _ _ _ _ _ _ _ hP hD hS (lv_sub hl [3, 4, 5, 6, 7, 2, 1, 0] rfl) h
theorem kw_X8_shuffle_15 {p : Program} {l : Launch} {e : Env} {s : State} {m : MethodId} {args : Array Value} {below : List Frame} {meth : Method} {c : Code} {D : va_G} {ad : Nat → Nat} {cI cJ cR : ClassId} {A : Nat → Prop}  {Q : Int32 → ms_T → Prop} (fx : xr_Fx p m c meth cX8_shuffle 13 s args wsX8_shuffle RX8 (some .int)) (hK : xr_K D (ms_ty cI cJ cR) s) (hA : ∀ q, s.heap.size ≤ q → A q)  : ∀ (n : Nat) (S : ms_T) (v1 : Int32) (v2 : Int32) (v3 : Int32) (v4 : Int32) {H : Heap} {locs : List Loc} {ls : Array Slot}, va_P D vwCl (ms_w ad cI cJ S) H → va_D A (ms_w ad cI cJ S) → va_S A s.heap H locs → lv_has ls 13 [(0, .ref (ad 0)), (1, .int v1), (2, .int v2), (3, .int v3), (4, .int v4)] → wp_X8_shuffle_15 Q n S v1 v2 v3 v4 → W p l e rm_X8_shuffle s m args below meth c H locs 0 0 (MQ below (va_Qi Q (xr_B D (ms_ty cI cJ cR) (ms_w ad cI cJ) A) A) args s 0 0 A) (F0 m 15 ls []) := by
  intro n
  induction n with
  | zero => intro S v1 v2 v3 v4 H locs ls hP hD hS hl h; exact False.elim h
  | succ n ih => intro S v1 v2 v3 v4 H locs ls hP hD hS hl h; exact kb_X8_shuffle_15 fx hK hA ih hP hD hS hl h
set_option maxHeartbeats 4000000 in
set_option maxRecDepth 100000 in
theorem ct_X8_shuffle (l : Launch) (D : va_G) (ad : Nat → Nat) (cI cJ cR : ClassId) {S : ms_T} {a1 : Int32} {a2 : Int32} {a3 : Int32} {Q : Int32 → ms_T → Prop} (h : wp_X8_shuffle S a1 a2 a3 Q) : xr_I l D (ms_ty cI cJ cR) (ms_w ad cI cJ) yX8_shuffle wsX8_shuffle rm_X8_shuffle [.ref (ad 0), .int a1, .int a2, .int a3] S Q := by
  refine xr_eI (cc := cX8_shuffle) (nL := 13) (ret := (some .int)) (own := RX8) (by decide) rfl rfl (Nat.le_of_ble_eq_true rfl) ?_
  intro p e s m args below meth c ls A fx hK hA hP hD hS hl
  have hl : lv_has ls 13 [(0, .ref (ad 0)), (1, .int a1), (2, .int a2), (3, .int a3)] := hl
  show W p l e rm_X8_shuffle s m args below meth c s.heap [] 0 0 _ _
  obtain ⟨⟨hx, hb, hml, hown, hts⟩, hrt, hlk⟩ := id fx
  have hf : 0 ≤ rm_X8_shuffle.cells ∧ 0 ≤ rm_X8_shuffle.slots := ⟨Nat.zero_le _, Nat.zero_le _⟩
  unfold wp_X8_shuffle at h
  refine lv_aload_n hx hb dX8_shuffle_0 rfl (lv_at hl 0 rfl) ?_
  refine lv_iload_n hx hb dX8_shuffle_1 rfl (lv_at hl 1 rfl) ?_
  refine lv_iload_n hx hb dX8_shuffle_2 rfl (lv_at hl 2 rfl) ?_
  refine lv_iload_n hx hb dX8_shuffle_3 rfl (lv_at hl 3 rfl) ?_
  refine xr_vI (n := 3) (As := [.int a1, .int a2, .int a3]) (rest := []) fx (ct_X8_areSums l D ad cI cJ cR h) gX8_shuffle_X8_areSums rfl rfl (by decide +kernel) ⟨Nat.le_of_ble_eq_true rfl, Nat.le_of_ble_eq_true rfl⟩ ⟨rfl, rfl⟩ hf (ms_recv hK hP) hK hP hD hS hA hl.1 rfl (Nat.le_of_ble_eq_true rfl) dX8_shuffle_4 (fun r21 S20 H locs h hP hD hS => ?_)
  refine lv_if_ne (tgt := 12) hx hb dX8_shuffle_7 (by decide) (fun c7 => ?_) (fun c7 => ?_)
  · have h := h.1 c7
    refine lv_iconst (v := 0) hx hb dX8_shuffle_12 (by decide) ?_
    refine lv_istore (lv' := [(4, .int 0), (0, .ref (ad 0)), (1, .int a1), (2, .int a2), (3, .int a3)]) hx hb dX8_shuffle_13 hl (by decide) rfl (fun ls hl => ?_)
    obtain ⟨n, h⟩ := h
    exact kw_X8_shuffle_15 fx hK hA n _ _ _ _ _ hP hD hS (lv_sub hl [1, 2, 3, 4, 0] rfl) h
  · have h := h.2 c7
    refine lv_iconst (v := (-1)) hx hb dX8_shuffle_10 (by decide) ?_
    exact xr_rI fx hK hP hD hS h dX8_shuffle_11
abbrev rm_X8_turn : Room := { frames := 2, cells := 0, slots := 0, locals := 45 }
theorem in_X8_turn : ∀ w ∈ wsX80, w ∈ wsX8_turn := by decide +kernel
set_option maxHeartbeats 4000000 in
set_option maxRecDepth 100000 in
theorem kw_X8_turn_126 {p : Program} {l : Launch} {e : Env} {s : State} {m : MethodId} {args : Array Value} {below : List Frame} {meth : Method} {c : Code} {D : va_G} {ad : Nat → Nat} {cI cJ cR : ClassId} {A : Nat → Prop} {K18 : ms_T → Int32 → Int32 → Int32 → Prop} {Q : Int32 → ms_T → Prop} {S : ms_T} {v1 : Int32} {v2 : Int32} {v3 : Int32} {s0 : Int32} {s1 : Int64} (fx : xr_Fx p m c meth cX8_turn 7 s args wsX8_turn RX8 (some .int)) (hK : xr_K D (ms_ty cI cJ cR) s) (hA : ∀ q, s.heap.size ≤ q → A q) (k18 : ∀ (S : ms_T) (v1 : Int32) (v2 : Int32) (v3 : Int32) {H : Heap} {locs : List Loc} {ls : Array Slot}, va_P D vwCl (ms_w ad cI cJ S) H → va_D A (ms_w ad cI cJ S) → va_S A s.heap H locs → lv_has ls 7 [(0, .ref (ad 0)), (1, .int v1), (2, .int v2), (3, .int v3)] → K18 S v1 v2 v3 → W p l e rm_X8_turn s m args below meth c H locs 0 0 (MQ below (va_Qi Q (xr_B D (ms_ty cI cJ cR) (ms_w ad cI cJ) A) A) args s 0 0 A) (F0 m 18 ls [])) {H : Heap} {locs : List Loc} {ls : Array Slot} (hP : va_P D vwCl (ms_w ad cI cJ S) H) (hD : va_D A (ms_w ad cI cJ S)) (hS : va_S A s.heap H locs) (hl : lv_has ls 7 [(0, .ref (ad 0)), (1, .int v1), (2, .int v2), (3, .int v3)]) (h : wp_X8_turn_126 K18 Q S v1 v2 v3 s0 s1) : W p l e rm_X8_turn s m args below meth c H locs 0 0 (MQ below (va_Qi Q (xr_B D (ms_ty cI cJ cR) (ms_w ad cI cJ) A) A) args s 0 0 A) (F0 m 126 ls [.long s1, .int s0, .ref (ad 15)]) := by
  obtain ⟨⟨hx, hb, hml, hown, hts⟩, hrt, hlk⟩ := id fx
  have hf : 0 ≤ rm_X8_turn.cells ∧ 0 ≤ rm_X8_turn.slots := ⟨Nat.zero_le _, Nat.zero_le _⟩
  unfold wp_X8_turn_126 at h
  obtain ⟨hi1, h⟩ := h
  refine ms_last 0 (by decide) fx hK hP hD hS rfl hi1 dX8_turn_126 (fun H locs hP hD hS => ?_)
  obtain ⟨v3_2, ev3_2⟩ : ∃ z : Int32, z = v3 + 1 := ⟨_, rfl⟩
  have h := h v3_2 ev3_2
  refine lv_iinc (v := v3_2) (lv' := [(3, .int v3_2), (0, .ref (ad 0)), (1, .int v1), (2, .int v2)]) hx hb dX8_turn_127 hl (k := 3) rfl (by rw [ev3_2]; rfl) (by decide) rfl (fun ls hl => ?_)
  refine lv_goto (tgt := 18) hx hb dX8_turn_130 (by decide) ?_
  exact k18 _ _ _ _ hP hD hS (lv_sub hl [1, 2, 3, 0] rfl) h
set_option maxHeartbeats 4000000 in
set_option maxRecDepth 100000 in
theorem kb_X8_turn_39 {p : Program} {l : Launch} {e : Env} {s : State} {m : MethodId} {args : Array Value} {below : List Frame} {meth : Method} {c : Code} {D : va_G} {ad : Nat → Nat} {cI cJ cR : ClassId} {A : Nat → Prop} {K18 : ms_T → Int32 → Int32 → Int32 → Prop} {K39 : ms_T → Int32 → Int32 → Int32 → Int32 → Int32 → Prop} {Q : Int32 → ms_T → Prop} {S : ms_T} {v1 : Int32} {v2 : Int32} {v3 : Int32} {v4 : Int32} {v5 : Int32} (fx : xr_Fx p m c meth cX8_turn 7 s args wsX8_turn RX8 (some .int)) (hK : xr_K D (ms_ty cI cJ cR) s) (hA : ∀ q, s.heap.size ≤ q → A q) (k18 : ∀ (S : ms_T) (v1 : Int32) (v2 : Int32) (v3 : Int32) {H : Heap} {locs : List Loc} {ls : Array Slot}, va_P D vwCl (ms_w ad cI cJ S) H → va_D A (ms_w ad cI cJ S) → va_S A s.heap H locs → lv_has ls 7 [(0, .ref (ad 0)), (1, .int v1), (2, .int v2), (3, .int v3)] → K18 S v1 v2 v3 → W p l e rm_X8_turn s m args below meth c H locs 0 0 (MQ below (va_Qi Q (xr_B D (ms_ty cI cJ cR) (ms_w ad cI cJ) A) A) args s 0 0 A) (F0 m 18 ls [])) (k39 : ∀ (S : ms_T) (v1 : Int32) (v2 : Int32) (v3 : Int32) (v4 : Int32) (v5 : Int32) {H : Heap} {locs : List Loc} {ls : Array Slot}, va_P D vwCl (ms_w ad cI cJ S) H → va_D A (ms_w ad cI cJ S) → va_S A s.heap H locs → lv_has ls 7 [(0, .ref (ad 0)), (1, .int v1), (2, .int v2), (3, .int v3), (4, .int v4), (5, .int v5)] → K39 S v1 v2 v3 v4 v5 → W p l e rm_X8_turn s m args below meth c H locs 0 0 (MQ below (va_Qi Q (xr_B D (ms_ty cI cJ cR) (ms_w ad cI cJ) A) A) args s 0 0 A) (F0 m 39 ls [])) {H : Heap} {locs : List Loc} {ls : Array Slot} (hP : va_P D vwCl (ms_w ad cI cJ S) H) (hD : va_D A (ms_w ad cI cJ S)) (hS : va_S A s.heap H locs) (hl : lv_has ls 7 [(0, .ref (ad 0)), (1, .int v1), (2, .int v2), (3, .int v3), (4, .int v4), (5, .int v5)]) (h : wb_X8_turn_39 K18 K39 Q S v1 v2 v3 v4 v5) : W p l e rm_X8_turn s m args below meth c H locs 0 0 (MQ below (va_Qi Q (xr_B D (ms_ty cI cJ cR) (ms_w ad cI cJ) A) A) args s 0 0 A) (F0 m 39 ls []) := by
  obtain ⟨⟨hx, hb, hml, hown, hts⟩, hrt, hlk⟩ := id fx
  have hf : 0 ≤ rm_X8_turn.cells ∧ 0 ≤ rm_X8_turn.slots := ⟨Nat.zero_le _, Nat.zero_le _⟩
  unfold wb_X8_turn_39 at h
  refine lv_iload hx hb dX8_turn_39 (lv_at hl 5 rfl) ?_
  refine lv_if_lt (tgt := 67) hx hb dX8_turn_41 (by decide) (fun c41 => ?_) (fun c41 => ?_)
  · have h := h.1 c41
    refine lv_aload_n hx hb dX8_turn_67 rfl (lv_at hl 0 rfl) ?_
    refine ms_get 6 (v := .ref (ad 15)) fx in_X8_turn (by decide) rfl (by decide +kernel) rfl hK hP dX8_turn_68 ?_
    refine lv_sipush (v := 364) hx hb dX8_turn_71 (by decide) ?_
    refine lv_iload_n hx hb dX8_turn_74 rfl (lv_at hl 2 rfl) ?_
    refine lv_imul hx hb dX8_turn_75 ?_
    refine lv_iload_n hx hb dX8_turn_76 rfl (lv_at hl 3 rfl) ?_
    refine lv_iadd hx hb dX8_turn_77 ?_
    obtain ⟨hi3, h⟩ := h
    refine ms_lald 0 (by decide) fx hK hP rfl hi3 dX8_turn_78 ?_
    refine lv_topl (fun v5_4 ev5_4 => ?_)
    have h := h v5_4 ev5_4
    refine lv_lstore (lv' := [(5, .long v5_4), (0, .ref (ad 0)), (1, .int v1), (2, .int v2), (3, .int v3), (4, .int v4)]) hx hb dX8_turn_79 hl (by decide) rfl (fun ls hl => ?_)
    refine lv_aload_n hx hb dX8_turn_81 rfl (lv_at hl 1 rfl) ?_
    refine ms_get 6 (v := .ref (ad 15)) fx in_X8_turn (by decide) rfl (by decide +kernel) rfl hK hP dX8_turn_82 ?_
    refine lv_sipush (v := 2912) hx hb dX8_turn_85 (by decide) ?_
    refine lv_aload_n hx hb dX8_turn_88 rfl (lv_at hl 1 rfl) ?_
    refine ms_get 4 (v := .ref (ad 2)) fx in_X8_turn (by decide) rfl (by decide +kernel) rfl hK hP dX8_turn_89 ?_
    refine lv_aload_n hx hb dX8_turn_92 rfl (lv_at hl 1 rfl) ?_
    refine ms_get 5 (v := .ref (ad 3)) fx in_X8_turn (by decide) rfl (by decide +kernel) rfl hK hP dX8_turn_93 ?_
    refine lv_iload_n hx hb dX8_turn_96 rfl (lv_at hl 4 rfl) ?_
    obtain ⟨hi5, h⟩ := h
    refine ms_iald 2 (by decide) fx hK hP rfl hi5 dX8_turn_97 ?_
    obtain ⟨hi6, h⟩ := h
    refine ms_iald 1 (by decide) fx hK hP rfl hi6 dX8_turn_98 ?_
    refine lv_iadd hx hb dX8_turn_99 ?_
    refine lv_iload hx hb dX8_turn_100 (lv_at hl 5 rfl) ?_
    refine lv_iadd hx hb dX8_turn_102 ?_
    refine lv_aload_n hx hb dX8_turn_103 rfl (lv_at hl 1 rfl) ?_
    refine ms_get 5 (v := .ref (ad 3)) fx in_X8_turn (by decide) rfl (by decide +kernel) rfl hK hP dX8_turn_104 ?_
    refine lv_iload_n hx hb dX8_turn_107 rfl (lv_at hl 4 rfl) ?_
    obtain ⟨hi7, h⟩ := h
    refine ms_iald 2 (by decide) fx hK hP rfl hi7 dX8_turn_108 ?_
    refine lv_iconst (v := 2) hx hb dX8_turn_109 (by decide) ?_
    refine lv_irem hx hb dX8_turn_110 (by decide) ?_
    refine lv_iconst (v := 1) hx hb dX8_turn_111 (by decide) ?_
    refine lv_icmp_ne (tgt := 124) hx hb dX8_turn_112 (by decide) (fun c112 => ?_) (fun c112 => ?_)
    · have h := h.1 c112
      refine lv_lload hx hb dX8_turn_124 (lv_at hl 0 rfl) ?_
      exact kw_X8_turn_126 fx hK hA k18 hP hD hS (lv_sub hl [1, 2, 3, 4] rfl) h
    · have h := h.2 c112
      refine lv_lload hx hb dX8_turn_115 (lv_at hl 0 rfl) ?_
      refine lv_lneg hx hb dX8_turn_117 ?_
      refine xr_sL (n := 1) (As := [.long (-v5_4)]) (rest := [.int ((2912 + (S.2.1 1 (S.2.1 2 v3.toNatClampNeg).toNatClampNeg)) + v4), .ref (ad 15)]) fx (ct_X8_mod l h) gX8_turn_X8_mod rfl rfl (by decide +kernel) ⟨Nat.le_of_ble_eq_true rfl, Nat.le_of_ble_eq_true rfl⟩ ⟨rfl, rfl⟩ hf hl.1 rfl (Nat.le_of_ble_eq_true rfl) dX8_turn_118 (fun r8 h => ?_)
      refine lv_goto (tgt := 126) hx hb dX8_turn_121 (by decide) ?_
      exact kw_X8_turn_126 fx hK hA k18 hP hD hS (lv_sub hl [1, 2, 3, 4] rfl) h
  · have h := h.2 c41
    refine lv_aload_n hx hb dX8_turn_44 rfl (lv_at hl 0 rfl) ?_
    refine ms_get 0 (v := .int (S.1 0)) fx in_X8_turn (by decide) rfl (by decide +kernel) rfl hK hP dX8_turn_45 ?_
    refine lv_iload hx hb dX8_turn_48 (lv_at hl 4 rfl) ?_
    refine lv_imul hx hb dX8_turn_50 ?_
    refine lv_aload_n hx hb dX8_turn_51 rfl (lv_at hl 0 rfl) ?_
    refine lv_iload_n hx hb dX8_turn_52 rfl (lv_at hl 3 rfl) ?_
    refine lv_iload hx hb dX8_turn_53 (lv_at hl 5 rfl) ?_
    refine xr_vI (n := 2) (As := [.int v3, .int v5]) (rest := [.int ((S.1 0) * v4)]) fx (ct_X8_letterAt l D ad cI cJ cR h) gX8_turn_X8_letterAt rfl rfl (by decide +kernel) ⟨Nat.le_of_ble_eq_true rfl, Nat.le_of_ble_eq_true rfl⟩ ⟨rfl, rfl⟩ hf (ms_recv hK hP) hK hP hD hS hA hl.1 rfl (Nat.le_of_ble_eq_true rfl) dX8_turn_55 (fun r10 S9 H locs h hP hD hS => ?_)
    refine lv_iadd hx hb dX8_turn_58 ?_
    refine lv_topi (fun v4_11 ev4_11 => ?_)
    have h := h v4_11 ev4_11
    refine lv_istore (lv' := [(4, .int v4_11), (0, .ref (ad 0)), (1, .int v1), (2, .int v2), (3, .int v3), (5, .int v5)]) hx hb dX8_turn_59 hl (by decide) rfl (fun ls hl => ?_)
    obtain ⟨v5_12, ev5_12⟩ : ∃ z : Int32, z = v5 + (-1) := ⟨_, rfl⟩
    have h := h v5_12 ev5_12
    refine lv_iinc (v := v5_12) (lv' := [(5, .int v5_12), (4, .int v4_11), (0, .ref (ad 0)), (1, .int v1), (2, .int v2), (3, .int v3)]) hx hb dX8_turn_61 hl (k := 5) rfl (by rw [ev5_12]; rfl) (by decide) rfl (fun ls hl => ?_)
    refine lv_goto (tgt := 39) hx hb dX8_turn_64 (by decide) ?_
    exact k39 _ _ _ _ _ _ hP hD hS (lv_sub hl [2, 3, 4, 5, 1, 0] rfl) h
theorem kw_X8_turn_39 {p : Program} {l : Launch} {e : Env} {s : State} {m : MethodId} {args : Array Value} {below : List Frame} {meth : Method} {c : Code} {D : va_G} {ad : Nat → Nat} {cI cJ cR : ClassId} {A : Nat → Prop} {K18 : ms_T → Int32 → Int32 → Int32 → Prop} {Q : Int32 → ms_T → Prop} (fx : xr_Fx p m c meth cX8_turn 7 s args wsX8_turn RX8 (some .int)) (hK : xr_K D (ms_ty cI cJ cR) s) (hA : ∀ q, s.heap.size ≤ q → A q) (k18 : ∀ (S : ms_T) (v1 : Int32) (v2 : Int32) (v3 : Int32) {H : Heap} {locs : List Loc} {ls : Array Slot}, va_P D vwCl (ms_w ad cI cJ S) H → va_D A (ms_w ad cI cJ S) → va_S A s.heap H locs → lv_has ls 7 [(0, .ref (ad 0)), (1, .int v1), (2, .int v2), (3, .int v3)] → K18 S v1 v2 v3 → W p l e rm_X8_turn s m args below meth c H locs 0 0 (MQ below (va_Qi Q (xr_B D (ms_ty cI cJ cR) (ms_w ad cI cJ) A) A) args s 0 0 A) (F0 m 18 ls [])) : ∀ (n : Nat) (S : ms_T) (v1 : Int32) (v2 : Int32) (v3 : Int32) (v4 : Int32) (v5 : Int32) {H : Heap} {locs : List Loc} {ls : Array Slot}, va_P D vwCl (ms_w ad cI cJ S) H → va_D A (ms_w ad cI cJ S) → va_S A s.heap H locs → lv_has ls 7 [(0, .ref (ad 0)), (1, .int v1), (2, .int v2), (3, .int v3), (4, .int v4), (5, .int v5)] → wp_X8_turn_39 K18 Q n S v1 v2 v3 v4 v5 → W p l e rm_X8_turn s m args below meth c H locs 0 0 (MQ below (va_Qi Q (xr_B D (ms_ty cI cJ cR) (ms_w ad cI cJ) A) A) args s 0 0 A) (F0 m 39 ls []) := by
  intro n
  induction n with
  | zero => intro S v1 v2 v3 v4 v5 H locs ls hP hD hS hl h; exact False.elim h
  | succ n ih => intro S v1 v2 v3 v4 v5 H locs ls hP hD hS hl h; exact kb_X8_turn_39 fx hK hA k18 ih hP hD hS hl h
set_option maxHeartbeats 4000000 in
set_option maxRecDepth 100000 in
theorem kb_X8_turn_18 {p : Program} {l : Launch} {e : Env} {s : State} {m : MethodId} {args : Array Value} {below : List Frame} {meth : Method} {c : Code} {D : va_G} {ad : Nat → Nat} {cI cJ cR : ClassId} {A : Nat → Prop}  {K18 : ms_T → Int32 → Int32 → Int32 → Prop} {Q : Int32 → ms_T → Prop} {S : ms_T} {v1 : Int32} {v2 : Int32} {v3 : Int32} (fx : xr_Fx p m c meth cX8_turn 7 s args wsX8_turn RX8 (some .int)) (hK : xr_K D (ms_ty cI cJ cR) s) (hA : ∀ q, s.heap.size ≤ q → A q)  (k18 : ∀ (S : ms_T) (v1 : Int32) (v2 : Int32) (v3 : Int32) {H : Heap} {locs : List Loc} {ls : Array Slot}, va_P D vwCl (ms_w ad cI cJ S) H → va_D A (ms_w ad cI cJ S) → va_S A s.heap H locs → lv_has ls 7 [(0, .ref (ad 0)), (1, .int v1), (2, .int v2), (3, .int v3)] → K18 S v1 v2 v3 → W p l e rm_X8_turn s m args below meth c H locs 0 0 (MQ below (va_Qi Q (xr_B D (ms_ty cI cJ cR) (ms_w ad cI cJ) A) A) args s 0 0 A) (F0 m 18 ls [])) {H : Heap} {locs : List Loc} {ls : Array Slot} (hP : va_P D vwCl (ms_w ad cI cJ S) H) (hD : va_D A (ms_w ad cI cJ S)) (hS : va_S A s.heap H locs) (hl : lv_has ls 7 [(0, .ref (ad 0)), (1, .int v1), (2, .int v2), (3, .int v3)]) (h : wb_X8_turn_18 K18 Q S v1 v2 v3) : W p l e rm_X8_turn s m args below meth c H locs 0 0 (MQ below (va_Qi Q (xr_B D (ms_ty cI cJ cR) (ms_w ad cI cJ) A) A) args s 0 0 A) (F0 m 18 ls []) := by
  obtain ⟨⟨hx, hb, hml, hown, hts⟩, hrt, hlk⟩ := id fx
  have hf : 0 ≤ rm_X8_turn.cells ∧ 0 ≤ rm_X8_turn.slots := ⟨Nat.zero_le _, Nat.zero_le _⟩
  unfold wb_X8_turn_18 at h
  refine lv_iload_n hx hb dX8_turn_18 rfl (lv_at hl 3 rfl) ?_
  refine lv_aload_n hx hb dX8_turn_19 rfl (lv_at hl 0 rfl) ?_
  refine ms_get 2 (v := .int (S.1 2)) fx in_X8_turn (by decide) rfl (by decide +kernel) rfl hK hP dX8_turn_20 ?_
  refine lv_icmp_ge (tgt := 133) hx hb dX8_turn_23 (by decide) (fun c23 => ?_) (fun c23 => ?_)
  · have h := h.1 c23
    refine lv_aload_n hx hb dX8_turn_133 rfl (lv_at hl 0 rfl) ?_
    refine lv_iload_n hx hb dX8_turn_134 rfl (lv_at hl 1 rfl) ?_
    refine lv_bipush (v := 8) hx hb dX8_turn_135 (by decide) ?_
    refine xr_vV (n := 2) (As := [.int v1, .int 8]) (rest := []) fx (ct_X8_copies l D ad cI cJ cR h) gX8_turn_X8_copies rfl rfl (by decide +kernel) ⟨Nat.le_of_ble_eq_true rfl, Nat.le_of_ble_eq_true rfl⟩ ⟨rfl, rfl⟩ hf (ms_recv hK hP) hK hP hD hS hA hl.1 rfl (Nat.le_of_ble_eq_true rfl) dX8_turn_137 (fun S13 H locs h hP hD hS => ?_)
    refine lv_iconst (v := 0) hx hb dX8_turn_140 (by decide) ?_
    exact xr_rI fx hK hP hD hS h dX8_turn_141
  · have h := h.2 c23
    refine lv_iconst (v := 0) hx hb dX8_turn_26 (by decide) ?_
    refine lv_istore (lv' := [(4, .int 0), (0, .ref (ad 0)), (1, .int v1), (2, .int v2), (3, .int v3)]) hx hb dX8_turn_27 hl (by decide) rfl (fun ls hl => ?_)
    refine lv_aload_n hx hb dX8_turn_29 rfl (lv_at hl 1 rfl) ?_
    refine ms_get 5 (v := .ref (ad 3)) fx in_X8_turn (by decide) rfl (by decide +kernel) rfl hK hP dX8_turn_30 ?_
    refine lv_iload_n hx hb dX8_turn_33 rfl (lv_at hl 4 rfl) ?_
    obtain ⟨hi14, h⟩ := h
    refine ms_iald 2 (by decide) fx hK hP rfl hi14 dX8_turn_34 ?_
    refine lv_iconst (v := 1) hx hb dX8_turn_35 (by decide) ?_
    refine lv_isub hx hb dX8_turn_36 ?_
    refine lv_topi (fun v5_15 ev5_15 => ?_)
    have h := h v5_15 ev5_15
    refine lv_istore (lv' := [(5, .int v5_15), (4, .int 0), (0, .ref (ad 0)), (1, .int v1), (2, .int v2), (3, .int v3)]) hx hb dX8_turn_37 hl (by decide) rfl (fun ls hl => ?_)
    obtain ⟨n, h⟩ := h
    exact kw_X8_turn_39 fx hK hA k18 n _ _ _ _ _ _ hP hD hS (lv_sub hl [2, 3, 4, 5, 1, 0] rfl) h
theorem kw_X8_turn_18 {p : Program} {l : Launch} {e : Env} {s : State} {m : MethodId} {args : Array Value} {below : List Frame} {meth : Method} {c : Code} {D : va_G} {ad : Nat → Nat} {cI cJ cR : ClassId} {A : Nat → Prop}  {Q : Int32 → ms_T → Prop} (fx : xr_Fx p m c meth cX8_turn 7 s args wsX8_turn RX8 (some .int)) (hK : xr_K D (ms_ty cI cJ cR) s) (hA : ∀ q, s.heap.size ≤ q → A q)  : ∀ (n : Nat) (S : ms_T) (v1 : Int32) (v2 : Int32) (v3 : Int32) {H : Heap} {locs : List Loc} {ls : Array Slot}, va_P D vwCl (ms_w ad cI cJ S) H → va_D A (ms_w ad cI cJ S) → va_S A s.heap H locs → lv_has ls 7 [(0, .ref (ad 0)), (1, .int v1), (2, .int v2), (3, .int v3)] → wp_X8_turn_18 Q n S v1 v2 v3 → W p l e rm_X8_turn s m args below meth c H locs 0 0 (MQ below (va_Qi Q (xr_B D (ms_ty cI cJ cR) (ms_w ad cI cJ) A) A) args s 0 0 A) (F0 m 18 ls []) := by
  intro n
  induction n with
  | zero => intro S v1 v2 v3 H locs ls hP hD hS hl h; exact False.elim h
  | succ n ih => intro S v1 v2 v3 H locs ls hP hD hS hl h; exact kb_X8_turn_18 fx hK hA ih hP hD hS hl h
set_option maxHeartbeats 4000000 in
set_option maxRecDepth 100000 in
theorem ct_X8_turn (l : Launch) (D : va_G) (ad : Nat → Nat) (cI cJ cR : ClassId) {S : ms_T} {a1 : Int32} {a2 : Int32} {Q : Int32 → ms_T → Prop} (h : wp_X8_turn S a1 a2 Q) : xr_I l D (ms_ty cI cJ cR) (ms_w ad cI cJ) yX8_turn wsX8_turn rm_X8_turn [.ref (ad 0), .int a1, .int a2] S Q := by
  refine xr_eI (cc := cX8_turn) (nL := 7) (ret := (some .int)) (own := RX8) (by decide) rfl rfl (Nat.le_of_ble_eq_true rfl) ?_
  intro p e s m args below meth c ls A fx hK hA hP hD hS hl
  have hl : lv_has ls 7 [(0, .ref (ad 0)), (1, .int a1), (2, .int a2)] := hl
  show W p l e rm_X8_turn s m args below meth c s.heap [] 0 0 _ _
  obtain ⟨⟨hx, hb, hml, hown, hts⟩, hrt, hlk⟩ := id fx
  have hf : 0 ≤ rm_X8_turn.cells ∧ 0 ≤ rm_X8_turn.slots := ⟨Nat.zero_le _, Nat.zero_le _⟩
  unfold wp_X8_turn at h
  refine lv_iload_n hx hb dX8_turn_0 rfl (lv_at hl 1 rfl) ?_
  refine xr_sI (n := 1) (As := [.int a1]) (rest := []) fx (ct_X8_isSum l h) gX8_turn_X8_isSum rfl rfl (by decide +kernel) ⟨Nat.le_of_ble_eq_true rfl, Nat.le_of_ble_eq_true rfl⟩ ⟨rfl, rfl⟩ hf hl.1 rfl (Nat.le_of_ble_eq_true rfl) dX8_turn_1 (fun r16 h => ?_)
  refine lv_if_eq (tgt := 14) hx hb dX8_turn_4 (by decide) (fun c4 => ?_) (fun c4 => ?_)
  · have h := h.1 c4
    refine lv_iconst (v := (-1)) hx hb dX8_turn_14 (by decide) ?_
    exact xr_rI fx hK hP hD hS h dX8_turn_15
  · have h := h.2 c4
    refine lv_iload_n hx hb dX8_turn_7 rfl (lv_at hl 2 rfl) ?_
    refine xr_sI (n := 1) (As := [.int a2]) (rest := []) fx (ct_X8_isSum l h) gX8_turn_X8_isSum rfl rfl (by decide +kernel) ⟨Nat.le_of_ble_eq_true rfl, Nat.le_of_ble_eq_true rfl⟩ ⟨rfl, rfl⟩ hf hl.1 rfl (Nat.le_of_ble_eq_true rfl) dX8_turn_8 (fun r17 h => ?_)
    refine lv_if_ne (tgt := 16) hx hb dX8_turn_11 (by decide) (fun c11 => ?_) (fun c11 => ?_)
    · have h := h.1 c11
      refine lv_iconst (v := 0) hx hb dX8_turn_16 (by decide) ?_
      refine lv_istore_n (lv' := [(3, .int 0), (0, .ref (ad 0)), (1, .int a1), (2, .int a2)]) hx hb dX8_turn_17 rfl hl (by decide) rfl (fun ls hl => ?_)
      obtain ⟨n, h⟩ := h
      exact kw_X8_turn_18 fx hK hA n _ _ _ _ hP hD hS (lv_sub hl [1, 2, 3, 0] rfl) h
    · have h := h.2 c11
      refine lv_iconst (v := (-1)) hx hb dX8_turn_14 (by decide) ?_
      exact xr_rI fx hK hP hD hS h dX8_turn_15
abbrev rm_X8_seriesOf : Room := { frames := 3, cells := 0, slots := 0, locals := 76 }
theorem in_X8_seriesOf : ∀ w ∈ wsX80, w ∈ wsX8_seriesOf := by decide +kernel
set_option maxHeartbeats 4000000 in
set_option maxRecDepth 100000 in
theorem kw_X8_seriesOf_35 {p : Program} {l : Launch} {e : Env} {s : State} {m : MethodId} {args : Array Value} {below : List Frame} {meth : Method} {c : Code} {D : va_G} {ad : Nat → Nat} {cI cJ cR : ClassId} {A : Nat → Prop}  {Q : Int32 → ms_T → Prop} {S : ms_T} {v1 : Int32} {v2 : Int32} {v3 : Int32} {s0 : Int64} {s1 : Int64} (fx : xr_Fx p m c meth cX8_seriesOf 4 s args wsX8_seriesOf RX8 (some .int)) (hK : xr_K D (ms_ty cI cJ cR) s) (hA : ∀ q, s.heap.size ≤ q → A q)  {H : Heap} {locs : List Loc} {ls : Array Slot} (hP : va_P D vwCl (ms_w ad cI cJ S) H) (hD : va_D A (ms_w ad cI cJ S)) (hS : va_S A s.heap H locs) (hl : lv_has ls 4 [(0, .ref (ad 0)), (1, .int v1), (2, .int v2), (3, .int v3)]) (h : wp_X8_seriesOf_35 Q S v1 v2 v3 s0 s1) : W p l e rm_X8_seriesOf s m args below meth c H locs 0 0 (MQ below (va_Qi Q (xr_B D (ms_ty cI cJ cR) (ms_w ad cI cJ) A) A) args s 0 0 A) (F0 m 35 ls [.long s1, .long s0]) := by
  obtain ⟨⟨hx, hb, hml, hown, hts⟩, hrt, hlk⟩ := id fx
  have hf : 0 ≤ rm_X8_seriesOf.cells ∧ 0 ≤ rm_X8_seriesOf.slots := ⟨Nat.zero_le _, Nat.zero_le _⟩
  unfold wp_X8_seriesOf_35 at h
  refine W.lcmp hx hb dX8_seriesOf_35 ?_
  refine lv_if_eq (tgt := 42) hx hb dX8_seriesOf_36 (by decide) (fun c36 => ?_) (fun c36 => ?_)
  · have h := h.1 ((lg_cmp_eq _ _).mp c36)
    refine lv_aload_n hx hb dX8_seriesOf_42 rfl (lv_at hl 0 rfl) ?_
    refine lv_iload_n hx hb dX8_seriesOf_43 rfl (lv_at hl 1 rfl) ?_
    refine lv_iload_n hx hb dX8_seriesOf_44 rfl (lv_at hl 2 rfl) ?_
    refine lv_iload_n hx hb dX8_seriesOf_45 rfl (lv_at hl 3 rfl) ?_
    refine xr_vV (n := 3) (As := [.int v1, .int v2, .int v3]) (rest := []) fx (ct_X8_series l D ad cI cJ cR h) gX8_seriesOf_X8_series rfl rfl (by decide +kernel) ⟨Nat.le_of_ble_eq_true rfl, Nat.le_of_ble_eq_true rfl⟩ ⟨rfl, rfl⟩ hf (ms_recv hK hP) hK hP hD hS hA hl.1 rfl (Nat.le_of_ble_eq_true rfl) dX8_seriesOf_46 (fun S1 H locs h hP hD hS => ?_)
    refine lv_iconst (v := 0) hx hb dX8_seriesOf_49 (by decide) ?_
    exact xr_rI fx hK hP hD hS h dX8_seriesOf_50
  · have h := h.2 (fun z => c36 ((lg_cmp_eq _ _).mpr z))
    refine lv_bipush (v := (-3)) hx hb dX8_seriesOf_39 (by decide) ?_
    exact xr_rI fx hK hP hD hS h dX8_seriesOf_41
set_option maxHeartbeats 4000000 in
set_option maxRecDepth 100000 in
theorem ct_X8_seriesOf (l : Launch) (D : va_G) (ad : Nat → Nat) (cI cJ cR : ClassId) {S : ms_T} {a1 : Int32} {a2 : Int32} {a3 : Int32} {Q : Int32 → ms_T → Prop} (h : wp_X8_seriesOf S a1 a2 a3 Q) : xr_I l D (ms_ty cI cJ cR) (ms_w ad cI cJ) yX8_seriesOf wsX8_seriesOf rm_X8_seriesOf [.ref (ad 0), .int a1, .int a2, .int a3] S Q := by
  refine xr_eI (cc := cX8_seriesOf) (nL := 4) (ret := (some .int)) (own := RX8) (by decide) rfl rfl (Nat.le_of_ble_eq_true rfl) ?_
  intro p e s m args below meth c ls A fx hK hA hP hD hS hl
  have hl : lv_has ls 4 [(0, .ref (ad 0)), (1, .int a1), (2, .int a2), (3, .int a3)] := hl
  show W p l e rm_X8_seriesOf s m args below meth c s.heap [] 0 0 _ _
  obtain ⟨⟨hx, hb, hml, hown, hts⟩, hrt, hlk⟩ := id fx
  have hf : 0 ≤ rm_X8_seriesOf.cells ∧ 0 ≤ rm_X8_seriesOf.slots := ⟨Nat.zero_le _, Nat.zero_le _⟩
  unfold wp_X8_seriesOf at h
  refine lv_iload_n hx hb dX8_seriesOf_0 rfl (lv_at hl 1 rfl) ?_
  refine xr_sI (n := 1) (As := [.int a1]) (rest := []) fx (ct_X8_isSum l h) gX8_seriesOf_X8_isSum rfl rfl (by decide +kernel) ⟨Nat.le_of_ble_eq_true rfl, Nat.le_of_ble_eq_true rfl⟩ ⟨rfl, rfl⟩ hf hl.1 rfl (Nat.le_of_ble_eq_true rfl) dX8_seriesOf_1 (fun r2 h => ?_)
  refine lv_if_eq (tgt := 14) hx hb dX8_seriesOf_4 (by decide) (fun c4 => ?_) (fun c4 => ?_)
  · have h := h.1 c4
    refine lv_iconst (v := (-1)) hx hb dX8_seriesOf_14 (by decide) ?_
    exact xr_rI fx hK hP hD hS h dX8_seriesOf_15
  · have h := h.2 c4
    refine lv_iload_n hx hb dX8_seriesOf_7 rfl (lv_at hl 2 rfl) ?_
    refine xr_sI (n := 1) (As := [.int a2]) (rest := []) fx (ct_X8_isSum l h) gX8_seriesOf_X8_isSum rfl rfl (by decide +kernel) ⟨Nat.le_of_ble_eq_true rfl, Nat.le_of_ble_eq_true rfl⟩ ⟨rfl, rfl⟩ hf hl.1 rfl (Nat.le_of_ble_eq_true rfl) dX8_seriesOf_8 (fun r3 h => ?_)
    refine lv_if_ne (tgt := 16) hx hb dX8_seriesOf_11 (by decide) (fun c11 => ?_) (fun c11 => ?_)
    · have h := h.1 c11
      refine lv_aload_n hx hb dX8_seriesOf_16 rfl (lv_at hl 0 rfl) ?_
      refine ms_get 6 (v := .ref (ad 15)) fx in_X8_seriesOf (by decide) rfl (by decide +kernel) rfl hK hP dX8_seriesOf_17 ?_
      refine lv_sipush (v := 364) hx hb dX8_seriesOf_20 (by decide) ?_
      refine lv_iload_n hx hb dX8_seriesOf_23 rfl (lv_at hl 2 rfl) ?_
      refine lv_imul hx hb dX8_seriesOf_24 ?_
      obtain ⟨hi4, h⟩ := h
      refine ms_lald 0 (by decide) fx hK hP rfl hi4 dX8_seriesOf_25 ?_
      refine lv_iload_n hx hb dX8_seriesOf_26 rfl (lv_at hl 3 rfl) ?_
      refine lv_if_ne (tgt := 34) hx hb dX8_seriesOf_27 (by decide) (fun c27 => ?_) (fun c27 => ?_)
      · have h := h.1 c27
        refine lv_lconst (v := 1) hx hb dX8_seriesOf_34 (by decide) ?_
        exact kw_X8_seriesOf_35 fx hK hA hP hD hS (lv_sub hl [0, 1, 2, 3] rfl) h
      · have h := h.2 c27
        refine lv_lconst (v := 0) hx hb dX8_seriesOf_30 (by decide) ?_
        refine lv_goto (tgt := 35) hx hb dX8_seriesOf_31 (by decide) ?_
        exact kw_X8_seriesOf_35 fx hK hA hP hD hS (lv_sub hl [0, 1, 2, 3] rfl) h
    · have h := h.2 c11
      refine lv_iconst (v := (-1)) hx hb dX8_seriesOf_14 (by decide) ?_
      exact xr_rI fx hK hP hD hS h dX8_seriesOf_15
abbrev rm_X8_exp : Room := { frames := 4, cells := 0, slots := 0, locals := 99 }
set_option maxHeartbeats 4000000 in
set_option maxRecDepth 100000 in
theorem ct_X8_exp (l : Launch) (D : va_G) (ad : Nat → Nat) (cI cJ cR : ClassId) {S : ms_T} {a1 : Int32} {a2 : Int32} {Q : Int32 → ms_T → Prop} (h : wp_X8_exp S a1 a2 Q) : xr_I l D (ms_ty cI cJ cR) (ms_w ad cI cJ) yX8_exp wsX8_exp rm_X8_exp [.ref (ad 0), .int a1, .int a2] S Q := by
  refine xr_eI (cc := cX8_exp) (nL := 3) (ret := (some .int)) (own := RX8) (by decide) rfl rfl (Nat.le_of_ble_eq_true rfl) ?_
  intro p e s m args below meth c ls A fx hK hA hP hD hS hl
  have hl : lv_has ls 3 [(0, .ref (ad 0)), (1, .int a1), (2, .int a2)] := hl
  show W p l e rm_X8_exp s m args below meth c s.heap [] 0 0 _ _
  obtain ⟨⟨hx, hb, hml, hown, hts⟩, hrt, hlk⟩ := id fx
  have hf : 0 ≤ rm_X8_exp.cells ∧ 0 ≤ rm_X8_exp.slots := ⟨Nat.zero_le _, Nat.zero_le _⟩
  unfold wp_X8_exp at h
  refine lv_aload_n hx hb dX8_exp_0 rfl (lv_at hl 0 rfl) ?_
  refine lv_iload_n hx hb dX8_exp_1 rfl (lv_at hl 1 rfl) ?_
  refine lv_iload_n hx hb dX8_exp_2 rfl (lv_at hl 2 rfl) ?_
  refine lv_iconst (v := 0) hx hb dX8_exp_3 (by decide) ?_
  refine xr_vI (n := 3) (As := [.int a1, .int a2, .int 0]) (rest := []) fx (ct_X8_seriesOf l D ad cI cJ cR h) gX8_exp_X8_seriesOf rfl rfl (by decide +kernel) ⟨Nat.le_of_ble_eq_true rfl, Nat.le_of_ble_eq_true rfl⟩ ⟨rfl, rfl⟩ hf (ms_recv hK hP) hK hP hD hS hA hl.1 rfl (Nat.le_of_ble_eq_true rfl) dX8_exp_4 (fun r2 S1 H locs h hP hD hS => ?_)
  exact xr_rI fx hK hP hD hS h dX8_exp_7
abbrev rm_X8_log : Room := { frames := 4, cells := 0, slots := 0, locals := 99 }
set_option maxHeartbeats 4000000 in
set_option maxRecDepth 100000 in
theorem ct_X8_log (l : Launch) (D : va_G) (ad : Nat → Nat) (cI cJ cR : ClassId) {S : ms_T} {a1 : Int32} {a2 : Int32} {Q : Int32 → ms_T → Prop} (h : wp_X8_log S a1 a2 Q) : xr_I l D (ms_ty cI cJ cR) (ms_w ad cI cJ) yX8_log wsX8_log rm_X8_log [.ref (ad 0), .int a1, .int a2] S Q := by
  refine xr_eI (cc := cX8_log) (nL := 3) (ret := (some .int)) (own := RX8) (by decide) rfl rfl (Nat.le_of_ble_eq_true rfl) ?_
  intro p e s m args below meth c ls A fx hK hA hP hD hS hl
  have hl : lv_has ls 3 [(0, .ref (ad 0)), (1, .int a1), (2, .int a2)] := hl
  show W p l e rm_X8_log s m args below meth c s.heap [] 0 0 _ _
  obtain ⟨⟨hx, hb, hml, hown, hts⟩, hrt, hlk⟩ := id fx
  have hf : 0 ≤ rm_X8_log.cells ∧ 0 ≤ rm_X8_log.slots := ⟨Nat.zero_le _, Nat.zero_le _⟩
  unfold wp_X8_log at h
  refine lv_aload_n hx hb dX8_log_0 rfl (lv_at hl 0 rfl) ?_
  refine lv_iload_n hx hb dX8_log_1 rfl (lv_at hl 1 rfl) ?_
  refine lv_iload_n hx hb dX8_log_2 rfl (lv_at hl 2 rfl) ?_
  refine lv_iconst (v := 1) hx hb dX8_log_3 (by decide) ?_
  refine xr_vI (n := 3) (As := [.int a1, .int a2, .int 1]) (rest := []) fx (ct_X8_seriesOf l D ad cI cJ cR h) gX8_log_X8_seriesOf rfl rfl (by decide +kernel) ⟨Nat.le_of_ble_eq_true rfl, Nat.le_of_ble_eq_true rfl⟩ ⟨rfl, rfl⟩ hf (ms_recv hK hP) hK hP hD hS hA hl.1 rfl (Nat.le_of_ble_eq_true rfl) dX8_log_4 (fun r2 S1 H locs h hP hD hS => ?_)
  exact xr_rI fx hK hP hD hS h dX8_log_7
abbrev rm_X8_inverse : Room := { frames := 4, cells := 0, slots := 0, locals := 99 }
set_option maxHeartbeats 4000000 in
set_option maxRecDepth 100000 in
theorem ct_X8_inverse (l : Launch) (D : va_G) (ad : Nat → Nat) (cI cJ cR : ClassId) {S : ms_T} {a1 : Int32} {a2 : Int32} {Q : Int32 → ms_T → Prop} (h : wp_X8_inverse S a1 a2 Q) : xr_I l D (ms_ty cI cJ cR) (ms_w ad cI cJ) yX8_inverse wsX8_inverse rm_X8_inverse [.ref (ad 0), .int a1, .int a2] S Q := by
  refine xr_eI (cc := cX8_inverse) (nL := 3) (ret := (some .int)) (own := RX8) (by decide) rfl rfl (Nat.le_of_ble_eq_true rfl) ?_
  intro p e s m args below meth c ls A fx hK hA hP hD hS hl
  have hl : lv_has ls 3 [(0, .ref (ad 0)), (1, .int a1), (2, .int a2)] := hl
  show W p l e rm_X8_inverse s m args below meth c s.heap [] 0 0 _ _
  obtain ⟨⟨hx, hb, hml, hown, hts⟩, hrt, hlk⟩ := id fx
  have hf : 0 ≤ rm_X8_inverse.cells ∧ 0 ≤ rm_X8_inverse.slots := ⟨Nat.zero_le _, Nat.zero_le _⟩
  unfold wp_X8_inverse at h
  refine lv_aload_n hx hb dX8_inverse_0 rfl (lv_at hl 0 rfl) ?_
  refine lv_iload_n hx hb dX8_inverse_1 rfl (lv_at hl 1 rfl) ?_
  refine lv_iload_n hx hb dX8_inverse_2 rfl (lv_at hl 2 rfl) ?_
  refine lv_iconst (v := 2) hx hb dX8_inverse_3 (by decide) ?_
  refine xr_vI (n := 3) (As := [.int a1, .int a2, .int 2]) (rest := []) fx (ct_X8_seriesOf l D ad cI cJ cR h) gX8_inverse_X8_seriesOf rfl rfl (by decide +kernel) ⟨Nat.le_of_ble_eq_true rfl, Nat.le_of_ble_eq_true rfl⟩ ⟨rfl, rfl⟩ hf (ms_recv hK hP) hK hP hD hS hA hl.1 rfl (Nat.le_of_ble_eq_true rfl) dX8_inverse_4 (fun r2 S1 H locs h hP hD hS => ?_)
  exact xr_rI fx hK hP hD hS h dX8_inverse_7
abbrev rm_X8_group : Room := { frames := 3, cells := 0, slots := 0, locals := 76 }
theorem in_X8_group : ∀ w ∈ wsX80, w ∈ wsX8_group := by decide +kernel
set_option maxHeartbeats 4000000 in
set_option maxRecDepth 100000 in
theorem ct_X8_group (l : Launch) (D : va_G) (ad : Nat → Nat) (cI cJ cR : ClassId) {S : ms_T} {a1 : Int32} {a2 : Int32} {a3 : Int32} {Q : Int32 → ms_T → Prop} (h : wp_X8_group S a1 a2 a3 Q) : xr_I l D (ms_ty cI cJ cR) (ms_w ad cI cJ) yX8_group wsX8_group rm_X8_group [.ref (ad 0), .int a1, .int a2, .int a3] S Q := by
  refine xr_eI (cc := cX8_group) (nL := 4) (ret := (some .int)) (own := RX8) (by decide) rfl rfl (Nat.le_of_ble_eq_true rfl) ?_
  intro p e s m args below meth c ls A fx hK hA hP hD hS hl
  have hl : lv_has ls 4 [(0, .ref (ad 0)), (1, .int a1), (2, .int a2), (3, .int a3)] := hl
  show W p l e rm_X8_group s m args below meth c s.heap [] 0 0 _ _
  obtain ⟨⟨hx, hb, hml, hown, hts⟩, hrt, hlk⟩ := id fx
  have hf : 0 ≤ rm_X8_group.cells ∧ 0 ≤ rm_X8_group.slots := ⟨Nat.zero_le _, Nat.zero_le _⟩
  unfold wp_X8_group at h
  refine lv_aload_n hx hb dX8_group_0 rfl (lv_at hl 0 rfl) ?_
  refine lv_iload_n hx hb dX8_group_1 rfl (lv_at hl 1 rfl) ?_
  refine lv_iload_n hx hb dX8_group_2 rfl (lv_at hl 2 rfl) ?_
  refine lv_iload_n hx hb dX8_group_3 rfl (lv_at hl 3 rfl) ?_
  refine xr_vI (n := 3) (As := [.int a1, .int a2, .int a3]) (rest := []) fx (ct_X8_areSums l D ad cI cJ cR h) gX8_group_X8_areSums rfl rfl (by decide +kernel) ⟨Nat.le_of_ble_eq_true rfl, Nat.le_of_ble_eq_true rfl⟩ ⟨rfl, rfl⟩ hf (ms_recv hK hP) hK hP hD hS hA hl.1 rfl (Nat.le_of_ble_eq_true rfl) dX8_group_4 (fun r2 S1 H locs h hP hD hS => ?_)
  refine lv_if_ne (tgt := 12) hx hb dX8_group_7 (by decide) (fun c7 => ?_) (fun c7 => ?_)
  · have h := h.1 c7
    refine lv_aload_n hx hb dX8_group_12 rfl (lv_at hl 0 rfl) ?_
    refine ms_get 6 (v := .ref (ad 15)) fx in_X8_group (by decide) rfl (by decide +kernel) rfl hK hP dX8_group_13 ?_
    refine lv_sipush (v := 364) hx hb dX8_group_16 (by decide) ?_
    refine lv_iload_n hx hb dX8_group_19 rfl (lv_at hl 2 rfl) ?_
    refine lv_imul hx hb dX8_group_20 ?_
    obtain ⟨hi3, h⟩ := h
    refine ms_lald 0 (by decide) fx hK hP rfl hi3 dX8_group_21 ?_
    refine lv_lconst (v := 0) hx hb dX8_group_22 (by decide) ?_
    refine W.lcmp hx hb dX8_group_23 ?_
    refine lv_if_ne (tgt := 42) hx hb dX8_group_24 (by decide) (fun c24 => ?_) (fun c24 => ?_)
    · have h := h.1 (fun z => c24 ((lg_cmp_eq _ _).mpr z))
      refine lv_bipush (v := (-3)) hx hb dX8_group_42 (by decide) ?_
      exact xr_rI fx hK hP hD hS h dX8_group_44
    · have h := h.2 ((lg_cmp_eq _ _).mp c24)
      refine lv_aload_n hx hb dX8_group_27 rfl (lv_at hl 0 rfl) ?_
      refine ms_get 6 (v := .ref (ad 15)) fx in_X8_group (by decide) rfl (by decide +kernel) rfl hK hP dX8_group_28 ?_
      refine lv_sipush (v := 364) hx hb dX8_group_31 (by decide) ?_
      refine lv_iload_n hx hb dX8_group_34 rfl (lv_at hl 3 rfl) ?_
      refine lv_imul hx hb dX8_group_35 ?_
      obtain ⟨hi4, h⟩ := h
      refine ms_lald 0 (by decide) fx hK hP rfl hi4 dX8_group_36 ?_
      refine lv_lconst (v := 0) hx hb dX8_group_37 (by decide) ?_
      refine W.lcmp hx hb dX8_group_38 ?_
      refine lv_if_eq (tgt := 45) hx hb dX8_group_39 (by decide) (fun c39 => ?_) (fun c39 => ?_)
      · have h := h.1 ((lg_cmp_eq _ _).mp c39)
        refine lv_aload_n hx hb dX8_group_45 rfl (lv_at hl 0 rfl) ?_
        refine lv_bipush (v := 14) hx hb dX8_group_46 (by decide) ?_
        refine lv_iload_n hx hb dX8_group_48 rfl (lv_at hl 2 rfl) ?_
        refine lv_iconst (v := 0) hx hb dX8_group_49 (by decide) ?_
        refine xr_vV (n := 3) (As := [.int 14, .int a2, .int 0]) (rest := []) fx (ct_X8_series l D ad cI cJ cR h) gX8_group_X8_series rfl rfl (by decide +kernel) ⟨Nat.le_of_ble_eq_true rfl, Nat.le_of_ble_eq_true rfl⟩ ⟨rfl, rfl⟩ hf (ms_recv hK hP) hK hP hD hS hA hl.1 rfl (Nat.le_of_ble_eq_true rfl) dX8_group_50 (fun S5 H locs h hP hD hS => ?_)
        refine lv_aload_n hx hb dX8_group_53 rfl (lv_at hl 0 rfl) ?_
        refine lv_bipush (v := 15) hx hb dX8_group_54 (by decide) ?_
        refine lv_iload_n hx hb dX8_group_56 rfl (lv_at hl 3 rfl) ?_
        refine lv_iconst (v := 0) hx hb dX8_group_57 (by decide) ?_
        refine xr_vV (n := 3) (As := [.int 15, .int a3, .int 0]) (rest := []) fx (ct_X8_series l D ad cI cJ cR h) gX8_group_X8_series rfl rfl (by decide +kernel) ⟨Nat.le_of_ble_eq_true rfl, Nat.le_of_ble_eq_true rfl⟩ ⟨rfl, rfl⟩ hf (ms_recv hK hP) hK hP hD hS hA hl.1 rfl (Nat.le_of_ble_eq_true rfl) dX8_group_58 (fun S6 H locs h hP hD hS => ?_)
        refine lv_aload_n hx hb dX8_group_61 rfl (lv_at hl 0 rfl) ?_
        refine lv_bipush (v := 16) hx hb dX8_group_62 (by decide) ?_
        refine lv_bipush (v := 14) hx hb dX8_group_64 (by decide) ?_
        refine lv_bipush (v := 15) hx hb dX8_group_66 (by decide) ?_
        refine xr_vV (n := 3) (As := [.int 16, .int 14, .int 15]) (rest := []) fx (ct_X8_multiplies l D ad cI cJ cR h) gX8_group_X8_multiplies rfl rfl (by decide +kernel) ⟨Nat.le_of_ble_eq_true rfl, Nat.le_of_ble_eq_true rfl⟩ ⟨rfl, rfl⟩ hf (ms_recv hK hP) hK hP hD hS hA hl.1 rfl (Nat.le_of_ble_eq_true rfl) dX8_group_68 (fun S7 H locs h hP hD hS => ?_)
        refine lv_aload_n hx hb dX8_group_71 rfl (lv_at hl 0 rfl) ?_
        refine lv_iload_n hx hb dX8_group_72 rfl (lv_at hl 1 rfl) ?_
        refine lv_bipush (v := 16) hx hb dX8_group_73 (by decide) ?_
        refine lv_iconst (v := 1) hx hb dX8_group_75 (by decide) ?_
        refine xr_vV (n := 3) (As := [.int a1, .int 16, .int 1]) (rest := []) fx (ct_X8_series l D ad cI cJ cR h) gX8_group_X8_series rfl rfl (by decide +kernel) ⟨Nat.le_of_ble_eq_true rfl, Nat.le_of_ble_eq_true rfl⟩ ⟨rfl, rfl⟩ hf (ms_recv hK hP) hK hP hD hS hA hl.1 rfl (Nat.le_of_ble_eq_true rfl) dX8_group_76 (fun S8 H locs h hP hD hS => ?_)
        refine lv_iconst (v := 0) hx hb dX8_group_79 (by decide) ?_
        exact xr_rI fx hK hP hD hS h dX8_group_80
      · have h := h.2 (fun z => c39 ((lg_cmp_eq _ _).mpr z))
        refine lv_bipush (v := (-3)) hx hb dX8_group_42 (by decide) ?_
        exact xr_rI fx hK hP hD hS h dX8_group_44
  · have h := h.2 c7
    refine lv_iconst (v := (-1)) hx hb dX8_group_10 (by decide) ?_
    exact xr_rI fx hK hP hD hS h dX8_group_11
abbrev rm_X8_isLetter : Room := { frames := 1, cells := 0, slots := 0, locals := 25 }
theorem in_X8_isLetter : ∀ w ∈ wsX80, w ∈ wsX8_isLetter := by decide +kernel
set_option maxHeartbeats 4000000 in
set_option maxRecDepth 100000 in
theorem ct_X8_isLetter (l : Launch) (D : va_G) (ad : Nat → Nat) (cI cJ cR : ClassId) {S : ms_T} {a1 : Int32} {Q : Int32 → ms_T → Prop} (h : wp_X8_isLetter S a1 Q) : xr_I l D (ms_ty cI cJ cR) (ms_w ad cI cJ) yX8_isLetter wsX8_isLetter rm_X8_isLetter [.ref (ad 0), .int a1] S Q := by
  refine xr_eI (cc := cX8_isLetter) (nL := 2) (ret := (some .boolean)) (own := RX8) (by decide) rfl rfl (Nat.le_of_ble_eq_true rfl) ?_
  intro p e s m args below meth c ls A fx hK hA hP hD hS hl
  have hl : lv_has ls 2 [(0, .ref (ad 0)), (1, .int a1)] := hl
  show W p l e rm_X8_isLetter s m args below meth c s.heap [] 0 0 _ _
  obtain ⟨⟨hx, hb, hml, hown, hts⟩, hrt, hlk⟩ := id fx
  have hf : 0 ≤ rm_X8_isLetter.cells ∧ 0 ≤ rm_X8_isLetter.slots := ⟨Nat.zero_le _, Nat.zero_le _⟩
  unfold wp_X8_isLetter at h
  refine lv_iload_n hx hb dX8_isLetter_0 rfl (lv_at hl 1 rfl) ?_
  refine lv_i2l hx hb dX8_isLetter_1 rfl ?_
  refine lv_lconst (v := 0) hx hb dX8_isLetter_2 (by decide) ?_
  refine lv_aload_n hx hb dX8_isLetter_3 rfl (lv_at hl 0 rfl) ?_
  refine ms_get 0 (v := .int (S.1 0)) fx in_X8_isLetter (by decide) rfl (by decide +kernel) rfl hK hP dX8_isLetter_4 ?_
  refine lv_iconst (v := 1) hx hb dX8_isLetter_7 (by decide) ?_
  refine lv_isub hx hb dX8_isLetter_8 ?_
  refine lv_i2l hx hb dX8_isLetter_9 rfl ?_
  refine xr_sI (n := 3) (As := [.long a1.toInt64, .long 0, .long (((S.1 0) - 1).toInt64)]) (rest := []) fx (ct_X8_in l h) gX8_isLetter_X8_in rfl rfl (by decide +kernel) ⟨Nat.le_of_ble_eq_true rfl, Nat.le_of_ble_eq_true rfl⟩ ⟨rfl, rfl⟩ hf hl.1 rfl (Nat.le_of_ble_eq_true rfl) dX8_isLetter_10 (fun r1 h => ?_)
  exact xr_rZ fx (xr_nar h.1) hK hP hD hS h.2 dX8_isLetter_13
abbrev rm_X8_derives : Room := { frames := 1, cells := 0, slots := 0, locals := 23 }
theorem in_X8_derives : ∀ w ∈ wsX80, w ∈ wsX8_derives := by decide +kernel
set_option maxHeartbeats 4000000 in
set_option maxRecDepth 100000 in
theorem kb_X8_derives_65 {p : Program} {l : Launch} {e : Env} {s : State} {m : MethodId} {args : Array Value} {below : List Frame} {meth : Method} {c : Code} {D : va_G} {ad : Nat → Nat} {cI cJ cR : ClassId} {A : Nat → Prop} {K48 : ms_T → Int32 → Int64 → Int32 → Int32 → Int32 → Int32 → Int32 → Prop} {K65 : ms_T → Int32 → Int64 → Int32 → Int32 → Int32 → Int32 → Int32 → Int32 → Prop} {Q : ms_T → Prop} {S : ms_T} {v2 : Int32} {v3 : Int64} {v5 : Int32} {v6 : Int32} {v7 : Int32} {v8 : Int32} {v9 : Int32} {v10 : Int32} (fx : xr_Fx p m c meth cX8_derives 12 s args wsX8_derives RX8 none) (hK : xr_K D (ms_ty cI cJ cR) s) (hA : ∀ q, s.heap.size ≤ q → A q) (k48 : ∀ (S : ms_T) (v2 : Int32) (v3 : Int64) (v5 : Int32) (v6 : Int32) (v7 : Int32) (v8 : Int32) (v9 : Int32) {H : Heap} {locs : List Loc} {ls : Array Slot}, va_P D vwCl (ms_w ad cI cJ S) H → va_D A (ms_w ad cI cJ S) → va_S A s.heap H locs → lv_has ls 12 [(0, .ref (ad 0)), (2, .int v2), (3, .long v3), (5, .int v5), (6, .int v6), (7, .int v7), (8, .int v8), (9, .int v9)] → K48 S v2 v3 v5 v6 v7 v8 v9 → W p l e rm_X8_derives s m args below meth c H locs 0 0 (MQ below (va_Qv Q (xr_B D (ms_ty cI cJ cR) (ms_w ad cI cJ) A) A) args s 0 0 A) (F0 m 48 ls [])) (k65 : ∀ (S : ms_T) (v2 : Int32) (v3 : Int64) (v5 : Int32) (v6 : Int32) (v7 : Int32) (v8 : Int32) (v9 : Int32) (v10 : Int32) {H : Heap} {locs : List Loc} {ls : Array Slot}, va_P D vwCl (ms_w ad cI cJ S) H → va_D A (ms_w ad cI cJ S) → va_S A s.heap H locs → lv_has ls 12 [(0, .ref (ad 0)), (2, .int v2), (3, .long v3), (5, .int v5), (6, .int v6), (7, .int v7), (8, .int v8), (9, .int v9), (10, .int v10)] → K65 S v2 v3 v5 v6 v7 v8 v9 v10 → W p l e rm_X8_derives s m args below meth c H locs 0 0 (MQ below (va_Qv Q (xr_B D (ms_ty cI cJ cR) (ms_w ad cI cJ) A) A) args s 0 0 A) (F0 m 65 ls [])) {H : Heap} {locs : List Loc} {ls : Array Slot} (hP : va_P D vwCl (ms_w ad cI cJ S) H) (hD : va_D A (ms_w ad cI cJ S)) (hS : va_S A s.heap H locs) (hl : lv_has ls 12 [(0, .ref (ad 0)), (2, .int v2), (3, .long v3), (5, .int v5), (6, .int v6), (7, .int v7), (8, .int v8), (9, .int v9), (10, .int v10)]) (h : wb_X8_derives_65 K48 K65 Q S v2 v3 v5 v6 v7 v8 v9 v10) : W p l e rm_X8_derives s m args below meth c H locs 0 0 (MQ below (va_Qv Q (xr_B D (ms_ty cI cJ cR) (ms_w ad cI cJ) A) A) args s 0 0 A) (F0 m 65 ls []) := by
  obtain ⟨⟨hx, hb, hml, hown, hts⟩, hrt, hlk⟩ := id fx
  have hf : 0 ≤ rm_X8_derives.cells ∧ 0 ≤ rm_X8_derives.slots := ⟨Nat.zero_le _, Nat.zero_le _⟩
  unfold wb_X8_derives_65 at h
  refine lv_iload hx hb dX8_derives_65 (lv_at hl 8 rfl) ?_
  refine lv_aload_n hx hb dX8_derives_67 rfl (lv_at hl 0 rfl) ?_
  refine ms_get 3 (v := .ref (ad 1)) fx in_X8_derives (by decide) rfl (by decide +kernel) rfl hK hP dX8_derives_68 ?_
  refine lv_iload hx hb dX8_derives_71 (lv_at hl 7 rfl) ?_
  obtain ⟨hi1, h⟩ := h
  refine ms_iald 0 (by decide) fx hK hP rfl hi1 dX8_derives_73 ?_
  refine lv_icmp_ge (tgt := 173) hx hb dX8_derives_74 (by decide) (fun c74 => ?_) (fun c74 => ?_)
  · have h := h.1 c74
    obtain ⟨v9_2, ev9_2⟩ : ∃ z : Int32, z = v9 + 1 := ⟨_, rfl⟩
    have h := h v9_2 ev9_2
    refine lv_iinc (v := v9_2) (lv' := [(9, .int v9_2), (0, .ref (ad 0)), (2, .int v2), (3, .long v3), (5, .int v5), (6, .int v6), (7, .int v7), (8, .int v8), (10, .int v10)]) hx hb dX8_derives_173 hl (k := 7) rfl (by rw [ev9_2]; rfl) (by decide) rfl (fun ls hl => ?_)
    refine lv_goto (tgt := 48) hx hb dX8_derives_176 (by decide) ?_
    exact k48 _ _ _ _ _ _ _ _ hP hD hS (lv_sub hl [1, 2, 3, 4, 5, 6, 7, 0] rfl) h
  · have h := h.2 c74
    refine lv_aload_n hx hb dX8_derives_77 rfl (lv_at hl 0 rfl) ?_
    refine ms_get 4 (v := .ref (ad 2)) fx in_X8_derives (by decide) rfl (by decide +kernel) rfl hK hP dX8_derives_78 ?_
    refine lv_iload_n hx hb dX8_derives_81 rfl (lv_at hl 1 rfl) ?_
    refine lv_iload hx hb dX8_derives_82 (lv_at hl 7 rfl) ?_
    refine lv_iadd hx hb dX8_derives_84 ?_
    refine lv_iload hx hb dX8_derives_85 (lv_at hl 5 rfl) ?_
    refine lv_iadd hx hb dX8_derives_87 ?_
    obtain ⟨hi3, h⟩ := h
    refine ms_iald 1 (by decide) fx hK hP rfl hi3 dX8_derives_88 ?_
    refine lv_iload hx hb dX8_derives_89 (lv_at hl 4 rfl) ?_
    refine lv_aload_n hx hb dX8_derives_91 rfl (lv_at hl 0 rfl) ?_
    refine ms_get 3 (v := .ref (ad 1)) fx in_X8_derives (by decide) rfl (by decide +kernel) rfl hK hP dX8_derives_92 ?_
    refine lv_iload hx hb dX8_derives_95 (lv_at hl 7 rfl) ?_
    obtain ⟨hi4, h⟩ := h
    refine ms_iald 0 (by decide) fx hK hP rfl hi4 dX8_derives_97 ?_
    refine lv_imul hx hb dX8_derives_98 ?_
    refine lv_iload hx hb dX8_derives_99 (lv_at hl 8 rfl) ?_
    refine lv_iadd hx hb dX8_derives_101 ?_
    refine lv_aload_n hx hb dX8_derives_102 rfl (lv_at hl 0 rfl) ?_
    refine ms_get 3 (v := .ref (ad 1)) fx in_X8_derives (by decide) rfl (by decide +kernel) rfl hK hP dX8_derives_103 ?_
    refine lv_iload hx hb dX8_derives_106 (lv_at hl 5 rfl) ?_
    obtain ⟨hi5, h⟩ := h
    refine ms_iald 0 (by decide) fx hK hP rfl hi5 dX8_derives_108 ?_
    refine lv_imul hx hb dX8_derives_109 ?_
    refine lv_iadd hx hb dX8_derives_110 ?_
    refine lv_iload hx hb dX8_derives_111 (lv_at hl 6 rfl) ?_
    refine lv_iadd hx hb dX8_derives_113 ?_
    refine lv_topi (fun v11_6 ev11_6 => ?_)
    have h := h v11_6 ev11_6
    refine lv_istore (lv' := [(11, .int v11_6), (0, .ref (ad 0)), (2, .int v2), (3, .long v3), (5, .int v5), (6, .int v6), (7, .int v7), (8, .int v8), (9, .int v9), (10, .int v10)]) hx hb dX8_derives_114 hl (by decide) rfl (fun ls hl => ?_)
    refine lv_aload_n hx hb dX8_derives_116 rfl (lv_at hl 1 rfl) ?_
    refine ms_get 6 (v := .ref (ad 15)) fx in_X8_derives (by decide) rfl (by decide +kernel) rfl hK hP dX8_derives_117 ?_
    refine lv_sipush (v := 2912) hx hb dX8_derives_120 (by decide) ?_
    refine lv_iload hx hb dX8_derives_123 (lv_at hl 0 rfl) ?_
    refine lv_iadd hx hb dX8_derives_125 ?_
    refine lv_aload_n hx hb dX8_derives_126 rfl (lv_at hl 1 rfl) ?_
    refine ms_get 6 (v := .ref (ad 15)) fx in_X8_derives (by decide) rfl (by decide +kernel) rfl hK hP dX8_derives_127 ?_
    refine lv_sipush (v := 2912) hx hb dX8_derives_130 (by decide) ?_
    refine lv_iload hx hb dX8_derives_133 (lv_at hl 0 rfl) ?_
    refine lv_iadd hx hb dX8_derives_135 ?_
    obtain ⟨hi7, h⟩ := h
    refine ms_lald 0 (by decide) fx hK hP rfl hi7 dX8_derives_136 ?_
    refine lv_lload_n hx hb dX8_derives_137 rfl (lv_at hl 3 rfl) ?_
    refine lv_aload_n hx hb dX8_derives_138 rfl (lv_at hl 1 rfl) ?_
    refine ms_get 6 (v := .ref (ad 15)) fx in_X8_derives (by decide) rfl (by decide +kernel) rfl hK hP dX8_derives_139 ?_
    refine lv_sipush (v := 364) hx hb dX8_derives_142 (by decide) ?_
    refine lv_iload hx hb dX8_derives_145 (lv_at hl 4 rfl) ?_
    refine lv_imul hx hb dX8_derives_147 ?_
    refine lv_aload_n hx hb dX8_derives_148 rfl (lv_at hl 1 rfl) ?_
    refine ms_get 4 (v := .ref (ad 2)) fx in_X8_derives (by decide) rfl (by decide +kernel) rfl hK hP dX8_derives_149 ?_
    refine lv_iload hx hb dX8_derives_152 (lv_at hl 8 rfl) ?_
    obtain ⟨hi8, h⟩ := h
    refine ms_iald 1 (by decide) fx hK hP rfl hi8 dX8_derives_154 ?_
    refine lv_iadd hx hb dX8_derives_155 ?_
    refine lv_iload hx hb dX8_derives_156 (lv_at hl 9 rfl) ?_
    refine lv_iadd hx hb dX8_derives_158 ?_
    obtain ⟨hi9, h⟩ := h
    refine ms_lald 0 (by decide) fx hK hP rfl hi9 dX8_derives_159 ?_
    refine lv_lmul hx hb dX8_derives_160 ?_
    refine lv_ladd hx hb dX8_derives_161 ?_
    refine lv_ldc2 (v := 2147483647) hx hb hown (hts (.constantLong RX8 3 (2147483647)) (by decide +kernel)) dX8_derives_162 ?_
    refine lv_lrem hx hb dX8_derives_165 (by decide) ?_
    obtain ⟨hi10, h⟩ := h
    refine ms_last 0 (by decide) fx hK hP hD hS rfl hi10 dX8_derives_166 (fun H locs hP hD hS => ?_)
    obtain ⟨v10_11, ev10_11⟩ : ∃ z : Int32, z = v10 + 1 := ⟨_, rfl⟩
    have h := h v10_11 ev10_11
    refine lv_iinc (v := v10_11) (lv' := [(10, .int v10_11), (11, .int v11_6), (0, .ref (ad 0)), (2, .int v2), (3, .long v3), (5, .int v5), (6, .int v6), (7, .int v7), (8, .int v8), (9, .int v9)]) hx hb dX8_derives_167 hl (k := 9) rfl (by rw [ev10_11]; rfl) (by decide) rfl (fun ls hl => ?_)
    refine lv_goto (tgt := 65) hx hb dX8_derives_170 (by decide) ?_
    exact k65 _ _ _ _ _ _ _ _ _ hP hD hS (lv_sub hl [2, 3, 4, 5, 6, 7, 8, 9, 0] rfl) h
theorem kw_X8_derives_65 {p : Program} {l : Launch} {e : Env} {s : State} {m : MethodId} {args : Array Value} {below : List Frame} {meth : Method} {c : Code} {D : va_G} {ad : Nat → Nat} {cI cJ cR : ClassId} {A : Nat → Prop} {K48 : ms_T → Int32 → Int64 → Int32 → Int32 → Int32 → Int32 → Int32 → Prop} {Q : ms_T → Prop} (fx : xr_Fx p m c meth cX8_derives 12 s args wsX8_derives RX8 none) (hK : xr_K D (ms_ty cI cJ cR) s) (hA : ∀ q, s.heap.size ≤ q → A q) (k48 : ∀ (S : ms_T) (v2 : Int32) (v3 : Int64) (v5 : Int32) (v6 : Int32) (v7 : Int32) (v8 : Int32) (v9 : Int32) {H : Heap} {locs : List Loc} {ls : Array Slot}, va_P D vwCl (ms_w ad cI cJ S) H → va_D A (ms_w ad cI cJ S) → va_S A s.heap H locs → lv_has ls 12 [(0, .ref (ad 0)), (2, .int v2), (3, .long v3), (5, .int v5), (6, .int v6), (7, .int v7), (8, .int v8), (9, .int v9)] → K48 S v2 v3 v5 v6 v7 v8 v9 → W p l e rm_X8_derives s m args below meth c H locs 0 0 (MQ below (va_Qv Q (xr_B D (ms_ty cI cJ cR) (ms_w ad cI cJ) A) A) args s 0 0 A) (F0 m 48 ls [])) : ∀ (n : Nat) (S : ms_T) (v2 : Int32) (v3 : Int64) (v5 : Int32) (v6 : Int32) (v7 : Int32) (v8 : Int32) (v9 : Int32) (v10 : Int32) {H : Heap} {locs : List Loc} {ls : Array Slot}, va_P D vwCl (ms_w ad cI cJ S) H → va_D A (ms_w ad cI cJ S) → va_S A s.heap H locs → lv_has ls 12 [(0, .ref (ad 0)), (2, .int v2), (3, .long v3), (5, .int v5), (6, .int v6), (7, .int v7), (8, .int v8), (9, .int v9), (10, .int v10)] → wp_X8_derives_65 K48 Q n S v2 v3 v5 v6 v7 v8 v9 v10 → W p l e rm_X8_derives s m args below meth c H locs 0 0 (MQ below (va_Qv Q (xr_B D (ms_ty cI cJ cR) (ms_w ad cI cJ) A) A) args s 0 0 A) (F0 m 65 ls []) := by
  intro n
  induction n with
  | zero => intro S v2 v3 v5 v6 v7 v8 v9 v10 H locs ls hP hD hS hl h; exact False.elim h
  | succ n ih => intro S v2 v3 v5 v6 v7 v8 v9 v10 H locs ls hP hD hS hl h; exact kb_X8_derives_65 fx hK hA k48 ih hP hD hS hl h
set_option maxHeartbeats 4000000 in
set_option maxRecDepth 100000 in
theorem kb_X8_derives_48 {p : Program} {l : Launch} {e : Env} {s : State} {m : MethodId} {args : Array Value} {below : List Frame} {meth : Method} {c : Code} {D : va_G} {ad : Nat → Nat} {cI cJ cR : ClassId} {A : Nat → Prop}  {K48 : ms_T → Int32 → Int64 → Int32 → Int32 → Int32 → Int32 → Int32 → Prop} {Q : ms_T → Prop} {S : ms_T} {v2 : Int32} {v3 : Int64} {v5 : Int32} {v6 : Int32} {v7 : Int32} {v8 : Int32} {v9 : Int32} (fx : xr_Fx p m c meth cX8_derives 12 s args wsX8_derives RX8 none) (hK : xr_K D (ms_ty cI cJ cR) s) (hA : ∀ q, s.heap.size ≤ q → A q)  (k48 : ∀ (S : ms_T) (v2 : Int32) (v3 : Int64) (v5 : Int32) (v6 : Int32) (v7 : Int32) (v8 : Int32) (v9 : Int32) {H : Heap} {locs : List Loc} {ls : Array Slot}, va_P D vwCl (ms_w ad cI cJ S) H → va_D A (ms_w ad cI cJ S) → va_S A s.heap H locs → lv_has ls 12 [(0, .ref (ad 0)), (2, .int v2), (3, .long v3), (5, .int v5), (6, .int v6), (7, .int v7), (8, .int v8), (9, .int v9)] → K48 S v2 v3 v5 v6 v7 v8 v9 → W p l e rm_X8_derives s m args below meth c H locs 0 0 (MQ below (va_Qv Q (xr_B D (ms_ty cI cJ cR) (ms_w ad cI cJ) A) A) args s 0 0 A) (F0 m 48 ls [])) {H : Heap} {locs : List Loc} {ls : Array Slot} (hP : va_P D vwCl (ms_w ad cI cJ S) H) (hD : va_D A (ms_w ad cI cJ S)) (hS : va_S A s.heap H locs) (hl : lv_has ls 12 [(0, .ref (ad 0)), (2, .int v2), (3, .long v3), (5, .int v5), (6, .int v6), (7, .int v7), (8, .int v8), (9, .int v9)]) (h : wb_X8_derives_48 K48 Q S v2 v3 v5 v6 v7 v8 v9) : W p l e rm_X8_derives s m args below meth c H locs 0 0 (MQ below (va_Qv Q (xr_B D (ms_ty cI cJ cR) (ms_w ad cI cJ) A) A) args s 0 0 A) (F0 m 48 ls []) := by
  obtain ⟨⟨hx, hb, hml, hown, hts⟩, hrt, hlk⟩ := id fx
  have hf : 0 ≤ rm_X8_derives.cells ∧ 0 ≤ rm_X8_derives.slots := ⟨Nat.zero_le _, Nat.zero_le _⟩
  unfold wb_X8_derives_48 at h
  refine lv_iload_n hx hb dX8_derives_48 rfl (lv_at hl 1 rfl) ?_
  refine lv_iload hx hb dX8_derives_49 (lv_at hl 7 rfl) ?_
  refine lv_iadd hx hb dX8_derives_51 ?_
  refine lv_iload hx hb dX8_derives_52 (lv_at hl 5 rfl) ?_
  refine lv_iadd hx hb dX8_derives_54 ?_
  refine lv_aload_n hx hb dX8_derives_55 rfl (lv_at hl 0 rfl) ?_
  refine ms_get 1 (v := .int (S.1 1)) fx in_X8_derives (by decide) rfl (by decide +kernel) rfl hK hP dX8_derives_56 ?_
  refine lv_icmp_gt (tgt := 179) hx hb dX8_derives_59 (by decide) (fun c59 => ?_) (fun c59 => ?_)
  · have h := h.1 c59
    exact xr_rV fx hK hP hD hS h dX8_derives_179
  · have h := h.2 c59
    refine lv_iconst (v := 0) hx hb dX8_derives_62 (by decide) ?_
    refine lv_istore (lv' := [(10, .int 0), (0, .ref (ad 0)), (2, .int v2), (3, .long v3), (5, .int v5), (6, .int v6), (7, .int v7), (8, .int v8), (9, .int v9)]) hx hb dX8_derives_63 hl (by decide) rfl (fun ls hl => ?_)
    obtain ⟨n, h⟩ := h
    exact kw_X8_derives_65 fx hK hA k48 n _ _ _ _ _ _ _ _ _ hP hD hS (lv_sub hl [1, 2, 3, 4, 5, 6, 7, 8, 0] rfl) h
theorem kw_X8_derives_48 {p : Program} {l : Launch} {e : Env} {s : State} {m : MethodId} {args : Array Value} {below : List Frame} {meth : Method} {c : Code} {D : va_G} {ad : Nat → Nat} {cI cJ cR : ClassId} {A : Nat → Prop}  {Q : ms_T → Prop} (fx : xr_Fx p m c meth cX8_derives 12 s args wsX8_derives RX8 none) (hK : xr_K D (ms_ty cI cJ cR) s) (hA : ∀ q, s.heap.size ≤ q → A q)  : ∀ (n : Nat) (S : ms_T) (v2 : Int32) (v3 : Int64) (v5 : Int32) (v6 : Int32) (v7 : Int32) (v8 : Int32) (v9 : Int32) {H : Heap} {locs : List Loc} {ls : Array Slot}, va_P D vwCl (ms_w ad cI cJ S) H → va_D A (ms_w ad cI cJ S) → va_S A s.heap H locs → lv_has ls 12 [(0, .ref (ad 0)), (2, .int v2), (3, .long v3), (5, .int v5), (6, .int v6), (7, .int v7), (8, .int v8), (9, .int v9)] → wp_X8_derives_48 Q n S v2 v3 v5 v6 v7 v8 v9 → W p l e rm_X8_derives s m args below meth c H locs 0 0 (MQ below (va_Qv Q (xr_B D (ms_ty cI cJ cR) (ms_w ad cI cJ) A) A) args s 0 0 A) (F0 m 48 ls []) := by
  intro n
  induction n with
  | zero => intro S v2 v3 v5 v6 v7 v8 v9 H locs ls hP hD hS hl h; exact False.elim h
  | succ n ih => intro S v2 v3 v5 v6 v7 v8 v9 H locs ls hP hD hS hl h; exact kb_X8_derives_48 fx hK hA ih hP hD hS hl h
set_option maxHeartbeats 4000000 in
set_option maxRecDepth 100000 in
theorem ct_X8_derives (l : Launch) (D : va_G) (ad : Nat → Nat) (cI cJ cR : ClassId) {S : ms_T} {a1 : Int32} {a2 : Int32} {a3 : Int64} {a5 : Int32} {Q : ms_T → Prop} (h : wp_X8_derives S a1 a2 a3 a5 Q) : xr_V l D (ms_ty cI cJ cR) (ms_w ad cI cJ) yX8_derives wsX8_derives rm_X8_derives [.ref (ad 0), .int a1, .int a2, .long a3, .int a5] S Q := by
  refine xr_eV (cc := cX8_derives) (nL := 12) (ret := none) (own := RX8) (by decide) rfl rfl (Nat.le_of_ble_eq_true rfl) ?_
  intro p e s m args below meth c ls A fx hK hA hP hD hS hl
  have hl : lv_has ls 12 [(0, .ref (ad 0)), (1, .int a1), (2, .int a2), (3, .long a3), (5, .int a5)] := hl
  show W p l e rm_X8_derives s m args below meth c s.heap [] 0 0 _ _
  obtain ⟨⟨hx, hb, hml, hown, hts⟩, hrt, hlk⟩ := id fx
  have hf : 0 ≤ rm_X8_derives.cells ∧ 0 ≤ rm_X8_derives.slots := ⟨Nat.zero_le _, Nat.zero_le _⟩
  unfold wp_X8_derives at h
  refine lv_aload_n hx hb dX8_derives_0 rfl (lv_at hl 0 rfl) ?_
  refine lv_iload_n hx hb dX8_derives_1 rfl (lv_at hl 1 rfl) ?_
  refine lv_iload_n hx hb dX8_derives_2 rfl (lv_at hl 2 rfl) ?_
  refine xr_vI (n := 2) (As := [.int a1, .int a2]) (rest := []) fx (ct_X8_beginning l D ad cI cJ cR h) gX8_derives_X8_beginning rfl rfl (by decide +kernel) ⟨Nat.le_of_ble_eq_true rfl, Nat.le_of_ble_eq_true rfl⟩ ⟨rfl, rfl⟩ hf (ms_recv hK hP) hK hP hD hS hA hl.1 rfl (Nat.le_of_ble_eq_true rfl) dX8_derives_3 (fun r13 S12 H locs h hP hD hS => ?_)
  refine lv_aload_n hx hb dX8_derives_6 rfl (lv_at hl 0 rfl) ?_
  refine ms_get 4 (v := .ref (ad 2)) fx in_X8_derives (by decide) rfl (by decide +kernel) rfl hK hP dX8_derives_7 ?_
  refine lv_iload_n hx hb dX8_derives_10 rfl (lv_at hl 2 rfl) ?_
  obtain ⟨hi14, h⟩ := h
  refine ms_iald 1 (by decide) fx hK hP rfl hi14 dX8_derives_11 ?_
  refine lv_isub hx hb dX8_derives_12 ?_
  refine lv_topi (fun v6_15 ev6_15 => ?_)
  have h := h v6_15 ev6_15
  refine lv_istore (lv' := [(6, .int v6_15), (0, .ref (ad 0)), (1, .int a1), (2, .int a2), (3, .long a3), (5, .int a5)]) hx hb dX8_derives_13 hl (by decide) rfl (fun ls hl => ?_)
  refine lv_aload_n hx hb dX8_derives_15 rfl (lv_at hl 1 rfl) ?_
  refine ms_get 5 (v := .ref (ad 3)) fx in_X8_derives (by decide) rfl (by decide +kernel) rfl hK hP dX8_derives_16 ?_
  refine lv_iload_n hx hb dX8_derives_19 rfl (lv_at hl 2 rfl) ?_
  obtain ⟨hi16, h⟩ := h
  refine ms_iald 2 (by decide) fx hK hP rfl hi16 dX8_derives_20 ?_
  refine lv_iconst (v := 1) hx hb dX8_derives_21 (by decide) ?_
  refine lv_isub hx hb dX8_derives_22 ?_
  refine lv_iload_n hx hb dX8_derives_23 rfl (lv_at hl 3 rfl) ?_
  refine lv_isub hx hb dX8_derives_24 ?_
  refine lv_topi (fun v7_17 ev7_17 => ?_)
  have h := h v7_17 ev7_17
  refine lv_istore (lv' := [(7, .int v7_17), (6, .int v6_15), (0, .ref (ad 0)), (1, .int a1), (2, .int a2), (3, .long a3), (5, .int a5)]) hx hb dX8_derives_25 hl (by decide) rfl (fun ls hl => ?_)
  refine lv_aload_n hx hb dX8_derives_27 rfl (lv_at hl 2 rfl) ?_
  refine lv_iload_n hx hb dX8_derives_28 rfl (lv_at hl 3 rfl) ?_
  refine lv_iload_n hx hb dX8_derives_29 rfl (lv_at hl 4 rfl) ?_
  refine lv_iconst (v := 1) hx hb dX8_derives_30 (by decide) ?_
  refine lv_iadd hx hb dX8_derives_31 ?_
  refine xr_vI (n := 2) (As := [.int a1, .int (a2 + 1)]) (rest := []) fx (ct_X8_end l D ad cI cJ cR h) gX8_derives_X8_end rfl rfl (by decide +kernel) ⟨Nat.le_of_ble_eq_true rfl, Nat.le_of_ble_eq_true rfl⟩ ⟨rfl, rfl⟩ hf (ms_recv hK hP) hK hP hD hS hA hl.1 rfl (Nat.le_of_ble_eq_true rfl) dX8_derives_32 (fun r19 S18 H locs h hP hD hS => ?_)
  refine lv_aload_n hx hb dX8_derives_35 rfl (lv_at hl 2 rfl) ?_
  refine ms_get 4 (v := .ref (ad 2)) fx in_X8_derives (by decide) rfl (by decide +kernel) rfl hK hP dX8_derives_36 ?_
  refine lv_iload hx hb dX8_derives_39 (lv_at hl 0 rfl) ?_
  obtain ⟨hi20, h⟩ := h
  refine ms_iald 1 (by decide) fx hK hP rfl hi20 dX8_derives_41 ?_
  refine lv_isub hx hb dX8_derives_42 ?_
  refine lv_topi (fun v8_21 ev8_21 => ?_)
  have h := h v8_21 ev8_21
  refine lv_istore (lv' := [(8, .int v8_21), (7, .int v7_17), (6, .int v6_15), (0, .ref (ad 0)), (1, .int a1), (2, .int a2), (3, .long a3), (5, .int a5)]) hx hb dX8_derives_43 hl (by decide) rfl (fun ls hl => ?_)
  refine lv_iconst (v := 0) hx hb dX8_derives_45 (by decide) ?_
  refine lv_istore (lv' := [(9, .int 0), (8, .int v8_21), (7, .int v7_17), (6, .int v6_15), (0, .ref (ad 0)), (1, .int a1), (2, .int a2), (3, .long a3), (5, .int a5)]) hx hb dX8_derives_46 hl (by decide) rfl (fun ls hl => ?_)
  obtain ⟨n, h⟩ := h
  exact kw_X8_derives_48 fx hK hA n _ _ _ _ _ _ _ _ hP hD hS (lv_sub hl [4, 6, 7, 8, 3, 2, 1, 0] rfl) h
abbrev rm_X8_derive : Room := { frames := 3, cells := 0, slots := 0, locals := 68 }
theorem in_X8_derive : ∀ w ∈ wsX80, w ∈ wsX8_derive := by decide +kernel
set_option maxHeartbeats 4000000 in
set_option maxRecDepth 100000 in
theorem kw_X8_derive_100 {p : Program} {l : Launch} {e : Env} {s : State} {m : MethodId} {args : Array Value} {below : List Frame} {meth : Method} {c : Code} {D : va_G} {ad : Nat → Nat} {cI cJ cR : ClassId} {A : Nat → Prop} {K30 : ms_T → Int32 → Int32 → Int32 → Int32 → Int32 → Prop} {K57 : ms_T → Int32 → Int32 → Int32 → Int32 → Int32 → Int64 → Int32 → Prop} {Q : Int32 → ms_T → Prop} {S : ms_T} {v1 : Int32} {v2 : Int32} {v3 : Int32} {v4 : Int32} {v5 : Int32} {v6 : Int64} {v8 : Int32} (fx : xr_Fx p m c meth cX8_derive 9 s args wsX8_derive RX8 (some .int)) (hK : xr_K D (ms_ty cI cJ cR) s) (hA : ∀ q, s.heap.size ≤ q → A q) (k30 : ∀ (S : ms_T) (v1 : Int32) (v2 : Int32) (v3 : Int32) (v4 : Int32) (v5 : Int32) {H : Heap} {locs : List Loc} {ls : Array Slot}, va_P D vwCl (ms_w ad cI cJ S) H → va_D A (ms_w ad cI cJ S) → va_S A s.heap H locs → lv_has ls 9 [(0, .ref (ad 0)), (1, .int v1), (2, .int v2), (3, .int v3), (4, .int v4), (5, .int v5)] → K30 S v1 v2 v3 v4 v5 → W p l e rm_X8_derive s m args below meth c H locs 0 0 (MQ below (va_Qi Q (xr_B D (ms_ty cI cJ cR) (ms_w ad cI cJ) A) A) args s 0 0 A) (F0 m 30 ls [])) (k57 : ∀ (S : ms_T) (v1 : Int32) (v2 : Int32) (v3 : Int32) (v4 : Int32) (v5 : Int32) (v6 : Int64) (v8 : Int32) {H : Heap} {locs : List Loc} {ls : Array Slot}, va_P D vwCl (ms_w ad cI cJ S) H → va_D A (ms_w ad cI cJ S) → va_S A s.heap H locs → lv_has ls 9 [(0, .ref (ad 0)), (1, .int v1), (2, .int v2), (3, .int v3), (4, .int v4), (5, .int v5), (6, .long v6), (8, .int v8)] → K57 S v1 v2 v3 v4 v5 v6 v8 → W p l e rm_X8_derive s m args below meth c H locs 0 0 (MQ below (va_Qi Q (xr_B D (ms_ty cI cJ cR) (ms_w ad cI cJ) A) A) args s 0 0 A) (F0 m 57 ls [])) {H : Heap} {locs : List Loc} {ls : Array Slot} (hP : va_P D vwCl (ms_w ad cI cJ S) H) (hD : va_D A (ms_w ad cI cJ S)) (hS : va_S A s.heap H locs) (hl : lv_has ls 9 [(0, .ref (ad 0)), (1, .int v1), (2, .int v2), (3, .int v3), (4, .int v4), (5, .int v5), (6, .long v6), (8, .int v8)]) (h : wp_X8_derive_100 K30 K57 Q S v1 v2 v3 v4 v5 v6 v8) : W p l e rm_X8_derive s m args below meth c H locs 0 0 (MQ below (va_Qi Q (xr_B D (ms_ty cI cJ cR) (ms_w ad cI cJ) A) A) args s 0 0 A) (F0 m 100 ls []) := by
  obtain ⟨⟨hx, hb, hml, hown, hts⟩, hrt, hlk⟩ := id fx
  have hf : 0 ≤ rm_X8_derive.cells ∧ 0 ≤ rm_X8_derive.slots := ⟨Nat.zero_le _, Nat.zero_le _⟩
  unfold wp_X8_derive_100 at h
  obtain ⟨v8_1, ev8_1⟩ : ∃ z : Int32, z = v8 + 1 := ⟨_, rfl⟩
  have h := h v8_1 ev8_1
  refine lv_iinc (v := v8_1) (lv' := [(8, .int v8_1), (0, .ref (ad 0)), (1, .int v1), (2, .int v2), (3, .int v3), (4, .int v4), (5, .int v5), (6, .long v6)]) hx hb dX8_derive_100 hl (k := 7) rfl (by rw [ev8_1]; rfl) (by decide) rfl (fun ls hl => ?_)
  refine lv_goto (tgt := 57) hx hb dX8_derive_103 (by decide) ?_
  exact k57 _ _ _ _ _ _ _ _ hP hD hS (lv_sub hl [1, 2, 3, 4, 5, 6, 7, 0] rfl) h
set_option maxHeartbeats 4000000 in
set_option maxRecDepth 100000 in
theorem kw_X8_derive_106 {p : Program} {l : Launch} {e : Env} {s : State} {m : MethodId} {args : Array Value} {below : List Frame} {meth : Method} {c : Code} {D : va_G} {ad : Nat → Nat} {cI cJ cR : ClassId} {A : Nat → Prop} {K30 : ms_T → Int32 → Int32 → Int32 → Int32 → Int32 → Prop} {Q : Int32 → ms_T → Prop} {S : ms_T} {v1 : Int32} {v2 : Int32} {v3 : Int32} {v4 : Int32} {v5 : Int32} (fx : xr_Fx p m c meth cX8_derive 9 s args wsX8_derive RX8 (some .int)) (hK : xr_K D (ms_ty cI cJ cR) s) (hA : ∀ q, s.heap.size ≤ q → A q) (k30 : ∀ (S : ms_T) (v1 : Int32) (v2 : Int32) (v3 : Int32) (v4 : Int32) (v5 : Int32) {H : Heap} {locs : List Loc} {ls : Array Slot}, va_P D vwCl (ms_w ad cI cJ S) H → va_D A (ms_w ad cI cJ S) → va_S A s.heap H locs → lv_has ls 9 [(0, .ref (ad 0)), (1, .int v1), (2, .int v2), (3, .int v3), (4, .int v4), (5, .int v5)] → K30 S v1 v2 v3 v4 v5 → W p l e rm_X8_derive s m args below meth c H locs 0 0 (MQ below (va_Qi Q (xr_B D (ms_ty cI cJ cR) (ms_w ad cI cJ) A) A) args s 0 0 A) (F0 m 30 ls [])) {H : Heap} {locs : List Loc} {ls : Array Slot} (hP : va_P D vwCl (ms_w ad cI cJ S) H) (hD : va_D A (ms_w ad cI cJ S)) (hS : va_S A s.heap H locs) (hl : lv_has ls 9 [(0, .ref (ad 0)), (1, .int v1), (2, .int v2), (3, .int v3), (4, .int v4), (5, .int v5)]) (h : wp_X8_derive_106 K30 Q S v1 v2 v3 v4 v5) : W p l e rm_X8_derive s m args below meth c H locs 0 0 (MQ below (va_Qi Q (xr_B D (ms_ty cI cJ cR) (ms_w ad cI cJ) A) A) args s 0 0 A) (F0 m 106 ls []) := by
  obtain ⟨⟨hx, hb, hml, hown, hts⟩, hrt, hlk⟩ := id fx
  have hf : 0 ≤ rm_X8_derive.cells ∧ 0 ≤ rm_X8_derive.slots := ⟨Nat.zero_le _, Nat.zero_le _⟩
  unfold wp_X8_derive_106 at h
  obtain ⟨v5_2, ev5_2⟩ : ∃ z : Int32, z = v5 + 1 := ⟨_, rfl⟩
  have h := h v5_2 ev5_2
  refine lv_iinc (v := v5_2) (lv' := [(5, .int v5_2), (0, .ref (ad 0)), (1, .int v1), (2, .int v2), (3, .int v3), (4, .int v4)]) hx hb dX8_derive_106 hl (k := 5) rfl (by rw [ev5_2]; rfl) (by decide) rfl (fun ls hl => ?_)
  refine lv_goto (tgt := 30) hx hb dX8_derive_109 (by decide) ?_
  exact k30 _ _ _ _ _ _ hP hD hS (lv_sub hl [1, 2, 3, 4, 5, 0] rfl) h
set_option maxHeartbeats 4000000 in
set_option maxRecDepth 100000 in
theorem kb_X8_derive_57 {p : Program} {l : Launch} {e : Env} {s : State} {m : MethodId} {args : Array Value} {below : List Frame} {meth : Method} {c : Code} {D : va_G} {ad : Nat → Nat} {cI cJ cR : ClassId} {A : Nat → Prop} {K30 : ms_T → Int32 → Int32 → Int32 → Int32 → Int32 → Prop} {K57 : ms_T → Int32 → Int32 → Int32 → Int32 → Int32 → Int64 → Int32 → Prop} {Q : Int32 → ms_T → Prop} {S : ms_T} {v1 : Int32} {v2 : Int32} {v3 : Int32} {v4 : Int32} {v5 : Int32} {v6 : Int64} {v8 : Int32} (fx : xr_Fx p m c meth cX8_derive 9 s args wsX8_derive RX8 (some .int)) (hK : xr_K D (ms_ty cI cJ cR) s) (hA : ∀ q, s.heap.size ≤ q → A q) (k30 : ∀ (S : ms_T) (v1 : Int32) (v2 : Int32) (v3 : Int32) (v4 : Int32) (v5 : Int32) {H : Heap} {locs : List Loc} {ls : Array Slot}, va_P D vwCl (ms_w ad cI cJ S) H → va_D A (ms_w ad cI cJ S) → va_S A s.heap H locs → lv_has ls 9 [(0, .ref (ad 0)), (1, .int v1), (2, .int v2), (3, .int v3), (4, .int v4), (5, .int v5)] → K30 S v1 v2 v3 v4 v5 → W p l e rm_X8_derive s m args below meth c H locs 0 0 (MQ below (va_Qi Q (xr_B D (ms_ty cI cJ cR) (ms_w ad cI cJ) A) A) args s 0 0 A) (F0 m 30 ls [])) (k57 : ∀ (S : ms_T) (v1 : Int32) (v2 : Int32) (v3 : Int32) (v4 : Int32) (v5 : Int32) (v6 : Int64) (v8 : Int32) {H : Heap} {locs : List Loc} {ls : Array Slot}, va_P D vwCl (ms_w ad cI cJ S) H → va_D A (ms_w ad cI cJ S) → va_S A s.heap H locs → lv_has ls 9 [(0, .ref (ad 0)), (1, .int v1), (2, .int v2), (3, .int v3), (4, .int v4), (5, .int v5), (6, .long v6), (8, .int v8)] → K57 S v1 v2 v3 v4 v5 v6 v8 → W p l e rm_X8_derive s m args below meth c H locs 0 0 (MQ below (va_Qi Q (xr_B D (ms_ty cI cJ cR) (ms_w ad cI cJ) A) A) args s 0 0 A) (F0 m 57 ls [])) {H : Heap} {locs : List Loc} {ls : Array Slot} (hP : va_P D vwCl (ms_w ad cI cJ S) H) (hD : va_D A (ms_w ad cI cJ S)) (hS : va_S A s.heap H locs) (hl : lv_has ls 9 [(0, .ref (ad 0)), (1, .int v1), (2, .int v2), (3, .int v3), (4, .int v4), (5, .int v5), (6, .long v6), (8, .int v8)]) (h : wb_X8_derive_57 K30 K57 Q S v1 v2 v3 v4 v5 v6 v8) : W p l e rm_X8_derive s m args below meth c H locs 0 0 (MQ below (va_Qi Q (xr_B D (ms_ty cI cJ cR) (ms_w ad cI cJ) A) A) args s 0 0 A) (F0 m 57 ls []) := by
  obtain ⟨⟨hx, hb, hml, hown, hts⟩, hrt, hlk⟩ := id fx
  have hf : 0 ≤ rm_X8_derive.cells ∧ 0 ≤ rm_X8_derive.slots := ⟨Nat.zero_le _, Nat.zero_le _⟩
  unfold wb_X8_derive_57 at h
  refine lv_iload hx hb dX8_derive_57 (lv_at hl 7 rfl) ?_
  refine lv_aload_n hx hb dX8_derive_59 rfl (lv_at hl 0 rfl) ?_
  refine ms_get 5 (v := .ref (ad 3)) fx in_X8_derive (by decide) rfl (by decide +kernel) rfl hK hP dX8_derive_60 ?_
  refine lv_iload hx hb dX8_derive_63 (lv_at hl 5 rfl) ?_
  obtain ⟨hi3, h⟩ := h
  refine ms_iald 2 (by decide) fx hK hP rfl hi3 dX8_derive_65 ?_
  refine lv_icmp_ge (tgt := 106) hx hb dX8_derive_66 (by decide) (fun c66 => ?_) (fun c66 => ?_)
  · have h := h.1 c66
    exact kw_X8_derive_106 fx hK hA k30 hP hD hS (lv_sub hl [0, 1, 2, 3, 4, 5] rfl) h
  · have h := h.2 c66
    refine lv_lload hx hb dX8_derive_69 (lv_at hl 6 rfl) ?_
    refine lv_lconst (v := 0) hx hb dX8_derive_71 (by decide) ?_
    refine W.lcmp hx hb dX8_derive_72 ?_
    refine lv_if_eq (tgt := 106) hx hb dX8_derive_73 (by decide) (fun c73 => ?_) (fun c73 => ?_)
    · have h := h.1 ((lg_cmp_eq _ _).mp c73)
      exact kw_X8_derive_106 fx hK hA k30 hP hD hS (lv_sub hl [0, 1, 2, 3, 4, 5] rfl) h
    · have h := h.2 (fun z => c73 ((lg_cmp_eq _ _).mpr z))
      refine lv_aload_n hx hb dX8_derive_76 rfl (lv_at hl 0 rfl) ?_
      refine lv_iload hx hb dX8_derive_77 (lv_at hl 5 rfl) ?_
      refine lv_iload hx hb dX8_derive_79 (lv_at hl 7 rfl) ?_
      refine xr_vI (n := 2) (As := [.int v5, .int v8]) (rest := []) fx (ct_X8_letterAt l D ad cI cJ cR h) gX8_derive_X8_letterAt rfl rfl (by decide +kernel) ⟨Nat.le_of_ble_eq_true rfl, Nat.le_of_ble_eq_true rfl⟩ ⟨rfl, rfl⟩ hf (ms_recv hK hP) hK hP hD hS hA hl.1 rfl (Nat.le_of_ble_eq_true rfl) dX8_derive_81 (fun r5 S4 H locs h hP hD hS => ?_)
      refine lv_iload_n hx hb dX8_derive_84 rfl (lv_at hl 3 rfl) ?_
      refine lv_icmp_ne (tgt := 100) hx hb dX8_derive_85 (by decide) (fun c85 => ?_) (fun c85 => ?_)
      · have h := h.1 c85
        exact kw_X8_derive_100 fx hK hA k30 k57 hP hD hS (lv_sub hl [0, 1, 2, 3, 4, 5, 6, 7] rfl) h
      · have h := h.2 c85
        refine lv_aload_n hx hb dX8_derive_88 rfl (lv_at hl 0 rfl) ?_
        refine lv_iload hx hb dX8_derive_89 (lv_at hl 5 rfl) ?_
        refine lv_iload hx hb dX8_derive_91 (lv_at hl 7 rfl) ?_
        refine lv_lload hx hb dX8_derive_93 (lv_at hl 6 rfl) ?_
        refine lv_iload hx hb dX8_derive_95 (lv_at hl 4 rfl) ?_
        refine xr_vV (n := 4) (As := [.int v5, .int v8, .long v6, .int v4]) (rest := []) fx (ct_X8_derives l D ad cI cJ cR h) gX8_derive_X8_derives rfl rfl (by decide +kernel) ⟨Nat.le_of_ble_eq_true rfl, Nat.le_of_ble_eq_true rfl⟩ ⟨rfl, rfl⟩ hf (ms_recv hK hP) hK hP hD hS hA hl.1 rfl (Nat.le_of_ble_eq_true rfl) dX8_derive_97 (fun S6 H locs h hP hD hS => ?_)
        exact kw_X8_derive_100 fx hK hA k30 k57 hP hD hS (lv_sub hl [0, 1, 2, 3, 4, 5, 6, 7] rfl) h
theorem kw_X8_derive_57 {p : Program} {l : Launch} {e : Env} {s : State} {m : MethodId} {args : Array Value} {below : List Frame} {meth : Method} {c : Code} {D : va_G} {ad : Nat → Nat} {cI cJ cR : ClassId} {A : Nat → Prop} {K30 : ms_T → Int32 → Int32 → Int32 → Int32 → Int32 → Prop} {Q : Int32 → ms_T → Prop} (fx : xr_Fx p m c meth cX8_derive 9 s args wsX8_derive RX8 (some .int)) (hK : xr_K D (ms_ty cI cJ cR) s) (hA : ∀ q, s.heap.size ≤ q → A q) (k30 : ∀ (S : ms_T) (v1 : Int32) (v2 : Int32) (v3 : Int32) (v4 : Int32) (v5 : Int32) {H : Heap} {locs : List Loc} {ls : Array Slot}, va_P D vwCl (ms_w ad cI cJ S) H → va_D A (ms_w ad cI cJ S) → va_S A s.heap H locs → lv_has ls 9 [(0, .ref (ad 0)), (1, .int v1), (2, .int v2), (3, .int v3), (4, .int v4), (5, .int v5)] → K30 S v1 v2 v3 v4 v5 → W p l e rm_X8_derive s m args below meth c H locs 0 0 (MQ below (va_Qi Q (xr_B D (ms_ty cI cJ cR) (ms_w ad cI cJ) A) A) args s 0 0 A) (F0 m 30 ls [])) : ∀ (n : Nat) (S : ms_T) (v1 : Int32) (v2 : Int32) (v3 : Int32) (v4 : Int32) (v5 : Int32) (v6 : Int64) (v8 : Int32) {H : Heap} {locs : List Loc} {ls : Array Slot}, va_P D vwCl (ms_w ad cI cJ S) H → va_D A (ms_w ad cI cJ S) → va_S A s.heap H locs → lv_has ls 9 [(0, .ref (ad 0)), (1, .int v1), (2, .int v2), (3, .int v3), (4, .int v4), (5, .int v5), (6, .long v6), (8, .int v8)] → wp_X8_derive_57 K30 Q n S v1 v2 v3 v4 v5 v6 v8 → W p l e rm_X8_derive s m args below meth c H locs 0 0 (MQ below (va_Qi Q (xr_B D (ms_ty cI cJ cR) (ms_w ad cI cJ) A) A) args s 0 0 A) (F0 m 57 ls []) := by
  intro n
  induction n with
  | zero => intro S v1 v2 v3 v4 v5 v6 v8 H locs ls hP hD hS hl h; exact False.elim h
  | succ n ih => intro S v1 v2 v3 v4 v5 v6 v8 H locs ls hP hD hS hl h; exact kb_X8_derive_57 fx hK hA k30 ih hP hD hS hl h
set_option maxHeartbeats 4000000 in
set_option maxRecDepth 100000 in
theorem kb_X8_derive_30 {p : Program} {l : Launch} {e : Env} {s : State} {m : MethodId} {args : Array Value} {below : List Frame} {meth : Method} {c : Code} {D : va_G} {ad : Nat → Nat} {cI cJ cR : ClassId} {A : Nat → Prop}  {K30 : ms_T → Int32 → Int32 → Int32 → Int32 → Int32 → Prop} {Q : Int32 → ms_T → Prop} {S : ms_T} {v1 : Int32} {v2 : Int32} {v3 : Int32} {v4 : Int32} {v5 : Int32} (fx : xr_Fx p m c meth cX8_derive 9 s args wsX8_derive RX8 (some .int)) (hK : xr_K D (ms_ty cI cJ cR) s) (hA : ∀ q, s.heap.size ≤ q → A q)  (k30 : ∀ (S : ms_T) (v1 : Int32) (v2 : Int32) (v3 : Int32) (v4 : Int32) (v5 : Int32) {H : Heap} {locs : List Loc} {ls : Array Slot}, va_P D vwCl (ms_w ad cI cJ S) H → va_D A (ms_w ad cI cJ S) → va_S A s.heap H locs → lv_has ls 9 [(0, .ref (ad 0)), (1, .int v1), (2, .int v2), (3, .int v3), (4, .int v4), (5, .int v5)] → K30 S v1 v2 v3 v4 v5 → W p l e rm_X8_derive s m args below meth c H locs 0 0 (MQ below (va_Qi Q (xr_B D (ms_ty cI cJ cR) (ms_w ad cI cJ) A) A) args s 0 0 A) (F0 m 30 ls [])) {H : Heap} {locs : List Loc} {ls : Array Slot} (hP : va_P D vwCl (ms_w ad cI cJ S) H) (hD : va_D A (ms_w ad cI cJ S)) (hS : va_S A s.heap H locs) (hl : lv_has ls 9 [(0, .ref (ad 0)), (1, .int v1), (2, .int v2), (3, .int v3), (4, .int v4), (5, .int v5)]) (h : wb_X8_derive_30 K30 Q S v1 v2 v3 v4 v5) : W p l e rm_X8_derive s m args below meth c H locs 0 0 (MQ below (va_Qi Q (xr_B D (ms_ty cI cJ cR) (ms_w ad cI cJ) A) A) args s 0 0 A) (F0 m 30 ls []) := by
  obtain ⟨⟨hx, hb, hml, hown, hts⟩, hrt, hlk⟩ := id fx
  have hf : 0 ≤ rm_X8_derive.cells ∧ 0 ≤ rm_X8_derive.slots := ⟨Nat.zero_le _, Nat.zero_le _⟩
  unfold wb_X8_derive_30 at h
  refine lv_iload hx hb dX8_derive_30 (lv_at hl 5 rfl) ?_
  refine lv_aload_n hx hb dX8_derive_32 rfl (lv_at hl 0 rfl) ?_
  refine ms_get 2 (v := .int (S.1 2)) fx in_X8_derive (by decide) rfl (by decide +kernel) rfl hK hP dX8_derive_33 ?_
  refine lv_icmp_ge (tgt := 112) hx hb dX8_derive_36 (by decide) (fun c36 => ?_) (fun c36 => ?_)
  · have h := h.1 c36
    refine lv_aload_n hx hb dX8_derive_112 rfl (lv_at hl 0 rfl) ?_
    refine lv_iload_n hx hb dX8_derive_113 rfl (lv_at hl 1 rfl) ?_
    refine lv_bipush (v := 8) hx hb dX8_derive_114 (by decide) ?_
    refine xr_vV (n := 2) (As := [.int v1, .int 8]) (rest := []) fx (ct_X8_copies l D ad cI cJ cR h) gX8_derive_X8_copies rfl rfl (by decide +kernel) ⟨Nat.le_of_ble_eq_true rfl, Nat.le_of_ble_eq_true rfl⟩ ⟨rfl, rfl⟩ hf (ms_recv hK hP) hK hP hD hS hA hl.1 rfl (Nat.le_of_ble_eq_true rfl) dX8_derive_116 (fun S7 H locs h hP hD hS => ?_)
    refine lv_iconst (v := 0) hx hb dX8_derive_119 (by decide) ?_
    exact xr_rI fx hK hP hD hS h dX8_derive_120
  · have h := h.2 c36
    refine lv_aload_n hx hb dX8_derive_39 rfl (lv_at hl 0 rfl) ?_
    refine ms_get 6 (v := .ref (ad 15)) fx in_X8_derive (by decide) rfl (by decide +kernel) rfl hK hP dX8_derive_40 ?_
    refine lv_sipush (v := 364) hx hb dX8_derive_43 (by decide) ?_
    refine lv_iload_n hx hb dX8_derive_46 rfl (lv_at hl 2 rfl) ?_
    refine lv_imul hx hb dX8_derive_47 ?_
    refine lv_iload hx hb dX8_derive_48 (lv_at hl 5 rfl) ?_
    refine lv_iadd hx hb dX8_derive_50 ?_
    obtain ⟨hi8, h⟩ := h
    refine ms_lald 0 (by decide) fx hK hP rfl hi8 dX8_derive_51 ?_
    refine lv_topl (fun v6_9 ev6_9 => ?_)
    have h := h v6_9 ev6_9
    refine lv_lstore (lv' := [(6, .long v6_9), (0, .ref (ad 0)), (1, .int v1), (2, .int v2), (3, .int v3), (4, .int v4), (5, .int v5)]) hx hb dX8_derive_52 hl (by decide) rfl (fun ls hl => ?_)
    refine lv_iconst (v := 0) hx hb dX8_derive_54 (by decide) ?_
    refine lv_istore (lv' := [(8, .int 0), (6, .long v6_9), (0, .ref (ad 0)), (1, .int v1), (2, .int v2), (3, .int v3), (4, .int v4), (5, .int v5)]) hx hb dX8_derive_55 hl (by decide) rfl (fun ls hl => ?_)
    obtain ⟨n, h⟩ := h
    exact kw_X8_derive_57 fx hK hA k30 n _ _ _ _ _ _ _ _ hP hD hS (lv_sub hl [2, 3, 4, 5, 6, 7, 1, 0] rfl) h
theorem kw_X8_derive_30 {p : Program} {l : Launch} {e : Env} {s : State} {m : MethodId} {args : Array Value} {below : List Frame} {meth : Method} {c : Code} {D : va_G} {ad : Nat → Nat} {cI cJ cR : ClassId} {A : Nat → Prop}  {Q : Int32 → ms_T → Prop} (fx : xr_Fx p m c meth cX8_derive 9 s args wsX8_derive RX8 (some .int)) (hK : xr_K D (ms_ty cI cJ cR) s) (hA : ∀ q, s.heap.size ≤ q → A q)  : ∀ (n : Nat) (S : ms_T) (v1 : Int32) (v2 : Int32) (v3 : Int32) (v4 : Int32) (v5 : Int32) {H : Heap} {locs : List Loc} {ls : Array Slot}, va_P D vwCl (ms_w ad cI cJ S) H → va_D A (ms_w ad cI cJ S) → va_S A s.heap H locs → lv_has ls 9 [(0, .ref (ad 0)), (1, .int v1), (2, .int v2), (3, .int v3), (4, .int v4), (5, .int v5)] → wp_X8_derive_30 Q n S v1 v2 v3 v4 v5 → W p l e rm_X8_derive s m args below meth c H locs 0 0 (MQ below (va_Qi Q (xr_B D (ms_ty cI cJ cR) (ms_w ad cI cJ) A) A) args s 0 0 A) (F0 m 30 ls []) := by
  intro n
  induction n with
  | zero => intro S v1 v2 v3 v4 v5 H locs ls hP hD hS hl h; exact False.elim h
  | succ n ih => intro S v1 v2 v3 v4 v5 H locs ls hP hD hS hl h; exact kb_X8_derive_30 fx hK hA ih hP hD hS hl h
set_option maxHeartbeats 4000000 in
set_option maxRecDepth 100000 in
theorem ct_X8_derive (l : Launch) (D : va_G) (ad : Nat → Nat) (cI cJ cR : ClassId) {S : ms_T} {a1 : Int32} {a2 : Int32} {a3 : Int32} {a4 : Int32} {Q : Int32 → ms_T → Prop} (h : wp_X8_derive S a1 a2 a3 a4 Q) : xr_I l D (ms_ty cI cJ cR) (ms_w ad cI cJ) yX8_derive wsX8_derive rm_X8_derive [.ref (ad 0), .int a1, .int a2, .int a3, .int a4] S Q := by
  refine xr_eI (cc := cX8_derive) (nL := 9) (ret := (some .int)) (own := RX8) (by decide) rfl rfl (Nat.le_of_ble_eq_true rfl) ?_
  intro p e s m args below meth c ls A fx hK hA hP hD hS hl
  have hl : lv_has ls 9 [(0, .ref (ad 0)), (1, .int a1), (2, .int a2), (3, .int a3), (4, .int a4)] := hl
  show W p l e rm_X8_derive s m args below meth c s.heap [] 0 0 _ _
  obtain ⟨⟨hx, hb, hml, hown, hts⟩, hrt, hlk⟩ := id fx
  have hf : 0 ≤ rm_X8_derive.cells ∧ 0 ≤ rm_X8_derive.slots := ⟨Nat.zero_le _, Nat.zero_le _⟩
  unfold wp_X8_derive at h
  refine lv_aload_n hx hb dX8_derive_0 rfl (lv_at hl 0 rfl) ?_
  refine lv_iload_n hx hb dX8_derive_1 rfl (lv_at hl 1 rfl) ?_
  refine lv_iload_n hx hb dX8_derive_2 rfl (lv_at hl 2 rfl) ?_
  refine lv_iload hx hb dX8_derive_3 (lv_at hl 4 rfl) ?_
  refine xr_vI (n := 3) (As := [.int a1, .int a2, .int a4]) (rest := []) fx (ct_X8_areSums l D ad cI cJ cR h) gX8_derive_X8_areSums rfl rfl (by decide +kernel) ⟨Nat.le_of_ble_eq_true rfl, Nat.le_of_ble_eq_true rfl⟩ ⟨rfl, rfl⟩ hf (ms_recv hK hP) hK hP hD hS hA hl.1 rfl (Nat.le_of_ble_eq_true rfl) dX8_derive_5 (fun r11 S10 H locs h hP hD hS => ?_)
  refine lv_if_eq (tgt := 19) hx hb dX8_derive_8 (by decide) (fun c8 => ?_) (fun c8 => ?_)
  · have h := h.1 c8
    refine lv_iconst (v := (-1)) hx hb dX8_derive_19 (by decide) ?_
    exact xr_rI fx hK hP hD hS h dX8_derive_20
  · have h := h.2 c8
    refine lv_aload_n hx hb dX8_derive_11 rfl (lv_at hl 0 rfl) ?_
    refine lv_iload_n hx hb dX8_derive_12 rfl (lv_at hl 3 rfl) ?_
    refine xr_vI (n := 1) (As := [.int a3]) (rest := []) fx (ct_X8_isLetter l D ad cI cJ cR h) gX8_derive_X8_isLetter rfl rfl (by decide +kernel) ⟨Nat.le_of_ble_eq_true rfl, Nat.le_of_ble_eq_true rfl⟩ ⟨rfl, rfl⟩ hf (ms_recv hK hP) hK hP hD hS hA hl.1 rfl (Nat.le_of_ble_eq_true rfl) dX8_derive_13 (fun r13 S12 H locs h hP hD hS => ?_)
    refine lv_if_ne (tgt := 21) hx hb dX8_derive_16 (by decide) (fun c16 => ?_) (fun c16 => ?_)
    · have h := h.1 c16
      refine lv_aload_n hx hb dX8_derive_21 rfl (lv_at hl 0 rfl) ?_
      refine lv_bipush (v := 8) hx hb dX8_derive_22 (by decide) ?_
      refine xr_vV (n := 1) (As := [.int 8]) (rest := []) fx (ct_X8_clears l D ad cI cJ cR h) gX8_derive_X8_clears rfl rfl (by decide +kernel) ⟨Nat.le_of_ble_eq_true rfl, Nat.le_of_ble_eq_true rfl⟩ ⟨rfl, rfl⟩ hf (ms_recv hK hP) hK hP hD hS hA hl.1 rfl (Nat.le_of_ble_eq_true rfl) dX8_derive_24 (fun S14 H locs h hP hD hS => ?_)
      refine lv_iconst (v := 0) hx hb dX8_derive_27 (by decide) ?_
      refine lv_istore (lv' := [(5, .int 0), (0, .ref (ad 0)), (1, .int a1), (2, .int a2), (3, .int a3), (4, .int a4)]) hx hb dX8_derive_28 hl (by decide) rfl (fun ls hl => ?_)
      obtain ⟨n, h⟩ := h
      exact kw_X8_derive_30 fx hK hA n _ _ _ _ _ _ hP hD hS (lv_sub hl [1, 2, 3, 4, 5, 0] rfl) h
    · have h := h.2 c16
      refine lv_iconst (v := (-1)) hx hb dX8_derive_19 (by decide) ?_
      exact xr_rI fx hK hP hD hS h dX8_derive_20
abbrev rm_X8_replace : Room := { frames := 3, cells := 0, slots := 0, locals := 68 }
theorem in_X8_replace : ∀ w ∈ wsX80, w ∈ wsX8_replace := by decide +kernel
set_option maxHeartbeats 4000000 in
set_option maxRecDepth 100000 in
theorem kw_X8_replace_163 {p : Program} {l : Launch} {e : Env} {s : State} {m : MethodId} {args : Array Value} {below : List Frame} {meth : Method} {c : Code} {D : va_G} {ad : Nat → Nat} {cI cJ cR : ClassId} {A : Nat → Prop} {K49 : ms_T → Int32 → Int32 → Int32 → Int32 → Int32 → Prop} {K85 : ms_T → Int32 → Int32 → Int32 → Int32 → Int32 → Int32 → Prop} {Q : Int32 → ms_T → Prop} {S : ms_T} {v1 : Int32} {v2 : Int32} {v3 : Int32} {v4 : Int32} {v5 : Int32} {v6 : Int32} (fx : xr_Fx p m c meth cX8_replace 7 s args wsX8_replace RX8 (some .int)) (hK : xr_K D (ms_ty cI cJ cR) s) (hA : ∀ q, s.heap.size ≤ q → A q) (k49 : ∀ (S : ms_T) (v1 : Int32) (v2 : Int32) (v3 : Int32) (v4 : Int32) (v5 : Int32) {H : Heap} {locs : List Loc} {ls : Array Slot}, va_P D vwCl (ms_w ad cI cJ S) H → va_D A (ms_w ad cI cJ S) → va_S A s.heap H locs → lv_has ls 7 [(0, .ref (ad 0)), (1, .int v1), (2, .int v2), (3, .int v3), (4, .int v4), (5, .int v5)] → K49 S v1 v2 v3 v4 v5 → W p l e rm_X8_replace s m args below meth c H locs 0 0 (MQ below (va_Qi Q (xr_B D (ms_ty cI cJ cR) (ms_w ad cI cJ) A) A) args s 0 0 A) (F0 m 49 ls [])) (k85 : ∀ (S : ms_T) (v1 : Int32) (v2 : Int32) (v3 : Int32) (v4 : Int32) (v5 : Int32) (v6 : Int32) {H : Heap} {locs : List Loc} {ls : Array Slot}, va_P D vwCl (ms_w ad cI cJ S) H → va_D A (ms_w ad cI cJ S) → va_S A s.heap H locs → lv_has ls 7 [(0, .ref (ad 0)), (1, .int v1), (2, .int v2), (3, .int v3), (4, .int v4), (5, .int v5), (6, .int v6)] → K85 S v1 v2 v3 v4 v5 v6 → W p l e rm_X8_replace s m args below meth c H locs 0 0 (MQ below (va_Qi Q (xr_B D (ms_ty cI cJ cR) (ms_w ad cI cJ) A) A) args s 0 0 A) (F0 m 85 ls [])) {H : Heap} {locs : List Loc} {ls : Array Slot} (hP : va_P D vwCl (ms_w ad cI cJ S) H) (hD : va_D A (ms_w ad cI cJ S)) (hS : va_S A s.heap H locs) (hl : lv_has ls 7 [(0, .ref (ad 0)), (1, .int v1), (2, .int v2), (3, .int v3), (4, .int v4), (5, .int v5), (6, .int v6)]) (h : wp_X8_replace_163 K49 K85 Q S v1 v2 v3 v4 v5 v6) : W p l e rm_X8_replace s m args below meth c H locs 0 0 (MQ below (va_Qi Q (xr_B D (ms_ty cI cJ cR) (ms_w ad cI cJ) A) A) args s 0 0 A) (F0 m 163 ls []) := by
  obtain ⟨⟨hx, hb, hml, hown, hts⟩, hrt, hlk⟩ := id fx
  have hf : 0 ≤ rm_X8_replace.cells ∧ 0 ≤ rm_X8_replace.slots := ⟨Nat.zero_le _, Nat.zero_le _⟩
  unfold wp_X8_replace_163 at h
  refine lv_aload_n hx hb dX8_replace_163 rfl (lv_at hl 0 rfl) ?_
  refine lv_bipush (v := 9) hx hb dX8_replace_164 (by decide) ?_
  refine lv_bipush (v := 10) hx hb dX8_replace_166 (by decide) ?_
  refine xr_vV (n := 2) (As := [.int 9, .int 10]) (rest := []) fx (ct_X8_copies l D ad cI cJ cR h) gX8_replace_X8_copies rfl rfl (by decide +kernel) ⟨Nat.le_of_ble_eq_true rfl, Nat.le_of_ble_eq_true rfl⟩ ⟨rfl, rfl⟩ hf (ms_recv hK hP) hK hP hD hS hA hl.1 rfl (Nat.le_of_ble_eq_true rfl) dX8_replace_168 (fun S1 H locs h hP hD hS => ?_)
  obtain ⟨v6_2, ev6_2⟩ : ∃ z : Int32, z = v6 + 1 := ⟨_, rfl⟩
  have h := h v6_2 ev6_2
  refine lv_iinc (v := v6_2) (lv' := [(6, .int v6_2), (0, .ref (ad 0)), (1, .int v1), (2, .int v2), (3, .int v3), (4, .int v4), (5, .int v5)]) hx hb dX8_replace_171 hl (k := 6) rfl (by rw [ev6_2]; rfl) (by decide) rfl (fun ls hl => ?_)
  refine lv_goto (tgt := 85) hx hb dX8_replace_174 (by decide) ?_
  exact k85 _ _ _ _ _ _ _ hP hD hS (lv_sub hl [1, 2, 3, 4, 5, 6, 0] rfl) h
set_option maxHeartbeats 4000000 in
set_option maxRecDepth 100000 in
theorem kw_X8_replace_198 {p : Program} {l : Launch} {e : Env} {s : State} {m : MethodId} {args : Array Value} {below : List Frame} {meth : Method} {c : Code} {D : va_G} {ad : Nat → Nat} {cI cJ cR : ClassId} {A : Nat → Prop} {K49 : ms_T → Int32 → Int32 → Int32 → Int32 → Int32 → Prop} {Q : Int32 → ms_T → Prop} {S : ms_T} {v1 : Int32} {v2 : Int32} {v3 : Int32} {v4 : Int32} {v5 : Int32} (fx : xr_Fx p m c meth cX8_replace 7 s args wsX8_replace RX8 (some .int)) (hK : xr_K D (ms_ty cI cJ cR) s) (hA : ∀ q, s.heap.size ≤ q → A q) (k49 : ∀ (S : ms_T) (v1 : Int32) (v2 : Int32) (v3 : Int32) (v4 : Int32) (v5 : Int32) {H : Heap} {locs : List Loc} {ls : Array Slot}, va_P D vwCl (ms_w ad cI cJ S) H → va_D A (ms_w ad cI cJ S) → va_S A s.heap H locs → lv_has ls 7 [(0, .ref (ad 0)), (1, .int v1), (2, .int v2), (3, .int v3), (4, .int v4), (5, .int v5)] → K49 S v1 v2 v3 v4 v5 → W p l e rm_X8_replace s m args below meth c H locs 0 0 (MQ below (va_Qi Q (xr_B D (ms_ty cI cJ cR) (ms_w ad cI cJ) A) A) args s 0 0 A) (F0 m 49 ls [])) {H : Heap} {locs : List Loc} {ls : Array Slot} (hP : va_P D vwCl (ms_w ad cI cJ S) H) (hD : va_D A (ms_w ad cI cJ S)) (hS : va_S A s.heap H locs) (hl : lv_has ls 7 [(0, .ref (ad 0)), (1, .int v1), (2, .int v2), (3, .int v3), (4, .int v4), (5, .int v5)]) (h : wp_X8_replace_198 K49 Q S v1 v2 v3 v4 v5) : W p l e rm_X8_replace s m args below meth c H locs 0 0 (MQ below (va_Qi Q (xr_B D (ms_ty cI cJ cR) (ms_w ad cI cJ) A) A) args s 0 0 A) (F0 m 198 ls []) := by
  obtain ⟨⟨hx, hb, hml, hown, hts⟩, hrt, hlk⟩ := id fx
  have hf : 0 ≤ rm_X8_replace.cells ∧ 0 ≤ rm_X8_replace.slots := ⟨Nat.zero_le _, Nat.zero_le _⟩
  unfold wp_X8_replace_198 at h
  obtain ⟨v5_3, ev5_3⟩ : ∃ z : Int32, z = v5 + 1 := ⟨_, rfl⟩
  have h := h v5_3 ev5_3
  refine lv_iinc (v := v5_3) (lv' := [(5, .int v5_3), (0, .ref (ad 0)), (1, .int v1), (2, .int v2), (3, .int v3), (4, .int v4)]) hx hb dX8_replace_198 hl (k := 5) rfl (by rw [ev5_3]; rfl) (by decide) rfl (fun ls hl => ?_)
  refine lv_goto (tgt := 49) hx hb dX8_replace_201 (by decide) ?_
  exact k49 _ _ _ _ _ _ hP hD hS (lv_sub hl [1, 2, 3, 4, 5, 0] rfl) h
set_option maxHeartbeats 4000000 in
set_option maxRecDepth 100000 in
theorem kb_X8_replace_85 {p : Program} {l : Launch} {e : Env} {s : State} {m : MethodId} {args : Array Value} {below : List Frame} {meth : Method} {c : Code} {D : va_G} {ad : Nat → Nat} {cI cJ cR : ClassId} {A : Nat → Prop} {K49 : ms_T → Int32 → Int32 → Int32 → Int32 → Int32 → Prop} {K85 : ms_T → Int32 → Int32 → Int32 → Int32 → Int32 → Int32 → Prop} {Q : Int32 → ms_T → Prop} {S : ms_T} {v1 : Int32} {v2 : Int32} {v3 : Int32} {v4 : Int32} {v5 : Int32} {v6 : Int32} (fx : xr_Fx p m c meth cX8_replace 7 s args wsX8_replace RX8 (some .int)) (hK : xr_K D (ms_ty cI cJ cR) s) (hA : ∀ q, s.heap.size ≤ q → A q) (k49 : ∀ (S : ms_T) (v1 : Int32) (v2 : Int32) (v3 : Int32) (v4 : Int32) (v5 : Int32) {H : Heap} {locs : List Loc} {ls : Array Slot}, va_P D vwCl (ms_w ad cI cJ S) H → va_D A (ms_w ad cI cJ S) → va_S A s.heap H locs → lv_has ls 7 [(0, .ref (ad 0)), (1, .int v1), (2, .int v2), (3, .int v3), (4, .int v4), (5, .int v5)] → K49 S v1 v2 v3 v4 v5 → W p l e rm_X8_replace s m args below meth c H locs 0 0 (MQ below (va_Qi Q (xr_B D (ms_ty cI cJ cR) (ms_w ad cI cJ) A) A) args s 0 0 A) (F0 m 49 ls [])) (k85 : ∀ (S : ms_T) (v1 : Int32) (v2 : Int32) (v3 : Int32) (v4 : Int32) (v5 : Int32) (v6 : Int32) {H : Heap} {locs : List Loc} {ls : Array Slot}, va_P D vwCl (ms_w ad cI cJ S) H → va_D A (ms_w ad cI cJ S) → va_S A s.heap H locs → lv_has ls 7 [(0, .ref (ad 0)), (1, .int v1), (2, .int v2), (3, .int v3), (4, .int v4), (5, .int v5), (6, .int v6)] → K85 S v1 v2 v3 v4 v5 v6 → W p l e rm_X8_replace s m args below meth c H locs 0 0 (MQ below (va_Qi Q (xr_B D (ms_ty cI cJ cR) (ms_w ad cI cJ) A) A) args s 0 0 A) (F0 m 85 ls [])) {H : Heap} {locs : List Loc} {ls : Array Slot} (hP : va_P D vwCl (ms_w ad cI cJ S) H) (hD : va_D A (ms_w ad cI cJ S)) (hS : va_S A s.heap H locs) (hl : lv_has ls 7 [(0, .ref (ad 0)), (1, .int v1), (2, .int v2), (3, .int v3), (4, .int v4), (5, .int v5), (6, .int v6)]) (h : wb_X8_replace_85 K49 K85 Q S v1 v2 v3 v4 v5 v6) : W p l e rm_X8_replace s m args below meth c H locs 0 0 (MQ below (va_Qi Q (xr_B D (ms_ty cI cJ cR) (ms_w ad cI cJ) A) A) args s 0 0 A) (F0 m 85 ls []) := by
  obtain ⟨⟨hx, hb, hml, hown, hts⟩, hrt, hlk⟩ := id fx
  have hf : 0 ≤ rm_X8_replace.cells ∧ 0 ≤ rm_X8_replace.slots := ⟨Nat.zero_le _, Nat.zero_le _⟩
  unfold wb_X8_replace_85 at h
  refine lv_iload hx hb dX8_replace_85 (lv_at hl 6 rfl) ?_
  refine lv_aload_n hx hb dX8_replace_87 rfl (lv_at hl 0 rfl) ?_
  refine ms_get 5 (v := .ref (ad 3)) fx in_X8_replace (by decide) rfl (by decide +kernel) rfl hK hP dX8_replace_88 ?_
  refine lv_iload hx hb dX8_replace_91 (lv_at hl 5 rfl) ?_
  obtain ⟨hi4, h⟩ := h
  refine ms_iald 2 (by decide) fx hK hP rfl hi4 dX8_replace_93 ?_
  refine lv_icmp_ge (tgt := 177) hx hb dX8_replace_94 (by decide) (fun c94 => ?_) (fun c94 => ?_)
  · have h := h.1 c94
    refine lv_aload_n hx hb dX8_replace_177 rfl (lv_at hl 0 rfl) ?_
    refine lv_bipush (v := 8) hx hb dX8_replace_178 (by decide) ?_
    refine lv_bipush (v := 9) hx hb dX8_replace_180 (by decide) ?_
    refine lv_aload_n hx hb dX8_replace_182 rfl (lv_at hl 0 rfl) ?_
    refine ms_get 6 (v := .ref (ad 15)) fx in_X8_replace (by decide) rfl (by decide +kernel) rfl hK hP dX8_replace_183 ?_
    refine lv_sipush (v := 364) hx hb dX8_replace_186 (by decide) ?_
    refine lv_iload_n hx hb dX8_replace_189 rfl (lv_at hl 2 rfl) ?_
    refine lv_imul hx hb dX8_replace_190 ?_
    refine lv_iload hx hb dX8_replace_191 (lv_at hl 5 rfl) ?_
    refine lv_iadd hx hb dX8_replace_193 ?_
    obtain ⟨hi5, h⟩ := h
    refine ms_lald 0 (by decide) fx hK hP rfl hi5 dX8_replace_194 ?_
    refine xr_vV (n := 3) (As := [.int 8, .int 9, .long (S.2.2 0 ((364 * v2) + v5).toNatClampNeg)]) (rest := []) fx (ct_X8_adds l D ad cI cJ cR h) gX8_replace_X8_adds rfl rfl (by decide +kernel) ⟨Nat.le_of_ble_eq_true rfl, Nat.le_of_ble_eq_true rfl⟩ ⟨rfl, rfl⟩ hf (ms_recv hK hP) hK hP hD hS hA hl.1 rfl (Nat.le_of_ble_eq_true rfl) dX8_replace_195 (fun S6 H locs h hP hD hS => ?_)
    exact kw_X8_replace_198 fx hK hA k49 hP hD hS (lv_sub hl [0, 1, 2, 3, 4, 5] rfl) h
  · have h := h.2 c94
    refine lv_aload_n hx hb dX8_replace_97 rfl (lv_at hl 0 rfl) ?_
    refine lv_iload hx hb dX8_replace_98 (lv_at hl 5 rfl) ?_
    refine lv_iload hx hb dX8_replace_100 (lv_at hl 6 rfl) ?_
    refine xr_vI (n := 2) (As := [.int v5, .int v6]) (rest := []) fx (ct_X8_letterAt l D ad cI cJ cR h) gX8_replace_X8_letterAt rfl rfl (by decide +kernel) ⟨Nat.le_of_ble_eq_true rfl, Nat.le_of_ble_eq_true rfl⟩ ⟨rfl, rfl⟩ hf (ms_recv hK hP) hK hP hD hS hA hl.1 rfl (Nat.le_of_ble_eq_true rfl) dX8_replace_102 (fun r8 S7 H locs h hP hD hS => ?_)
    refine lv_iload_n hx hb dX8_replace_105 rfl (lv_at hl 3 rfl) ?_
    refine lv_icmp_ne (tgt := 122) hx hb dX8_replace_106 (by decide) (fun c106 => ?_) (fun c106 => ?_)
    · have h := h.1 c106
      refine lv_aload_n hx hb dX8_replace_122 rfl (lv_at hl 0 rfl) ?_
      refine lv_bipush (v := 11) hx hb dX8_replace_123 (by decide) ?_
      refine xr_vV (n := 1) (As := [.int 11]) (rest := []) fx (ct_X8_clears l D ad cI cJ cR h) gX8_replace_X8_clears rfl rfl (by decide +kernel) ⟨Nat.le_of_ble_eq_true rfl, Nat.le_of_ble_eq_true rfl⟩ ⟨rfl, rfl⟩ hf (ms_recv hK hP) hK hP hD hS hA hl.1 rfl (Nat.le_of_ble_eq_true rfl) dX8_replace_125 (fun S9 H locs h hP hD hS => ?_)
      refine lv_aload_n hx hb dX8_replace_128 rfl (lv_at hl 0 rfl) ?_
      refine ms_get 6 (v := .ref (ad 15)) fx in_X8_replace (by decide) rfl (by decide +kernel) rfl hK hP dX8_replace_129 ?_
      refine lv_sipush (v := 4004) hx hb dX8_replace_132 (by decide) ?_
      refine lv_aload_n hx hb dX8_replace_135 rfl (lv_at hl 0 rfl) ?_
      refine ms_get 4 (v := .ref (ad 2)) fx in_X8_replace (by decide) rfl (by decide +kernel) rfl hK hP dX8_replace_136 ?_
      refine lv_iconst (v := 1) hx hb dX8_replace_139 (by decide) ?_
      obtain ⟨hi10, h⟩ := h
      refine ms_iald 1 (by decide) fx hK hP rfl hi10 dX8_replace_140 ?_
      refine lv_iadd hx hb dX8_replace_141 ?_
      refine lv_aload_n hx hb dX8_replace_142 rfl (lv_at hl 0 rfl) ?_
      refine lv_iload hx hb dX8_replace_143 (lv_at hl 5 rfl) ?_
      refine lv_iload hx hb dX8_replace_145 (lv_at hl 6 rfl) ?_
      refine xr_vI (n := 2) (As := [.int v5, .int v6]) (rest := [.int (4004 + (S9.2.1 1 ((1 : Int32)).toNatClampNeg)), .ref (ad 15)]) fx (ct_X8_letterAt l D ad cI cJ cR h) gX8_replace_X8_letterAt rfl rfl (by decide +kernel) ⟨Nat.le_of_ble_eq_true rfl, Nat.le_of_ble_eq_true rfl⟩ ⟨rfl, rfl⟩ hf (ms_recv hK hP) hK hP hD hS hA hl.1 rfl (Nat.le_of_ble_eq_true rfl) dX8_replace_147 (fun r12 S11 H locs h hP hD hS => ?_)
      refine lv_iadd hx hb dX8_replace_150 ?_
      refine lv_lconst (v := 1) hx hb dX8_replace_151 (by decide) ?_
      obtain ⟨hi13, h⟩ := h
      refine ms_last 0 (by decide) fx hK hP hD hS rfl hi13 dX8_replace_152 (fun H locs hP hD hS => ?_)
      refine lv_aload_n hx hb dX8_replace_153 rfl (lv_at hl 0 rfl) ?_
      refine lv_bipush (v := 10) hx hb dX8_replace_154 (by decide) ?_
      refine lv_bipush (v := 9) hx hb dX8_replace_156 (by decide) ?_
      refine lv_bipush (v := 11) hx hb dX8_replace_158 (by decide) ?_
      refine xr_vV (n := 3) (As := [.int 10, .int 9, .int 11]) (rest := []) fx (ct_X8_multiplies l D ad cI cJ cR h) gX8_replace_X8_multiplies rfl rfl (by decide +kernel) ⟨Nat.le_of_ble_eq_true rfl, Nat.le_of_ble_eq_true rfl⟩ ⟨rfl, rfl⟩ hf (ms_recv hK hP) hK hP hD hS hA hl.1 rfl (Nat.le_of_ble_eq_true rfl) dX8_replace_160 (fun S14 H locs h hP hD hS => ?_)
      exact kw_X8_replace_163 fx hK hA k49 k85 hP hD hS (lv_sub hl [0, 1, 2, 3, 4, 5, 6] rfl) h
    · have h := h.2 c106
      refine lv_aload_n hx hb dX8_replace_109 rfl (lv_at hl 0 rfl) ?_
      refine lv_bipush (v := 10) hx hb dX8_replace_110 (by decide) ?_
      refine lv_bipush (v := 9) hx hb dX8_replace_112 (by decide) ?_
      refine lv_iload hx hb dX8_replace_114 (lv_at hl 4 rfl) ?_
      refine xr_vV (n := 3) (As := [.int 10, .int 9, .int v4]) (rest := []) fx (ct_X8_multiplies l D ad cI cJ cR h) gX8_replace_X8_multiplies rfl rfl (by decide +kernel) ⟨Nat.le_of_ble_eq_true rfl, Nat.le_of_ble_eq_true rfl⟩ ⟨rfl, rfl⟩ hf (ms_recv hK hP) hK hP hD hS hA hl.1 rfl (Nat.le_of_ble_eq_true rfl) dX8_replace_116 (fun S15 H locs h hP hD hS => ?_)
      refine lv_goto (tgt := 163) hx hb dX8_replace_119 (by decide) ?_
      exact kw_X8_replace_163 fx hK hA k49 k85 hP hD hS (lv_sub hl [0, 1, 2, 3, 4, 5, 6] rfl) h
theorem kw_X8_replace_85 {p : Program} {l : Launch} {e : Env} {s : State} {m : MethodId} {args : Array Value} {below : List Frame} {meth : Method} {c : Code} {D : va_G} {ad : Nat → Nat} {cI cJ cR : ClassId} {A : Nat → Prop} {K49 : ms_T → Int32 → Int32 → Int32 → Int32 → Int32 → Prop} {Q : Int32 → ms_T → Prop} (fx : xr_Fx p m c meth cX8_replace 7 s args wsX8_replace RX8 (some .int)) (hK : xr_K D (ms_ty cI cJ cR) s) (hA : ∀ q, s.heap.size ≤ q → A q) (k49 : ∀ (S : ms_T) (v1 : Int32) (v2 : Int32) (v3 : Int32) (v4 : Int32) (v5 : Int32) {H : Heap} {locs : List Loc} {ls : Array Slot}, va_P D vwCl (ms_w ad cI cJ S) H → va_D A (ms_w ad cI cJ S) → va_S A s.heap H locs → lv_has ls 7 [(0, .ref (ad 0)), (1, .int v1), (2, .int v2), (3, .int v3), (4, .int v4), (5, .int v5)] → K49 S v1 v2 v3 v4 v5 → W p l e rm_X8_replace s m args below meth c H locs 0 0 (MQ below (va_Qi Q (xr_B D (ms_ty cI cJ cR) (ms_w ad cI cJ) A) A) args s 0 0 A) (F0 m 49 ls [])) : ∀ (n : Nat) (S : ms_T) (v1 : Int32) (v2 : Int32) (v3 : Int32) (v4 : Int32) (v5 : Int32) (v6 : Int32) {H : Heap} {locs : List Loc} {ls : Array Slot}, va_P D vwCl (ms_w ad cI cJ S) H → va_D A (ms_w ad cI cJ S) → va_S A s.heap H locs → lv_has ls 7 [(0, .ref (ad 0)), (1, .int v1), (2, .int v2), (3, .int v3), (4, .int v4), (5, .int v5), (6, .int v6)] → wp_X8_replace_85 K49 Q n S v1 v2 v3 v4 v5 v6 → W p l e rm_X8_replace s m args below meth c H locs 0 0 (MQ below (va_Qi Q (xr_B D (ms_ty cI cJ cR) (ms_w ad cI cJ) A) A) args s 0 0 A) (F0 m 85 ls []) := by
  intro n
  induction n with
  | zero => intro S v1 v2 v3 v4 v5 v6 H locs ls hP hD hS hl h; exact False.elim h
  | succ n ih => intro S v1 v2 v3 v4 v5 v6 H locs ls hP hD hS hl h; exact kb_X8_replace_85 fx hK hA k49 ih hP hD hS hl h
set_option maxHeartbeats 4000000 in
set_option maxRecDepth 100000 in
theorem kb_X8_replace_49 {p : Program} {l : Launch} {e : Env} {s : State} {m : MethodId} {args : Array Value} {below : List Frame} {meth : Method} {c : Code} {D : va_G} {ad : Nat → Nat} {cI cJ cR : ClassId} {A : Nat → Prop}  {K49 : ms_T → Int32 → Int32 → Int32 → Int32 → Int32 → Prop} {Q : Int32 → ms_T → Prop} {S : ms_T} {v1 : Int32} {v2 : Int32} {v3 : Int32} {v4 : Int32} {v5 : Int32} (fx : xr_Fx p m c meth cX8_replace 7 s args wsX8_replace RX8 (some .int)) (hK : xr_K D (ms_ty cI cJ cR) s) (hA : ∀ q, s.heap.size ≤ q → A q)  (k49 : ∀ (S : ms_T) (v1 : Int32) (v2 : Int32) (v3 : Int32) (v4 : Int32) (v5 : Int32) {H : Heap} {locs : List Loc} {ls : Array Slot}, va_P D vwCl (ms_w ad cI cJ S) H → va_D A (ms_w ad cI cJ S) → va_S A s.heap H locs → lv_has ls 7 [(0, .ref (ad 0)), (1, .int v1), (2, .int v2), (3, .int v3), (4, .int v4), (5, .int v5)] → K49 S v1 v2 v3 v4 v5 → W p l e rm_X8_replace s m args below meth c H locs 0 0 (MQ below (va_Qi Q (xr_B D (ms_ty cI cJ cR) (ms_w ad cI cJ) A) A) args s 0 0 A) (F0 m 49 ls [])) {H : Heap} {locs : List Loc} {ls : Array Slot} (hP : va_P D vwCl (ms_w ad cI cJ S) H) (hD : va_D A (ms_w ad cI cJ S)) (hS : va_S A s.heap H locs) (hl : lv_has ls 7 [(0, .ref (ad 0)), (1, .int v1), (2, .int v2), (3, .int v3), (4, .int v4), (5, .int v5)]) (h : wb_X8_replace_49 K49 Q S v1 v2 v3 v4 v5) : W p l e rm_X8_replace s m args below meth c H locs 0 0 (MQ below (va_Qi Q (xr_B D (ms_ty cI cJ cR) (ms_w ad cI cJ) A) A) args s 0 0 A) (F0 m 49 ls []) := by
  obtain ⟨⟨hx, hb, hml, hown, hts⟩, hrt, hlk⟩ := id fx
  have hf : 0 ≤ rm_X8_replace.cells ∧ 0 ≤ rm_X8_replace.slots := ⟨Nat.zero_le _, Nat.zero_le _⟩
  unfold wb_X8_replace_49 at h
  refine lv_iload hx hb dX8_replace_49 (lv_at hl 5 rfl) ?_
  refine lv_aload_n hx hb dX8_replace_51 rfl (lv_at hl 0 rfl) ?_
  refine ms_get 2 (v := .int (S.1 2)) fx in_X8_replace (by decide) rfl (by decide +kernel) rfl hK hP dX8_replace_52 ?_
  refine lv_icmp_ge (tgt := 204) hx hb dX8_replace_55 (by decide) (fun c55 => ?_) (fun c55 => ?_)
  · have h := h.1 c55
    refine lv_aload_n hx hb dX8_replace_204 rfl (lv_at hl 0 rfl) ?_
    refine lv_iload_n hx hb dX8_replace_205 rfl (lv_at hl 1 rfl) ?_
    refine lv_bipush (v := 8) hx hb dX8_replace_206 (by decide) ?_
    refine xr_vV (n := 2) (As := [.int v1, .int 8]) (rest := []) fx (ct_X8_copies l D ad cI cJ cR h) gX8_replace_X8_copies rfl rfl (by decide +kernel) ⟨Nat.le_of_ble_eq_true rfl, Nat.le_of_ble_eq_true rfl⟩ ⟨rfl, rfl⟩ hf (ms_recv hK hP) hK hP hD hS hA hl.1 rfl (Nat.le_of_ble_eq_true rfl) dX8_replace_208 (fun S16 H locs h hP hD hS => ?_)
    refine lv_iconst (v := 0) hx hb dX8_replace_211 (by decide) ?_
    exact xr_rI fx hK hP hD hS h dX8_replace_212
  · have h := h.2 c55
    refine lv_aload_n hx hb dX8_replace_58 rfl (lv_at hl 0 rfl) ?_
    refine ms_get 6 (v := .ref (ad 15)) fx in_X8_replace (by decide) rfl (by decide +kernel) rfl hK hP dX8_replace_59 ?_
    refine lv_sipush (v := 364) hx hb dX8_replace_62 (by decide) ?_
    refine lv_iload_n hx hb dX8_replace_65 rfl (lv_at hl 2 rfl) ?_
    refine lv_imul hx hb dX8_replace_66 ?_
    refine lv_iload hx hb dX8_replace_67 (lv_at hl 5 rfl) ?_
    refine lv_iadd hx hb dX8_replace_69 ?_
    obtain ⟨hi17, h⟩ := h
    refine ms_lald 0 (by decide) fx hK hP rfl hi17 dX8_replace_70 ?_
    refine lv_lconst (v := 0) hx hb dX8_replace_71 (by decide) ?_
    refine W.lcmp hx hb dX8_replace_72 ?_
    refine lv_if_eq (tgt := 198) hx hb dX8_replace_73 (by decide) (fun c73 => ?_) (fun c73 => ?_)
    · have h := h.1 ((lg_cmp_eq _ _).mp c73)
      exact kw_X8_replace_198 fx hK hA k49 hP hD hS (lv_sub hl [0, 1, 2, 3, 4, 5] rfl) h
    · have h := h.2 (fun z => c73 ((lg_cmp_eq _ _).mpr z))
      refine lv_aload_n hx hb dX8_replace_76 rfl (lv_at hl 0 rfl) ?_
      refine lv_bipush (v := 9) hx hb dX8_replace_77 (by decide) ?_
      refine xr_vV (n := 1) (As := [.int 9]) (rest := []) fx (ct_X8_ones l D ad cI cJ cR h) gX8_replace_X8_ones rfl rfl (by decide +kernel) ⟨Nat.le_of_ble_eq_true rfl, Nat.le_of_ble_eq_true rfl⟩ ⟨rfl, rfl⟩ hf (ms_recv hK hP) hK hP hD hS hA hl.1 rfl (Nat.le_of_ble_eq_true rfl) dX8_replace_79 (fun S18 H locs h hP hD hS => ?_)
      refine lv_iconst (v := 0) hx hb dX8_replace_82 (by decide) ?_
      refine lv_istore (lv' := [(6, .int 0), (0, .ref (ad 0)), (1, .int v1), (2, .int v2), (3, .int v3), (4, .int v4), (5, .int v5)]) hx hb dX8_replace_83 hl (by decide) rfl (fun ls hl => ?_)
      obtain ⟨n, h⟩ := h
      exact kw_X8_replace_85 fx hK hA k49 n _ _ _ _ _ _ _ hP hD hS (lv_sub hl [1, 2, 3, 4, 5, 6, 0] rfl) h
theorem kw_X8_replace_49 {p : Program} {l : Launch} {e : Env} {s : State} {m : MethodId} {args : Array Value} {below : List Frame} {meth : Method} {c : Code} {D : va_G} {ad : Nat → Nat} {cI cJ cR : ClassId} {A : Nat → Prop}  {Q : Int32 → ms_T → Prop} (fx : xr_Fx p m c meth cX8_replace 7 s args wsX8_replace RX8 (some .int)) (hK : xr_K D (ms_ty cI cJ cR) s) (hA : ∀ q, s.heap.size ≤ q → A q)  : ∀ (n : Nat) (S : ms_T) (v1 : Int32) (v2 : Int32) (v3 : Int32) (v4 : Int32) (v5 : Int32) {H : Heap} {locs : List Loc} {ls : Array Slot}, va_P D vwCl (ms_w ad cI cJ S) H → va_D A (ms_w ad cI cJ S) → va_S A s.heap H locs → lv_has ls 7 [(0, .ref (ad 0)), (1, .int v1), (2, .int v2), (3, .int v3), (4, .int v4), (5, .int v5)] → wp_X8_replace_49 Q n S v1 v2 v3 v4 v5 → W p l e rm_X8_replace s m args below meth c H locs 0 0 (MQ below (va_Qi Q (xr_B D (ms_ty cI cJ cR) (ms_w ad cI cJ) A) A) args s 0 0 A) (F0 m 49 ls []) := by
  intro n
  induction n with
  | zero => intro S v1 v2 v3 v4 v5 H locs ls hP hD hS hl h; exact False.elim h
  | succ n ih => intro S v1 v2 v3 v4 v5 H locs ls hP hD hS hl h; exact kb_X8_replace_49 fx hK hA ih hP hD hS hl h
set_option maxHeartbeats 4000000 in
set_option maxRecDepth 100000 in
theorem ct_X8_replace (l : Launch) (D : va_G) (ad : Nat → Nat) (cI cJ cR : ClassId) {S : ms_T} {a1 : Int32} {a2 : Int32} {a3 : Int32} {a4 : Int32} {Q : Int32 → ms_T → Prop} (h : wp_X8_replace S a1 a2 a3 a4 Q) : xr_I l D (ms_ty cI cJ cR) (ms_w ad cI cJ) yX8_replace wsX8_replace rm_X8_replace [.ref (ad 0), .int a1, .int a2, .int a3, .int a4] S Q := by
  refine xr_eI (cc := cX8_replace) (nL := 7) (ret := (some .int)) (own := RX8) (by decide) rfl rfl (Nat.le_of_ble_eq_true rfl) ?_
  intro p e s m args below meth c ls A fx hK hA hP hD hS hl
  have hl : lv_has ls 7 [(0, .ref (ad 0)), (1, .int a1), (2, .int a2), (3, .int a3), (4, .int a4)] := hl
  show W p l e rm_X8_replace s m args below meth c s.heap [] 0 0 _ _
  obtain ⟨⟨hx, hb, hml, hown, hts⟩, hrt, hlk⟩ := id fx
  have hf : 0 ≤ rm_X8_replace.cells ∧ 0 ≤ rm_X8_replace.slots := ⟨Nat.zero_le _, Nat.zero_le _⟩
  unfold wp_X8_replace at h
  refine lv_aload_n hx hb dX8_replace_0 rfl (lv_at hl 0 rfl) ?_
  refine lv_iload_n hx hb dX8_replace_1 rfl (lv_at hl 1 rfl) ?_
  refine lv_iload_n hx hb dX8_replace_2 rfl (lv_at hl 2 rfl) ?_
  refine lv_iload hx hb dX8_replace_3 (lv_at hl 4 rfl) ?_
  refine xr_vI (n := 3) (As := [.int a1, .int a2, .int a4]) (rest := []) fx (ct_X8_areSums l D ad cI cJ cR h) gX8_replace_X8_areSums rfl rfl (by decide +kernel) ⟨Nat.le_of_ble_eq_true rfl, Nat.le_of_ble_eq_true rfl⟩ ⟨rfl, rfl⟩ hf (ms_recv hK hP) hK hP hD hS hA hl.1 rfl (Nat.le_of_ble_eq_true rfl) dX8_replace_5 (fun r20 S19 H locs h hP hD hS => ?_)
  refine lv_if_eq (tgt := 19) hx hb dX8_replace_8 (by decide) (fun c8 => ?_) (fun c8 => ?_)
  · have h := h.1 c8
    refine lv_iconst (v := (-1)) hx hb dX8_replace_19 (by decide) ?_
    exact xr_rI fx hK hP hD hS h dX8_replace_20
  · have h := h.2 c8
    refine lv_aload_n hx hb dX8_replace_11 rfl (lv_at hl 0 rfl) ?_
    refine lv_iload_n hx hb dX8_replace_12 rfl (lv_at hl 3 rfl) ?_
    refine xr_vI (n := 1) (As := [.int a3]) (rest := []) fx (ct_X8_isLetter l D ad cI cJ cR h) gX8_replace_X8_isLetter rfl rfl (by decide +kernel) ⟨Nat.le_of_ble_eq_true rfl, Nat.le_of_ble_eq_true rfl⟩ ⟨rfl, rfl⟩ hf (ms_recv hK hP) hK hP hD hS hA hl.1 rfl (Nat.le_of_ble_eq_true rfl) dX8_replace_13 (fun r22 S21 H locs h hP hD hS => ?_)
    refine lv_if_ne (tgt := 21) hx hb dX8_replace_16 (by decide) (fun c16 => ?_) (fun c16 => ?_)
    · have h := h.1 c16
      refine lv_aload_n hx hb dX8_replace_21 rfl (lv_at hl 0 rfl) ?_
      refine ms_get 6 (v := .ref (ad 15)) fx in_X8_replace (by decide) rfl (by decide +kernel) rfl hK hP dX8_replace_22 ?_
      refine lv_sipush (v := 364) hx hb dX8_replace_25 (by decide) ?_
      refine lv_iload hx hb dX8_replace_28 (lv_at hl 4 rfl) ?_
      refine lv_imul hx hb dX8_replace_30 ?_
      obtain ⟨hi23, h⟩ := h
      refine ms_lald 0 (by decide) fx hK hP rfl hi23 dX8_replace_31 ?_
      refine lv_lconst (v := 0) hx hb dX8_replace_32 (by decide) ?_
      refine W.lcmp hx hb dX8_replace_33 ?_
      refine lv_if_eq (tgt := 40) hx hb dX8_replace_34 (by decide) (fun c34 => ?_) (fun c34 => ?_)
      · have h := h.1 ((lg_cmp_eq _ _).mp c34)
        refine lv_aload_n hx hb dX8_replace_40 rfl (lv_at hl 0 rfl) ?_
        refine lv_bipush (v := 8) hx hb dX8_replace_41 (by decide) ?_
        refine xr_vV (n := 1) (As := [.int 8]) (rest := []) fx (ct_X8_clears l D ad cI cJ cR h) gX8_replace_X8_clears rfl rfl (by decide +kernel) ⟨Nat.le_of_ble_eq_true rfl, Nat.le_of_ble_eq_true rfl⟩ ⟨rfl, rfl⟩ hf (ms_recv hK hP) hK hP hD hS hA hl.1 rfl (Nat.le_of_ble_eq_true rfl) dX8_replace_43 (fun S24 H locs h hP hD hS => ?_)
        refine lv_iconst (v := 0) hx hb dX8_replace_46 (by decide) ?_
        refine lv_istore (lv' := [(5, .int 0), (0, .ref (ad 0)), (1, .int a1), (2, .int a2), (3, .int a3), (4, .int a4)]) hx hb dX8_replace_47 hl (by decide) rfl (fun ls hl => ?_)
        obtain ⟨n, h⟩ := h
        exact kw_X8_replace_49 fx hK hA n _ _ _ _ _ _ hP hD hS (lv_sub hl [1, 2, 3, 4, 5, 0] rfl) h
      · have h := h.2 (fun z => c34 ((lg_cmp_eq _ _).mpr z))
        refine lv_bipush (v := (-3)) hx hb dX8_replace_37 (by decide) ?_
        exact xr_rI fx hK hP hD hS h dX8_replace_39
    · have h := h.2 c16
      refine lv_iconst (v := (-1)) hx hb dX8_replace_19 (by decide) ?_
      exact xr_rI fx hK hP hD hS h dX8_replace_20
