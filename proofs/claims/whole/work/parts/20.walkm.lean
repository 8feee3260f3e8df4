abbrev rm_X8_in : Room := { frames := 0, cells := 0, slots := 0, locals := 0 }
set_option maxHeartbeats 4000000 in
set_option maxRecDepth 100000 in
theorem ct_X8_in (l : Launch) {a0 : Int64} {a2 : Int64} {a4 : Int64} {Q : Int32 → Prop} (h : wp_X8_in a0 a2 a4 Q) : xr_SI l yX8_in wsX8_in rm_X8_in [.long a0, .long a2, .long a4] Q := by
  refine xr_eSI (cc := cX8_in) (nL := 6) (ret := (some .boolean)) (own := RX8) (by decide) rfl rfl (Nat.le_of_ble_eq_true rfl) ?_
  intro p e s m args below meth c ls fx hl
  have hl : lv_has ls 6 [(0, .long a0), (2, .long a2), (4, .long a4)] := hl
  show W p l e rm_X8_in s m args below meth c s.heap [] 0 0 _ _
  obtain ⟨⟨hx, hb, hml, hown, hts⟩, hrt, hlk⟩ := id fx
  have hf : 0 ≤ rm_X8_in.cells ∧ 0 ≤ rm_X8_in.slots := ⟨Nat.zero_le _, Nat.zero_le _⟩
  unfold wp_X8_in at h
  refine lv_lload_n hx hb dX8_in_0 rfl (lv_at hl 0 rfl) ?_
  refine lv_lload_n hx hb dX8_in_1 rfl (lv_at hl 1 rfl) ?_
  refine W.lcmp hx hb dX8_in_2 ?_
  refine lv_if_lt (tgt := 17) hx hb dX8_in_3 (by decide) (fun c3 => ?_) (fun c3 => ?_)
  · have h := h.1 ((lg_cmp_lt _ _).mp c3)
    refine lv_iconst (v := 0) hx hb dX8_in_17 (by decide) ?_
    exact xr_rSZ fx rfl h dX8_in_18
  · have h := h.2 (fun z => c3 ((lg_cmp_lt _ _).mpr z))
    refine lv_lload_n hx hb dX8_in_6 rfl (lv_at hl 0 rfl) ?_
    refine lv_lload hx hb dX8_in_7 (lv_at hl 2 rfl) ?_
    refine W.lcmp hx hb dX8_in_9 ?_
    refine lv_if_gt (tgt := 17) hx hb dX8_in_10 (by decide) (fun c10 => ?_) (fun c10 => ?_)
    · have h := h.1 ((lg_cmp_gt _ _).mp c10)
      refine lv_iconst (v := 0) hx hb dX8_in_17 (by decide) ?_
      exact xr_rSZ fx rfl h dX8_in_18
    · have h := h.2 (fun z => c10 ((lg_cmp_gt _ _).mpr z))
      refine lv_iconst (v := 1) hx hb dX8_in_13 (by decide) ?_
      refine lv_goto (tgt := 18) hx hb dX8_in_14 (by decide) ?_
      exact xr_rSZ fx rfl h dX8_in_18
abbrev rm_X8_mod : Room := { frames := 0, cells := 0, slots := 0, locals := 0 }
set_option maxHeartbeats 4000000 in
set_option maxRecDepth 100000 in
theorem ct_X8_mod (l : Launch) {a0 : Int64} {Q : Int64 → Prop} (h : wp_X8_mod a0 Q) : xr_SL l yX8_mod wsX8_mod rm_X8_mod [.long a0] Q := by
  refine xr_eSL (cc := cX8_mod) (nL := 4) (ret := (some .long)) (own := RX8) (by decide) rfl rfl (Nat.le_of_ble_eq_true rfl) ?_
  intro p e s m args below meth c ls fx hl
  have hl : lv_has ls 4 [(0, .long a0)] := hl
  show W p l e rm_X8_mod s m args below meth c s.heap [] 0 0 _ _
  obtain ⟨⟨hx, hb, hml, hown, hts⟩, hrt, hlk⟩ := id fx
  have hf : 0 ≤ rm_X8_mod.cells ∧ 0 ≤ rm_X8_mod.slots := ⟨Nat.zero_le _, Nat.zero_le _⟩
  unfold wp_X8_mod at h
  refine lv_lload_n hx hb dX8_mod_0 rfl (lv_at hl 0 rfl) ?_
  refine lv_ldc2 (v := 2147483647) hx hb hown (hts (.constantLong RX8 3 (2147483647)) (by decide +kernel)) dX8_mod_1 ?_
  refine lv_lrem hx hb dX8_mod_4 (by decide) ?_
  refine lv_topl (fun v2_1 ev2_1 => ?_)
  have h := h v2_1 ev2_1
  refine lv_lstore_n (lv' := [(2, .long v2_1), (0, .long a0)]) hx hb dX8_mod_5 rfl hl (by decide) rfl (fun ls hl => ?_)
  refine lv_lload_n hx hb dX8_mod_6 rfl (lv_at hl 0 rfl) ?_
  refine lv_lconst (v := 0) hx hb dX8_mod_7 (by decide) ?_
  refine W.lcmp hx hb dX8_mod_8 ?_
  refine lv_if_ge (tgt := 20) hx hb dX8_mod_9 (by decide) (fun c9 => ?_) (fun c9 => ?_)
  · have h := h.1 ((lg_cmp_ge _ _).mp c9)
    refine lv_lload_n hx hb dX8_mod_20 rfl (lv_at hl 0 rfl) ?_
    exact xr_rSL fx h dX8_mod_21
  · have h := h.2 (fun z => c9 ((lg_cmp_ge _ _).mpr z))
    refine lv_lload_n hx hb dX8_mod_12 rfl (lv_at hl 0 rfl) ?_
    refine lv_ldc2 (v := 2147483647) hx hb hown (hts (.constantLong RX8 3 (2147483647)) (by decide +kernel)) dX8_mod_13 ?_
    refine lv_ladd hx hb dX8_mod_16 ?_
    refine lv_goto (tgt := 21) hx hb dX8_mod_17 (by decide) ?_
    exact xr_rSL fx h dX8_mod_21
abbrev rm_X8_inverted : Room := { frames := 0, cells := 0, slots := 0, locals := 0 }
set_option maxHeartbeats 4000000 in
set_option maxRecDepth 100000 in
theorem kw_X8_inverted_38 {p : Program} {l : Launch} {e : Env} {s : State} {m : MethodId} {args : Array Value} {below : List Frame} {meth : Method} {c : Code}  {K10 : Int64 → Int64 → Int64 → Prop} {Q : Int64 → Prop} {v4 : Int64} {v6 : Int64} {s0 : Int64} (fx : xr_Fx p m c meth cX8_inverted 8 s args wsX8_inverted RX8 (some .long))  (k10 : ∀ (v2 : Int64) (v4 : Int64) (v6 : Int64) {ls : Array Slot}, lv_has ls 8 [(2, .long v2), (4, .long v4), (6, .long v6)] → K10 v2 v4 v6 → W p l e rm_X8_inverted s m args below meth c s.heap [] 0 0 (MQ below (vp_Sl Q) args s 0 0 (fun _ => False)) (F0 m 10 ls [])) {ls : Array Slot} (hl : lv_has ls 8 [(4, .long v4), (6, .long v6)]) (h : wp_X8_inverted_38 K10 Q v4 v6 s0) : W p l e rm_X8_inverted s m args below meth c s.heap [] 0 0 (MQ below (vp_Sl Q) args s 0 0 (fun _ => False)) (F0 m 38 ls [.long s0]) := by
  obtain ⟨⟨hx, hb, hml, hown, hts⟩, hrt, hlk⟩ := id fx
  have hf : 0 ≤ rm_X8_inverted.cells ∧ 0 ≤ rm_X8_inverted.slots := ⟨Nat.zero_le _, Nat.zero_le _⟩
  unfold wp_X8_inverted_38 at h
  refine lv_lstore_n (lv' := [(2, .long s0), (4, .long v4), (6, .long v6)]) hx hb dX8_inverted_38 rfl hl (by decide) rfl (fun ls hl => ?_)
  refine lv_lload hx hb dX8_inverted_39 (lv_at hl 1 rfl) ?_
  refine lv_lload hx hb dX8_inverted_41 (lv_at hl 1 rfl) ?_
  refine lv_lmul hx hb dX8_inverted_43 ?_
  refine lv_ldc2 (v := 2147483647) hx hb hown (hts (.constantLong RX8 3 (2147483647)) (by decide +kernel)) dX8_inverted_44 ?_
  refine lv_lrem hx hb dX8_inverted_47 (by decide) ?_
  refine lv_topl (fun v4_1 ev4_1 => ?_)
  have h := h v4_1 ev4_1
  refine lv_lstore (lv' := [(4, .long v4_1), (2, .long s0), (6, .long v6)]) hx hb dX8_inverted_48 hl (by decide) rfl (fun ls hl => ?_)
  refine lv_lload hx hb dX8_inverted_50 (lv_at hl 2 rfl) ?_
  refine lv_iconst (v := 1) hx hb dX8_inverted_52 (by decide) ?_
  refine lv_lshr hx hb dX8_inverted_53 rfl ?_
  refine lv_topl (fun v6_2 ev6_2 => ?_)
  have h := h v6_2 ev6_2
  refine lv_lstore (lv' := [(6, .long v6_2), (4, .long v4_1), (2, .long s0)]) hx hb dX8_inverted_54 hl (by decide) rfl (fun ls hl => ?_)
  refine lv_goto (tgt := 10) hx hb dX8_inverted_56 (by decide) ?_
  exact k10 _ _ _ (lv_sub hl [2, 1, 0] rfl) h
set_option maxHeartbeats 4000000 in
set_option maxRecDepth 100000 in
theorem kb_X8_inverted_10 {p : Program} {l : Launch} {e : Env} {s : State} {m : MethodId} {args : Array Value} {below : List Frame} {meth : Method} {c : Code}   {K10 : Int64 → Int64 → Int64 → Prop} {Q : Int64 → Prop} {v2 : Int64} {v4 : Int64} {v6 : Int64} (fx : xr_Fx p m c meth cX8_inverted 8 s args wsX8_inverted RX8 (some .long))   (k10 : ∀ (v2 : Int64) (v4 : Int64) (v6 : Int64) {ls : Array Slot}, lv_has ls 8 [(2, .long v2), (4, .long v4), (6, .long v6)] → K10 v2 v4 v6 → W p l e rm_X8_inverted s m args below meth c s.heap [] 0 0 (MQ below (vp_Sl Q) args s 0 0 (fun _ => False)) (F0 m 10 ls [])) {ls : Array Slot} (hl : lv_has ls 8 [(2, .long v2), (4, .long v4), (6, .long v6)]) (h : wb_X8_inverted_10 K10 Q v2 v4 v6) : W p l e rm_X8_inverted s m args below meth c s.heap [] 0 0 (MQ below (vp_Sl Q) args s 0 0 (fun _ => False)) (F0 m 10 ls []) := by
  obtain ⟨⟨hx, hb, hml, hown, hts⟩, hrt, hlk⟩ := id fx
  have hf : 0 ≤ rm_X8_inverted.cells ∧ 0 ≤ rm_X8_inverted.slots := ⟨Nat.zero_le _, Nat.zero_le _⟩
  unfold wb_X8_inverted_10 at h
  refine lv_lload hx hb dX8_inverted_10 (lv_at hl 2 rfl) ?_
  refine lv_lconst (v := 0) hx hb dX8_inverted_12 (by decide) ?_
  refine W.lcmp hx hb dX8_inverted_13 ?_
  refine lv_if_le (tgt := 59) hx hb dX8_inverted_14 (by decide) (fun c14 => ?_) (fun c14 => ?_)
  · have h := h.1 ((lg_cmp_le _ _).mp c14)
    refine lv_lload_n hx hb dX8_inverted_59 rfl (lv_at hl 0 rfl) ?_
    exact xr_rSL fx h dX8_inverted_60
  · have h := h.2 (fun z => c14 ((lg_cmp_le _ _).mpr z))
    refine lv_lload hx hb dX8_inverted_17 (lv_at hl 2 rfl) ?_
    refine lv_lconst (v := 1) hx hb dX8_inverted_19 (by decide) ?_
    refine lv_land hx hb dX8_inverted_20 ?_
    refine lv_lconst (v := 1) hx hb dX8_inverted_21 (by decide) ?_
    refine W.lcmp hx hb dX8_inverted_22 ?_
    refine lv_if_ne (tgt := 37) hx hb dX8_inverted_23 (by decide) (fun c23 => ?_) (fun c23 => ?_)
    · have h := h.1 (fun z => c23 ((lg_cmp_eq _ _).mpr z))
      refine lv_lload_n hx hb dX8_inverted_37 rfl (lv_at hl 0 rfl) ?_
      exact kw_X8_inverted_38 fx k10 (lv_sub hl [1, 2] rfl) h
    · have h := h.2 ((lg_cmp_eq _ _).mp c23)
      refine lv_lload_n hx hb dX8_inverted_26 rfl (lv_at hl 0 rfl) ?_
      refine lv_lload hx hb dX8_inverted_27 (lv_at hl 1 rfl) ?_
      refine lv_lmul hx hb dX8_inverted_29 ?_
      refine lv_ldc2 (v := 2147483647) hx hb hown (hts (.constantLong RX8 3 (2147483647)) (by decide +kernel)) dX8_inverted_30 ?_
      refine lv_lrem hx hb dX8_inverted_33 (by decide) ?_
      refine lv_goto (tgt := 38) hx hb dX8_inverted_34 (by decide) ?_
      exact kw_X8_inverted_38 fx k10 (lv_sub hl [1, 2] rfl) h
theorem kw_X8_inverted_10 {p : Program} {l : Launch} {e : Env} {s : State} {m : MethodId} {args : Array Value} {below : List Frame} {meth : Method} {c : Code}   {Q : Int64 → Prop} (fx : xr_Fx p m c meth cX8_inverted 8 s args wsX8_inverted RX8 (some .long))   : ∀ (n : Nat) (v2 : Int64) (v4 : Int64) (v6 : Int64) {ls : Array Slot}, lv_has ls 8 [(2, .long v2), (4, .long v4), (6, .long v6)] → wp_X8_inverted_10 Q n v2 v4 v6 → W p l e rm_X8_inverted s m args below meth c s.heap [] 0 0 (MQ below (vp_Sl Q) args s 0 0 (fun _ => False)) (F0 m 10 ls []) := by
  intro n
  induction n with
  | zero => intro v2 v4 v6 ls hl h; exact False.elim h
  | succ n ih => intro v2 v4 v6 ls hl h; exact kb_X8_inverted_10 fx ih hl h
set_option maxHeartbeats 4000000 in
set_option maxRecDepth 100000 in
theorem ct_X8_inverted (l : Launch) {a0 : Int64} {Q : Int64 → Prop} (h : wp_X8_inverted a0 Q) : xr_SL l yX8_inverted wsX8_inverted rm_X8_inverted [.long a0] Q := by
  refine xr_eSL (cc := cX8_inverted) (nL := 8) (ret := (some .long)) (own := RX8) (by decide) rfl rfl (Nat.le_of_ble_eq_true rfl) ?_
  intro p e s m args below meth c ls fx hl
  have hl : lv_has ls 8 [(0, .long a0)] := hl
  show W p l e rm_X8_inverted s m args below meth c s.heap [] 0 0 _ _
  obtain ⟨⟨hx, hb, hml, hown, hts⟩, hrt, hlk⟩ := id fx
  have hf : 0 ≤ rm_X8_inverted.cells ∧ 0 ≤ rm_X8_inverted.slots := ⟨Nat.zero_le _, Nat.zero_le _⟩
  unfold wp_X8_inverted at h
  refine lv_lconst (v := 1) hx hb dX8_inverted_0 (by decide) ?_
  refine lv_lstore_n (lv' := [(2, .long 1), (0, .long a0)]) hx hb dX8_inverted_1 rfl hl (by decide) rfl (fun ls hl => ?_)
  refine lv_lload_n hx hb dX8_inverted_2 rfl (lv_at hl 1 rfl) ?_
  refine lv_lstore (lv' := [(4, .long a0), (2, .long 1), (0, .long a0)]) hx hb dX8_inverted_3 hl (by decide) rfl (fun ls hl => ?_)
  refine lv_ldc2 (v := 2147483645) hx hb hown (hts (.constantLong RX8 5 (2147483645)) (by decide +kernel)) dX8_inverted_5 ?_
  refine lv_lstore (lv' := [(6, .long 2147483645), (4, .long a0), (2, .long 1), (0, .long a0)]) hx hb dX8_inverted_8 hl (by decide) rfl (fun ls hl => ?_)
  obtain ⟨n, h⟩ := h
  exact kw_X8_inverted_10 fx n _ _ _ (lv_sub hl [2, 1, 0] rfl) h
abbrev rm_X8_floorMod : Room := { frames := 0, cells := 0, slots := 0, locals := 0 }
set_option maxHeartbeats 4000000 in
set_option maxRecDepth 100000 in
theorem ct_X8_floorMod (l : Launch) {a0 : Int32} {a1 : Int32} {Q : Int32 → Prop} (h : wp_X8_floorMod a0 a1 Q) : xr_SI l yX8_floorMod wsX8_floorMod rm_X8_floorMod [.int a0, .int a1] Q := by
  refine xr_eSI (cc := cX8_floorMod) (nL := 2) (ret := (some .int)) (own := RX8) (by decide) rfl rfl (Nat.le_of_ble_eq_true rfl) ?_
  intro p e s m args below meth c ls fx hl
  have hl : lv_has ls 2 [(0, .int a0), (1, .int a1)] := hl
  show W p l e rm_X8_floorMod s m args below meth c s.heap [] 0 0 _ _
  obtain ⟨⟨hx, hb, hml, hown, hts⟩, hrt, hlk⟩ := id fx
  have hf : 0 ≤ rm_X8_floorMod.cells ∧ 0 ≤ rm_X8_floorMod.slots := ⟨Nat.zero_le _, Nat.zero_le _⟩
  unfold wp_X8_floorMod at h
  refine lv_iload_n hx hb dX8_floorMod_0 rfl (lv_at hl 0 rfl) ?_
  refine lv_iload_n hx hb dX8_floorMod_1 rfl (lv_at hl 1 rfl) ?_
  obtain ⟨hz1, h⟩ := h
  refine lv_irem hx hb dX8_floorMod_2 hz1 ?_
  refine lv_iload_n hx hb dX8_floorMod_3 rfl (lv_at hl 1 rfl) ?_
  refine lv_iadd hx hb dX8_floorMod_4 ?_
  refine lv_iload_n hx hb dX8_floorMod_5 rfl (lv_at hl 1 rfl) ?_
  obtain ⟨hz2, h⟩ := h
  refine lv_irem hx hb dX8_floorMod_6 hz2 ?_
  exact xr_rSI fx h dX8_floorMod_7
abbrev rm_X8_letterAt : Room := { frames := 0, cells := 0, slots := 0, locals := 0 }
theorem in_X8_letterAt : ∀ w ∈ wsX80, w ∈ wsX8_letterAt := by decide +kernel
set_option maxHeartbeats 4000000 in
set_option maxRecDepth 100000 in
theorem ct_X8_letterAt (l : Launch) (D : va_G) (ad : Nat → Nat) (cI cJ cR : ClassId) {S : ms_T} {a1 : Int32} {a2 : Int32} {Q : Int32 → ms_T → Prop} (h : wp_X8_letterAt S a1 a2 Q) : xr_I l D (ms_ty cI cJ cR) (ms_w ad cI cJ) yX8_letterAt wsX8_letterAt rm_X8_letterAt [.ref (ad 0), .int a1, .int a2] S Q := by
  refine xr_eI (cc := cX8_letterAt) (nL := 3) (ret := (some .int)) (own := RX8) (by decide) rfl rfl (Nat.le_of_ble_eq_true rfl) ?_
  intro p e s m args below meth c ls A fx hK hA hP hD hS hl
  have hl : lv_has ls 3 [(0, .ref (ad 0)), (1, .int a1), (2, .int a2)] := hl
  show W p l e rm_X8_letterAt s m args below meth c s.heap [] 0 0 _ _
  obtain ⟨⟨hx, hb, hml, hown, hts⟩, hrt, hlk⟩ := id fx
  have hf : 0 ≤ rm_X8_letterAt.cells ∧ 0 ≤ rm_X8_letterAt.slots := ⟨Nat.zero_le _, Nat.zero_le _⟩
  unfold wp_X8_letterAt at h
  refine lv_iload_n hx hb dX8_letterAt_0 rfl (lv_at hl 1 rfl) ?_
  refine lv_aload_n hx hb dX8_letterAt_1 rfl (lv_at hl 0 rfl) ?_
  refine ms_get 4 (v := .ref (ad 2)) fx in_X8_letterAt (by decide) rfl (by decide +kernel) rfl hK hP dX8_letterAt_2 ?_
  refine lv_aload_n hx hb dX8_letterAt_5 rfl (lv_at hl 0 rfl) ?_
  refine ms_get 5 (v := .ref (ad 3)) fx in_X8_letterAt (by decide) rfl (by decide +kernel) rfl hK hP dX8_letterAt_6 ?_
  refine lv_iload_n hx hb dX8_letterAt_9 rfl (lv_at hl 1 rfl) ?_
  obtain ⟨hi1, h⟩ := h
  refine ms_iald 2 (by decide) fx hK hP rfl hi1 dX8_letterAt_10 ?_
  obtain ⟨hi2, h⟩ := h
  refine ms_iald 1 (by decide) fx hK hP rfl hi2 dX8_letterAt_11 ?_
  refine lv_isub hx hb dX8_letterAt_12 ?_
  refine lv_aload_n hx hb dX8_letterAt_13 rfl (lv_at hl 0 rfl) ?_
  refine ms_get 3 (v := .ref (ad 1)) fx in_X8_letterAt (by decide) rfl (by decide +kernel) rfl hK hP dX8_letterAt_14 ?_
  refine lv_aload_n hx hb dX8_letterAt_17 rfl (lv_at hl 0 rfl) ?_
  refine ms_get 5 (v := .ref (ad 3)) fx in_X8_letterAt (by decide) rfl (by decide +kernel) rfl hK hP dX8_letterAt_18 ?_
  refine lv_iload_n hx hb dX8_letterAt_21 rfl (lv_at hl 1 rfl) ?_
  obtain ⟨hi3, h⟩ := h
  refine ms_iald 2 (by decide) fx hK hP rfl hi3 dX8_letterAt_22 ?_
  refine lv_iconst (v := 1) hx hb dX8_letterAt_23 (by decide) ?_
  refine lv_isub hx hb dX8_letterAt_24 ?_
  refine lv_iload_n hx hb dX8_letterAt_25 rfl (lv_at hl 2 rfl) ?_
  refine lv_isub hx hb dX8_letterAt_26 ?_
  obtain ⟨hi4, h⟩ := h
  refine ms_iald 0 (by decide) fx hK hP rfl hi4 dX8_letterAt_27 ?_
  obtain ⟨hz5, h⟩ := h
  refine lv_idiv hx hb dX8_letterAt_28 hz5 ?_
  refine lv_aload_n hx hb dX8_letterAt_29 rfl (lv_at hl 0 rfl) ?_
  refine ms_get 0 (v := .int (S.1 0)) fx in_X8_letterAt (by decide) rfl (by decide +kernel) rfl hK hP dX8_letterAt_30 ?_
  obtain ⟨hz6, h⟩ := h
  refine lv_irem hx hb dX8_letterAt_33 hz6 ?_
  exact xr_rI fx hK hP hD hS h dX8_letterAt_34
abbrev rm_X8_end : Room := { frames := 0, cells := 0, slots := 0, locals := 0 }
theorem in_X8_end : ∀ w ∈ wsX80, w ∈ wsX8_end := by decide +kernel
set_option maxHeartbeats 4000000 in
set_option maxRecDepth 100000 in
theorem ct_X8_end (l : Launch) (D : va_G) (ad : Nat → Nat) (cI cJ cR : ClassId) {S : ms_T} {a1 : Int32} {a2 : Int32} {Q : Int32 → ms_T → Prop} (h : wp_X8_end S a1 a2 Q) : xr_I l D (ms_ty cI cJ cR) (ms_w ad cI cJ) yX8_end wsX8_end rm_X8_end [.ref (ad 0), .int a1, .int a2] S Q := by
  refine xr_eI (cc := cX8_end) (nL := 4) (ret := (some .int)) (own := RX8) (by decide) rfl rfl (Nat.le_of_ble_eq_true rfl) ?_
  intro p e s m args below meth c ls A fx hK hA hP hD hS hl
  have hl : lv_has ls 4 [(0, .ref (ad 0)), (1, .int a1), (2, .int a2)] := hl
  show W p l e rm_X8_end s m args below meth c s.heap [] 0 0 _ _
  obtain ⟨⟨hx, hb, hml, hown, hts⟩, hrt, hlk⟩ := id fx
  have hf : 0 ≤ rm_X8_end.cells ∧ 0 ≤ rm_X8_end.slots := ⟨Nat.zero_le _, Nat.zero_le _⟩
  unfold wp_X8_end at h
  refine lv_aload_n hx hb dX8_end_0 rfl (lv_at hl 0 rfl) ?_
  refine ms_get 5 (v := .ref (ad 3)) fx in_X8_end (by decide) rfl (by decide +kernel) rfl hK hP dX8_end_1 ?_
  refine lv_iload_n hx hb dX8_end_4 rfl (lv_at hl 1 rfl) ?_
  obtain ⟨hi1, h⟩ := h
  refine ms_iald 2 (by decide) fx hK hP rfl hi1 dX8_end_5 ?_
  refine lv_iload_n hx hb dX8_end_6 rfl (lv_at hl 2 rfl) ?_
  refine lv_isub hx hb dX8_end_7 ?_
  refine lv_topi (fun v3_2 ev3_2 => ?_)
  have h := h v3_2 ev3_2
  refine lv_istore_n (lv' := [(3, .int v3_2), (0, .ref (ad 0)), (1, .int a1), (2, .int a2)]) hx hb dX8_end_8 rfl hl (by decide) rfl (fun ls hl => ?_)
  refine lv_aload_n hx hb dX8_end_9 rfl (lv_at hl 1 rfl) ?_
  refine ms_get 4 (v := .ref (ad 2)) fx in_X8_end (by decide) rfl (by decide +kernel) rfl hK hP dX8_end_10 ?_
  refine lv_iload_n hx hb dX8_end_13 rfl (lv_at hl 0 rfl) ?_
  obtain ⟨hi3, h⟩ := h
  refine ms_iald 1 (by decide) fx hK hP rfl hi3 dX8_end_14 ?_
  refine lv_iload_n hx hb dX8_end_15 rfl (lv_at hl 2 rfl) ?_
  refine lv_aload_n hx hb dX8_end_16 rfl (lv_at hl 1 rfl) ?_
  refine ms_get 4 (v := .ref (ad 2)) fx in_X8_end (by decide) rfl (by decide +kernel) rfl hK hP dX8_end_17 ?_
  refine lv_aload_n hx hb dX8_end_20 rfl (lv_at hl 1 rfl) ?_
  refine ms_get 5 (v := .ref (ad 3)) fx in_X8_end (by decide) rfl (by decide +kernel) rfl hK hP dX8_end_21 ?_
  refine lv_iload_n hx hb dX8_end_24 rfl (lv_at hl 2 rfl) ?_
  obtain ⟨hi4, h⟩ := h
  refine ms_iald 2 (by decide) fx hK hP rfl hi4 dX8_end_25 ?_
  obtain ⟨hi5, h⟩ := h
  refine ms_iald 1 (by decide) fx hK hP rfl hi5 dX8_end_26 ?_
  refine lv_isub hx hb dX8_end_27 ?_
  refine lv_aload_n hx hb dX8_end_28 rfl (lv_at hl 1 rfl) ?_
  refine ms_get 3 (v := .ref (ad 1)) fx in_X8_end (by decide) rfl (by decide +kernel) rfl hK hP dX8_end_29 ?_
  refine lv_iload_n hx hb dX8_end_32 rfl (lv_at hl 0 rfl) ?_
  obtain ⟨hi6, h⟩ := h
  refine ms_iald 0 (by decide) fx hK hP rfl hi6 dX8_end_33 ?_
  obtain ⟨hz7, h⟩ := h
  refine lv_irem hx hb dX8_end_34 hz7 ?_
  refine lv_iadd hx hb dX8_end_35 ?_
  exact xr_rI fx hK hP hD hS h dX8_end_36
abbrev rm_X8_beginning : Room := { frames := 0, cells := 0, slots := 0, locals := 0 }
theorem in_X8_beginning : ∀ w ∈ wsX80, w ∈ wsX8_beginning := by decide +kernel
set_option maxHeartbeats 4000000 in
set_option maxRecDepth 100000 in
theorem ct_X8_beginning (l : Launch) (D : va_G) (ad : Nat → Nat) (cI cJ cR : ClassId) {S : ms_T} {a1 : Int32} {a2 : Int32} {Q : Int32 → ms_T → Prop} (h : wp_X8_beginning S a1 a2 Q) : xr_I l D (ms_ty cI cJ cR) (ms_w ad cI cJ) yX8_beginning wsX8_beginning rm_X8_beginning [.ref (ad 0), .int a1, .int a2] S Q := by
  refine xr_eI (cc := cX8_beginning) (nL := 3) (ret := (some .int)) (own := RX8) (by decide) rfl rfl (Nat.le_of_ble_eq_true rfl) ?_
  intro p e s m args below meth c ls A fx hK hA hP hD hS hl
  have hl : lv_has ls 3 [(0, .ref (ad 0)), (1, .int a1), (2, .int a2)] := hl
  show W p l e rm_X8_beginning s m args below meth c s.heap [] 0 0 _ _
  obtain ⟨⟨hx, hb, hml, hown, hts⟩, hrt, hlk⟩ := id fx
  have hf : 0 ≤ rm_X8_beginning.cells ∧ 0 ≤ rm_X8_beginning.slots := ⟨Nat.zero_le _, Nat.zero_le _⟩
  unfold wp_X8_beginning at h
  refine lv_aload_n hx hb dX8_beginning_0 rfl (lv_at hl 0 rfl) ?_
  refine ms_get 4 (v := .ref (ad 2)) fx in_X8_beginning (by decide) rfl (by decide +kernel) rfl hK hP dX8_beginning_1 ?_
  refine lv_iload_n hx hb dX8_beginning_4 rfl (lv_at hl 2 rfl) ?_
  obtain ⟨hi1, h⟩ := h
  refine ms_iald 1 (by decide) fx hK hP rfl hi1 dX8_beginning_5 ?_
  refine lv_iload_n hx hb dX8_beginning_6 rfl (lv_at hl 1 rfl) ?_
  refine lv_aload_n hx hb dX8_beginning_7 rfl (lv_at hl 0 rfl) ?_
  refine ms_get 4 (v := .ref (ad 2)) fx in_X8_beginning (by decide) rfl (by decide +kernel) rfl hK hP dX8_beginning_8 ?_
  refine lv_aload_n hx hb dX8_beginning_11 rfl (lv_at hl 0 rfl) ?_
  refine ms_get 5 (v := .ref (ad 3)) fx in_X8_beginning (by decide) rfl (by decide +kernel) rfl hK hP dX8_beginning_12 ?_
  refine lv_iload_n hx hb dX8_beginning_15 rfl (lv_at hl 1 rfl) ?_
  obtain ⟨hi2, h⟩ := h
  refine ms_iald 2 (by decide) fx hK hP rfl hi2 dX8_beginning_16 ?_
  obtain ⟨hi3, h⟩ := h
  refine ms_iald 1 (by decide) fx hK hP rfl hi3 dX8_beginning_17 ?_
  refine lv_isub hx hb dX8_beginning_18 ?_
  refine lv_aload_n hx hb dX8_beginning_19 rfl (lv_at hl 0 rfl) ?_
  refine ms_get 3 (v := .ref (ad 1)) fx in_X8_beginning (by decide) rfl (by decide +kernel) rfl hK hP dX8_beginning_20 ?_
  refine lv_aload_n hx hb dX8_beginning_23 rfl (lv_at hl 0 rfl) ?_
  refine ms_get 5 (v := .ref (ad 3)) fx in_X8_beginning (by decide) rfl (by decide +kernel) rfl hK hP dX8_beginning_24 ?_
  refine lv_iload_n hx hb dX8_beginning_27 rfl (lv_at hl 1 rfl) ?_
  obtain ⟨hi4, h⟩ := h
  refine ms_iald 2 (by decide) fx hK hP rfl hi4 dX8_beginning_28 ?_
  refine lv_iload_n hx hb dX8_beginning_29 rfl (lv_at hl 2 rfl) ?_
  refine lv_isub hx hb dX8_beginning_30 ?_
  obtain ⟨hi5, h⟩ := h
  refine ms_iald 0 (by decide) fx hK hP rfl hi5 dX8_beginning_31 ?_
  obtain ⟨hz6, h⟩ := h
  refine lv_idiv hx hb dX8_beginning_32 hz6 ?_
  refine lv_iadd hx hb dX8_beginning_33 ?_
  exact xr_rI fx hK hP hD hS h dX8_beginning_34
abbrev rm_X8_isAhead : Room := { frames := 1, cells := 0, slots := 0, locals := 22 }
theorem in_X8_isAhead : ∀ w ∈ wsX80, w ∈ wsX8_isAhead := by decide +kernel
set_option maxHeartbeats 4000000 in
set_option maxRecDepth 100000 in
theorem kw_X8_isAhead_59 {p : Program} {l : Launch} {e : Env} {s : State} {m : MethodId} {args : Array Value} {below : List Frame} {meth : Method} {c : Code} {D : va_G} {ad : Nat → Nat} {cI cJ cR : ClassId} {A : Nat → Prop}  {Q : Int32 → ms_T → Prop} {S : ms_T} {v1 : Int32} {v2 : Int32} (fx : xr_Fx p m c meth cX8_isAhead 5 s args wsX8_isAhead RX8 (some .boolean)) (hK : xr_K D (ms_ty cI cJ cR) s) (hA : ∀ q, s.heap.size ≤ q → A q)  {H : Heap} {locs : List Loc} {ls : Array Slot} (hP : va_P D vwCl (ms_w ad cI cJ S) H) (hD : va_D A (ms_w ad cI cJ S)) (hS : va_S A s.heap H locs) (hl : lv_has ls 5 [(0, .ref (ad 0)), (1, .int v1), (2, .int v2)]) (h : wp_X8_isAhead_59 Q S v1 v2) : W p l e rm_X8_isAhead s m args below meth c H locs 0 0 (MQ below (va_Qi Q (xr_B D (ms_ty cI cJ cR) (ms_w ad cI cJ) A) A) args s 0 0 A) (F0 m 59 ls []) := by
  obtain ⟨⟨hx, hb, hml, hown, hts⟩, hrt, hlk⟩ := id fx
  have hf : 0 ≤ rm_X8_isAhead.cells ∧ 0 ≤ rm_X8_isAhead.slots := ⟨Nat.zero_le _, Nat.zero_le _⟩
  unfold wp_X8_isAhead_59 at h
  refine lv_aload_n hx hb dX8_isAhead_59 rfl (lv_at hl 0 rfl) ?_
  refine ms_get 5 (v := .ref (ad 3)) fx in_X8_isAhead (by decide) rfl (by decide +kernel) rfl hK hP dX8_isAhead_60 ?_
  refine lv_iload_n hx hb dX8_isAhead_63 rfl (lv_at hl 1 rfl) ?_
  obtain ⟨hi1, h⟩ := h
  refine ms_iald 2 (by decide) fx hK hP rfl hi1 dX8_isAhead_64 ?_
  refine lv_aload_n hx hb dX8_isAhead_65 rfl (lv_at hl 0 rfl) ?_
  refine ms_get 5 (v := .ref (ad 3)) fx in_X8_isAhead (by decide) rfl (by decide +kernel) rfl hK hP dX8_isAhead_66 ?_
  refine lv_iload_n hx hb dX8_isAhead_69 rfl (lv_at hl 2 rfl) ?_
  obtain ⟨hi2, h⟩ := h
  refine ms_iald 2 (by decide) fx hK hP rfl hi2 dX8_isAhead_70 ?_
  refine lv_icmp_ge (tgt := 78) hx hb dX8_isAhead_71 (by decide) (fun c71 => ?_) (fun c71 => ?_)
  · have h := h.1 c71
    refine lv_iconst (v := 0) hx hb dX8_isAhead_78 (by decide) ?_
    exact xr_rZ fx rfl hK hP hD hS h dX8_isAhead_79
  · have h := h.2 c71
    refine lv_iconst (v := 1) hx hb dX8_isAhead_74 (by decide) ?_
    refine lv_goto (tgt := 79) hx hb dX8_isAhead_75 (by decide) ?_
    exact xr_rZ fx rfl hK hP hD hS h dX8_isAhead_79
set_option maxHeartbeats 4000000 in
set_option maxRecDepth 100000 in
theorem kb_X8_isAhead_2 {p : Program} {l : Launch} {e : Env} {s : State} {m : MethodId} {args : Array Value} {below : List Frame} {meth : Method} {c : Code} {D : va_G} {ad : Nat → Nat} {cI cJ cR : ClassId} {A : Nat → Prop}  {K2 : ms_T → Int32 → Int32 → Int32 → Prop} {Q : Int32 → ms_T → Prop} {S : ms_T} {v1 : Int32} {v2 : Int32} {v3 : Int32} (fx : xr_Fx p m c meth cX8_isAhead 5 s args wsX8_isAhead RX8 (some .boolean)) (hK : xr_K D (ms_ty cI cJ cR) s) (hA : ∀ q, s.heap.size ≤ q → A q)  (k2 : ∀ (S : ms_T) (v1 : Int32) (v2 : Int32) (v3 : Int32) {H : Heap} {locs : List Loc} {ls : Array Slot}, va_P D vwCl (ms_w ad cI cJ S) H → va_D A (ms_w ad cI cJ S) → va_S A s.heap H locs → lv_has ls 5 [(0, .ref (ad 0)), (1, .int v1), (2, .int v2), (3, .int v3)] → K2 S v1 v2 v3 → W p l e rm_X8_isAhead s m args below meth c H locs 0 0 (MQ below (va_Qi Q (xr_B D (ms_ty cI cJ cR) (ms_w ad cI cJ) A) A) args s 0 0 A) (F0 m 2 ls [])) {H : Heap} {locs : List Loc} {ls : Array Slot} (hP : va_P D vwCl (ms_w ad cI cJ S) H) (hD : va_D A (ms_w ad cI cJ S)) (hS : va_S A s.heap H locs) (hl : lv_has ls 5 [(0, .ref (ad 0)), (1, .int v1), (2, .int v2), (3, .int v3)]) (h : wb_X8_isAhead_2 K2 Q S v1 v2 v3) : W p l e rm_X8_isAhead s m args below meth c H locs 0 0 (MQ below (va_Qi Q (xr_B D (ms_ty cI cJ cR) (ms_w ad cI cJ) A) A) args s 0 0 A) (F0 m 2 ls []) := by
  obtain ⟨⟨hx, hb, hml, hown, hts⟩, hrt, hlk⟩ := id fx
  have hf : 0 ≤ rm_X8_isAhead.cells ∧ 0 ≤ rm_X8_isAhead.slots := ⟨Nat.zero_le _, Nat.zero_le _⟩
  unfold wb_X8_isAhead_2 at h
  refine lv_iload_n hx hb dX8_isAhead_2 rfl (lv_at hl 3 rfl) ?_
  refine lv_aload_n hx hb dX8_isAhead_3 rfl (lv_at hl 0 rfl) ?_
  refine ms_get 5 (v := .ref (ad 3)) fx in_X8_isAhead (by decide) rfl (by decide +kernel) rfl hK hP dX8_isAhead_4 ?_
  refine lv_iload_n hx hb dX8_isAhead_7 rfl (lv_at hl 1 rfl) ?_
  obtain ⟨hi3, h⟩ := h
  refine ms_iald 2 (by decide) fx hK hP rfl hi3 dX8_isAhead_8 ?_
  refine lv_icmp_ge (tgt := 59) hx hb dX8_isAhead_9 (by decide) (fun c9 => ?_) (fun c9 => ?_)
  · have h := h.1 c9
    exact kw_X8_isAhead_59 fx hK hA hP hD hS (lv_sub hl [0, 1, 2] rfl) h
  · have h := h.2 c9
    refine lv_iload_n hx hb dX8_isAhead_12 rfl (lv_at hl 3 rfl) ?_
    refine lv_aload_n hx hb dX8_isAhead_13 rfl (lv_at hl 0 rfl) ?_
    refine ms_get 5 (v := .ref (ad 3)) fx in_X8_isAhead (by decide) rfl (by decide +kernel) rfl hK hP dX8_isAhead_14 ?_
    refine lv_iload_n hx hb dX8_isAhead_17 rfl (lv_at hl 2 rfl) ?_
    obtain ⟨hi4, h⟩ := h
    refine ms_iald 2 (by decide) fx hK hP rfl hi4 dX8_isAhead_18 ?_
    refine lv_icmp_ge (tgt := 59) hx hb dX8_isAhead_19 (by decide) (fun c19 => ?_) (fun c19 => ?_)
    · have h := h.1 c19
      exact kw_X8_isAhead_59 fx hK hA hP hD hS (lv_sub hl [0, 1, 2] rfl) h
    · have h := h.2 c19
      refine lv_aload_n hx hb dX8_isAhead_22 rfl (lv_at hl 0 rfl) ?_
      refine lv_iload_n hx hb dX8_isAhead_23 rfl (lv_at hl 1 rfl) ?_
      refine lv_iload_n hx hb dX8_isAhead_24 rfl (lv_at hl 3 rfl) ?_
      refine xr_vI (n := 2) (As := [.int v1, .int v3]) (rest := []) fx (ct_X8_letterAt l D ad cI cJ cR h) gX8_isAhead_X8_letterAt rfl rfl (by decide +kernel) ⟨Nat.le_of_ble_eq_true rfl, Nat.le_of_ble_eq_true rfl⟩ ⟨rfl, rfl⟩ hf (ms_recv hK hP) hK hP hD hS hA hl.1 rfl (Nat.le_of_ble_eq_true rfl) dX8_isAhead_25 (fun r6 S5 H locs h hP hD hS => ?_)
      refine lv_aload_n hx hb dX8_isAhead_28 rfl (lv_at hl 0 rfl) ?_
      refine lv_iload_n hx hb dX8_isAhead_29 rfl (lv_at hl 2 rfl) ?_
      refine lv_iload_n hx hb dX8_isAhead_30 rfl (lv_at hl 3 rfl) ?_
      refine xr_vI (n := 2) (As := [.int v2, .int v3]) (rest := [.int r6]) fx (ct_X8_letterAt l D ad cI cJ cR h) gX8_isAhead_X8_letterAt rfl rfl (by decide +kernel) ⟨Nat.le_of_ble_eq_true rfl, Nat.le_of_ble_eq_true rfl⟩ ⟨rfl, rfl⟩ hf (ms_recv hK hP) hK hP hD hS hA hl.1 rfl (Nat.le_of_ble_eq_true rfl) dX8_isAhead_31 (fun r8 S7 H locs h hP hD hS => ?_)
      refine lv_isub hx hb dX8_isAhead_34 ?_
      refine lv_topi (fun v4_9 ev4_9 => ?_)
      have h := h v4_9 ev4_9
      refine lv_istore (lv' := [(4, .int v4_9), (0, .ref (ad 0)), (1, .int v1), (2, .int v2), (3, .int v3)]) hx hb dX8_isAhead_35 hl (by decide) rfl (fun ls hl => ?_)
      refine lv_iload hx hb dX8_isAhead_37 (lv_at hl 0 rfl) ?_
      refine lv_if_eq (tgt := 53) hx hb dX8_isAhead_39 (by decide) (fun c39 => ?_) (fun c39 => ?_)
      · have h := h.1 c39
        obtain ⟨v3_10, ev3_10⟩ : ∃ z : Int32, z = v3 + 1 := ⟨_, rfl⟩
        have h := h v3_10 ev3_10
        refine lv_iinc (v := v3_10) (lv' := [(3, .int v3_10), (4, .int v4_9), (0, .ref (ad 0)), (1, .int v1), (2, .int v2)]) hx hb dX8_isAhead_53 hl (k := 4) rfl (by rw [ev3_10]; rfl) (by decide) rfl (fun ls hl => ?_)
        refine lv_goto (tgt := 2) hx hb dX8_isAhead_56 (by decide) ?_
        exact k2 _ _ _ _ hP hD hS (lv_sub hl [2, 3, 4, 0] rfl) h
      · have h := h.2 c39
        refine lv_iload hx hb dX8_isAhead_42 (lv_at hl 0 rfl) ?_
        refine lv_if_ge (tgt := 51) hx hb dX8_isAhead_44 (by decide) (fun c44 => ?_) (fun c44 => ?_)
        · have h := h.1 c44
          refine lv_iconst (v := 0) hx hb dX8_isAhead_51 (by decide) ?_
          exact xr_rZ fx rfl hK hP hD hS h dX8_isAhead_52
        · have h := h.2 c44
          refine lv_iconst (v := 1) hx hb dX8_isAhead_47 (by decide) ?_
          refine lv_goto (tgt := 52) hx hb dX8_isAhead_48 (by decide) ?_
          exact xr_rZ fx rfl hK hP hD hS h dX8_isAhead_52
theorem kw_X8_isAhead_2 {p : Program} {l : Launch} {e : Env} {s : State} {m : MethodId} {args : Array Value} {below : List Frame} {meth : Method} {c : Code} {D : va_G} {ad : Nat → Nat} {cI cJ cR : ClassId} {A : Nat → Prop}  {Q : Int32 → ms_T → Prop} (fx : xr_Fx p m c meth cX8_isAhead 5 s args wsX8_isAhead RX8 (some .boolean)) (hK : xr_K D (ms_ty cI cJ cR) s) (hA : ∀ q, s.heap.size ≤ q → A q)  : ∀ (n : Nat) (S : ms_T) (v1 : Int32) (v2 : Int32) (v3 : Int32) {H : Heap} {locs : List Loc} {ls : Array Slot}, va_P D vwCl (ms_w ad cI cJ S) H → va_D A (ms_w ad cI cJ S) → va_S A s.heap H locs → lv_has ls 5 [(0, .ref (ad 0)), (1, .int v1), (2, .int v2), (3, .int v3)] → wp_X8_isAhead_2 Q n S v1 v2 v3 → W p l e rm_X8_isAhead s m args below meth c H locs 0 0 (MQ below (va_Qi Q (xr_B D (ms_ty cI cJ cR) (ms_w ad cI cJ) A) A) args s 0 0 A) (F0 m 2 ls []) := by
  intro n
  induction n with
  | zero => intro S v1 v2 v3 H locs ls hP hD hS hl h; exact False.elim h
  | succ n ih => intro S v1 v2 v3 H locs ls hP hD hS hl h; exact kb_X8_isAhead_2 fx hK hA ih hP hD hS hl h
set_option maxHeartbeats 4000000 in
set_option maxRecDepth 100000 in
theorem ct_X8_isAhead (l : Launch) (D : va_G) (ad : Nat → Nat) (cI cJ cR : ClassId) {S : ms_T} {a1 : Int32} {a2 : Int32} {Q : Int32 → ms_T → Prop} (h : wp_X8_isAhead S a1 a2 Q) : xr_I l D (ms_ty cI cJ cR) (ms_w ad cI cJ) yX8_isAhead wsX8_isAhead rm_X8_isAhead [.ref (ad 0), .int a1, .int a2] S Q := by
  refine xr_eI (cc := cX8_isAhead) (nL := 5) (ret := (some .boolean)) (own := RX8) (by decide) rfl rfl (Nat.le_of_ble_eq_true rfl) ?_
  intro p e s m args below meth c ls A fx hK hA hP hD hS hl
  have hl : lv_has ls 5 [(0, .ref (ad 0)), (1, .int a1), (2, .int a2)] := hl
  show W p l e rm_X8_isAhead s m args below meth c s.heap [] 0 0 _ _
  obtain ⟨⟨hx, hb, hml, hown, hts⟩, hrt, hlk⟩ := id fx
  have hf : 0 ≤ rm_X8_isAhead.cells ∧ 0 ≤ rm_X8_isAhead.slots := ⟨Nat.zero_le _, Nat.zero_le _⟩
  unfold wp_X8_isAhead at h
  refine lv_iconst (v := 0) hx hb dX8_isAhead_0 (by decide) ?_
  refine lv_istore_n (lv' := [(3, .int 0), (0, .ref (ad 0)), (1, .int a1), (2, .int a2)]) hx hb dX8_isAhead_1 rfl hl (by decide) rfl (fun ls hl => ?_)
  obtain ⟨n, h⟩ := h
  exact kw_X8_isAhead_2 fx hK hA n _ _ _ _ hP hD hS (lv_sub hl [1, 2, 3, 0] rfl) h
abbrev rm_X8_isChief : Room := { frames := 2, cells := 0, slots := 0, locals := 46 }
theorem in_X8_isChief : ∀ w ∈ wsX80, w ∈ wsX8_isChief := by decide +kernel
set_option maxHeartbeats 4000000 in
set_option maxRecDepth 100000 in
theorem kb_X8_isChief_2 {p : Program} {l : Launch} {e : Env} {s : State} {m : MethodId} {args : Array Value} {below : List Frame} {meth : Method} {c : Code} {D : va_G} {ad : Nat → Nat} {cI cJ cR : ClassId} {A : Nat → Prop}  {K2 : ms_T → Int32 → Int32 → Prop} {Q : Int32 → ms_T → Prop} {S : ms_T} {v1 : Int32} {v2 : Int32} (fx : xr_Fx p m c meth cX8_isChief 3 s args wsX8_isChief RX8 (some .boolean)) (hK : xr_K D (ms_ty cI cJ cR) s) (hA : ∀ q, s.heap.size ≤ q → A q)  (k2 : ∀ (S : ms_T) (v1 : Int32) (v2 : Int32) {H : Heap} {locs : List Loc} {ls : Array Slot}, va_P D vwCl (ms_w ad cI cJ S) H → va_D A (ms_w ad cI cJ S) → va_S A s.heap H locs → lv_has ls 3 [(0, .ref (ad 0)), (1, .int v1), (2, .int v2)] → K2 S v1 v2 → W p l e rm_X8_isChief s m args below meth c H locs 0 0 (MQ below (va_Qi Q (xr_B D (ms_ty cI cJ cR) (ms_w ad cI cJ) A) A) args s 0 0 A) (F0 m 2 ls [])) {H : Heap} {locs : List Loc} {ls : Array Slot} (hP : va_P D vwCl (ms_w ad cI cJ S) H) (hD : va_D A (ms_w ad cI cJ S)) (hS : va_S A s.heap H locs) (hl : lv_has ls 3 [(0, .ref (ad 0)), (1, .int v1), (2, .int v2)]) (h : wb_X8_isChief_2 K2 Q S v1 v2) : W p l e rm_X8_isChief s m args below meth c H locs 0 0 (MQ below (va_Qi Q (xr_B D (ms_ty cI cJ cR) (ms_w ad cI cJ) A) A) args s 0 0 A) (F0 m 2 ls []) := by
  obtain ⟨⟨hx, hb, hml, hown, hts⟩, hrt, hlk⟩ := id fx
  have hf : 0 ≤ rm_X8_isChief.cells ∧ 0 ≤ rm_X8_isChief.slots := ⟨Nat.zero_le _, Nat.zero_le _⟩
  unfold wb_X8_isChief_2 at h
  refine lv_iload_n hx hb dX8_isChief_2 rfl (lv_at hl 2 rfl) ?_
  refine lv_aload_n hx hb dX8_isChief_3 rfl (lv_at hl 0 rfl) ?_
  refine ms_get 5 (v := .ref (ad 3)) fx in_X8_isChief (by decide) rfl (by decide +kernel) rfl hK hP dX8_isChief_4 ?_
  refine lv_iload_n hx hb dX8_isChief_7 rfl (lv_at hl 1 rfl) ?_
  obtain ⟨hi1, h⟩ := h
  refine ms_iald 2 (by decide) fx hK hP rfl hi1 dX8_isChief_8 ?_
  refine lv_icmp_ge (tgt := 34) hx hb dX8_isChief_9 (by decide) (fun c9 => ?_) (fun c9 => ?_)
  · have h := h.1 c9
    refine lv_iconst (v := 1) hx hb dX8_isChief_34 (by decide) ?_
    exact xr_rZ fx rfl hK hP hD hS h dX8_isChief_35
  · have h := h.2 c9
    refine lv_aload_n hx hb dX8_isChief_12 rfl (lv_at hl 0 rfl) ?_
    refine lv_iload_n hx hb dX8_isChief_13 rfl (lv_at hl 1 rfl) ?_
    refine lv_aload_n hx hb dX8_isChief_14 rfl (lv_at hl 0 rfl) ?_
    refine lv_iload_n hx hb dX8_isChief_15 rfl (lv_at hl 1 rfl) ?_
    refine lv_iload_n hx hb dX8_isChief_16 rfl (lv_at hl 2 rfl) ?_
    refine xr_vI (n := 2) (As := [.int v1, .int v2]) (rest := [.int v1, .ref (ad 0)]) fx (ct_X8_end l D ad cI cJ cR h) gX8_isChief_X8_end rfl rfl (by decide +kernel) ⟨Nat.le_of_ble_eq_true rfl, Nat.le_of_ble_eq_true rfl⟩ ⟨rfl, rfl⟩ hf (ms_recv hK hP) hK hP hD hS hA hl.1 rfl (Nat.le_of_ble_eq_true rfl) dX8_isChief_17 (fun r3 S2 H locs h hP hD hS => ?_)
    refine xr_vI (n := 2) (As := [.int v1, .int r3]) (rest := []) fx (ct_X8_isAhead l D ad cI cJ cR h) gX8_isChief_X8_isAhead rfl rfl (by decide +kernel) ⟨Nat.le_of_ble_eq_true rfl, Nat.le_of_ble_eq_true rfl⟩ ⟨rfl, rfl⟩ hf (ms_recv hK hP) hK hP hD hS hA hl.1 rfl (Nat.le_of_ble_eq_true rfl) dX8_isChief_20 (fun r5 S4 H locs h hP hD hS => ?_)
    refine lv_if_ne (tgt := 28) hx hb dX8_isChief_23 (by decide) (fun c23 => ?_) (fun c23 => ?_)
    · have h := h.1 c23
      obtain ⟨v2_6, ev2_6⟩ : ∃ z : Int32, z = v2 + 1 := ⟨_, rfl⟩
      have h := h v2_6 ev2_6
      refine lv_iinc (v := v2_6) (lv' := [(2, .int v2_6), (0, .ref (ad 0)), (1, .int v1)]) hx hb dX8_isChief_28 hl (k := 2) rfl (by rw [ev2_6]; rfl) (by decide) rfl (fun ls hl => ?_)
      refine lv_goto (tgt := 2) hx hb dX8_isChief_31 (by decide) ?_
      exact k2 _ _ _ hP hD hS (lv_sub hl [1, 2, 0] rfl) h
    · have h := h.2 c23
      refine lv_iconst (v := 0) hx hb dX8_isChief_26 (by decide) ?_
      exact xr_rZ fx rfl hK hP hD hS h dX8_isChief_27
theorem kw_X8_isChief_2 {p : Program} {l : Launch} {e : Env} {s : State} {m : MethodId} {args : Array Value} {below : List Frame} {meth : Method} {c : Code} {D : va_G} {ad : Nat → Nat} {cI cJ cR : ClassId} {A : Nat → Prop}  {Q : Int32 → ms_T → Prop} (fx : xr_Fx p m c meth cX8_isChief 3 s args wsX8_isChief RX8 (some .boolean)) (hK : xr_K D (ms_ty cI cJ cR) s) (hA : ∀ q, s.heap.size ≤ q → A q)  : ∀ (n : Nat) (S : ms_T) (v1 : Int32) (v2 : Int32) {H : Heap} {locs : List Loc} {ls : Array Slot}, va_P D vwCl (ms_w ad cI cJ S) H → va_D A (ms_w ad cI cJ S) → va_S A s.heap H locs → lv_has ls 3 [(0, .ref (ad 0)), (1, .int v1), (2, .int v2)] → wp_X8_isChief_2 Q n S v1 v2 → W p l e rm_X8_isChief s m args below meth c H locs 0 0 (MQ below (va_Qi Q (xr_B D (ms_ty cI cJ cR) (ms_w ad cI cJ) A) A) args s 0 0 A) (F0 m 2 ls []) := by
  intro n
  induction n with
  | zero => intro S v1 v2 H locs ls hP hD hS hl h; exact False.elim h
  | succ n ih => intro S v1 v2 H locs ls hP hD hS hl h; exact kb_X8_isChief_2 fx hK hA ih hP hD hS hl h
set_option maxHeartbeats 4000000 in
set_option maxRecDepth 100000 in
theorem ct_X8_isChief (l : Launch) (D : va_G) (ad : Nat → Nat) (cI cJ cR : ClassId) {S : ms_T} {a1 : Int32} {Q : Int32 → ms_T → Prop} (h : wp_X8_isChief S a1 Q) : xr_I l D (ms_ty cI cJ cR) (ms_w ad cI cJ) yX8_isChief wsX8_isChief rm_X8_isChief [.ref (ad 0), .int a1] S Q := by
  refine xr_eI (cc := cX8_isChief) (nL := 3) (ret := (some .boolean)) (own := RX8) (by decide) rfl rfl (Nat.le_of_ble_eq_true rfl) ?_
  intro p e s m args below meth c ls A fx hK hA hP hD hS hl
  have hl : lv_has ls 3 [(0, .ref (ad 0)), (1, .int a1)] := hl
  show W p l e rm_X8_isChief s m args below meth c s.heap [] 0 0 _ _
  obtain ⟨⟨hx, hb, hml, hown, hts⟩, hrt, hlk⟩ := id fx
  have hf : 0 ≤ rm_X8_isChief.cells ∧ 0 ≤ rm_X8_isChief.slots := ⟨Nat.zero_le _, Nat.zero_le _⟩
  unfold wp_X8_isChief at h
  refine lv_iconst (v := 1) hx hb dX8_isChief_0 (by decide) ?_
  refine lv_istore_n (lv' := [(2, .int 1), (0, .ref (ad 0)), (1, .int a1)]) hx hb dX8_isChief_1 rfl hl (by decide) rfl (fun ls hl => ?_)
  obtain ⟨n, h⟩ := h
  exact kw_X8_isChief_2 fx hK hA n _ _ _ hP hD hS (lv_sub hl [1, 2, 0] rfl) h
abbrev rm_X8_brackets : Room := { frames := 1, cells := 0, slots := 0, locals := 23 }
theorem in_X8_brackets : ∀ w ∈ wsX80, w ∈ wsX8_brackets := by decide +kernel
set_option maxHeartbeats 4000000 in
set_option maxRecDepth 100000 in
theorem kb_X8_brackets_3 {p : Program} {l : Launch} {e : Env} {s : State} {m : MethodId} {args : Array Value} {below : List Frame} {meth : Method} {c : Code} {D : va_G} {ad : Nat → Nat} {cI cJ cR : ClassId} {A : Nat → Prop}  {K3 : ms_T → Int32 → Int32 → Int32 → Int32 → Int32 → Int32 → Prop} {Q : ms_T → Prop} {S : ms_T} {v1 : Int32} {v2 : Int32} {v3 : Int32} {v4 : Int32} {v5 : Int32} {v6 : Int32} (fx : xr_Fx p m c meth cX8_brackets 11 s args wsX8_brackets RX8 none) (hK : xr_K D (ms_ty cI cJ cR) s) (hA : ∀ q, s.heap.size ≤ q → A q)  (k3 : ∀ (S : ms_T) (v1 : Int32) (v2 : Int32) (v3 : Int32) (v4 : Int32) (v5 : Int32) (v6 : Int32) {H : Heap} {locs : List Loc} {ls : Array Slot}, va_P D vwCl (ms_w ad cI cJ S) H → va_D A (ms_w ad cI cJ S) → va_S A s.heap H locs → lv_has ls 11 [(0, .ref (ad 0)), (1, .int v1), (2, .int v2), (3, .int v3), (4, .int v4), (5, .int v5), (6, .int v6)] → K3 S v1 v2 v3 v4 v5 v6 → W p l e rm_X8_brackets s m args below meth c H locs 0 0 (MQ below (va_Qv Q (xr_B D (ms_ty cI cJ cR) (ms_w ad cI cJ) A) A) args s 0 0 A) (F0 m 3 ls [])) {H : Heap} {locs : List Loc} {ls : Array Slot} (hP : va_P D vwCl (ms_w ad cI cJ S) H) (hD : va_D A (ms_w ad cI cJ S)) (hS : va_S A s.heap H locs) (hl : lv_has ls 11 [(0, .ref (ad 0)), (1, .int v1), (2, .int v2), (3, .int v3), (4, .int v4), (5, .int v5), (6, .int v6)]) (h : wb_X8_brackets_3 K3 Q S v1 v2 v3 v4 v5 v6) : W p l e rm_X8_brackets s m args below meth c H locs 0 0 (MQ below (va_Qv Q (xr_B D (ms_ty cI cJ cR) (ms_w ad cI cJ) A) A) args s 0 0 A) (F0 m 3 ls []) := by
  obtain ⟨⟨hx, hb, hml, hown, hts⟩, hrt, hlk⟩ := id fx
  have hf : 0 ≤ rm_X8_brackets.cells ∧ 0 ≤ rm_X8_brackets.slots := ⟨Nat.zero_le _, Nat.zero_le _⟩
  unfold wb_X8_brackets_3 at h
  refine lv_iload hx hb dX8_brackets_3 (lv_at hl 6 rfl) ?_
  refine lv_aload_n hx hb dX8_brackets_5 rfl (lv_at hl 0 rfl) ?_
  refine ms_get 3 (v := .ref (ad 1)) fx in_X8_brackets (by decide) rfl (by decide +kernel) rfl hK hP dX8_brackets_6 ?_
  refine lv_iload_n hx hb dX8_brackets_9 rfl (lv_at hl 3 rfl) ?_
  refine lv_iload hx hb dX8_brackets_10 (lv_at hl 5 rfl) ?_
  refine lv_iadd hx hb dX8_brackets_12 ?_
  obtain ⟨hi1, h⟩ := h
  refine ms_iald 0 (by decide) fx hK hP rfl hi1 dX8_brackets_13 ?_
  refine lv_icmp_ge (tgt := 122) hx hb dX8_brackets_14 (by decide) (fun c14 => ?_) (fun c14 => ?_)
  · have h := h.1 c14
    exact xr_rV fx hK hP hD hS h dX8_brackets_122
  · have h := h.2 c14
    refine lv_aload_n hx hb dX8_brackets_17 rfl (lv_at hl 0 rfl) ?_
    refine ms_get 13 (v := .ref (ad 16)) fx in_X8_brackets (by decide) rfl (by decide +kernel) rfl hK hP dX8_brackets_18 ?_
    refine lv_iload_n hx hb dX8_brackets_21 rfl (lv_at hl 2 rfl) ?_
    refine lv_iload hx hb dX8_brackets_22 (lv_at hl 6 rfl) ?_
    refine lv_aload_n hx hb dX8_brackets_24 rfl (lv_at hl 0 rfl) ?_
    refine ms_get 3 (v := .ref (ad 1)) fx in_X8_brackets (by decide) rfl (by decide +kernel) rfl hK hP dX8_brackets_25 ?_
    refine lv_iload hx hb dX8_brackets_28 (lv_at hl 5 rfl) ?_
    obtain ⟨hi2, h⟩ := h
    refine ms_iald 0 (by decide) fx hK hP rfl hi2 dX8_brackets_30 ?_
    obtain ⟨hz3, h⟩ := h
    refine lv_idiv hx hb dX8_brackets_31 hz3 ?_
    refine lv_iadd hx hb dX8_brackets_32 ?_
    obtain ⟨hi4, h⟩ := h
    refine ms_lald 1 (by decide) fx hK hP rfl hi4 dX8_brackets_33 ?_
    refine lv_aload_n hx hb dX8_brackets_34 rfl (lv_at hl 0 rfl) ?_
    refine ms_get 13 (v := .ref (ad 16)) fx in_X8_brackets (by decide) rfl (by decide +kernel) rfl hK hP dX8_brackets_35 ?_
    refine lv_iload hx hb dX8_brackets_38 (lv_at hl 4 rfl) ?_
    refine lv_iload hx hb dX8_brackets_40 (lv_at hl 6 rfl) ?_
    refine lv_aload_n hx hb dX8_brackets_42 rfl (lv_at hl 0 rfl) ?_
    refine ms_get 3 (v := .ref (ad 1)) fx in_X8_brackets (by decide) rfl (by decide +kernel) rfl hK hP dX8_brackets_43 ?_
    refine lv_iload hx hb dX8_brackets_46 (lv_at hl 5 rfl) ?_
    obtain ⟨hi5, h⟩ := h
    refine ms_iald 0 (by decide) fx hK hP rfl hi5 dX8_brackets_48 ?_
    obtain ⟨hz6, h⟩ := h
    refine lv_irem hx hb dX8_brackets_49 hz6 ?_
    refine lv_iadd hx hb dX8_brackets_50 ?_
    obtain ⟨hi7, h⟩ := h
    refine ms_lald 1 (by decide) fx hK hP rfl hi7 dX8_brackets_51 ?_
    refine lv_lmul hx hb dX8_brackets_52 ?_
    refine lv_ldc2 (v := 2147483647) hx hb hown (hts (.constantLong RX8 3 (2147483647)) (by decide +kernel)) dX8_brackets_53 ?_
    refine lv_lrem hx hb dX8_brackets_56 (by decide) ?_
    refine lv_topl (fun v7_8 ev7_8 => ?_)
    have h := h v7_8 ev7_8
    refine lv_lstore (lv' := [(7, .long v7_8), (0, .ref (ad 0)), (1, .int v1), (2, .int v2), (3, .int v3), (4, .int v4), (5, .int v5), (6, .int v6)]) hx hb dX8_brackets_57 hl (by decide) rfl (fun ls hl => ?_)
    refine lv_aload_n hx hb dX8_brackets_59 rfl (lv_at hl 1 rfl) ?_
    refine ms_get 13 (v := .ref (ad 16)) fx in_X8_brackets (by decide) rfl (by decide +kernel) rfl hK hP dX8_brackets_60 ?_
    refine lv_iload hx hb dX8_brackets_63 (lv_at hl 5 rfl) ?_
    refine lv_iload hx hb dX8_brackets_65 (lv_at hl 7 rfl) ?_
    refine lv_aload_n hx hb dX8_brackets_67 rfl (lv_at hl 1 rfl) ?_
    refine ms_get 3 (v := .ref (ad 1)) fx in_X8_brackets (by decide) rfl (by decide +kernel) rfl hK hP dX8_brackets_68 ?_
    refine lv_iload_n hx hb dX8_brackets_71 rfl (lv_at hl 4 rfl) ?_
    obtain ⟨hi9, h⟩ := h
    refine ms_iald 0 (by decide) fx hK hP rfl hi9 dX8_brackets_72 ?_
    obtain ⟨hz10, h⟩ := h
    refine lv_idiv hx hb dX8_brackets_73 hz10 ?_
    refine lv_iadd hx hb dX8_brackets_74 ?_
    obtain ⟨hi11, h⟩ := h
    refine ms_lald 1 (by decide) fx hK hP rfl hi11 dX8_brackets_75 ?_
    refine lv_aload_n hx hb dX8_brackets_76 rfl (lv_at hl 1 rfl) ?_
    refine ms_get 13 (v := .ref (ad 16)) fx in_X8_brackets (by decide) rfl (by decide +kernel) rfl hK hP dX8_brackets_77 ?_
    refine lv_iload_n hx hb dX8_brackets_80 rfl (lv_at hl 3 rfl) ?_
    refine lv_iload hx hb dX8_brackets_81 (lv_at hl 7 rfl) ?_
    refine lv_aload_n hx hb dX8_brackets_83 rfl (lv_at hl 1 rfl) ?_
    refine ms_get 3 (v := .ref (ad 1)) fx in_X8_brackets (by decide) rfl (by decide +kernel) rfl hK hP dX8_brackets_84 ?_
    refine lv_iload_n hx hb dX8_brackets_87 rfl (lv_at hl 4 rfl) ?_
    obtain ⟨hi12, h⟩ := h
    refine ms_iald 0 (by decide) fx hK hP rfl hi12 dX8_brackets_88 ?_
    obtain ⟨hz13, h⟩ := h
    refine lv_irem hx hb dX8_brackets_89 hz13 ?_
    refine lv_iadd hx hb dX8_brackets_90 ?_
    obtain ⟨hi14, h⟩ := h
    refine ms_lald 1 (by decide) fx hK hP rfl hi14 dX8_brackets_91 ?_
    refine lv_lmul hx hb dX8_brackets_92 ?_
    refine lv_ldc2 (v := 2147483647) hx hb hown (hts (.constantLong RX8 3 (2147483647)) (by decide +kernel)) dX8_brackets_93 ?_
    refine lv_lrem hx hb dX8_brackets_96 (by decide) ?_
    refine lv_topl (fun v9_15 ev9_15 => ?_)
    have h := h v9_15 ev9_15
    refine lv_lstore (lv' := [(9, .long v9_15), (7, .long v7_8), (0, .ref (ad 0)), (1, .int v1), (2, .int v2), (3, .int v3), (4, .int v4), (5, .int v5), (6, .int v6)]) hx hb dX8_brackets_97 hl (by decide) rfl (fun ls hl => ?_)
    refine lv_aload_n hx hb dX8_brackets_99 rfl (lv_at hl 2 rfl) ?_
    refine ms_get 13 (v := .ref (ad 16)) fx in_X8_brackets (by decide) rfl (by decide +kernel) rfl hK hP dX8_brackets_100 ?_
    refine lv_iload_n hx hb dX8_brackets_103 rfl (lv_at hl 3 rfl) ?_
    refine lv_iload hx hb dX8_brackets_104 (lv_at hl 8 rfl) ?_
    refine lv_iadd hx hb dX8_brackets_106 ?_
    refine lv_lload hx hb dX8_brackets_107 (lv_at hl 1 rfl) ?_
    refine lv_lload hx hb dX8_brackets_109 (lv_at hl 0 rfl) ?_
    refine lv_lsub hx hb dX8_brackets_111 ?_
    refine xr_sL (n := 1) (As := [.long (v7_8 - v9_15)]) (rest := [.int (v1 + v6), .ref (ad 16)]) fx (ct_X8_mod l h) gX8_brackets_X8_mod rfl rfl (by decide +kernel) ⟨Nat.le_of_ble_eq_true rfl, Nat.le_of_ble_eq_true rfl⟩ ⟨rfl, rfl⟩ hf hl.1 rfl (Nat.le_of_ble_eq_true rfl) dX8_brackets_112 (fun r16 h => ?_)
    obtain ⟨hi17, h⟩ := h
    refine ms_last 1 (by decide) fx hK hP hD hS rfl hi17 dX8_brackets_115 (fun H locs hP hD hS => ?_)
    obtain ⟨v6_18, ev6_18⟩ : ∃ z : Int32, z = v6 + 1 := ⟨_, rfl⟩
    have h := h v6_18 ev6_18
    refine lv_iinc (v := v6_18) (lv' := [(6, .int v6_18), (9, .long v9_15), (7, .long v7_8), (0, .ref (ad 0)), (1, .int v1), (2, .int v2), (3, .int v3), (4, .int v4), (5, .int v5)]) hx hb dX8_brackets_116 hl (k := 8) rfl (by rw [ev6_18]; rfl) (by decide) rfl (fun ls hl => ?_)
    refine lv_goto (tgt := 3) hx hb dX8_brackets_119 (by decide) ?_
    exact k3 _ _ _ _ _ _ _ hP hD hS (lv_sub hl [3, 4, 5, 6, 7, 8, 0] rfl) h
theorem kw_X8_brackets_3 {p : Program} {l : Launch} {e : Env} {s : State} {m : MethodId} {args : Array Value} {below : List Frame} {meth : Method} {c : Code} {D : va_G} {ad : Nat → Nat} {cI cJ cR : ClassId} {A : Nat → Prop}  {Q : ms_T → Prop} (fx : xr_Fx p m c meth cX8_brackets 11 s args wsX8_brackets RX8 none) (hK : xr_K D (ms_ty cI cJ cR) s) (hA : ∀ q, s.heap.size ≤ q → A q)  : ∀ (n : Nat) (S : ms_T) (v1 : Int32) (v2 : Int32) (v3 : Int32) (v4 : Int32) (v5 : Int32) (v6 : Int32) {H : Heap} {locs : List Loc} {ls : Array Slot}, va_P D vwCl (ms_w ad cI cJ S) H → va_D A (ms_w ad cI cJ S) → va_S A s.heap H locs → lv_has ls 11 [(0, .ref (ad 0)), (1, .int v1), (2, .int v2), (3, .int v3), (4, .int v4), (5, .int v5), (6, .int v6)] → wp_X8_brackets_3 Q n S v1 v2 v3 v4 v5 v6 → W p l e rm_X8_brackets s m args below meth c H locs 0 0 (MQ below (va_Qv Q (xr_B D (ms_ty cI cJ cR) (ms_w ad cI cJ) A) A) args s 0 0 A) (F0 m 3 ls []) := by
  intro n
  induction n with
  | zero => intro S v1 v2 v3 v4 v5 v6 H locs ls hP hD hS hl h; exact False.elim h
  | succ n ih => intro S v1 v2 v3 v4 v5 v6 H locs ls hP hD hS hl h; exact kb_X8_brackets_3 fx hK hA ih hP hD hS hl h
set_option maxHeartbeats 4000000 in
set_option maxRecDepth 100000 in
theorem ct_X8_brackets (l : Launch) (D : va_G) (ad : Nat → Nat) (cI cJ cR : ClassId) {S : ms_T} {a1 : Int32} {a2 : Int32} {a3 : Int32} {a4 : Int32} {a5 : Int32} {Q : ms_T → Prop} (h : wp_X8_brackets S a1 a2 a3 a4 a5 Q) : xr_V l D (ms_ty cI cJ cR) (ms_w ad cI cJ) yX8_brackets wsX8_brackets rm_X8_brackets [.ref (ad 0), .int a1, .int a2, .int a3, .int a4, .int a5] S Q := by
  refine xr_eV (cc := cX8_brackets) (nL := 11) (ret := none) (own := RX8) (by decide) rfl rfl (Nat.le_of_ble_eq_true rfl) ?_
  intro p e s m args below meth c ls A fx hK hA hP hD hS hl
  have hl : lv_has ls 11 [(0, .ref (ad 0)), (1, .int a1), (2, .int a2), (3, .int a3), (4, .int a4), (5, .int a5)] := hl
  show W p l e rm_X8_brackets s m args below meth c s.heap [] 0 0 _ _
  obtain ⟨⟨hx, hb, hml, hown, hts⟩, hrt, hlk⟩ := id fx
  have hf : 0 ≤ rm_X8_brackets.cells ∧ 0 ≤ rm_X8_brackets.slots := ⟨Nat.zero_le _, Nat.zero_le _⟩
  unfold wp_X8_brackets at h
  refine lv_iconst (v := 0) hx hb dX8_brackets_0 (by decide) ?_
  refine lv_istore (lv' := [(6, .int 0), (0, .ref (ad 0)), (1, .int a1), (2, .int a2), (3, .int a3), (4, .int a4), (5, .int a5)]) hx hb dX8_brackets_1 hl (by decide) rfl (fun ls hl => ?_)
  obtain ⟨n, h⟩ := h
  exact kw_X8_brackets_3 fx hK hA n _ _ _ _ _ _ _ hP hD hS (lv_sub hl [1, 2, 3, 4, 5, 6, 0] rfl) h
abbrev rm_X8_comes : Room := { frames := 3, cells := 0, slots := 0, locals := 68 }
theorem in_X8_comes : ∀ w ∈ wsX80, w ∈ wsX8_comes := by decide +kernel
set_option maxHeartbeats 4000000 in
set_option maxRecDepth 100000 in
theorem kb_X8_comes_86 {p : Program} {l : Launch} {e : Env} {s : State} {m : MethodId} {args : Array Value} {below : List Frame} {meth : Method} {c : Code} {D : va_G} {ad : Nat → Nat} {cI cJ cR : ClassId} {A : Nat → Prop}  {K86 : ms_T → Int32 → Int32 → Int32 → Int32 → Prop} {Q : ms_T → Prop} {S : ms_T} {v1 : Int32} {v2 : Int32} {v3 : Int32} {v4 : Int32} (fx : xr_Fx p m c meth cX8_comes 5 s args wsX8_comes RX8 none) (hK : xr_K D (ms_ty cI cJ cR) s) (hA : ∀ q, s.heap.size ≤ q → A q)  (k86 : ∀ (S : ms_T) (v1 : Int32) (v2 : Int32) (v3 : Int32) (v4 : Int32) {H : Heap} {locs : List Loc} {ls : Array Slot}, va_P D vwCl (ms_w ad cI cJ S) H → va_D A (ms_w ad cI cJ S) → va_S A s.heap H locs → lv_has ls 5 [(0, .ref (ad 0)), (1, .int v1), (2, .int v2), (3, .int v3), (4, .int v4)] → K86 S v1 v2 v3 v4 → W p l e rm_X8_comes s m args below meth c H locs 0 0 (MQ below (va_Qv Q (xr_B D (ms_ty cI cJ cR) (ms_w ad cI cJ) A) A) args s 0 0 A) (F0 m 86 ls [])) {H : Heap} {locs : List Loc} {ls : Array Slot} (hP : va_P D vwCl (ms_w ad cI cJ S) H) (hD : va_D A (ms_w ad cI cJ S)) (hS : va_S A s.heap H locs) (hl : lv_has ls 5 [(0, .ref (ad 0)), (1, .int v1), (2, .int v2), (3, .int v3), (4, .int v4)]) (h : wb_X8_comes_86 K86 Q S v1 v2 v3 v4) : W p l e rm_X8_comes s m args below meth c H locs 0 0 (MQ below (va_Qv Q (xr_B D (ms_ty cI cJ cR) (ms_w ad cI cJ) A) A) args s 0 0 A) (F0 m 86 ls []) := by
  obtain ⟨⟨hx, hb, hml, hown, hts⟩, hrt, hlk⟩ := id fx
  have hf : 0 ≤ rm_X8_comes.cells ∧ 0 ≤ rm_X8_comes.slots := ⟨Nat.zero_le _, Nat.zero_le _⟩
  unfold wb_X8_comes_86 at h
  refine lv_aload_n hx hb dX8_comes_86 rfl (lv_at hl 0 rfl) ?_
  refine lv_aload_n hx hb dX8_comes_87 rfl (lv_at hl 0 rfl) ?_
  refine lv_iload_n hx hb dX8_comes_88 rfl (lv_at hl 1 rfl) ?_
  refine lv_iload hx hb dX8_comes_89 (lv_at hl 4 rfl) ?_
  refine xr_vI (n := 2) (As := [.int v1, .int v4]) (rest := [.ref (ad 0)]) fx (ct_X8_end l D ad cI cJ cR h) gX8_comes_X8_end rfl rfl (by decide +kernel) ⟨Nat.le_of_ble_eq_true rfl, Nat.le_of_ble_eq_true rfl⟩ ⟨rfl, rfl⟩ hf (ms_recv hK hP) hK hP hD hS hA hl.1 rfl (Nat.le_of_ble_eq_true rfl) dX8_comes_91 (fun r2 S1 H locs h hP hD hS => ?_)
  refine xr_vI (n := 1) (As := [.int r2]) (rest := []) fx (ct_X8_isChief l D ad cI cJ cR h) gX8_comes_X8_isChief rfl rfl (by decide +kernel) ⟨Nat.le_of_ble_eq_true rfl, Nat.le_of_ble_eq_true rfl⟩ ⟨rfl, rfl⟩ hf (ms_recv hK hP) hK hP hD hS hA hl.1 rfl (Nat.le_of_ble_eq_true rfl) dX8_comes_94 (fun r4 S3 H locs h hP hD hS => ?_)
  refine lv_if_ne (tgt := 106) hx hb dX8_comes_97 (by decide) (fun c97 => ?_) (fun c97 => ?_)
  · have h := h.1 c97
    refine lv_aload_n hx hb dX8_comes_106 rfl (lv_at hl 0 rfl) ?_
    refine ms_get 9 (v := .ref (ad 5)) fx in_X8_comes (by decide) rfl (by decide +kernel) rfl hK hP dX8_comes_107 ?_
    refine lv_iload_n hx hb dX8_comes_110 rfl (lv_at hl 3 rfl) ?_
    refine lv_aload_n hx hb dX8_comes_111 rfl (lv_at hl 0 rfl) ?_
    refine ms_get 12 (v := .ref (ad 8)) fx in_X8_comes (by decide) rfl (by decide +kernel) rfl hK hP dX8_comes_112 ?_
    refine lv_aload_n hx hb dX8_comes_115 rfl (lv_at hl 0 rfl) ?_
    refine lv_iload_n hx hb dX8_comes_116 rfl (lv_at hl 1 rfl) ?_
    refine lv_iload hx hb dX8_comes_117 (lv_at hl 4 rfl) ?_
    refine xr_vI (n := 2) (As := [.int v1, .int v4]) (rest := [.ref (ad 8), .int v3, .ref (ad 5)]) fx (ct_X8_beginning l D ad cI cJ cR h) gX8_comes_X8_beginning rfl rfl (by decide +kernel) ⟨Nat.le_of_ble_eq_true rfl, Nat.le_of_ble_eq_true rfl⟩ ⟨rfl, rfl⟩ hf (ms_recv hK hP) hK hP hD hS hA hl.1 rfl (Nat.le_of_ble_eq_true rfl) dX8_comes_119 (fun r6 S5 H locs h hP hD hS => ?_)
    obtain ⟨hi7, h⟩ := h
    refine ms_iald 7 (by decide) fx hK hP rfl hi7 dX8_comes_122 ?_
    obtain ⟨hi8, h⟩ := h
    refine ms_iast 4 (by decide) fx hK hP hD hS rfl hi8 dX8_comes_123 (fun H locs hP hD hS => ?_)
    refine lv_aload_n hx hb dX8_comes_124 rfl (lv_at hl 0 rfl) ?_
    refine ms_get 10 (v := .ref (ad 6)) fx in_X8_comes (by decide) rfl (by decide +kernel) rfl hK hP dX8_comes_125 ?_
    refine lv_iload_n hx hb dX8_comes_128 rfl (lv_at hl 3 rfl) ?_
    refine lv_aload_n hx hb dX8_comes_129 rfl (lv_at hl 0 rfl) ?_
    refine ms_get 12 (v := .ref (ad 8)) fx in_X8_comes (by decide) rfl (by decide +kernel) rfl hK hP dX8_comes_130 ?_
    refine lv_aload_n hx hb dX8_comes_133 rfl (lv_at hl 0 rfl) ?_
    refine lv_iload_n hx hb dX8_comes_134 rfl (lv_at hl 1 rfl) ?_
    refine lv_iload hx hb dX8_comes_135 (lv_at hl 4 rfl) ?_
    refine xr_vI (n := 2) (As := [.int v1, .int v4]) (rest := [.ref (ad 8), .int v3, .ref (ad 6)]) fx (ct_X8_end l D ad cI cJ cR h) gX8_comes_X8_end rfl rfl (by decide +kernel) ⟨Nat.le_of_ble_eq_true rfl, Nat.le_of_ble_eq_true rfl⟩ ⟨rfl, rfl⟩ hf (ms_recv hK hP) hK hP hD hS hA hl.1 rfl (Nat.le_of_ble_eq_true rfl) dX8_comes_137 (fun r10 S9 H locs h hP hD hS => ?_)
    obtain ⟨hi11, h⟩ := h
    refine ms_iald 7 (by decide) fx hK hP rfl hi11 dX8_comes_140 ?_
    obtain ⟨hi12, h⟩ := h
    refine ms_iast 5 (by decide) fx hK hP hD hS rfl hi12 dX8_comes_141 (fun H locs hP hD hS => ?_)
    refine lv_aload_n hx hb dX8_comes_142 rfl (lv_at hl 0 rfl) ?_
    refine ms_get 11 (v := .ref (ad 7)) fx in_X8_comes (by decide) rfl (by decide +kernel) rfl hK hP dX8_comes_143 ?_
    refine lv_iload_n hx hb dX8_comes_146 rfl (lv_at hl 3 rfl) ?_
    refine lv_aload_n hx hb dX8_comes_147 rfl (lv_at hl 0 rfl) ?_
    refine ms_get 11 (v := .ref (ad 7)) fx in_X8_comes (by decide) rfl (by decide +kernel) rfl hK hP dX8_comes_148 ?_
    refine lv_aload_n hx hb dX8_comes_151 rfl (lv_at hl 0 rfl) ?_
    refine ms_get 9 (v := .ref (ad 5)) fx in_X8_comes (by decide) rfl (by decide +kernel) rfl hK hP dX8_comes_152 ?_
    refine lv_iload_n hx hb dX8_comes_155 rfl (lv_at hl 3 rfl) ?_
    obtain ⟨hi13, h⟩ := h
    refine ms_iald 4 (by decide) fx hK hP rfl hi13 dX8_comes_156 ?_
    obtain ⟨hi14, h⟩ := h
    refine ms_iald 6 (by decide) fx hK hP rfl hi14 dX8_comes_157 ?_
    refine lv_aload_n hx hb dX8_comes_158 rfl (lv_at hl 0 rfl) ?_
    refine ms_get 11 (v := .ref (ad 7)) fx in_X8_comes (by decide) rfl (by decide +kernel) rfl hK hP dX8_comes_159 ?_
    refine lv_aload_n hx hb dX8_comes_162 rfl (lv_at hl 0 rfl) ?_
    refine ms_get 10 (v := .ref (ad 6)) fx in_X8_comes (by decide) rfl (by decide +kernel) rfl hK hP dX8_comes_163 ?_
    refine lv_iload_n hx hb dX8_comes_166 rfl (lv_at hl 3 rfl) ?_
    obtain ⟨hi15, h⟩ := h
    refine ms_iald 5 (by decide) fx hK hP rfl hi15 dX8_comes_167 ?_
    obtain ⟨hi16, h⟩ := h
    refine ms_iald 6 (by decide) fx hK hP rfl hi16 dX8_comes_168 ?_
    refine lv_iadd hx hb dX8_comes_169 ?_
    refine lv_iconst (v := 3) hx hb dX8_comes_170 (by decide) ?_
    refine lv_iadd hx hb dX8_comes_171 ?_
    obtain ⟨hi17, h⟩ := h
    refine ms_iast 6 (by decide) fx hK hP hD hS rfl hi17 dX8_comes_172 (fun H locs hP hD hS => ?_)
    refine lv_aload_n hx hb dX8_comes_173 rfl (lv_at hl 0 rfl) ?_
    refine lv_sipush (v := 256) hx hb dX8_comes_174 (by decide) ?_
    refine lv_iload_n hx hb dX8_comes_177 rfl (lv_at hl 3 rfl) ?_
    refine lv_imul hx hb dX8_comes_178 ?_
    refine lv_sipush (v := 256) hx hb dX8_comes_179 (by decide) ?_
    refine lv_aload_n hx hb dX8_comes_182 rfl (lv_at hl 0 rfl) ?_
    refine ms_get 9 (v := .ref (ad 5)) fx in_X8_comes (by decide) rfl (by decide +kernel) rfl hK hP dX8_comes_183 ?_
    refine lv_iload_n hx hb dX8_comes_186 rfl (lv_at hl 3 rfl) ?_
    obtain ⟨hi18, h⟩ := h
    refine ms_iald 4 (by decide) fx hK hP rfl hi18 dX8_comes_187 ?_
    refine lv_imul hx hb dX8_comes_188 ?_
    refine lv_iload hx hb dX8_comes_189 (lv_at hl 4 rfl) ?_
    refine lv_sipush (v := 256) hx hb dX8_comes_191 (by decide) ?_
    refine lv_aload_n hx hb dX8_comes_194 rfl (lv_at hl 0 rfl) ?_
    refine ms_get 10 (v := .ref (ad 6)) fx in_X8_comes (by decide) rfl (by decide +kernel) rfl hK hP dX8_comes_195 ?_
    refine lv_iload_n hx hb dX8_comes_198 rfl (lv_at hl 3 rfl) ?_
    obtain ⟨hi19, h⟩ := h
    refine ms_iald 5 (by decide) fx hK hP rfl hi19 dX8_comes_199 ?_
    refine lv_imul hx hb dX8_comes_200 ?_
    refine lv_iload_n hx hb dX8_comes_201 rfl (lv_at hl 2 rfl) ?_
    refine lv_iload hx hb dX8_comes_202 (lv_at hl 4 rfl) ?_
    refine lv_isub hx hb dX8_comes_204 ?_
    refine xr_vV (n := 5) (As := [.int (256 * v3), .int (256 * ((ms_sI (ms_sI S9 5 v3.toNatClampNeg (S9.2.1 7 r10.toNatClampNeg)) 6 v3.toNatClampNeg ((((ms_sI S9 5 v3.toNatClampNeg (S9.2.1 7 r10.toNatClampNeg)).2.1 6 ((ms_sI S9 5 v3.toNatClampNeg (S9.2.1 7 r10.toNatClampNeg)).2.1 4 v3.toNatClampNeg).toNatClampNeg) + ((ms_sI S9 5 v3.toNatClampNeg (S9.2.1 7 r10.toNatClampNeg)).2.1 6 ((ms_sI S9 5 v3.toNatClampNeg (S9.2.1 7 r10.toNatClampNeg)).2.1 5 v3.toNatClampNeg).toNatClampNeg)) + 3)).2.1 4 v3.toNatClampNeg)), .int v4, .int (256 * ((ms_sI (ms_sI S9 5 v3.toNatClampNeg (S9.2.1 7 r10.toNatClampNeg)) 6 v3.toNatClampNeg ((((ms_sI S9 5 v3.toNatClampNeg (S9.2.1 7 r10.toNatClampNeg)).2.1 6 ((ms_sI S9 5 v3.toNatClampNeg (S9.2.1 7 r10.toNatClampNeg)).2.1 4 v3.toNatClampNeg).toNatClampNeg) + ((ms_sI S9 5 v3.toNatClampNeg (S9.2.1 7 r10.toNatClampNeg)).2.1 6 ((ms_sI S9 5 v3.toNatClampNeg (S9.2.1 7 r10.toNatClampNeg)).2.1 5 v3.toNatClampNeg).toNatClampNeg)) + 3)).2.1 5 v3.toNatClampNeg)), .int (v2 - v4)]) (rest := []) fx (ct_X8_brackets l D ad cI cJ cR h) gX8_comes_X8_brackets rfl rfl (by decide +kernel) ⟨Nat.le_of_ble_eq_true rfl, Nat.le_of_ble_eq_true rfl⟩ ⟨rfl, rfl⟩ hf (ms_recv hK hP) hK hP hD hS hA hl.1 rfl (Nat.le_of_ble_eq_true rfl) dX8_comes_205 (fun S20 H locs h hP hD hS => ?_)
    exact xr_rV fx hK hP hD hS h dX8_comes_208
  · have h := h.2 c97
    obtain ⟨v4_21, ev4_21⟩ : ∃ z : Int32, z = v4 + 1 := ⟨_, rfl⟩
    have h := h v4_21 ev4_21
    refine lv_iinc (v := v4_21) (lv' := [(4, .int v4_21), (0, .ref (ad 0)), (1, .int v1), (2, .int v2), (3, .int v3)]) hx hb dX8_comes_100 hl (k := 4) rfl (by rw [ev4_21]; rfl) (by decide) rfl (fun ls hl => ?_)
    refine lv_goto (tgt := 86) hx hb dX8_comes_103 (by decide) ?_
    exact k86 _ _ _ _ _ hP hD hS (lv_sub hl [1, 2, 3, 4, 0] rfl) h
theorem kw_X8_comes_86 {p : Program} {l : Launch} {e : Env} {s : State} {m : MethodId} {args : Array Value} {below : List Frame} {meth : Method} {c : Code} {D : va_G} {ad : Nat → Nat} {cI cJ cR : ClassId} {A : Nat → Prop}  {Q : ms_T → Prop} (fx : xr_Fx p m c meth cX8_comes 5 s args wsX8_comes RX8 none) (hK : xr_K D (ms_ty cI cJ cR) s) (hA : ∀ q, s.heap.size ≤ q → A q)  : ∀ (n : Nat) (S : ms_T) (v1 : Int32) (v2 : Int32) (v3 : Int32) (v4 : Int32) {H : Heap} {locs : List Loc} {ls : Array Slot}, va_P D vwCl (ms_w ad cI cJ S) H → va_D A (ms_w ad cI cJ S) → va_S A s.heap H locs → lv_has ls 5 [(0, .ref (ad 0)), (1, .int v1), (2, .int v2), (3, .int v3), (4, .int v4)] → wp_X8_comes_86 Q n S v1 v2 v3 v4 → W p l e rm_X8_comes s m args below meth c H locs 0 0 (MQ below (va_Qv Q (xr_B D (ms_ty cI cJ cR) (ms_w ad cI cJ) A) A) args s 0 0 A) (F0 m 86 ls []) := by
  intro n
  induction n with
  | zero => intro S v1 v2 v3 v4 H locs ls hP hD hS hl h; exact False.elim h
  | succ n ih => intro S v1 v2 v3 v4 H locs ls hP hD hS hl h; exact kb_X8_comes_86 fx hK hA ih hP hD hS hl h
set_option maxHeartbeats 4000000 in
set_option maxRecDepth 100000 in
theorem ct_X8_comes (l : Launch) (D : va_G) (ad : Nat → Nat) (cI cJ cR : ClassId) {S : ms_T} {a1 : Int32} {Q : ms_T → Prop} (h : wp_X8_comes S a1 Q) : xr_V l D (ms_ty cI cJ cR) (ms_w ad cI cJ) yX8_comes wsX8_comes rm_X8_comes [.ref (ad 0), .int a1] S Q := by
  refine xr_eV (cc := cX8_comes) (nL := 5) (ret := none) (own := RX8) (by decide) rfl rfl (Nat.le_of_ble_eq_true rfl) ?_
  intro p e s m args below meth c ls A fx hK hA hP hD hS hl
  have hl : lv_has ls 5 [(0, .ref (ad 0)), (1, .int a1)] := hl
  show W p l e rm_X8_comes s m args below meth c s.heap [] 0 0 _ _
  obtain ⟨⟨hx, hb, hml, hown, hts⟩, hrt, hlk⟩ := id fx
  have hf : 0 ≤ rm_X8_comes.cells ∧ 0 ≤ rm_X8_comes.slots := ⟨Nat.zero_le _, Nat.zero_le _⟩
  unfold wp_X8_comes at h
  refine lv_aload_n hx hb dX8_comes_0 rfl (lv_at hl 0 rfl) ?_
  refine ms_get 5 (v := .ref (ad 3)) fx in_X8_comes (by decide) rfl (by decide +kernel) rfl hK hP dX8_comes_1 ?_
  refine lv_iload_n hx hb dX8_comes_4 rfl (lv_at hl 1 rfl) ?_
  obtain ⟨hi22, h⟩ := h
  refine ms_iald 2 (by decide) fx hK hP rfl hi22 dX8_comes_5 ?_
  refine lv_topi (fun v2_23 ev2_23 => ?_)
  have h := h v2_23 ev2_23
  refine lv_istore_n (lv' := [(2, .int v2_23), (0, .ref (ad 0)), (1, .int a1)]) hx hb dX8_comes_6 rfl hl (by decide) rfl (fun ls hl => ?_)
  refine lv_aload_n hx hb dX8_comes_7 rfl (lv_at hl 1 rfl) ?_
  refine ms_get 7 (v := .int (S.1 3)) fx in_X8_comes (by decide) rfl (by decide +kernel) rfl hK hP dX8_comes_8 ?_
  refine lv_topi (fun v3_24 ev3_24 => ?_)
  have h := h v3_24 ev3_24
  refine lv_istore_n (lv' := [(3, .int v3_24), (2, .int v2_23), (0, .ref (ad 0)), (1, .int a1)]) hx hb dX8_comes_11 rfl hl (by decide) rfl (fun ls hl => ?_)
  refine lv_aload_n hx hb dX8_comes_12 rfl (lv_at hl 2 rfl) ?_
  refine ms_get 8 (v := .ref (ad 4)) fx in_X8_comes (by decide) rfl (by decide +kernel) rfl hK hP dX8_comes_13 ?_
  refine lv_iload_n hx hb dX8_comes_16 rfl (lv_at hl 0 rfl) ?_
  refine lv_iload_n hx hb dX8_comes_17 rfl (lv_at hl 3 rfl) ?_
  obtain ⟨hi25, h⟩ := h
  refine ms_iast 3 (by decide) fx hK hP hD hS rfl hi25 dX8_comes_18 (fun H locs hP hD hS => ?_)
  refine lv_aload_n hx hb dX8_comes_19 rfl (lv_at hl 2 rfl) ?_
  refine ms_get 12 (v := .ref (ad 8)) fx in_X8_comes (by decide) rfl (by decide +kernel) rfl hK hP dX8_comes_20 ?_
  refine lv_iload_n hx hb dX8_comes_23 rfl (lv_at hl 3 rfl) ?_
  refine lv_iload_n hx hb dX8_comes_24 rfl (lv_at hl 0 rfl) ?_
  obtain ⟨hi26, h⟩ := h
  refine ms_iast 7 (by decide) fx hK hP hD hS rfl hi26 dX8_comes_25 (fun H locs hP hD hS => ?_)
  refine lv_aload_n hx hb dX8_comes_26 rfl (lv_at hl 2 rfl) ?_
  refine ms_get 9 (v := .ref (ad 5)) fx in_X8_comes (by decide) rfl (by decide +kernel) rfl hK hP dX8_comes_27 ?_
  refine lv_iload_n hx hb dX8_comes_30 rfl (lv_at hl 0 rfl) ?_
  refine lv_iconst (v := (-1)) hx hb dX8_comes_31 (by decide) ?_
  obtain ⟨hi27, h⟩ := h
  refine ms_iast 4 (by decide) fx hK hP hD hS rfl hi27 dX8_comes_32 (fun H locs hP hD hS => ?_)
  refine lv_aload_n hx hb dX8_comes_33 rfl (lv_at hl 2 rfl) ?_
  refine ms_get 10 (v := .ref (ad 6)) fx in_X8_comes (by decide) rfl (by decide +kernel) rfl hK hP dX8_comes_34 ?_
  refine lv_iload_n hx hb dX8_comes_37 rfl (lv_at hl 0 rfl) ?_
  refine lv_iconst (v := (-1)) hx hb dX8_comes_38 (by decide) ?_
  obtain ⟨hi28, h⟩ := h
  refine ms_iast 5 (by decide) fx hK hP hD hS rfl hi28 dX8_comes_39 (fun H locs hP hD hS => ?_)
  refine lv_aload_n hx hb dX8_comes_40 rfl (lv_at hl 2 rfl) ?_
  refine ms_get 11 (v := .ref (ad 7)) fx in_X8_comes (by decide) rfl (by decide +kernel) rfl hK hP dX8_comes_41 ?_
  refine lv_iload_n hx hb dX8_comes_44 rfl (lv_at hl 0 rfl) ?_
  refine lv_iconst (v := 1) hx hb dX8_comes_45 (by decide) ?_
  obtain ⟨hi29, h⟩ := h
  refine ms_iast 6 (by decide) fx hK hP hD hS rfl hi29 dX8_comes_46 (fun H locs hP hD hS => ?_)
  refine lv_aload_n hx hb dX8_comes_47 rfl (lv_at hl 2 rfl) ?_
  refine lv_dup hx hb dX8_comes_48 rfl ?_
  refine ms_get 7 (v := .int ((ms_sI (ms_sI (ms_sI (ms_sI (ms_sI S 3 v3_24.toNatClampNeg a1) 7 a1.toNatClampNeg v3_24) 4 v3_24.toNatClampNeg ((-1))) 5 v3_24.toNatClampNeg ((-1))) 6 v3_24.toNatClampNeg 1).1 3)) fx in_X8_comes (by decide) rfl (by decide +kernel) rfl hK hP dX8_comes_49 ?_
  refine lv_iconst (v := 1) hx hb dX8_comes_52 (by decide) ?_
  refine lv_iadd hx hb dX8_comes_53 ?_
  refine ms_put 7 3 (ty := .int) fx in_X8_comes (by decide) ms_f7 (by decide +kernel) rfl rfl (by decide +kernel) rfl rfl hK hP hD hS dX8_comes_54 (fun H locs hP hD hS => ?_)
  refine lv_iload_n hx hb dX8_comes_57 rfl (lv_at hl 1 rfl) ?_
  refine lv_iconst (v := 1) hx hb dX8_comes_58 (by decide) ?_
  refine lv_icmp_ne (tgt := 83) hx hb dX8_comes_59 (by decide) (fun c59 => ?_) (fun c59 => ?_)
  · have h := h.1 c59
    refine lv_iconst (v := 1) hx hb dX8_comes_83 (by decide) ?_
    refine lv_istore (lv' := [(4, .int 1), (3, .int v3_24), (2, .int v2_23), (0, .ref (ad 0)), (1, .int a1)]) hx hb dX8_comes_84 hl (by decide) rfl (fun ls hl => ?_)
    obtain ⟨n, h⟩ := h
    exact kw_X8_comes_86 fx hK hA n _ _ _ _ _ hP hD hS (lv_sub hl [3, 4, 2, 1, 0] rfl) h
  · have h := h.2 c59
    refine lv_aload_n hx hb dX8_comes_62 rfl (lv_at hl 2 rfl) ?_
    refine ms_get 13 (v := .ref (ad 16)) fx in_X8_comes (by decide) rfl (by decide +kernel) rfl hK hP dX8_comes_63 ?_
    refine lv_sipush (v := 256) hx hb dX8_comes_66 (by decide) ?_
    refine lv_iload_n hx hb dX8_comes_69 rfl (lv_at hl 0 rfl) ?_
    refine lv_imul hx hb dX8_comes_70 ?_
    refine lv_iload_n hx hb dX8_comes_71 rfl (lv_at hl 3 rfl) ?_
    refine lv_iadd hx hb dX8_comes_72 ?_
    refine lv_aload_n hx hb dX8_comes_73 rfl (lv_at hl 2 rfl) ?_
    refine ms_get 4 (v := .ref (ad 2)) fx in_X8_comes (by decide) rfl (by decide +kernel) rfl hK hP dX8_comes_74 ?_
    refine lv_iconst (v := 1) hx hb dX8_comes_77 (by decide) ?_
    obtain ⟨hi30, h⟩ := h
    refine ms_iald 1 (by decide) fx hK hP rfl hi30 dX8_comes_78 ?_
    refine lv_isub hx hb dX8_comes_79 ?_
    refine lv_lconst (v := 1) hx hb dX8_comes_80 (by decide) ?_
    obtain ⟨hi31, h⟩ := h
    refine ms_last 1 (by decide) fx hK hP hD hS rfl hi31 dX8_comes_81 (fun H locs hP hD hS => ?_)
    exact xr_rV fx hK hP hD hS h dX8_comes_82
abbrev rm_X8_wordOf : Room := { frames := 1, cells := 0, slots := 0, locals := 25 }
theorem in_X8_wordOf : ∀ w ∈ wsX80, w ∈ wsX8_wordOf := by decide +kernel
set_option maxHeartbeats 4000000 in
set_option maxRecDepth 100000 in
theorem kb_X8_wordOf_43 {p : Program} {l : Launch} {e : Env} {s : State} {m : MethodId} {args : Array Value} {below : List Frame} {meth : Method} {c : Code} {D : va_G} {ad : Nat → Nat} {cI cJ cR : ClassId} {A : Nat → Prop}  {K43 : ms_T → Int32 → Int32 → Int32 → Int32 → Prop} {Q : Int32 → ms_T → Prop} {S : ms_T} {v1 : Int32} {v2 : Int32} {v4 : Int32} {v5 : Int32} (fx : xr_Fx p m c meth cX8_wordOf 7 s args wsX8_wordOf RX8 (some .int)) (hK : xr_K D (ms_ty cI cJ cR) s) (hA : ∀ q, s.heap.size ≤ q → A q)  (k43 : ∀ (S : ms_T) (v1 : Int32) (v2 : Int32) (v4 : Int32) (v5 : Int32) {H : Heap} {locs : List Loc} {ls : Array Slot}, va_P D vwCl (ms_w ad cI cJ S) H → va_D A (ms_w ad cI cJ S) → va_S A s.heap H locs → lv_has ls 7 [(0, .ref (ad 0)), (1, .int v1), (2, .int v2), (4, .int v4), (5, .int v5)] → K43 S v1 v2 v4 v5 → W p l e rm_X8_wordOf s m args below meth c H locs 0 0 (MQ below (va_Qi Q (xr_B D (ms_ty cI cJ cR) (ms_w ad cI cJ) A) A) args s 0 0 A) (F0 m 43 ls [])) {H : Heap} {locs : List Loc} {ls : Array Slot} (hP : va_P D vwCl (ms_w ad cI cJ S) H) (hD : va_D A (ms_w ad cI cJ S)) (hS : va_S A s.heap H locs) (hl : lv_has ls 7 [(0, .ref (ad 0)), (1, .int v1), (2, .int v2), (4, .int v4), (5, .int v5)]) (h : wb_X8_wordOf_43 K43 Q S v1 v2 v4 v5) : W p l e rm_X8_wordOf s m args below meth c H locs 0 0 (MQ below (va_Qi Q (xr_B D (ms_ty cI cJ cR) (ms_w ad cI cJ) A) A) args s 0 0 A) (F0 m 43 ls []) := by
  obtain ⟨⟨hx, hb, hml, hown, hts⟩, hrt, hlk⟩ := id fx
  have hf : 0 ≤ rm_X8_wordOf.cells ∧ 0 ≤ rm_X8_wordOf.slots := ⟨Nat.zero_le _, Nat.zero_le _⟩
  unfold wb_X8_wordOf_43 at h
  refine lv_iload hx hb dX8_wordOf_43 (lv_at hl 4 rfl) ?_
  refine lv_if_lt (tgt := 96) hx hb dX8_wordOf_45 (by decide) (fun c45 => ?_) (fun c45 => ?_)
  · have h := h.1 c45
    refine lv_aload_n hx hb dX8_wordOf_96 rfl (lv_at hl 0 rfl) ?_
    refine ms_get 4 (v := .ref (ad 2)) fx in_X8_wordOf (by decide) rfl (by decide +kernel) rfl hK hP dX8_wordOf_97 ?_
    refine lv_iload_n hx hb dX8_wordOf_100 rfl (lv_at hl 2 rfl) ?_
    obtain ⟨hi1, h⟩ := h
    refine ms_iald 1 (by decide) fx hK hP rfl hi1 dX8_wordOf_101 ?_
    refine lv_iload hx hb dX8_wordOf_102 (lv_at hl 3 rfl) ?_
    refine lv_iadd hx hb dX8_wordOf_104 ?_
    exact xr_rI fx hK hP hD hS h dX8_wordOf_105
  · have h := h.2 c45
    refine lv_iload_n hx hb dX8_wordOf_48 rfl (lv_at hl 1 rfl) ?_
    refine lv_iconst (v := 3) hx hb dX8_wordOf_49 (by decide) ?_
    refine lv_iload hx hb dX8_wordOf_50 (lv_at hl 4 rfl) ?_
    refine lv_imul hx hb dX8_wordOf_52 ?_
    refine lv_ishr hx hb dX8_wordOf_53 ?_
    refine lv_bipush (v := 7) hx hb dX8_wordOf_54 (by decide) ?_
    refine lv_iand hx hb dX8_wordOf_56 ?_
    refine lv_topi (fun v6_2 ev6_2 => ?_)
    have h := h v6_2 ev6_2
    refine lv_istore (lv' := [(6, .int v6_2), (0, .ref (ad 0)), (1, .int v1), (2, .int v2), (4, .int v4), (5, .int v5)]) hx hb dX8_wordOf_57 hl (by decide) rfl (fun ls hl => ?_)
    refine lv_iload hx hb dX8_wordOf_59 (lv_at hl 0 rfl) ?_
    refine lv_i2l hx hb dX8_wordOf_61 rfl ?_
    refine lv_lconst (v := 1) hx hb dX8_wordOf_62 (by decide) ?_
    refine lv_aload_n hx hb dX8_wordOf_63 rfl (lv_at hl 1 rfl) ?_
    refine ms_get 0 (v := .int (S.1 0)) fx in_X8_wordOf (by decide) rfl (by decide +kernel) rfl hK hP dX8_wordOf_64 ?_
    refine lv_i2l hx hb dX8_wordOf_67 rfl ?_
    refine xr_sI (n := 3) (As := [.long v6_2.toInt64, .long 1, .long ((S.1 0).toInt64)]) (rest := []) fx (ct_X8_in l h) gX8_wordOf_X8_in rfl rfl (by decide +kernel) ⟨Nat.le_of_ble_eq_true rfl, Nat.le_of_ble_eq_true rfl⟩ ⟨rfl, rfl⟩ hf hl.1 rfl (Nat.le_of_ble_eq_true rfl) dX8_wordOf_68 (fun r3 h => ?_)
    refine lv_if_ne (tgt := 76) hx hb dX8_wordOf_71 (by decide) (fun c71 => ?_) (fun c71 => ?_)
    · have h := h.1 c71
      refine lv_aload_n hx hb dX8_wordOf_76 rfl (lv_at hl 1 rfl) ?_
      refine ms_get 0 (v := .int (S.1 0)) fx in_X8_wordOf (by decide) rfl (by decide +kernel) rfl hK hP dX8_wordOf_77 ?_
      refine lv_iload hx hb dX8_wordOf_80 (lv_at hl 4 rfl) ?_
      refine lv_imul hx hb dX8_wordOf_82 ?_
      refine lv_iload hx hb dX8_wordOf_83 (lv_at hl 0 rfl) ?_
      refine lv_iadd hx hb dX8_wordOf_85 ?_
      refine lv_iconst (v := 1) hx hb dX8_wordOf_86 (by decide) ?_
      refine lv_isub hx hb dX8_wordOf_87 ?_
      refine lv_topi (fun v4_4 ev4_4 => ?_)
      have h := h v4_4 ev4_4
      refine lv_istore (lv' := [(4, .int v4_4), (6, .int v6_2), (0, .ref (ad 0)), (1, .int v1), (2, .int v2), (5, .int v5)]) hx hb dX8_wordOf_88 hl (by decide) rfl (fun ls hl => ?_)
      obtain ⟨v5_5, ev5_5⟩ : ∃ z : Int32, z = v5 + (-1) := ⟨_, rfl⟩
      have h := h v5_5 ev5_5
      refine lv_iinc (v := v5_5) (lv' := [(5, .int v5_5), (4, .int v4_4), (6, .int v6_2), (0, .ref (ad 0)), (1, .int v1), (2, .int v2)]) hx hb dX8_wordOf_90 hl (k := 5) rfl (by rw [ev5_5]; rfl) (by decide) rfl (fun ls hl => ?_)
      refine lv_goto (tgt := 43) hx hb dX8_wordOf_93 (by decide) ?_
      exact k43 _ _ _ _ _ hP hD hS (lv_sub hl [3, 4, 5, 1, 0] rfl) h
    · have h := h.2 c71
      refine lv_iconst (v := (-1)) hx hb dX8_wordOf_74 (by decide) ?_
      exact xr_rI fx hK hP hD hS h dX8_wordOf_75
theorem kw_X8_wordOf_43 {p : Program} {l : Launch} {e : Env} {s : State} {m : MethodId} {args : Array Value} {below : List Frame} {meth : Method} {c : Code} {D : va_G} {ad : Nat → Nat} {cI cJ cR : ClassId} {A : Nat → Prop}  {Q : Int32 → ms_T → Prop} (fx : xr_Fx p m c meth cX8_wordOf 7 s args wsX8_wordOf RX8 (some .int)) (hK : xr_K D (ms_ty cI cJ cR) s) (hA : ∀ q, s.heap.size ≤ q → A q)  : ∀ (n : Nat) (S : ms_T) (v1 : Int32) (v2 : Int32) (v4 : Int32) (v5 : Int32) {H : Heap} {locs : List Loc} {ls : Array Slot}, va_P D vwCl (ms_w ad cI cJ S) H → va_D A (ms_w ad cI cJ S) → va_S A s.heap H locs → lv_has ls 7 [(0, .ref (ad 0)), (1, .int v1), (2, .int v2), (4, .int v4), (5, .int v5)] → wp_X8_wordOf_43 Q n S v1 v2 v4 v5 → W p l e rm_X8_wordOf s m args below meth c H locs 0 0 (MQ below (va_Qi Q (xr_B D (ms_ty cI cJ cR) (ms_w ad cI cJ) A) A) args s 0 0 A) (F0 m 43 ls []) := by
  intro n
  induction n with
  | zero => intro S v1 v2 v4 v5 H locs ls hP hD hS hl h; exact False.elim h
  | succ n ih => intro S v1 v2 v4 v5 H locs ls hP hD hS hl h; exact kb_X8_wordOf_43 fx hK hA ih hP hD hS hl h
set_option maxHeartbeats 4000000 in
set_option maxRecDepth 100000 in
theorem kb_X8_wordOf_10 {p : Program} {l : Launch} {e : Env} {s : State} {m : MethodId} {args : Array Value} {below : List Frame} {meth : Method} {c : Code} {D : va_G} {ad : Nat → Nat} {cI cJ cR : ClassId} {A : Nat → Prop}  {K10 : ms_T → Int32 → Int32 → Int32 → Prop} {Q : Int32 → ms_T → Prop} {S : ms_T} {v1 : Int32} {v2 : Int32} {v3 : Int32} (fx : xr_Fx p m c meth cX8_wordOf 7 s args wsX8_wordOf RX8 (some .int)) (hK : xr_K D (ms_ty cI cJ cR) s) (hA : ∀ q, s.heap.size ≤ q → A q)  (k10 : ∀ (S : ms_T) (v1 : Int32) (v2 : Int32) (v3 : Int32) {H : Heap} {locs : List Loc} {ls : Array Slot}, va_P D vwCl (ms_w ad cI cJ S) H → va_D A (ms_w ad cI cJ S) → va_S A s.heap H locs → lv_has ls 7 [(0, .ref (ad 0)), (1, .int v1), (2, .int v2), (3, .int v3)] → K10 S v1 v2 v3 → W p l e rm_X8_wordOf s m args below meth c H locs 0 0 (MQ below (va_Qi Q (xr_B D (ms_ty cI cJ cR) (ms_w ad cI cJ) A) A) args s 0 0 A) (F0 m 10 ls [])) {H : Heap} {locs : List Loc} {ls : Array Slot} (hP : va_P D vwCl (ms_w ad cI cJ S) H) (hD : va_D A (ms_w ad cI cJ S)) (hS : va_S A s.heap H locs) (hl : lv_has ls 7 [(0, .ref (ad 0)), (1, .int v1), (2, .int v2), (3, .int v3)]) (h : wb_X8_wordOf_10 K10 Q S v1 v2 v3) : W p l e rm_X8_wordOf s m args below meth c H locs 0 0 (MQ below (va_Qi Q (xr_B D (ms_ty cI cJ cR) (ms_w ad cI cJ) A) A) args s 0 0 A) (F0 m 10 ls []) := by
  obtain ⟨⟨hx, hb, hml, hown, hts⟩, hrt, hlk⟩ := id fx
  have hf : 0 ≤ rm_X8_wordOf.cells ∧ 0 ≤ rm_X8_wordOf.slots := ⟨Nat.zero_le _, Nat.zero_le _⟩
  unfold wb_X8_wordOf_10 at h
  refine lv_iload_n hx hb dX8_wordOf_10 rfl (lv_at hl 3 rfl) ?_
  refine lv_if_le (tgt := 25) hx hb dX8_wordOf_11 (by decide) (fun c11 => ?_) (fun c11 => ?_)
  · have h := h.1 c11
    refine lv_iload_n hx hb dX8_wordOf_25 rfl (lv_at hl 2 rfl) ?_
    refine lv_aload_n hx hb dX8_wordOf_26 rfl (lv_at hl 0 rfl) ?_
    refine ms_get 1 (v := .int (S.1 1)) fx in_X8_wordOf (by decide) rfl (by decide +kernel) rfl hK hP dX8_wordOf_27 ?_
    refine lv_icmp_le (tgt := 35) hx hb dX8_wordOf_30 (by decide) (fun c30 => ?_) (fun c30 => ?_)
    · have h := h.1 c30
      refine lv_iconst (v := 0) hx hb dX8_wordOf_35 (by decide) ?_
      refine lv_istore (lv' := [(4, .int 0), (0, .ref (ad 0)), (1, .int v1), (2, .int v2), (3, .int v3)]) hx hb dX8_wordOf_36 hl (by decide) rfl (fun ls hl => ?_)
      refine lv_iload_n hx hb dX8_wordOf_38 rfl (lv_at hl 3 rfl) ?_
      refine lv_iconst (v := 1) hx hb dX8_wordOf_39 (by decide) ?_
      refine lv_isub hx hb dX8_wordOf_40 ?_
      refine lv_topi (fun v5_6 ev5_6 => ?_)
      have h := h v5_6 ev5_6
      refine lv_istore (lv' := [(5, .int v5_6), (4, .int 0), (0, .ref (ad 0)), (1, .int v1), (2, .int v2), (3, .int v3)]) hx hb dX8_wordOf_41 hl (by decide) rfl (fun ls hl => ?_)
      obtain ⟨n, h⟩ := h
      exact kw_X8_wordOf_43 fx hK hA n _ _ _ _ _ hP hD hS (lv_sub hl [2, 3, 4, 1, 0] rfl) h
    · have h := h.2 c30
      refine lv_iconst (v := (-1)) hx hb dX8_wordOf_33 (by decide) ?_
      exact xr_rI fx hK hP hD hS h dX8_wordOf_34
  · have h := h.2 c11
    obtain ⟨v2_7, ev2_7⟩ : ∃ z : Int32, z = v2 + 1 := ⟨_, rfl⟩
    have h := h v2_7 ev2_7
    refine lv_iinc (v := v2_7) (lv' := [(2, .int v2_7), (0, .ref (ad 0)), (1, .int v1), (3, .int v3)]) hx hb dX8_wordOf_14 hl (k := 2) rfl (by rw [ev2_7]; rfl) (by decide) rfl (fun ls hl => ?_)
    refine lv_iload_n hx hb dX8_wordOf_17 rfl (lv_at hl 3 rfl) ?_
    refine lv_bipush (v := 8) hx hb dX8_wordOf_18 (by decide) ?_
    refine lv_idiv hx hb dX8_wordOf_20 (by decide) ?_
    refine lv_topi (fun v3_8 ev3_8 => ?_)
    have h := h v3_8 ev3_8
    refine lv_istore_n (lv' := [(3, .int v3_8), (2, .int v2_7), (0, .ref (ad 0)), (1, .int v1)]) hx hb dX8_wordOf_21 rfl hl (by decide) rfl (fun ls hl => ?_)
    refine lv_goto (tgt := 10) hx hb dX8_wordOf_22 (by decide) ?_
    exact k10 _ _ _ _ hP hD hS (lv_sub hl [2, 3, 1, 0] rfl) h
theorem kw_X8_wordOf_10 {p : Program} {l : Launch} {e : Env} {s : State} {m : MethodId} {args : Array Value} {below : List Frame} {meth : Method} {c : Code} {D : va_G} {ad : Nat → Nat} {cI cJ cR : ClassId} {A : Nat → Prop}  {Q : Int32 → ms_T → Prop} (fx : xr_Fx p m c meth cX8_wordOf 7 s args wsX8_wordOf RX8 (some .int)) (hK : xr_K D (ms_ty cI cJ cR) s) (hA : ∀ q, s.heap.size ≤ q → A q)  : ∀ (n : Nat) (S : ms_T) (v1 : Int32) (v2 : Int32) (v3 : Int32) {H : Heap} {locs : List Loc} {ls : Array Slot}, va_P D vwCl (ms_w ad cI cJ S) H → va_D A (ms_w ad cI cJ S) → va_S A s.heap H locs → lv_has ls 7 [(0, .ref (ad 0)), (1, .int v1), (2, .int v2), (3, .int v3)] → wp_X8_wordOf_10 Q n S v1 v2 v3 → W p l e rm_X8_wordOf s m args below meth c H locs 0 0 (MQ below (va_Qi Q (xr_B D (ms_ty cI cJ cR) (ms_w ad cI cJ) A) A) args s 0 0 A) (F0 m 10 ls []) := by
  intro n
  induction n with
  | zero => intro S v1 v2 v3 H locs ls hP hD hS hl h; exact False.elim h
  | succ n ih => intro S v1 v2 v3 H locs ls hP hD hS hl h; exact kb_X8_wordOf_10 fx hK hA ih hP hD hS hl h
set_option maxHeartbeats 4000000 in
set_option maxRecDepth 100000 in
theorem ct_X8_wordOf (l : Launch) (D : va_G) (ad : Nat → Nat) (cI cJ cR : ClassId) {S : ms_T} {a1 : Int32} {Q : Int32 → ms_T → Prop} (h : wp_X8_wordOf S a1 Q) : xr_I l D (ms_ty cI cJ cR) (ms_w ad cI cJ) yX8_wordOf wsX8_wordOf rm_X8_wordOf [.ref (ad 0), .int a1] S Q := by
  refine xr_eI (cc := cX8_wordOf) (nL := 7) (ret := (some .int)) (own := RX8) (by decide) rfl rfl (Nat.le_of_ble_eq_true rfl) ?_
  intro p e s m args below meth c ls A fx hK hA hP hD hS hl
  have hl : lv_has ls 7 [(0, .ref (ad 0)), (1, .int a1)] := hl
  show W p l e rm_X8_wordOf s m args below meth c s.heap [] 0 0 _ _
  obtain ⟨⟨hx, hb, hml, hown, hts⟩, hrt, hlk⟩ := id fx
  have hf : 0 ≤ rm_X8_wordOf.cells ∧ 0 ≤ rm_X8_wordOf.slots := ⟨Nat.zero_le _, Nat.zero_le _⟩
  unfold wp_X8_wordOf at h
  refine lv_iload_n hx hb dX8_wordOf_0 rfl (lv_at hl 1 rfl) ?_
  refine lv_if_ge (tgt := 6) hx hb dX8_wordOf_1 (by decide) (fun c1 => ?_) (fun c1 => ?_)
  · have h := h.1 c1
    refine lv_iconst (v := 0) hx hb dX8_wordOf_6 (by decide) ?_
    refine lv_istore_n (lv' := [(2, .int 0), (0, .ref (ad 0)), (1, .int a1)]) hx hb dX8_wordOf_7 rfl hl (by decide) rfl (fun ls hl => ?_)
    refine lv_iload_n hx hb dX8_wordOf_8 rfl (lv_at hl 2 rfl) ?_
    refine lv_istore_n (lv' := [(3, .int a1), (2, .int 0), (0, .ref (ad 0)), (1, .int a1)]) hx hb dX8_wordOf_9 rfl hl (by decide) rfl (fun ls hl => ?_)
    obtain ⟨n, h⟩ := h
    exact kw_X8_wordOf_10 fx hK hA n _ _ _ _ hP hD hS (lv_sub hl [2, 3, 1, 0] rfl) h
  · have h := h.2 c1
    refine lv_iconst (v := (-1)) hx hb dX8_wordOf_4 (by decide) ?_
    exact xr_rI fx hK hP hD hS h dX8_wordOf_5
abbrev rm_X8_codeOf : Room := { frames := 1, cells := 0, slots := 0, locals := 22 }
theorem in_X8_codeOf : ∀ w ∈ wsX80, w ∈ wsX8_codeOf := by decide +kernel
set_option maxHeartbeats 4000000 in
set_option maxRecDepth 100000 in
theorem kb_X8_codeOf_4 {p : Program} {l : Launch} {e : Env} {s : State} {m : MethodId} {args : Array Value} {below : List Frame} {meth : Method} {c : Code} {D : va_G} {ad : Nat → Nat} {cI cJ cR : ClassId} {A : Nat → Prop}  {K4 : ms_T → Int32 → Int32 → Int32 → Prop} {Q : Int32 → ms_T → Prop} {S : ms_T} {v1 : Int32} {v2 : Int32} {v3 : Int32} (fx : xr_Fx p m c meth cX8_codeOf 4 s args wsX8_codeOf RX8 (some .int)) (hK : xr_K D (ms_ty cI cJ cR) s) (hA : ∀ q, s.heap.size ≤ q → A q)  (k4 : ∀ (S : ms_T) (v1 : Int32) (v2 : Int32) (v3 : Int32) {H : Heap} {locs : List Loc} {ls : Array Slot}, va_P D vwCl (ms_w ad cI cJ S) H → va_D A (ms_w ad cI cJ S) → va_S A s.heap H locs → lv_has ls 4 [(0, .ref (ad 0)), (1, .int v1), (2, .int v2), (3, .int v3)] → K4 S v1 v2 v3 → W p l e rm_X8_codeOf s m args below meth c H locs 0 0 (MQ below (va_Qi Q (xr_B D (ms_ty cI cJ cR) (ms_w ad cI cJ) A) A) args s 0 0 A) (F0 m 4 ls [])) {H : Heap} {locs : List Loc} {ls : Array Slot} (hP : va_P D vwCl (ms_w ad cI cJ S) H) (hD : va_D A (ms_w ad cI cJ S)) (hS : va_S A s.heap H locs) (hl : lv_has ls 4 [(0, .ref (ad 0)), (1, .int v1), (2, .int v2), (3, .int v3)]) (h : wb_X8_codeOf_4 K4 Q S v1 v2 v3) : W p l e rm_X8_codeOf s m args below meth c H locs 0 0 (MQ below (va_Qi Q (xr_B D (ms_ty cI cJ cR) (ms_w ad cI cJ) A) A) args s 0 0 A) (F0 m 4 ls []) := by
  obtain ⟨⟨hx, hb, hml, hown, hts⟩, hrt, hlk⟩ := id fx
  have hf : 0 ≤ rm_X8_codeOf.cells ∧ 0 ≤ rm_X8_codeOf.slots := ⟨Nat.zero_le _, Nat.zero_le _⟩
  unfold wb_X8_codeOf_4 at h
  refine lv_iload_n hx hb dX8_codeOf_4 rfl (lv_at hl 3 rfl) ?_
  refine lv_aload_n hx hb dX8_codeOf_5 rfl (lv_at hl 0 rfl) ?_
  refine ms_get 5 (v := .ref (ad 3)) fx in_X8_codeOf (by decide) rfl (by decide +kernel) rfl hK hP dX8_codeOf_6 ?_
  refine lv_iload_n hx hb dX8_codeOf_9 rfl (lv_at hl 1 rfl) ?_
  obtain ⟨hi1, h⟩ := h
  refine ms_iald 2 (by decide) fx hK hP rfl hi1 dX8_codeOf_10 ?_
  refine lv_icmp_ge (tgt := 34) hx hb dX8_codeOf_11 (by decide) (fun c11 => ?_) (fun c11 => ?_)
  · have h := h.1 c11
    refine lv_iload_n hx hb dX8_codeOf_34 rfl (lv_at hl 2 rfl) ?_
    exact xr_rI fx hK hP hD hS h dX8_codeOf_35
  · have h := h.2 c11
    refine lv_bipush (v := 8) hx hb dX8_codeOf_14 (by decide) ?_
    refine lv_iload_n hx hb dX8_codeOf_16 rfl (lv_at hl 2 rfl) ?_
    refine lv_imul hx hb dX8_codeOf_17 ?_
    refine lv_aload_n hx hb dX8_codeOf_18 rfl (lv_at hl 0 rfl) ?_
    refine lv_iload_n hx hb dX8_codeOf_19 rfl (lv_at hl 1 rfl) ?_
    refine lv_iload_n hx hb dX8_codeOf_20 rfl (lv_at hl 3 rfl) ?_
    refine xr_vI (n := 2) (As := [.int v1, .int v3]) (rest := [.int (8 * v2)]) fx (ct_X8_letterAt l D ad cI cJ cR h) gX8_codeOf_X8_letterAt rfl rfl (by decide +kernel) ⟨Nat.le_of_ble_eq_true rfl, Nat.le_of_ble_eq_true rfl⟩ ⟨rfl, rfl⟩ hf (ms_recv hK hP) hK hP hD hS hA hl.1 rfl (Nat.le_of_ble_eq_true rfl) dX8_codeOf_21 (fun r3 S2 H locs h hP hD hS => ?_)
    refine lv_iadd hx hb dX8_codeOf_24 ?_
    refine lv_iconst (v := 1) hx hb dX8_codeOf_25 (by decide) ?_
    refine lv_iadd hx hb dX8_codeOf_26 ?_
    refine lv_topi (fun v2_4 ev2_4 => ?_)
    have h := h v2_4 ev2_4
    refine lv_istore_n (lv' := [(2, .int v2_4), (0, .ref (ad 0)), (1, .int v1), (3, .int v3)]) hx hb dX8_codeOf_27 rfl hl (by decide) rfl (fun ls hl => ?_)
    obtain ⟨v3_5, ev3_5⟩ : ∃ z : Int32, z = v3 + 1 := ⟨_, rfl⟩
    have h := h v3_5 ev3_5
    refine lv_iinc (v := v3_5) (lv' := [(3, .int v3_5), (2, .int v2_4), (0, .ref (ad 0)), (1, .int v1)]) hx hb dX8_codeOf_28 hl (k := 3) rfl (by rw [ev3_5]; rfl) (by decide) rfl (fun ls hl => ?_)
    refine lv_goto (tgt := 4) hx hb dX8_codeOf_31 (by decide) ?_
    exact k4 _ _ _ _ hP hD hS (lv_sub hl [2, 3, 1, 0] rfl) h
theorem kw_X8_codeOf_4 {p : Program} {l : Launch} {e : Env} {s : State} {m : MethodId} {args : Array Value} {below : List Frame} {meth : Method} {c : Code} {D : va_G} {ad : Nat → Nat} {cI cJ cR : ClassId} {A : Nat → Prop}  {Q : Int32 → ms_T → Prop} (fx : xr_Fx p m c meth cX8_codeOf 4 s args wsX8_codeOf RX8 (some .int)) (hK : xr_K D (ms_ty cI cJ cR) s) (hA : ∀ q, s.heap.size ≤ q → A q)  : ∀ (n : Nat) (S : ms_T) (v1 : Int32) (v2 : Int32) (v3 : Int32) {H : Heap} {locs : List Loc} {ls : Array Slot}, va_P D vwCl (ms_w ad cI cJ S) H → va_D A (ms_w ad cI cJ S) → va_S A s.heap H locs → lv_has ls 4 [(0, .ref (ad 0)), (1, .int v1), (2, .int v2), (3, .int v3)] → wp_X8_codeOf_4 Q n S v1 v2 v3 → W p l e rm_X8_codeOf s m args below meth c H locs 0 0 (MQ below (va_Qi Q (xr_B D (ms_ty cI cJ cR) (ms_w ad cI cJ) A) A) args s 0 0 A) (F0 m 4 ls []) := by
  intro n
  induction n with
  | zero => intro S v1 v2 v3 H locs ls hP hD hS hl h; exact False.elim h
  | succ n ih => intro S v1 v2 v3 H locs ls hP hD hS hl h; exact kb_X8_codeOf_4 fx hK hA ih hP hD hS hl h
set_option maxHeartbeats 4000000 in
set_option maxRecDepth 100000 in
theorem ct_X8_codeOf (l : Launch) (D : va_G) (ad : Nat → Nat) (cI cJ cR : ClassId) {S : ms_T} {a1 : Int32} {Q : Int32 → ms_T → Prop} (h : wp_X8_codeOf S a1 Q) : xr_I l D (ms_ty cI cJ cR) (ms_w ad cI cJ) yX8_codeOf wsX8_codeOf rm_X8_codeOf [.ref (ad 0), .int a1] S Q := by
  refine xr_eI (cc := cX8_codeOf) (nL := 4) (ret := (some .int)) (own := RX8) (by decide) rfl rfl (Nat.le_of_ble_eq_true rfl) ?_
  intro p e s m args below meth c ls A fx hK hA hP hD hS hl
  have hl : lv_has ls 4 [(0, .ref (ad 0)), (1, .int a1)] := hl
  show W p l e rm_X8_codeOf s m args below meth c s.heap [] 0 0 _ _
  obtain ⟨⟨hx, hb, hml, hown, hts⟩, hrt, hlk⟩ := id fx
  have hf : 0 ≤ rm_X8_codeOf.cells ∧ 0 ≤ rm_X8_codeOf.slots := ⟨Nat.zero_le _, Nat.zero_le _⟩
  unfold wp_X8_codeOf at h
  refine lv_iconst (v := 0) hx hb dX8_codeOf_0 (by decide) ?_
  refine lv_istore_n (lv' := [(2, .int 0), (0, .ref (ad 0)), (1, .int a1)]) hx hb dX8_codeOf_1 rfl hl (by decide) rfl (fun ls hl => ?_)
  refine lv_iconst (v := 0) hx hb dX8_codeOf_2 (by decide) ?_
  refine lv_istore_n (lv' := [(3, .int 0), (2, .int 0), (0, .ref (ad 0)), (1, .int a1)]) hx hb dX8_codeOf_3 rfl hl (by decide) rfl (fun ls hl => ?_)
  obtain ⟨n, h⟩ := h
  exact kw_X8_codeOf_4 fx hK hA n _ _ _ _ hP hD hS (lv_sub hl [2, 3, 1, 0] rfl) h
abbrev rm_X8_isSum : Room := { frames := 1, cells := 0, slots := 0, locals := 25 }
set_option maxHeartbeats 4000000 in
set_option maxRecDepth 100000 in
theorem ct_X8_isSum (l : Launch) {a0 : Int32} {Q : Int32 → Prop} (h : wp_X8_isSum a0 Q) : xr_SI l yX8_isSum wsX8_isSum rm_X8_isSum [.int a0] Q := by
  refine xr_eSI (cc := cX8_isSum) (nL := 1) (ret := (some .boolean)) (own := RX8) (by decide) rfl rfl (Nat.le_of_ble_eq_true rfl) ?_
  intro p e s m args below meth c ls fx hl
  have hl : lv_has ls 1 [(0, .int a0)] := hl
  show W p l e rm_X8_isSum s m args below meth c s.heap [] 0 0 _ _
  obtain ⟨⟨hx, hb, hml, hown, hts⟩, hrt, hlk⟩ := id fx
  have hf : 0 ≤ rm_X8_isSum.cells ∧ 0 ≤ rm_X8_isSum.slots := ⟨Nat.zero_le _, Nat.zero_le _⟩
  unfold wp_X8_isSum at h
  refine lv_iload_n hx hb dX8_isSum_0 rfl (lv_at hl 0 rfl) ?_
  refine lv_i2l hx hb dX8_isSum_1 rfl ?_
  refine lv_lconst (v := 0) hx hb dX8_isSum_2 (by decide) ?_
  refine lv_ldc2 (v := 7) hx hb hown (hts (.constantLong RX8 134 (7)) (by decide +kernel)) dX8_isSum_3 ?_
  refine xr_sI (n := 3) (As := [.long a0.toInt64, .long 0, .long 7]) (rest := []) fx (ct_X8_in l h) gX8_isSum_X8_in rfl rfl (by decide +kernel) ⟨Nat.le_of_ble_eq_true rfl, Nat.le_of_ble_eq_true rfl⟩ ⟨rfl, rfl⟩ hf hl.1 rfl (Nat.le_of_ble_eq_true rfl) dX8_isSum_6 (fun r1 h => ?_)
  exact xr_rSZ fx (xr_nar h.1) h.2 dX8_isSum_9
abbrev rm_X8_clears : Room := { frames := 0, cells := 0, slots := 0, locals := 0 }
theorem in_X8_clears : ∀ w ∈ wsX80, w ∈ wsX8_clears := by decide +kernel
set_option maxHeartbeats 4000000 in
set_option maxRecDepth 100000 in
theorem kb_X8_clears_2 {p : Program} {l : Launch} {e : Env} {s : State} {m : MethodId} {args : Array Value} {below : List Frame} {meth : Method} {c : Code} {D : va_G} {ad : Nat → Nat} {cI cJ cR : ClassId} {A : Nat → Prop}  {K2 : ms_T → Int32 → Int32 → Prop} {Q : ms_T → Prop} {S : ms_T} {v1 : Int32} {v2 : Int32} (fx : xr_Fx p m c meth cX8_clears 3 s args wsX8_clears RX8 none) (hK : xr_K D (ms_ty cI cJ cR) s) (hA : ∀ q, s.heap.size ≤ q → A q)  (k2 : ∀ (S : ms_T) (v1 : Int32) (v2 : Int32) {H : Heap} {locs : List Loc} {ls : Array Slot}, va_P D vwCl (ms_w ad cI cJ S) H → va_D A (ms_w ad cI cJ S) → va_S A s.heap H locs → lv_has ls 3 [(0, .ref (ad 0)), (1, .int v1), (2, .int v2)] → K2 S v1 v2 → W p l e rm_X8_clears s m args below meth c H locs 0 0 (MQ below (va_Qv Q (xr_B D (ms_ty cI cJ cR) (ms_w ad cI cJ) A) A) args s 0 0 A) (F0 m 2 ls [])) {H : Heap} {locs : List Loc} {ls : Array Slot} (hP : va_P D vwCl (ms_w ad cI cJ S) H) (hD : va_D A (ms_w ad cI cJ S)) (hS : va_S A s.heap H locs) (hl : lv_has ls 3 [(0, .ref (ad 0)), (1, .int v1), (2, .int v2)]) (h : wb_X8_clears_2 K2 Q S v1 v2) : W p l e rm_X8_clears s m args below meth c H locs 0 0 (MQ below (va_Qv Q (xr_B D (ms_ty cI cJ cR) (ms_w ad cI cJ) A) A) args s 0 0 A) (F0 m 2 ls []) := by
  obtain ⟨⟨hx, hb, hml, hown, hts⟩, hrt, hlk⟩ := id fx
  have hf : 0 ≤ rm_X8_clears.cells ∧ 0 ≤ rm_X8_clears.slots := ⟨Nat.zero_le _, Nat.zero_le _⟩
  unfold wb_X8_clears_2 at h
  refine lv_iload_n hx hb dX8_clears_2 rfl (lv_at hl 2 rfl) ?_
  refine lv_aload_n hx hb dX8_clears_3 rfl (lv_at hl 0 rfl) ?_
  refine ms_get 2 (v := .int (S.1 2)) fx in_X8_clears (by decide) rfl (by decide +kernel) rfl hK hP dX8_clears_4 ?_
  refine lv_icmp_ge (tgt := 29) hx hb dX8_clears_7 (by decide) (fun c7 => ?_) (fun c7 => ?_)
  · have h := h.1 c7
    exact xr_rV fx hK hP hD hS h dX8_clears_29
  · have h := h.2 c7
    refine lv_aload_n hx hb dX8_clears_10 rfl (lv_at hl 0 rfl) ?_
    refine ms_get 6 (v := .ref (ad 15)) fx in_X8_clears (by decide) rfl (by decide +kernel) rfl hK hP dX8_clears_11 ?_
    refine lv_sipush (v := 364) hx hb dX8_clears_14 (by decide) ?_
    refine lv_iload_n hx hb dX8_clears_17 rfl (lv_at hl 1 rfl) ?_
    refine lv_imul hx hb dX8_clears_18 ?_
    refine lv_iload_n hx hb dX8_clears_19 rfl (lv_at hl 2 rfl) ?_
    refine lv_iadd hx hb dX8_clears_20 ?_
    refine lv_lconst (v := 0) hx hb dX8_clears_21 (by decide) ?_
    obtain ⟨hi1, h⟩ := h
    refine ms_last 0 (by decide) fx hK hP hD hS rfl hi1 dX8_clears_22 (fun H locs hP hD hS => ?_)
    obtain ⟨v2_2, ev2_2⟩ : ∃ z : Int32, z = v2 + 1 := ⟨_, rfl⟩
    have h := h v2_2 ev2_2
    refine lv_iinc (v := v2_2) (lv' := [(2, .int v2_2), (0, .ref (ad 0)), (1, .int v1)]) hx hb dX8_clears_23 hl (k := 2) rfl (by rw [ev2_2]; rfl) (by decide) rfl (fun ls hl => ?_)
    refine lv_goto (tgt := 2) hx hb dX8_clears_26 (by decide) ?_
    exact k2 _ _ _ hP hD hS (lv_sub hl [1, 2, 0] rfl) h
theorem kw_X8_clears_2 {p : Program} {l : Launch} {e : Env} {s : State} {m : MethodId} {args : Array Value} {below : List Frame} {meth : Method} {c : Code} {D : va_G} {ad : Nat → Nat} {cI cJ cR : ClassId} {A : Nat → Prop}  {Q : ms_T → Prop} (fx : xr_Fx p m c meth cX8_clears 3 s args wsX8_clears RX8 none) (hK : xr_K D (ms_ty cI cJ cR) s) (hA : ∀ q, s.heap.size ≤ q → A q)  : ∀ (n : Nat) (S : ms_T) (v1 : Int32) (v2 : Int32) {H : Heap} {locs : List Loc} {ls : Array Slot}, va_P D vwCl (ms_w ad cI cJ S) H → va_D A (ms_w ad cI cJ S) → va_S A s.heap H locs → lv_has ls 3 [(0, .ref (ad 0)), (1, .int v1), (2, .int v2)] → wp_X8_clears_2 Q n S v1 v2 → W p l e rm_X8_clears s m args below meth c H locs 0 0 (MQ below (va_Qv Q (xr_B D (ms_ty cI cJ cR) (ms_w ad cI cJ) A) A) args s 0 0 A) (F0 m 2 ls []) := by
  intro n
  induction n with
  | zero => intro S v1 v2 H locs ls hP hD hS hl h; exact False.elim h
  | succ n ih => intro S v1 v2 H locs ls hP hD hS hl h; exact kb_X8_clears_2 fx hK hA ih hP hD hS hl h
set_option maxHeartbeats 4000000 in
set_option maxRecDepth 100000 in
theorem ct_X8_clears (l : Launch) (D : va_G) (ad : Nat → Nat) (cI cJ cR : ClassId) {S : ms_T} {a1 : Int32} {Q : ms_T → Prop} (h : wp_X8_clears S a1 Q) : xr_V l D (ms_ty cI cJ cR) (ms_w ad cI cJ) yX8_clears wsX8_clears rm_X8_clears [.ref (ad 0), .int a1] S Q := by
  refine xr_eV (cc := cX8_clears) (nL := 3) (ret := none) (own := RX8) (by decide) rfl rfl (Nat.le_of_ble_eq_true rfl) ?_
  intro p e s m args below meth c ls A fx hK hA hP hD hS hl
  have hl : lv_has ls 3 [(0, .ref (ad 0)), (1, .int a1)] := hl
  show W p l e rm_X8_clears s m args below meth c s.heap [] 0 0 _ _
  obtain ⟨⟨hx, hb, hml, hown, hts⟩, hrt, hlk⟩ := id fx
  have hf : 0 ≤ rm_X8_clears.cells ∧ 0 ≤ rm_X8_clears.slots := ⟨Nat.zero_le _, Nat.zero_le _⟩
  unfold wp_X8_clears at h
  refine lv_iconst (v := 0) hx hb dX8_clears_0 (by decide) ?_
  refine lv_istore_n (lv' := [(2, .int 0), (0, .ref (ad 0)), (1, .int a1)]) hx hb dX8_clears_1 rfl hl (by decide) rfl (fun ls hl => ?_)
  obtain ⟨n, h⟩ := h
  exact kw_X8_clears_2 fx hK hA n _ _ _ hP hD hS (lv_sub hl [1, 2, 0] rfl) h
abbrev rm_X8_copies : Room := { frames := 0, cells := 0, slots := 0, locals := 0 }
theorem in_X8_copies : ∀ w ∈ wsX80, w ∈ wsX8_copies := by decide +kernel
set_option maxHeartbeats 4000000 in
set_option maxRecDepth 100000 in
theorem kb_X8_copies_2 {p : Program} {l : Launch} {e : Env} {s : State} {m : MethodId} {args : Array Value} {below : List Frame} {meth : Method} {c : Code} {D : va_G} {ad : Nat → Nat} {cI cJ cR : ClassId} {A : Nat → Prop}  {K2 : ms_T → Int32 → Int32 → Int32 → Prop} {Q : ms_T → Prop} {S : ms_T} {v1 : Int32} {v2 : Int32} {v3 : Int32} (fx : xr_Fx p m c meth cX8_copies 4 s args wsX8_copies RX8 none) (hK : xr_K D (ms_ty cI cJ cR) s) (hA : ∀ q, s.heap.size ≤ q → A q)  (k2 : ∀ (S : ms_T) (v1 : Int32) (v2 : Int32) (v3 : Int32) {H : Heap} {locs : List Loc} {ls : Array Slot}, va_P D vwCl (ms_w ad cI cJ S) H → va_D A (ms_w ad cI cJ S) → va_S A s.heap H locs → lv_has ls 4 [(0, .ref (ad 0)), (1, .int v1), (2, .int v2), (3, .int v3)] → K2 S v1 v2 v3 → W p l e rm_X8_copies s m args below meth c H locs 0 0 (MQ below (va_Qv Q (xr_B D (ms_ty cI cJ cR) (ms_w ad cI cJ) A) A) args s 0 0 A) (F0 m 2 ls [])) {H : Heap} {locs : List Loc} {ls : Array Slot} (hP : va_P D vwCl (ms_w ad cI cJ S) H) (hD : va_D A (ms_w ad cI cJ S)) (hS : va_S A s.heap H locs) (hl : lv_has ls 4 [(0, .ref (ad 0)), (1, .int v1), (2, .int v2), (3, .int v3)]) (h : wb_X8_copies_2 K2 Q S v1 v2 v3) : W p l e rm_X8_copies s m args below meth c H locs 0 0 (MQ below (va_Qv Q (xr_B D (ms_ty cI cJ cR) (ms_w ad cI cJ) A) A) args s 0 0 A) (F0 m 2 ls []) := by
  obtain ⟨⟨hx, hb, hml, hown, hts⟩, hrt, hlk⟩ := id fx
  have hf : 0 ≤ rm_X8_copies.cells ∧ 0 ≤ rm_X8_copies.slots := ⟨Nat.zero_le _, Nat.zero_le _⟩
  unfold wb_X8_copies_2 at h
  refine lv_iload_n hx hb dX8_copies_2 rfl (lv_at hl 3 rfl) ?_
  refine lv_aload_n hx hb dX8_copies_3 rfl (lv_at hl 0 rfl) ?_
  refine ms_get 2 (v := .int (S.1 2)) fx in_X8_copies (by decide) rfl (by decide +kernel) rfl hK hP dX8_copies_4 ?_
  refine lv_icmp_ge (tgt := 40) hx hb dX8_copies_7 (by decide) (fun c7 => ?_) (fun c7 => ?_)
  · have h := h.1 c7
    exact xr_rV fx hK hP hD hS h dX8_copies_40
  · have h := h.2 c7
    refine lv_aload_n hx hb dX8_copies_10 rfl (lv_at hl 0 rfl) ?_
    refine ms_get 6 (v := .ref (ad 15)) fx in_X8_copies (by decide) rfl (by decide +kernel) rfl hK hP dX8_copies_11 ?_
    refine lv_sipush (v := 364) hx hb dX8_copies_14 (by decide) ?_
    refine lv_iload_n hx hb dX8_copies_17 rfl (lv_at hl 1 rfl) ?_
    refine lv_imul hx hb dX8_copies_18 ?_
    refine lv_iload_n hx hb dX8_copies_19 rfl (lv_at hl 3 rfl) ?_
    refine lv_iadd hx hb dX8_copies_20 ?_
    refine lv_aload_n hx hb dX8_copies_21 rfl (lv_at hl 0 rfl) ?_
    refine ms_get 6 (v := .ref (ad 15)) fx in_X8_copies (by decide) rfl (by decide +kernel) rfl hK hP dX8_copies_22 ?_
    refine lv_sipush (v := 364) hx hb dX8_copies_25 (by decide) ?_
    refine lv_iload_n hx hb dX8_copies_28 rfl (lv_at hl 2 rfl) ?_
    refine lv_imul hx hb dX8_copies_29 ?_
    refine lv_iload_n hx hb dX8_copies_30 rfl (lv_at hl 3 rfl) ?_
    refine lv_iadd hx hb dX8_copies_31 ?_
    obtain ⟨hi1, h⟩ := h
    refine ms_lald 0 (by decide) fx hK hP rfl hi1 dX8_copies_32 ?_
    obtain ⟨hi2, h⟩ := h
    refine ms_last 0 (by decide) fx hK hP hD hS rfl hi2 dX8_copies_33 (fun H locs hP hD hS => ?_)
    obtain ⟨v3_3, ev3_3⟩ : ∃ z : Int32, z = v3 + 1 := ⟨_, rfl⟩
    have h := h v3_3 ev3_3
    refine lv_iinc (v := v3_3) (lv' := [(3, .int v3_3), (0, .ref (ad 0)), (1, .int v1), (2, .int v2)]) hx hb dX8_copies_34 hl (k := 3) rfl (by rw [ev3_3]; rfl) (by decide) rfl (fun ls hl => ?_)
    refine lv_goto (tgt := 2) hx hb dX8_copies_37 (by decide) ?_
    exact k2 _ _ _ _ hP hD hS (lv_sub hl [1, 2, 3, 0] rfl) h
theorem kw_X8_copies_2 {p : Program} {l : Launch} {e : Env} {s : State} {m : MethodId} {args : Array Value} {below : List Frame} {meth : Method} {c : Code} {D : va_G} {ad : Nat → Nat} {cI cJ cR : ClassId} {A : Nat → Prop}  {Q : ms_T → Prop} (fx : xr_Fx p m c meth cX8_copies 4 s args wsX8_copies RX8 none) (hK : xr_K D (ms_ty cI cJ cR) s) (hA : ∀ q, s.heap.size ≤ q → A q)  : ∀ (n : Nat) (S : ms_T) (v1 : Int32) (v2 : Int32) (v3 : Int32) {H : Heap} {locs : List Loc} {ls : Array Slot}, va_P D vwCl (ms_w ad cI cJ S) H → va_D A (ms_w ad cI cJ S) → va_S A s.heap H locs → lv_has ls 4 [(0, .ref (ad 0)), (1, .int v1), (2, .int v2), (3, .int v3)] → wp_X8_copies_2 Q n S v1 v2 v3 → W p l e rm_X8_copies s m args below meth c H locs 0 0 (MQ below (va_Qv Q (xr_B D (ms_ty cI cJ cR) (ms_w ad cI cJ) A) A) args s 0 0 A) (F0 m 2 ls []) := by
  intro n
  induction n with
  | zero => intro S v1 v2 v3 H locs ls hP hD hS hl h; exact False.elim h
  | succ n ih => intro S v1 v2 v3 H locs ls hP hD hS hl h; exact kb_X8_copies_2 fx hK hA ih hP hD hS hl h
set_option maxHeartbeats 4000000 in
set_option maxRecDepth 100000 in
theorem ct_X8_copies (l : Launch) (D : va_G) (ad : Nat → Nat) (cI cJ cR : ClassId) {S : ms_T} {a1 : Int32} {a2 : Int32} {Q : ms_T → Prop} (h : wp_X8_copies S a1 a2 Q) : xr_V l D (ms_ty cI cJ cR) (ms_w ad cI cJ) yX8_copies wsX8_copies rm_X8_copies [.ref (ad 0), .int a1, .int a2] S Q := by
  refine xr_eV (cc := cX8_copies) (nL := 4) (ret := none) (own := RX8) (by decide) rfl rfl (Nat.le_of_ble_eq_true rfl) ?_
  intro p e s m args below meth c ls A fx hK hA hP hD hS hl
  have hl : lv_has ls 4 [(0, .ref (ad 0)), (1, .int a1), (2, .int a2)] := hl
  show W p l e rm_X8_copies s m args below meth c s.heap [] 0 0 _ _
  obtain ⟨⟨hx, hb, hml, hown, hts⟩, hrt, hlk⟩ := id fx
  have hf : 0 ≤ rm_X8_copies.cells ∧ 0 ≤ rm_X8_copies.slots := ⟨Nat.zero_le _, Nat.zero_le _⟩
  unfold wp_X8_copies at h
  refine lv_iconst (v := 0) hx hb dX8_copies_0 (by decide) ?_
  refine lv_istore_n (lv' := [(3, .int 0), (0, .ref (ad 0)), (1, .int a1), (2, .int a2)]) hx hb dX8_copies_1 rfl hl (by decide) rfl (fun ls hl => ?_)
  obtain ⟨n, h⟩ := h
  exact kw_X8_copies_2 fx hK hA n _ _ _ _ hP hD hS (lv_sub hl [1, 2, 3, 0] rfl) h
abbrev rm_X8_adds : Room := { frames := 0, cells := 0, slots := 0, locals := 0 }
theorem in_X8_adds : ∀ w ∈ wsX80, w ∈ wsX8_adds := by decide +kernel
set_option maxHeartbeats 4000000 in
set_option maxRecDepth 100000 in
theorem kb_X8_adds_3 {p : Program} {l : Launch} {e : Env} {s : State} {m : MethodId} {args : Array Value} {below : List Frame} {meth : Method} {c : Code} {D : va_G} {ad : Nat → Nat} {cI cJ cR : ClassId} {A : Nat → Prop}  {K3 : ms_T → Int32 → Int32 → Int64 → Int32 → Prop} {Q : ms_T → Prop} {S : ms_T} {v1 : Int32} {v2 : Int32} {v3 : Int64} {v5 : Int32} (fx : xr_Fx p m c meth cX8_adds 6 s args wsX8_adds RX8 none) (hK : xr_K D (ms_ty cI cJ cR) s) (hA : ∀ q, s.heap.size ≤ q → A q)  (k3 : ∀ (S : ms_T) (v1 : Int32) (v2 : Int32) (v3 : Int64) (v5 : Int32) {H : Heap} {locs : List Loc} {ls : Array Slot}, va_P D vwCl (ms_w ad cI cJ S) H → va_D A (ms_w ad cI cJ S) → va_S A s.heap H locs → lv_has ls 6 [(0, .ref (ad 0)), (1, .int v1), (2, .int v2), (3, .long v3), (5, .int v5)] → K3 S v1 v2 v3 v5 → W p l e rm_X8_adds s m args below meth c H locs 0 0 (MQ below (va_Qv Q (xr_B D (ms_ty cI cJ cR) (ms_w ad cI cJ) A) A) args s 0 0 A) (F0 m 3 ls [])) {H : Heap} {locs : List Loc} {ls : Array Slot} (hP : va_P D vwCl (ms_w ad cI cJ S) H) (hD : va_D A (ms_w ad cI cJ S)) (hS : va_S A s.heap H locs) (hl : lv_has ls 6 [(0, .ref (ad 0)), (1, .int v1), (2, .int v2), (3, .long v3), (5, .int v5)]) (h : wb_X8_adds_3 K3 Q S v1 v2 v3 v5) : W p l e rm_X8_adds s m args below meth c H locs 0 0 (MQ below (va_Qv Q (xr_B D (ms_ty cI cJ cR) (ms_w ad cI cJ) A) A) args s 0 0 A) (F0 m 3 ls []) := by
  obtain ⟨⟨hx, hb, hml, hown, hts⟩, hrt, hlk⟩ := id fx
  have hf : 0 ≤ rm_X8_adds.cells ∧ 0 ≤ rm_X8_adds.slots := ⟨Nat.zero_le _, Nat.zero_le _⟩
  unfold wb_X8_adds_3 at h
  refine lv_iload hx hb dX8_adds_3 (lv_at hl 4 rfl) ?_
  refine lv_aload_n hx hb dX8_adds_5 rfl (lv_at hl 0 rfl) ?_
  refine ms_get 2 (v := .int (S.1 2)) fx in_X8_adds (by decide) rfl (by decide +kernel) rfl hK hP dX8_adds_6 ?_
  refine lv_icmp_ge (tgt := 64) hx hb dX8_adds_9 (by decide) (fun c9 => ?_) (fun c9 => ?_)
  · have h := h.1 c9
    exact xr_rV fx hK hP hD hS h dX8_adds_64
  · have h := h.2 c9
    refine lv_aload_n hx hb dX8_adds_12 rfl (lv_at hl 0 rfl) ?_
    refine ms_get 6 (v := .ref (ad 15)) fx in_X8_adds (by decide) rfl (by decide +kernel) rfl hK hP dX8_adds_13 ?_
    refine lv_sipush (v := 364) hx hb dX8_adds_16 (by decide) ?_
    refine lv_iload_n hx hb dX8_adds_19 rfl (lv_at hl 1 rfl) ?_
    refine lv_imul hx hb dX8_adds_20 ?_
    refine lv_iload hx hb dX8_adds_21 (lv_at hl 4 rfl) ?_
    refine lv_iadd hx hb dX8_adds_23 ?_
    refine lv_aload_n hx hb dX8_adds_24 rfl (lv_at hl 0 rfl) ?_
    refine ms_get 6 (v := .ref (ad 15)) fx in_X8_adds (by decide) rfl (by decide +kernel) rfl hK hP dX8_adds_25 ?_
    refine lv_sipush (v := 364) hx hb dX8_adds_28 (by decide) ?_
    refine lv_iload_n hx hb dX8_adds_31 rfl (lv_at hl 1 rfl) ?_
    refine lv_imul hx hb dX8_adds_32 ?_
    refine lv_iload hx hb dX8_adds_33 (lv_at hl 4 rfl) ?_
    refine lv_iadd hx hb dX8_adds_35 ?_
    obtain ⟨hi1, h⟩ := h
    refine ms_lald 0 (by decide) fx hK hP rfl hi1 dX8_adds_36 ?_
    refine lv_aload_n hx hb dX8_adds_37 rfl (lv_at hl 0 rfl) ?_
    refine ms_get 6 (v := .ref (ad 15)) fx in_X8_adds (by decide) rfl (by decide +kernel) rfl hK hP dX8_adds_38 ?_
    refine lv_sipush (v := 364) hx hb dX8_adds_41 (by decide) ?_
    refine lv_iload_n hx hb dX8_adds_44 rfl (lv_at hl 2 rfl) ?_
    refine lv_imul hx hb dX8_adds_45 ?_
    refine lv_iload hx hb dX8_adds_46 (lv_at hl 4 rfl) ?_
    refine lv_iadd hx hb dX8_adds_48 ?_
    obtain ⟨hi2, h⟩ := h
    refine ms_lald 0 (by decide) fx hK hP rfl hi2 dX8_adds_49 ?_
    refine lv_lload_n hx hb dX8_adds_50 rfl (lv_at hl 3 rfl) ?_
    refine lv_lmul hx hb dX8_adds_51 ?_
    refine lv_ladd hx hb dX8_adds_52 ?_
    refine lv_ldc2 (v := 2147483647) hx hb hown (hts (.constantLong RX8 3 (2147483647)) (by decide +kernel)) dX8_adds_53 ?_
    refine lv_lrem hx hb dX8_adds_56 (by decide) ?_
    obtain ⟨hi3, h⟩ := h
    refine ms_last 0 (by decide) fx hK hP hD hS rfl hi3 dX8_adds_57 (fun H locs hP hD hS => ?_)
    obtain ⟨v5_4, ev5_4⟩ : ∃ z : Int32, z = v5 + 1 := ⟨_, rfl⟩
    have h := h v5_4 ev5_4
    refine lv_iinc (v := v5_4) (lv' := [(5, .int v5_4), (0, .ref (ad 0)), (1, .int v1), (2, .int v2), (3, .long v3)]) hx hb dX8_adds_58 hl (k := 4) rfl (by rw [ev5_4]; rfl) (by decide) rfl (fun ls hl => ?_)
    refine lv_goto (tgt := 3) hx hb dX8_adds_61 (by decide) ?_
    exact k3 _ _ _ _ _ hP hD hS (lv_sub hl [1, 2, 3, 4, 0] rfl) h
theorem kw_X8_adds_3 {p : Program} {l : Launch} {e : Env} {s : State} {m : MethodId} {args : Array Value} {below : List Frame} {meth : Method} {c : Code} {D : va_G} {ad : Nat → Nat} {cI cJ cR : ClassId} {A : Nat → Prop}  {Q : ms_T → Prop} (fx : xr_Fx p m c meth cX8_adds 6 s args wsX8_adds RX8 none) (hK : xr_K D (ms_ty cI cJ cR) s) (hA : ∀ q, s.heap.size ≤ q → A q)  : ∀ (n : Nat) (S : ms_T) (v1 : Int32) (v2 : Int32) (v3 : Int64) (v5 : Int32) {H : Heap} {locs : List Loc} {ls : Array Slot}, va_P D vwCl (ms_w ad cI cJ S) H → va_D A (ms_w ad cI cJ S) → va_S A s.heap H locs → lv_has ls 6 [(0, .ref (ad 0)), (1, .int v1), (2, .int v2), (3, .long v3), (5, .int v5)] → wp_X8_adds_3 Q n S v1 v2 v3 v5 → W p l e rm_X8_adds s m args below meth c H locs 0 0 (MQ below (va_Qv Q (xr_B D (ms_ty cI cJ cR) (ms_w ad cI cJ) A) A) args s 0 0 A) (F0 m 3 ls []) := by
  intro n
  induction n with
  | zero => intro S v1 v2 v3 v5 H locs ls hP hD hS hl h; exact False.elim h
  | succ n ih => intro S v1 v2 v3 v5 H locs ls hP hD hS hl h; exact kb_X8_adds_3 fx hK hA ih hP hD hS hl h
set_option maxHeartbeats 4000000 in
set_option maxRecDepth 100000 in
theorem ct_X8_adds (l : Launch) (D : va_G) (ad : Nat → Nat) (cI cJ cR : ClassId) {S : ms_T} {a1 : Int32} {a2 : Int32} {a3 : Int64} {Q : ms_T → Prop} (h : wp_X8_adds S a1 a2 a3 Q) : xr_V l D (ms_ty cI cJ cR) (ms_w ad cI cJ) yX8_adds wsX8_adds rm_X8_adds [.ref (ad 0), .int a1, .int a2, .long a3] S Q := by
  refine xr_eV (cc := cX8_adds) (nL := 6) (ret := none) (own := RX8) (by decide) rfl rfl (Nat.le_of_ble_eq_true rfl) ?_
  intro p e s m args below meth c ls A fx hK hA hP hD hS hl
  have hl : lv_has ls 6 [(0, .ref (ad 0)), (1, .int a1), (2, .int a2), (3, .long a3)] := hl
  show W p l e rm_X8_adds s m args below meth c s.heap [] 0 0 _ _
  obtain ⟨⟨hx, hb, hml, hown, hts⟩, hrt, hlk⟩ := id fx
  have hf : 0 ≤ rm_X8_adds.cells ∧ 0 ≤ rm_X8_adds.slots := ⟨Nat.zero_le _, Nat.zero_le _⟩
  unfold wp_X8_adds at h
  refine lv_iconst (v := 0) hx hb dX8_adds_0 (by decide) ?_
  refine lv_istore (lv' := [(5, .int 0), (0, .ref (ad 0)), (1, .int a1), (2, .int a2), (3, .long a3)]) hx hb dX8_adds_1 hl (by decide) rfl (fun ls hl => ?_)
  obtain ⟨n, h⟩ := h
  exact kw_X8_adds_3 fx hK hA n _ _ _ _ _ hP hD hS (lv_sub hl [1, 2, 3, 4, 0] rfl) h
abbrev rm_X8_ones : Room := { frames := 1, cells := 0, slots := 0, locals := 22 }
theorem in_X8_ones : ∀ w ∈ wsX80, w ∈ wsX8_ones := by decide +kernel
set_option maxHeartbeats 4000000 in
set_option maxRecDepth 100000 in
theorem ct_X8_ones (l : Launch) (D : va_G) (ad : Nat → Nat) (cI cJ cR : ClassId) {S : ms_T} {a1 : Int32} {Q : ms_T → Prop} (h : wp_X8_ones S a1 Q) : xr_V l D (ms_ty cI cJ cR) (ms_w ad cI cJ) yX8_ones wsX8_ones rm_X8_ones [.ref (ad 0), .int a1] S Q := by
  refine xr_eV (cc := cX8_ones) (nL := 2) (ret := none) (own := RX8) (by decide) rfl rfl (Nat.le_of_ble_eq_true rfl) ?_
  intro p e s m args below meth c ls A fx hK hA hP hD hS hl
  have hl : lv_has ls 2 [(0, .ref (ad 0)), (1, .int a1)] := hl
  show W p l e rm_X8_ones s m args below meth c s.heap [] 0 0 _ _
  obtain ⟨⟨hx, hb, hml, hown, hts⟩, hrt, hlk⟩ := id fx
  have hf : 0 ≤ rm_X8_ones.cells ∧ 0 ≤ rm_X8_ones.slots := ⟨Nat.zero_le _, Nat.zero_le _⟩
  unfold wp_X8_ones at h
  refine lv_aload_n hx hb dX8_ones_0 rfl (lv_at hl 0 rfl) ?_
  refine lv_iload_n hx hb dX8_ones_1 rfl (lv_at hl 1 rfl) ?_
  refine xr_vV (n := 1) (As := [.int a1]) (rest := []) fx (ct_X8_clears l D ad cI cJ cR h) gX8_ones_X8_clears rfl rfl (by decide +kernel) ⟨Nat.le_of_ble_eq_true rfl, Nat.le_of_ble_eq_true rfl⟩ ⟨rfl, rfl⟩ hf (ms_recv hK hP) hK hP hD hS hA hl.1 rfl (Nat.le_of_ble_eq_true rfl) dX8_ones_2 (fun S1 H locs h hP hD hS => ?_)
  refine lv_aload_n hx hb dX8_ones_5 rfl (lv_at hl 0 rfl) ?_
  refine ms_get 6 (v := .ref (ad 15)) fx in_X8_ones (by decide) rfl (by decide +kernel) rfl hK hP dX8_ones_6 ?_
  refine lv_sipush (v := 364) hx hb dX8_ones_9 (by decide) ?_
  refine lv_iload_n hx hb dX8_ones_12 rfl (lv_at hl 1 rfl) ?_
  refine lv_imul hx hb dX8_ones_13 ?_
  refine lv_lconst (v := 1) hx hb dX8_ones_14 (by decide) ?_
  obtain ⟨hi2, h⟩ := h
  refine ms_last 0 (by decide) fx hK hP hD hS rfl hi2 dX8_ones_15 (fun H locs hP hD hS => ?_)
  exact xr_rV fx hK hP hD hS h dX8_ones_16
abbrev rm_X8_multiplies : Room := { frames := 1, cells := 0, slots := 0, locals := 23 }
theorem in_X8_multiplies : ∀ w ∈ wsX80, w ∈ wsX8_multiplies := by decide +kernel
set_option maxHeartbeats 4000000 in
set_option maxRecDepth 100000 in
theorem kb_X8_multiplies_23 {p : Program} {l : Launch} {e : Env} {s : State} {m : MethodId} {args : Array Value} {below : List Frame} {meth : Method} {c : Code} {D : va_G} {ad : Nat → Nat} {cI cJ cR : ClassId} {A : Nat → Prop} {K8 : ms_T → Int32 → Int32 → Int32 → Int32 → Prop} {K23 : ms_T → Int32 → Int32 → Int32 → Int32 → Int64 → Int32 → Prop} {Q : ms_T → Prop} {S : ms_T} {v1 : Int32} {v2 : Int32} {v3 : Int32} {v4 : Int32} {v5 : Int64} {v7 : Int32} (fx : xr_Fx p m c meth cX8_multiplies 8 s args wsX8_multiplies RX8 none) (hK : xr_K D (ms_ty cI cJ cR) s) (hA : ∀ q, s.heap.size ≤ q → A q) (k8 : ∀ (S : ms_T) (v1 : Int32) (v2 : Int32) (v3 : Int32) (v4 : Int32) {H : Heap} {locs : List Loc} {ls : Array Slot}, va_P D vwCl (ms_w ad cI cJ S) H → va_D A (ms_w ad cI cJ S) → va_S A s.heap H locs → lv_has ls 8 [(0, .ref (ad 0)), (1, .int v1), (2, .int v2), (3, .int v3), (4, .int v4)] → K8 S v1 v2 v3 v4 → W p l e rm_X8_multiplies s m args below meth c H locs 0 0 (MQ below (va_Qv Q (xr_B D (ms_ty cI cJ cR) (ms_w ad cI cJ) A) A) args s 0 0 A) (F0 m 8 ls [])) (k23 : ∀ (S : ms_T) (v1 : Int32) (v2 : Int32) (v3 : Int32) (v4 : Int32) (v5 : Int64) (v7 : Int32) {H : Heap} {locs : List Loc} {ls : Array Slot}, va_P D vwCl (ms_w ad cI cJ S) H → va_D A (ms_w ad cI cJ S) → va_S A s.heap H locs → lv_has ls 8 [(0, .ref (ad 0)), (1, .int v1), (2, .int v2), (3, .int v3), (4, .int v4), (5, .long v5), (7, .int v7)] → K23 S v1 v2 v3 v4 v5 v7 → W p l e rm_X8_multiplies s m args below meth c H locs 0 0 (MQ below (va_Qv Q (xr_B D (ms_ty cI cJ cR) (ms_w ad cI cJ) A) A) args s 0 0 A) (F0 m 23 ls [])) {H : Heap} {locs : List Loc} {ls : Array Slot} (hP : va_P D vwCl (ms_w ad cI cJ S) H) (hD : va_D A (ms_w ad cI cJ S)) (hS : va_S A s.heap H locs) (hl : lv_has ls 8 [(0, .ref (ad 0)), (1, .int v1), (2, .int v2), (3, .int v3), (4, .int v4), (5, .long v5), (7, .int v7)]) (h : wb_X8_multiplies_23 K8 K23 Q S v1 v2 v3 v4 v5 v7) : W p l e rm_X8_multiplies s m args below meth c H locs 0 0 (MQ below (va_Qv Q (xr_B D (ms_ty cI cJ cR) (ms_w ad cI cJ) A) A) args s 0 0 A) (F0 m 23 ls []) := by
  obtain ⟨⟨hx, hb, hml, hown, hts⟩, hrt, hlk⟩ := id fx
  have hf : 0 ≤ rm_X8_multiplies.cells ∧ 0 ≤ rm_X8_multiplies.slots := ⟨Nat.zero_le _, Nat.zero_le _⟩
  unfold wb_X8_multiplies_23 at h
  refine lv_iload hx hb dX8_multiplies_23 (lv_at hl 6 rfl) ?_
  refine lv_aload_n hx hb dX8_multiplies_25 rfl (lv_at hl 0 rfl) ?_
  refine ms_get 5 (v := .ref (ad 3)) fx in_X8_multiplies (by decide) rfl (by decide +kernel) rfl hK hP dX8_multiplies_26 ?_
  refine lv_iload hx hb dX8_multiplies_29 (lv_at hl 4 rfl) ?_
  obtain ⟨hi1, h⟩ := h
  refine ms_iald 2 (by decide) fx hK hP rfl hi1 dX8_multiplies_31 ?_
  refine lv_icmp_gt (tgt := 89) hx hb dX8_multiplies_32 (by decide) (fun c32 => ?_) (fun c32 => ?_)
  · have h := h.1 c32
    refine lv_aload_n hx hb dX8_multiplies_89 rfl (lv_at hl 0 rfl) ?_
    refine ms_get 6 (v := .ref (ad 15)) fx in_X8_multiplies (by decide) rfl (by decide +kernel) rfl hK hP dX8_multiplies_90 ?_
    refine lv_sipush (v := 364) hx hb dX8_multiplies_93 (by decide) ?_
    refine lv_iload_n hx hb dX8_multiplies_96 rfl (lv_at hl 1 rfl) ?_
    refine lv_imul hx hb dX8_multiplies_97 ?_
    refine lv_iload hx hb dX8_multiplies_98 (lv_at hl 4 rfl) ?_
    refine lv_iadd hx hb dX8_multiplies_100 ?_
    refine lv_lload hx hb dX8_multiplies_101 (lv_at hl 5 rfl) ?_
    obtain ⟨hi2, h⟩ := h
    refine ms_last 0 (by decide) fx hK hP hD hS rfl hi2 dX8_multiplies_103 (fun H locs hP hD hS => ?_)
    obtain ⟨v4_3, ev4_3⟩ : ∃ z : Int32, z = v4 + 1 := ⟨_, rfl⟩
    have h := h v4_3 ev4_3
    refine lv_iinc (v := v4_3) (lv' := [(4, .int v4_3), (0, .ref (ad 0)), (1, .int v1), (2, .int v2), (3, .int v3), (5, .long v5), (7, .int v7)]) hx hb dX8_multiplies_104 hl (k := 4) rfl (by rw [ev4_3]; rfl) (by decide) rfl (fun ls hl => ?_)
    refine lv_goto (tgt := 8) hx hb dX8_multiplies_107 (by decide) ?_
    exact k8 _ _ _ _ _ hP hD hS (lv_sub hl [1, 2, 3, 4, 0] rfl) h
  · have h := h.2 c32
    refine lv_lload hx hb dX8_multiplies_35 (lv_at hl 5 rfl) ?_
    refine lv_aload_n hx hb dX8_multiplies_37 rfl (lv_at hl 0 rfl) ?_
    refine ms_get 6 (v := .ref (ad 15)) fx in_X8_multiplies (by decide) rfl (by decide +kernel) rfl hK hP dX8_multiplies_38 ?_
    refine lv_sipush (v := 364) hx hb dX8_multiplies_41 (by decide) ?_
    refine lv_iload_n hx hb dX8_multiplies_44 rfl (lv_at hl 2 rfl) ?_
    refine lv_imul hx hb dX8_multiplies_45 ?_
    refine lv_aload_n hx hb dX8_multiplies_46 rfl (lv_at hl 0 rfl) ?_
    refine lv_iload hx hb dX8_multiplies_47 (lv_at hl 4 rfl) ?_
    refine lv_iload hx hb dX8_multiplies_49 (lv_at hl 6 rfl) ?_
    refine xr_vI (n := 2) (As := [.int v4, .int v7]) (rest := [.int (364 * v2), .ref (ad 15), .long v5]) fx (ct_X8_beginning l D ad cI cJ cR h) gX8_multiplies_X8_beginning rfl rfl (by decide +kernel) ⟨Nat.le_of_ble_eq_true rfl, Nat.le_of_ble_eq_true rfl⟩ ⟨rfl, rfl⟩ hf (ms_recv hK hP) hK hP hD hS hA hl.1 rfl (Nat.le_of_ble_eq_true rfl) dX8_multiplies_51 (fun r5 S4 H locs h hP hD hS => ?_)
    refine lv_iadd hx hb dX8_multiplies_54 ?_
    obtain ⟨hi6, h⟩ := h
    refine ms_lald 0 (by decide) fx hK hP rfl hi6 dX8_multiplies_55 ?_
    refine lv_aload_n hx hb dX8_multiplies_56 rfl (lv_at hl 0 rfl) ?_
    refine ms_get 6 (v := .ref (ad 15)) fx in_X8_multiplies (by decide) rfl (by decide +kernel) rfl hK hP dX8_multiplies_57 ?_
    refine lv_sipush (v := 364) hx hb dX8_multiplies_60 (by decide) ?_
    refine lv_iload_n hx hb dX8_multiplies_63 rfl (lv_at hl 3 rfl) ?_
    refine lv_imul hx hb dX8_multiplies_64 ?_
    refine lv_aload_n hx hb dX8_multiplies_65 rfl (lv_at hl 0 rfl) ?_
    refine lv_iload hx hb dX8_multiplies_66 (lv_at hl 4 rfl) ?_
    refine lv_iload hx hb dX8_multiplies_68 (lv_at hl 6 rfl) ?_
    refine xr_vI (n := 2) (As := [.int v4, .int v7]) (rest := [.int (364 * v3), .ref (ad 15), .long (S4.2.2 0 ((364 * v2) + r5).toNatClampNeg), .long v5]) fx (ct_X8_end l D ad cI cJ cR h) gX8_multiplies_X8_end rfl rfl (by decide +kernel) ⟨Nat.le_of_ble_eq_true rfl, Nat.le_of_ble_eq_true rfl⟩ ⟨rfl, rfl⟩ hf (ms_recv hK hP) hK hP hD hS hA hl.1 rfl (Nat.le_of_ble_eq_true rfl) dX8_multiplies_70 (fun r8 S7 H locs h hP hD hS => ?_)
    refine lv_iadd hx hb dX8_multiplies_73 ?_
    obtain ⟨hi9, h⟩ := h
    refine ms_lald 0 (by decide) fx hK hP rfl hi9 dX8_multiplies_74 ?_
    refine lv_lmul hx hb dX8_multiplies_75 ?_
    refine lv_ladd hx hb dX8_multiplies_76 ?_
    refine lv_ldc2 (v := 2147483647) hx hb hown (hts (.constantLong RX8 3 (2147483647)) (by decide +kernel)) dX8_multiplies_77 ?_
    refine lv_lrem hx hb dX8_multiplies_80 (by decide) ?_
    refine lv_topl (fun v5_10 ev5_10 => ?_)
    have h := h v5_10 ev5_10
    refine lv_lstore (lv' := [(5, .long v5_10), (0, .ref (ad 0)), (1, .int v1), (2, .int v2), (3, .int v3), (4, .int v4), (7, .int v7)]) hx hb dX8_multiplies_81 hl (by decide) rfl (fun ls hl => ?_)
    obtain ⟨v7_11, ev7_11⟩ : ∃ z : Int32, z = v7 + 1 := ⟨_, rfl⟩
    have h := h v7_11 ev7_11
    refine lv_iinc (v := v7_11) (lv' := [(7, .int v7_11), (5, .long v5_10), (0, .ref (ad 0)), (1, .int v1), (2, .int v2), (3, .int v3), (4, .int v4)]) hx hb dX8_multiplies_83 hl (k := 6) rfl (by rw [ev7_11]; rfl) (by decide) rfl (fun ls hl => ?_)
    refine lv_goto (tgt := 23) hx hb dX8_multiplies_86 (by decide) ?_
    exact k23 _ _ _ _ _ _ _ hP hD hS (lv_sub hl [2, 3, 4, 5, 6, 1, 0] rfl) h
theorem kw_X8_multiplies_23 {p : Program} {l : Launch} {e : Env} {s : State} {m : MethodId} {args : Array Value} {below : List Frame} {meth : Method} {c : Code} {D : va_G} {ad : Nat → Nat} {cI cJ cR : ClassId} {A : Nat → Prop} {K8 : ms_T → Int32 → Int32 → Int32 → Int32 → Prop} {Q : ms_T → Prop} (fx : xr_Fx p m c meth cX8_multiplies 8 s args wsX8_multiplies RX8 none) (hK : xr_K D (ms_ty cI cJ cR) s) (hA : ∀ q, s.heap.size ≤ q → A q) (k8 : ∀ (S : ms_T) (v1 : Int32) (v2 : Int32) (v3 : Int32) (v4 : Int32) {H : Heap} {locs : List Loc} {ls : Array Slot}, va_P D vwCl (ms_w ad cI cJ S) H → va_D A (ms_w ad cI cJ S) → va_S A s.heap H locs → lv_has ls 8 [(0, .ref (ad 0)), (1, .int v1), (2, .int v2), (3, .int v3), (4, .int v4)] → K8 S v1 v2 v3 v4 → W p l e rm_X8_multiplies s m args below meth c H locs 0 0 (MQ below (va_Qv Q (xr_B D (ms_ty cI cJ cR) (ms_w ad cI cJ) A) A) args s 0 0 A) (F0 m 8 ls [])) : ∀ (n : Nat) (S : ms_T) (v1 : Int32) (v2 : Int32) (v3 : Int32) (v4 : Int32) (v5 : Int64) (v7 : Int32) {H : Heap} {locs : List Loc} {ls : Array Slot}, va_P D vwCl (ms_w ad cI cJ S) H → va_D A (ms_w ad cI cJ S) → va_S A s.heap H locs → lv_has ls 8 [(0, .ref (ad 0)), (1, .int v1), (2, .int v2), (3, .int v3), (4, .int v4), (5, .long v5), (7, .int v7)] → wp_X8_multiplies_23 K8 Q n S v1 v2 v3 v4 v5 v7 → W p l e rm_X8_multiplies s m args below meth c H locs 0 0 (MQ below (va_Qv Q (xr_B D (ms_ty cI cJ cR) (ms_w ad cI cJ) A) A) args s 0 0 A) (F0 m 23 ls []) := by
  intro n
  induction n with
  | zero => intro S v1 v2 v3 v4 v5 v7 H locs ls hP hD hS hl h; exact False.elim h
  | succ n ih => intro S v1 v2 v3 v4 v5 v7 H locs ls hP hD hS hl h; exact kb_X8_multiplies_23 fx hK hA k8 ih hP hD hS hl h
set_option maxHeartbeats 4000000 in
set_option maxRecDepth 100000 in
theorem kb_X8_multiplies_8 {p : Program} {l : Launch} {e : Env} {s : State} {m : MethodId} {args : Array Value} {below : List Frame} {meth : Method} {c : Code} {D : va_G} {ad : Nat → Nat} {cI cJ cR : ClassId} {A : Nat → Prop}  {K8 : ms_T → Int32 → Int32 → Int32 → Int32 → Prop} {Q : ms_T → Prop} {S : ms_T} {v1 : Int32} {v2 : Int32} {v3 : Int32} {v4 : Int32} (fx : xr_Fx p m c meth cX8_multiplies 8 s args wsX8_multiplies RX8 none) (hK : xr_K D (ms_ty cI cJ cR) s) (hA : ∀ q, s.heap.size ≤ q → A q)  (k8 : ∀ (S : ms_T) (v1 : Int32) (v2 : Int32) (v3 : Int32) (v4 : Int32) {H : Heap} {locs : List Loc} {ls : Array Slot}, va_P D vwCl (ms_w ad cI cJ S) H → va_D A (ms_w ad cI cJ S) → va_S A s.heap H locs → lv_has ls 8 [(0, .ref (ad 0)), (1, .int v1), (2, .int v2), (3, .int v3), (4, .int v4)] → K8 S v1 v2 v3 v4 → W p l e rm_X8_multiplies s m args below meth c H locs 0 0 (MQ below (va_Qv Q (xr_B D (ms_ty cI cJ cR) (ms_w ad cI cJ) A) A) args s 0 0 A) (F0 m 8 ls [])) {H : Heap} {locs : List Loc} {ls : Array Slot} (hP : va_P D vwCl (ms_w ad cI cJ S) H) (hD : va_D A (ms_w ad cI cJ S)) (hS : va_S A s.heap H locs) (hl : lv_has ls 8 [(0, .ref (ad 0)), (1, .int v1), (2, .int v2), (3, .int v3), (4, .int v4)]) (h : wb_X8_multiplies_8 K8 Q S v1 v2 v3 v4) : W p l e rm_X8_multiplies s m args below meth c H locs 0 0 (MQ below (va_Qv Q (xr_B D (ms_ty cI cJ cR) (ms_w ad cI cJ) A) A) args s 0 0 A) (F0 m 8 ls []) := by
  obtain ⟨⟨hx, hb, hml, hown, hts⟩, hrt, hlk⟩ := id fx
  have hf : 0 ≤ rm_X8_multiplies.cells ∧ 0 ≤ rm_X8_multiplies.slots := ⟨Nat.zero_le _, Nat.zero_le _⟩
  unfold wb_X8_multiplies_8 at h
  refine lv_iload hx hb dX8_multiplies_8 (lv_at hl 4 rfl) ?_
  refine lv_aload_n hx hb dX8_multiplies_10 rfl (lv_at hl 0 rfl) ?_
  refine ms_get 2 (v := .int (S.1 2)) fx in_X8_multiplies (by decide) rfl (by decide +kernel) rfl hK hP dX8_multiplies_11 ?_
  refine lv_icmp_ge (tgt := 110) hx hb dX8_multiplies_14 (by decide) (fun c14 => ?_) (fun c14 => ?_)
  · have h := h.1 c14
    exact xr_rV fx hK hP hD hS h dX8_multiplies_110
  · have h := h.2 c14
    refine lv_lconst (v := 0) hx hb dX8_multiplies_17 (by decide) ?_
    refine lv_lstore (lv' := [(5, .long 0), (0, .ref (ad 0)), (1, .int v1), (2, .int v2), (3, .int v3), (4, .int v4)]) hx hb dX8_multiplies_18 hl (by decide) rfl (fun ls hl => ?_)
    refine lv_iconst (v := 0) hx hb dX8_multiplies_20 (by decide) ?_
    refine lv_istore (lv' := [(7, .int 0), (5, .long 0), (0, .ref (ad 0)), (1, .int v1), (2, .int v2), (3, .int v3), (4, .int v4)]) hx hb dX8_multiplies_21 hl (by decide) rfl (fun ls hl => ?_)
    obtain ⟨n, h⟩ := h
    exact kw_X8_multiplies_23 fx hK hA k8 n _ _ _ _ _ _ _ hP hD hS (lv_sub hl [2, 3, 4, 5, 6, 1, 0] rfl) h
theorem kw_X8_multiplies_8 {p : Program} {l : Launch} {e : Env} {s : State} {m : MethodId} {args : Array Value} {below : List Frame} {meth : Method} {c : Code} {D : va_G} {ad : Nat → Nat} {cI cJ cR : ClassId} {A : Nat → Prop}  {Q : ms_T → Prop} (fx : xr_Fx p m c meth cX8_multiplies 8 s args wsX8_multiplies RX8 none) (hK : xr_K D (ms_ty cI cJ cR) s) (hA : ∀ q, s.heap.size ≤ q → A q)  : ∀ (n : Nat) (S : ms_T) (v1 : Int32) (v2 : Int32) (v3 : Int32) (v4 : Int32) {H : Heap} {locs : List Loc} {ls : Array Slot}, va_P D vwCl (ms_w ad cI cJ S) H → va_D A (ms_w ad cI cJ S) → va_S A s.heap H locs → lv_has ls 8 [(0, .ref (ad 0)), (1, .int v1), (2, .int v2), (3, .int v3), (4, .int v4)] → wp_X8_multiplies_8 Q n S v1 v2 v3 v4 → W p l e rm_X8_multiplies s m args below meth c H locs 0 0 (MQ below (va_Qv Q (xr_B D (ms_ty cI cJ cR) (ms_w ad cI cJ) A) A) args s 0 0 A) (F0 m 8 ls []) := by
  intro n
  induction n with
  | zero => intro S v1 v2 v3 v4 H locs ls hP hD hS hl h; exact False.elim h
  | succ n ih => intro S v1 v2 v3 v4 H locs ls hP hD hS hl h; exact kb_X8_multiplies_8 fx hK hA ih hP hD hS hl h
set_option maxHeartbeats 4000000 in
set_option maxRecDepth 100000 in
theorem ct_X8_multiplies (l : Launch) (D : va_G) (ad : Nat → Nat) (cI cJ cR : ClassId) {S : ms_T} {a1 : Int32} {a2 : Int32} {a3 : Int32} {Q : ms_T → Prop} (h : wp_X8_multiplies S a1 a2 a3 Q) : xr_V l D (ms_ty cI cJ cR) (ms_w ad cI cJ) yX8_multiplies wsX8_multiplies rm_X8_multiplies [.ref (ad 0), .int a1, .int a2, .int a3] S Q := by
  refine xr_eV (cc := cX8_multiplies) (nL := 8) (ret := none) (own := RX8) (by decide) rfl rfl (Nat.le_of_ble_eq_true rfl) ?_
  intro p e s m args below meth c ls A fx hK hA hP hD hS hl
  have hl : lv_has ls 8 [(0, .ref (ad 0)), (1, .int a1), (2, .int a2), (3, .int a3)] := hl
  show W p l e rm_X8_multiplies s m args below meth c s.heap [] 0 0 _ _
  obtain ⟨⟨hx, hb, hml, hown, hts⟩, hrt, hlk⟩ := id fx
  have hf : 0 ≤ rm_X8_multiplies.cells ∧ 0 ≤ rm_X8_multiplies.slots := ⟨Nat.zero_le _, Nat.zero_le _⟩
  unfold wp_X8_multiplies at h
  refine lv_aload_n hx hb dX8_multiplies_0 rfl (lv_at hl 0 rfl) ?_
  refine lv_iload_n hx hb dX8_multiplies_1 rfl (lv_at hl 1 rfl) ?_
  refine xr_vV (n := 1) (As := [.int a1]) (rest := []) fx (ct_X8_clears l D ad cI cJ cR h) gX8_multiplies_X8_clears rfl rfl (by decide +kernel) ⟨Nat.le_of_ble_eq_true rfl, Nat.le_of_ble_eq_true rfl⟩ ⟨rfl, rfl⟩ hf (ms_recv hK hP) hK hP hD hS hA hl.1 rfl (Nat.le_of_ble_eq_true rfl) dX8_multiplies_2 (fun S12 H locs h hP hD hS => ?_)
  refine lv_iconst (v := 0) hx hb dX8_multiplies_5 (by decide) ?_
  refine lv_istore (lv' := [(4, .int 0), (0, .ref (ad 0)), (1, .int a1), (2, .int a2), (3, .int a3)]) hx hb dX8_multiplies_6 hl (by decide) rfl (fun ls hl => ?_)
  obtain ⟨n, h⟩ := h
  exact kw_X8_multiplies_8 fx hK hA n _ _ _ _ _ hP hD hS (lv_sub hl [1, 2, 3, 4, 0] rfl) h
abbrev rm_X8_series : Room := { frames := 2, cells := 0, slots := 0, locals := 50 }
theorem in_X8_series : ∀ w ∈ wsX80, w ∈ wsX8_series := by decide +kernel
set_option maxHeartbeats 4000000 in
set_option maxRecDepth 100000 in
theorem kw_X8_series_153 {p : Program} {l : Launch} {e : Env} {s : State} {m : MethodId} {args : Array Value} {below : List Frame} {meth : Method} {c : Code} {D : va_G} {ad : Nat → Nat} {cI cJ cR : ClassId} {A : Nat → Prop} {K52 : ms_T → Int32 → Int32 → Int64 → Int32 → Prop} {Q : ms_T → Prop} {S : ms_T} {v1 : Int32} {v3 : Int32} {v4 : Int64} {v6 : Int32} {s0 : Int32} {s1 : Int32} {s2 : Int64} (fx : xr_Fx p m c meth cX8_series 7 s args wsX8_series RX8 none) (hK : xr_K D (ms_ty cI cJ cR) s) (hA : ∀ q, s.heap.size ≤ q → A q) (k52 : ∀ (S : ms_T) (v1 : Int32) (v3 : Int32) (v4 : Int64) (v6 : Int32) {H : Heap} {locs : List Loc} {ls : Array Slot}, va_P D vwCl (ms_w ad cI cJ S) H → va_D A (ms_w ad cI cJ S) → va_S A s.heap H locs → lv_has ls 7 [(0, .ref (ad 0)), (1, .int v1), (3, .int v3), (4, .long v4), (6, .int v6)] → K52 S v1 v3 v4 v6 → W p l e rm_X8_series s m args below meth c H locs 0 0 (MQ below (va_Qv Q (xr_B D (ms_ty cI cJ cR) (ms_w ad cI cJ) A) A) args s 0 0 A) (F0 m 52 ls [])) {H : Heap} {locs : List Loc} {ls : Array Slot} (hP : va_P D vwCl (ms_w ad cI cJ S) H) (hD : va_D A (ms_w ad cI cJ S)) (hS : va_S A s.heap H locs) (hl : lv_has ls 7 [(0, .ref (ad 0)), (1, .int v1), (3, .int v3), (4, .long v4), (6, .int v6)]) (h : wp_X8_series_153 K52 Q S v1 v3 v4 v6 s0 s1 s2) : W p l e rm_X8_series s m args below meth c H locs 0 0 (MQ below (va_Qv Q (xr_B D (ms_ty cI cJ cR) (ms_w ad cI cJ) A) A) args s 0 0 A) (F0 m 153 ls [.long s2, .int s1, .int s0, .ref (ad 0)]) := by
  obtain ⟨⟨hx, hb, hml, hown, hts⟩, hrt, hlk⟩ := id fx
  have hf : 0 ≤ rm_X8_series.cells ∧ 0 ≤ rm_X8_series.slots := ⟨Nat.zero_le _, Nat.zero_le _⟩
  unfold wp_X8_series_153 at h
  refine xr_vV (n := 3) (As := [.int s0, .int s1, .long s2]) (rest := []) fx (ct_X8_adds l D ad cI cJ cR h) gX8_series_X8_adds rfl rfl (by decide +kernel) ⟨Nat.le_of_ble_eq_true rfl, Nat.le_of_ble_eq_true rfl⟩ ⟨rfl, rfl⟩ hf (ms_recv hK hP) hK hP hD hS hA hl.1 rfl (Nat.le_of_ble_eq_true rfl) dX8_series_153 (fun S1 H locs h hP hD hS => ?_)
  obtain ⟨v6_2, ev6_2⟩ : ∃ z : Int32, z = v6 + 1 := ⟨_, rfl⟩
  have h := h v6_2 ev6_2
  refine lv_iinc (v := v6_2) (lv' := [(6, .int v6_2), (0, .ref (ad 0)), (1, .int v1), (3, .int v3), (4, .long v4)]) hx hb dX8_series_156 hl (k := 4) rfl (by rw [ev6_2]; rfl) (by decide) rfl (fun ls hl => ?_)
  refine lv_goto (tgt := 52) hx hb dX8_series_159 (by decide) ?_
  exact k52 _ _ _ _ _ hP hD hS (lv_sub hl [1, 2, 3, 4, 0] rfl) h
set_option maxHeartbeats 4000000 in
set_option maxRecDepth 100000 in
theorem kw_X8_series_142 {p : Program} {l : Launch} {e : Env} {s : State} {m : MethodId} {args : Array Value} {below : List Frame} {meth : Method} {c : Code} {D : va_G} {ad : Nat → Nat} {cI cJ cR : ClassId} {A : Nat → Prop} {K52 : ms_T → Int32 → Int32 → Int64 → Int32 → Prop} {Q : ms_T → Prop} {S : ms_T} {v1 : Int32} {v3 : Int32} {v4 : Int64} {v6 : Int32} {s0 : Int32} {s1 : Int32} (fx : xr_Fx p m c meth cX8_series 7 s args wsX8_series RX8 none) (hK : xr_K D (ms_ty cI cJ cR) s) (hA : ∀ q, s.heap.size ≤ q → A q) (k52 : ∀ (S : ms_T) (v1 : Int32) (v3 : Int32) (v4 : Int64) (v6 : Int32) {H : Heap} {locs : List Loc} {ls : Array Slot}, va_P D vwCl (ms_w ad cI cJ S) H → va_D A (ms_w ad cI cJ S) → va_S A s.heap H locs → lv_has ls 7 [(0, .ref (ad 0)), (1, .int v1), (3, .int v3), (4, .long v4), (6, .int v6)] → K52 S v1 v3 v4 v6 → W p l e rm_X8_series s m args below meth c H locs 0 0 (MQ below (va_Qv Q (xr_B D (ms_ty cI cJ cR) (ms_w ad cI cJ) A) A) args s 0 0 A) (F0 m 52 ls [])) {H : Heap} {locs : List Loc} {ls : Array Slot} (hP : va_P D vwCl (ms_w ad cI cJ S) H) (hD : va_D A (ms_w ad cI cJ S)) (hS : va_S A s.heap H locs) (hl : lv_has ls 7 [(0, .ref (ad 0)), (1, .int v1), (3, .int v3), (4, .long v4), (6, .int v6)]) (h : wp_X8_series_142 K52 Q S v1 v3 v4 v6 s0 s1) : W p l e rm_X8_series s m args below meth c H locs 0 0 (MQ below (va_Qv Q (xr_B D (ms_ty cI cJ cR) (ms_w ad cI cJ) A) A) args s 0 0 A) (F0 m 142 ls [.int s1, .int s0, .ref (ad 0)]) := by
  obtain ⟨⟨hx, hb, hml, hown, hts⟩, hrt, hlk⟩ := id fx
  have hf : 0 ≤ rm_X8_series.cells ∧ 0 ≤ rm_X8_series.slots := ⟨Nat.zero_le _, Nat.zero_le _⟩
  unfold wp_X8_series_142 at h
  refine lv_lload hx hb dX8_series_142 (lv_at hl 3 rfl) ?_
  refine lv_goto (tgt := 153) hx hb dX8_series_144 (by decide) ?_
  exact kw_X8_series_153 fx hK hA k52 hP hD hS (lv_sub hl [0, 1, 2, 3, 4] rfl) h
set_option maxHeartbeats 4000000 in
set_option maxRecDepth 100000 in
theorem kw_X8_series_139 {p : Program} {l : Launch} {e : Env} {s : State} {m : MethodId} {args : Array Value} {below : List Frame} {meth : Method} {c : Code} {D : va_G} {ad : Nat → Nat} {cI cJ cR : ClassId} {A : Nat → Prop} {K52 : ms_T → Int32 → Int32 → Int64 → Int32 → Prop} {Q : ms_T → Prop} {S : ms_T} {v1 : Int32} {v3 : Int32} {v4 : Int64} {v6 : Int32} {s0 : Int32} {s1 : Int32} {s2 : Int32} {s3 : Int32} (fx : xr_Fx p m c meth cX8_series 7 s args wsX8_series RX8 none) (hK : xr_K D (ms_ty cI cJ cR) s) (hA : ∀ q, s.heap.size ≤ q → A q) (k52 : ∀ (S : ms_T) (v1 : Int32) (v3 : Int32) (v4 : Int64) (v6 : Int32) {H : Heap} {locs : List Loc} {ls : Array Slot}, va_P D vwCl (ms_w ad cI cJ S) H → va_D A (ms_w ad cI cJ S) → va_S A s.heap H locs → lv_has ls 7 [(0, .ref (ad 0)), (1, .int v1), (3, .int v3), (4, .long v4), (6, .int v6)] → K52 S v1 v3 v4 v6 → W p l e rm_X8_series s m args below meth c H locs 0 0 (MQ below (va_Qv Q (xr_B D (ms_ty cI cJ cR) (ms_w ad cI cJ) A) A) args s 0 0 A) (F0 m 52 ls [])) {H : Heap} {locs : List Loc} {ls : Array Slot} (hP : va_P D vwCl (ms_w ad cI cJ S) H) (hD : va_D A (ms_w ad cI cJ S)) (hS : va_S A s.heap H locs) (hl : lv_has ls 7 [(0, .ref (ad 0)), (1, .int v1), (3, .int v3), (4, .long v4), (6, .int v6)]) (h : wp_X8_series_139 K52 Q S v1 v3 v4 v6 s0 s1 s2 s3) : W p l e rm_X8_series s m args below meth c H locs 0 0 (MQ below (va_Qv Q (xr_B D (ms_ty cI cJ cR) (ms_w ad cI cJ) A) A) args s 0 0 A) (F0 m 139 ls [.int s3, .int s2, .int s1, .int s0, .ref (ad 0)]) := by
  obtain ⟨⟨hx, hb, hml, hown, hts⟩, hrt, hlk⟩ := id fx
  have hf : 0 ≤ rm_X8_series.cells ∧ 0 ≤ rm_X8_series.slots := ⟨Nat.zero_le _, Nat.zero_le _⟩
  unfold wp_X8_series_139 at h
  refine lv_icmp_ne (tgt := 147) hx hb dX8_series_139 (by decide) (fun c139 => ?_) (fun c139 => ?_)
  · have h := h.1 c139
    refine lv_ldc2 (v := 2147483647) hx hb hown (hts (.constantLong RX8 3 (2147483647)) (by decide +kernel)) dX8_series_147 ?_
    refine lv_lload hx hb dX8_series_150 (lv_at hl 3 rfl) ?_
    refine lv_lsub hx hb dX8_series_152 ?_
    exact kw_X8_series_153 fx hK hA k52 hP hD hS (lv_sub hl [0, 1, 2, 3, 4] rfl) h
  · have h := h.2 c139
    exact kw_X8_series_142 fx hK hA k52 hP hD hS (lv_sub hl [0, 1, 2, 3, 4] rfl) h
set_option maxHeartbeats 4000000 in
set_option maxRecDepth 100000 in
theorem kw_X8_series_114 {p : Program} {l : Launch} {e : Env} {s : State} {m : MethodId} {args : Array Value} {below : List Frame} {meth : Method} {c : Code} {D : va_G} {ad : Nat → Nat} {cI cJ cR : ClassId} {A : Nat → Prop} {K52 : ms_T → Int32 → Int32 → Int64 → Int32 → Prop} {Q : ms_T → Prop} {S : ms_T} {v1 : Int32} {v3 : Int32} {v6 : Int32} {s0 : Int64} (fx : xr_Fx p m c meth cX8_series 7 s args wsX8_series RX8 none) (hK : xr_K D (ms_ty cI cJ cR) s) (hA : ∀ q, s.heap.size ≤ q → A q) (k52 : ∀ (S : ms_T) (v1 : Int32) (v3 : Int32) (v4 : Int64) (v6 : Int32) {H : Heap} {locs : List Loc} {ls : Array Slot}, va_P D vwCl (ms_w ad cI cJ S) H → va_D A (ms_w ad cI cJ S) → va_S A s.heap H locs → lv_has ls 7 [(0, .ref (ad 0)), (1, .int v1), (3, .int v3), (4, .long v4), (6, .int v6)] → K52 S v1 v3 v4 v6 → W p l e rm_X8_series s m args below meth c H locs 0 0 (MQ below (va_Qv Q (xr_B D (ms_ty cI cJ cR) (ms_w ad cI cJ) A) A) args s 0 0 A) (F0 m 52 ls [])) {H : Heap} {locs : List Loc} {ls : Array Slot} (hP : va_P D vwCl (ms_w ad cI cJ S) H) (hD : va_D A (ms_w ad cI cJ S)) (hS : va_S A s.heap H locs) (hl : lv_has ls 7 [(0, .ref (ad 0)), (1, .int v1), (3, .int v3), (6, .int v6)]) (h : wp_X8_series_114 K52 Q S v1 v3 v6 s0) : W p l e rm_X8_series s m args below meth c H locs 0 0 (MQ below (va_Qv Q (xr_B D (ms_ty cI cJ cR) (ms_w ad cI cJ) A) A) args s 0 0 A) (F0 m 114 ls [.long s0]) := by
  obtain ⟨⟨hx, hb, hml, hown, hts⟩, hrt, hlk⟩ := id fx
  have hf : 0 ≤ rm_X8_series.cells ∧ 0 ≤ rm_X8_series.slots := ⟨Nat.zero_le _, Nat.zero_le _⟩
  unfold wp_X8_series_114 at h
  refine lv_lstore (lv' := [(4, .long s0), (0, .ref (ad 0)), (1, .int v1), (3, .int v3), (6, .int v6)]) hx hb dX8_series_114 hl (by decide) rfl (fun ls hl => ?_)
  refine lv_aload_n hx hb dX8_series_116 rfl (lv_at hl 1 rfl) ?_
  refine lv_bipush (v := 11) hx hb dX8_series_117 (by decide) ?_
  refine lv_bipush (v := 10) hx hb dX8_series_119 (by decide) ?_
  refine lv_iload_n hx hb dX8_series_121 rfl (lv_at hl 3 rfl) ?_
  refine lv_if_eq (tgt := 142) hx hb dX8_series_122 (by decide) (fun c122 => ?_) (fun c122 => ?_)
  · have h := h.1 c122
    exact kw_X8_series_142 fx hK hA k52 hP hD hS (lv_sub hl [1, 2, 3, 0, 4] rfl) h
  · have h := h.2 c122
    refine lv_iload hx hb dX8_series_125 (lv_at hl 4 rfl) ?_
    refine lv_iconst (v := 2) hx hb dX8_series_127 (by decide) ?_
    refine lv_irem hx hb dX8_series_128 (by decide) ?_
    refine lv_iload_n hx hb dX8_series_129 rfl (lv_at hl 3 rfl) ?_
    refine lv_iconst (v := 1) hx hb dX8_series_130 (by decide) ?_
    refine lv_icmp_ne (tgt := 138) hx hb dX8_series_131 (by decide) (fun c131 => ?_) (fun c131 => ?_)
    · have h := h.1 c131
      refine lv_iconst (v := 0) hx hb dX8_series_138 (by decide) ?_
      exact kw_X8_series_139 fx hK hA k52 hP hD hS (lv_sub hl [1, 2, 3, 0, 4] rfl) h
    · have h := h.2 c131
      refine lv_iconst (v := 1) hx hb dX8_series_134 (by decide) ?_
      refine lv_goto (tgt := 139) hx hb dX8_series_135 (by decide) ?_
      exact kw_X8_series_139 fx hK hA k52 hP hD hS (lv_sub hl [1, 2, 3, 0, 4] rfl) h
set_option maxHeartbeats 4000000 in
set_option maxRecDepth 100000 in
theorem kb_X8_series_52 {p : Program} {l : Launch} {e : Env} {s : State} {m : MethodId} {args : Array Value} {below : List Frame} {meth : Method} {c : Code} {D : va_G} {ad : Nat → Nat} {cI cJ cR : ClassId} {A : Nat → Prop}  {K52 : ms_T → Int32 → Int32 → Int64 → Int32 → Prop} {Q : ms_T → Prop} {S : ms_T} {v1 : Int32} {v3 : Int32} {v4 : Int64} {v6 : Int32} (fx : xr_Fx p m c meth cX8_series 7 s args wsX8_series RX8 none) (hK : xr_K D (ms_ty cI cJ cR) s) (hA : ∀ q, s.heap.size ≤ q → A q)  (k52 : ∀ (S : ms_T) (v1 : Int32) (v3 : Int32) (v4 : Int64) (v6 : Int32) {H : Heap} {locs : List Loc} {ls : Array Slot}, va_P D vwCl (ms_w ad cI cJ S) H → va_D A (ms_w ad cI cJ S) → va_S A s.heap H locs → lv_has ls 7 [(0, .ref (ad 0)), (1, .int v1), (3, .int v3), (4, .long v4), (6, .int v6)] → K52 S v1 v3 v4 v6 → W p l e rm_X8_series s m args below meth c H locs 0 0 (MQ below (va_Qv Q (xr_B D (ms_ty cI cJ cR) (ms_w ad cI cJ) A) A) args s 0 0 A) (F0 m 52 ls [])) {H : Heap} {locs : List Loc} {ls : Array Slot} (hP : va_P D vwCl (ms_w ad cI cJ S) H) (hD : va_D A (ms_w ad cI cJ S)) (hS : va_S A s.heap H locs) (hl : lv_has ls 7 [(0, .ref (ad 0)), (1, .int v1), (3, .int v3), (4, .long v4), (6, .int v6)]) (h : wb_X8_series_52 K52 Q S v1 v3 v4 v6) : W p l e rm_X8_series s m args below meth c H locs 0 0 (MQ below (va_Qv Q (xr_B D (ms_ty cI cJ cR) (ms_w ad cI cJ) A) A) args s 0 0 A) (F0 m 52 ls []) := by
  obtain ⟨⟨hx, hb, hml, hown, hts⟩, hrt, hlk⟩ := id fx
  have hf : 0 ≤ rm_X8_series.cells ∧ 0 ≤ rm_X8_series.slots := ⟨Nat.zero_le _, Nat.zero_le _⟩
  unfold wb_X8_series_52 at h
  refine lv_iload hx hb dX8_series_52 (lv_at hl 4 rfl) ?_
  refine lv_aload_n hx hb dX8_series_54 rfl (lv_at hl 0 rfl) ?_
  refine ms_get 1 (v := .int (S.1 1)) fx in_X8_series (by decide) rfl (by decide +kernel) rfl hK hP dX8_series_55 ?_
  refine lv_icmp_gt (tgt := 162) hx hb dX8_series_58 (by decide) (fun c58 => ?_) (fun c58 => ?_)
  · have h := h.1 c58
    refine lv_aload_n hx hb dX8_series_162 rfl (lv_at hl 0 rfl) ?_
    refine lv_iload_n hx hb dX8_series_163 rfl (lv_at hl 1 rfl) ?_
    refine lv_bipush (v := 11) hx hb dX8_series_164 (by decide) ?_
    refine xr_vV (n := 2) (As := [.int v1, .int 11]) (rest := []) fx (ct_X8_copies l D ad cI cJ cR h) gX8_series_X8_copies rfl rfl (by decide +kernel) ⟨Nat.le_of_ble_eq_true rfl, Nat.le_of_ble_eq_true rfl⟩ ⟨rfl, rfl⟩ hf (ms_recv hK hP) hK hP hD hS hA hl.1 rfl (Nat.le_of_ble_eq_true rfl) dX8_series_166 (fun S3 H locs h hP hD hS => ?_)
    exact xr_rV fx hK hP hD hS h dX8_series_169
  · have h := h.2 c58
    refine lv_aload_n hx hb dX8_series_61 rfl (lv_at hl 0 rfl) ?_
    refine lv_bipush (v := 12) hx hb dX8_series_62 (by decide) ?_
    refine lv_bipush (v := 10) hx hb dX8_series_64 (by decide) ?_
    refine lv_bipush (v := 9) hx hb dX8_series_66 (by decide) ?_
    refine xr_vV (n := 3) (As := [.int 12, .int 10, .int 9]) (rest := []) fx (ct_X8_multiplies l D ad cI cJ cR h) gX8_series_X8_multiplies rfl rfl (by decide +kernel) ⟨Nat.le_of_ble_eq_true rfl, Nat.le_of_ble_eq_true rfl⟩ ⟨rfl, rfl⟩ hf (ms_recv hK hP) hK hP hD hS hA hl.1 rfl (Nat.le_of_ble_eq_true rfl) dX8_series_68 (fun S4 H locs h hP hD hS => ?_)
    refine lv_aload_n hx hb dX8_series_71 rfl (lv_at hl 0 rfl) ?_
    refine lv_bipush (v := 10) hx hb dX8_series_72 (by decide) ?_
    refine lv_bipush (v := 12) hx hb dX8_series_74 (by decide) ?_
    refine xr_vV (n := 2) (As := [.int 10, .int 12]) (rest := []) fx (ct_X8_copies l D ad cI cJ cR h) gX8_series_X8_copies rfl rfl (by decide +kernel) ⟨Nat.le_of_ble_eq_true rfl, Nat.le_of_ble_eq_true rfl⟩ ⟨rfl, rfl⟩ hf (ms_recv hK hP) hK hP hD hS hA hl.1 rfl (Nat.le_of_ble_eq_true rfl) dX8_series_76 (fun S5 H locs h hP hD hS => ?_)
    refine lv_iload_n hx hb dX8_series_79 rfl (lv_at hl 2 rfl) ?_
    refine lv_if_ne (tgt := 99) hx hb dX8_series_80 (by decide) (fun c80 => ?_) (fun c80 => ?_)
    · have h := h.1 c80
      refine lv_iload_n hx hb dX8_series_99 rfl (lv_at hl 2 rfl) ?_
      refine lv_iconst (v := 1) hx hb dX8_series_100 (by decide) ?_
      refine lv_icmp_ne (tgt := 113) hx hb dX8_series_101 (by decide) (fun c101 => ?_) (fun c101 => ?_)
      · have h := h.1 c101
        refine lv_lconst (v := 1) hx hb dX8_series_113 (by decide) ?_
        exact kw_X8_series_114 fx hK hA k52 hP hD hS (lv_sub hl [0, 1, 2, 4] rfl) h
      · have h := h.2 c101
        refine lv_iload hx hb dX8_series_104 (lv_at hl 4 rfl) ?_
        refine lv_i2l hx hb dX8_series_106 rfl ?_
        refine xr_sL (n := 1) (As := [.long v6.toInt64]) (rest := []) fx (ct_X8_inverted l h) gX8_series_X8_inverted rfl rfl (by decide +kernel) ⟨Nat.le_of_ble_eq_true rfl, Nat.le_of_ble_eq_true rfl⟩ ⟨rfl, rfl⟩ hf hl.1 rfl (Nat.le_of_ble_eq_true rfl) dX8_series_107 (fun r6 h => ?_)
        refine lv_goto (tgt := 114) hx hb dX8_series_110 (by decide) ?_
        exact kw_X8_series_114 fx hK hA k52 hP hD hS (lv_sub hl [0, 1, 2, 4] rfl) h
    · have h := h.2 c80
      refine lv_lload hx hb dX8_series_83 (lv_at hl 3 rfl) ?_
      refine lv_iload hx hb dX8_series_85 (lv_at hl 4 rfl) ?_
      refine lv_i2l hx hb dX8_series_87 rfl ?_
      refine xr_sL (n := 1) (As := [.long v6.toInt64]) (rest := [.long v4]) fx (ct_X8_inverted l h) gX8_series_X8_inverted rfl rfl (by decide +kernel) ⟨Nat.le_of_ble_eq_true rfl, Nat.le_of_ble_eq_true rfl⟩ ⟨rfl, rfl⟩ hf hl.1 rfl (Nat.le_of_ble_eq_true rfl) dX8_series_88 (fun r7 h => ?_)
      refine lv_lmul hx hb dX8_series_91 ?_
      refine lv_ldc2 (v := 2147483647) hx hb hown (hts (.constantLong RX8 3 (2147483647)) (by decide +kernel)) dX8_series_92 ?_
      refine lv_lrem hx hb dX8_series_95 (by decide) ?_
      refine lv_goto (tgt := 114) hx hb dX8_series_96 (by decide) ?_
      exact kw_X8_series_114 fx hK hA k52 hP hD hS (lv_sub hl [0, 1, 2, 4] rfl) h
theorem kw_X8_series_52 {p : Program} {l : Launch} {e : Env} {s : State} {m : MethodId} {args : Array Value} {below : List Frame} {meth : Method} {c : Code} {D : va_G} {ad : Nat → Nat} {cI cJ cR : ClassId} {A : Nat → Prop}  {Q : ms_T → Prop} (fx : xr_Fx p m c meth cX8_series 7 s args wsX8_series RX8 none) (hK : xr_K D (ms_ty cI cJ cR) s) (hA : ∀ q, s.heap.size ≤ q → A q)  : ∀ (n : Nat) (S : ms_T) (v1 : Int32) (v3 : Int32) (v4 : Int64) (v6 : Int32) {H : Heap} {locs : List Loc} {ls : Array Slot}, va_P D vwCl (ms_w ad cI cJ S) H → va_D A (ms_w ad cI cJ S) → va_S A s.heap H locs → lv_has ls 7 [(0, .ref (ad 0)), (1, .int v1), (3, .int v3), (4, .long v4), (6, .int v6)] → wp_X8_series_52 Q n S v1 v3 v4 v6 → W p l e rm_X8_series s m args below meth c H locs 0 0 (MQ below (va_Qv Q (xr_B D (ms_ty cI cJ cR) (ms_w ad cI cJ) A) A) args s 0 0 A) (F0 m 52 ls []) := by
  intro n
  induction n with
  | zero => intro S v1 v3 v4 v6 H locs ls hP hD hS hl h; exact False.elim h
  | succ n ih => intro S v1 v3 v4 v6 H locs ls hP hD hS hl h; exact kb_X8_series_52 fx hK hA ih hP hD hS hl h
set_option maxHeartbeats 4000000 in
set_option maxRecDepth 100000 in
theorem kw_X8_series_45 {p : Program} {l : Launch} {e : Env} {s : State} {m : MethodId} {args : Array Value} {below : List Frame} {meth : Method} {c : Code} {D : va_G} {ad : Nat → Nat} {cI cJ cR : ClassId} {A : Nat → Prop}  {Q : ms_T → Prop} {S : ms_T} {v1 : Int32} {v3 : Int32} {s0 : Int32} {s1 : Int64} (fx : xr_Fx p m c meth cX8_series 7 s args wsX8_series RX8 none) (hK : xr_K D (ms_ty cI cJ cR) s) (hA : ∀ q, s.heap.size ≤ q → A q)  {H : Heap} {locs : List Loc} {ls : Array Slot} (hP : va_P D vwCl (ms_w ad cI cJ S) H) (hD : va_D A (ms_w ad cI cJ S)) (hS : va_S A s.heap H locs) (hl : lv_has ls 7 [(0, .ref (ad 0)), (1, .int v1), (3, .int v3)]) (h : wp_X8_series_45 Q S v1 v3 s0 s1) : W p l e rm_X8_series s m args below meth c H locs 0 0 (MQ below (va_Qv Q (xr_B D (ms_ty cI cJ cR) (ms_w ad cI cJ) A) A) args s 0 0 A) (F0 m 45 ls [.long s1, .int s0, .ref (ad 15)]) := by
  obtain ⟨⟨hx, hb, hml, hown, hts⟩, hrt, hlk⟩ := id fx
  have hf : 0 ≤ rm_X8_series.cells ∧ 0 ≤ rm_X8_series.slots := ⟨Nat.zero_le _, Nat.zero_le _⟩
  unfold wp_X8_series_45 at h
  obtain ⟨hi8, h⟩ := h
  refine ms_last 0 (by decide) fx hK hP hD hS rfl hi8 dX8_series_45 (fun H locs hP hD hS => ?_)
  refine lv_lconst (v := 1) hx hb dX8_series_46 (by decide) ?_
  refine lv_lstore (lv' := [(4, .long 1), (0, .ref (ad 0)), (1, .int v1), (3, .int v3)]) hx hb dX8_series_47 hl (by decide) rfl (fun ls hl => ?_)
  refine lv_iconst (v := 1) hx hb dX8_series_49 (by decide) ?_
  refine lv_istore (lv' := [(6, .int 1), (4, .long 1), (0, .ref (ad 0)), (1, .int v1), (3, .int v3)]) hx hb dX8_series_50 hl (by decide) rfl (fun ls hl => ?_)
  obtain ⟨n, h⟩ := h
  exact kw_X8_series_52 fx hK hA n _ _ _ _ _ hP hD hS (lv_sub hl [2, 3, 4, 1, 0] rfl) h
set_option maxHeartbeats 4000000 in
set_option maxRecDepth 100000 in
theorem ct_X8_series (l : Launch) (D : va_G) (ad : Nat → Nat) (cI cJ cR : ClassId) {S : ms_T} {a1 : Int32} {a2 : Int32} {a3 : Int32} {Q : ms_T → Prop} (h : wp_X8_series S a1 a2 a3 Q) : xr_V l D (ms_ty cI cJ cR) (ms_w ad cI cJ) yX8_series wsX8_series rm_X8_series [.ref (ad 0), .int a1, .int a2, .int a3] S Q := by
  refine xr_eV (cc := cX8_series) (nL := 7) (ret := none) (own := RX8) (by decide) rfl rfl (Nat.le_of_ble_eq_true rfl) ?_
  intro p e s m args below meth c ls A fx hK hA hP hD hS hl
  have hl : lv_has ls 7 [(0, .ref (ad 0)), (1, .int a1), (2, .int a2), (3, .int a3)] := hl
  show W p l e rm_X8_series s m args below meth c s.heap [] 0 0 _ _
  obtain ⟨⟨hx, hb, hml, hown, hts⟩, hrt, hlk⟩ := id fx
  have hf : 0 ≤ rm_X8_series.cells ∧ 0 ≤ rm_X8_series.slots := ⟨Nat.zero_le _, Nat.zero_le _⟩
  unfold wp_X8_series at h
  refine lv_aload_n hx hb dX8_series_0 rfl (lv_at hl 0 rfl) ?_
  refine lv_bipush (v := 9) hx hb dX8_series_1 (by decide) ?_
  refine lv_iload_n hx hb dX8_series_3 rfl (lv_at hl 2 rfl) ?_
  refine xr_vV (n := 2) (As := [.int 9, .int a2]) (rest := []) fx (ct_X8_copies l D ad cI cJ cR h) gX8_series_X8_copies rfl rfl (by decide +kernel) ⟨Nat.le_of_ble_eq_true rfl, Nat.le_of_ble_eq_true rfl⟩ ⟨rfl, rfl⟩ hf (ms_recv hK hP) hK hP hD hS hA hl.1 rfl (Nat.le_of_ble_eq_true rfl) dX8_series_4 (fun S9 H locs h hP hD hS => ?_)
  refine lv_aload_n hx hb dX8_series_7 rfl (lv_at hl 0 rfl) ?_
  refine ms_get 6 (v := .ref (ad 15)) fx in_X8_series (by decide) rfl (by decide +kernel) rfl hK hP dX8_series_8 ?_
  refine lv_sipush (v := 3276) hx hb dX8_series_11 (by decide) ?_
  refine lv_lconst (v := 0) hx hb dX8_series_14 (by decide) ?_
  obtain ⟨hi10, h⟩ := h
  refine ms_last 0 (by decide) fx hK hP hD hS rfl hi10 dX8_series_15 (fun H locs hP hD hS => ?_)
  refine lv_aload_n hx hb dX8_series_16 rfl (lv_at hl 0 rfl) ?_
  refine lv_bipush (v := 10) hx hb dX8_series_17 (by decide) ?_
  refine xr_vV (n := 1) (As := [.int 10]) (rest := []) fx (ct_X8_ones l D ad cI cJ cR h) gX8_series_X8_ones rfl rfl (by decide +kernel) ⟨Nat.le_of_ble_eq_true rfl, Nat.le_of_ble_eq_true rfl⟩ ⟨rfl, rfl⟩ hf (ms_recv hK hP) hK hP hD hS hA hl.1 rfl (Nat.le_of_ble_eq_true rfl) dX8_series_19 (fun S11 H locs h hP hD hS => ?_)
  refine lv_aload_n hx hb dX8_series_22 rfl (lv_at hl 0 rfl) ?_
  refine lv_bipush (v := 11) hx hb dX8_series_23 (by decide) ?_
  refine xr_vV (n := 1) (As := [.int 11]) (rest := []) fx (ct_X8_clears l D ad cI cJ cR h) gX8_series_X8_clears rfl rfl (by decide +kernel) ⟨Nat.le_of_ble_eq_true rfl, Nat.le_of_ble_eq_true rfl⟩ ⟨rfl, rfl⟩ hf (ms_recv hK hP) hK hP hD hS hA hl.1 rfl (Nat.le_of_ble_eq_true rfl) dX8_series_25 (fun S12 H locs h hP hD hS => ?_)
  refine lv_aload_n hx hb dX8_series_28 rfl (lv_at hl 0 rfl) ?_
  refine ms_get 6 (v := .ref (ad 15)) fx in_X8_series (by decide) rfl (by decide +kernel) rfl hK hP dX8_series_29 ?_
  refine lv_sipush (v := 4004) hx hb dX8_series_32 (by decide) ?_
  refine lv_iload_n hx hb dX8_series_35 rfl (lv_at hl 3 rfl) ?_
  refine lv_iconst (v := 1) hx hb dX8_series_36 (by decide) ?_
  refine lv_icmp_ne (tgt := 44) hx hb dX8_series_37 (by decide) (fun c37 => ?_) (fun c37 => ?_)
  · have h := h.1 c37
    refine lv_lconst (v := 1) hx hb dX8_series_44 (by decide) ?_
    exact kw_X8_series_45 fx hK hA hP hD hS (lv_sub hl [0, 1, 3] rfl) h
  · have h := h.2 c37
    refine lv_lconst (v := 0) hx hb dX8_series_40 (by decide) ?_
    refine lv_goto (tgt := 45) hx hb dX8_series_41 (by decide) ?_
    exact kw_X8_series_45 fx hK hA hP hD hS (lv_sub hl [0, 1, 3] rfl) h
abbrev rm_X8_clear : Room := { frames := 2, cells := 0, slots := 0, locals := 45 }
set_option maxHeartbeats 4000000 in
set_option maxRecDepth 100000 in
theorem ct_X8_clear (l : Launch) (D : va_G) (ad : Nat → Nat) (cI cJ cR : ClassId) {S : ms_T} {a1 : Int32} {Q : Int32 → ms_T → Prop} (h : wp_X8_clear S a1 Q) : xr_I l D (ms_ty cI cJ cR) (ms_w ad cI cJ) yX8_clear wsX8_clear rm_X8_clear [.ref (ad 0), .int a1] S Q := by
  refine xr_eI (cc := cX8_clear) (nL := 2) (ret := (some .int)) (own := RX8) (by decide) rfl rfl (Nat.le_of_ble_eq_true rfl) ?_
  intro p e s m args below meth c ls A fx hK hA hP hD hS hl
  have hl : lv_has ls 2 [(0, .ref (ad 0)), (1, .int a1)] := hl
  show W p l e rm_X8_clear s m args below meth c s.heap [] 0 0 _ _
  obtain ⟨⟨hx, hb, hml, hown, hts⟩, hrt, hlk⟩ := id fx
  have hf : 0 ≤ rm_X8_clear.cells ∧ 0 ≤ rm_X8_clear.slots := ⟨Nat.zero_le _, Nat.zero_le _⟩
  unfold wp_X8_clear at h
  refine lv_iload_n hx hb dX8_clear_0 rfl (lv_at hl 1 rfl) ?_
  refine xr_sI (n := 1) (As := [.int a1]) (rest := []) fx (ct_X8_isSum l h) gX8_clear_X8_isSum rfl rfl (by decide +kernel) ⟨Nat.le_of_ble_eq_true rfl, Nat.le_of_ble_eq_true rfl⟩ ⟨rfl, rfl⟩ hf hl.1 rfl (Nat.le_of_ble_eq_true rfl) dX8_clear_1 (fun r1 h => ?_)
  refine lv_if_ne (tgt := 9) hx hb dX8_clear_4 (by decide) (fun c4 => ?_) (fun c4 => ?_)
  · have h := h.1 c4
    refine lv_aload_n hx hb dX8_clear_9 rfl (lv_at hl 0 rfl) ?_
    refine lv_iload_n hx hb dX8_clear_10 rfl (lv_at hl 1 rfl) ?_
    refine xr_vV (n := 1) (As := [.int a1]) (rest := []) fx (ct_X8_clears l D ad cI cJ cR h) gX8_clear_X8_clears rfl rfl (by decide +kernel) ⟨Nat.le_of_ble_eq_true rfl, Nat.le_of_ble_eq_true rfl⟩ ⟨rfl, rfl⟩ hf (ms_recv hK hP) hK hP hD hS hA hl.1 rfl (Nat.le_of_ble_eq_true rfl) dX8_clear_11 (fun S2 H locs h hP hD hS => ?_)
    refine lv_iconst (v := 0) hx hb dX8_clear_14 (by decide) ?_
    exact xr_rI fx hK hP hD hS h dX8_clear_15
  · have h := h.2 c4
    refine lv_iconst (v := (-1)) hx hb dX8_clear_7 (by decide) ?_
    exact xr_rI fx hK hP hD hS h dX8_clear_8
abbrev rm_X8_isPart : Room := { frames := 1, cells := 0, slots := 0, locals := 25 }
set_option maxHeartbeats 4000000 in
set_option maxRecDepth 100000 in
theorem ct_X8_isPart (l : Launch) {a0 : Int32} {a1 : Int32} {Q : Int32 → Prop} (h : wp_X8_isPart a0 a1 Q) : xr_SI l yX8_isPart wsX8_isPart rm_X8_isPart [.int a0, .int a1] Q := by
  refine xr_eSI (cc := cX8_isPart) (nL := 2) (ret := (some .boolean)) (own := RX8) (by decide) rfl rfl (Nat.le_of_ble_eq_true rfl) ?_
  intro p e s m args below meth c ls fx hl
  have hl : lv_has ls 2 [(0, .int a0), (1, .int a1)] := hl
  show W p l e rm_X8_isPart s m args below meth c s.heap [] 0 0 _ _
  obtain ⟨⟨hx, hb, hml, hown, hts⟩, hrt, hlk⟩ := id fx
  have hf : 0 ≤ rm_X8_isPart.cells ∧ 0 ≤ rm_X8_isPart.slots := ⟨Nat.zero_le _, Nat.zero_le _⟩
  unfold wp_X8_isPart at h
  refine lv_iload_n hx hb dX8_isPart_0 rfl (lv_at hl 0 rfl) ?_
  refine lv_i2l hx hb dX8_isPart_1 rfl ?_
  refine lv_ldc2 (v := (-9999)) hx hb hown (hts (.constantLong RX8 160 (-9999)) (by decide +kernel)) dX8_isPart_2 ?_
  refine lv_ldc2 (v := 9999) hx hb hown (hts (.constantLong RX8 162 (9999)) (by decide +kernel)) dX8_isPart_5 ?_
  refine xr_sI (n := 3) (As := [.long a0.toInt64, .long ((-9999)), .long 9999]) (rest := []) fx (ct_X8_in l h) gX8_isPart_X8_in rfl rfl (by decide +kernel) ⟨Nat.le_of_ble_eq_true rfl, Nat.le_of_ble_eq_true rfl⟩ ⟨rfl, rfl⟩ hf hl.1 rfl (Nat.le_of_ble_eq_true rfl) dX8_isPart_8 (fun r1 h => ?_)
  refine lv_if_eq (tgt := 30) hx hb dX8_isPart_11 (by decide) (fun c11 => ?_) (fun c11 => ?_)
  · have h := h.1 c11
    refine lv_iconst (v := 0) hx hb dX8_isPart_30 (by decide) ?_
    exact xr_rSZ fx rfl h dX8_isPart_31
  · have h := h.2 c11
    refine lv_iload_n hx hb dX8_isPart_14 rfl (lv_at hl 1 rfl) ?_
    refine lv_i2l hx hb dX8_isPart_15 rfl ?_
    refine lv_lconst (v := 1) hx hb dX8_isPart_16 (by decide) ?_
    refine lv_ldc2 (v := 9999) hx hb hown (hts (.constantLong RX8 162 (9999)) (by decide +kernel)) dX8_isPart_17 ?_
    refine xr_sI (n := 3) (As := [.long a1.toInt64, .long 1, .long 9999]) (rest := []) fx (ct_X8_in l h) gX8_isPart_X8_in rfl rfl (by decide +kernel) ⟨Nat.le_of_ble_eq_true rfl, Nat.le_of_ble_eq_true rfl⟩ ⟨rfl, rfl⟩ hf hl.1 rfl (Nat.le_of_ble_eq_true rfl) dX8_isPart_20 (fun r2 h => ?_)
    refine lv_if_eq (tgt := 30) hx hb dX8_isPart_23 (by decide) (fun c23 => ?_) (fun c23 => ?_)
    · have h := h.1 c23
      refine lv_iconst (v := 0) hx hb dX8_isPart_30 (by decide) ?_
      exact xr_rSZ fx rfl h dX8_isPart_31
    · have h := h.2 c23
      refine lv_iconst (v := 1) hx hb dX8_isPart_26 (by decide) ?_
      refine lv_goto (tgt := 31) hx hb dX8_isPart_27 (by decide) ?_
      exact xr_rSZ fx rfl h dX8_isPart_31
abbrev rm_X8_partOf : Room := { frames := 1, cells := 0, slots := 0, locals := 27 }
set_option maxHeartbeats 4000000 in
set_option maxRecDepth 100000 in
theorem ct_X8_partOf (l : Launch) {a0 : Int32} {a1 : Int32} {Q : Int64 → Prop} (h : wp_X8_partOf a0 a1 Q) : xr_SL l yX8_partOf wsX8_partOf rm_X8_partOf [.int a0, .int a1] Q := by
  refine xr_eSL (cc := cX8_partOf) (nL := 2) (ret := (some .long)) (own := RX8) (by decide) rfl rfl (Nat.le_of_ble_eq_true rfl) ?_
  intro p e s m args below meth c ls fx hl
  have hl : lv_has ls 2 [(0, .int a0), (1, .int a1)] := hl
  show W p l e rm_X8_partOf s m args below meth c s.heap [] 0 0 _ _
  obtain ⟨⟨hx, hb, hml, hown, hts⟩, hrt, hlk⟩ := id fx
  have hf : 0 ≤ rm_X8_partOf.cells ∧ 0 ≤ rm_X8_partOf.slots := ⟨Nat.zero_le _, Nat.zero_le _⟩
  unfold wp_X8_partOf at h
  refine lv_iload_n hx hb dX8_partOf_0 rfl (lv_at hl 0 rfl) ?_
  refine lv_i2l hx hb dX8_partOf_1 rfl ?_
  refine xr_sL (n := 1) (As := [.long a0.toInt64]) (rest := []) fx (ct_X8_mod l h) gX8_partOf_X8_mod rfl rfl (by decide +kernel) ⟨Nat.le_of_ble_eq_true rfl, Nat.le_of_ble_eq_true rfl⟩ ⟨rfl, rfl⟩ hf hl.1 rfl (Nat.le_of_ble_eq_true rfl) dX8_partOf_2 (fun r1 h => ?_)
  refine lv_iload_n hx hb dX8_partOf_5 rfl (lv_at hl 1 rfl) ?_
  refine lv_i2l hx hb dX8_partOf_6 rfl ?_
  refine xr_sL (n := 1) (As := [.long a1.toInt64]) (rest := [.long r1]) fx (ct_X8_inverted l h) gX8_partOf_X8_inverted rfl rfl (by decide +kernel) ⟨Nat.le_of_ble_eq_true rfl, Nat.le_of_ble_eq_true rfl⟩ ⟨rfl, rfl⟩ hf hl.1 rfl (Nat.le_of_ble_eq_true rfl) dX8_partOf_7 (fun r2 h => ?_)
  refine lv_lmul hx hb dX8_partOf_10 ?_
  refine lv_ldc2 (v := 2147483647) hx hb hown (hts (.constantLong RX8 3 (2147483647)) (by decide +kernel)) dX8_partOf_11 ?_
  refine lv_lrem hx hb dX8_partOf_14 (by decide) ?_
  exact xr_rSL fx h dX8_partOf_15
