abbrev rm_X3_plus : Room := { frames := 0, cells := 0, slots := 0, locals := 0 }
set_option maxHeartbeats 4000000 in
set_option maxRecDepth 100000 in
theorem ct_X3_plus (l : Launch) {a0 : Int32} {a1 : Int32} {Q : Int32 → Prop} (h : wp_X3_plus a0 a1 Q) : xr_SI l yX3_plus wsX3_plus rm_X3_plus [.int a0, .int a1] Q := by
  refine xr_eSI (cc := cX3_plus) (nL := 3) (ret := (some .int)) (own := RX3) (by decide) rfl rfl (Nat.le_of_ble_eq_true rfl) ?_
  intro p e s m args below meth c ls fx hl
  have hl : lv_has ls 3 [(0, .int a0), (1, .int a1)] := hl
  show W p l e rm_X3_plus s m args below meth c s.heap [] 0 0 _ _
  obtain ⟨⟨hx, hb, hml, hown, hts⟩, hrt, hlk⟩ := id fx
  have hf : 0 ≤ rm_X3_plus.cells ∧ 0 ≤ rm_X3_plus.slots := ⟨Nat.zero_le _, Nat.zero_le _⟩
  unfold wp_X3_plus at h
  refine lv_iload_n hx hb dX3_plus_0 rfl (lv_at hl 0 rfl) ?_
  refine lv_ldc (v := 2147483647) hx hb hown (hts (.constant RX3 9 (2147483647)) (by decide +kernel)) dX3_plus_1 ?_
  refine lv_iload_n hx hb dX3_plus_3 rfl (lv_at hl 1 rfl) ?_
  refine lv_isub hx hb dX3_plus_4 ?_
  refine lv_isub hx hb dX3_plus_5 ?_
  refine lv_topi (fun v2_1 ev2_1 => ?_)
  have h := h v2_1 ev2_1
  refine lv_istore_n (lv' := [(2, .int v2_1), (0, .int a0), (1, .int a1)]) hx hb dX3_plus_6 rfl hl (by decide) rfl (fun ls hl => ?_)
  refine lv_iload_n hx hb dX3_plus_7 rfl (lv_at hl 0 rfl) ?_
  refine lv_if_ge (tgt := 18) hx hb dX3_plus_8 (by decide) (fun c8 => ?_) (fun c8 => ?_)
  · have h := h.1 c8
    refine lv_iload_n hx hb dX3_plus_18 rfl (lv_at hl 0 rfl) ?_
    exact xr_rSI fx h dX3_plus_19
  · have h := h.2 c8
    refine lv_iload_n hx hb dX3_plus_11 rfl (lv_at hl 0 rfl) ?_
    refine lv_ldc (v := 2147483647) hx hb hown (hts (.constant RX3 9 (2147483647)) (by decide +kernel)) dX3_plus_12 ?_
    refine lv_iadd hx hb dX3_plus_14 ?_
    refine lv_goto (tgt := 19) hx hb dX3_plus_15 (by decide) ?_
    exact xr_rSI fx h dX3_plus_19
abbrev rm_X3_minus : Room := { frames := 0, cells := 0, slots := 0, locals := 0 }
set_option maxHeartbeats 4000000 in
set_option maxRecDepth 100000 in
theorem ct_X3_minus (l : Launch) {a0 : Int32} {a1 : Int32} {Q : Int32 → Prop} (h : wp_X3_minus a0 a1 Q) : xr_SI l yX3_minus wsX3_minus rm_X3_minus [.int a0, .int a1] Q := by
  refine xr_eSI (cc := cX3_minus) (nL := 3) (ret := (some .int)) (own := RX3) (by decide) rfl rfl (Nat.le_of_ble_eq_true rfl) ?_
  intro p e s m args below meth c ls fx hl
  have hl : lv_has ls 3 [(0, .int a0), (1, .int a1)] := hl
  show W p l e rm_X3_minus s m args below meth c s.heap [] 0 0 _ _
  obtain ⟨⟨hx, hb, hml, hown, hts⟩, hrt, hlk⟩ := id fx
  have hf : 0 ≤ rm_X3_minus.cells ∧ 0 ≤ rm_X3_minus.slots := ⟨Nat.zero_le _, Nat.zero_le _⟩
  unfold wp_X3_minus at h
  refine lv_iload_n hx hb dX3_minus_0 rfl (lv_at hl 0 rfl) ?_
  refine lv_iload_n hx hb dX3_minus_1 rfl (lv_at hl 1 rfl) ?_
  refine lv_isub hx hb dX3_minus_2 ?_
  refine lv_topi (fun v2_1 ev2_1 => ?_)
  have h := h v2_1 ev2_1
  refine lv_istore_n (lv' := [(2, .int v2_1), (0, .int a0), (1, .int a1)]) hx hb dX3_minus_3 rfl hl (by decide) rfl (fun ls hl => ?_)
  refine lv_iload_n hx hb dX3_minus_4 rfl (lv_at hl 0 rfl) ?_
  refine lv_if_ge (tgt := 15) hx hb dX3_minus_5 (by decide) (fun c5 => ?_) (fun c5 => ?_)
  · have h := h.1 c5
    refine lv_iload_n hx hb dX3_minus_15 rfl (lv_at hl 0 rfl) ?_
    exact xr_rSI fx h dX3_minus_16
  · have h := h.2 c5
    refine lv_iload_n hx hb dX3_minus_8 rfl (lv_at hl 0 rfl) ?_
    refine lv_ldc (v := 2147483647) hx hb hown (hts (.constant RX3 9 (2147483647)) (by decide +kernel)) dX3_minus_9 ?_
    refine lv_iadd hx hb dX3_minus_11 ?_
    refine lv_goto (tgt := 16) hx hb dX3_minus_12 (by decide) ?_
    exact xr_rSI fx h dX3_minus_16
abbrev rm_X3_product : Room := { frames := 0, cells := 0, slots := 0, locals := 0 }
set_option maxHeartbeats 4000000 in
set_option maxRecDepth 100000 in
theorem ct_X3_product (l : Launch) {a0 : Int32} {a1 : Int32} {Q : Int32 → Prop} (h : wp_X3_product a0 a1 Q) : xr_SI l yX3_product wsX3_product rm_X3_product [.int a0, .int a1] Q := by
  refine xr_eSI (cc := cX3_product) (nL := 2) (ret := (some .int)) (own := RX3) (by decide) rfl rfl (Nat.le_of_ble_eq_true rfl) ?_
  intro p e s m args below meth c ls fx hl
  have hl : lv_has ls 2 [(0, .int a0), (1, .int a1)] := hl
  show W p l e rm_X3_product s m args below meth c s.heap [] 0 0 _ _
  obtain ⟨⟨hx, hb, hml, hown, hts⟩, hrt, hlk⟩ := id fx
  have hf : 0 ≤ rm_X3_product.cells ∧ 0 ≤ rm_X3_product.slots := ⟨Nat.zero_le _, Nat.zero_le _⟩
  unfold wp_X3_product at h
  refine lv_iload_n hx hb dX3_product_0 rfl (lv_at hl 0 rfl) ?_
  refine lv_i2l hx hb dX3_product_1 rfl ?_
  refine lv_iload_n hx hb dX3_product_2 rfl (lv_at hl 1 rfl) ?_
  refine lv_i2l hx hb dX3_product_3 rfl ?_
  refine lv_lmul hx hb dX3_product_4 ?_
  refine lv_ldc2 (v := 2147483647) hx hb hown (hts (.constantLong RX3 10 (2147483647)) (by decide +kernel)) dX3_product_5 ?_
  refine lv_lrem hx hb dX3_product_8 (by decide) ?_
  refine lv_l2i hx hb dX3_product_9 rfl ?_
  exact xr_rSI fx h dX3_product_10
abbrev rm_X3_productMore : Room := { frames := 0, cells := 0, slots := 0, locals := 0 }
set_option maxHeartbeats 4000000 in
set_option maxRecDepth 100000 in
theorem ct_X3_productMore (l : Launch) {a0 : Int32} {a1 : Int32} {a2 : Int32} {Q : Int32 → Prop} (h : wp_X3_productMore a0 a1 a2 Q) : xr_SI l yX3_productMore wsX3_productMore rm_X3_productMore [.int a0, .int a1, .int a2] Q := by
  refine xr_eSI (cc := cX3_productMore) (nL := 3) (ret := (some .int)) (own := RX3) (by decide) rfl rfl (Nat.le_of_ble_eq_true rfl) ?_
  intro p e s m args below meth c ls fx hl
  have hl : lv_has ls 3 [(0, .int a0), (1, .int a1), (2, .int a2)] := hl
  show W p l e rm_X3_productMore s m args below meth c s.heap [] 0 0 _ _
  obtain ⟨⟨hx, hb, hml, hown, hts⟩, hrt, hlk⟩ := id fx
  have hf : 0 ≤ rm_X3_productMore.cells ∧ 0 ≤ rm_X3_productMore.slots := ⟨Nat.zero_le _, Nat.zero_le _⟩
  unfold wp_X3_productMore at h
  refine lv_iload_n hx hb dX3_productMore_0 rfl (lv_at hl 0 rfl) ?_
  refine lv_i2l hx hb dX3_productMore_1 rfl ?_
  refine lv_iload_n hx hb dX3_productMore_2 rfl (lv_at hl 1 rfl) ?_
  refine lv_i2l hx hb dX3_productMore_3 rfl ?_
  refine lv_iload_n hx hb dX3_productMore_4 rfl (lv_at hl 2 rfl) ?_
  refine lv_i2l hx hb dX3_productMore_5 rfl ?_
  refine lv_lmul hx hb dX3_productMore_6 ?_
  refine lv_ladd hx hb dX3_productMore_7 ?_
  refine lv_ldc2 (v := 2147483647) hx hb hown (hts (.constantLong RX3 10 (2147483647)) (by decide +kernel)) dX3_productMore_8 ?_
  refine lv_lrem hx hb dX3_productMore_11 (by decide) ?_
  refine lv_l2i hx hb dX3_productMore_12 rfl ?_
  exact xr_rSI fx h dX3_productMore_13
abbrev rm_X3_reciprocal : Room := { frames := 1, cells := 0, slots := 0, locals := 21 }
set_option maxHeartbeats 4000000 in
set_option maxRecDepth 100000 in
theorem kw_X3_reciprocal_33 {p : Program} {l : Launch} {e : Env} {s : State} {m : MethodId} {args : Array Value} {below : List Frame} {meth : Method} {c : Code}  {K10 : Int32 → Int32 → Int32 → Int32 → Prop} {Q : Int32 → Prop} {v1 : Int32} {v2 : Int32} {v3 : Int32} {v4 : Int32} (fx : xr_Fx p m c meth cX3_reciprocal 5 s args wsX3_reciprocal RX3 (some .int))  (k10 : ∀ (v1 : Int32) (v2 : Int32) (v3 : Int32) (v4 : Int32) {ls : Array Slot}, lv_has ls 5 [(1, .int v1), (2, .int v2), (3, .int v3), (4, .int v4)] → K10 v1 v2 v3 v4 → W p l e rm_X3_reciprocal s m args below meth c s.heap [] 0 0 (MQ below (vp_Si Q) args s 0 0 (fun _ => False)) (F0 m 10 ls [])) {ls : Array Slot} (hl : lv_has ls 5 [(1, .int v1), (2, .int v2), (3, .int v3), (4, .int v4)]) (h : wp_X3_reciprocal_33 K10 Q v1 v2 v3 v4) : W p l e rm_X3_reciprocal s m args below meth c s.heap [] 0 0 (MQ below (vp_Si Q) args s 0 0 (fun _ => False)) (F0 m 33 ls []) := by
  obtain ⟨⟨hx, hb, hml, hown, hts⟩, hrt, hlk⟩ := id fx
  have hf : 0 ≤ rm_X3_reciprocal.cells ∧ 0 ≤ rm_X3_reciprocal.slots := ⟨Nat.zero_le _, Nat.zero_le _⟩
  unfold wp_X3_reciprocal_33 at h
  refine lv_iload_n hx hb dX3_reciprocal_33 rfl (lv_at hl 1 rfl) ?_
  refine lv_iload_n hx hb dX3_reciprocal_34 rfl (lv_at hl 1 rfl) ?_
  refine xr_sI (n := 2) (As := [.int v2, .int v2]) (rest := []) fx (ct_X3_product l h) gX3_reciprocal_X3_product rfl rfl (by decide +kernel) ⟨Nat.le_of_ble_eq_true rfl, Nat.le_of_ble_eq_true rfl⟩ ⟨rfl, rfl⟩ hf hl.1 rfl (Nat.le_of_ble_eq_true rfl) dX3_reciprocal_35 (fun r1 h => ?_)
  refine lv_istore_n (lv' := [(2, .int r1), (1, .int v1), (3, .int v3), (4, .int v4)]) hx hb dX3_reciprocal_38 rfl hl (by decide) rfl (fun ls hl => ?_)
  obtain ⟨v4_2, ev4_2⟩ : ∃ z : Int32, z = v4 + 1 := ⟨_, rfl⟩
  have h := h v4_2 ev4_2
  refine lv_iinc (v := v4_2) (lv' := [(4, .int v4_2), (2, .int r1), (1, .int v1), (3, .int v3)]) hx hb dX3_reciprocal_39 hl (k := 3) rfl (by rw [ev4_2]; rfl) (by decide) rfl (fun ls hl => ?_)
  refine lv_goto (tgt := 10) hx hb dX3_reciprocal_42 (by decide) ?_
  exact k10 _ _ _ _ (lv_sub hl [2, 1, 3, 0] rfl) h
set_option maxHeartbeats 4000000 in
set_option maxRecDepth 100000 in
theorem kb_X3_reciprocal_10 {p : Program} {l : Launch} {e : Env} {s : State} {m : MethodId} {args : Array Value} {below : List Frame} {meth : Method} {c : Code}   {K10 : Int32 → Int32 → Int32 → Int32 → Prop} {Q : Int32 → Prop} {v1 : Int32} {v2 : Int32} {v3 : Int32} {v4 : Int32} (fx : xr_Fx p m c meth cX3_reciprocal 5 s args wsX3_reciprocal RX3 (some .int))   (k10 : ∀ (v1 : Int32) (v2 : Int32) (v3 : Int32) (v4 : Int32) {ls : Array Slot}, lv_has ls 5 [(1, .int v1), (2, .int v2), (3, .int v3), (4, .int v4)] → K10 v1 v2 v3 v4 → W p l e rm_X3_reciprocal s m args below meth c s.heap [] 0 0 (MQ below (vp_Si Q) args s 0 0 (fun _ => False)) (F0 m 10 ls [])) {ls : Array Slot} (hl : lv_has ls 5 [(1, .int v1), (2, .int v2), (3, .int v3), (4, .int v4)]) (h : wb_X3_reciprocal_10 K10 Q v1 v2 v3 v4) : W p l e rm_X3_reciprocal s m args below meth c s.heap [] 0 0 (MQ below (vp_Si Q) args s 0 0 (fun _ => False)) (F0 m 10 ls []) := by
  obtain ⟨⟨hx, hb, hml, hown, hts⟩, hrt, hlk⟩ := id fx
  have hf : 0 ≤ rm_X3_reciprocal.cells ∧ 0 ≤ rm_X3_reciprocal.slots := ⟨Nat.zero_le _, Nat.zero_le _⟩
  unfold wb_X3_reciprocal_10 at h
  refine lv_iload hx hb dX3_reciprocal_10 (lv_at hl 3 rfl) ?_
  refine lv_bipush (v := 31) hx hb dX3_reciprocal_12 (by decide) ?_
  refine lv_icmp_ge (tgt := 45) hx hb dX3_reciprocal_14 (by decide) (fun c14 => ?_) (fun c14 => ?_)
  · have h := h.1 c14
    refine lv_iload_n hx hb dX3_reciprocal_45 rfl (lv_at hl 2 rfl) ?_
    exact xr_rSI fx h dX3_reciprocal_46
  · have h := h.2 c14
    refine lv_iload_n hx hb dX3_reciprocal_17 rfl (lv_at hl 0 rfl) ?_
    refine lv_iload hx hb dX3_reciprocal_18 (lv_at hl 3 rfl) ?_
    refine lv_ishr hx hb dX3_reciprocal_20 ?_
    refine lv_iconst (v := 1) hx hb dX3_reciprocal_21 (by decide) ?_
    refine lv_iand hx hb dX3_reciprocal_22 ?_
    refine lv_iconst (v := 1) hx hb dX3_reciprocal_23 (by decide) ?_
    refine lv_icmp_ne (tgt := 33) hx hb dX3_reciprocal_24 (by decide) (fun c24 => ?_) (fun c24 => ?_)
    · have h := h.1 c24
      exact kw_X3_reciprocal_33 fx k10 (lv_sub hl [0, 1, 2, 3] rfl) h
    · have h := h.2 c24
      refine lv_iload_n hx hb dX3_reciprocal_27 rfl (lv_at hl 2 rfl) ?_
      refine lv_iload_n hx hb dX3_reciprocal_28 rfl (lv_at hl 1 rfl) ?_
      refine xr_sI (n := 2) (As := [.int v3, .int v2]) (rest := []) fx (ct_X3_product l h) gX3_reciprocal_X3_product rfl rfl (by decide +kernel) ⟨Nat.le_of_ble_eq_true rfl, Nat.le_of_ble_eq_true rfl⟩ ⟨rfl, rfl⟩ hf hl.1 rfl (Nat.le_of_ble_eq_true rfl) dX3_reciprocal_29 (fun r3 h => ?_)
      refine lv_istore_n (lv' := [(3, .int r3), (1, .int v1), (2, .int v2), (4, .int v4)]) hx hb dX3_reciprocal_32 rfl hl (by decide) rfl (fun ls hl => ?_)
      exact kw_X3_reciprocal_33 fx k10 (lv_sub hl [1, 2, 0, 3] rfl) h
theorem kw_X3_reciprocal_10 {p : Program} {l : Launch} {e : Env} {s : State} {m : MethodId} {args : Array Value} {below : List Frame} {meth : Method} {c : Code}   {Q : Int32 → Prop} (fx : xr_Fx p m c meth cX3_reciprocal 5 s args wsX3_reciprocal RX3 (some .int))   : ∀ (n : Nat) (v1 : Int32) (v2 : Int32) (v3 : Int32) (v4 : Int32) {ls : Array Slot}, lv_has ls 5 [(1, .int v1), (2, .int v2), (3, .int v3), (4, .int v4)] → wp_X3_reciprocal_10 Q n v1 v2 v3 v4 → W p l e rm_X3_reciprocal s m args below meth c s.heap [] 0 0 (MQ below (vp_Si Q) args s 0 0 (fun _ => False)) (F0 m 10 ls []) := by
  intro n
  induction n with
  | zero => intro v1 v2 v3 v4 ls hl h; exact False.elim h
  | succ n ih => intro v1 v2 v3 v4 ls hl h; exact kb_X3_reciprocal_10 fx ih hl h
set_option maxHeartbeats 4000000 in
set_option maxRecDepth 100000 in
theorem ct_X3_reciprocal (l : Launch) {a0 : Int32} {Q : Int32 → Prop} (h : wp_X3_reciprocal a0 Q) : xr_SI l yX3_reciprocal wsX3_reciprocal rm_X3_reciprocal [.int a0] Q := by
  refine xr_eSI (cc := cX3_reciprocal) (nL := 5) (ret := (some .int)) (own := RX3) (by decide) rfl rfl (Nat.le_of_ble_eq_true rfl) ?_
  intro p e s m args below meth c ls fx hl
  have hl : lv_has ls 5 [(0, .int a0)] := hl
  show W p l e rm_X3_reciprocal s m args below meth c s.heap [] 0 0 _ _
  obtain ⟨⟨hx, hb, hml, hown, hts⟩, hrt, hlk⟩ := id fx
  have hf : 0 ≤ rm_X3_reciprocal.cells ∧ 0 ≤ rm_X3_reciprocal.slots := ⟨Nat.zero_le _, Nat.zero_le _⟩
  unfold wp_X3_reciprocal at h
  refine lv_ldc (v := 2147483645) hx hb hown (hts (.constant RX3 12 (2147483645)) (by decide +kernel)) dX3_reciprocal_0 ?_
  refine lv_istore_n (lv' := [(1, .int 2147483645), (0, .int a0)]) hx hb dX3_reciprocal_2 rfl hl (by decide) rfl (fun ls hl => ?_)
  refine lv_iload_n hx hb dX3_reciprocal_3 rfl (lv_at hl 1 rfl) ?_
  refine lv_istore_n (lv' := [(2, .int a0), (1, .int 2147483645), (0, .int a0)]) hx hb dX3_reciprocal_4 rfl hl (by decide) rfl (fun ls hl => ?_)
  refine lv_iconst (v := 1) hx hb dX3_reciprocal_5 (by decide) ?_
  refine lv_istore_n (lv' := [(3, .int 1), (2, .int a0), (1, .int 2147483645), (0, .int a0)]) hx hb dX3_reciprocal_6 rfl hl (by decide) rfl (fun ls hl => ?_)
  refine lv_iconst (v := 0) hx hb dX3_reciprocal_7 (by decide) ?_
  refine lv_istore (lv' := [(4, .int 0), (3, .int 1), (2, .int a0), (1, .int 2147483645), (0, .int a0)]) hx hb dX3_reciprocal_8 hl (by decide) rfl (fun ls hl => ?_)
  obtain ⟨n, h⟩ := h
  exact kw_X3_reciprocal_10 fx n _ _ _ _ (lv_sub hl [3, 2, 1, 0] rfl) h
abbrev rm_X3_nearNought : Room := { frames := 0, cells := 0, slots := 0, locals := 0 }
set_option maxHeartbeats 4000000 in
set_option maxRecDepth 100000 in
theorem ct_X3_nearNought (l : Launch) {a0 : Int32} {Q : Int32 → Prop} (h : wp_X3_nearNought a0 Q) : xr_SI l yX3_nearNought wsX3_nearNought rm_X3_nearNought [.int a0] Q := by
  refine xr_eSI (cc := cX3_nearNought) (nL := 1) (ret := (some .int)) (own := RX3) (by decide) rfl rfl (Nat.le_of_ble_eq_true rfl) ?_
  intro p e s m args below meth c ls fx hl
  have hl : lv_has ls 1 [(0, .int a0)] := hl
  show W p l e rm_X3_nearNought s m args below meth c s.heap [] 0 0 _ _
  obtain ⟨⟨hx, hb, hml, hown, hts⟩, hrt, hlk⟩ := id fx
  have hf : 0 ≤ rm_X3_nearNought.cells ∧ 0 ≤ rm_X3_nearNought.slots := ⟨Nat.zero_le _, Nat.zero_le _⟩
  unfold wp_X3_nearNought at h
  refine lv_iload_n hx hb dX3_nearNought_0 rfl (lv_at hl 0 rfl) ?_
  refine lv_ldc (v := 1073741823) hx hb hown (hts (.constant RX3 28 (1073741823)) (by decide +kernel)) dX3_nearNought_1 ?_
  refine lv_icmp_le (tgt := 13) hx hb dX3_nearNought_3 (by decide) (fun c3 => ?_) (fun c3 => ?_)
  · have h := h.1 c3
    refine lv_iload_n hx hb dX3_nearNought_13 rfl (lv_at hl 0 rfl) ?_
    exact xr_rSI fx h dX3_nearNought_14
  · have h := h.2 c3
    refine lv_iload_n hx hb dX3_nearNought_6 rfl (lv_at hl 0 rfl) ?_
    refine lv_ldc (v := 2147483647) hx hb hown (hts (.constant RX3 9 (2147483647)) (by decide +kernel)) dX3_nearNought_7 ?_
    refine lv_isub hx hb dX3_nearNought_9 ?_
    refine lv_goto (tgt := 14) hx hb dX3_nearNought_10 (by decide) ?_
    exact xr_rSI fx h dX3_nearNought_14
