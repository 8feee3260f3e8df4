abbrev rm_X8_unstep : Room := { frames := 0, cells := 0, slots := 0, locals := 0 }
theorem in_X8_unstep : ∀ w ∈ wsX80, w ∈ wsX8_unstep := by decide +kernel
set_option maxHeartbeats 4000000 in
set_option maxRecDepth 100000 in
theorem ct_X8_unstep (l : Launch) (D : va_G) (ad : Nat → Nat) (cI cJ cR : ClassId) {S : ms_T} {Q : Int32 → ms_T → Prop} (h : wp_X8_unstep S Q) : xr_I l D (ms_ty cI cJ cR) (ms_w ad cI cJ) yX8_unstep wsX8_unstep rm_X8_unstep [.ref (ad 0)] S Q := by
  refine xr_eI (cc := cX8_unstep) (nL := 2) (ret := (some .int)) (own := RX8) (by decide) rfl rfl (Nat.le_of_ble_eq_true rfl) ?_
  intro p e s m args below meth c ls A fx hK hA hP hD hS hl
  have hl : lv_has ls 2 [(0, .ref (ad 0))] := hl
  show W p l e rm_X8_unstep s m args below meth c s.heap [] 0 0 _ _
  obtain ⟨⟨hx, hb, hml, hown, hts⟩, hrt, hlk⟩ := id fx
  have hf : 0 ≤ rm_X8_unstep.cells ∧ 0 ≤ rm_X8_unstep.slots := ⟨Nat.zero_le _, Nat.zero_le _⟩
  unfold wp_X8_unstep at h
  refine lv_aload_n hx hb dX8_unstep_0 rfl (lv_at hl 0 rfl) ?_
  refine ms_get 16 (v := .int (S.1 4)) fx in_X8_unstep (by decide) rfl (by decide +kernel) rfl hK hP dX8_unstep_1 ?_
  refine lv_topi (fun v1_1 ev1_1 => ?_)
  have h := h v1_1 ev1_1
  refine lv_istore_n (lv' := [(1, .int v1_1), (0, .ref (ad 0))]) hx hb dX8_unstep_4 rfl hl (by decide) rfl (fun ls hl => ?_)
  refine lv_aload_n hx hb dX8_unstep_5 rfl (lv_at hl 1 rfl) ?_
  refine lv_iconst (v := 0) hx hb dX8_unstep_6 (by decide) ?_
  refine ms_put 16 4 (ty := .int) fx in_X8_unstep (by decide) ms_f16 (by decide +kernel) rfl rfl (by decide +kernel) rfl rfl hK hP hD hS dX8_unstep_7 (fun H locs hP hD hS => ?_)
  refine lv_iload_n hx hb dX8_unstep_10 rfl (lv_at hl 0 rfl) ?_
  exact xr_rI fx hK hP hD hS h dX8_unstep_11
abbrev rm_X8_makes : Room := { frames := 3, cells := 0, slots := 0, locals := 76 }
theorem in_X8_makes : ∀ w ∈ wsX80, w ∈ wsX8_makes := by decide +kernel
set_option maxHeartbeats 4000000 in
set_option maxRecDepth 100000 in
theorem kb_X8_makes_8 {p : Program} {l : Launch} {e : Env} {s : State} {m : MethodId} {args : Array Value} {below : List Frame} {meth : Method} {c : Code} {D : va_G} {ad : Nat → Nat} {cI cJ cR : ClassId} {A : Nat → Prop}  {K8 : ms_T → Int32 → Int32 → Prop} {Q : ms_T → Prop} {S : ms_T} {v1 : Int32} {v2 : Int32} (fx : xr_Fx p m c meth cX8_makes 3 s args wsX8_makes RX8 none) (hK : xr_K D (ms_ty cI cJ cR) s) (hA : ∀ q, s.heap.size ≤ q → A q)  (k8 : ∀ (S : ms_T) (v1 : Int32) (v2 : Int32) {H : Heap} {locs : List Loc} {ls : Array Slot}, va_P D vwCl (ms_w ad cI cJ S) H → va_D A (ms_w ad cI cJ S) → va_S A s.heap H locs → lv_has ls 3 [(0, .ref (ad 0)), (1, .int v1), (2, .int v2)] → K8 S v1 v2 → W p l e rm_X8_makes s m args below meth c H locs 0 0 (MQ below (va_Qv Q (xr_B D (ms_ty cI cJ cR) (ms_w ad cI cJ) A) A) args s 0 0 A) (F0 m 8 ls [])) {H : Heap} {locs : List Loc} {ls : Array Slot} (hP : va_P D vwCl (ms_w ad cI cJ S) H) (hD : va_D A (ms_w ad cI cJ S)) (hS : va_S A s.heap H locs) (hl : lv_has ls 3 [(0, .ref (ad 0)), (1, .int v1), (2, .int v2)]) (h : wb_X8_makes_8 K8 Q S v1 v2) : W p l e rm_X8_makes s m args below meth c H locs 0 0 (MQ below (va_Qv Q (xr_B D (ms_ty cI cJ cR) (ms_w ad cI cJ) A) A) args s 0 0 A) (F0 m 8 ls []) := by
  obtain ⟨⟨hx, hb, hml, hown, hts⟩, hrt, hlk⟩ := id fx
  have hf : 0 ≤ rm_X8_makes.cells ∧ 0 ≤ rm_X8_makes.slots := ⟨Nat.zero_le _, Nat.zero_le _⟩
  unfold wb_X8_makes_8 at h
  refine lv_iload_n hx hb dX8_makes_8 rfl (lv_at hl 2 rfl) ?_
  refine lv_aload_n hx hb dX8_makes_9 rfl (lv_at hl 0 rfl) ?_
  refine ms_get 16 (v := .int (S.1 4)) fx in_X8_makes (by decide) rfl (by decide +kernel) rfl hK hP dX8_makes_10 ?_
  refine lv_icmp_ge (tgt := 83) hx hb dX8_makes_13 (by decide) (fun c13 => ?_) (fun c13 => ?_)
  · have h := h.1 c13
    refine lv_aload_n hx hb dX8_makes_83 rfl (lv_at hl 0 rfl) ?_
    refine lv_iload_n hx hb dX8_makes_84 rfl (lv_at hl 1 rfl) ?_
    refine lv_bipush (v := 14) hx hb dX8_makes_85 (by decide) ?_
    refine lv_iconst (v := 1) hx hb dX8_makes_87 (by decide) ?_
    refine xr_vV (n := 3) (As := [.int v1, .int 14, .int 1]) (rest := []) fx (ct_X8_series l D ad cI cJ cR h) gX8_makes_X8_series rfl rfl (by decide +kernel) ⟨Nat.le_of_ble_eq_true rfl, Nat.le_of_ble_eq_true rfl⟩ ⟨rfl, rfl⟩ hf (ms_recv hK hP) hK hP hD hS hA hl.1 rfl (Nat.le_of_ble_eq_true rfl) dX8_makes_88 (fun S1 H locs h hP hD hS => ?_)
    exact xr_rV fx hK hP hD hS h dX8_makes_91
  · have h := h.2 c13
    refine lv_aload_n hx hb dX8_makes_16 rfl (lv_at hl 0 rfl) ?_
    refine lv_bipush (v := 15) hx hb dX8_makes_17 (by decide) ?_
    refine xr_vV (n := 1) (As := [.int 15]) (rest := []) fx (ct_X8_clears l D ad cI cJ cR h) gX8_makes_X8_clears rfl rfl (by decide +kernel) ⟨Nat.le_of_ble_eq_true rfl, Nat.le_of_ble_eq_true rfl⟩ ⟨rfl, rfl⟩ hf (ms_recv hK hP) hK hP hD hS hA hl.1 rfl (Nat.le_of_ble_eq_true rfl) dX8_makes_19 (fun S2 H locs h hP hD hS => ?_)
    refine lv_aload_n hx hb dX8_makes_22 rfl (lv_at hl 0 rfl) ?_
    refine ms_get 6 (v := .ref (ad 15)) fx in_X8_makes (by decide) rfl (by decide +kernel) rfl hK hP dX8_makes_23 ?_
    refine lv_sipush (v := 5460) hx hb dX8_makes_26 (by decide) ?_
    refine lv_aload_n hx hb dX8_makes_29 rfl (lv_at hl 0 rfl) ?_
    refine ms_get 4 (v := .ref (ad 2)) fx in_X8_makes (by decide) rfl (by decide +kernel) rfl hK hP dX8_makes_30 ?_
    refine lv_iconst (v := 1) hx hb dX8_makes_33 (by decide) ?_
    obtain ⟨hi3, h⟩ := h
    refine ms_iald 1 (by decide) fx hK hP rfl hi3 dX8_makes_34 ?_
    refine lv_iadd hx hb dX8_makes_35 ?_
    refine lv_aload_n hx hb dX8_makes_36 rfl (lv_at hl 0 rfl) ?_
    refine ms_get 17 (v := .ref (ad 9)) fx in_X8_makes (by decide) rfl (by decide +kernel) rfl hK hP dX8_makes_37 ?_
    refine lv_iload_n hx hb dX8_makes_40 rfl (lv_at hl 2 rfl) ?_
    obtain ⟨hi4, h⟩ := h
    refine ms_iald 8 (by decide) fx hK hP rfl hi4 dX8_makes_41 ?_
    refine lv_iadd hx hb dX8_makes_42 ?_
    refine lv_aload_n hx hb dX8_makes_43 rfl (lv_at hl 0 rfl) ?_
    refine ms_get 18 (v := .ref (ad 19)) fx in_X8_makes (by decide) rfl (by decide +kernel) rfl hK hP dX8_makes_44 ?_
    refine lv_iload_n hx hb dX8_makes_47 rfl (lv_at hl 2 rfl) ?_
    obtain ⟨hi5, h⟩ := h
    refine ms_lald 4 (by decide) fx hK hP rfl hi5 dX8_makes_48 ?_
    obtain ⟨hi6, h⟩ := h
    refine ms_last 0 (by decide) fx hK hP hD hS rfl hi6 dX8_makes_49 (fun H locs hP hD hS => ?_)
    refine lv_aload_n hx hb dX8_makes_50 rfl (lv_at hl 0 rfl) ?_
    refine lv_bipush (v := 16) hx hb dX8_makes_51 (by decide) ?_
    refine lv_bipush (v := 15) hx hb dX8_makes_53 (by decide) ?_
    refine lv_iconst (v := 0) hx hb dX8_makes_55 (by decide) ?_
    refine xr_vV (n := 3) (As := [.int 16, .int 15, .int 0]) (rest := []) fx (ct_X8_series l D ad cI cJ cR h) gX8_makes_X8_series rfl rfl (by decide +kernel) ⟨Nat.le_of_ble_eq_true rfl, Nat.le_of_ble_eq_true rfl⟩ ⟨rfl, rfl⟩ hf (ms_recv hK hP) hK hP hD hS hA hl.1 rfl (Nat.le_of_ble_eq_true rfl) dX8_makes_56 (fun S7 H locs h hP hD hS => ?_)
    refine lv_aload_n hx hb dX8_makes_59 rfl (lv_at hl 0 rfl) ?_
    refine lv_bipush (v := 17) hx hb dX8_makes_60 (by decide) ?_
    refine lv_bipush (v := 14) hx hb dX8_makes_62 (by decide) ?_
    refine lv_bipush (v := 16) hx hb dX8_makes_64 (by decide) ?_
    refine xr_vV (n := 3) (As := [.int 17, .int 14, .int 16]) (rest := []) fx (ct_X8_multiplies l D ad cI cJ cR h) gX8_makes_X8_multiplies rfl rfl (by decide +kernel) ⟨Nat.le_of_ble_eq_true rfl, Nat.le_of_ble_eq_true rfl⟩ ⟨rfl, rfl⟩ hf (ms_recv hK hP) hK hP hD hS hA hl.1 rfl (Nat.le_of_ble_eq_true rfl) dX8_makes_66 (fun S8 H locs h hP hD hS => ?_)
    refine lv_aload_n hx hb dX8_makes_69 rfl (lv_at hl 0 rfl) ?_
    refine lv_bipush (v := 14) hx hb dX8_makes_70 (by decide) ?_
    refine lv_bipush (v := 17) hx hb dX8_makes_72 (by decide) ?_
    refine xr_vV (n := 2) (As := [.int 14, .int 17]) (rest := []) fx (ct_X8_copies l D ad cI cJ cR h) gX8_makes_X8_copies rfl rfl (by decide +kernel) ⟨Nat.le_of_ble_eq_true rfl, Nat.le_of_ble_eq_true rfl⟩ ⟨rfl, rfl⟩ hf (ms_recv hK hP) hK hP hD hS hA hl.1 rfl (Nat.le_of_ble_eq_true rfl) dX8_makes_74 (fun S9 H locs h hP hD hS => ?_)
    obtain ⟨v2_10, ev2_10⟩ : ∃ z : Int32, z = v2 + 1 := ⟨_, rfl⟩
    have h := h v2_10 ev2_10
    refine lv_iinc (v := v2_10) (lv' := [(2, .int v2_10), (0, .ref (ad 0)), (1, .int v1)]) hx hb dX8_makes_77 hl (k := 2) rfl (by rw [ev2_10]; rfl) (by decide) rfl (fun ls hl => ?_)
    refine lv_goto (tgt := 8) hx hb dX8_makes_80 (by decide) ?_
    exact k8 _ _ _ hP hD hS (lv_sub hl [1, 2, 0] rfl) h
theorem kw_X8_makes_8 {p : Program} {l : Launch} {e : Env} {s : State} {m : MethodId} {args : Array Value} {below : List Frame} {meth : Method} {c : Code} {D : va_G} {ad : Nat → Nat} {cI cJ cR : ClassId} {A : Nat → Prop}  {Q : ms_T → Prop} (fx : xr_Fx p m c meth cX8_makes 3 s args wsX8_makes RX8 none) (hK : xr_K D (ms_ty cI cJ cR) s) (hA : ∀ q, s.heap.size ≤ q → A q)  : ∀ (n : Nat) (S : ms_T) (v1 : Int32) (v2 : Int32) {H : Heap} {locs : List Loc} {ls : Array Slot}, va_P D vwCl (ms_w ad cI cJ S) H → va_D A (ms_w ad cI cJ S) → va_S A s.heap H locs → lv_has ls 3 [(0, .ref (ad 0)), (1, .int v1), (2, .int v2)] → wp_X8_makes_8 Q n S v1 v2 → W p l e rm_X8_makes s m args below meth c H locs 0 0 (MQ below (va_Qv Q (xr_B D (ms_ty cI cJ cR) (ms_w ad cI cJ) A) A) args s 0 0 A) (F0 m 8 ls []) := by
  intro n
  induction n with
  | zero => intro S v1 v2 H locs ls hP hD hS hl h; exact False.elim h
  | succ n ih => intro S v1 v2 H locs ls hP hD hS hl h; exact kb_X8_makes_8 fx hK hA ih hP hD hS hl h
set_option maxHeartbeats 4000000 in
set_option maxRecDepth 100000 in
theorem ct_X8_makes (l : Launch) (D : va_G) (ad : Nat → Nat) (cI cJ cR : ClassId) {S : ms_T} {a1 : Int32} {Q : ms_T → Prop} (h : wp_X8_makes S a1 Q) : xr_V l D (ms_ty cI cJ cR) (ms_w ad cI cJ) yX8_makes wsX8_makes rm_X8_makes [.ref (ad 0), .int a1] S Q := by
  refine xr_eV (cc := cX8_makes) (nL := 3) (ret := none) (own := RX8) (by decide) rfl rfl (Nat.le_of_ble_eq_true rfl) ?_
  intro p e s m args below meth c ls A fx hK hA hP hD hS hl
  have hl : lv_has ls 3 [(0, .ref (ad 0)), (1, .int a1)] := hl
  show W p l e rm_X8_makes s m args below meth c s.heap [] 0 0 _ _
  obtain ⟨⟨hx, hb, hml, hown, hts⟩, hrt, hlk⟩ := id fx
  have hf : 0 ≤ rm_X8_makes.cells ∧ 0 ≤ rm_X8_makes.slots := ⟨Nat.zero_le _, Nat.zero_le _⟩
  unfold wp_X8_makes at h
  refine lv_aload_n hx hb dX8_makes_0 rfl (lv_at hl 0 rfl) ?_
  refine lv_bipush (v := 14) hx hb dX8_makes_1 (by decide) ?_
  refine xr_vV (n := 1) (As := [.int 14]) (rest := []) fx (ct_X8_ones l D ad cI cJ cR h) gX8_makes_X8_ones rfl rfl (by decide +kernel) ⟨Nat.le_of_ble_eq_true rfl, Nat.le_of_ble_eq_true rfl⟩ ⟨rfl, rfl⟩ hf (ms_recv hK hP) hK hP hD hS hA hl.1 rfl (Nat.le_of_ble_eq_true rfl) dX8_makes_3 (fun S11 H locs h hP hD hS => ?_)
  refine lv_iconst (v := 0) hx hb dX8_makes_6 (by decide) ?_
  refine lv_istore_n (lv' := [(2, .int 0), (0, .ref (ad 0)), (1, .int a1)]) hx hb dX8_makes_7 rfl hl (by decide) rfl (fun ls hl => ?_)
  obtain ⟨n, h⟩ := h
  exact kw_X8_makes_8 fx hK hA n _ _ _ hP hD hS (lv_sub hl [1, 2, 0] rfl) h
abbrev rm_X8_scheme : Room := { frames := 4, cells := 0, slots := 0, locals := 98 }
set_option maxHeartbeats 4000000 in
set_option maxRecDepth 100000 in
theorem ct_X8_scheme (l : Launch) (D : va_G) (ad : Nat → Nat) (cI cJ cR : ClassId) {S : ms_T} {a1 : Int32} {Q : Int32 → ms_T → Prop} (h : wp_X8_scheme S a1 Q) : xr_I l D (ms_ty cI cJ cR) (ms_w ad cI cJ) yX8_scheme wsX8_scheme rm_X8_scheme [.ref (ad 0), .int a1] S Q := by
  refine xr_eI (cc := cX8_scheme) (nL := 2) (ret := (some .int)) (own := RX8) (by decide) rfl rfl (Nat.le_of_ble_eq_true rfl) ?_
  intro p e s m args below meth c ls A fx hK hA hP hD hS hl
  have hl : lv_has ls 2 [(0, .ref (ad 0)), (1, .int a1)] := hl
  show W p l e rm_X8_scheme s m args below meth c s.heap [] 0 0 _ _
  obtain ⟨⟨hx, hb, hml, hown, hts⟩, hrt, hlk⟩ := id fx
  have hf : 0 ≤ rm_X8_scheme.cells ∧ 0 ≤ rm_X8_scheme.slots := ⟨Nat.zero_le _, Nat.zero_le _⟩
  unfold wp_X8_scheme at h
  refine lv_iload_n hx hb dX8_scheme_0 rfl (lv_at hl 1 rfl) ?_
  refine xr_sI (n := 1) (As := [.int a1]) (rest := []) fx (ct_X8_isSum l h) gX8_scheme_X8_isSum rfl rfl (by decide +kernel) ⟨Nat.le_of_ble_eq_true rfl, Nat.le_of_ble_eq_true rfl⟩ ⟨rfl, rfl⟩ hf hl.1 rfl (Nat.le_of_ble_eq_true rfl) dX8_scheme_1 (fun r1 h => ?_)
  refine lv_if_ne (tgt := 9) hx hb dX8_scheme_4 (by decide) (fun c4 => ?_) (fun c4 => ?_)
  · have h := h.1 c4
    refine lv_aload_n hx hb dX8_scheme_9 rfl (lv_at hl 0 rfl) ?_
    refine lv_iload_n hx hb dX8_scheme_10 rfl (lv_at hl 1 rfl) ?_
    refine xr_vV (n := 1) (As := [.int a1]) (rest := []) fx (ct_X8_makes l D ad cI cJ cR h) gX8_scheme_X8_makes rfl rfl (by decide +kernel) ⟨Nat.le_of_ble_eq_true rfl, Nat.le_of_ble_eq_true rfl⟩ ⟨rfl, rfl⟩ hf (ms_recv hK hP) hK hP hD hS hA hl.1 rfl (Nat.le_of_ble_eq_true rfl) dX8_scheme_11 (fun S2 H locs h hP hD hS => ?_)
    refine lv_iconst (v := 0) hx hb dX8_scheme_14 (by decide) ?_
    exact xr_rI fx hK hP hD hS h dX8_scheme_15
  · have h := h.2 c4
    refine lv_iconst (v := (-1)) hx hb dX8_scheme_7 (by decide) ?_
    exact xr_rI fx hK hP hD hS h dX8_scheme_8
abbrev rm_X8_order : Room := { frames := 4, cells := 0, slots := 0, locals := 98 }
theorem in_X8_order : ∀ w ∈ wsX80, w ∈ wsX8_order := by decide +kernel
set_option maxHeartbeats 4000000 in
set_option maxRecDepth 100000 in
theorem kw_X8_order_41 {p : Program} {l : Launch} {e : Env} {s : State} {m : MethodId} {args : Array Value} {below : List Frame} {meth : Method} {c : Code} {D : va_G} {ad : Nat → Nat} {cI cJ cR : ClassId} {A : Nat → Prop} {K8 : ms_T → Int32 → Prop} {Q : Int32 → ms_T → Prop} {S : ms_T} {v1 : Int32} {s0 : Int64} {s1 : Int64} (fx : xr_Fx p m c meth cX8_order 2 s args wsX8_order RX8 (some .int)) (hK : xr_K D (ms_ty cI cJ cR) s) (hA : ∀ q, s.heap.size ≤ q → A q) (k8 : ∀ (S : ms_T) (v1 : Int32) {H : Heap} {locs : List Loc} {ls : Array Slot}, va_P D vwCl (ms_w ad cI cJ S) H → va_D A (ms_w ad cI cJ S) → va_S A s.heap H locs → lv_has ls 2 [(0, .ref (ad 0)), (1, .int v1)] → K8 S v1 → W p l e rm_X8_order s m args below meth c H locs 0 0 (MQ below (va_Qi Q (xr_B D (ms_ty cI cJ cR) (ms_w ad cI cJ) A) A) args s 0 0 A) (F0 m 8 ls [])) {H : Heap} {locs : List Loc} {ls : Array Slot} (hP : va_P D vwCl (ms_w ad cI cJ S) H) (hD : va_D A (ms_w ad cI cJ S)) (hS : va_S A s.heap H locs) (hl : lv_has ls 2 [(0, .ref (ad 0)), (1, .int v1)]) (h : wp_X8_order_41 K8 Q S v1 s0 s1) : W p l e rm_X8_order s m args below meth c H locs 0 0 (MQ below (va_Qi Q (xr_B D (ms_ty cI cJ cR) (ms_w ad cI cJ) A) A) args s 0 0 A) (F0 m 41 ls [.long s1, .long s0]) := by
  obtain ⟨⟨hx, hb, hml, hown, hts⟩, hrt, hlk⟩ := id fx
  have hf : 0 ≤ rm_X8_order.cells ∧ 0 ≤ rm_X8_order.slots := ⟨Nat.zero_le _, Nat.zero_le _⟩
  unfold wp_X8_order_41 at h
  refine W.lcmp hx hb dX8_order_41 ?_
  refine lv_if_eq (tgt := 67) hx hb dX8_order_42 (by decide) (fun c42 => ?_) (fun c42 => ?_)
  · have h := h.1 ((lg_cmp_eq _ _).mp c42)
    obtain ⟨v1_1, ev1_1⟩ : ∃ z : Int32, z = v1 + 1 := ⟨_, rfl⟩
    have h := h v1_1 ev1_1
    refine lv_iinc (v := v1_1) (lv' := [(1, .int v1_1), (0, .ref (ad 0))]) hx hb dX8_order_67 hl (k := 1) rfl (by rw [ev1_1]; rfl) (by decide) rfl (fun ls hl => ?_)
    refine lv_goto (tgt := 8) hx hb dX8_order_70 (by decide) ?_
    exact k8 _ _ hP hD hS (lv_sub hl [1, 0] rfl) h
  · have h := h.2 (fun z => c42 ((lg_cmp_eq _ _).mpr z))
    refine lv_aload_n hx hb dX8_order_45 rfl (lv_at hl 0 rfl) ?_
    refine ms_get 5 (v := .ref (ad 3)) fx in_X8_order (by decide) rfl (by decide +kernel) rfl hK hP dX8_order_46 ?_
    refine lv_iload_n hx hb dX8_order_49 rfl (lv_at hl 1 rfl) ?_
    obtain ⟨hi2, h⟩ := h
    refine ms_iald 2 (by decide) fx hK hP rfl hi2 dX8_order_50 ?_
    refine lv_if_ne (tgt := 58) hx hb dX8_order_51 (by decide) (fun c51 => ?_) (fun c51 => ?_)
    · have h := h.1 c51
      refine lv_aload_n hx hb dX8_order_58 rfl (lv_at hl 0 rfl) ?_
      refine ms_get 5 (v := .ref (ad 3)) fx in_X8_order (by decide) rfl (by decide +kernel) rfl hK hP dX8_order_59 ?_
      refine lv_iload_n hx hb dX8_order_62 rfl (lv_at hl 1 rfl) ?_
      obtain ⟨hi3, h⟩ := h
      refine ms_iald 2 (by decide) fx hK hP rfl hi3 dX8_order_63 ?_
      refine lv_iconst (v := 1) hx hb dX8_order_64 (by decide) ?_
      refine lv_isub hx hb dX8_order_65 ?_
      exact xr_rI fx hK hP hD hS h dX8_order_66
    · have h := h.2 c51
      refine lv_iconst (v := 0) hx hb dX8_order_54 (by decide) ?_
      refine lv_goto (tgt := 66) hx hb dX8_order_55 (by decide) ?_
      exact xr_rI fx hK hP hD hS h dX8_order_66
set_option maxHeartbeats 4000000 in
set_option maxRecDepth 100000 in
theorem kb_X8_order_8 {p : Program} {l : Launch} {e : Env} {s : State} {m : MethodId} {args : Array Value} {below : List Frame} {meth : Method} {c : Code} {D : va_G} {ad : Nat → Nat} {cI cJ cR : ClassId} {A : Nat → Prop}  {K8 : ms_T → Int32 → Prop} {Q : Int32 → ms_T → Prop} {S : ms_T} {v1 : Int32} (fx : xr_Fx p m c meth cX8_order 2 s args wsX8_order RX8 (some .int)) (hK : xr_K D (ms_ty cI cJ cR) s) (hA : ∀ q, s.heap.size ≤ q → A q)  (k8 : ∀ (S : ms_T) (v1 : Int32) {H : Heap} {locs : List Loc} {ls : Array Slot}, va_P D vwCl (ms_w ad cI cJ S) H → va_D A (ms_w ad cI cJ S) → va_S A s.heap H locs → lv_has ls 2 [(0, .ref (ad 0)), (1, .int v1)] → K8 S v1 → W p l e rm_X8_order s m args below meth c H locs 0 0 (MQ below (va_Qi Q (xr_B D (ms_ty cI cJ cR) (ms_w ad cI cJ) A) A) args s 0 0 A) (F0 m 8 ls [])) {H : Heap} {locs : List Loc} {ls : Array Slot} (hP : va_P D vwCl (ms_w ad cI cJ S) H) (hD : va_D A (ms_w ad cI cJ S)) (hS : va_S A s.heap H locs) (hl : lv_has ls 2 [(0, .ref (ad 0)), (1, .int v1)]) (h : wb_X8_order_8 K8 Q S v1) : W p l e rm_X8_order s m args below meth c H locs 0 0 (MQ below (va_Qi Q (xr_B D (ms_ty cI cJ cR) (ms_w ad cI cJ) A) A) args s 0 0 A) (F0 m 8 ls []) := by
  obtain ⟨⟨hx, hb, hml, hown, hts⟩, hrt, hlk⟩ := id fx
  have hf : 0 ≤ rm_X8_order.cells ∧ 0 ≤ rm_X8_order.slots := ⟨Nat.zero_le _, Nat.zero_le _⟩
  unfold wb_X8_order_8 at h
  refine lv_iload_n hx hb dX8_order_8 rfl (lv_at hl 1 rfl) ?_
  refine lv_aload_n hx hb dX8_order_9 rfl (lv_at hl 0 rfl) ?_
  refine ms_get 2 (v := .int (S.1 2)) fx in_X8_order (by decide) rfl (by decide +kernel) rfl hK hP dX8_order_10 ?_
  refine lv_icmp_ge (tgt := 73) hx hb dX8_order_13 (by decide) (fun c13 => ?_) (fun c13 => ?_)
  · have h := h.1 c13
    refine lv_aload_n hx hb dX8_order_73 rfl (lv_at hl 0 rfl) ?_
    refine ms_get 1 (v := .int (S.1 1)) fx in_X8_order (by decide) rfl (by decide +kernel) rfl hK hP dX8_order_74 ?_
    exact xr_rI fx hK hP hD hS h dX8_order_77
  · have h := h.2 c13
    refine lv_aload_n hx hb dX8_order_16 rfl (lv_at hl 0 rfl) ?_
    refine ms_get 6 (v := .ref (ad 15)) fx in_X8_order (by decide) rfl (by decide +kernel) rfl hK hP dX8_order_17 ?_
    refine lv_sipush (v := 6552) hx hb dX8_order_20 (by decide) ?_
    refine lv_iload_n hx hb dX8_order_23 rfl (lv_at hl 1 rfl) ?_
    refine lv_iadd hx hb dX8_order_24 ?_
    obtain ⟨hi4, h⟩ := h
    refine ms_lald 0 (by decide) fx hK hP rfl hi4 dX8_order_25 ?_
    refine lv_aload_n hx hb dX8_order_26 rfl (lv_at hl 0 rfl) ?_
    refine ms_get 5 (v := .ref (ad 3)) fx in_X8_order (by decide) rfl (by decide +kernel) rfl hK hP dX8_order_27 ?_
    refine lv_iload_n hx hb dX8_order_30 rfl (lv_at hl 1 rfl) ?_
    obtain ⟨hi5, h⟩ := h
    refine ms_iald 2 (by decide) fx hK hP rfl hi5 dX8_order_31 ?_
    refine lv_iconst (v := 1) hx hb dX8_order_32 (by decide) ?_
    refine lv_icmp_ne (tgt := 40) hx hb dX8_order_33 (by decide) (fun c33 => ?_) (fun c33 => ?_)
    · have h := h.1 c33
      refine lv_lconst (v := 0) hx hb dX8_order_40 (by decide) ?_
      exact kw_X8_order_41 fx hK hA k8 hP hD hS (lv_sub hl [0, 1] rfl) h
    · have h := h.2 c33
      refine lv_lconst (v := 1) hx hb dX8_order_36 (by decide) ?_
      refine lv_goto (tgt := 41) hx hb dX8_order_37 (by decide) ?_
      exact kw_X8_order_41 fx hK hA k8 hP hD hS (lv_sub hl [0, 1] rfl) h
theorem kw_X8_order_8 {p : Program} {l : Launch} {e : Env} {s : State} {m : MethodId} {args : Array Value} {below : List Frame} {meth : Method} {c : Code} {D : va_G} {ad : Nat → Nat} {cI cJ cR : ClassId} {A : Nat → Prop}  {Q : Int32 → ms_T → Prop} (fx : xr_Fx p m c meth cX8_order 2 s args wsX8_order RX8 (some .int)) (hK : xr_K D (ms_ty cI cJ cR) s) (hA : ∀ q, s.heap.size ≤ q → A q)  : ∀ (n : Nat) (S : ms_T) (v1 : Int32) {H : Heap} {locs : List Loc} {ls : Array Slot}, va_P D vwCl (ms_w ad cI cJ S) H → va_D A (ms_w ad cI cJ S) → va_S A s.heap H locs → lv_has ls 2 [(0, .ref (ad 0)), (1, .int v1)] → wp_X8_order_8 Q n S v1 → W p l e rm_X8_order s m args below meth c H locs 0 0 (MQ below (va_Qi Q (xr_B D (ms_ty cI cJ cR) (ms_w ad cI cJ) A) A) args s 0 0 A) (F0 m 8 ls []) := by
  intro n
  induction n with
  | zero => intro S v1 H locs ls hP hD hS hl h; exact False.elim h
  | succ n ih => intro S v1 H locs ls hP hD hS hl h; exact kb_X8_order_8 fx hK hA ih hP hD hS hl h
set_option maxHeartbeats 4000000 in
set_option maxRecDepth 100000 in
theorem ct_X8_order (l : Launch) (D : va_G) (ad : Nat → Nat) (cI cJ cR : ClassId) {S : ms_T} {Q : Int32 → ms_T → Prop} (h : wp_X8_order S Q) : xr_I l D (ms_ty cI cJ cR) (ms_w ad cI cJ) yX8_order wsX8_order rm_X8_order [.ref (ad 0)] S Q := by
  refine xr_eI (cc := cX8_order) (nL := 2) (ret := (some .int)) (own := RX8) (by decide) rfl rfl (Nat.le_of_ble_eq_true rfl) ?_
  intro p e s m args below meth c ls A fx hK hA hP hD hS hl
  have hl : lv_has ls 2 [(0, .ref (ad 0))] := hl
  show W p l e rm_X8_order s m args below meth c s.heap [] 0 0 _ _
  obtain ⟨⟨hx, hb, hml, hown, hts⟩, hrt, hlk⟩ := id fx
  have hf : 0 ≤ rm_X8_order.cells ∧ 0 ≤ rm_X8_order.slots := ⟨Nat.zero_le _, Nat.zero_le _⟩
  unfold wp_X8_order at h
  refine lv_aload_n hx hb dX8_order_0 rfl (lv_at hl 0 rfl) ?_
  refine lv_bipush (v := 18) hx hb dX8_order_1 (by decide) ?_
  refine xr_vV (n := 1) (As := [.int 18]) (rest := []) fx (ct_X8_makes l D ad cI cJ cR h) gX8_order_X8_makes rfl rfl (by decide +kernel) ⟨Nat.le_of_ble_eq_true rfl, Nat.le_of_ble_eq_true rfl⟩ ⟨rfl, rfl⟩ hf (ms_recv hK hP) hK hP hD hS hA hl.1 rfl (Nat.le_of_ble_eq_true rfl) dX8_order_3 (fun S6 H locs h hP hD hS => ?_)
  refine lv_iconst (v := 0) hx hb dX8_order_6 (by decide) ?_
  refine lv_istore_n (lv' := [(1, .int 0), (0, .ref (ad 0))]) hx hb dX8_order_7 rfl hl (by decide) rfl (fun ls hl => ?_)
  obtain ⟨n, h⟩ := h
  exact kw_X8_order_8 fx hK hA n _ _ hP hD hS (lv_sub hl [1, 0] rfl) h
abbrev rm_X8_relate : Room := { frames := 6, cells := 0, slots := 0, locals := 146 }
theorem in_X8_relate : ∀ w ∈ wsX80, w ∈ wsX8_relate := by decide +kernel
set_option maxHeartbeats 4000000 in
set_option maxRecDepth 100000 in
theorem kw_X8_relate_77 {p : Program} {l : Launch} {e : Env} {s : State} {m : MethodId} {args : Array Value} {below : List Frame} {meth : Method} {c : Code} {D : va_G} {ad : Nat → Nat} {cI cJ cR : ClassId} {A : Nat → Prop} {K16 : ms_T → Int32 → Int32 → Int32 → Int32 → Prop} {Q : Int32 → ms_T → Prop} {S : ms_T} {v1 : Int32} {v2 : Int32} {v3 : Int32} {v4 : Int32} (fx : xr_Fx p m c meth cX8_relate 5 s args wsX8_relate RX8 (some .int)) (hK : xr_K D (ms_ty cI cJ cR) s) (hA : ∀ q, s.heap.size ≤ q → A q) (k16 : ∀ (S : ms_T) (v1 : Int32) (v2 : Int32) (v3 : Int32) (v4 : Int32) {H : Heap} {locs : List Loc} {ls : Array Slot}, va_P D vwCl (ms_w ad cI cJ S) H → va_D A (ms_w ad cI cJ S) → va_S A s.heap H locs → lv_has ls 5 [(0, .ref (ad 0)), (1, .int v1), (2, .int v2), (3, .int v3), (4, .int v4)] → K16 S v1 v2 v3 v4 → W p l e rm_X8_relate s m args below meth c H locs 0 0 (MQ below (va_Qi Q (xr_B D (ms_ty cI cJ cR) (ms_w ad cI cJ) A) A) args s 0 0 A) (F0 m 16 ls [])) {H : Heap} {locs : List Loc} {ls : Array Slot} (hP : va_P D vwCl (ms_w ad cI cJ S) H) (hD : va_D A (ms_w ad cI cJ S)) (hS : va_S A s.heap H locs) (hl : lv_has ls 5 [(0, .ref (ad 0)), (1, .int v1), (2, .int v2), (3, .int v3), (4, .int v4)]) (h : wp_X8_relate_77 K16 Q S v1 v2 v3 v4) : W p l e rm_X8_relate s m args below meth c H locs 0 0 (MQ below (va_Qi Q (xr_B D (ms_ty cI cJ cR) (ms_w ad cI cJ) A) A) args s 0 0 A) (F0 m 77 ls []) := by
  obtain ⟨⟨hx, hb, hml, hown, hts⟩, hrt, hlk⟩ := id fx
  have hf : 0 ≤ rm_X8_relate.cells ∧ 0 ≤ rm_X8_relate.slots := ⟨Nat.zero_le _, Nat.zero_le _⟩
  unfold wp_X8_relate_77 at h
  obtain ⟨v4_1, ev4_1⟩ : ∃ z : Int32, z = v4 + 1 := ⟨_, rfl⟩
  have h := h v4_1 ev4_1
  refine lv_iinc (v := v4_1) (lv' := [(4, .int v4_1), (0, .ref (ad 0)), (1, .int v1), (2, .int v2), (3, .int v3)]) hx hb dX8_relate_77 hl (k := 4) rfl (by rw [ev4_1]; rfl) (by decide) rfl (fun ls hl => ?_)
  refine lv_goto (tgt := 16) hx hb dX8_relate_80 (by decide) ?_
  exact k16 _ _ _ _ _ hP hD hS (lv_sub hl [1, 2, 3, 4, 0] rfl) h
set_option maxHeartbeats 4000000 in
set_option maxRecDepth 100000 in
theorem kw_X8_relate_68 {p : Program} {l : Launch} {e : Env} {s : State} {m : MethodId} {args : Array Value} {below : List Frame} {meth : Method} {c : Code} {D : va_G} {ad : Nat → Nat} {cI cJ cR : ClassId} {A : Nat → Prop} {K16 : ms_T → Int32 → Int32 → Int32 → Int32 → Prop} {Q : Int32 → ms_T → Prop} {S : ms_T} {v1 : Int32} {v4 : Int32} {s0 : Int32} (fx : xr_Fx p m c meth cX8_relate 5 s args wsX8_relate RX8 (some .int)) (hK : xr_K D (ms_ty cI cJ cR) s) (hA : ∀ q, s.heap.size ≤ q → A q) (k16 : ∀ (S : ms_T) (v1 : Int32) (v2 : Int32) (v3 : Int32) (v4 : Int32) {H : Heap} {locs : List Loc} {ls : Array Slot}, va_P D vwCl (ms_w ad cI cJ S) H → va_D A (ms_w ad cI cJ S) → va_S A s.heap H locs → lv_has ls 5 [(0, .ref (ad 0)), (1, .int v1), (2, .int v2), (3, .int v3), (4, .int v4)] → K16 S v1 v2 v3 v4 → W p l e rm_X8_relate s m args below meth c H locs 0 0 (MQ below (va_Qi Q (xr_B D (ms_ty cI cJ cR) (ms_w ad cI cJ) A) A) args s 0 0 A) (F0 m 16 ls [])) {H : Heap} {locs : List Loc} {ls : Array Slot} (hP : va_P D vwCl (ms_w ad cI cJ S) H) (hD : va_D A (ms_w ad cI cJ S)) (hS : va_S A s.heap H locs) (hl : lv_has ls 5 [(0, .ref (ad 0)), (1, .int v1), (4, .int v4)]) (h : wp_X8_relate_68 K16 Q S v1 v4 s0) : W p l e rm_X8_relate s m args below meth c H locs 0 0 (MQ below (va_Qi Q (xr_B D (ms_ty cI cJ cR) (ms_w ad cI cJ) A) A) args s 0 0 A) (F0 m 68 ls [.int s0]) := by
  obtain ⟨⟨hx, hb, hml, hown, hts⟩, hrt, hlk⟩ := id fx
  have hf : 0 ≤ rm_X8_relate.cells ∧ 0 ≤ rm_X8_relate.slots := ⟨Nat.zero_le _, Nat.zero_le _⟩
  unfold wp_X8_relate_68 at h
  refine lv_istore_n (lv' := [(3, .int s0), (0, .ref (ad 0)), (1, .int v1), (4, .int v4)]) hx hb dX8_relate_68 rfl hl (by decide) rfl (fun ls hl => ?_)
  refine lv_aload_n hx hb dX8_relate_69 rfl (lv_at hl 1 rfl) ?_
  refine ms_get 5 (v := .ref (ad 3)) fx in_X8_relate (by decide) rfl (by decide +kernel) rfl hK hP dX8_relate_70 ?_
  refine lv_iload hx hb dX8_relate_73 (lv_at hl 3 rfl) ?_
  obtain ⟨hi2, h⟩ := h
  refine ms_iald 2 (by decide) fx hK hP rfl hi2 dX8_relate_75 ?_
  refine lv_topi (fun v2_3 ev2_3 => ?_)
  have h := h v2_3 ev2_3
  refine lv_istore_n (lv' := [(2, .int v2_3), (3, .int s0), (0, .ref (ad 0)), (1, .int v1), (4, .int v4)]) hx hb dX8_relate_76 rfl hl (by decide) rfl (fun ls hl => ?_)
  exact kw_X8_relate_77 fx hK hA k16 hP hD hS (lv_sub hl [2, 3, 0, 1, 4] rfl) h
set_option maxHeartbeats 4000000 in
set_option maxRecDepth 100000 in
theorem kw_X8_relate_63 {p : Program} {l : Launch} {e : Env} {s : State} {m : MethodId} {args : Array Value} {below : List Frame} {meth : Method} {c : Code} {D : va_G} {ad : Nat → Nat} {cI cJ cR : ClassId} {A : Nat → Prop} {K16 : ms_T → Int32 → Int32 → Int32 → Int32 → Prop} {Q : Int32 → ms_T → Prop} {S : ms_T} {v1 : Int32} {v4 : Int32} (fx : xr_Fx p m c meth cX8_relate 5 s args wsX8_relate RX8 (some .int)) (hK : xr_K D (ms_ty cI cJ cR) s) (hA : ∀ q, s.heap.size ≤ q → A q) (k16 : ∀ (S : ms_T) (v1 : Int32) (v2 : Int32) (v3 : Int32) (v4 : Int32) {H : Heap} {locs : List Loc} {ls : Array Slot}, va_P D vwCl (ms_w ad cI cJ S) H → va_D A (ms_w ad cI cJ S) → va_S A s.heap H locs → lv_has ls 5 [(0, .ref (ad 0)), (1, .int v1), (2, .int v2), (3, .int v3), (4, .int v4)] → K16 S v1 v2 v3 v4 → W p l e rm_X8_relate s m args below meth c H locs 0 0 (MQ below (va_Qi Q (xr_B D (ms_ty cI cJ cR) (ms_w ad cI cJ) A) A) args s 0 0 A) (F0 m 16 ls [])) {H : Heap} {locs : List Loc} {ls : Array Slot} (hP : va_P D vwCl (ms_w ad cI cJ S) H) (hD : va_D A (ms_w ad cI cJ S)) (hS : va_S A s.heap H locs) (hl : lv_has ls 5 [(0, .ref (ad 0)), (1, .int v1), (4, .int v4)]) (h : wp_X8_relate_63 K16 Q S v1 v4) : W p l e rm_X8_relate s m args below meth c H locs 0 0 (MQ below (va_Qi Q (xr_B D (ms_ty cI cJ cR) (ms_w ad cI cJ) A) A) args s 0 0 A) (F0 m 63 ls []) := by
  obtain ⟨⟨hx, hb, hml, hown, hts⟩, hrt, hlk⟩ := id fx
  have hf : 0 ≤ rm_X8_relate.cells ∧ 0 ≤ rm_X8_relate.slots := ⟨Nat.zero_le _, Nat.zero_le _⟩
  unfold wp_X8_relate_63 at h
  refine lv_iconst (v := 1) hx hb dX8_relate_63 (by decide) ?_
  refine lv_goto (tgt := 68) hx hb dX8_relate_64 (by decide) ?_
  exact kw_X8_relate_68 fx hK hA k16 hP hD hS (lv_sub hl [0, 1, 2] rfl) h
set_option maxHeartbeats 4000000 in
set_option maxRecDepth 100000 in
theorem kw_X8_relate_67 {p : Program} {l : Launch} {e : Env} {s : State} {m : MethodId} {args : Array Value} {below : List Frame} {meth : Method} {c : Code} {D : va_G} {ad : Nat → Nat} {cI cJ cR : ClassId} {A : Nat → Prop} {K16 : ms_T → Int32 → Int32 → Int32 → Int32 → Prop} {Q : Int32 → ms_T → Prop} {S : ms_T} {v1 : Int32} {v4 : Int32} (fx : xr_Fx p m c meth cX8_relate 5 s args wsX8_relate RX8 (some .int)) (hK : xr_K D (ms_ty cI cJ cR) s) (hA : ∀ q, s.heap.size ≤ q → A q) (k16 : ∀ (S : ms_T) (v1 : Int32) (v2 : Int32) (v3 : Int32) (v4 : Int32) {H : Heap} {locs : List Loc} {ls : Array Slot}, va_P D vwCl (ms_w ad cI cJ S) H → va_D A (ms_w ad cI cJ S) → va_S A s.heap H locs → lv_has ls 5 [(0, .ref (ad 0)), (1, .int v1), (2, .int v2), (3, .int v3), (4, .int v4)] → K16 S v1 v2 v3 v4 → W p l e rm_X8_relate s m args below meth c H locs 0 0 (MQ below (va_Qi Q (xr_B D (ms_ty cI cJ cR) (ms_w ad cI cJ) A) A) args s 0 0 A) (F0 m 16 ls [])) {H : Heap} {locs : List Loc} {ls : Array Slot} (hP : va_P D vwCl (ms_w ad cI cJ S) H) (hD : va_D A (ms_w ad cI cJ S)) (hS : va_S A s.heap H locs) (hl : lv_has ls 5 [(0, .ref (ad 0)), (1, .int v1), (4, .int v4)]) (h : wp_X8_relate_67 K16 Q S v1 v4) : W p l e rm_X8_relate s m args below meth c H locs 0 0 (MQ below (va_Qi Q (xr_B D (ms_ty cI cJ cR) (ms_w ad cI cJ) A) A) args s 0 0 A) (F0 m 67 ls []) := by
  obtain ⟨⟨hx, hb, hml, hown, hts⟩, hrt, hlk⟩ := id fx
  have hf : 0 ≤ rm_X8_relate.cells ∧ 0 ≤ rm_X8_relate.slots := ⟨Nat.zero_le _, Nat.zero_le _⟩
  unfold wp_X8_relate_67 at h
  refine lv_iconst (v := 0) hx hb dX8_relate_67 (by decide) ?_
  exact kw_X8_relate_68 fx hK hA k16 hP hD hS (lv_sub hl [0, 1, 2] rfl) h
set_option maxHeartbeats 4000000 in
set_option maxRecDepth 100000 in
theorem kb_X8_relate_127 {p : Program} {l : Launch} {e : Env} {s : State} {m : MethodId} {args : Array Value} {below : List Frame} {meth : Method} {c : Code} {D : va_G} {ad : Nat → Nat} {cI cJ cR : ClassId} {A : Nat → Prop}  {K127 : ms_T → Int32 → Int32 → Int32 → Prop} {Q : Int32 → ms_T → Prop} {S : ms_T} {v1 : Int32} {v2 : Int32} {v4 : Int32} (fx : xr_Fx p m c meth cX8_relate 5 s args wsX8_relate RX8 (some .int)) (hK : xr_K D (ms_ty cI cJ cR) s) (hA : ∀ q, s.heap.size ≤ q → A q)  (k127 : ∀ (S : ms_T) (v1 : Int32) (v2 : Int32) (v4 : Int32) {H : Heap} {locs : List Loc} {ls : Array Slot}, va_P D vwCl (ms_w ad cI cJ S) H → va_D A (ms_w ad cI cJ S) → va_S A s.heap H locs → lv_has ls 5 [(0, .ref (ad 0)), (1, .int v1), (2, .int v2), (4, .int v4)] → K127 S v1 v2 v4 → W p l e rm_X8_relate s m args below meth c H locs 0 0 (MQ below (va_Qi Q (xr_B D (ms_ty cI cJ cR) (ms_w ad cI cJ) A) A) args s 0 0 A) (F0 m 127 ls [])) {H : Heap} {locs : List Loc} {ls : Array Slot} (hP : va_P D vwCl (ms_w ad cI cJ S) H) (hD : va_D A (ms_w ad cI cJ S)) (hS : va_S A s.heap H locs) (hl : lv_has ls 5 [(0, .ref (ad 0)), (1, .int v1), (2, .int v2), (4, .int v4)]) (h : wb_X8_relate_127 K127 Q S v1 v2 v4) : W p l e rm_X8_relate s m args below meth c H locs 0 0 (MQ below (va_Qi Q (xr_B D (ms_ty cI cJ cR) (ms_w ad cI cJ) A) A) args s 0 0 A) (F0 m 127 ls []) := by
  obtain ⟨⟨hx, hb, hml, hown, hts⟩, hrt, hlk⟩ := id fx
  have hf : 0 ≤ rm_X8_relate.cells ∧ 0 ≤ rm_X8_relate.slots := ⟨Nat.zero_le _, Nat.zero_le _⟩
  unfold wb_X8_relate_127 at h
  refine lv_iload hx hb dX8_relate_127 (lv_at hl 3 rfl) ?_
  refine lv_aload_n hx hb dX8_relate_129 rfl (lv_at hl 0 rfl) ?_
  refine ms_get 3 (v := .ref (ad 1)) fx in_X8_relate (by decide) rfl (by decide +kernel) rfl hK hP dX8_relate_130 ?_
  refine lv_iload_n hx hb dX8_relate_133 rfl (lv_at hl 2 rfl) ?_
  obtain ⟨hi4, h⟩ := h
  refine ms_iald 0 (by decide) fx hK hP rfl hi4 dX8_relate_134 ?_
  refine lv_icmp_ge (tgt := 180) hx hb dX8_relate_135 (by decide) (fun c135 => ?_) (fun c135 => ?_)
  · have h := h.1 c135
    refine lv_aload_n hx hb dX8_relate_180 rfl (lv_at hl 0 rfl) ?_
    refine lv_dup hx hb dX8_relate_181 rfl ?_
    refine ms_get 19 (v := .int (S.1 5)) fx in_X8_relate (by decide) rfl (by decide +kernel) rfl hK hP dX8_relate_182 ?_
    refine lv_iconst (v := 1) hx hb dX8_relate_185 (by decide) ?_
    refine lv_iadd hx hb dX8_relate_186 ?_
    refine ms_put 19 5 (ty := .int) fx in_X8_relate (by decide) ms_f19 (by decide +kernel) rfl rfl (by decide +kernel) rfl rfl hK hP hD hS dX8_relate_187 (fun H locs hP hD hS => ?_)
    refine lv_aload_n hx hb dX8_relate_190 rfl (lv_at hl 0 rfl) ?_
    refine ms_get 19 (v := .int ((ms_sF S 5 ((S.1 5) + 1)).1 5)) fx in_X8_relate (by decide) rfl (by decide +kernel) rfl hK hP dX8_relate_191 ?_
    refine lv_iconst (v := 1) hx hb dX8_relate_194 (by decide) ?_
    refine lv_isub hx hb dX8_relate_195 ?_
    exact xr_rI fx hK hP hD hS h dX8_relate_196
  · have h := h.2 c135
    refine lv_aload_n hx hb dX8_relate_138 rfl (lv_at hl 0 rfl) ?_
    refine ms_get 21 (v := .ref (ad 20)) fx in_X8_relate (by decide) rfl (by decide +kernel) rfl hK hP dX8_relate_139 ?_
    refine lv_sipush (v := 256) hx hb dX8_relate_142 (by decide) ?_
    refine lv_aload_n hx hb dX8_relate_145 rfl (lv_at hl 0 rfl) ?_
    refine ms_get 19 (v := .int (S.1 5)) fx in_X8_relate (by decide) rfl (by decide +kernel) rfl hK hP dX8_relate_146 ?_
    refine lv_imul hx hb dX8_relate_149 ?_
    refine lv_iload hx hb dX8_relate_150 (lv_at hl 3 rfl) ?_
    refine lv_iadd hx hb dX8_relate_152 ?_
    refine lv_aload_n hx hb dX8_relate_153 rfl (lv_at hl 0 rfl) ?_
    refine ms_get 6 (v := .ref (ad 15)) fx in_X8_relate (by decide) rfl (by decide +kernel) rfl hK hP dX8_relate_154 ?_
    refine lv_sipush (v := 364) hx hb dX8_relate_157 (by decide) ?_
    refine lv_iload_n hx hb dX8_relate_160 rfl (lv_at hl 1 rfl) ?_
    refine lv_imul hx hb dX8_relate_161 ?_
    refine lv_aload_n hx hb dX8_relate_162 rfl (lv_at hl 0 rfl) ?_
    refine ms_get 4 (v := .ref (ad 2)) fx in_X8_relate (by decide) rfl (by decide +kernel) rfl hK hP dX8_relate_163 ?_
    refine lv_iload_n hx hb dX8_relate_166 rfl (lv_at hl 2 rfl) ?_
    obtain ⟨hi5, h⟩ := h
    refine ms_iald 1 (by decide) fx hK hP rfl hi5 dX8_relate_167 ?_
    refine lv_iadd hx hb dX8_relate_168 ?_
    refine lv_iload hx hb dX8_relate_169 (lv_at hl 3 rfl) ?_
    refine lv_iadd hx hb dX8_relate_171 ?_
    obtain ⟨hi6, h⟩ := h
    refine ms_lald 0 (by decide) fx hK hP rfl hi6 dX8_relate_172 ?_
    obtain ⟨hi7, h⟩ := h
    refine ms_last 5 (by decide) fx hK hP hD hS rfl hi7 dX8_relate_173 (fun H locs hP hD hS => ?_)
    obtain ⟨v4_8, ev4_8⟩ : ∃ z : Int32, z = v4 + 1 := ⟨_, rfl⟩
    have h := h v4_8 ev4_8
    refine lv_iinc (v := v4_8) (lv' := [(4, .int v4_8), (0, .ref (ad 0)), (1, .int v1), (2, .int v2)]) hx hb dX8_relate_174 hl (k := 3) rfl (by rw [ev4_8]; rfl) (by decide) rfl (fun ls hl => ?_)
    refine lv_goto (tgt := 127) hx hb dX8_relate_177 (by decide) ?_
    exact k127 _ _ _ _ hP hD hS (lv_sub hl [1, 2, 3, 0] rfl) h
theorem kw_X8_relate_127 {p : Program} {l : Launch} {e : Env} {s : State} {m : MethodId} {args : Array Value} {below : List Frame} {meth : Method} {c : Code} {D : va_G} {ad : Nat → Nat} {cI cJ cR : ClassId} {A : Nat → Prop}  {Q : Int32 → ms_T → Prop} (fx : xr_Fx p m c meth cX8_relate 5 s args wsX8_relate RX8 (some .int)) (hK : xr_K D (ms_ty cI cJ cR) s) (hA : ∀ q, s.heap.size ≤ q → A q)  : ∀ (n : Nat) (S : ms_T) (v1 : Int32) (v2 : Int32) (v4 : Int32) {H : Heap} {locs : List Loc} {ls : Array Slot}, va_P D vwCl (ms_w ad cI cJ S) H → va_D A (ms_w ad cI cJ S) → va_S A s.heap H locs → lv_has ls 5 [(0, .ref (ad 0)), (1, .int v1), (2, .int v2), (4, .int v4)] → wp_X8_relate_127 Q n S v1 v2 v4 → W p l e rm_X8_relate s m args below meth c H locs 0 0 (MQ below (va_Qi Q (xr_B D (ms_ty cI cJ cR) (ms_w ad cI cJ) A) A) args s 0 0 A) (F0 m 127 ls []) := by
  intro n
  induction n with
  | zero => intro S v1 v2 v4 H locs ls hP hD hS hl h; exact False.elim h
  | succ n ih => intro S v1 v2 v4 H locs ls hP hD hS hl h; exact kb_X8_relate_127 fx hK hA ih hP hD hS hl h
set_option maxHeartbeats 4000000 in
set_option maxRecDepth 100000 in
theorem kb_X8_relate_16 {p : Program} {l : Launch} {e : Env} {s : State} {m : MethodId} {args : Array Value} {below : List Frame} {meth : Method} {c : Code} {D : va_G} {ad : Nat → Nat} {cI cJ cR : ClassId} {A : Nat → Prop}  {K16 : ms_T → Int32 → Int32 → Int32 → Int32 → Prop} {Q : Int32 → ms_T → Prop} {S : ms_T} {v1 : Int32} {v2 : Int32} {v3 : Int32} {v4 : Int32} (fx : xr_Fx p m c meth cX8_relate 5 s args wsX8_relate RX8 (some .int)) (hK : xr_K D (ms_ty cI cJ cR) s) (hA : ∀ q, s.heap.size ≤ q → A q)  (k16 : ∀ (S : ms_T) (v1 : Int32) (v2 : Int32) (v3 : Int32) (v4 : Int32) {H : Heap} {locs : List Loc} {ls : Array Slot}, va_P D vwCl (ms_w ad cI cJ S) H → va_D A (ms_w ad cI cJ S) → va_S A s.heap H locs → lv_has ls 5 [(0, .ref (ad 0)), (1, .int v1), (2, .int v2), (3, .int v3), (4, .int v4)] → K16 S v1 v2 v3 v4 → W p l e rm_X8_relate s m args below meth c H locs 0 0 (MQ below (va_Qi Q (xr_B D (ms_ty cI cJ cR) (ms_w ad cI cJ) A) A) args s 0 0 A) (F0 m 16 ls [])) {H : Heap} {locs : List Loc} {ls : Array Slot} (hP : va_P D vwCl (ms_w ad cI cJ S) H) (hD : va_D A (ms_w ad cI cJ S)) (hS : va_S A s.heap H locs) (hl : lv_has ls 5 [(0, .ref (ad 0)), (1, .int v1), (2, .int v2), (3, .int v3), (4, .int v4)]) (h : wb_X8_relate_16 K16 Q S v1 v2 v3 v4) : W p l e rm_X8_relate s m args below meth c H locs 0 0 (MQ below (va_Qi Q (xr_B D (ms_ty cI cJ cR) (ms_w ad cI cJ) A) A) args s 0 0 A) (F0 m 16 ls []) := by
  obtain ⟨⟨hx, hb, hml, hown, hts⟩, hrt, hlk⟩ := id fx
  have hf : 0 ≤ rm_X8_relate.cells ∧ 0 ≤ rm_X8_relate.slots := ⟨Nat.zero_le _, Nat.zero_le _⟩
  unfold wb_X8_relate_16 at h
  refine lv_iload hx hb dX8_relate_16 (lv_at hl 4 rfl) ?_
  refine lv_aload_n hx hb dX8_relate_18 rfl (lv_at hl 0 rfl) ?_
  refine ms_get 2 (v := .int (S.1 2)) fx in_X8_relate (by decide) rfl (by decide +kernel) rfl hK hP dX8_relate_19 ?_
  refine lv_icmp_ge (tgt := 83) hx hb dX8_relate_22 (by decide) (fun c22 => ?_) (fun c22 => ?_)
  · have h := h.1 c22
    refine lv_iload_n hx hb dX8_relate_83 rfl (lv_at hl 2 rfl) ?_
    refine lv_iconst (v := (-1)) hx hb dX8_relate_84 (by decide) ?_
    refine lv_icmp_eq (tgt := 100) hx hb dX8_relate_85 (by decide) (fun c85 => ?_) (fun c85 => ?_)
    · have h := h.1 c85
      refine lv_bipush (v := (-3)) hx hb dX8_relate_100 (by decide) ?_
      exact xr_rI fx hK hP hD hS h dX8_relate_102
    · have h := h.2 c85
      refine lv_iload_n hx hb dX8_relate_88 rfl (lv_at hl 3 rfl) ?_
      refine lv_if_ne (tgt := 100) hx hb dX8_relate_89 (by decide) (fun c89 => ?_) (fun c89 => ?_)
      · have h := h.1 c89
        refine lv_bipush (v := (-3)) hx hb dX8_relate_100 (by decide) ?_
        exact xr_rI fx hK hP hD hS h dX8_relate_102
      · have h := h.2 c89
        refine lv_aload_n hx hb dX8_relate_92 rfl (lv_at hl 0 rfl) ?_
        refine lv_iload_n hx hb dX8_relate_93 rfl (lv_at hl 1 rfl) ?_
        refine xr_vI (n := 1) (As := [.int v1]) (rest := []) fx (ct_X8_isLie l D ad cI cJ cR h) gX8_relate_X8_isLie rfl rfl (by decide +kernel) ⟨Nat.le_of_ble_eq_true rfl, Nat.le_of_ble_eq_true rfl⟩ ⟨rfl, rfl⟩ hf (ms_recv hK hP) hK hP hD hS hA hl.1 rfl (Nat.le_of_ble_eq_true rfl) dX8_relate_94 (fun r10 S9 H locs h hP hD hS => ?_)
        refine lv_if_ne (tgt := 103) hx hb dX8_relate_97 (by decide) (fun c97 => ?_) (fun c97 => ?_)
        · have h := h.1 c97
          refine lv_aload_n hx hb dX8_relate_103 rfl (lv_at hl 0 rfl) ?_
          refine ms_get 19 (v := .int (S9.1 5)) fx in_X8_relate (by decide) rfl (by decide +kernel) rfl hK hP dX8_relate_104 ?_
          refine lv_iconst (v := 4) hx hb dX8_relate_107 (by decide) ?_
          refine lv_icmp_ne (tgt := 114) hx hb dX8_relate_108 (by decide) (fun c108 => ?_) (fun c108 => ?_)
          · have h := h.1 c108
            refine lv_aload_n hx hb dX8_relate_114 rfl (lv_at hl 0 rfl) ?_
            refine ms_get 20 (v := .ref (ad 10)) fx in_X8_relate (by decide) rfl (by decide +kernel) rfl hK hP dX8_relate_115 ?_
            refine lv_aload_n hx hb dX8_relate_118 rfl (lv_at hl 0 rfl) ?_
            refine ms_get 19 (v := .int (S9.1 5)) fx in_X8_relate (by decide) rfl (by decide +kernel) rfl hK hP dX8_relate_119 ?_
            refine lv_iload_n hx hb dX8_relate_122 rfl (lv_at hl 2 rfl) ?_
            obtain ⟨hi11, h⟩ := h
            refine ms_iast 9 (by decide) fx hK hP hD hS rfl hi11 dX8_relate_123 (fun H locs hP hD hS => ?_)
            refine lv_iconst (v := 0) hx hb dX8_relate_124 (by decide) ?_
            refine lv_istore (lv' := [(4, .int 0), (0, .ref (ad 0)), (1, .int v1), (2, .int v2), (3, .int v3)]) hx hb dX8_relate_125 hl (by decide) rfl (fun ls hl => ?_)
            obtain ⟨n, h⟩ := h
            exact kw_X8_relate_127 fx hK hA n _ _ _ _ hP hD hS (lv_sub hl [1, 2, 3, 0] rfl) h
          · have h := h.2 c108
            refine lv_bipush (v := (-4)) hx hb dX8_relate_111 (by decide) ?_
            exact xr_rI fx hK hP hD hS h dX8_relate_113
        · have h := h.2 c97
          refine lv_bipush (v := (-3)) hx hb dX8_relate_100 (by decide) ?_
          exact xr_rI fx hK hP hD hS h dX8_relate_102
  · have h := h.2 c22
    refine lv_aload_n hx hb dX8_relate_25 rfl (lv_at hl 0 rfl) ?_
    refine ms_get 6 (v := .ref (ad 15)) fx in_X8_relate (by decide) rfl (by decide +kernel) rfl hK hP dX8_relate_26 ?_
    refine lv_sipush (v := 364) hx hb dX8_relate_29 (by decide) ?_
    refine lv_iload_n hx hb dX8_relate_32 rfl (lv_at hl 1 rfl) ?_
    refine lv_imul hx hb dX8_relate_33 ?_
    refine lv_iload hx hb dX8_relate_34 (lv_at hl 4 rfl) ?_
    refine lv_iadd hx hb dX8_relate_36 ?_
    obtain ⟨hi12, h⟩ := h
    refine ms_lald 0 (by decide) fx hK hP rfl hi12 dX8_relate_37 ?_
    refine lv_lconst (v := 0) hx hb dX8_relate_38 (by decide) ?_
    refine W.lcmp hx hb dX8_relate_39 ?_
    refine lv_if_eq (tgt := 77) hx hb dX8_relate_40 (by decide) (fun c40 => ?_) (fun c40 => ?_)
    · have h := h.1 ((lg_cmp_eq _ _).mp c40)
      exact kw_X8_relate_77 fx hK hA k16 hP hD hS (lv_sub hl [0, 1, 2, 3, 4] rfl) h
    · have h := h.2 (fun z => c40 ((lg_cmp_eq _ _).mpr z))
      refine lv_iload_n hx hb dX8_relate_43 rfl (lv_at hl 3 rfl) ?_
      refine lv_if_ne (tgt := 63) hx hb dX8_relate_44 (by decide) (fun c44 => ?_) (fun c44 => ?_)
      · have h := h.1 c44
        exact kw_X8_relate_63 fx hK hA k16 hP hD hS (lv_sub hl [0, 1, 4] rfl) h
      · have h := h.2 c44
        refine lv_iload_n hx hb dX8_relate_47 rfl (lv_at hl 2 rfl) ?_
        refine lv_iconst (v := (-1)) hx hb dX8_relate_48 (by decide) ?_
        refine lv_icmp_eq (tgt := 67) hx hb dX8_relate_49 (by decide) (fun c49 => ?_) (fun c49 => ?_)
        · have h := h.1 c49
          exact kw_X8_relate_67 fx hK hA k16 hP hD hS (lv_sub hl [0, 1, 4] rfl) h
        · have h := h.2 c49
          refine lv_iload_n hx hb dX8_relate_52 rfl (lv_at hl 2 rfl) ?_
          refine lv_aload_n hx hb dX8_relate_53 rfl (lv_at hl 0 rfl) ?_
          refine ms_get 5 (v := .ref (ad 3)) fx in_X8_relate (by decide) rfl (by decide +kernel) rfl hK hP dX8_relate_54 ?_
          refine lv_iload hx hb dX8_relate_57 (lv_at hl 4 rfl) ?_
          obtain ⟨hi13, h⟩ := h
          refine ms_iald 2 (by decide) fx hK hP rfl hi13 dX8_relate_59 ?_
          refine lv_icmp_eq (tgt := 67) hx hb dX8_relate_60 (by decide) (fun c60 => ?_) (fun c60 => ?_)
          · have h := h.1 c60
            exact kw_X8_relate_67 fx hK hA k16 hP hD hS (lv_sub hl [0, 1, 4] rfl) h
          · have h := h.2 c60
            exact kw_X8_relate_63 fx hK hA k16 hP hD hS (lv_sub hl [0, 1, 4] rfl) h
theorem kw_X8_relate_16 {p : Program} {l : Launch} {e : Env} {s : State} {m : MethodId} {args : Array Value} {below : List Frame} {meth : Method} {c : Code} {D : va_G} {ad : Nat → Nat} {cI cJ cR : ClassId} {A : Nat → Prop}  {Q : Int32 → ms_T → Prop} (fx : xr_Fx p m c meth cX8_relate 5 s args wsX8_relate RX8 (some .int)) (hK : xr_K D (ms_ty cI cJ cR) s) (hA : ∀ q, s.heap.size ≤ q → A q)  : ∀ (n : Nat) (S : ms_T) (v1 : Int32) (v2 : Int32) (v3 : Int32) (v4 : Int32) {H : Heap} {locs : List Loc} {ls : Array Slot}, va_P D vwCl (ms_w ad cI cJ S) H → va_D A (ms_w ad cI cJ S) → va_S A s.heap H locs → lv_has ls 5 [(0, .ref (ad 0)), (1, .int v1), (2, .int v2), (3, .int v3), (4, .int v4)] → wp_X8_relate_16 Q n S v1 v2 v3 v4 → W p l e rm_X8_relate s m args below meth c H locs 0 0 (MQ below (va_Qi Q (xr_B D (ms_ty cI cJ cR) (ms_w ad cI cJ) A) A) args s 0 0 A) (F0 m 16 ls []) := by
  intro n
  induction n with
  | zero => intro S v1 v2 v3 v4 H locs ls hP hD hS hl h; exact False.elim h
  | succ n ih => intro S v1 v2 v3 v4 H locs ls hP hD hS hl h; exact kb_X8_relate_16 fx hK hA ih hP hD hS hl h
set_option maxHeartbeats 4000000 in
set_option maxRecDepth 100000 in
theorem ct_X8_relate (l : Launch) (D : va_G) (ad : Nat → Nat) (cI cJ cR : ClassId) {S : ms_T} {a1 : Int32} {Q : Int32 → ms_T → Prop} (h : wp_X8_relate S a1 Q) : xr_I l D (ms_ty cI cJ cR) (ms_w ad cI cJ) yX8_relate wsX8_relate rm_X8_relate [.ref (ad 0), .int a1] S Q := by
  refine xr_eI (cc := cX8_relate) (nL := 5) (ret := (some .int)) (own := RX8) (by decide) rfl rfl (Nat.le_of_ble_eq_true rfl) ?_
  intro p e s m args below meth c ls A fx hK hA hP hD hS hl
  have hl : lv_has ls 5 [(0, .ref (ad 0)), (1, .int a1)] := hl
  show W p l e rm_X8_relate s m args below meth c s.heap [] 0 0 _ _
  obtain ⟨⟨hx, hb, hml, hown, hts⟩, hrt, hlk⟩ := id fx
  have hf : 0 ≤ rm_X8_relate.cells ∧ 0 ≤ rm_X8_relate.slots := ⟨Nat.zero_le _, Nat.zero_le _⟩
  unfold wp_X8_relate at h
  refine lv_iload_n hx hb dX8_relate_0 rfl (lv_at hl 1 rfl) ?_
  refine xr_sI (n := 1) (As := [.int a1]) (rest := []) fx (ct_X8_isSum l h) gX8_relate_X8_isSum rfl rfl (by decide +kernel) ⟨Nat.le_of_ble_eq_true rfl, Nat.le_of_ble_eq_true rfl⟩ ⟨rfl, rfl⟩ hf hl.1 rfl (Nat.le_of_ble_eq_true rfl) dX8_relate_1 (fun r14 h => ?_)
  refine lv_if_ne (tgt := 9) hx hb dX8_relate_4 (by decide) (fun c4 => ?_) (fun c4 => ?_)
  · have h := h.1 c4
    refine lv_iconst (v := (-1)) hx hb dX8_relate_9 (by decide) ?_
    refine lv_istore_n (lv' := [(2, .int ((-1))), (0, .ref (ad 0)), (1, .int a1)]) hx hb dX8_relate_10 rfl hl (by decide) rfl (fun ls hl => ?_)
    refine lv_iconst (v := 0) hx hb dX8_relate_11 (by decide) ?_
    refine lv_istore_n (lv' := [(3, .int 0), (2, .int ((-1))), (0, .ref (ad 0)), (1, .int a1)]) hx hb dX8_relate_12 rfl hl (by decide) rfl (fun ls hl => ?_)
    refine lv_iconst (v := 0) hx hb dX8_relate_13 (by decide) ?_
    refine lv_istore (lv' := [(4, .int 0), (3, .int 0), (2, .int ((-1))), (0, .ref (ad 0)), (1, .int a1)]) hx hb dX8_relate_14 hl (by decide) rfl (fun ls hl => ?_)
    obtain ⟨n, h⟩ := h
    exact kw_X8_relate_16 fx hK hA n _ _ _ _ _ hP hD hS (lv_sub hl [3, 4, 2, 1, 0] rfl) h
  · have h := h.2 c4
    refine lv_iconst (v := (-1)) hx hb dX8_relate_7 (by decide) ?_
    exact xr_rI fx hK hP hD hS h dX8_relate_8
abbrev rm_X8_spansMore : Room := { frames := 1, cells := 0, slots := 0, locals := 27 }
theorem in_X8_spansMore : ∀ w ∈ wsX80, w ∈ wsX8_spansMore := by decide +kernel
set_option maxHeartbeats 4000000 in
set_option maxRecDepth 100000 in
theorem kw_X8_spansMore_85 {p : Program} {l : Launch} {e : Env} {s : State} {m : MethodId} {args : Array Value} {below : List Frame} {meth : Method} {c : Code} {D : va_G} {ad : Nat → Nat} {cI cJ cR : ClassId} {A : Nat → Prop} {K2 : ms_T → Int32 → Int32 → Prop} {Q : ms_T → Prop} {S : ms_T} {v1 : Int32} {v2 : Int32} (fx : xr_Fx p m c meth cX8_spansMore 6 s args wsX8_spansMore RX8 none) (hK : xr_K D (ms_ty cI cJ cR) s) (hA : ∀ q, s.heap.size ≤ q → A q) (k2 : ∀ (S : ms_T) (v1 : Int32) (v2 : Int32) {H : Heap} {locs : List Loc} {ls : Array Slot}, va_P D vwCl (ms_w ad cI cJ S) H → va_D A (ms_w ad cI cJ S) → va_S A s.heap H locs → lv_has ls 6 [(0, .ref (ad 0)), (1, .int v1), (2, .int v2)] → K2 S v1 v2 → W p l e rm_X8_spansMore s m args below meth c H locs 0 0 (MQ below (va_Qv Q (xr_B D (ms_ty cI cJ cR) (ms_w ad cI cJ) A) A) args s 0 0 A) (F0 m 2 ls [])) {H : Heap} {locs : List Loc} {ls : Array Slot} (hP : va_P D vwCl (ms_w ad cI cJ S) H) (hD : va_D A (ms_w ad cI cJ S)) (hS : va_S A s.heap H locs) (hl : lv_has ls 6 [(0, .ref (ad 0)), (1, .int v1), (2, .int v2)]) (h : wp_X8_spansMore_85 K2 Q S v1 v2) : W p l e rm_X8_spansMore s m args below meth c H locs 0 0 (MQ below (va_Qv Q (xr_B D (ms_ty cI cJ cR) (ms_w ad cI cJ) A) A) args s 0 0 A) (F0 m 85 ls []) := by
  obtain ⟨⟨hx, hb, hml, hown, hts⟩, hrt, hlk⟩ := id fx
  have hf : 0 ≤ rm_X8_spansMore.cells ∧ 0 ≤ rm_X8_spansMore.slots := ⟨Nat.zero_le _, Nat.zero_le _⟩
  unfold wp_X8_spansMore_85 at h
  obtain ⟨v2_1, ev2_1⟩ : ∃ z : Int32, z = v2 + 1 := ⟨_, rfl⟩
  have h := h v2_1 ev2_1
  refine lv_iinc (v := v2_1) (lv' := [(2, .int v2_1), (0, .ref (ad 0)), (1, .int v1)]) hx hb dX8_spansMore_85 hl (k := 2) rfl (by rw [ev2_1]; rfl) (by decide) rfl (fun ls hl => ?_)
  refine lv_goto (tgt := 2) hx hb dX8_spansMore_88 (by decide) ?_
  exact k2 _ _ _ hP hD hS (lv_sub hl [1, 2, 0] rfl) h
set_option maxHeartbeats 4000000 in
set_option maxRecDepth 100000 in
theorem kb_X8_spansMore_25 {p : Program} {l : Launch} {e : Env} {s : State} {m : MethodId} {args : Array Value} {below : List Frame} {meth : Method} {c : Code} {D : va_G} {ad : Nat → Nat} {cI cJ cR : ClassId} {A : Nat → Prop} {K2 : ms_T → Int32 → Int32 → Prop} {K25 : ms_T → Int32 → Int32 → Int64 → Int32 → Prop} {Q : ms_T → Prop} {S : ms_T} {v1 : Int32} {v2 : Int32} {v3 : Int64} {v5 : Int32} (fx : xr_Fx p m c meth cX8_spansMore 6 s args wsX8_spansMore RX8 none) (hK : xr_K D (ms_ty cI cJ cR) s) (hA : ∀ q, s.heap.size ≤ q → A q) (k2 : ∀ (S : ms_T) (v1 : Int32) (v2 : Int32) {H : Heap} {locs : List Loc} {ls : Array Slot}, va_P D vwCl (ms_w ad cI cJ S) H → va_D A (ms_w ad cI cJ S) → va_S A s.heap H locs → lv_has ls 6 [(0, .ref (ad 0)), (1, .int v1), (2, .int v2)] → K2 S v1 v2 → W p l e rm_X8_spansMore s m args below meth c H locs 0 0 (MQ below (va_Qv Q (xr_B D (ms_ty cI cJ cR) (ms_w ad cI cJ) A) A) args s 0 0 A) (F0 m 2 ls [])) (k25 : ∀ (S : ms_T) (v1 : Int32) (v2 : Int32) (v3 : Int64) (v5 : Int32) {H : Heap} {locs : List Loc} {ls : Array Slot}, va_P D vwCl (ms_w ad cI cJ S) H → va_D A (ms_w ad cI cJ S) → va_S A s.heap H locs → lv_has ls 6 [(0, .ref (ad 0)), (1, .int v1), (2, .int v2), (3, .long v3), (5, .int v5)] → K25 S v1 v2 v3 v5 → W p l e rm_X8_spansMore s m args below meth c H locs 0 0 (MQ below (va_Qv Q (xr_B D (ms_ty cI cJ cR) (ms_w ad cI cJ) A) A) args s 0 0 A) (F0 m 25 ls [])) {H : Heap} {locs : List Loc} {ls : Array Slot} (hP : va_P D vwCl (ms_w ad cI cJ S) H) (hD : va_D A (ms_w ad cI cJ S)) (hS : va_S A s.heap H locs) (hl : lv_has ls 6 [(0, .ref (ad 0)), (1, .int v1), (2, .int v2), (3, .long v3), (5, .int v5)]) (h : wb_X8_spansMore_25 K2 K25 Q S v1 v2 v3 v5) : W p l e rm_X8_spansMore s m args below meth c H locs 0 0 (MQ below (va_Qv Q (xr_B D (ms_ty cI cJ cR) (ms_w ad cI cJ) A) A) args s 0 0 A) (F0 m 25 ls []) := by
  obtain ⟨⟨hx, hb, hml, hown, hts⟩, hrt, hlk⟩ := id fx
  have hf : 0 ≤ rm_X8_spansMore.cells ∧ 0 ≤ rm_X8_spansMore.slots := ⟨Nat.zero_le _, Nat.zero_le _⟩
  unfold wb_X8_spansMore_25 at h
  refine lv_iload hx hb dX8_spansMore_25 (lv_at hl 4 rfl) ?_
  refine lv_aload_n hx hb dX8_spansMore_27 rfl (lv_at hl 0 rfl) ?_
  refine ms_get 3 (v := .ref (ad 1)) fx in_X8_spansMore (by decide) rfl (by decide +kernel) rfl hK hP dX8_spansMore_28 ?_
  refine lv_iload_n hx hb dX8_spansMore_31 rfl (lv_at hl 1 rfl) ?_
  obtain ⟨hi2, h⟩ := h
  refine ms_iald 0 (by decide) fx hK hP rfl hi2 dX8_spansMore_32 ?_
  refine lv_icmp_ge (tgt := 85) hx hb dX8_spansMore_33 (by decide) (fun c33 => ?_) (fun c33 => ?_)
  · have h := h.1 c33
    exact kw_X8_spansMore_85 fx hK hA k2 hP hD hS (lv_sub hl [0, 1, 2] rfl) h
  · have h := h.2 c33
    refine lv_lload_n hx hb dX8_spansMore_36 rfl (lv_at hl 3 rfl) ?_
    refine lv_lconst (v := 0) hx hb dX8_spansMore_37 (by decide) ?_
    refine W.lcmp hx hb dX8_spansMore_38 ?_
    refine lv_if_eq (tgt := 85) hx hb dX8_spansMore_39 (by decide) (fun c39 => ?_) (fun c39 => ?_)
    · have h := h.1 ((lg_cmp_eq _ _).mp c39)
      exact kw_X8_spansMore_85 fx hK hA k2 hP hD hS (lv_sub hl [0, 1, 2] rfl) h
    · have h := h.2 (fun z => c39 ((lg_cmp_eq _ _).mpr z))
      refine lv_aload_n hx hb dX8_spansMore_42 rfl (lv_at hl 0 rfl) ?_
      refine ms_get 14 (v := .ref (ad 17)) fx in_X8_spansMore (by decide) rfl (by decide +kernel) rfl hK hP dX8_spansMore_43 ?_
      refine lv_iload hx hb dX8_spansMore_46 (lv_at hl 4 rfl) ?_
      refine lv_aload_n hx hb dX8_spansMore_48 rfl (lv_at hl 0 rfl) ?_
      refine ms_get 14 (v := .ref (ad 17)) fx in_X8_spansMore (by decide) rfl (by decide +kernel) rfl hK hP dX8_spansMore_49 ?_
      refine lv_iload hx hb dX8_spansMore_52 (lv_at hl 4 rfl) ?_
      obtain ⟨hi3, h⟩ := h
      refine ms_lald 2 (by decide) fx hK hP rfl hi3 dX8_spansMore_54 ?_
      refine lv_lload_n hx hb dX8_spansMore_55 rfl (lv_at hl 3 rfl) ?_
      refine lv_aload_n hx hb dX8_spansMore_56 rfl (lv_at hl 0 rfl) ?_
      refine ms_get 22 (v := .ref (ad 21)) fx in_X8_spansMore (by decide) rfl (by decide +kernel) rfl hK hP dX8_spansMore_57 ?_
      refine lv_sipush (v := 256) hx hb dX8_spansMore_60 (by decide) ?_
      refine lv_iload_n hx hb dX8_spansMore_63 rfl (lv_at hl 2 rfl) ?_
      refine lv_imul hx hb dX8_spansMore_64 ?_
      refine lv_iload hx hb dX8_spansMore_65 (lv_at hl 4 rfl) ?_
      refine lv_iadd hx hb dX8_spansMore_67 ?_
      obtain ⟨hi4, h⟩ := h
      refine ms_lald 6 (by decide) fx hK hP rfl hi4 dX8_spansMore_68 ?_
      refine lv_lmul hx hb dX8_spansMore_69 ?_
      refine lv_ldc2 (v := 2147483647) hx hb hown (hts (.constantLong RX8 3 (2147483647)) (by decide +kernel)) dX8_spansMore_70 ?_
      refine lv_lrem hx hb dX8_spansMore_73 (by decide) ?_
      refine lv_lsub hx hb dX8_spansMore_74 ?_
      refine xr_sL (n := 1) (As := [.long ((S.2.2 2 v5.toNatClampNeg) - (xr_remL (v3 * (S.2.2 6 ((256 * v2) + v5).toNatClampNeg)) 2147483647))]) (rest := [.int v5, .ref (ad 17)]) fx (ct_X8_mod l h) gX8_spansMore_X8_mod rfl rfl (by decide +kernel) ⟨Nat.le_of_ble_eq_true rfl, Nat.le_of_ble_eq_true rfl⟩ ⟨rfl, rfl⟩ hf hl.1 rfl (Nat.le_of_ble_eq_true rfl) dX8_spansMore_75 (fun r5 h => ?_)
      obtain ⟨hi6, h⟩ := h
      refine ms_last 2 (by decide) fx hK hP hD hS rfl hi6 dX8_spansMore_78 (fun H locs hP hD hS => ?_)
      obtain ⟨v5_7, ev5_7⟩ : ∃ z : Int32, z = v5 + 1 := ⟨_, rfl⟩
      have h := h v5_7 ev5_7
      refine lv_iinc (v := v5_7) (lv' := [(5, .int v5_7), (0, .ref (ad 0)), (1, .int v1), (2, .int v2), (3, .long v3)]) hx hb dX8_spansMore_79 hl (k := 4) rfl (by rw [ev5_7]; rfl) (by decide) rfl (fun ls hl => ?_)
      refine lv_goto (tgt := 25) hx hb dX8_spansMore_82 (by decide) ?_
      exact k25 _ _ _ _ _ hP hD hS (lv_sub hl [1, 2, 3, 4, 0] rfl) h
theorem kw_X8_spansMore_25 {p : Program} {l : Launch} {e : Env} {s : State} {m : MethodId} {args : Array Value} {below : List Frame} {meth : Method} {c : Code} {D : va_G} {ad : Nat → Nat} {cI cJ cR : ClassId} {A : Nat → Prop} {K2 : ms_T → Int32 → Int32 → Prop} {Q : ms_T → Prop} (fx : xr_Fx p m c meth cX8_spansMore 6 s args wsX8_spansMore RX8 none) (hK : xr_K D (ms_ty cI cJ cR) s) (hA : ∀ q, s.heap.size ≤ q → A q) (k2 : ∀ (S : ms_T) (v1 : Int32) (v2 : Int32) {H : Heap} {locs : List Loc} {ls : Array Slot}, va_P D vwCl (ms_w ad cI cJ S) H → va_D A (ms_w ad cI cJ S) → va_S A s.heap H locs → lv_has ls 6 [(0, .ref (ad 0)), (1, .int v1), (2, .int v2)] → K2 S v1 v2 → W p l e rm_X8_spansMore s m args below meth c H locs 0 0 (MQ below (va_Qv Q (xr_B D (ms_ty cI cJ cR) (ms_w ad cI cJ) A) A) args s 0 0 A) (F0 m 2 ls [])) : ∀ (n : Nat) (S : ms_T) (v1 : Int32) (v2 : Int32) (v3 : Int64) (v5 : Int32) {H : Heap} {locs : List Loc} {ls : Array Slot}, va_P D vwCl (ms_w ad cI cJ S) H → va_D A (ms_w ad cI cJ S) → va_S A s.heap H locs → lv_has ls 6 [(0, .ref (ad 0)), (1, .int v1), (2, .int v2), (3, .long v3), (5, .int v5)] → wp_X8_spansMore_25 K2 Q n S v1 v2 v3 v5 → W p l e rm_X8_spansMore s m args below meth c H locs 0 0 (MQ below (va_Qv Q (xr_B D (ms_ty cI cJ cR) (ms_w ad cI cJ) A) A) args s 0 0 A) (F0 m 25 ls []) := by
  intro n
  induction n with
  | zero => intro S v1 v2 v3 v5 H locs ls hP hD hS hl h; exact False.elim h
  | succ n ih => intro S v1 v2 v3 v5 H locs ls hP hD hS hl h; exact kb_X8_spansMore_25 fx hK hA k2 ih hP hD hS hl h
set_option maxHeartbeats 4000000 in
set_option maxRecDepth 100000 in
theorem kb_X8_spansMore_144 {p : Program} {l : Launch} {e : Env} {s : State} {m : MethodId} {args : Array Value} {below : List Frame} {meth : Method} {c : Code} {D : va_G} {ad : Nat → Nat} {cI cJ cR : ClassId} {A : Nat → Prop}  {K144 : ms_T → Int32 → Int32 → Int64 → Int32 → Prop} {Q : ms_T → Prop} {S : ms_T} {v1 : Int32} {v2 : Int32} {v3 : Int64} {v5 : Int32} (fx : xr_Fx p m c meth cX8_spansMore 6 s args wsX8_spansMore RX8 none) (hK : xr_K D (ms_ty cI cJ cR) s) (hA : ∀ q, s.heap.size ≤ q → A q)  (k144 : ∀ (S : ms_T) (v1 : Int32) (v2 : Int32) (v3 : Int64) (v5 : Int32) {H : Heap} {locs : List Loc} {ls : Array Slot}, va_P D vwCl (ms_w ad cI cJ S) H → va_D A (ms_w ad cI cJ S) → va_S A s.heap H locs → lv_has ls 6 [(0, .ref (ad 0)), (1, .int v1), (2, .int v2), (3, .long v3), (5, .int v5)] → K144 S v1 v2 v3 v5 → W p l e rm_X8_spansMore s m args below meth c H locs 0 0 (MQ below (va_Qv Q (xr_B D (ms_ty cI cJ cR) (ms_w ad cI cJ) A) A) args s 0 0 A) (F0 m 144 ls [])) {H : Heap} {locs : List Loc} {ls : Array Slot} (hP : va_P D vwCl (ms_w ad cI cJ S) H) (hD : va_D A (ms_w ad cI cJ S)) (hS : va_S A s.heap H locs) (hl : lv_has ls 6 [(0, .ref (ad 0)), (1, .int v1), (2, .int v2), (3, .long v3), (5, .int v5)]) (h : wb_X8_spansMore_144 K144 Q S v1 v2 v3 v5) : W p l e rm_X8_spansMore s m args below meth c H locs 0 0 (MQ below (va_Qv Q (xr_B D (ms_ty cI cJ cR) (ms_w ad cI cJ) A) A) args s 0 0 A) (F0 m 144 ls []) := by
  obtain ⟨⟨hx, hb, hml, hown, hts⟩, hrt, hlk⟩ := id fx
  have hf : 0 ≤ rm_X8_spansMore.cells ∧ 0 ≤ rm_X8_spansMore.slots := ⟨Nat.zero_le _, Nat.zero_le _⟩
  unfold wb_X8_spansMore_144 at h
  refine lv_iload hx hb dX8_spansMore_144 (lv_at hl 4 rfl) ?_
  refine lv_aload_n hx hb dX8_spansMore_146 rfl (lv_at hl 0 rfl) ?_
  refine ms_get 3 (v := .ref (ad 1)) fx in_X8_spansMore (by decide) rfl (by decide +kernel) rfl hK hP dX8_spansMore_147 ?_
  refine lv_iload_n hx hb dX8_spansMore_150 rfl (lv_at hl 1 rfl) ?_
  obtain ⟨hi8, h⟩ := h
  refine ms_iald 0 (by decide) fx hK hP rfl hi8 dX8_spansMore_151 ?_
  refine lv_icmp_ge (tgt := 190) hx hb dX8_spansMore_152 (by decide) (fun c152 => ?_) (fun c152 => ?_)
  · have h := h.1 c152
    refine lv_aload_n hx hb dX8_spansMore_190 rfl (lv_at hl 0 rfl) ?_
    refine ms_get 23 (v := .ref (ad 11)) fx in_X8_spansMore (by decide) rfl (by decide +kernel) rfl hK hP dX8_spansMore_191 ?_
    refine lv_aload_n hx hb dX8_spansMore_194 rfl (lv_at hl 0 rfl) ?_
    refine ms_get 24 (v := .int (S.1 6)) fx in_X8_spansMore (by decide) rfl (by decide +kernel) rfl hK hP dX8_spansMore_195 ?_
    refine lv_iload_n hx hb dX8_spansMore_198 rfl (lv_at hl 2 rfl) ?_
    obtain ⟨hi9, h⟩ := h
    refine ms_iast 10 (by decide) fx hK hP hD hS rfl hi9 dX8_spansMore_199 (fun H locs hP hD hS => ?_)
    refine lv_aload_n hx hb dX8_spansMore_200 rfl (lv_at hl 0 rfl) ?_
    refine lv_dup hx hb dX8_spansMore_201 rfl ?_
    refine ms_get 24 (v := .int ((ms_sI S 10 (S.1 6).toNatClampNeg v2).1 6)) fx in_X8_spansMore (by decide) rfl (by decide +kernel) rfl hK hP dX8_spansMore_202 ?_
    refine lv_iconst (v := 1) hx hb dX8_spansMore_205 (by decide) ?_
    refine lv_iadd hx hb dX8_spansMore_206 ?_
    refine ms_put 24 6 (ty := .int) fx in_X8_spansMore (by decide) ms_f24 (by decide +kernel) rfl rfl (by decide +kernel) rfl rfl hK hP hD hS dX8_spansMore_207 (fun H locs hP hD hS => ?_)
    exact xr_rV fx hK hP hD hS h dX8_spansMore_210
  · have h := h.2 c152
    refine lv_aload_n hx hb dX8_spansMore_155 rfl (lv_at hl 0 rfl) ?_
    refine ms_get 22 (v := .ref (ad 21)) fx in_X8_spansMore (by decide) rfl (by decide +kernel) rfl hK hP dX8_spansMore_156 ?_
    refine lv_sipush (v := 256) hx hb dX8_spansMore_159 (by decide) ?_
    refine lv_aload_n hx hb dX8_spansMore_162 rfl (lv_at hl 0 rfl) ?_
    refine ms_get 24 (v := .int (S.1 6)) fx in_X8_spansMore (by decide) rfl (by decide +kernel) rfl hK hP dX8_spansMore_163 ?_
    refine lv_imul hx hb dX8_spansMore_166 ?_
    refine lv_iload hx hb dX8_spansMore_167 (lv_at hl 4 rfl) ?_
    refine lv_iadd hx hb dX8_spansMore_169 ?_
    refine lv_aload_n hx hb dX8_spansMore_170 rfl (lv_at hl 0 rfl) ?_
    refine ms_get 14 (v := .ref (ad 17)) fx in_X8_spansMore (by decide) rfl (by decide +kernel) rfl hK hP dX8_spansMore_171 ?_
    refine lv_iload hx hb dX8_spansMore_174 (lv_at hl 4 rfl) ?_
    obtain ⟨hi10, h⟩ := h
    refine ms_lald 2 (by decide) fx hK hP rfl hi10 dX8_spansMore_176 ?_
    refine lv_lload_n hx hb dX8_spansMore_177 rfl (lv_at hl 3 rfl) ?_
    refine lv_lmul hx hb dX8_spansMore_178 ?_
    refine lv_ldc2 (v := 2147483647) hx hb hown (hts (.constantLong RX8 3 (2147483647)) (by decide +kernel)) dX8_spansMore_179 ?_
    refine lv_lrem hx hb dX8_spansMore_182 (by decide) ?_
    obtain ⟨hi11, h⟩ := h
    refine ms_last 6 (by decide) fx hK hP hD hS rfl hi11 dX8_spansMore_183 (fun H locs hP hD hS => ?_)
    obtain ⟨v5_12, ev5_12⟩ : ∃ z : Int32, z = v5 + 1 := ⟨_, rfl⟩
    have h := h v5_12 ev5_12
    refine lv_iinc (v := v5_12) (lv' := [(5, .int v5_12), (0, .ref (ad 0)), (1, .int v1), (2, .int v2), (3, .long v3)]) hx hb dX8_spansMore_184 hl (k := 4) rfl (by rw [ev5_12]; rfl) (by decide) rfl (fun ls hl => ?_)
    refine lv_goto (tgt := 144) hx hb dX8_spansMore_187 (by decide) ?_
    exact k144 _ _ _ _ _ hP hD hS (lv_sub hl [1, 2, 3, 4, 0] rfl) h
theorem kw_X8_spansMore_144 {p : Program} {l : Launch} {e : Env} {s : State} {m : MethodId} {args : Array Value} {below : List Frame} {meth : Method} {c : Code} {D : va_G} {ad : Nat → Nat} {cI cJ cR : ClassId} {A : Nat → Prop}  {Q : ms_T → Prop} (fx : xr_Fx p m c meth cX8_spansMore 6 s args wsX8_spansMore RX8 none) (hK : xr_K D (ms_ty cI cJ cR) s) (hA : ∀ q, s.heap.size ≤ q → A q)  : ∀ (n : Nat) (S : ms_T) (v1 : Int32) (v2 : Int32) (v3 : Int64) (v5 : Int32) {H : Heap} {locs : List Loc} {ls : Array Slot}, va_P D vwCl (ms_w ad cI cJ S) H → va_D A (ms_w ad cI cJ S) → va_S A s.heap H locs → lv_has ls 6 [(0, .ref (ad 0)), (1, .int v1), (2, .int v2), (3, .long v3), (5, .int v5)] → wp_X8_spansMore_144 Q n S v1 v2 v3 v5 → W p l e rm_X8_spansMore s m args below meth c H locs 0 0 (MQ below (va_Qv Q (xr_B D (ms_ty cI cJ cR) (ms_w ad cI cJ) A) A) args s 0 0 A) (F0 m 144 ls []) := by
  intro n
  induction n with
  | zero => intro S v1 v2 v3 v5 H locs ls hP hD hS hl h; exact False.elim h
  | succ n ih => intro S v1 v2 v3 v5 H locs ls hP hD hS hl h; exact kb_X8_spansMore_144 fx hK hA ih hP hD hS hl h
set_option maxHeartbeats 4000000 in
set_option maxRecDepth 100000 in
theorem kw_X8_spansMore_120 {p : Program} {l : Launch} {e : Env} {s : State} {m : MethodId} {args : Array Value} {below : List Frame} {meth : Method} {c : Code} {D : va_G} {ad : Nat → Nat} {cI cJ cR : ClassId} {A : Nat → Prop}  {Q : ms_T → Prop} {S : ms_T} {v1 : Int32} {v2 : Int32} (fx : xr_Fx p m c meth cX8_spansMore 6 s args wsX8_spansMore RX8 none) (hK : xr_K D (ms_ty cI cJ cR) s) (hA : ∀ q, s.heap.size ≤ q → A q)  {H : Heap} {locs : List Loc} {ls : Array Slot} (hP : va_P D vwCl (ms_w ad cI cJ S) H) (hD : va_D A (ms_w ad cI cJ S)) (hS : va_S A s.heap H locs) (hl : lv_has ls 6 [(0, .ref (ad 0)), (1, .int v1), (2, .int v2)]) (h : wp_X8_spansMore_120 Q S v1 v2) : W p l e rm_X8_spansMore s m args below meth c H locs 0 0 (MQ below (va_Qv Q (xr_B D (ms_ty cI cJ cR) (ms_w ad cI cJ) A) A) args s 0 0 A) (F0 m 120 ls []) := by
  obtain ⟨⟨hx, hb, hml, hown, hts⟩, hrt, hlk⟩ := id fx
  have hf : 0 ≤ rm_X8_spansMore.cells ∧ 0 ≤ rm_X8_spansMore.slots := ⟨Nat.zero_le _, Nat.zero_le _⟩
  unfold wp_X8_spansMore_120 at h
  refine lv_iload_n hx hb dX8_spansMore_120 rfl (lv_at hl 2 rfl) ?_
  refine lv_aload_n hx hb dX8_spansMore_121 rfl (lv_at hl 0 rfl) ?_
  refine ms_get 3 (v := .ref (ad 1)) fx in_X8_spansMore (by decide) rfl (by decide +kernel) rfl hK hP dX8_spansMore_122 ?_
  refine lv_iload_n hx hb dX8_spansMore_125 rfl (lv_at hl 1 rfl) ?_
  obtain ⟨hi13, h⟩ := h
  refine ms_iald 0 (by decide) fx hK hP rfl hi13 dX8_spansMore_126 ?_
  refine lv_icmp_ne (tgt := 131) hx hb dX8_spansMore_127 (by decide) (fun c127 => ?_) (fun c127 => ?_)
  · have h := h.1 c127
    refine lv_aload_n hx hb dX8_spansMore_131 rfl (lv_at hl 0 rfl) ?_
    refine ms_get 14 (v := .ref (ad 17)) fx in_X8_spansMore (by decide) rfl (by decide +kernel) rfl hK hP dX8_spansMore_132 ?_
    refine lv_iload_n hx hb dX8_spansMore_135 rfl (lv_at hl 2 rfl) ?_
    obtain ⟨hi14, h⟩ := h
    refine ms_lald 2 (by decide) fx hK hP rfl hi14 dX8_spansMore_136 ?_
    refine xr_sL (n := 1) (As := [.long (S.2.2 2 v2.toNatClampNeg)]) (rest := []) fx (ct_X8_inverted l h) gX8_spansMore_X8_inverted rfl rfl (by decide +kernel) ⟨Nat.le_of_ble_eq_true rfl, Nat.le_of_ble_eq_true rfl⟩ ⟨rfl, rfl⟩ hf hl.1 rfl (Nat.le_of_ble_eq_true rfl) dX8_spansMore_137 (fun r15 h => ?_)
    refine lv_lstore_n (lv' := [(3, .long r15), (0, .ref (ad 0)), (1, .int v1), (2, .int v2)]) hx hb dX8_spansMore_140 rfl hl (by decide) rfl (fun ls hl => ?_)
    refine lv_iconst (v := 0) hx hb dX8_spansMore_141 (by decide) ?_
    refine lv_istore (lv' := [(5, .int 0), (3, .long r15), (0, .ref (ad 0)), (1, .int v1), (2, .int v2)]) hx hb dX8_spansMore_142 hl (by decide) rfl (fun ls hl => ?_)
    obtain ⟨n, h⟩ := h
    exact kw_X8_spansMore_144 fx hK hA n _ _ _ _ _ hP hD hS (lv_sub hl [2, 3, 4, 1, 0] rfl) h
  · have h := h.2 c127
    exact xr_rV fx hK hP hD hS h dX8_spansMore_130
set_option maxHeartbeats 4000000 in
set_option maxRecDepth 100000 in
theorem kb_X8_spansMore_93 {p : Program} {l : Launch} {e : Env} {s : State} {m : MethodId} {args : Array Value} {below : List Frame} {meth : Method} {c : Code} {D : va_G} {ad : Nat → Nat} {cI cJ cR : ClassId} {A : Nat → Prop}  {K93 : ms_T → Int32 → Int32 → Prop} {Q : ms_T → Prop} {S : ms_T} {v1 : Int32} {v2 : Int32} (fx : xr_Fx p m c meth cX8_spansMore 6 s args wsX8_spansMore RX8 none) (hK : xr_K D (ms_ty cI cJ cR) s) (hA : ∀ q, s.heap.size ≤ q → A q)  (k93 : ∀ (S : ms_T) (v1 : Int32) (v2 : Int32) {H : Heap} {locs : List Loc} {ls : Array Slot}, va_P D vwCl (ms_w ad cI cJ S) H → va_D A (ms_w ad cI cJ S) → va_S A s.heap H locs → lv_has ls 6 [(0, .ref (ad 0)), (1, .int v1), (2, .int v2)] → K93 S v1 v2 → W p l e rm_X8_spansMore s m args below meth c H locs 0 0 (MQ below (va_Qv Q (xr_B D (ms_ty cI cJ cR) (ms_w ad cI cJ) A) A) args s 0 0 A) (F0 m 93 ls [])) {H : Heap} {locs : List Loc} {ls : Array Slot} (hP : va_P D vwCl (ms_w ad cI cJ S) H) (hD : va_D A (ms_w ad cI cJ S)) (hS : va_S A s.heap H locs) (hl : lv_has ls 6 [(0, .ref (ad 0)), (1, .int v1), (2, .int v2)]) (h : wb_X8_spansMore_93 K93 Q S v1 v2) : W p l e rm_X8_spansMore s m args below meth c H locs 0 0 (MQ below (va_Qv Q (xr_B D (ms_ty cI cJ cR) (ms_w ad cI cJ) A) A) args s 0 0 A) (F0 m 93 ls []) := by
  obtain ⟨⟨hx, hb, hml, hown, hts⟩, hrt, hlk⟩ := id fx
  have hf : 0 ≤ rm_X8_spansMore.cells ∧ 0 ≤ rm_X8_spansMore.slots := ⟨Nat.zero_le _, Nat.zero_le _⟩
  unfold wb_X8_spansMore_93 at h
  refine lv_iload_n hx hb dX8_spansMore_93 rfl (lv_at hl 2 rfl) ?_
  refine lv_aload_n hx hb dX8_spansMore_94 rfl (lv_at hl 0 rfl) ?_
  refine ms_get 3 (v := .ref (ad 1)) fx in_X8_spansMore (by decide) rfl (by decide +kernel) rfl hK hP dX8_spansMore_95 ?_
  refine lv_iload_n hx hb dX8_spansMore_98 rfl (lv_at hl 1 rfl) ?_
  obtain ⟨hi16, h⟩ := h
  refine ms_iald 0 (by decide) fx hK hP rfl hi16 dX8_spansMore_99 ?_
  refine lv_icmp_ge (tgt := 120) hx hb dX8_spansMore_100 (by decide) (fun c100 => ?_) (fun c100 => ?_)
  · have h := h.1 c100
    exact kw_X8_spansMore_120 fx hK hA hP hD hS (lv_sub hl [0, 1, 2] rfl) h
  · have h := h.2 c100
    refine lv_aload_n hx hb dX8_spansMore_103 rfl (lv_at hl 0 rfl) ?_
    refine ms_get 14 (v := .ref (ad 17)) fx in_X8_spansMore (by decide) rfl (by decide +kernel) rfl hK hP dX8_spansMore_104 ?_
    refine lv_iload_n hx hb dX8_spansMore_107 rfl (lv_at hl 2 rfl) ?_
    obtain ⟨hi17, h⟩ := h
    refine ms_lald 2 (by decide) fx hK hP rfl hi17 dX8_spansMore_108 ?_
    refine lv_lconst (v := 0) hx hb dX8_spansMore_109 (by decide) ?_
    refine W.lcmp hx hb dX8_spansMore_110 ?_
    refine lv_if_ne (tgt := 120) hx hb dX8_spansMore_111 (by decide) (fun c111 => ?_) (fun c111 => ?_)
    · have h := h.1 (fun z => c111 ((lg_cmp_eq _ _).mpr z))
      exact kw_X8_spansMore_120 fx hK hA hP hD hS (lv_sub hl [0, 1, 2] rfl) h
    · have h := h.2 ((lg_cmp_eq _ _).mp c111)
      obtain ⟨v2_18, ev2_18⟩ : ∃ z : Int32, z = v2 + 1 := ⟨_, rfl⟩
      have h := h v2_18 ev2_18
      refine lv_iinc (v := v2_18) (lv' := [(2, .int v2_18), (0, .ref (ad 0)), (1, .int v1)]) hx hb dX8_spansMore_114 hl (k := 2) rfl (by rw [ev2_18]; rfl) (by decide) rfl (fun ls hl => ?_)
      refine lv_goto (tgt := 93) hx hb dX8_spansMore_117 (by decide) ?_
      exact k93 _ _ _ hP hD hS (lv_sub hl [1, 2, 0] rfl) h
theorem kw_X8_spansMore_93 {p : Program} {l : Launch} {e : Env} {s : State} {m : MethodId} {args : Array Value} {below : List Frame} {meth : Method} {c : Code} {D : va_G} {ad : Nat → Nat} {cI cJ cR : ClassId} {A : Nat → Prop}  {Q : ms_T → Prop} (fx : xr_Fx p m c meth cX8_spansMore 6 s args wsX8_spansMore RX8 none) (hK : xr_K D (ms_ty cI cJ cR) s) (hA : ∀ q, s.heap.size ≤ q → A q)  : ∀ (n : Nat) (S : ms_T) (v1 : Int32) (v2 : Int32) {H : Heap} {locs : List Loc} {ls : Array Slot}, va_P D vwCl (ms_w ad cI cJ S) H → va_D A (ms_w ad cI cJ S) → va_S A s.heap H locs → lv_has ls 6 [(0, .ref (ad 0)), (1, .int v1), (2, .int v2)] → wp_X8_spansMore_93 Q n S v1 v2 → W p l e rm_X8_spansMore s m args below meth c H locs 0 0 (MQ below (va_Qv Q (xr_B D (ms_ty cI cJ cR) (ms_w ad cI cJ) A) A) args s 0 0 A) (F0 m 93 ls []) := by
  intro n
  induction n with
  | zero => intro S v1 v2 H locs ls hP hD hS hl h; exact False.elim h
  | succ n ih => intro S v1 v2 H locs ls hP hD hS hl h; exact kb_X8_spansMore_93 fx hK hA ih hP hD hS hl h
set_option maxHeartbeats 4000000 in
set_option maxRecDepth 100000 in
theorem kb_X8_spansMore_2 {p : Program} {l : Launch} {e : Env} {s : State} {m : MethodId} {args : Array Value} {below : List Frame} {meth : Method} {c : Code} {D : va_G} {ad : Nat → Nat} {cI cJ cR : ClassId} {A : Nat → Prop}  {K2 : ms_T → Int32 → Int32 → Prop} {Q : ms_T → Prop} {S : ms_T} {v1 : Int32} {v2 : Int32} (fx : xr_Fx p m c meth cX8_spansMore 6 s args wsX8_spansMore RX8 none) (hK : xr_K D (ms_ty cI cJ cR) s) (hA : ∀ q, s.heap.size ≤ q → A q)  (k2 : ∀ (S : ms_T) (v1 : Int32) (v2 : Int32) {H : Heap} {locs : List Loc} {ls : Array Slot}, va_P D vwCl (ms_w ad cI cJ S) H → va_D A (ms_w ad cI cJ S) → va_S A s.heap H locs → lv_has ls 6 [(0, .ref (ad 0)), (1, .int v1), (2, .int v2)] → K2 S v1 v2 → W p l e rm_X8_spansMore s m args below meth c H locs 0 0 (MQ below (va_Qv Q (xr_B D (ms_ty cI cJ cR) (ms_w ad cI cJ) A) A) args s 0 0 A) (F0 m 2 ls [])) {H : Heap} {locs : List Loc} {ls : Array Slot} (hP : va_P D vwCl (ms_w ad cI cJ S) H) (hD : va_D A (ms_w ad cI cJ S)) (hS : va_S A s.heap H locs) (hl : lv_has ls 6 [(0, .ref (ad 0)), (1, .int v1), (2, .int v2)]) (h : wb_X8_spansMore_2 K2 Q S v1 v2) : W p l e rm_X8_spansMore s m args below meth c H locs 0 0 (MQ below (va_Qv Q (xr_B D (ms_ty cI cJ cR) (ms_w ad cI cJ) A) A) args s 0 0 A) (F0 m 2 ls []) := by
  obtain ⟨⟨hx, hb, hml, hown, hts⟩, hrt, hlk⟩ := id fx
  have hf : 0 ≤ rm_X8_spansMore.cells ∧ 0 ≤ rm_X8_spansMore.slots := ⟨Nat.zero_le _, Nat.zero_le _⟩
  unfold wb_X8_spansMore_2 at h
  refine lv_iload_n hx hb dX8_spansMore_2 rfl (lv_at hl 2 rfl) ?_
  refine lv_aload_n hx hb dX8_spansMore_3 rfl (lv_at hl 0 rfl) ?_
  refine ms_get 24 (v := .int (S.1 6)) fx in_X8_spansMore (by decide) rfl (by decide +kernel) rfl hK hP dX8_spansMore_4 ?_
  refine lv_icmp_ge (tgt := 91) hx hb dX8_spansMore_7 (by decide) (fun c7 => ?_) (fun c7 => ?_)
  · have h := h.1 c7
    refine lv_iconst (v := 0) hx hb dX8_spansMore_91 (by decide) ?_
    refine lv_istore_n (lv' := [(2, .int 0), (0, .ref (ad 0)), (1, .int v1)]) hx hb dX8_spansMore_92 rfl hl (by decide) rfl (fun ls hl => ?_)
    obtain ⟨n, h⟩ := h
    exact kw_X8_spansMore_93 fx hK hA n _ _ _ hP hD hS (lv_sub hl [1, 2, 0] rfl) h
  · have h := h.2 c7
    refine lv_aload_n hx hb dX8_spansMore_10 rfl (lv_at hl 0 rfl) ?_
    refine ms_get 14 (v := .ref (ad 17)) fx in_X8_spansMore (by decide) rfl (by decide +kernel) rfl hK hP dX8_spansMore_11 ?_
    refine lv_aload_n hx hb dX8_spansMore_14 rfl (lv_at hl 0 rfl) ?_
    refine ms_get 23 (v := .ref (ad 11)) fx in_X8_spansMore (by decide) rfl (by decide +kernel) rfl hK hP dX8_spansMore_15 ?_
    refine lv_iload_n hx hb dX8_spansMore_18 rfl (lv_at hl 2 rfl) ?_
    obtain ⟨hi19, h⟩ := h
    refine ms_iald 10 (by decide) fx hK hP rfl hi19 dX8_spansMore_19 ?_
    obtain ⟨hi20, h⟩ := h
    refine ms_lald 2 (by decide) fx hK hP rfl hi20 dX8_spansMore_20 ?_
    refine lv_topl (fun v3_21 ev3_21 => ?_)
    have h := h v3_21 ev3_21
    refine lv_lstore_n (lv' := [(3, .long v3_21), (0, .ref (ad 0)), (1, .int v1), (2, .int v2)]) hx hb dX8_spansMore_21 rfl hl (by decide) rfl (fun ls hl => ?_)
    refine lv_iconst (v := 0) hx hb dX8_spansMore_22 (by decide) ?_
    refine lv_istore (lv' := [(5, .int 0), (3, .long v3_21), (0, .ref (ad 0)), (1, .int v1), (2, .int v2)]) hx hb dX8_spansMore_23 hl (by decide) rfl (fun ls hl => ?_)
    obtain ⟨n, h⟩ := h
    exact kw_X8_spansMore_25 fx hK hA k2 n _ _ _ _ _ hP hD hS (lv_sub hl [2, 3, 4, 1, 0] rfl) h
theorem kw_X8_spansMore_2 {p : Program} {l : Launch} {e : Env} {s : State} {m : MethodId} {args : Array Value} {below : List Frame} {meth : Method} {c : Code} {D : va_G} {ad : Nat → Nat} {cI cJ cR : ClassId} {A : Nat → Prop}  {Q : ms_T → Prop} (fx : xr_Fx p m c meth cX8_spansMore 6 s args wsX8_spansMore RX8 none) (hK : xr_K D (ms_ty cI cJ cR) s) (hA : ∀ q, s.heap.size ≤ q → A q)  : ∀ (n : Nat) (S : ms_T) (v1 : Int32) (v2 : Int32) {H : Heap} {locs : List Loc} {ls : Array Slot}, va_P D vwCl (ms_w ad cI cJ S) H → va_D A (ms_w ad cI cJ S) → va_S A s.heap H locs → lv_has ls 6 [(0, .ref (ad 0)), (1, .int v1), (2, .int v2)] → wp_X8_spansMore_2 Q n S v1 v2 → W p l e rm_X8_spansMore s m args below meth c H locs 0 0 (MQ below (va_Qv Q (xr_B D (ms_ty cI cJ cR) (ms_w ad cI cJ) A) A) args s 0 0 A) (F0 m 2 ls []) := by
  intro n
  induction n with
  | zero => intro S v1 v2 H locs ls hP hD hS hl h; exact False.elim h
  | succ n ih => intro S v1 v2 H locs ls hP hD hS hl h; exact kb_X8_spansMore_2 fx hK hA ih hP hD hS hl h
set_option maxHeartbeats 4000000 in
set_option maxRecDepth 100000 in
theorem ct_X8_spansMore (l : Launch) (D : va_G) (ad : Nat → Nat) (cI cJ cR : ClassId) {S : ms_T} {a1 : Int32} {Q : ms_T → Prop} (h : wp_X8_spansMore S a1 Q) : xr_V l D (ms_ty cI cJ cR) (ms_w ad cI cJ) yX8_spansMore wsX8_spansMore rm_X8_spansMore [.ref (ad 0), .int a1] S Q := by
  refine xr_eV (cc := cX8_spansMore) (nL := 6) (ret := none) (own := RX8) (by decide) rfl rfl (Nat.le_of_ble_eq_true rfl) ?_
  intro p e s m args below meth c ls A fx hK hA hP hD hS hl
  have hl : lv_has ls 6 [(0, .ref (ad 0)), (1, .int a1)] := hl
  show W p l e rm_X8_spansMore s m args below meth c s.heap [] 0 0 _ _
  obtain ⟨⟨hx, hb, hml, hown, hts⟩, hrt, hlk⟩ := id fx
  have hf : 0 ≤ rm_X8_spansMore.cells ∧ 0 ≤ rm_X8_spansMore.slots := ⟨Nat.zero_le _, Nat.zero_le _⟩
  unfold wp_X8_spansMore at h
  refine lv_iconst (v := 0) hx hb dX8_spansMore_0 (by decide) ?_
  refine lv_istore_n (lv' := [(2, .int 0), (0, .ref (ad 0)), (1, .int a1)]) hx hb dX8_spansMore_1 rfl hl (by decide) rfl (fun ls hl => ?_)
  obtain ⟨n, h⟩ := h
  exact kw_X8_spansMore_2 fx hK hA n _ _ _ hP hD hS (lv_sub hl [1, 2, 0] rfl) h
abbrev rm_X8_size : Room := { frames := 2, cells := 0, slots := 0, locals := 52 }
theorem in_X8_size : ∀ w ∈ wsX80, w ∈ wsX8_size := by decide +kernel
set_option maxHeartbeats 4000000 in
set_option maxRecDepth 100000 in
theorem kw_X8_size_186 {p : Program} {l : Launch} {e : Env} {s : State} {m : MethodId} {args : Array Value} {below : List Frame} {meth : Method} {c : Code} {D : va_G} {ad : Nat → Nat} {cI cJ cR : ClassId} {A : Nat → Prop} {K23 : ms_T → Int32 → Int32 → Prop} {K74 : ms_T → Int32 → Int32 → Int32 → Int32 → Prop} {K83 : ms_T → Int32 → Int32 → Int32 → Int32 → Int32 → Prop} {K95 : ms_T → Int32 → Int32 → Int32 → Int32 → Int32 → Int32 → Prop} {Q : Int32 → ms_T → Prop} {S : ms_T} {v1 : Int32} {v2 : Int32} {v3 : Int32} {v4 : Int32} {v5 : Int32} {v6 : Int32} {v7 : Int64} {s0 : Int64} (fx : xr_Fx p m c meth cX8_size 11 s args wsX8_size RX8 (some .int)) (hK : xr_K D (ms_ty cI cJ cR) s) (hA : ∀ q, s.heap.size ≤ q → A q) (k23 : ∀ (S : ms_T) (v1 : Int32) (v2 : Int32) {H : Heap} {locs : List Loc} {ls : Array Slot}, va_P D vwCl (ms_w ad cI cJ S) H → va_D A (ms_w ad cI cJ S) → va_S A s.heap H locs → lv_has ls 11 [(0, .ref (ad 0)), (1, .int v1), (2, .int v2)] → K23 S v1 v2 → W p l e rm_X8_size s m args below meth c H locs 0 0 (MQ below (va_Qi Q (xr_B D (ms_ty cI cJ cR) (ms_w ad cI cJ) A) A) args s 0 0 A) (F0 m 23 ls [])) (k74 : ∀ (S : ms_T) (v1 : Int32) (v2 : Int32) (v3 : Int32) (v4 : Int32) {H : Heap} {locs : List Loc} {ls : Array Slot}, va_P D vwCl (ms_w ad cI cJ S) H → va_D A (ms_w ad cI cJ S) → va_S A s.heap H locs → lv_has ls 11 [(0, .ref (ad 0)), (1, .int v1), (2, .int v2), (3, .int v3), (4, .int v4)] → K74 S v1 v2 v3 v4 → W p l e rm_X8_size s m args below meth c H locs 0 0 (MQ below (va_Qi Q (xr_B D (ms_ty cI cJ cR) (ms_w ad cI cJ) A) A) args s 0 0 A) (F0 m 74 ls [])) (k83 : ∀ (S : ms_T) (v1 : Int32) (v2 : Int32) (v3 : Int32) (v4 : Int32) (v5 : Int32) {H : Heap} {locs : List Loc} {ls : Array Slot}, va_P D vwCl (ms_w ad cI cJ S) H → va_D A (ms_w ad cI cJ S) → va_S A s.heap H locs → lv_has ls 11 [(0, .ref (ad 0)), (1, .int v1), (2, .int v2), (3, .int v3), (4, .int v4), (5, .int v5)] → K83 S v1 v2 v3 v4 v5 → W p l e rm_X8_size s m args below meth c H locs 0 0 (MQ below (va_Qi Q (xr_B D (ms_ty cI cJ cR) (ms_w ad cI cJ) A) A) args s 0 0 A) (F0 m 83 ls [])) (k95 : ∀ (S : ms_T) (v1 : Int32) (v2 : Int32) (v3 : Int32) (v4 : Int32) (v5 : Int32) (v6 : Int32) {H : Heap} {locs : List Loc} {ls : Array Slot}, va_P D vwCl (ms_w ad cI cJ S) H → va_D A (ms_w ad cI cJ S) → va_S A s.heap H locs → lv_has ls 11 [(0, .ref (ad 0)), (1, .int v1), (2, .int v2), (3, .int v3), (4, .int v4), (5, .int v5), (6, .int v6)] → K95 S v1 v2 v3 v4 v5 v6 → W p l e rm_X8_size s m args below meth c H locs 0 0 (MQ below (va_Qi Q (xr_B D (ms_ty cI cJ cR) (ms_w ad cI cJ) A) A) args s 0 0 A) (F0 m 95 ls [])) {H : Heap} {locs : List Loc} {ls : Array Slot} (hP : va_P D vwCl (ms_w ad cI cJ S) H) (hD : va_D A (ms_w ad cI cJ S)) (hS : va_S A s.heap H locs) (hl : lv_has ls 11 [(0, .ref (ad 0)), (1, .int v1), (2, .int v2), (3, .int v3), (4, .int v4), (5, .int v5), (6, .int v6), (7, .long v7)]) (h : wp_X8_size_186 K23 K74 K83 K95 Q S v1 v2 v3 v4 v5 v6 v7 s0) : W p l e rm_X8_size s m args below meth c H locs 0 0 (MQ below (va_Qi Q (xr_B D (ms_ty cI cJ cR) (ms_w ad cI cJ) A) A) args s 0 0 A) (F0 m 186 ls [.long s0]) := by
  obtain ⟨⟨hx, hb, hml, hown, hts⟩, hrt, hlk⟩ := id fx
  have hf : 0 ≤ rm_X8_size.cells ∧ 0 ≤ rm_X8_size.slots := ⟨Nat.zero_le _, Nat.zero_le _⟩
  unfold wp_X8_size_186 at h
  refine lv_lstore (lv' := [(9, .long s0), (0, .ref (ad 0)), (1, .int v1), (2, .int v2), (3, .int v3), (4, .int v4), (5, .int v5), (6, .int v6), (7, .long v7)]) hx hb dX8_size_186 hl (by decide) rfl (fun ls hl => ?_)
  refine lv_aload_n hx hb dX8_size_188 rfl (lv_at hl 1 rfl) ?_
  refine ms_get 14 (v := .ref (ad 17)) fx in_X8_size (by decide) rfl (by decide +kernel) rfl hK hP dX8_size_189 ?_
  refine lv_iload hx hb dX8_size_192 (lv_at hl 7 rfl) ?_
  refine lv_lload hx hb dX8_size_194 (lv_at hl 8 rfl) ?_
  refine lv_lload hx hb dX8_size_196 (lv_at hl 0 rfl) ?_
  refine lv_lsub hx hb dX8_size_198 ?_
  refine xr_sL (n := 1) (As := [.long (v7 - s0)]) (rest := [.int v6, .ref (ad 17)]) fx (ct_X8_mod l h) gX8_size_X8_mod rfl rfl (by decide +kernel) ⟨Nat.le_of_ble_eq_true rfl, Nat.le_of_ble_eq_true rfl⟩ ⟨rfl, rfl⟩ hf hl.1 rfl (Nat.le_of_ble_eq_true rfl) dX8_size_199 (fun r1 h => ?_)
  obtain ⟨hi2, h⟩ := h
  refine ms_last 2 (by decide) fx hK hP hD hS rfl hi2 dX8_size_202 (fun H locs hP hD hS => ?_)
  obtain ⟨v6_3, ev6_3⟩ : ∃ z : Int32, z = v6 + 1 := ⟨_, rfl⟩
  have h := h v6_3 ev6_3
  refine lv_iinc (v := v6_3) (lv' := [(6, .int v6_3), (9, .long s0), (0, .ref (ad 0)), (1, .int v1), (2, .int v2), (3, .int v3), (4, .int v4), (5, .int v5), (7, .long v7)]) hx hb dX8_size_203 hl (k := 7) rfl (by rw [ev6_3]; rfl) (by decide) rfl (fun ls hl => ?_)
  refine lv_goto (tgt := 95) hx hb dX8_size_206 (by decide) ?_
  exact k95 _ _ _ _ _ _ _ hP hD hS (lv_sub hl [2, 3, 4, 5, 6, 7, 0] rfl) h
set_option maxHeartbeats 4000000 in
set_option maxRecDepth 100000 in
theorem kw_X8_size_141 {p : Program} {l : Launch} {e : Env} {s : State} {m : MethodId} {args : Array Value} {below : List Frame} {meth : Method} {c : Code} {D : va_G} {ad : Nat → Nat} {cI cJ cR : ClassId} {A : Nat → Prop} {K23 : ms_T → Int32 → Int32 → Prop} {K74 : ms_T → Int32 → Int32 → Int32 → Int32 → Prop} {K83 : ms_T → Int32 → Int32 → Int32 → Int32 → Int32 → Prop} {K95 : ms_T → Int32 → Int32 → Int32 → Int32 → Int32 → Int32 → Prop} {Q : Int32 → ms_T → Prop} {S : ms_T} {v1 : Int32} {v2 : Int32} {v3 : Int32} {v4 : Int32} {v5 : Int32} {v6 : Int32} {s0 : Int64} (fx : xr_Fx p m c meth cX8_size 11 s args wsX8_size RX8 (some .int)) (hK : xr_K D (ms_ty cI cJ cR) s) (hA : ∀ q, s.heap.size ≤ q → A q) (k23 : ∀ (S : ms_T) (v1 : Int32) (v2 : Int32) {H : Heap} {locs : List Loc} {ls : Array Slot}, va_P D vwCl (ms_w ad cI cJ S) H → va_D A (ms_w ad cI cJ S) → va_S A s.heap H locs → lv_has ls 11 [(0, .ref (ad 0)), (1, .int v1), (2, .int v2)] → K23 S v1 v2 → W p l e rm_X8_size s m args below meth c H locs 0 0 (MQ below (va_Qi Q (xr_B D (ms_ty cI cJ cR) (ms_w ad cI cJ) A) A) args s 0 0 A) (F0 m 23 ls [])) (k74 : ∀ (S : ms_T) (v1 : Int32) (v2 : Int32) (v3 : Int32) (v4 : Int32) {H : Heap} {locs : List Loc} {ls : Array Slot}, va_P D vwCl (ms_w ad cI cJ S) H → va_D A (ms_w ad cI cJ S) → va_S A s.heap H locs → lv_has ls 11 [(0, .ref (ad 0)), (1, .int v1), (2, .int v2), (3, .int v3), (4, .int v4)] → K74 S v1 v2 v3 v4 → W p l e rm_X8_size s m args below meth c H locs 0 0 (MQ below (va_Qi Q (xr_B D (ms_ty cI cJ cR) (ms_w ad cI cJ) A) A) args s 0 0 A) (F0 m 74 ls [])) (k83 : ∀ (S : ms_T) (v1 : Int32) (v2 : Int32) (v3 : Int32) (v4 : Int32) (v5 : Int32) {H : Heap} {locs : List Loc} {ls : Array Slot}, va_P D vwCl (ms_w ad cI cJ S) H → va_D A (ms_w ad cI cJ S) → va_S A s.heap H locs → lv_has ls 11 [(0, .ref (ad 0)), (1, .int v1), (2, .int v2), (3, .int v3), (4, .int v4), (5, .int v5)] → K83 S v1 v2 v3 v4 v5 → W p l e rm_X8_size s m args below meth c H locs 0 0 (MQ below (va_Qi Q (xr_B D (ms_ty cI cJ cR) (ms_w ad cI cJ) A) A) args s 0 0 A) (F0 m 83 ls [])) (k95 : ∀ (S : ms_T) (v1 : Int32) (v2 : Int32) (v3 : Int32) (v4 : Int32) (v5 : Int32) (v6 : Int32) {H : Heap} {locs : List Loc} {ls : Array Slot}, va_P D vwCl (ms_w ad cI cJ S) H → va_D A (ms_w ad cI cJ S) → va_S A s.heap H locs → lv_has ls 11 [(0, .ref (ad 0)), (1, .int v1), (2, .int v2), (3, .int v3), (4, .int v4), (5, .int v5), (6, .int v6)] → K95 S v1 v2 v3 v4 v5 v6 → W p l e rm_X8_size s m args below meth c H locs 0 0 (MQ below (va_Qi Q (xr_B D (ms_ty cI cJ cR) (ms_w ad cI cJ) A) A) args s 0 0 A) (F0 m 95 ls [])) {H : Heap} {locs : List Loc} {ls : Array Slot} (hP : va_P D vwCl (ms_w ad cI cJ S) H) (hD : va_D A (ms_w ad cI cJ S)) (hS : va_S A s.heap H locs) (hl : lv_has ls 11 [(0, .ref (ad 0)), (1, .int v1), (2, .int v2), (3, .int v3), (4, .int v4), (5, .int v5), (6, .int v6)]) (h : wp_X8_size_141 K23 K74 K83 K95 Q S v1 v2 v3 v4 v5 v6 s0) : W p l e rm_X8_size s m args below meth c H locs 0 0 (MQ below (va_Qi Q (xr_B D (ms_ty cI cJ cR) (ms_w ad cI cJ) A) A) args s 0 0 A) (F0 m 141 ls [.long s0]) := by
  obtain ⟨⟨hx, hb, hml, hown, hts⟩, hrt, hlk⟩ := id fx
  have hf : 0 ≤ rm_X8_size.cells ∧ 0 ≤ rm_X8_size.slots := ⟨Nat.zero_le _, Nat.zero_le _⟩
  unfold wp_X8_size_141 at h
  refine lv_lstore (lv' := [(7, .long s0), (0, .ref (ad 0)), (1, .int v1), (2, .int v2), (3, .int v3), (4, .int v4), (5, .int v5), (6, .int v6)]) hx hb dX8_size_141 hl (by decide) rfl (fun ls hl => ?_)
  refine lv_iload hx hb dX8_size_143 (lv_at hl 7 rfl) ?_
  refine lv_aload_n hx hb dX8_size_145 rfl (lv_at hl 1 rfl) ?_
  refine ms_get 3 (v := .ref (ad 1)) fx in_X8_size (by decide) rfl (by decide +kernel) rfl hK hP dX8_size_146 ?_
  refine lv_iload_n hx hb dX8_size_149 rfl (lv_at hl 3 rfl) ?_
  refine lv_iconst (v := 1) hx hb dX8_size_150 (by decide) ?_
  refine lv_isub hx hb dX8_size_151 ?_
  obtain ⟨hi4, h⟩ := h
  refine ms_iald 0 (by decide) fx hK hP rfl hi4 dX8_size_152 ?_
  obtain ⟨hz5, h⟩ := h
  refine lv_idiv hx hb dX8_size_153 hz5 ?_
  refine lv_iload hx hb dX8_size_154 (lv_at hl 6 rfl) ?_
  refine lv_icmp_ne (tgt := 185) hx hb dX8_size_156 (by decide) (fun c156 => ?_) (fun c156 => ?_)
  · have h := h.1 c156
    refine lv_lconst (v := 0) hx hb dX8_size_185 (by decide) ?_
    exact kw_X8_size_186 fx hK hA k23 k74 k83 k95 hP hD hS (lv_sub hl [1, 2, 3, 4, 5, 6, 7, 0] rfl) h
  · have h := h.2 c156
    refine lv_aload_n hx hb dX8_size_159 rfl (lv_at hl 1 rfl) ?_
    refine ms_get 25 (v := .ref (ad 22)) fx in_X8_size (by decide) rfl (by decide +kernel) rfl hK hP dX8_size_160 ?_
    refine lv_sipush (v := 256) hx hb dX8_size_163 (by decide) ?_
    refine lv_iload hx hb dX8_size_166 (lv_at hl 5 rfl) ?_
    refine lv_imul hx hb dX8_size_168 ?_
    refine lv_iload hx hb dX8_size_169 (lv_at hl 7 rfl) ?_
    refine lv_aload_n hx hb dX8_size_171 rfl (lv_at hl 1 rfl) ?_
    refine ms_get 3 (v := .ref (ad 1)) fx in_X8_size (by decide) rfl (by decide +kernel) rfl hK hP dX8_size_172 ?_
    refine lv_iload_n hx hb dX8_size_175 rfl (lv_at hl 3 rfl) ?_
    refine lv_iconst (v := 1) hx hb dX8_size_176 (by decide) ?_
    refine lv_isub hx hb dX8_size_177 ?_
    obtain ⟨hi6, h⟩ := h
    refine ms_iald 0 (by decide) fx hK hP rfl hi6 dX8_size_178 ?_
    obtain ⟨hz7, h⟩ := h
    refine lv_irem hx hb dX8_size_179 hz7 ?_
    refine lv_iadd hx hb dX8_size_180 ?_
    obtain ⟨hi8, h⟩ := h
    refine ms_lald 7 (by decide) fx hK hP rfl hi8 dX8_size_181 ?_
    refine lv_goto (tgt := 186) hx hb dX8_size_182 (by decide) ?_
    exact kw_X8_size_186 fx hK hA k23 k74 k83 k95 hP hD hS (lv_sub hl [1, 2, 3, 4, 5, 6, 7, 0] rfl) h
set_option maxHeartbeats 4000000 in
set_option maxRecDepth 100000 in
theorem kb_X8_size_95 {p : Program} {l : Launch} {e : Env} {s : State} {m : MethodId} {args : Array Value} {below : List Frame} {meth : Method} {c : Code} {D : va_G} {ad : Nat → Nat} {cI cJ cR : ClassId} {A : Nat → Prop} {K23 : ms_T → Int32 → Int32 → Prop} {K74 : ms_T → Int32 → Int32 → Int32 → Int32 → Prop} {K83 : ms_T → Int32 → Int32 → Int32 → Int32 → Int32 → Prop} {K95 : ms_T → Int32 → Int32 → Int32 → Int32 → Int32 → Int32 → Prop} {Q : Int32 → ms_T → Prop} {S : ms_T} {v1 : Int32} {v2 : Int32} {v3 : Int32} {v4 : Int32} {v5 : Int32} {v6 : Int32} (fx : xr_Fx p m c meth cX8_size 11 s args wsX8_size RX8 (some .int)) (hK : xr_K D (ms_ty cI cJ cR) s) (hA : ∀ q, s.heap.size ≤ q → A q) (k23 : ∀ (S : ms_T) (v1 : Int32) (v2 : Int32) {H : Heap} {locs : List Loc} {ls : Array Slot}, va_P D vwCl (ms_w ad cI cJ S) H → va_D A (ms_w ad cI cJ S) → va_S A s.heap H locs → lv_has ls 11 [(0, .ref (ad 0)), (1, .int v1), (2, .int v2)] → K23 S v1 v2 → W p l e rm_X8_size s m args below meth c H locs 0 0 (MQ below (va_Qi Q (xr_B D (ms_ty cI cJ cR) (ms_w ad cI cJ) A) A) args s 0 0 A) (F0 m 23 ls [])) (k74 : ∀ (S : ms_T) (v1 : Int32) (v2 : Int32) (v3 : Int32) (v4 : Int32) {H : Heap} {locs : List Loc} {ls : Array Slot}, va_P D vwCl (ms_w ad cI cJ S) H → va_D A (ms_w ad cI cJ S) → va_S A s.heap H locs → lv_has ls 11 [(0, .ref (ad 0)), (1, .int v1), (2, .int v2), (3, .int v3), (4, .int v4)] → K74 S v1 v2 v3 v4 → W p l e rm_X8_size s m args below meth c H locs 0 0 (MQ below (va_Qi Q (xr_B D (ms_ty cI cJ cR) (ms_w ad cI cJ) A) A) args s 0 0 A) (F0 m 74 ls [])) (k83 : ∀ (S : ms_T) (v1 : Int32) (v2 : Int32) (v3 : Int32) (v4 : Int32) (v5 : Int32) {H : Heap} {locs : List Loc} {ls : Array Slot}, va_P D vwCl (ms_w ad cI cJ S) H → va_D A (ms_w ad cI cJ S) → va_S A s.heap H locs → lv_has ls 11 [(0, .ref (ad 0)), (1, .int v1), (2, .int v2), (3, .int v3), (4, .int v4), (5, .int v5)] → K83 S v1 v2 v3 v4 v5 → W p l e rm_X8_size s m args below meth c H locs 0 0 (MQ below (va_Qi Q (xr_B D (ms_ty cI cJ cR) (ms_w ad cI cJ) A) A) args s 0 0 A) (F0 m 83 ls [])) (k95 : ∀ (S : ms_T) (v1 : Int32) (v2 : Int32) (v3 : Int32) (v4 : Int32) (v5 : Int32) (v6 : Int32) {H : Heap} {locs : List Loc} {ls : Array Slot}, va_P D vwCl (ms_w ad cI cJ S) H → va_D A (ms_w ad cI cJ S) → va_S A s.heap H locs → lv_has ls 11 [(0, .ref (ad 0)), (1, .int v1), (2, .int v2), (3, .int v3), (4, .int v4), (5, .int v5), (6, .int v6)] → K95 S v1 v2 v3 v4 v5 v6 → W p l e rm_X8_size s m args below meth c H locs 0 0 (MQ below (va_Qi Q (xr_B D (ms_ty cI cJ cR) (ms_w ad cI cJ) A) A) args s 0 0 A) (F0 m 95 ls [])) {H : Heap} {locs : List Loc} {ls : Array Slot} (hP : va_P D vwCl (ms_w ad cI cJ S) H) (hD : va_D A (ms_w ad cI cJ S)) (hS : va_S A s.heap H locs) (hl : lv_has ls 11 [(0, .ref (ad 0)), (1, .int v1), (2, .int v2), (3, .int v3), (4, .int v4), (5, .int v5), (6, .int v6)]) (h : wb_X8_size_95 K23 K74 K83 K95 Q S v1 v2 v3 v4 v5 v6) : W p l e rm_X8_size s m args below meth c H locs 0 0 (MQ below (va_Qi Q (xr_B D (ms_ty cI cJ cR) (ms_w ad cI cJ) A) A) args s 0 0 A) (F0 m 95 ls []) := by
  obtain ⟨⟨hx, hb, hml, hown, hts⟩, hrt, hlk⟩ := id fx
  have hf : 0 ≤ rm_X8_size.cells ∧ 0 ≤ rm_X8_size.slots := ⟨Nat.zero_le _, Nat.zero_le _⟩
  unfold wb_X8_size_95 at h
  refine lv_iload hx hb dX8_size_95 (lv_at hl 6 rfl) ?_
  refine lv_aload_n hx hb dX8_size_97 rfl (lv_at hl 0 rfl) ?_
  refine ms_get 3 (v := .ref (ad 1)) fx in_X8_size (by decide) rfl (by decide +kernel) rfl hK hP dX8_size_98 ?_
  refine lv_iload_n hx hb dX8_size_101 rfl (lv_at hl 2 rfl) ?_
  obtain ⟨hi9, h⟩ := h
  refine ms_iald 0 (by decide) fx hK hP rfl hi9 dX8_size_102 ?_
  refine lv_icmp_ge (tgt := 209) hx hb dX8_size_103 (by decide) (fun c103 => ?_) (fun c103 => ?_)
  · have h := h.1 c103
    refine lv_aload_n hx hb dX8_size_209 rfl (lv_at hl 0 rfl) ?_
    refine lv_iload_n hx hb dX8_size_210 rfl (lv_at hl 2 rfl) ?_
    refine xr_vV (n := 1) (As := [.int v2]) (rest := []) fx (ct_X8_spansMore l D ad cI cJ cR h) gX8_size_X8_spansMore rfl rfl (by decide +kernel) ⟨Nat.le_of_ble_eq_true rfl, Nat.le_of_ble_eq_true rfl⟩ ⟨rfl, rfl⟩ hf (ms_recv hK hP) hK hP hD hS hA hl.1 rfl (Nat.le_of_ble_eq_true rfl) dX8_size_211 (fun S10 H locs h hP hD hS => ?_)
    obtain ⟨v5_11, ev5_11⟩ : ∃ z : Int32, z = v5 + 1 := ⟨_, rfl⟩
    have h := h v5_11 ev5_11
    refine lv_iinc (v := v5_11) (lv' := [(5, .int v5_11), (0, .ref (ad 0)), (1, .int v1), (2, .int v2), (3, .int v3), (4, .int v4), (6, .int v6)]) hx hb dX8_size_214 hl (k := 5) rfl (by rw [ev5_11]; rfl) (by decide) rfl (fun ls hl => ?_)
    refine lv_goto (tgt := 83) hx hb dX8_size_217 (by decide) ?_
    exact k83 _ _ _ _ _ _ hP hD hS (lv_sub hl [1, 2, 3, 4, 5, 0] rfl) h
  · have h := h.2 c103
    refine lv_iload hx hb dX8_size_106 (lv_at hl 6 rfl) ?_
    refine lv_aload_n hx hb dX8_size_108 rfl (lv_at hl 0 rfl) ?_
    refine ms_get 0 (v := .int (S.1 0)) fx in_X8_size (by decide) rfl (by decide +kernel) rfl hK hP dX8_size_109 ?_
    obtain ⟨hz12, h⟩ := h
    refine lv_irem hx hb dX8_size_112 hz12 ?_
    refine lv_iload hx hb dX8_size_113 (lv_at hl 5 rfl) ?_
    refine lv_icmp_ne (tgt := 140) hx hb dX8_size_115 (by decide) (fun c115 => ?_) (fun c115 => ?_)
    · have h := h.1 c115
      refine lv_lconst (v := 0) hx hb dX8_size_140 (by decide) ?_
      exact kw_X8_size_141 fx hK hA k23 k74 k83 k95 hP hD hS (lv_sub hl [0, 1, 2, 3, 4, 5, 6] rfl) h
    · have h := h.2 c115
      refine lv_aload_n hx hb dX8_size_118 rfl (lv_at hl 0 rfl) ?_
      refine ms_get 25 (v := .ref (ad 22)) fx in_X8_size (by decide) rfl (by decide +kernel) rfl hK hP dX8_size_119 ?_
      refine lv_sipush (v := 256) hx hb dX8_size_122 (by decide) ?_
      refine lv_iload hx hb dX8_size_125 (lv_at hl 4 rfl) ?_
      refine lv_imul hx hb dX8_size_127 ?_
      refine lv_iload hx hb dX8_size_128 (lv_at hl 6 rfl) ?_
      refine lv_aload_n hx hb dX8_size_130 rfl (lv_at hl 0 rfl) ?_
      refine ms_get 0 (v := .int (S.1 0)) fx in_X8_size (by decide) rfl (by decide +kernel) rfl hK hP dX8_size_131 ?_
      obtain ⟨hz13, h⟩ := h
      refine lv_idiv hx hb dX8_size_134 hz13 ?_
      refine lv_iadd hx hb dX8_size_135 ?_
      obtain ⟨hi14, h⟩ := h
      refine ms_lald 7 (by decide) fx hK hP rfl hi14 dX8_size_136 ?_
      refine lv_goto (tgt := 141) hx hb dX8_size_137 (by decide) ?_
      exact kw_X8_size_141 fx hK hA k23 k74 k83 k95 hP hD hS (lv_sub hl [0, 1, 2, 3, 4, 5, 6] rfl) h
theorem kw_X8_size_95 {p : Program} {l : Launch} {e : Env} {s : State} {m : MethodId} {args : Array Value} {below : List Frame} {meth : Method} {c : Code} {D : va_G} {ad : Nat → Nat} {cI cJ cR : ClassId} {A : Nat → Prop} {K23 : ms_T → Int32 → Int32 → Prop} {K74 : ms_T → Int32 → Int32 → Int32 → Int32 → Prop} {K83 : ms_T → Int32 → Int32 → Int32 → Int32 → Int32 → Prop} {Q : Int32 → ms_T → Prop} (fx : xr_Fx p m c meth cX8_size 11 s args wsX8_size RX8 (some .int)) (hK : xr_K D (ms_ty cI cJ cR) s) (hA : ∀ q, s.heap.size ≤ q → A q) (k23 : ∀ (S : ms_T) (v1 : Int32) (v2 : Int32) {H : Heap} {locs : List Loc} {ls : Array Slot}, va_P D vwCl (ms_w ad cI cJ S) H → va_D A (ms_w ad cI cJ S) → va_S A s.heap H locs → lv_has ls 11 [(0, .ref (ad 0)), (1, .int v1), (2, .int v2)] → K23 S v1 v2 → W p l e rm_X8_size s m args below meth c H locs 0 0 (MQ below (va_Qi Q (xr_B D (ms_ty cI cJ cR) (ms_w ad cI cJ) A) A) args s 0 0 A) (F0 m 23 ls [])) (k74 : ∀ (S : ms_T) (v1 : Int32) (v2 : Int32) (v3 : Int32) (v4 : Int32) {H : Heap} {locs : List Loc} {ls : Array Slot}, va_P D vwCl (ms_w ad cI cJ S) H → va_D A (ms_w ad cI cJ S) → va_S A s.heap H locs → lv_has ls 11 [(0, .ref (ad 0)), (1, .int v1), (2, .int v2), (3, .int v3), (4, .int v4)] → K74 S v1 v2 v3 v4 → W p l e rm_X8_size s m args below meth c H locs 0 0 (MQ below (va_Qi Q (xr_B D (ms_ty cI cJ cR) (ms_w ad cI cJ) A) A) args s 0 0 A) (F0 m 74 ls [])) (k83 : ∀ (S : ms_T) (v1 : Int32) (v2 : Int32) (v3 : Int32) (v4 : Int32) (v5 : Int32) {H : Heap} {locs : List Loc} {ls : Array Slot}, va_P D vwCl (ms_w ad cI cJ S) H → va_D A (ms_w ad cI cJ S) → va_S A s.heap H locs → lv_has ls 11 [(0, .ref (ad 0)), (1, .int v1), (2, .int v2), (3, .int v3), (4, .int v4), (5, .int v5)] → K83 S v1 v2 v3 v4 v5 → W p l e rm_X8_size s m args below meth c H locs 0 0 (MQ below (va_Qi Q (xr_B D (ms_ty cI cJ cR) (ms_w ad cI cJ) A) A) args s 0 0 A) (F0 m 83 ls [])) : ∀ (n : Nat) (S : ms_T) (v1 : Int32) (v2 : Int32) (v3 : Int32) (v4 : Int32) (v5 : Int32) (v6 : Int32) {H : Heap} {locs : List Loc} {ls : Array Slot}, va_P D vwCl (ms_w ad cI cJ S) H → va_D A (ms_w ad cI cJ S) → va_S A s.heap H locs → lv_has ls 11 [(0, .ref (ad 0)), (1, .int v1), (2, .int v2), (3, .int v3), (4, .int v4), (5, .int v5), (6, .int v6)] → wp_X8_size_95 K23 K74 K83 Q n S v1 v2 v3 v4 v5 v6 → W p l e rm_X8_size s m args below meth c H locs 0 0 (MQ below (va_Qi Q (xr_B D (ms_ty cI cJ cR) (ms_w ad cI cJ) A) A) args s 0 0 A) (F0 m 95 ls []) := by
  intro n
  induction n with
  | zero => intro S v1 v2 v3 v4 v5 v6 H locs ls hP hD hS hl h; exact False.elim h
  | succ n ih => intro S v1 v2 v3 v4 v5 v6 H locs ls hP hD hS hl h; exact kb_X8_size_95 fx hK hA k23 k74 k83 ih hP hD hS hl h
set_option maxHeartbeats 4000000 in
set_option maxRecDepth 100000 in
theorem kb_X8_size_83 {p : Program} {l : Launch} {e : Env} {s : State} {m : MethodId} {args : Array Value} {below : List Frame} {meth : Method} {c : Code} {D : va_G} {ad : Nat → Nat} {cI cJ cR : ClassId} {A : Nat → Prop} {K23 : ms_T → Int32 → Int32 → Prop} {K74 : ms_T → Int32 → Int32 → Int32 → Int32 → Prop} {K83 : ms_T → Int32 → Int32 → Int32 → Int32 → Int32 → Prop} {Q : Int32 → ms_T → Prop} {S : ms_T} {v1 : Int32} {v2 : Int32} {v3 : Int32} {v4 : Int32} {v5 : Int32} (fx : xr_Fx p m c meth cX8_size 11 s args wsX8_size RX8 (some .int)) (hK : xr_K D (ms_ty cI cJ cR) s) (hA : ∀ q, s.heap.size ≤ q → A q) (k23 : ∀ (S : ms_T) (v1 : Int32) (v2 : Int32) {H : Heap} {locs : List Loc} {ls : Array Slot}, va_P D vwCl (ms_w ad cI cJ S) H → va_D A (ms_w ad cI cJ S) → va_S A s.heap H locs → lv_has ls 11 [(0, .ref (ad 0)), (1, .int v1), (2, .int v2)] → K23 S v1 v2 → W p l e rm_X8_size s m args below meth c H locs 0 0 (MQ below (va_Qi Q (xr_B D (ms_ty cI cJ cR) (ms_w ad cI cJ) A) A) args s 0 0 A) (F0 m 23 ls [])) (k74 : ∀ (S : ms_T) (v1 : Int32) (v2 : Int32) (v3 : Int32) (v4 : Int32) {H : Heap} {locs : List Loc} {ls : Array Slot}, va_P D vwCl (ms_w ad cI cJ S) H → va_D A (ms_w ad cI cJ S) → va_S A s.heap H locs → lv_has ls 11 [(0, .ref (ad 0)), (1, .int v1), (2, .int v2), (3, .int v3), (4, .int v4)] → K74 S v1 v2 v3 v4 → W p l e rm_X8_size s m args below meth c H locs 0 0 (MQ below (va_Qi Q (xr_B D (ms_ty cI cJ cR) (ms_w ad cI cJ) A) A) args s 0 0 A) (F0 m 74 ls [])) (k83 : ∀ (S : ms_T) (v1 : Int32) (v2 : Int32) (v3 : Int32) (v4 : Int32) (v5 : Int32) {H : Heap} {locs : List Loc} {ls : Array Slot}, va_P D vwCl (ms_w ad cI cJ S) H → va_D A (ms_w ad cI cJ S) → va_S A s.heap H locs → lv_has ls 11 [(0, .ref (ad 0)), (1, .int v1), (2, .int v2), (3, .int v3), (4, .int v4), (5, .int v5)] → K83 S v1 v2 v3 v4 v5 → W p l e rm_X8_size s m args below meth c H locs 0 0 (MQ below (va_Qi Q (xr_B D (ms_ty cI cJ cR) (ms_w ad cI cJ) A) A) args s 0 0 A) (F0 m 83 ls [])) {H : Heap} {locs : List Loc} {ls : Array Slot} (hP : va_P D vwCl (ms_w ad cI cJ S) H) (hD : va_D A (ms_w ad cI cJ S)) (hS : va_S A s.heap H locs) (hl : lv_has ls 11 [(0, .ref (ad 0)), (1, .int v1), (2, .int v2), (3, .int v3), (4, .int v4), (5, .int v5)]) (h : wb_X8_size_83 K23 K74 K83 Q S v1 v2 v3 v4 v5) : W p l e rm_X8_size s m args below meth c H locs 0 0 (MQ below (va_Qi Q (xr_B D (ms_ty cI cJ cR) (ms_w ad cI cJ) A) A) args s 0 0 A) (F0 m 83 ls []) := by
  obtain ⟨⟨hx, hb, hml, hown, hts⟩, hrt, hlk⟩ := id fx
  have hf : 0 ≤ rm_X8_size.cells ∧ 0 ≤ rm_X8_size.slots := ⟨Nat.zero_le _, Nat.zero_le _⟩
  unfold wb_X8_size_83 at h
  refine lv_iload hx hb dX8_size_83 (lv_at hl 5 rfl) ?_
  refine lv_aload_n hx hb dX8_size_85 rfl (lv_at hl 0 rfl) ?_
  refine ms_get 0 (v := .int (S.1 0)) fx in_X8_size (by decide) rfl (by decide +kernel) rfl hK hP dX8_size_86 ?_
  refine lv_icmp_ge (tgt := 220) hx hb dX8_size_89 (by decide) (fun c89 => ?_) (fun c89 => ?_)
  · have h := h.1 c89
    obtain ⟨v4_15, ev4_15⟩ : ∃ z : Int32, z = v4 + 1 := ⟨_, rfl⟩
    have h := h v4_15 ev4_15
    refine lv_iinc (v := v4_15) (lv' := [(4, .int v4_15), (0, .ref (ad 0)), (1, .int v1), (2, .int v2), (3, .int v3), (5, .int v5)]) hx hb dX8_size_220 hl (k := 4) rfl (by rw [ev4_15]; rfl) (by decide) rfl (fun ls hl => ?_)
    refine lv_goto (tgt := 74) hx hb dX8_size_223 (by decide) ?_
    exact k74 _ _ _ _ _ hP hD hS (lv_sub hl [1, 2, 3, 4, 0] rfl) h
  · have h := h.2 c89
    refine lv_iconst (v := 0) hx hb dX8_size_92 (by decide) ?_
    refine lv_istore (lv' := [(6, .int 0), (0, .ref (ad 0)), (1, .int v1), (2, .int v2), (3, .int v3), (4, .int v4), (5, .int v5)]) hx hb dX8_size_93 hl (by decide) rfl (fun ls hl => ?_)
    obtain ⟨n, h⟩ := h
    exact kw_X8_size_95 fx hK hA k23 k74 k83 n _ _ _ _ _ _ _ hP hD hS (lv_sub hl [1, 2, 3, 4, 5, 6, 0] rfl) h
theorem kw_X8_size_83 {p : Program} {l : Launch} {e : Env} {s : State} {m : MethodId} {args : Array Value} {below : List Frame} {meth : Method} {c : Code} {D : va_G} {ad : Nat → Nat} {cI cJ cR : ClassId} {A : Nat → Prop} {K23 : ms_T → Int32 → Int32 → Prop} {K74 : ms_T → Int32 → Int32 → Int32 → Int32 → Prop} {Q : Int32 → ms_T → Prop} (fx : xr_Fx p m c meth cX8_size 11 s args wsX8_size RX8 (some .int)) (hK : xr_K D (ms_ty cI cJ cR) s) (hA : ∀ q, s.heap.size ≤ q → A q) (k23 : ∀ (S : ms_T) (v1 : Int32) (v2 : Int32) {H : Heap} {locs : List Loc} {ls : Array Slot}, va_P D vwCl (ms_w ad cI cJ S) H → va_D A (ms_w ad cI cJ S) → va_S A s.heap H locs → lv_has ls 11 [(0, .ref (ad 0)), (1, .int v1), (2, .int v2)] → K23 S v1 v2 → W p l e rm_X8_size s m args below meth c H locs 0 0 (MQ below (va_Qi Q (xr_B D (ms_ty cI cJ cR) (ms_w ad cI cJ) A) A) args s 0 0 A) (F0 m 23 ls [])) (k74 : ∀ (S : ms_T) (v1 : Int32) (v2 : Int32) (v3 : Int32) (v4 : Int32) {H : Heap} {locs : List Loc} {ls : Array Slot}, va_P D vwCl (ms_w ad cI cJ S) H → va_D A (ms_w ad cI cJ S) → va_S A s.heap H locs → lv_has ls 11 [(0, .ref (ad 0)), (1, .int v1), (2, .int v2), (3, .int v3), (4, .int v4)] → K74 S v1 v2 v3 v4 → W p l e rm_X8_size s m args below meth c H locs 0 0 (MQ below (va_Qi Q (xr_B D (ms_ty cI cJ cR) (ms_w ad cI cJ) A) A) args s 0 0 A) (F0 m 74 ls [])) : ∀ (n : Nat) (S : ms_T) (v1 : Int32) (v2 : Int32) (v3 : Int32) (v4 : Int32) (v5 : Int32) {H : Heap} {locs : List Loc} {ls : Array Slot}, va_P D vwCl (ms_w ad cI cJ S) H → va_D A (ms_w ad cI cJ S) → va_S A s.heap H locs → lv_has ls 11 [(0, .ref (ad 0)), (1, .int v1), (2, .int v2), (3, .int v3), (4, .int v4), (5, .int v5)] → wp_X8_size_83 K23 K74 Q n S v1 v2 v3 v4 v5 → W p l e rm_X8_size s m args below meth c H locs 0 0 (MQ below (va_Qi Q (xr_B D (ms_ty cI cJ cR) (ms_w ad cI cJ) A) A) args s 0 0 A) (F0 m 83 ls []) := by
  intro n
  induction n with
  | zero => intro S v1 v2 v3 v4 v5 H locs ls hP hD hS hl h; exact False.elim h
  | succ n ih => intro S v1 v2 v3 v4 v5 H locs ls hP hD hS hl h; exact kb_X8_size_83 fx hK hA k23 k74 ih hP hD hS hl h
set_option maxHeartbeats 4000000 in
set_option maxRecDepth 100000 in
theorem kw_X8_size_295 {p : Program} {l : Launch} {e : Env} {s : State} {m : MethodId} {args : Array Value} {below : List Frame} {meth : Method} {c : Code} {D : va_G} {ad : Nat → Nat} {cI cJ cR : ClassId} {A : Nat → Prop} {K23 : ms_T → Int32 → Int32 → Prop} {K229 : ms_T → Int32 → Int32 → Int32 → Prop} {Q : Int32 → ms_T → Prop} {S : ms_T} {v1 : Int32} {v2 : Int32} {v4 : Int32} (fx : xr_Fx p m c meth cX8_size 11 s args wsX8_size RX8 (some .int)) (hK : xr_K D (ms_ty cI cJ cR) s) (hA : ∀ q, s.heap.size ≤ q → A q) (k23 : ∀ (S : ms_T) (v1 : Int32) (v2 : Int32) {H : Heap} {locs : List Loc} {ls : Array Slot}, va_P D vwCl (ms_w ad cI cJ S) H → va_D A (ms_w ad cI cJ S) → va_S A s.heap H locs → lv_has ls 11 [(0, .ref (ad 0)), (1, .int v1), (2, .int v2)] → K23 S v1 v2 → W p l e rm_X8_size s m args below meth c H locs 0 0 (MQ below (va_Qi Q (xr_B D (ms_ty cI cJ cR) (ms_w ad cI cJ) A) A) args s 0 0 A) (F0 m 23 ls [])) (k229 : ∀ (S : ms_T) (v1 : Int32) (v2 : Int32) (v4 : Int32) {H : Heap} {locs : List Loc} {ls : Array Slot}, va_P D vwCl (ms_w ad cI cJ S) H → va_D A (ms_w ad cI cJ S) → va_S A s.heap H locs → lv_has ls 11 [(0, .ref (ad 0)), (1, .int v1), (2, .int v2), (4, .int v4)] → K229 S v1 v2 v4 → W p l e rm_X8_size s m args below meth c H locs 0 0 (MQ below (va_Qi Q (xr_B D (ms_ty cI cJ cR) (ms_w ad cI cJ) A) A) args s 0 0 A) (F0 m 229 ls [])) {H : Heap} {locs : List Loc} {ls : Array Slot} (hP : va_P D vwCl (ms_w ad cI cJ S) H) (hD : va_D A (ms_w ad cI cJ S)) (hS : va_S A s.heap H locs) (hl : lv_has ls 11 [(0, .ref (ad 0)), (1, .int v1), (2, .int v2), (4, .int v4)]) (h : wp_X8_size_295 K23 K229 Q S v1 v2 v4) : W p l e rm_X8_size s m args below meth c H locs 0 0 (MQ below (va_Qi Q (xr_B D (ms_ty cI cJ cR) (ms_w ad cI cJ) A) A) args s 0 0 A) (F0 m 295 ls []) := by
  obtain ⟨⟨hx, hb, hml, hown, hts⟩, hrt, hlk⟩ := id fx
  have hf : 0 ≤ rm_X8_size.cells ∧ 0 ≤ rm_X8_size.slots := ⟨Nat.zero_le _, Nat.zero_le _⟩
  unfold wp_X8_size_295 at h
  obtain ⟨v4_16, ev4_16⟩ : ∃ z : Int32, z = v4 + 1 := ⟨_, rfl⟩
  have h := h v4_16 ev4_16
  refine lv_iinc (v := v4_16) (lv' := [(4, .int v4_16), (0, .ref (ad 0)), (1, .int v1), (2, .int v2)]) hx hb dX8_size_295 hl (k := 3) rfl (by rw [ev4_16]; rfl) (by decide) rfl (fun ls hl => ?_)
  refine lv_goto (tgt := 229) hx hb dX8_size_298 (by decide) ?_
  exact k229 _ _ _ _ hP hD hS (lv_sub hl [1, 2, 3, 0] rfl) h
set_option maxHeartbeats 4000000 in
set_option maxRecDepth 100000 in
theorem kb_X8_size_252 {p : Program} {l : Launch} {e : Env} {s : State} {m : MethodId} {args : Array Value} {below : List Frame} {meth : Method} {c : Code} {D : va_G} {ad : Nat → Nat} {cI cJ cR : ClassId} {A : Nat → Prop} {K23 : ms_T → Int32 → Int32 → Prop} {K229 : ms_T → Int32 → Int32 → Int32 → Prop} {K252 : ms_T → Int32 → Int32 → Int32 → Int32 → Prop} {Q : Int32 → ms_T → Prop} {S : ms_T} {v1 : Int32} {v2 : Int32} {v4 : Int32} {v5 : Int32} (fx : xr_Fx p m c meth cX8_size 11 s args wsX8_size RX8 (some .int)) (hK : xr_K D (ms_ty cI cJ cR) s) (hA : ∀ q, s.heap.size ≤ q → A q) (k23 : ∀ (S : ms_T) (v1 : Int32) (v2 : Int32) {H : Heap} {locs : List Loc} {ls : Array Slot}, va_P D vwCl (ms_w ad cI cJ S) H → va_D A (ms_w ad cI cJ S) → va_S A s.heap H locs → lv_has ls 11 [(0, .ref (ad 0)), (1, .int v1), (2, .int v2)] → K23 S v1 v2 → W p l e rm_X8_size s m args below meth c H locs 0 0 (MQ below (va_Qi Q (xr_B D (ms_ty cI cJ cR) (ms_w ad cI cJ) A) A) args s 0 0 A) (F0 m 23 ls [])) (k229 : ∀ (S : ms_T) (v1 : Int32) (v2 : Int32) (v4 : Int32) {H : Heap} {locs : List Loc} {ls : Array Slot}, va_P D vwCl (ms_w ad cI cJ S) H → va_D A (ms_w ad cI cJ S) → va_S A s.heap H locs → lv_has ls 11 [(0, .ref (ad 0)), (1, .int v1), (2, .int v2), (4, .int v4)] → K229 S v1 v2 v4 → W p l e rm_X8_size s m args below meth c H locs 0 0 (MQ below (va_Qi Q (xr_B D (ms_ty cI cJ cR) (ms_w ad cI cJ) A) A) args s 0 0 A) (F0 m 229 ls [])) (k252 : ∀ (S : ms_T) (v1 : Int32) (v2 : Int32) (v4 : Int32) (v5 : Int32) {H : Heap} {locs : List Loc} {ls : Array Slot}, va_P D vwCl (ms_w ad cI cJ S) H → va_D A (ms_w ad cI cJ S) → va_S A s.heap H locs → lv_has ls 11 [(0, .ref (ad 0)), (1, .int v1), (2, .int v2), (4, .int v4), (5, .int v5)] → K252 S v1 v2 v4 v5 → W p l e rm_X8_size s m args below meth c H locs 0 0 (MQ below (va_Qi Q (xr_B D (ms_ty cI cJ cR) (ms_w ad cI cJ) A) A) args s 0 0 A) (F0 m 252 ls [])) {H : Heap} {locs : List Loc} {ls : Array Slot} (hP : va_P D vwCl (ms_w ad cI cJ S) H) (hD : va_D A (ms_w ad cI cJ S)) (hS : va_S A s.heap H locs) (hl : lv_has ls 11 [(0, .ref (ad 0)), (1, .int v1), (2, .int v2), (4, .int v4), (5, .int v5)]) (h : wb_X8_size_252 K23 K229 K252 Q S v1 v2 v4 v5) : W p l e rm_X8_size s m args below meth c H locs 0 0 (MQ below (va_Qi Q (xr_B D (ms_ty cI cJ cR) (ms_w ad cI cJ) A) A) args s 0 0 A) (F0 m 252 ls []) := by
  obtain ⟨⟨hx, hb, hml, hown, hts⟩, hrt, hlk⟩ := id fx
  have hf : 0 ≤ rm_X8_size.cells ∧ 0 ≤ rm_X8_size.slots := ⟨Nat.zero_le _, Nat.zero_le _⟩
  unfold wb_X8_size_252 at h
  refine lv_iload hx hb dX8_size_252 (lv_at hl 4 rfl) ?_
  refine lv_aload_n hx hb dX8_size_254 rfl (lv_at hl 0 rfl) ?_
  refine ms_get 3 (v := .ref (ad 1)) fx in_X8_size (by decide) rfl (by decide +kernel) rfl hK hP dX8_size_255 ?_
  refine lv_iload_n hx hb dX8_size_258 rfl (lv_at hl 2 rfl) ?_
  obtain ⟨hi17, h⟩ := h
  refine ms_iald 0 (by decide) fx hK hP rfl hi17 dX8_size_259 ?_
  refine lv_icmp_ge (tgt := 290) hx hb dX8_size_260 (by decide) (fun c260 => ?_) (fun c260 => ?_)
  · have h := h.1 c260
    refine lv_aload_n hx hb dX8_size_290 rfl (lv_at hl 0 rfl) ?_
    refine lv_iload_n hx hb dX8_size_291 rfl (lv_at hl 2 rfl) ?_
    refine xr_vV (n := 1) (As := [.int v2]) (rest := []) fx (ct_X8_spansMore l D ad cI cJ cR h) gX8_size_X8_spansMore rfl rfl (by decide +kernel) ⟨Nat.le_of_ble_eq_true rfl, Nat.le_of_ble_eq_true rfl⟩ ⟨rfl, rfl⟩ hf (ms_recv hK hP) hK hP hD hS hA hl.1 rfl (Nat.le_of_ble_eq_true rfl) dX8_size_292 (fun S18 H locs h hP hD hS => ?_)
    exact kw_X8_size_295 fx hK hA k23 k229 hP hD hS (lv_sub hl [0, 1, 2, 3] rfl) h
  · have h := h.2 c260
    refine lv_aload_n hx hb dX8_size_263 rfl (lv_at hl 0 rfl) ?_
    refine ms_get 14 (v := .ref (ad 17)) fx in_X8_size (by decide) rfl (by decide +kernel) rfl hK hP dX8_size_264 ?_
    refine lv_iload hx hb dX8_size_267 (lv_at hl 4 rfl) ?_
    refine lv_aload_n hx hb dX8_size_269 rfl (lv_at hl 0 rfl) ?_
    refine ms_get 21 (v := .ref (ad 20)) fx in_X8_size (by decide) rfl (by decide +kernel) rfl hK hP dX8_size_270 ?_
    refine lv_sipush (v := 256) hx hb dX8_size_273 (by decide) ?_
    refine lv_iload hx hb dX8_size_276 (lv_at hl 3 rfl) ?_
    refine lv_imul hx hb dX8_size_278 ?_
    refine lv_iload hx hb dX8_size_279 (lv_at hl 4 rfl) ?_
    refine lv_iadd hx hb dX8_size_281 ?_
    obtain ⟨hi19, h⟩ := h
    refine ms_lald 5 (by decide) fx hK hP rfl hi19 dX8_size_282 ?_
    obtain ⟨hi20, h⟩ := h
    refine ms_last 2 (by decide) fx hK hP hD hS rfl hi20 dX8_size_283 (fun H locs hP hD hS => ?_)
    obtain ⟨v5_21, ev5_21⟩ : ∃ z : Int32, z = v5 + 1 := ⟨_, rfl⟩
    have h := h v5_21 ev5_21
    refine lv_iinc (v := v5_21) (lv' := [(5, .int v5_21), (0, .ref (ad 0)), (1, .int v1), (2, .int v2), (4, .int v4)]) hx hb dX8_size_284 hl (k := 4) rfl (by rw [ev5_21]; rfl) (by decide) rfl (fun ls hl => ?_)
    refine lv_goto (tgt := 252) hx hb dX8_size_287 (by decide) ?_
    exact k252 _ _ _ _ _ hP hD hS (lv_sub hl [1, 2, 3, 4, 0] rfl) h
theorem kw_X8_size_252 {p : Program} {l : Launch} {e : Env} {s : State} {m : MethodId} {args : Array Value} {below : List Frame} {meth : Method} {c : Code} {D : va_G} {ad : Nat → Nat} {cI cJ cR : ClassId} {A : Nat → Prop} {K23 : ms_T → Int32 → Int32 → Prop} {K229 : ms_T → Int32 → Int32 → Int32 → Prop} {Q : Int32 → ms_T → Prop} (fx : xr_Fx p m c meth cX8_size 11 s args wsX8_size RX8 (some .int)) (hK : xr_K D (ms_ty cI cJ cR) s) (hA : ∀ q, s.heap.size ≤ q → A q) (k23 : ∀ (S : ms_T) (v1 : Int32) (v2 : Int32) {H : Heap} {locs : List Loc} {ls : Array Slot}, va_P D vwCl (ms_w ad cI cJ S) H → va_D A (ms_w ad cI cJ S) → va_S A s.heap H locs → lv_has ls 11 [(0, .ref (ad 0)), (1, .int v1), (2, .int v2)] → K23 S v1 v2 → W p l e rm_X8_size s m args below meth c H locs 0 0 (MQ below (va_Qi Q (xr_B D (ms_ty cI cJ cR) (ms_w ad cI cJ) A) A) args s 0 0 A) (F0 m 23 ls [])) (k229 : ∀ (S : ms_T) (v1 : Int32) (v2 : Int32) (v4 : Int32) {H : Heap} {locs : List Loc} {ls : Array Slot}, va_P D vwCl (ms_w ad cI cJ S) H → va_D A (ms_w ad cI cJ S) → va_S A s.heap H locs → lv_has ls 11 [(0, .ref (ad 0)), (1, .int v1), (2, .int v2), (4, .int v4)] → K229 S v1 v2 v4 → W p l e rm_X8_size s m args below meth c H locs 0 0 (MQ below (va_Qi Q (xr_B D (ms_ty cI cJ cR) (ms_w ad cI cJ) A) A) args s 0 0 A) (F0 m 229 ls [])) : ∀ (n : Nat) (S : ms_T) (v1 : Int32) (v2 : Int32) (v4 : Int32) (v5 : Int32) {H : Heap} {locs : List Loc} {ls : Array Slot}, va_P D vwCl (ms_w ad cI cJ S) H → va_D A (ms_w ad cI cJ S) → va_S A s.heap H locs → lv_has ls 11 [(0, .ref (ad 0)), (1, .int v1), (2, .int v2), (4, .int v4), (5, .int v5)] → wp_X8_size_252 K23 K229 Q n S v1 v2 v4 v5 → W p l e rm_X8_size s m args below meth c H locs 0 0 (MQ below (va_Qi Q (xr_B D (ms_ty cI cJ cR) (ms_w ad cI cJ) A) A) args s 0 0 A) (F0 m 252 ls []) := by
  intro n
  induction n with
  | zero => intro S v1 v2 v4 v5 H locs ls hP hD hS hl h; exact False.elim h
  | succ n ih => intro S v1 v2 v4 v5 H locs ls hP hD hS hl h; exact kb_X8_size_252 fx hK hA k23 k229 ih hP hD hS hl h
set_option maxHeartbeats 4000000 in
set_option maxRecDepth 100000 in
theorem kb_X8_size_229 {p : Program} {l : Launch} {e : Env} {s : State} {m : MethodId} {args : Array Value} {below : List Frame} {meth : Method} {c : Code} {D : va_G} {ad : Nat → Nat} {cI cJ cR : ClassId} {A : Nat → Prop} {K23 : ms_T → Int32 → Int32 → Prop} {K229 : ms_T → Int32 → Int32 → Int32 → Prop} {Q : Int32 → ms_T → Prop} {S : ms_T} {v1 : Int32} {v2 : Int32} {v4 : Int32} (fx : xr_Fx p m c meth cX8_size 11 s args wsX8_size RX8 (some .int)) (hK : xr_K D (ms_ty cI cJ cR) s) (hA : ∀ q, s.heap.size ≤ q → A q) (k23 : ∀ (S : ms_T) (v1 : Int32) (v2 : Int32) {H : Heap} {locs : List Loc} {ls : Array Slot}, va_P D vwCl (ms_w ad cI cJ S) H → va_D A (ms_w ad cI cJ S) → va_S A s.heap H locs → lv_has ls 11 [(0, .ref (ad 0)), (1, .int v1), (2, .int v2)] → K23 S v1 v2 → W p l e rm_X8_size s m args below meth c H locs 0 0 (MQ below (va_Qi Q (xr_B D (ms_ty cI cJ cR) (ms_w ad cI cJ) A) A) args s 0 0 A) (F0 m 23 ls [])) (k229 : ∀ (S : ms_T) (v1 : Int32) (v2 : Int32) (v4 : Int32) {H : Heap} {locs : List Loc} {ls : Array Slot}, va_P D vwCl (ms_w ad cI cJ S) H → va_D A (ms_w ad cI cJ S) → va_S A s.heap H locs → lv_has ls 11 [(0, .ref (ad 0)), (1, .int v1), (2, .int v2), (4, .int v4)] → K229 S v1 v2 v4 → W p l e rm_X8_size s m args below meth c H locs 0 0 (MQ below (va_Qi Q (xr_B D (ms_ty cI cJ cR) (ms_w ad cI cJ) A) A) args s 0 0 A) (F0 m 229 ls [])) {H : Heap} {locs : List Loc} {ls : Array Slot} (hP : va_P D vwCl (ms_w ad cI cJ S) H) (hD : va_D A (ms_w ad cI cJ S)) (hS : va_S A s.heap H locs) (hl : lv_has ls 11 [(0, .ref (ad 0)), (1, .int v1), (2, .int v2), (4, .int v4)]) (h : wb_X8_size_229 K23 K229 Q S v1 v2 v4) : W p l e rm_X8_size s m args below meth c H locs 0 0 (MQ below (va_Qi Q (xr_B D (ms_ty cI cJ cR) (ms_w ad cI cJ) A) A) args s 0 0 A) (F0 m 229 ls []) := by
  obtain ⟨⟨hx, hb, hml, hown, hts⟩, hrt, hlk⟩ := id fx
  have hf : 0 ≤ rm_X8_size.cells ∧ 0 ≤ rm_X8_size.slots := ⟨Nat.zero_le _, Nat.zero_le _⟩
  unfold wb_X8_size_229 at h
  refine lv_iload hx hb dX8_size_229 (lv_at hl 3 rfl) ?_
  refine lv_aload_n hx hb dX8_size_231 rfl (lv_at hl 0 rfl) ?_
  refine ms_get 19 (v := .int (S.1 5)) fx in_X8_size (by decide) rfl (by decide +kernel) rfl hK hP dX8_size_232 ?_
  refine lv_icmp_ge (tgt := 301) hx hb dX8_size_235 (by decide) (fun c235 => ?_) (fun c235 => ?_)
  · have h := h.1 c235
    obtain ⟨v2_22, ev2_22⟩ : ∃ z : Int32, z = v2 + 1 := ⟨_, rfl⟩
    have h := h v2_22 ev2_22
    refine lv_iinc (v := v2_22) (lv' := [(2, .int v2_22), (0, .ref (ad 0)), (1, .int v1), (4, .int v4)]) hx hb dX8_size_301 hl (k := 2) rfl (by rw [ev2_22]; rfl) (by decide) rfl (fun ls hl => ?_)
    refine lv_goto (tgt := 23) hx hb dX8_size_304 (by decide) ?_
    exact k23 _ _ _ hP hD hS (lv_sub hl [1, 2, 0] rfl) h
  · have h := h.2 c235
    refine lv_aload_n hx hb dX8_size_238 rfl (lv_at hl 0 rfl) ?_
    refine ms_get 20 (v := .ref (ad 10)) fx in_X8_size (by decide) rfl (by decide +kernel) rfl hK hP dX8_size_239 ?_
    refine lv_iload hx hb dX8_size_242 (lv_at hl 3 rfl) ?_
    obtain ⟨hi23, h⟩ := h
    refine ms_iald 9 (by decide) fx hK hP rfl hi23 dX8_size_244 ?_
    refine lv_iload_n hx hb dX8_size_245 rfl (lv_at hl 2 rfl) ?_
    refine lv_icmp_ne (tgt := 295) hx hb dX8_size_246 (by decide) (fun c246 => ?_) (fun c246 => ?_)
    · have h := h.1 c246
      exact kw_X8_size_295 fx hK hA k23 k229 hP hD hS (lv_sub hl [0, 1, 2, 3] rfl) h
    · have h := h.2 c246
      refine lv_iconst (v := 0) hx hb dX8_size_249 (by decide) ?_
      refine lv_istore (lv' := [(5, .int 0), (0, .ref (ad 0)), (1, .int v1), (2, .int v2), (4, .int v4)]) hx hb dX8_size_250 hl (by decide) rfl (fun ls hl => ?_)
      obtain ⟨n, h⟩ := h
      exact kw_X8_size_252 fx hK hA k23 k229 n _ _ _ _ _ hP hD hS (lv_sub hl [1, 2, 3, 4, 0] rfl) h
theorem kw_X8_size_229 {p : Program} {l : Launch} {e : Env} {s : State} {m : MethodId} {args : Array Value} {below : List Frame} {meth : Method} {c : Code} {D : va_G} {ad : Nat → Nat} {cI cJ cR : ClassId} {A : Nat → Prop} {K23 : ms_T → Int32 → Int32 → Prop} {Q : Int32 → ms_T → Prop} (fx : xr_Fx p m c meth cX8_size 11 s args wsX8_size RX8 (some .int)) (hK : xr_K D (ms_ty cI cJ cR) s) (hA : ∀ q, s.heap.size ≤ q → A q) (k23 : ∀ (S : ms_T) (v1 : Int32) (v2 : Int32) {H : Heap} {locs : List Loc} {ls : Array Slot}, va_P D vwCl (ms_w ad cI cJ S) H → va_D A (ms_w ad cI cJ S) → va_S A s.heap H locs → lv_has ls 11 [(0, .ref (ad 0)), (1, .int v1), (2, .int v2)] → K23 S v1 v2 → W p l e rm_X8_size s m args below meth c H locs 0 0 (MQ below (va_Qi Q (xr_B D (ms_ty cI cJ cR) (ms_w ad cI cJ) A) A) args s 0 0 A) (F0 m 23 ls [])) : ∀ (n : Nat) (S : ms_T) (v1 : Int32) (v2 : Int32) (v4 : Int32) {H : Heap} {locs : List Loc} {ls : Array Slot}, va_P D vwCl (ms_w ad cI cJ S) H → va_D A (ms_w ad cI cJ S) → va_S A s.heap H locs → lv_has ls 11 [(0, .ref (ad 0)), (1, .int v1), (2, .int v2), (4, .int v4)] → wp_X8_size_229 K23 Q n S v1 v2 v4 → W p l e rm_X8_size s m args below meth c H locs 0 0 (MQ below (va_Qi Q (xr_B D (ms_ty cI cJ cR) (ms_w ad cI cJ) A) A) args s 0 0 A) (F0 m 229 ls []) := by
  intro n
  induction n with
  | zero => intro S v1 v2 v4 H locs ls hP hD hS hl h; exact False.elim h
  | succ n ih => intro S v1 v2 v4 H locs ls hP hD hS hl h; exact kb_X8_size_229 fx hK hA k23 ih hP hD hS hl h
set_option maxHeartbeats 4000000 in
set_option maxRecDepth 100000 in
theorem kb_X8_size_74 {p : Program} {l : Launch} {e : Env} {s : State} {m : MethodId} {args : Array Value} {below : List Frame} {meth : Method} {c : Code} {D : va_G} {ad : Nat → Nat} {cI cJ cR : ClassId} {A : Nat → Prop} {K23 : ms_T → Int32 → Int32 → Prop} {K74 : ms_T → Int32 → Int32 → Int32 → Int32 → Prop} {Q : Int32 → ms_T → Prop} {S : ms_T} {v1 : Int32} {v2 : Int32} {v3 : Int32} {v4 : Int32} (fx : xr_Fx p m c meth cX8_size 11 s args wsX8_size RX8 (some .int)) (hK : xr_K D (ms_ty cI cJ cR) s) (hA : ∀ q, s.heap.size ≤ q → A q) (k23 : ∀ (S : ms_T) (v1 : Int32) (v2 : Int32) {H : Heap} {locs : List Loc} {ls : Array Slot}, va_P D vwCl (ms_w ad cI cJ S) H → va_D A (ms_w ad cI cJ S) → va_S A s.heap H locs → lv_has ls 11 [(0, .ref (ad 0)), (1, .int v1), (2, .int v2)] → K23 S v1 v2 → W p l e rm_X8_size s m args below meth c H locs 0 0 (MQ below (va_Qi Q (xr_B D (ms_ty cI cJ cR) (ms_w ad cI cJ) A) A) args s 0 0 A) (F0 m 23 ls [])) (k74 : ∀ (S : ms_T) (v1 : Int32) (v2 : Int32) (v3 : Int32) (v4 : Int32) {H : Heap} {locs : List Loc} {ls : Array Slot}, va_P D vwCl (ms_w ad cI cJ S) H → va_D A (ms_w ad cI cJ S) → va_S A s.heap H locs → lv_has ls 11 [(0, .ref (ad 0)), (1, .int v1), (2, .int v2), (3, .int v3), (4, .int v4)] → K74 S v1 v2 v3 v4 → W p l e rm_X8_size s m args below meth c H locs 0 0 (MQ below (va_Qi Q (xr_B D (ms_ty cI cJ cR) (ms_w ad cI cJ) A) A) args s 0 0 A) (F0 m 74 ls [])) {H : Heap} {locs : List Loc} {ls : Array Slot} (hP : va_P D vwCl (ms_w ad cI cJ S) H) (hD : va_D A (ms_w ad cI cJ S)) (hS : va_S A s.heap H locs) (hl : lv_has ls 11 [(0, .ref (ad 0)), (1, .int v1), (2, .int v2), (3, .int v3), (4, .int v4)]) (h : wb_X8_size_74 K23 K74 Q S v1 v2 v3 v4) : W p l e rm_X8_size s m args below meth c H locs 0 0 (MQ below (va_Qi Q (xr_B D (ms_ty cI cJ cR) (ms_w ad cI cJ) A) A) args s 0 0 A) (F0 m 74 ls []) := by
  obtain ⟨⟨hx, hb, hml, hown, hts⟩, hrt, hlk⟩ := id fx
  have hf : 0 ≤ rm_X8_size.cells ∧ 0 ≤ rm_X8_size.slots := ⟨Nat.zero_le _, Nat.zero_le _⟩
  unfold wb_X8_size_74 at h
  refine lv_iload hx hb dX8_size_74 (lv_at hl 4 rfl) ?_
  refine lv_iload_n hx hb dX8_size_76 rfl (lv_at hl 3 rfl) ?_
  refine lv_icmp_ge (tgt := 226) hx hb dX8_size_77 (by decide) (fun c77 => ?_) (fun c77 => ?_)
  · have h := h.1 c77
    refine lv_iconst (v := 0) hx hb dX8_size_226 (by decide) ?_
    refine lv_istore (lv' := [(4, .int 0), (0, .ref (ad 0)), (1, .int v1), (2, .int v2), (3, .int v3)]) hx hb dX8_size_227 hl (by decide) rfl (fun ls hl => ?_)
    obtain ⟨n, h⟩ := h
    exact kw_X8_size_229 fx hK hA k23 n _ _ _ _ hP hD hS (lv_sub hl [1, 2, 3, 0] rfl) h
  · have h := h.2 c77
    refine lv_iconst (v := 0) hx hb dX8_size_80 (by decide) ?_
    refine lv_istore (lv' := [(5, .int 0), (0, .ref (ad 0)), (1, .int v1), (2, .int v2), (3, .int v3), (4, .int v4)]) hx hb dX8_size_81 hl (by decide) rfl (fun ls hl => ?_)
    obtain ⟨n, h⟩ := h
    exact kw_X8_size_83 fx hK hA k23 k74 n _ _ _ _ _ _ hP hD hS (lv_sub hl [1, 2, 3, 4, 5, 0] rfl) h
theorem kw_X8_size_74 {p : Program} {l : Launch} {e : Env} {s : State} {m : MethodId} {args : Array Value} {below : List Frame} {meth : Method} {c : Code} {D : va_G} {ad : Nat → Nat} {cI cJ cR : ClassId} {A : Nat → Prop} {K23 : ms_T → Int32 → Int32 → Prop} {Q : Int32 → ms_T → Prop} (fx : xr_Fx p m c meth cX8_size 11 s args wsX8_size RX8 (some .int)) (hK : xr_K D (ms_ty cI cJ cR) s) (hA : ∀ q, s.heap.size ≤ q → A q) (k23 : ∀ (S : ms_T) (v1 : Int32) (v2 : Int32) {H : Heap} {locs : List Loc} {ls : Array Slot}, va_P D vwCl (ms_w ad cI cJ S) H → va_D A (ms_w ad cI cJ S) → va_S A s.heap H locs → lv_has ls 11 [(0, .ref (ad 0)), (1, .int v1), (2, .int v2)] → K23 S v1 v2 → W p l e rm_X8_size s m args below meth c H locs 0 0 (MQ below (va_Qi Q (xr_B D (ms_ty cI cJ cR) (ms_w ad cI cJ) A) A) args s 0 0 A) (F0 m 23 ls [])) : ∀ (n : Nat) (S : ms_T) (v1 : Int32) (v2 : Int32) (v3 : Int32) (v4 : Int32) {H : Heap} {locs : List Loc} {ls : Array Slot}, va_P D vwCl (ms_w ad cI cJ S) H → va_D A (ms_w ad cI cJ S) → va_S A s.heap H locs → lv_has ls 11 [(0, .ref (ad 0)), (1, .int v1), (2, .int v2), (3, .int v3), (4, .int v4)] → wp_X8_size_74 K23 Q n S v1 v2 v3 v4 → W p l e rm_X8_size s m args below meth c H locs 0 0 (MQ below (va_Qi Q (xr_B D (ms_ty cI cJ cR) (ms_w ad cI cJ) A) A) args s 0 0 A) (F0 m 74 ls []) := by
  intro n
  induction n with
  | zero => intro S v1 v2 v3 v4 H locs ls hP hD hS hl h; exact False.elim h
  | succ n ih => intro S v1 v2 v3 v4 H locs ls hP hD hS hl h; exact kb_X8_size_74 fx hK hA k23 ih hP hD hS hl h
set_option maxHeartbeats 4000000 in
set_option maxRecDepth 100000 in
theorem kb_X8_size_36 {p : Program} {l : Launch} {e : Env} {s : State} {m : MethodId} {args : Array Value} {below : List Frame} {meth : Method} {c : Code} {D : va_G} {ad : Nat → Nat} {cI cJ cR : ClassId} {A : Nat → Prop} {K23 : ms_T → Int32 → Int32 → Prop} {K36 : ms_T → Int32 → Int32 → Int32 → Int32 → Prop} {Q : Int32 → ms_T → Prop} {S : ms_T} {v1 : Int32} {v2 : Int32} {v3 : Int32} {v4 : Int32} (fx : xr_Fx p m c meth cX8_size 11 s args wsX8_size RX8 (some .int)) (hK : xr_K D (ms_ty cI cJ cR) s) (hA : ∀ q, s.heap.size ≤ q → A q) (k23 : ∀ (S : ms_T) (v1 : Int32) (v2 : Int32) {H : Heap} {locs : List Loc} {ls : Array Slot}, va_P D vwCl (ms_w ad cI cJ S) H → va_D A (ms_w ad cI cJ S) → va_S A s.heap H locs → lv_has ls 11 [(0, .ref (ad 0)), (1, .int v1), (2, .int v2)] → K23 S v1 v2 → W p l e rm_X8_size s m args below meth c H locs 0 0 (MQ below (va_Qi Q (xr_B D (ms_ty cI cJ cR) (ms_w ad cI cJ) A) A) args s 0 0 A) (F0 m 23 ls [])) (k36 : ∀ (S : ms_T) (v1 : Int32) (v2 : Int32) (v3 : Int32) (v4 : Int32) {H : Heap} {locs : List Loc} {ls : Array Slot}, va_P D vwCl (ms_w ad cI cJ S) H → va_D A (ms_w ad cI cJ S) → va_S A s.heap H locs → lv_has ls 11 [(0, .ref (ad 0)), (1, .int v1), (2, .int v2), (3, .int v3), (4, .int v4)] → K36 S v1 v2 v3 v4 → W p l e rm_X8_size s m args below meth c H locs 0 0 (MQ below (va_Qi Q (xr_B D (ms_ty cI cJ cR) (ms_w ad cI cJ) A) A) args s 0 0 A) (F0 m 36 ls [])) {H : Heap} {locs : List Loc} {ls : Array Slot} (hP : va_P D vwCl (ms_w ad cI cJ S) H) (hD : va_D A (ms_w ad cI cJ S)) (hS : va_S A s.heap H locs) (hl : lv_has ls 11 [(0, .ref (ad 0)), (1, .int v1), (2, .int v2), (3, .int v3), (4, .int v4)]) (h : wb_X8_size_36 K23 K36 Q S v1 v2 v3 v4) : W p l e rm_X8_size s m args below meth c H locs 0 0 (MQ below (va_Qi Q (xr_B D (ms_ty cI cJ cR) (ms_w ad cI cJ) A) A) args s 0 0 A) (F0 m 36 ls []) := by
  obtain ⟨⟨hx, hb, hml, hown, hts⟩, hrt, hlk⟩ := id fx
  have hf : 0 ≤ rm_X8_size.cells ∧ 0 ≤ rm_X8_size.slots := ⟨Nat.zero_le _, Nat.zero_le _⟩
  unfold wb_X8_size_36 at h
  refine lv_iload hx hb dX8_size_36 (lv_at hl 4 rfl) ?_
  refine lv_sipush (v := 256) hx hb dX8_size_38 (by decide) ?_
  refine lv_iload_n hx hb dX8_size_41 rfl (lv_at hl 3 rfl) ?_
  refine lv_imul hx hb dX8_size_42 ?_
  refine lv_icmp_ge (tgt := 66) hx hb dX8_size_43 (by decide) (fun c43 => ?_) (fun c43 => ?_)
  · have h := h.1 c43
    refine lv_aload_n hx hb dX8_size_66 rfl (lv_at hl 0 rfl) ?_
    refine lv_iconst (v := 0) hx hb dX8_size_67 (by decide) ?_
    refine ms_put 24 6 (ty := .int) fx in_X8_size (by decide) ms_f24 (by decide +kernel) rfl rfl (by decide +kernel) rfl rfl hK hP hD hS dX8_size_68 (fun H locs hP hD hS => ?_)
    refine lv_iconst (v := 0) hx hb dX8_size_71 (by decide) ?_
    refine lv_istore (lv' := [(4, .int 0), (0, .ref (ad 0)), (1, .int v1), (2, .int v2), (3, .int v3)]) hx hb dX8_size_72 hl (by decide) rfl (fun ls hl => ?_)
    obtain ⟨n, h⟩ := h
    exact kw_X8_size_74 fx hK hA k23 n _ _ _ _ _ hP hD hS (lv_sub hl [1, 2, 3, 4, 0] rfl) h
  · have h := h.2 c43
    refine lv_aload_n hx hb dX8_size_46 rfl (lv_at hl 0 rfl) ?_
    refine ms_get 25 (v := .ref (ad 22)) fx in_X8_size (by decide) rfl (by decide +kernel) rfl hK hP dX8_size_47 ?_
    refine lv_iload hx hb dX8_size_50 (lv_at hl 4 rfl) ?_
    refine lv_aload_n hx hb dX8_size_52 rfl (lv_at hl 0 rfl) ?_
    refine ms_get 22 (v := .ref (ad 21)) fx in_X8_size (by decide) rfl (by decide +kernel) rfl hK hP dX8_size_53 ?_
    refine lv_iload hx hb dX8_size_56 (lv_at hl 4 rfl) ?_
    obtain ⟨hi24, h⟩ := h
    refine ms_lald 6 (by decide) fx hK hP rfl hi24 dX8_size_58 ?_
    obtain ⟨hi25, h⟩ := h
    refine ms_last 7 (by decide) fx hK hP hD hS rfl hi25 dX8_size_59 (fun H locs hP hD hS => ?_)
    obtain ⟨v4_26, ev4_26⟩ : ∃ z : Int32, z = v4 + 1 := ⟨_, rfl⟩
    have h := h v4_26 ev4_26
    refine lv_iinc (v := v4_26) (lv' := [(4, .int v4_26), (0, .ref (ad 0)), (1, .int v1), (2, .int v2), (3, .int v3)]) hx hb dX8_size_60 hl (k := 4) rfl (by rw [ev4_26]; rfl) (by decide) rfl (fun ls hl => ?_)
    refine lv_goto (tgt := 36) hx hb dX8_size_63 (by decide) ?_
    exact k36 _ _ _ _ _ hP hD hS (lv_sub hl [1, 2, 3, 4, 0] rfl) h
theorem kw_X8_size_36 {p : Program} {l : Launch} {e : Env} {s : State} {m : MethodId} {args : Array Value} {below : List Frame} {meth : Method} {c : Code} {D : va_G} {ad : Nat → Nat} {cI cJ cR : ClassId} {A : Nat → Prop} {K23 : ms_T → Int32 → Int32 → Prop} {Q : Int32 → ms_T → Prop} (fx : xr_Fx p m c meth cX8_size 11 s args wsX8_size RX8 (some .int)) (hK : xr_K D (ms_ty cI cJ cR) s) (hA : ∀ q, s.heap.size ≤ q → A q) (k23 : ∀ (S : ms_T) (v1 : Int32) (v2 : Int32) {H : Heap} {locs : List Loc} {ls : Array Slot}, va_P D vwCl (ms_w ad cI cJ S) H → va_D A (ms_w ad cI cJ S) → va_S A s.heap H locs → lv_has ls 11 [(0, .ref (ad 0)), (1, .int v1), (2, .int v2)] → K23 S v1 v2 → W p l e rm_X8_size s m args below meth c H locs 0 0 (MQ below (va_Qi Q (xr_B D (ms_ty cI cJ cR) (ms_w ad cI cJ) A) A) args s 0 0 A) (F0 m 23 ls [])) : ∀ (n : Nat) (S : ms_T) (v1 : Int32) (v2 : Int32) (v3 : Int32) (v4 : Int32) {H : Heap} {locs : List Loc} {ls : Array Slot}, va_P D vwCl (ms_w ad cI cJ S) H → va_D A (ms_w ad cI cJ S) → va_S A s.heap H locs → lv_has ls 11 [(0, .ref (ad 0)), (1, .int v1), (2, .int v2), (3, .int v3), (4, .int v4)] → wp_X8_size_36 K23 Q n S v1 v2 v3 v4 → W p l e rm_X8_size s m args below meth c H locs 0 0 (MQ below (va_Qi Q (xr_B D (ms_ty cI cJ cR) (ms_w ad cI cJ) A) A) args s 0 0 A) (F0 m 36 ls []) := by
  intro n
  induction n with
  | zero => intro S v1 v2 v3 v4 H locs ls hP hD hS hl h; exact False.elim h
  | succ n ih => intro S v1 v2 v3 v4 H locs ls hP hD hS hl h; exact kb_X8_size_36 fx hK hA k23 ih hP hD hS hl h
set_option maxHeartbeats 4000000 in
set_option maxRecDepth 100000 in
theorem kb_X8_size_23 {p : Program} {l : Launch} {e : Env} {s : State} {m : MethodId} {args : Array Value} {below : List Frame} {meth : Method} {c : Code} {D : va_G} {ad : Nat → Nat} {cI cJ cR : ClassId} {A : Nat → Prop}  {K23 : ms_T → Int32 → Int32 → Prop} {Q : Int32 → ms_T → Prop} {S : ms_T} {v1 : Int32} {v2 : Int32} (fx : xr_Fx p m c meth cX8_size 11 s args wsX8_size RX8 (some .int)) (hK : xr_K D (ms_ty cI cJ cR) s) (hA : ∀ q, s.heap.size ≤ q → A q)  (k23 : ∀ (S : ms_T) (v1 : Int32) (v2 : Int32) {H : Heap} {locs : List Loc} {ls : Array Slot}, va_P D vwCl (ms_w ad cI cJ S) H → va_D A (ms_w ad cI cJ S) → va_S A s.heap H locs → lv_has ls 11 [(0, .ref (ad 0)), (1, .int v1), (2, .int v2)] → K23 S v1 v2 → W p l e rm_X8_size s m args below meth c H locs 0 0 (MQ below (va_Qi Q (xr_B D (ms_ty cI cJ cR) (ms_w ad cI cJ) A) A) args s 0 0 A) (F0 m 23 ls [])) {H : Heap} {locs : List Loc} {ls : Array Slot} (hP : va_P D vwCl (ms_w ad cI cJ S) H) (hD : va_D A (ms_w ad cI cJ S)) (hS : va_S A s.heap H locs) (hl : lv_has ls 11 [(0, .ref (ad 0)), (1, .int v1), (2, .int v2)]) (h : wb_X8_size_23 K23 Q S v1 v2) : W p l e rm_X8_size s m args below meth c H locs 0 0 (MQ below (va_Qi Q (xr_B D (ms_ty cI cJ cR) (ms_w ad cI cJ) A) A) args s 0 0 A) (F0 m 23 ls []) := by
  obtain ⟨⟨hx, hb, hml, hown, hts⟩, hrt, hlk⟩ := id fx
  have hf : 0 ≤ rm_X8_size.cells ∧ 0 ≤ rm_X8_size.slots := ⟨Nat.zero_le _, Nat.zero_le _⟩
  unfold wb_X8_size_23 at h
  refine lv_iload_n hx hb dX8_size_23 rfl (lv_at hl 2 rfl) ?_
  refine lv_iload_n hx hb dX8_size_24 rfl (lv_at hl 1 rfl) ?_
  refine lv_icmp_gt (tgt := 307) hx hb dX8_size_25 (by decide) (fun c25 => ?_) (fun c25 => ?_)
  · have h := h.1 c25
    refine lv_aload_n hx hb dX8_size_307 rfl (lv_at hl 0 rfl) ?_
    refine lv_iload_n hx hb dX8_size_308 rfl (lv_at hl 1 rfl) ?_
    refine xr_vI (n := 1) (As := [.int v1]) (rest := []) fx (ct_X8_manyOf l D ad cI cJ cR h) gX8_size_X8_manyOf rfl rfl (by decide +kernel) ⟨Nat.le_of_ble_eq_true rfl, Nat.le_of_ble_eq_true rfl⟩ ⟨rfl, rfl⟩ hf (ms_recv hK hP) hK hP hD hS hA hl.1 rfl (Nat.le_of_ble_eq_true rfl) dX8_size_309 (fun r28 S27 H locs h hP hD hS => ?_)
    refine lv_aload_n hx hb dX8_size_312 rfl (lv_at hl 0 rfl) ?_
    refine ms_get 24 (v := .int (S27.1 6)) fx in_X8_size (by decide) rfl (by decide +kernel) rfl hK hP dX8_size_313 ?_
    refine lv_isub hx hb dX8_size_316 ?_
    exact xr_rI fx hK hP hD hS h dX8_size_317
  · have h := h.2 c25
    refine lv_aload_n hx hb dX8_size_28 rfl (lv_at hl 0 rfl) ?_
    refine ms_get 24 (v := .int (S.1 6)) fx in_X8_size (by decide) rfl (by decide +kernel) rfl hK hP dX8_size_29 ?_
    refine lv_topi (fun v3_29 ev3_29 => ?_)
    have h := h v3_29 ev3_29
    refine lv_istore_n (lv' := [(3, .int v3_29), (0, .ref (ad 0)), (1, .int v1), (2, .int v2)]) hx hb dX8_size_32 rfl hl (by decide) rfl (fun ls hl => ?_)
    refine lv_iconst (v := 0) hx hb dX8_size_33 (by decide) ?_
    refine lv_istore (lv' := [(4, .int 0), (3, .int v3_29), (0, .ref (ad 0)), (1, .int v1), (2, .int v2)]) hx hb dX8_size_34 hl (by decide) rfl (fun ls hl => ?_)
    obtain ⟨n, h⟩ := h
    exact kw_X8_size_36 fx hK hA k23 n _ _ _ _ _ hP hD hS (lv_sub hl [2, 3, 4, 1, 0] rfl) h
theorem kw_X8_size_23 {p : Program} {l : Launch} {e : Env} {s : State} {m : MethodId} {args : Array Value} {below : List Frame} {meth : Method} {c : Code} {D : va_G} {ad : Nat → Nat} {cI cJ cR : ClassId} {A : Nat → Prop}  {Q : Int32 → ms_T → Prop} (fx : xr_Fx p m c meth cX8_size 11 s args wsX8_size RX8 (some .int)) (hK : xr_K D (ms_ty cI cJ cR) s) (hA : ∀ q, s.heap.size ≤ q → A q)  : ∀ (n : Nat) (S : ms_T) (v1 : Int32) (v2 : Int32) {H : Heap} {locs : List Loc} {ls : Array Slot}, va_P D vwCl (ms_w ad cI cJ S) H → va_D A (ms_w ad cI cJ S) → va_S A s.heap H locs → lv_has ls 11 [(0, .ref (ad 0)), (1, .int v1), (2, .int v2)] → wp_X8_size_23 Q n S v1 v2 → W p l e rm_X8_size s m args below meth c H locs 0 0 (MQ below (va_Qi Q (xr_B D (ms_ty cI cJ cR) (ms_w ad cI cJ) A) A) args s 0 0 A) (F0 m 23 ls []) := by
  intro n
  induction n with
  | zero => intro S v1 v2 H locs ls hP hD hS hl h; exact False.elim h
  | succ n ih => intro S v1 v2 H locs ls hP hD hS hl h; exact kb_X8_size_23 fx hK hA ih hP hD hS hl h
set_option maxHeartbeats 4000000 in
set_option maxRecDepth 100000 in
theorem ct_X8_size (l : Launch) (D : va_G) (ad : Nat → Nat) (cI cJ cR : ClassId) {S : ms_T} {a1 : Int32} {Q : Int32 → ms_T → Prop} (h : wp_X8_size S a1 Q) : xr_I l D (ms_ty cI cJ cR) (ms_w ad cI cJ) yX8_size wsX8_size rm_X8_size [.ref (ad 0), .int a1] S Q := by
  refine xr_eI (cc := cX8_size) (nL := 11) (ret := (some .int)) (own := RX8) (by decide) rfl rfl (Nat.le_of_ble_eq_true rfl) ?_
  intro p e s m args below meth c ls A fx hK hA hP hD hS hl
  have hl : lv_has ls 11 [(0, .ref (ad 0)), (1, .int a1)] := hl
  show W p l e rm_X8_size s m args below meth c s.heap [] 0 0 _ _
  obtain ⟨⟨hx, hb, hml, hown, hts⟩, hrt, hlk⟩ := id fx
  have hf : 0 ≤ rm_X8_size.cells ∧ 0 ≤ rm_X8_size.slots := ⟨Nat.zero_le _, Nat.zero_le _⟩
  unfold wp_X8_size at h
  refine lv_iload_n hx hb dX8_size_0 rfl (lv_at hl 1 rfl) ?_
  refine lv_i2l hx hb dX8_size_1 rfl ?_
  refine lv_lconst (v := 1) hx hb dX8_size_2 (by decide) ?_
  refine lv_aload_n hx hb dX8_size_3 rfl (lv_at hl 0 rfl) ?_
  refine ms_get 1 (v := .int (S.1 1)) fx in_X8_size (by decide) rfl (by decide +kernel) rfl hK hP dX8_size_4 ?_
  refine lv_i2l hx hb dX8_size_7 rfl ?_
  refine xr_sI (n := 3) (As := [.long a1.toInt64, .long 1, .long ((S.1 1).toInt64)]) (rest := []) fx (ct_X8_in l h) gX8_size_X8_in rfl rfl (by decide +kernel) ⟨Nat.le_of_ble_eq_true rfl, Nat.le_of_ble_eq_true rfl⟩ ⟨rfl, rfl⟩ hf hl.1 rfl (Nat.le_of_ble_eq_true rfl) dX8_size_8 (fun r30 h => ?_)
  refine lv_if_ne (tgt := 16) hx hb dX8_size_11 (by decide) (fun c11 => ?_) (fun c11 => ?_)
  · have h := h.1 c11
    refine lv_aload_n hx hb dX8_size_16 rfl (lv_at hl 0 rfl) ?_
    refine lv_iconst (v := 0) hx hb dX8_size_17 (by decide) ?_
    refine ms_put 24 6 (ty := .int) fx in_X8_size (by decide) ms_f24 (by decide +kernel) rfl rfl (by decide +kernel) rfl rfl hK hP hD hS dX8_size_18 (fun H locs hP hD hS => ?_)
    refine lv_iconst (v := 1) hx hb dX8_size_21 (by decide) ?_
    refine lv_istore_n (lv' := [(2, .int 1), (0, .ref (ad 0)), (1, .int a1)]) hx hb dX8_size_22 rfl hl (by decide) rfl (fun ls hl => ?_)
    obtain ⟨n, h⟩ := h
    exact kw_X8_size_23 fx hK hA n _ _ _ hP hD hS (lv_sub hl [1, 2, 0] rfl) h
  · have h := h.2 c11
    refine lv_iconst (v := (-1)) hx hb dX8_size_14 (by decide) ?_
    exact xr_rI fx hK hP hD hS h dX8_size_15
abbrev rm_X8_feed : Room := { frames := 1, cells := 0, slots := 0, locals := 25 }
theorem in_X8_feed : ∀ w ∈ wsX80, w ∈ wsX8_feed := by decide +kernel
set_option maxHeartbeats 4000000 in
set_option maxRecDepth 100000 in
theorem kb_X8_feed_34 {p : Program} {l : Launch} {e : Env} {s : State} {m : MethodId} {args : Array Value} {below : List Frame} {meth : Method} {c : Code} {D : va_G} {ad : Nat → Nat} {cI cJ cR : ClassId} {A : Nat → Prop}  {K34 : ms_T → Int64 → Int32 → Prop} {Q : Int32 → ms_T → Prop} {S : ms_T} {v1 : Int64} {v4 : Int32} (fx : xr_Fx p m c meth cX8_feed 5 s args wsX8_feed RX8 (some .int)) (hK : xr_K D (ms_ty cI cJ cR) s) (hA : ∀ q, s.heap.size ≤ q → A q)  (k34 : ∀ (S : ms_T) (v1 : Int64) (v4 : Int32) {H : Heap} {locs : List Loc} {ls : Array Slot}, va_P D vwCl (ms_w ad cI cJ S) H → va_D A (ms_w ad cI cJ S) → va_S A s.heap H locs → lv_has ls 5 [(0, .ref (ad 0)), (1, .long v1), (4, .int v4)] → K34 S v1 v4 → W p l e rm_X8_feed s m args below meth c H locs 0 0 (MQ below (va_Qi Q (xr_B D (ms_ty cI cJ cR) (ms_w ad cI cJ) A) A) args s 0 0 A) (F0 m 34 ls [])) {H : Heap} {locs : List Loc} {ls : Array Slot} (hP : va_P D vwCl (ms_w ad cI cJ S) H) (hD : va_D A (ms_w ad cI cJ S)) (hS : va_S A s.heap H locs) (hl : lv_has ls 5 [(0, .ref (ad 0)), (1, .long v1), (4, .int v4)]) (h : wb_X8_feed_34 K34 Q S v1 v4) : W p l e rm_X8_feed s m args below meth c H locs 0 0 (MQ below (va_Qi Q (xr_B D (ms_ty cI cJ cR) (ms_w ad cI cJ) A) A) args s 0 0 A) (F0 m 34 ls []) := by
  obtain ⟨⟨hx, hb, hml, hown, hts⟩, hrt, hlk⟩ := id fx
  have hf : 0 ≤ rm_X8_feed.cells ∧ 0 ≤ rm_X8_feed.slots := ⟨Nat.zero_le _, Nat.zero_le _⟩
  unfold wb_X8_feed_34 at h
  refine lv_iload hx hb dX8_feed_34 (lv_at hl 2 rfl) ?_
  refine lv_if_lt (tgt := 76) hx hb dX8_feed_36 (by decide) (fun c36 => ?_) (fun c36 => ?_)
  · have h := h.1 c36
    refine lv_aload_n hx hb dX8_feed_76 rfl (lv_at hl 0 rfl) ?_
    refine ms_get 27 (v := .int (S.1 7)) fx in_X8_feed (by decide) rfl (by decide +kernel) rfl hK hP dX8_feed_77 ?_
    exact xr_rI fx hK hP hD hS h dX8_feed_80
  · have h := h.2 c36
    refine lv_aload_n hx hb dX8_feed_39 rfl (lv_at hl 0 rfl) ?_
    refine ms_get 26 (v := .ref (ad 12)) fx in_X8_feed (by decide) rfl (by decide +kernel) rfl hK hP dX8_feed_40 ?_
    refine lv_aload_n hx hb dX8_feed_43 rfl (lv_at hl 0 rfl) ?_
    refine ms_get 27 (v := .int (S.1 7)) fx in_X8_feed (by decide) rfl (by decide +kernel) rfl hK hP dX8_feed_44 ?_
    refine lv_lload_n hx hb dX8_feed_47 rfl (lv_at hl 1 rfl) ?_
    refine lv_bipush (v := 8) hx hb dX8_feed_48 (by decide) ?_
    refine lv_iload hx hb dX8_feed_50 (lv_at hl 2 rfl) ?_
    refine lv_imul hx hb dX8_feed_52 ?_
    refine lv_lshr hx hb dX8_feed_53 rfl ?_
    refine lv_ldc2 (v := 255) hx hb hown (hts (.constantLong RX8 253 (255)) (by decide +kernel)) dX8_feed_54 ?_
    refine lv_land hx hb dX8_feed_57 ?_
    refine lv_l2i hx hb dX8_feed_58 rfl ?_
    obtain ⟨hi1, h⟩ := h
    refine ms_iast 11 (by decide) fx hK hP hD hS rfl hi1 dX8_feed_59 (fun H locs hP hD hS => ?_)
    refine lv_aload_n hx hb dX8_feed_60 rfl (lv_at hl 0 rfl) ?_
    refine lv_dup hx hb dX8_feed_61 rfl ?_
    refine ms_get 27 (v := .int ((ms_sI S 11 (S.1 7).toNatClampNeg (((v1 >>> ((8 * v4).toInt64 &&& 63)) &&& 255).toInt32)).1 7)) fx in_X8_feed (by decide) rfl (by decide +kernel) rfl hK hP dX8_feed_62 ?_
    refine lv_iconst (v := 1) hx hb dX8_feed_65 (by decide) ?_
    refine lv_iadd hx hb dX8_feed_66 ?_
    refine ms_put 27 7 (ty := .int) fx in_X8_feed (by decide) ms_f27 (by decide +kernel) rfl rfl (by decide +kernel) rfl rfl hK hP hD hS dX8_feed_67 (fun H locs hP hD hS => ?_)
    obtain ⟨v4_2, ev4_2⟩ : ∃ z : Int32, z = v4 + (-1) := ⟨_, rfl⟩
    have h := h v4_2 ev4_2
    refine lv_iinc (v := v4_2) (lv' := [(4, .int v4_2), (0, .ref (ad 0)), (1, .long v1)]) hx hb dX8_feed_70 hl (k := 2) rfl (by rw [ev4_2]; rfl) (by decide) rfl (fun ls hl => ?_)
    refine lv_goto (tgt := 34) hx hb dX8_feed_73 (by decide) ?_
    exact k34 _ _ _ hP hD hS (lv_sub hl [1, 2, 0] rfl) h
theorem kw_X8_feed_34 {p : Program} {l : Launch} {e : Env} {s : State} {m : MethodId} {args : Array Value} {below : List Frame} {meth : Method} {c : Code} {D : va_G} {ad : Nat → Nat} {cI cJ cR : ClassId} {A : Nat → Prop}  {Q : Int32 → ms_T → Prop} (fx : xr_Fx p m c meth cX8_feed 5 s args wsX8_feed RX8 (some .int)) (hK : xr_K D (ms_ty cI cJ cR) s) (hA : ∀ q, s.heap.size ≤ q → A q)  : ∀ (n : Nat) (S : ms_T) (v1 : Int64) (v4 : Int32) {H : Heap} {locs : List Loc} {ls : Array Slot}, va_P D vwCl (ms_w ad cI cJ S) H → va_D A (ms_w ad cI cJ S) → va_S A s.heap H locs → lv_has ls 5 [(0, .ref (ad 0)), (1, .long v1), (4, .int v4)] → wp_X8_feed_34 Q n S v1 v4 → W p l e rm_X8_feed s m args below meth c H locs 0 0 (MQ below (va_Qi Q (xr_B D (ms_ty cI cJ cR) (ms_w ad cI cJ) A) A) args s 0 0 A) (F0 m 34 ls []) := by
  intro n
  induction n with
  | zero => intro S v1 v4 H locs ls hP hD hS hl h; exact False.elim h
  | succ n ih => intro S v1 v4 H locs ls hP hD hS hl h; exact kb_X8_feed_34 fx hK hA ih hP hD hS hl h
set_option maxHeartbeats 4000000 in
set_option maxRecDepth 100000 in
theorem ct_X8_feed (l : Launch) (D : va_G) (ad : Nat → Nat) (cI cJ cR : ClassId) {S : ms_T} {a1 : Int64} {a3 : Int32} {Q : Int32 → ms_T → Prop} (h : wp_X8_feed S a1 a3 Q) : xr_I l D (ms_ty cI cJ cR) (ms_w ad cI cJ) yX8_feed wsX8_feed rm_X8_feed [.ref (ad 0), .long a1, .int a3] S Q := by
  refine xr_eI (cc := cX8_feed) (nL := 5) (ret := (some .int)) (own := RX8) (by decide) rfl rfl (Nat.le_of_ble_eq_true rfl) ?_
  intro p e s m args below meth c ls A fx hK hA hP hD hS hl
  have hl : lv_has ls 5 [(0, .ref (ad 0)), (1, .long a1), (3, .int a3)] := hl
  show W p l e rm_X8_feed s m args below meth c s.heap [] 0 0 _ _
  obtain ⟨⟨hx, hb, hml, hown, hts⟩, hrt, hlk⟩ := id fx
  have hf : 0 ≤ rm_X8_feed.cells ∧ 0 ≤ rm_X8_feed.slots := ⟨Nat.zero_le _, Nat.zero_le _⟩
  unfold wp_X8_feed at h
  refine lv_iload_n hx hb dX8_feed_0 rfl (lv_at hl 2 rfl) ?_
  refine lv_i2l hx hb dX8_feed_1 rfl ?_
  refine lv_lconst (v := 1) hx hb dX8_feed_2 (by decide) ?_
  refine lv_ldc2 (v := 8) hx hb hown (hts (.constantLong RX8 248 (8)) (by decide +kernel)) dX8_feed_3 ?_
  refine xr_sI (n := 3) (As := [.long a3.toInt64, .long 1, .long 8]) (rest := []) fx (ct_X8_in l h) gX8_feed_X8_in rfl rfl (by decide +kernel) ⟨Nat.le_of_ble_eq_true rfl, Nat.le_of_ble_eq_true rfl⟩ ⟨rfl, rfl⟩ hf hl.1 rfl (Nat.le_of_ble_eq_true rfl) dX8_feed_6 (fun r3 h => ?_)
  refine lv_if_ne (tgt := 15) hx hb dX8_feed_9 (by decide) (fun c9 => ?_) (fun c9 => ?_)
  · have h := h.1 c9
    refine lv_aload_n hx hb dX8_feed_15 rfl (lv_at hl 0 rfl) ?_
    refine ms_get 27 (v := .int (S.1 7)) fx in_X8_feed (by decide) rfl (by decide +kernel) rfl hK hP dX8_feed_16 ?_
    refine lv_iload_n hx hb dX8_feed_19 rfl (lv_at hl 2 rfl) ?_
    refine lv_iadd hx hb dX8_feed_20 ?_
    refine lv_bipush (v := 100) hx hb dX8_feed_21 (by decide) ?_
    refine lv_icmp_le (tgt := 29) hx hb dX8_feed_23 (by decide) (fun c23 => ?_) (fun c23 => ?_)
    · have h := h.1 c23
      refine lv_iload_n hx hb dX8_feed_29 rfl (lv_at hl 2 rfl) ?_
      refine lv_iconst (v := 1) hx hb dX8_feed_30 (by decide) ?_
      refine lv_isub hx hb dX8_feed_31 ?_
      refine lv_topi (fun v4_4 ev4_4 => ?_)
      have h := h v4_4 ev4_4
      refine lv_istore (lv' := [(4, .int v4_4), (0, .ref (ad 0)), (1, .long a1), (3, .int a3)]) hx hb dX8_feed_32 hl (by decide) rfl (fun ls hl => ?_)
      obtain ⟨n, h⟩ := h
      exact kw_X8_feed_34 fx hK hA n _ _ _ hP hD hS (lv_sub hl [1, 2, 0] rfl) h
    · have h := h.2 c23
      refine lv_bipush (v := (-4)) hx hb dX8_feed_26 (by decide) ?_
      exact xr_rI fx hK hP hD hS h dX8_feed_28
  · have h := h.2 c9
    refine lv_bipush (v := (-2)) hx hb dX8_feed_12 (by decide) ?_
    exact xr_rI fx hK hP hD hS h dX8_feed_14
abbrev rm_X8_byteAt : Room := { frames := 0, cells := 0, slots := 0, locals := 0 }
theorem in_X8_byteAt : ∀ w ∈ wsX80, w ∈ wsX8_byteAt := by decide +kernel
set_option maxHeartbeats 4000000 in
set_option maxRecDepth 100000 in
theorem ct_X8_byteAt (l : Launch) (D : va_G) (ad : Nat → Nat) (cI cJ cR : ClassId) {S : ms_T} {a1 : Int32} {Q : Int32 → ms_T → Prop} (h : wp_X8_byteAt S a1 Q) : xr_I l D (ms_ty cI cJ cR) (ms_w ad cI cJ) yX8_byteAt wsX8_byteAt rm_X8_byteAt [.ref (ad 0), .int a1] S Q := by
  refine xr_eI (cc := cX8_byteAt) (nL := 2) (ret := (some .int)) (own := RX8) (by decide) rfl rfl (Nat.le_of_ble_eq_true rfl) ?_
  intro p e s m args below meth c ls A fx hK hA hP hD hS hl
  have hl : lv_has ls 2 [(0, .ref (ad 0)), (1, .int a1)] := hl
  show W p l e rm_X8_byteAt s m args below meth c s.heap [] 0 0 _ _
  obtain ⟨⟨hx, hb, hml, hown, hts⟩, hrt, hlk⟩ := id fx
  have hf : 0 ≤ rm_X8_byteAt.cells ∧ 0 ≤ rm_X8_byteAt.slots := ⟨Nat.zero_le _, Nat.zero_le _⟩
  unfold wp_X8_byteAt at h
  refine lv_iload_n hx hb dX8_byteAt_0 rfl (lv_at hl 1 rfl) ?_
  refine lv_aload_n hx hb dX8_byteAt_1 rfl (lv_at hl 0 rfl) ?_
  refine ms_get 27 (v := .int (S.1 7)) fx in_X8_byteAt (by decide) rfl (by decide +kernel) rfl hK hP dX8_byteAt_2 ?_
  refine lv_icmp_ge (tgt := 17) hx hb dX8_byteAt_5 (by decide) (fun c5 => ?_) (fun c5 => ?_)
  · have h := h.1 c5
    refine lv_iconst (v := (-1)) hx hb dX8_byteAt_17 (by decide) ?_
    exact xr_rI fx hK hP hD hS h dX8_byteAt_18
  · have h := h.2 c5
    refine lv_aload_n hx hb dX8_byteAt_8 rfl (lv_at hl 0 rfl) ?_
    refine ms_get 26 (v := .ref (ad 12)) fx in_X8_byteAt (by decide) rfl (by decide +kernel) rfl hK hP dX8_byteAt_9 ?_
    refine lv_iload_n hx hb dX8_byteAt_12 rfl (lv_at hl 1 rfl) ?_
    obtain ⟨hi1, h⟩ := h
    refine ms_iald 11 (by decide) fx hK hP rfl hi1 dX8_byteAt_13 ?_
    refine lv_goto (tgt := 18) hx hb dX8_byteAt_14 (by decide) ?_
    exact xr_rI fx hK hP hD hS h dX8_byteAt_18
abbrev rm_X8_isDigit : Room := { frames := 1, cells := 0, slots := 0, locals := 25 }
set_option maxHeartbeats 4000000 in
set_option maxRecDepth 100000 in
theorem ct_X8_isDigit (l : Launch) {a0 : Int32} {Q : Int32 → Prop} (h : wp_X8_isDigit a0 Q) : xr_SI l yX8_isDigit wsX8_isDigit rm_X8_isDigit [.int a0] Q := by
  refine xr_eSI (cc := cX8_isDigit) (nL := 1) (ret := (some .boolean)) (own := RX8) (by decide) rfl rfl (Nat.le_of_ble_eq_true rfl) ?_
  intro p e s m args below meth c ls fx hl
  have hl : lv_has ls 1 [(0, .int a0)] := hl
  show W p l e rm_X8_isDigit s m args below meth c s.heap [] 0 0 _ _
  obtain ⟨⟨hx, hb, hml, hown, hts⟩, hrt, hlk⟩ := id fx
  have hf : 0 ≤ rm_X8_isDigit.cells ∧ 0 ≤ rm_X8_isDigit.slots := ⟨Nat.zero_le _, Nat.zero_le _⟩
  unfold wp_X8_isDigit at h
  refine lv_iload_n hx hb dX8_isDigit_0 rfl (lv_at hl 0 rfl) ?_
  refine lv_i2l hx hb dX8_isDigit_1 rfl ?_
  refine lv_ldc2 (v := 48) hx hb hown (hts (.constantLong RX8 255 (48)) (by decide +kernel)) dX8_isDigit_2 ?_
  refine lv_ldc2 (v := 57) hx hb hown (hts (.constantLong RX8 257 (57)) (by decide +kernel)) dX8_isDigit_5 ?_
  refine xr_sI (n := 3) (As := [.long a0.toInt64, .long 48, .long 57]) (rest := []) fx (ct_X8_in l h) gX8_isDigit_X8_in rfl rfl (by decide +kernel) ⟨Nat.le_of_ble_eq_true rfl, Nat.le_of_ble_eq_true rfl⟩ ⟨rfl, rfl⟩ hf hl.1 rfl (Nat.le_of_ble_eq_true rfl) dX8_isDigit_8 (fun r1 h => ?_)
  exact xr_rSZ fx (xr_nar h.1) h.2 dX8_isDigit_11
abbrev rm_X8_begins : Room := { frames := 2, cells := 0, slots := 0, locals := 45 }
theorem in_X8_begins : ∀ w ∈ wsX80, w ∈ wsX8_begins := by decide +kernel
set_option maxHeartbeats 4000000 in
set_option maxRecDepth 100000 in
theorem ct_X8_begins (l : Launch) (D : va_G) (ad : Nat → Nat) (cI cJ cR : ClassId) {S : ms_T} {a1 : Int32} {Q : Int32 → ms_T → Prop} (h : wp_X8_begins S a1 Q) : xr_I l D (ms_ty cI cJ cR) (ms_w ad cI cJ) yX8_begins wsX8_begins rm_X8_begins [.ref (ad 0), .int a1] S Q := by
  refine xr_eI (cc := cX8_begins) (nL := 2) (ret := (some .boolean)) (own := RX8) (by decide) rfl rfl (Nat.le_of_ble_eq_true rfl) ?_
  intro p e s m args below meth c ls A fx hK hA hP hD hS hl
  have hl : lv_has ls 2 [(0, .ref (ad 0)), (1, .int a1)] := hl
  show W p l e rm_X8_begins s m args below meth c s.heap [] 0 0 _ _
  obtain ⟨⟨hx, hb, hml, hown, hts⟩, hrt, hlk⟩ := id fx
  have hf : 0 ≤ rm_X8_begins.cells ∧ 0 ≤ rm_X8_begins.slots := ⟨Nat.zero_le _, Nat.zero_le _⟩
  unfold wp_X8_begins at h
  refine lv_iload_n hx hb dX8_begins_0 rfl (lv_at hl 1 rfl) ?_
  refine xr_sI (n := 1) (As := [.int a1]) (rest := []) fx (ct_X8_isDigit l h) gX8_begins_X8_isDigit rfl rfl (by decide +kernel) ⟨Nat.le_of_ble_eq_true rfl, Nat.le_of_ble_eq_true rfl⟩ ⟨rfl, rfl⟩ hf hl.1 rfl (Nat.le_of_ble_eq_true rfl) dX8_begins_1 (fun r1 h => ?_)
  refine lv_if_ne (tgt := 58) hx hb dX8_begins_4 (by decide) (fun c4 => ?_) (fun c4 => ?_)
  · have h := h.1 c4
    refine lv_iconst (v := 1) hx hb dX8_begins_58 (by decide) ?_
    refine lv_goto (tgt := 63) hx hb dX8_begins_59 (by decide) ?_
    exact xr_rZ fx rfl hK hP hD hS h dX8_begins_63
  · have h := h.2 c4
    refine lv_iload_n hx hb dX8_begins_7 rfl (lv_at hl 1 rfl) ?_
    refine lv_i2l hx hb dX8_begins_8 rfl ?_
    refine lv_ldc2 (v := 97) hx hb hown (hts (.constantLong RX8 262 (97)) (by decide +kernel)) dX8_begins_9 ?_
    refine lv_bipush (v := 97) hx hb dX8_begins_12 (by decide) ?_
    refine lv_aload_n hx hb dX8_begins_14 rfl (lv_at hl 0 rfl) ?_
    refine ms_get 0 (v := .int (S.1 0)) fx in_X8_begins (by decide) rfl (by decide +kernel) rfl hK hP dX8_begins_15 ?_
    refine lv_iadd hx hb dX8_begins_18 ?_
    refine lv_iconst (v := 1) hx hb dX8_begins_19 (by decide) ?_
    refine lv_isub hx hb dX8_begins_20 ?_
    refine lv_i2l hx hb dX8_begins_21 rfl ?_
    refine xr_sI (n := 3) (As := [.long a1.toInt64, .long 97, .long (((97 + (S.1 0)) - 1).toInt64)]) (rest := []) fx (ct_X8_in l h) gX8_begins_X8_in rfl rfl (by decide +kernel) ⟨Nat.le_of_ble_eq_true rfl, Nat.le_of_ble_eq_true rfl⟩ ⟨rfl, rfl⟩ hf hl.1 rfl (Nat.le_of_ble_eq_true rfl) dX8_begins_22 (fun r2 h => ?_)
    refine lv_if_ne (tgt := 58) hx hb dX8_begins_25 (by decide) (fun c25 => ?_) (fun c25 => ?_)
    · have h := h.1 c25
      refine lv_iconst (v := 1) hx hb dX8_begins_58 (by decide) ?_
      refine lv_goto (tgt := 63) hx hb dX8_begins_59 (by decide) ?_
      exact xr_rZ fx rfl hK hP hD hS h dX8_begins_63
    · have h := h.2 c25
      refine lv_iload_n hx hb dX8_begins_28 rfl (lv_at hl 1 rfl) ?_
      refine lv_bipush (v := 114) hx hb dX8_begins_29 (by decide) ?_
      refine lv_icmp_eq (tgt := 58) hx hb dX8_begins_31 (by decide) (fun c31 => ?_) (fun c31 => ?_)
      · have h := h.1 c31
        refine lv_iconst (v := 1) hx hb dX8_begins_58 (by decide) ?_
        refine lv_goto (tgt := 63) hx hb dX8_begins_59 (by decide) ?_
        exact xr_rZ fx rfl hK hP hD hS h dX8_begins_63
      · have h := h.2 c31
        refine lv_iload_n hx hb dX8_begins_34 rfl (lv_at hl 1 rfl) ?_
        refine lv_bipush (v := 91) hx hb dX8_begins_35 (by decide) ?_
        refine lv_icmp_eq (tgt := 58) hx hb dX8_begins_37 (by decide) (fun c37 => ?_) (fun c37 => ?_)
        · have h := h.1 c37
          refine lv_iconst (v := 1) hx hb dX8_begins_58 (by decide) ?_
          refine lv_goto (tgt := 63) hx hb dX8_begins_59 (by decide) ?_
          exact xr_rZ fx rfl hK hP hD hS h dX8_begins_63
        · have h := h.2 c37
          refine lv_iload_n hx hb dX8_begins_40 rfl (lv_at hl 1 rfl) ?_
          refine lv_bipush (v := 40) hx hb dX8_begins_41 (by decide) ?_
          refine lv_icmp_eq (tgt := 58) hx hb dX8_begins_43 (by decide) (fun c43 => ?_) (fun c43 => ?_)
          · have h := h.1 c43
            refine lv_iconst (v := 1) hx hb dX8_begins_58 (by decide) ?_
            refine lv_goto (tgt := 63) hx hb dX8_begins_59 (by decide) ?_
            exact xr_rZ fx rfl hK hP hD hS h dX8_begins_63
          · have h := h.2 c43
            refine lv_iload_n hx hb dX8_begins_46 rfl (lv_at hl 1 rfl) ?_
            refine lv_bipush (v := 69) hx hb dX8_begins_47 (by decide) ?_
            refine lv_icmp_eq (tgt := 58) hx hb dX8_begins_49 (by decide) (fun c49 => ?_) (fun c49 => ?_)
            · have h := h.1 c49
              refine lv_iconst (v := 1) hx hb dX8_begins_58 (by decide) ?_
              refine lv_goto (tgt := 63) hx hb dX8_begins_59 (by decide) ?_
              exact xr_rZ fx rfl hK hP hD hS h dX8_begins_63
            · have h := h.2 c49
              refine lv_iload_n hx hb dX8_begins_52 rfl (lv_at hl 1 rfl) ?_
              refine lv_bipush (v := 76) hx hb dX8_begins_53 (by decide) ?_
              refine lv_icmp_ne (tgt := 62) hx hb dX8_begins_55 (by decide) (fun c55 => ?_) (fun c55 => ?_)
              · have h := h.1 c55
                refine lv_iconst (v := 0) hx hb dX8_begins_62 (by decide) ?_
                exact xr_rZ fx rfl hK hP hD hS h dX8_begins_63
              · have h := h.2 c55
                refine lv_iconst (v := 1) hx hb dX8_begins_58 (by decide) ?_
                refine lv_goto (tgt := 63) hx hb dX8_begins_59 (by decide) ?_
                exact xr_rZ fx rfl hK hP hD hS h dX8_begins_63
