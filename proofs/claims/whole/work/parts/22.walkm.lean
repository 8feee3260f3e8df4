abbrev rm_X8_part : Room := { frames := 2, cells := 0, slots := 0, locals := 45 }
theorem in_X8_part : ∀ w ∈ wsX80, w ∈ wsX8_part := by decide +kernel
set_option maxHeartbeats 4000000 in
set_option maxRecDepth 100000 in
theorem kw_X8_part_82 {p : Program} {l : Launch} {e : Env} {s : State} {m : MethodId} {args : Array Value} {below : List Frame} {meth : Method} {c : Code} {D : va_G} {ad : Nat → Nat} {cI cJ cR : ClassId} {A : Nat → Prop} {K33 : ms_T → Int32 → Int32 → Int32 → Int32 → Prop} {Q : Int32 → ms_T → Prop} {S : ms_T} {v1 : Int32} {v2 : Int32} {v3 : Int32} {v4 : Int32} {s0 : Int32} {s1 : Int64} (fx : xr_Fx p m c meth cX8_part 5 s args wsX8_part RX8 (some .int)) (hK : xr_K D (ms_ty cI cJ cR) s) (hA : ∀ q, s.heap.size ≤ q → A q) (k33 : ∀ (S : ms_T) (v1 : Int32) (v2 : Int32) (v3 : Int32) (v4 : Int32) {H : Heap} {locs : List Loc} {ls : Array Slot}, va_P D vwCl (ms_w ad cI cJ S) H → va_D A (ms_w ad cI cJ S) → va_S A s.heap H locs → lv_has ls 5 [(0, .ref (ad 0)), (1, .int v1), (2, .int v2), (3, .int v3), (4, .int v4)] → K33 S v1 v2 v3 v4 → W p l e rm_X8_part s m args below meth c H locs 0 0 (MQ below (va_Qi Q (xr_B D (ms_ty cI cJ cR) (ms_w ad cI cJ) A) A) args s 0 0 A) (F0 m 33 ls [])) {H : Heap} {locs : List Loc} {ls : Array Slot} (hP : va_P D vwCl (ms_w ad cI cJ S) H) (hD : va_D A (ms_w ad cI cJ S)) (hS : va_S A s.heap H locs) (hl : lv_has ls 5 [(0, .ref (ad 0)), (1, .int v1), (2, .int v2), (3, .int v3), (4, .int v4)]) (h : wp_X8_part_82 K33 Q S v1 v2 v3 v4 s0 s1) : W p l e rm_X8_part s m args below meth c H locs 0 0 (MQ below (va_Qi Q (xr_B D (ms_ty cI cJ cR) (ms_w ad cI cJ) A) A) args s 0 0 A) (F0 m 82 ls [.long s1, .int s0, .ref (ad 15)]) := by
  obtain ⟨⟨hx, hb, hml, hown, hts⟩, hrt, hlk⟩ := id fx
  have hf : 0 ≤ rm_X8_part.cells ∧ 0 ≤ rm_X8_part.slots := ⟨Nat.zero_le _, Nat.zero_le _⟩
  unfold wp_X8_part_82 at h
  obtain ⟨hi1, h⟩ := h
  refine ms_last 0 (by decide) fx hK hP hD hS rfl hi1 dX8_part_82 (fun H locs hP hD hS => ?_)
  obtain ⟨v4_2, ev4_2⟩ : ∃ z : Int32, z = v4 + 1 := ⟨_, rfl⟩
  have h := h v4_2 ev4_2
  refine lv_iinc (v := v4_2) (lv' := [(4, .int v4_2), (0, .ref (ad 0)), (1, .int v1), (2, .int v2), (3, .int v3)]) hx hb dX8_part_83 hl (k := 4) rfl (by rw [ev4_2]; rfl) (by decide) rfl (fun ls hl => ?_)
  refine lv_goto (tgt := 33) hx hb dX8_part_86 (by decide) ?_
  exact k33 _ _ _ _ _ hP hD hS (lv_sub hl [1, 2, 3, 4, 0] rfl) h
set_option maxHeartbeats 4000000 in
set_option maxRecDepth 100000 in
theorem kb_X8_part_33 {p : Program} {l : Launch} {e : Env} {s : State} {m : MethodId} {args : Array Value} {below : List Frame} {meth : Method} {c : Code} {D : va_G} {ad : Nat → Nat} {cI cJ cR : ClassId} {A : Nat → Prop}  {K33 : ms_T → Int32 → Int32 → Int32 → Int32 → Prop} {Q : Int32 → ms_T → Prop} {S : ms_T} {v1 : Int32} {v2 : Int32} {v3 : Int32} {v4 : Int32} (fx : xr_Fx p m c meth cX8_part 5 s args wsX8_part RX8 (some .int)) (hK : xr_K D (ms_ty cI cJ cR) s) (hA : ∀ q, s.heap.size ≤ q → A q)  (k33 : ∀ (S : ms_T) (v1 : Int32) (v2 : Int32) (v3 : Int32) (v4 : Int32) {H : Heap} {locs : List Loc} {ls : Array Slot}, va_P D vwCl (ms_w ad cI cJ S) H → va_D A (ms_w ad cI cJ S) → va_S A s.heap H locs → lv_has ls 5 [(0, .ref (ad 0)), (1, .int v1), (2, .int v2), (3, .int v3), (4, .int v4)] → K33 S v1 v2 v3 v4 → W p l e rm_X8_part s m args below meth c H locs 0 0 (MQ below (va_Qi Q (xr_B D (ms_ty cI cJ cR) (ms_w ad cI cJ) A) A) args s 0 0 A) (F0 m 33 ls [])) {H : Heap} {locs : List Loc} {ls : Array Slot} (hP : va_P D vwCl (ms_w ad cI cJ S) H) (hD : va_D A (ms_w ad cI cJ S)) (hS : va_S A s.heap H locs) (hl : lv_has ls 5 [(0, .ref (ad 0)), (1, .int v1), (2, .int v2), (3, .int v3), (4, .int v4)]) (h : wb_X8_part_33 K33 Q S v1 v2 v3 v4) : W p l e rm_X8_part s m args below meth c H locs 0 0 (MQ below (va_Qi Q (xr_B D (ms_ty cI cJ cR) (ms_w ad cI cJ) A) A) args s 0 0 A) (F0 m 33 ls []) := by
  obtain ⟨⟨hx, hb, hml, hown, hts⟩, hrt, hlk⟩ := id fx
  have hf : 0 ≤ rm_X8_part.cells ∧ 0 ≤ rm_X8_part.slots := ⟨Nat.zero_le _, Nat.zero_le _⟩
  unfold wb_X8_part_33 at h
  refine lv_iload hx hb dX8_part_33 (lv_at hl 4 rfl) ?_
  refine lv_aload_n hx hb dX8_part_35 rfl (lv_at hl 0 rfl) ?_
  refine ms_get 2 (v := .int (S.1 2)) fx in_X8_part (by decide) rfl (by decide +kernel) rfl hK hP dX8_part_36 ?_
  refine lv_icmp_ge (tgt := 89) hx hb dX8_part_39 (by decide) (fun c39 => ?_) (fun c39 => ?_)
  · have h := h.1 c39
    refine lv_iconst (v := 0) hx hb dX8_part_89 (by decide) ?_
    exact xr_rI fx hK hP hD hS h dX8_part_90
  · have h := h.2 c39
    refine lv_aload_n hx hb dX8_part_42 rfl (lv_at hl 0 rfl) ?_
    refine ms_get 6 (v := .ref (ad 15)) fx in_X8_part (by decide) rfl (by decide +kernel) rfl hK hP dX8_part_43 ?_
    refine lv_sipush (v := 364) hx hb dX8_part_46 (by decide) ?_
    refine lv_iload_n hx hb dX8_part_49 rfl (lv_at hl 1 rfl) ?_
    refine lv_imul hx hb dX8_part_50 ?_
    refine lv_iload hx hb dX8_part_51 (lv_at hl 4 rfl) ?_
    refine lv_iadd hx hb dX8_part_53 ?_
    refine lv_aload_n hx hb dX8_part_54 rfl (lv_at hl 0 rfl) ?_
    refine ms_get 5 (v := .ref (ad 3)) fx in_X8_part (by decide) rfl (by decide +kernel) rfl hK hP dX8_part_55 ?_
    refine lv_iload hx hb dX8_part_58 (lv_at hl 4 rfl) ?_
    obtain ⟨hi3, h⟩ := h
    refine ms_iald 2 (by decide) fx hK hP rfl hi3 dX8_part_60 ?_
    refine lv_iload_n hx hb dX8_part_61 rfl (lv_at hl 3 rfl) ?_
    refine lv_icmp_ne (tgt := 81) hx hb dX8_part_62 (by decide) (fun c62 => ?_) (fun c62 => ?_)
    · have h := h.1 c62
      refine lv_lconst (v := 0) hx hb dX8_part_81 (by decide) ?_
      exact kw_X8_part_82 fx hK hA k33 hP hD hS (lv_sub hl [0, 1, 2, 3, 4] rfl) h
    · have h := h.2 c62
      refine lv_aload_n hx hb dX8_part_65 rfl (lv_at hl 0 rfl) ?_
      refine ms_get 6 (v := .ref (ad 15)) fx in_X8_part (by decide) rfl (by decide +kernel) rfl hK hP dX8_part_66 ?_
      refine lv_sipush (v := 364) hx hb dX8_part_69 (by decide) ?_
      refine lv_iload_n hx hb dX8_part_72 rfl (lv_at hl 2 rfl) ?_
      refine lv_imul hx hb dX8_part_73 ?_
      refine lv_iload hx hb dX8_part_74 (lv_at hl 4 rfl) ?_
      refine lv_iadd hx hb dX8_part_76 ?_
      obtain ⟨hi4, h⟩ := h
      refine ms_lald 0 (by decide) fx hK hP rfl hi4 dX8_part_77 ?_
      refine lv_goto (tgt := 82) hx hb dX8_part_78 (by decide) ?_
      exact kw_X8_part_82 fx hK hA k33 hP hD hS (lv_sub hl [0, 1, 2, 3, 4] rfl) h
theorem kw_X8_part_33 {p : Program} {l : Launch} {e : Env} {s : State} {m : MethodId} {args : Array Value} {below : List Frame} {meth : Method} {c : Code} {D : va_G} {ad : Nat → Nat} {cI cJ cR : ClassId} {A : Nat → Prop}  {Q : Int32 → ms_T → Prop} (fx : xr_Fx p m c meth cX8_part 5 s args wsX8_part RX8 (some .int)) (hK : xr_K D (ms_ty cI cJ cR) s) (hA : ∀ q, s.heap.size ≤ q → A q)  : ∀ (n : Nat) (S : ms_T) (v1 : Int32) (v2 : Int32) (v3 : Int32) (v4 : Int32) {H : Heap} {locs : List Loc} {ls : Array Slot}, va_P D vwCl (ms_w ad cI cJ S) H → va_D A (ms_w ad cI cJ S) → va_S A s.heap H locs → lv_has ls 5 [(0, .ref (ad 0)), (1, .int v1), (2, .int v2), (3, .int v3), (4, .int v4)] → wp_X8_part_33 Q n S v1 v2 v3 v4 → W p l e rm_X8_part s m args below meth c H locs 0 0 (MQ below (va_Qi Q (xr_B D (ms_ty cI cJ cR) (ms_w ad cI cJ) A) A) args s 0 0 A) (F0 m 33 ls []) := by
  intro n
  induction n with
  | zero => intro S v1 v2 v3 v4 H locs ls hP hD hS hl h; exact False.elim h
  | succ n ih => intro S v1 v2 v3 v4 H locs ls hP hD hS hl h; exact kb_X8_part_33 fx hK hA ih hP hD hS hl h
set_option maxHeartbeats 4000000 in
set_option maxRecDepth 100000 in
theorem ct_X8_part (l : Launch) (D : va_G) (ad : Nat → Nat) (cI cJ cR : ClassId) {S : ms_T} {a1 : Int32} {a2 : Int32} {a3 : Int32} {Q : Int32 → ms_T → Prop} (h : wp_X8_part S a1 a2 a3 Q) : xr_I l D (ms_ty cI cJ cR) (ms_w ad cI cJ) yX8_part wsX8_part rm_X8_part [.ref (ad 0), .int a1, .int a2, .int a3] S Q := by
  refine xr_eI (cc := cX8_part) (nL := 5) (ret := (some .int)) (own := RX8) (by decide) rfl rfl (Nat.le_of_ble_eq_true rfl) ?_
  intro p e s m args below meth c ls A fx hK hA hP hD hS hl
  have hl : lv_has ls 5 [(0, .ref (ad 0)), (1, .int a1), (2, .int a2), (3, .int a3)] := hl
  show W p l e rm_X8_part s m args below meth c s.heap [] 0 0 _ _
  obtain ⟨⟨hx, hb, hml, hown, hts⟩, hrt, hlk⟩ := id fx
  have hf : 0 ≤ rm_X8_part.cells ∧ 0 ≤ rm_X8_part.slots := ⟨Nat.zero_le _, Nat.zero_le _⟩
  unfold wp_X8_part at h
  refine lv_iload_n hx hb dX8_part_0 rfl (lv_at hl 1 rfl) ?_
  refine xr_sI (n := 1) (As := [.int a1]) (rest := []) fx (ct_X8_isSum l h) gX8_part_X8_isSum rfl rfl (by decide +kernel) ⟨Nat.le_of_ble_eq_true rfl, Nat.le_of_ble_eq_true rfl⟩ ⟨rfl, rfl⟩ hf hl.1 rfl (Nat.le_of_ble_eq_true rfl) dX8_part_1 (fun r5 h => ?_)
  refine lv_if_eq (tgt := 28) hx hb dX8_part_4 (by decide) (fun c4 => ?_) (fun c4 => ?_)
  · have h := h.1 c4
    refine lv_iconst (v := (-1)) hx hb dX8_part_28 (by decide) ?_
    exact xr_rI fx hK hP hD hS h dX8_part_29
  · have h := h.2 c4
    refine lv_iload_n hx hb dX8_part_7 rfl (lv_at hl 2 rfl) ?_
    refine xr_sI (n := 1) (As := [.int a2]) (rest := []) fx (ct_X8_isSum l h) gX8_part_X8_isSum rfl rfl (by decide +kernel) ⟨Nat.le_of_ble_eq_true rfl, Nat.le_of_ble_eq_true rfl⟩ ⟨rfl, rfl⟩ hf hl.1 rfl (Nat.le_of_ble_eq_true rfl) dX8_part_8 (fun r6 h => ?_)
    refine lv_if_eq (tgt := 28) hx hb dX8_part_11 (by decide) (fun c11 => ?_) (fun c11 => ?_)
    · have h := h.1 c11
      refine lv_iconst (v := (-1)) hx hb dX8_part_28 (by decide) ?_
      exact xr_rI fx hK hP hD hS h dX8_part_29
    · have h := h.2 c11
      refine lv_iload_n hx hb dX8_part_14 rfl (lv_at hl 3 rfl) ?_
      refine lv_i2l hx hb dX8_part_15 rfl ?_
      refine lv_lconst (v := 0) hx hb dX8_part_16 (by decide) ?_
      refine lv_aload_n hx hb dX8_part_17 rfl (lv_at hl 0 rfl) ?_
      refine ms_get 1 (v := .int (S.1 1)) fx in_X8_part (by decide) rfl (by decide +kernel) rfl hK hP dX8_part_18 ?_
      refine lv_i2l hx hb dX8_part_21 rfl ?_
      refine xr_sI (n := 3) (As := [.long a3.toInt64, .long 0, .long ((S.1 1).toInt64)]) (rest := []) fx (ct_X8_in l h) gX8_part_X8_in rfl rfl (by decide +kernel) ⟨Nat.le_of_ble_eq_true rfl, Nat.le_of_ble_eq_true rfl⟩ ⟨rfl, rfl⟩ hf hl.1 rfl (Nat.le_of_ble_eq_true rfl) dX8_part_22 (fun r7 h => ?_)
      refine lv_if_ne (tgt := 30) hx hb dX8_part_25 (by decide) (fun c25 => ?_) (fun c25 => ?_)
      · have h := h.1 c25
        refine lv_iconst (v := 0) hx hb dX8_part_30 (by decide) ?_
        refine lv_istore (lv' := [(4, .int 0), (0, .ref (ad 0)), (1, .int a1), (2, .int a2), (3, .int a3)]) hx hb dX8_part_31 hl (by decide) rfl (fun ls hl => ?_)
        obtain ⟨n, h⟩ := h
        exact kw_X8_part_33 fx hK hA n _ _ _ _ _ hP hD hS (lv_sub hl [1, 2, 3, 4, 0] rfl) h
      · have h := h.2 c25
        refine lv_iconst (v := (-1)) hx hb dX8_part_28 (by decide) ?_
        exact xr_rI fx hK hP hD hS h dX8_part_29
abbrev rm_X8_pair : Room := { frames := 2, cells := 0, slots := 0, locals := 45 }
theorem in_X8_pair : ∀ w ∈ wsX80, w ∈ wsX8_pair := by decide +kernel
set_option maxHeartbeats 4000000 in
set_option maxRecDepth 100000 in
theorem kb_X8_pair_21 {p : Program} {l : Launch} {e : Env} {s : State} {m : MethodId} {args : Array Value} {below : List Frame} {meth : Method} {c : Code} {D : va_G} {ad : Nat → Nat} {cI cJ cR : ClassId} {A : Nat → Prop}  {K21 : ms_T → Int32 → Int32 → Int64 → Int32 → Prop} {Q : Int32 → ms_T → Prop} {S : ms_T} {v1 : Int32} {v2 : Int32} {v3 : Int64} {v5 : Int32} (fx : xr_Fx p m c meth cX8_pair 6 s args wsX8_pair RX8 (some .int)) (hK : xr_K D (ms_ty cI cJ cR) s) (hA : ∀ q, s.heap.size ≤ q → A q)  (k21 : ∀ (S : ms_T) (v1 : Int32) (v2 : Int32) (v3 : Int64) (v5 : Int32) {H : Heap} {locs : List Loc} {ls : Array Slot}, va_P D vwCl (ms_w ad cI cJ S) H → va_D A (ms_w ad cI cJ S) → va_S A s.heap H locs → lv_has ls 6 [(0, .ref (ad 0)), (1, .int v1), (2, .int v2), (3, .long v3), (5, .int v5)] → K21 S v1 v2 v3 v5 → W p l e rm_X8_pair s m args below meth c H locs 0 0 (MQ below (va_Qi Q (xr_B D (ms_ty cI cJ cR) (ms_w ad cI cJ) A) A) args s 0 0 A) (F0 m 21 ls [])) {H : Heap} {locs : List Loc} {ls : Array Slot} (hP : va_P D vwCl (ms_w ad cI cJ S) H) (hD : va_D A (ms_w ad cI cJ S)) (hS : va_S A s.heap H locs) (hl : lv_has ls 6 [(0, .ref (ad 0)), (1, .int v1), (2, .int v2), (3, .long v3), (5, .int v5)]) (h : wb_X8_pair_21 K21 Q S v1 v2 v3 v5) : W p l e rm_X8_pair s m args below meth c H locs 0 0 (MQ below (va_Qi Q (xr_B D (ms_ty cI cJ cR) (ms_w ad cI cJ) A) A) args s 0 0 A) (F0 m 21 ls []) := by
  obtain ⟨⟨hx, hb, hml, hown, hts⟩, hrt, hlk⟩ := id fx
  have hf : 0 ≤ rm_X8_pair.cells ∧ 0 ≤ rm_X8_pair.slots := ⟨Nat.zero_le _, Nat.zero_le _⟩
  unfold wb_X8_pair_21 at h
  refine lv_iload hx hb dX8_pair_21 (lv_at hl 4 rfl) ?_
  refine lv_aload_n hx hb dX8_pair_23 rfl (lv_at hl 0 rfl) ?_
  refine ms_get 2 (v := .int (S.1 2)) fx in_X8_pair (by decide) rfl (by decide +kernel) rfl hK hP dX8_pair_24 ?_
  refine lv_icmp_ge (tgt := 70) hx hb dX8_pair_27 (by decide) (fun c27 => ?_) (fun c27 => ?_)
  · have h := h.1 c27
    refine lv_lload_n hx hb dX8_pair_70 rfl (lv_at hl 3 rfl) ?_
    refine lv_l2i hx hb dX8_pair_71 rfl ?_
    exact xr_rI fx hK hP hD hS h dX8_pair_72
  · have h := h.2 c27
    refine lv_lload_n hx hb dX8_pair_30 rfl (lv_at hl 3 rfl) ?_
    refine lv_aload_n hx hb dX8_pair_31 rfl (lv_at hl 0 rfl) ?_
    refine ms_get 6 (v := .ref (ad 15)) fx in_X8_pair (by decide) rfl (by decide +kernel) rfl hK hP dX8_pair_32 ?_
    refine lv_sipush (v := 364) hx hb dX8_pair_35 (by decide) ?_
    refine lv_iload_n hx hb dX8_pair_38 rfl (lv_at hl 1 rfl) ?_
    refine lv_imul hx hb dX8_pair_39 ?_
    refine lv_iload hx hb dX8_pair_40 (lv_at hl 4 rfl) ?_
    refine lv_iadd hx hb dX8_pair_42 ?_
    obtain ⟨hi1, h⟩ := h
    refine ms_lald 0 (by decide) fx hK hP rfl hi1 dX8_pair_43 ?_
    refine lv_aload_n hx hb dX8_pair_44 rfl (lv_at hl 0 rfl) ?_
    refine ms_get 6 (v := .ref (ad 15)) fx in_X8_pair (by decide) rfl (by decide +kernel) rfl hK hP dX8_pair_45 ?_
    refine lv_sipush (v := 364) hx hb dX8_pair_48 (by decide) ?_
    refine lv_iload_n hx hb dX8_pair_51 rfl (lv_at hl 2 rfl) ?_
    refine lv_imul hx hb dX8_pair_52 ?_
    refine lv_iload hx hb dX8_pair_53 (lv_at hl 4 rfl) ?_
    refine lv_iadd hx hb dX8_pair_55 ?_
    obtain ⟨hi2, h⟩ := h
    refine ms_lald 0 (by decide) fx hK hP rfl hi2 dX8_pair_56 ?_
    refine lv_lmul hx hb dX8_pair_57 ?_
    refine lv_ladd hx hb dX8_pair_58 ?_
    refine lv_ldc2 (v := 2147483647) hx hb hown (hts (.constantLong RX8 3 (2147483647)) (by decide +kernel)) dX8_pair_59 ?_
    refine lv_lrem hx hb dX8_pair_62 (by decide) ?_
    refine lv_topl (fun v3_3 ev3_3 => ?_)
    have h := h v3_3 ev3_3
    refine lv_lstore_n (lv' := [(3, .long v3_3), (0, .ref (ad 0)), (1, .int v1), (2, .int v2), (5, .int v5)]) hx hb dX8_pair_63 rfl hl (by decide) rfl (fun ls hl => ?_)
    obtain ⟨v5_4, ev5_4⟩ : ∃ z : Int32, z = v5 + 1 := ⟨_, rfl⟩
    have h := h v5_4 ev5_4
    refine lv_iinc (v := v5_4) (lv' := [(5, .int v5_4), (3, .long v3_3), (0, .ref (ad 0)), (1, .int v1), (2, .int v2)]) hx hb dX8_pair_64 hl (k := 4) rfl (by rw [ev5_4]; rfl) (by decide) rfl (fun ls hl => ?_)
    refine lv_goto (tgt := 21) hx hb dX8_pair_67 (by decide) ?_
    exact k21 _ _ _ _ _ hP hD hS (lv_sub hl [2, 3, 4, 1, 0] rfl) h
theorem kw_X8_pair_21 {p : Program} {l : Launch} {e : Env} {s : State} {m : MethodId} {args : Array Value} {below : List Frame} {meth : Method} {c : Code} {D : va_G} {ad : Nat → Nat} {cI cJ cR : ClassId} {A : Nat → Prop}  {Q : Int32 → ms_T → Prop} (fx : xr_Fx p m c meth cX8_pair 6 s args wsX8_pair RX8 (some .int)) (hK : xr_K D (ms_ty cI cJ cR) s) (hA : ∀ q, s.heap.size ≤ q → A q)  : ∀ (n : Nat) (S : ms_T) (v1 : Int32) (v2 : Int32) (v3 : Int64) (v5 : Int32) {H : Heap} {locs : List Loc} {ls : Array Slot}, va_P D vwCl (ms_w ad cI cJ S) H → va_D A (ms_w ad cI cJ S) → va_S A s.heap H locs → lv_has ls 6 [(0, .ref (ad 0)), (1, .int v1), (2, .int v2), (3, .long v3), (5, .int v5)] → wp_X8_pair_21 Q n S v1 v2 v3 v5 → W p l e rm_X8_pair s m args below meth c H locs 0 0 (MQ below (va_Qi Q (xr_B D (ms_ty cI cJ cR) (ms_w ad cI cJ) A) A) args s 0 0 A) (F0 m 21 ls []) := by
  intro n
  induction n with
  | zero => intro S v1 v2 v3 v5 H locs ls hP hD hS hl h; exact False.elim h
  | succ n ih => intro S v1 v2 v3 v5 H locs ls hP hD hS hl h; exact kb_X8_pair_21 fx hK hA ih hP hD hS hl h
set_option maxHeartbeats 4000000 in
set_option maxRecDepth 100000 in
theorem ct_X8_pair (l : Launch) (D : va_G) (ad : Nat → Nat) (cI cJ cR : ClassId) {S : ms_T} {a1 : Int32} {a2 : Int32} {Q : Int32 → ms_T → Prop} (h : wp_X8_pair S a1 a2 Q) : xr_I l D (ms_ty cI cJ cR) (ms_w ad cI cJ) yX8_pair wsX8_pair rm_X8_pair [.ref (ad 0), .int a1, .int a2] S Q := by
  refine xr_eI (cc := cX8_pair) (nL := 6) (ret := (some .int)) (own := RX8) (by decide) rfl rfl (Nat.le_of_ble_eq_true rfl) ?_
  intro p e s m args below meth c ls A fx hK hA hP hD hS hl
  have hl : lv_has ls 6 [(0, .ref (ad 0)), (1, .int a1), (2, .int a2)] := hl
  show W p l e rm_X8_pair s m args below meth c s.heap [] 0 0 _ _
  obtain ⟨⟨hx, hb, hml, hown, hts⟩, hrt, hlk⟩ := id fx
  have hf : 0 ≤ rm_X8_pair.cells ∧ 0 ≤ rm_X8_pair.slots := ⟨Nat.zero_le _, Nat.zero_le _⟩
  unfold wp_X8_pair at h
  refine lv_iload_n hx hb dX8_pair_0 rfl (lv_at hl 1 rfl) ?_
  refine xr_sI (n := 1) (As := [.int a1]) (rest := []) fx (ct_X8_isSum l h) gX8_pair_X8_isSum rfl rfl (by decide +kernel) ⟨Nat.le_of_ble_eq_true rfl, Nat.le_of_ble_eq_true rfl⟩ ⟨rfl, rfl⟩ hf hl.1 rfl (Nat.le_of_ble_eq_true rfl) dX8_pair_1 (fun r5 h => ?_)
  refine lv_if_eq (tgt := 14) hx hb dX8_pair_4 (by decide) (fun c4 => ?_) (fun c4 => ?_)
  · have h := h.1 c4
    refine lv_iconst (v := (-1)) hx hb dX8_pair_14 (by decide) ?_
    exact xr_rI fx hK hP hD hS h dX8_pair_15
  · have h := h.2 c4
    refine lv_iload_n hx hb dX8_pair_7 rfl (lv_at hl 2 rfl) ?_
    refine xr_sI (n := 1) (As := [.int a2]) (rest := []) fx (ct_X8_isSum l h) gX8_pair_X8_isSum rfl rfl (by decide +kernel) ⟨Nat.le_of_ble_eq_true rfl, Nat.le_of_ble_eq_true rfl⟩ ⟨rfl, rfl⟩ hf hl.1 rfl (Nat.le_of_ble_eq_true rfl) dX8_pair_8 (fun r6 h => ?_)
    refine lv_if_ne (tgt := 16) hx hb dX8_pair_11 (by decide) (fun c11 => ?_) (fun c11 => ?_)
    · have h := h.1 c11
      refine lv_lconst (v := 0) hx hb dX8_pair_16 (by decide) ?_
      refine lv_lstore_n (lv' := [(3, .long 0), (0, .ref (ad 0)), (1, .int a1), (2, .int a2)]) hx hb dX8_pair_17 rfl hl (by decide) rfl (fun ls hl => ?_)
      refine lv_iconst (v := 0) hx hb dX8_pair_18 (by decide) ?_
      refine lv_istore (lv' := [(5, .int 0), (3, .long 0), (0, .ref (ad 0)), (1, .int a1), (2, .int a2)]) hx hb dX8_pair_19 hl (by decide) rfl (fun ls hl => ?_)
      obtain ⟨n, h⟩ := h
      exact kw_X8_pair_21 fx hK hA n _ _ _ _ _ hP hD hS (lv_sub hl [2, 3, 4, 1, 0] rfl) h
    · have h := h.2 c11
      refine lv_iconst (v := (-1)) hx hb dX8_pair_14 (by decide) ?_
      exact xr_rI fx hK hP hD hS h dX8_pair_15
abbrev rm_X8_isNumber : Room := { frames := 1, cells := 0, slots := 0, locals := 25 }
theorem in_X8_isNumber : ∀ w ∈ wsX80, w ∈ wsX8_isNumber := by decide +kernel
set_option maxHeartbeats 4000000 in
set_option maxRecDepth 100000 in
theorem ct_X8_isNumber (l : Launch) (D : va_G) (ad : Nat → Nat) (cI cJ cR : ClassId) {S : ms_T} {a1 : Int32} {Q : Int32 → ms_T → Prop} (h : wp_X8_isNumber S a1 Q) : xr_I l D (ms_ty cI cJ cR) (ms_w ad cI cJ) yX8_isNumber wsX8_isNumber rm_X8_isNumber [.ref (ad 0), .int a1] S Q := by
  refine xr_eI (cc := cX8_isNumber) (nL := 2) (ret := (some .boolean)) (own := RX8) (by decide) rfl rfl (Nat.le_of_ble_eq_true rfl) ?_
  intro p e s m args below meth c ls A fx hK hA hP hD hS hl
  have hl : lv_has ls 2 [(0, .ref (ad 0)), (1, .int a1)] := hl
  show W p l e rm_X8_isNumber s m args below meth c s.heap [] 0 0 _ _
  obtain ⟨⟨hx, hb, hml, hown, hts⟩, hrt, hlk⟩ := id fx
  have hf : 0 ≤ rm_X8_isNumber.cells ∧ 0 ≤ rm_X8_isNumber.slots := ⟨Nat.zero_le _, Nat.zero_le _⟩
  unfold wp_X8_isNumber at h
  refine lv_iload_n hx hb dX8_isNumber_0 rfl (lv_at hl 1 rfl) ?_
  refine lv_i2l hx hb dX8_isNumber_1 rfl ?_
  refine lv_lconst (v := 0) hx hb dX8_isNumber_2 (by decide) ?_
  refine lv_aload_n hx hb dX8_isNumber_3 rfl (lv_at hl 0 rfl) ?_
  refine ms_get 7 (v := .int (S.1 3)) fx in_X8_isNumber (by decide) rfl (by decide +kernel) rfl hK hP dX8_isNumber_4 ?_
  refine lv_iconst (v := 1) hx hb dX8_isNumber_7 (by decide) ?_
  refine lv_isub hx hb dX8_isNumber_8 ?_
  refine lv_i2l hx hb dX8_isNumber_9 rfl ?_
  refine xr_sI (n := 3) (As := [.long a1.toInt64, .long 0, .long (((S.1 3) - 1).toInt64)]) (rest := []) fx (ct_X8_in l h) gX8_isNumber_X8_in rfl rfl (by decide +kernel) ⟨Nat.le_of_ble_eq_true rfl, Nat.le_of_ble_eq_true rfl⟩ ⟨rfl, rfl⟩ hf hl.1 rfl (Nat.le_of_ble_eq_true rfl) dX8_isNumber_10 (fun r1 h => ?_)
  exact xr_rZ fx (xr_nar h.1) hK hP hD hS h.2 dX8_isNumber_13
abbrev rm_X8_lyndon : Room := { frames := 2, cells := 0, slots := 0, locals := 46 }
theorem in_X8_lyndon : ∀ w ∈ wsX80, w ∈ wsX8_lyndon := by decide +kernel
set_option maxHeartbeats 4000000 in
set_option maxRecDepth 100000 in
theorem ct_X8_lyndon (l : Launch) (D : va_G) (ad : Nat → Nat) (cI cJ cR : ClassId) {S : ms_T} {a1 : Int32} {Q : Int32 → ms_T → Prop} (h : wp_X8_lyndon S a1 Q) : xr_I l D (ms_ty cI cJ cR) (ms_w ad cI cJ) yX8_lyndon wsX8_lyndon rm_X8_lyndon [.ref (ad 0), .int a1] S Q := by
  refine xr_eI (cc := cX8_lyndon) (nL := 2) (ret := (some .int)) (own := RX8) (by decide) rfl rfl (Nat.le_of_ble_eq_true rfl) ?_
  intro p e s m args below meth c ls A fx hK hA hP hD hS hl
  have hl : lv_has ls 2 [(0, .ref (ad 0)), (1, .int a1)] := hl
  show W p l e rm_X8_lyndon s m args below meth c s.heap [] 0 0 _ _
  obtain ⟨⟨hx, hb, hml, hown, hts⟩, hrt, hlk⟩ := id fx
  have hf : 0 ≤ rm_X8_lyndon.cells ∧ 0 ≤ rm_X8_lyndon.slots := ⟨Nat.zero_le _, Nat.zero_le _⟩
  unfold wp_X8_lyndon at h
  refine lv_aload_n hx hb dX8_lyndon_0 rfl (lv_at hl 0 rfl) ?_
  refine lv_iload_n hx hb dX8_lyndon_1 rfl (lv_at hl 1 rfl) ?_
  refine xr_vI (n := 1) (As := [.int a1]) (rest := []) fx (ct_X8_isNumber l D ad cI cJ cR h) gX8_lyndon_X8_isNumber rfl rfl (by decide +kernel) ⟨Nat.le_of_ble_eq_true rfl, Nat.le_of_ble_eq_true rfl⟩ ⟨rfl, rfl⟩ hf (ms_recv hK hP) hK hP hD hS hA hl.1 rfl (Nat.le_of_ble_eq_true rfl) dX8_lyndon_2 (fun r2 S1 H locs h hP hD hS => ?_)
  refine lv_if_eq (tgt := 21) hx hb dX8_lyndon_5 (by decide) (fun c5 => ?_) (fun c5 => ?_)
  · have h := h.1 c5
    refine lv_iconst (v := (-1)) hx hb dX8_lyndon_21 (by decide) ?_
    exact xr_rI fx hK hP hD hS h dX8_lyndon_22
  · have h := h.2 c5
    refine lv_aload_n hx hb dX8_lyndon_8 rfl (lv_at hl 0 rfl) ?_
    refine lv_aload_n hx hb dX8_lyndon_9 rfl (lv_at hl 0 rfl) ?_
    refine ms_get 8 (v := .ref (ad 4)) fx in_X8_lyndon (by decide) rfl (by decide +kernel) rfl hK hP dX8_lyndon_10 ?_
    refine lv_iload_n hx hb dX8_lyndon_13 rfl (lv_at hl 1 rfl) ?_
    obtain ⟨hi3, h⟩ := h
    refine ms_iald 3 (by decide) fx hK hP rfl hi3 dX8_lyndon_14 ?_
    refine xr_vI (n := 1) (As := [.int (S1.2.1 3 a1.toNatClampNeg)]) (rest := []) fx (ct_X8_codeOf l D ad cI cJ cR h) gX8_lyndon_X8_codeOf rfl rfl (by decide +kernel) ⟨Nat.le_of_ble_eq_true rfl, Nat.le_of_ble_eq_true rfl⟩ ⟨rfl, rfl⟩ hf (ms_recv hK hP) hK hP hD hS hA hl.1 rfl (Nat.le_of_ble_eq_true rfl) dX8_lyndon_15 (fun r5 S4 H locs h hP hD hS => ?_)
    refine lv_goto (tgt := 22) hx hb dX8_lyndon_18 (by decide) ?_
    exact xr_rI fx hK hP hD hS h dX8_lyndon_22
abbrev rm_X8_manyOf : Room := { frames := 0, cells := 0, slots := 0, locals := 0 }
theorem in_X8_manyOf : ∀ w ∈ wsX80, w ∈ wsX8_manyOf := by decide +kernel
set_option maxHeartbeats 4000000 in
set_option maxRecDepth 100000 in
theorem kw_X8_manyOf_33 {p : Program} {l : Launch} {e : Env} {s : State} {m : MethodId} {args : Array Value} {below : List Frame} {meth : Method} {c : Code} {D : va_G} {ad : Nat → Nat} {cI cJ cR : ClassId} {A : Nat → Prop} {K4 : ms_T → Int32 → Int32 → Int32 → Prop} {Q : Int32 → ms_T → Prop} {S : ms_T} {v1 : Int32} {v3 : Int32} {s0 : Int32} {s1 : Int32} (fx : xr_Fx p m c meth cX8_manyOf 4 s args wsX8_manyOf RX8 (some .int)) (hK : xr_K D (ms_ty cI cJ cR) s) (hA : ∀ q, s.heap.size ≤ q → A q) (k4 : ∀ (S : ms_T) (v1 : Int32) (v2 : Int32) (v3 : Int32) {H : Heap} {locs : List Loc} {ls : Array Slot}, va_P D vwCl (ms_w ad cI cJ S) H → va_D A (ms_w ad cI cJ S) → va_S A s.heap H locs → lv_has ls 4 [(0, .ref (ad 0)), (1, .int v1), (2, .int v2), (3, .int v3)] → K4 S v1 v2 v3 → W p l e rm_X8_manyOf s m args below meth c H locs 0 0 (MQ below (va_Qi Q (xr_B D (ms_ty cI cJ cR) (ms_w ad cI cJ) A) A) args s 0 0 A) (F0 m 4 ls [])) {H : Heap} {locs : List Loc} {ls : Array Slot} (hP : va_P D vwCl (ms_w ad cI cJ S) H) (hD : va_D A (ms_w ad cI cJ S)) (hS : va_S A s.heap H locs) (hl : lv_has ls 4 [(0, .ref (ad 0)), (1, .int v1), (3, .int v3)]) (h : wp_X8_manyOf_33 K4 Q S v1 v3 s0 s1) : W p l e rm_X8_manyOf s m args below meth c H locs 0 0 (MQ below (va_Qi Q (xr_B D (ms_ty cI cJ cR) (ms_w ad cI cJ) A) A) args s 0 0 A) (F0 m 33 ls [.int s1, .int s0]) := by
  obtain ⟨⟨hx, hb, hml, hown, hts⟩, hrt, hlk⟩ := id fx
  have hf : 0 ≤ rm_X8_manyOf.cells ∧ 0 ≤ rm_X8_manyOf.slots := ⟨Nat.zero_le _, Nat.zero_le _⟩
  unfold wp_X8_manyOf_33 at h
  refine lv_iadd hx hb dX8_manyOf_33 ?_
  refine lv_topi (fun v2_1 ev2_1 => ?_)
  have h := h v2_1 ev2_1
  refine lv_istore_n (lv' := [(2, .int v2_1), (0, .ref (ad 0)), (1, .int v1), (3, .int v3)]) hx hb dX8_manyOf_34 rfl hl (by decide) rfl (fun ls hl => ?_)
  obtain ⟨v3_2, ev3_2⟩ : ∃ z : Int32, z = v3 + 1 := ⟨_, rfl⟩
  have h := h v3_2 ev3_2
  refine lv_iinc (v := v3_2) (lv' := [(3, .int v3_2), (2, .int v2_1), (0, .ref (ad 0)), (1, .int v1)]) hx hb dX8_manyOf_35 hl (k := 3) rfl (by rw [ev3_2]; rfl) (by decide) rfl (fun ls hl => ?_)
  refine lv_goto (tgt := 4) hx hb dX8_manyOf_38 (by decide) ?_
  exact k4 _ _ _ _ hP hD hS (lv_sub hl [2, 3, 1, 0] rfl) h
set_option maxHeartbeats 4000000 in
set_option maxRecDepth 100000 in
theorem kb_X8_manyOf_4 {p : Program} {l : Launch} {e : Env} {s : State} {m : MethodId} {args : Array Value} {below : List Frame} {meth : Method} {c : Code} {D : va_G} {ad : Nat → Nat} {cI cJ cR : ClassId} {A : Nat → Prop}  {K4 : ms_T → Int32 → Int32 → Int32 → Prop} {Q : Int32 → ms_T → Prop} {S : ms_T} {v1 : Int32} {v2 : Int32} {v3 : Int32} (fx : xr_Fx p m c meth cX8_manyOf 4 s args wsX8_manyOf RX8 (some .int)) (hK : xr_K D (ms_ty cI cJ cR) s) (hA : ∀ q, s.heap.size ≤ q → A q)  (k4 : ∀ (S : ms_T) (v1 : Int32) (v2 : Int32) (v3 : Int32) {H : Heap} {locs : List Loc} {ls : Array Slot}, va_P D vwCl (ms_w ad cI cJ S) H → va_D A (ms_w ad cI cJ S) → va_S A s.heap H locs → lv_has ls 4 [(0, .ref (ad 0)), (1, .int v1), (2, .int v2), (3, .int v3)] → K4 S v1 v2 v3 → W p l e rm_X8_manyOf s m args below meth c H locs 0 0 (MQ below (va_Qi Q (xr_B D (ms_ty cI cJ cR) (ms_w ad cI cJ) A) A) args s 0 0 A) (F0 m 4 ls [])) {H : Heap} {locs : List Loc} {ls : Array Slot} (hP : va_P D vwCl (ms_w ad cI cJ S) H) (hD : va_D A (ms_w ad cI cJ S)) (hS : va_S A s.heap H locs) (hl : lv_has ls 4 [(0, .ref (ad 0)), (1, .int v1), (2, .int v2), (3, .int v3)]) (h : wb_X8_manyOf_4 K4 Q S v1 v2 v3) : W p l e rm_X8_manyOf s m args below meth c H locs 0 0 (MQ below (va_Qi Q (xr_B D (ms_ty cI cJ cR) (ms_w ad cI cJ) A) A) args s 0 0 A) (F0 m 4 ls []) := by
  obtain ⟨⟨hx, hb, hml, hown, hts⟩, hrt, hlk⟩ := id fx
  have hf : 0 ≤ rm_X8_manyOf.cells ∧ 0 ≤ rm_X8_manyOf.slots := ⟨Nat.zero_le _, Nat.zero_le _⟩
  unfold wb_X8_manyOf_4 at h
  refine lv_iload_n hx hb dX8_manyOf_4 rfl (lv_at hl 3 rfl) ?_
  refine lv_aload_n hx hb dX8_manyOf_5 rfl (lv_at hl 0 rfl) ?_
  refine ms_get 7 (v := .int (S.1 3)) fx in_X8_manyOf (by decide) rfl (by decide +kernel) rfl hK hP dX8_manyOf_6 ?_
  refine lv_icmp_ge (tgt := 41) hx hb dX8_manyOf_9 (by decide) (fun c9 => ?_) (fun c9 => ?_)
  · have h := h.1 c9
    refine lv_iload_n hx hb dX8_manyOf_41 rfl (lv_at hl 2 rfl) ?_
    exact xr_rI fx hK hP hD hS h dX8_manyOf_42
  · have h := h.2 c9
    refine lv_iload_n hx hb dX8_manyOf_12 rfl (lv_at hl 2 rfl) ?_
    refine lv_aload_n hx hb dX8_manyOf_13 rfl (lv_at hl 0 rfl) ?_
    refine ms_get 5 (v := .ref (ad 3)) fx in_X8_manyOf (by decide) rfl (by decide +kernel) rfl hK hP dX8_manyOf_14 ?_
    refine lv_aload_n hx hb dX8_manyOf_17 rfl (lv_at hl 0 rfl) ?_
    refine ms_get 8 (v := .ref (ad 4)) fx in_X8_manyOf (by decide) rfl (by decide +kernel) rfl hK hP dX8_manyOf_18 ?_
    refine lv_iload_n hx hb dX8_manyOf_21 rfl (lv_at hl 3 rfl) ?_
    obtain ⟨hi3, h⟩ := h
    refine ms_iald 3 (by decide) fx hK hP rfl hi3 dX8_manyOf_22 ?_
    obtain ⟨hi4, h⟩ := h
    refine ms_iald 2 (by decide) fx hK hP rfl hi4 dX8_manyOf_23 ?_
    refine lv_iload_n hx hb dX8_manyOf_24 rfl (lv_at hl 1 rfl) ?_
    refine lv_icmp_ne (tgt := 32) hx hb dX8_manyOf_25 (by decide) (fun c25 => ?_) (fun c25 => ?_)
    · have h := h.1 c25
      refine lv_iconst (v := 0) hx hb dX8_manyOf_32 (by decide) ?_
      exact kw_X8_manyOf_33 fx hK hA k4 hP hD hS (lv_sub hl [0, 1, 3] rfl) h
    · have h := h.2 c25
      refine lv_iconst (v := 1) hx hb dX8_manyOf_28 (by decide) ?_
      refine lv_goto (tgt := 33) hx hb dX8_manyOf_29 (by decide) ?_
      exact kw_X8_manyOf_33 fx hK hA k4 hP hD hS (lv_sub hl [0, 1, 3] rfl) h
theorem kw_X8_manyOf_4 {p : Program} {l : Launch} {e : Env} {s : State} {m : MethodId} {args : Array Value} {below : List Frame} {meth : Method} {c : Code} {D : va_G} {ad : Nat → Nat} {cI cJ cR : ClassId} {A : Nat → Prop}  {Q : Int32 → ms_T → Prop} (fx : xr_Fx p m c meth cX8_manyOf 4 s args wsX8_manyOf RX8 (some .int)) (hK : xr_K D (ms_ty cI cJ cR) s) (hA : ∀ q, s.heap.size ≤ q → A q)  : ∀ (n : Nat) (S : ms_T) (v1 : Int32) (v2 : Int32) (v3 : Int32) {H : Heap} {locs : List Loc} {ls : Array Slot}, va_P D vwCl (ms_w ad cI cJ S) H → va_D A (ms_w ad cI cJ S) → va_S A s.heap H locs → lv_has ls 4 [(0, .ref (ad 0)), (1, .int v1), (2, .int v2), (3, .int v3)] → wp_X8_manyOf_4 Q n S v1 v2 v3 → W p l e rm_X8_manyOf s m args below meth c H locs 0 0 (MQ below (va_Qi Q (xr_B D (ms_ty cI cJ cR) (ms_w ad cI cJ) A) A) args s 0 0 A) (F0 m 4 ls []) := by
  intro n
  induction n with
  | zero => intro S v1 v2 v3 H locs ls hP hD hS hl h; exact False.elim h
  | succ n ih => intro S v1 v2 v3 H locs ls hP hD hS hl h; exact kb_X8_manyOf_4 fx hK hA ih hP hD hS hl h
set_option maxHeartbeats 4000000 in
set_option maxRecDepth 100000 in
theorem ct_X8_manyOf (l : Launch) (D : va_G) (ad : Nat → Nat) (cI cJ cR : ClassId) {S : ms_T} {a1 : Int32} {Q : Int32 → ms_T → Prop} (h : wp_X8_manyOf S a1 Q) : xr_I l D (ms_ty cI cJ cR) (ms_w ad cI cJ) yX8_manyOf wsX8_manyOf rm_X8_manyOf [.ref (ad 0), .int a1] S Q := by
  refine xr_eI (cc := cX8_manyOf) (nL := 4) (ret := (some .int)) (own := RX8) (by decide) rfl rfl (Nat.le_of_ble_eq_true rfl) ?_
  intro p e s m args below meth c ls A fx hK hA hP hD hS hl
  have hl : lv_has ls 4 [(0, .ref (ad 0)), (1, .int a1)] := hl
  show W p l e rm_X8_manyOf s m args below meth c s.heap [] 0 0 _ _
  obtain ⟨⟨hx, hb, hml, hown, hts⟩, hrt, hlk⟩ := id fx
  have hf : 0 ≤ rm_X8_manyOf.cells ∧ 0 ≤ rm_X8_manyOf.slots := ⟨Nat.zero_le _, Nat.zero_le _⟩
  unfold wp_X8_manyOf at h
  refine lv_iconst (v := 0) hx hb dX8_manyOf_0 (by decide) ?_
  refine lv_istore_n (lv' := [(2, .int 0), (0, .ref (ad 0)), (1, .int a1)]) hx hb dX8_manyOf_1 rfl hl (by decide) rfl (fun ls hl => ?_)
  refine lv_iconst (v := 0) hx hb dX8_manyOf_2 (by decide) ?_
  refine lv_istore_n (lv' := [(3, .int 0), (2, .int 0), (0, .ref (ad 0)), (1, .int a1)]) hx hb dX8_manyOf_3 rfl hl (by decide) rfl (fun ls hl => ?_)
  obtain ⟨n, h⟩ := h
  exact kw_X8_manyOf_4 fx hK hA n _ _ _ _ hP hD hS (lv_sub hl [2, 3, 1, 0] rfl) h
abbrev rm_X8_lyndons : Room := { frames := 1, cells := 0, slots := 0, locals := 25 }
theorem in_X8_lyndons : ∀ w ∈ wsX80, w ∈ wsX8_lyndons := by decide +kernel
set_option maxHeartbeats 4000000 in
set_option maxRecDepth 100000 in
theorem ct_X8_lyndons (l : Launch) (D : va_G) (ad : Nat → Nat) (cI cJ cR : ClassId) {S : ms_T} {a1 : Int32} {Q : Int32 → ms_T → Prop} (h : wp_X8_lyndons S a1 Q) : xr_I l D (ms_ty cI cJ cR) (ms_w ad cI cJ) yX8_lyndons wsX8_lyndons rm_X8_lyndons [.ref (ad 0), .int a1] S Q := by
  refine xr_eI (cc := cX8_lyndons) (nL := 2) (ret := (some .int)) (own := RX8) (by decide) rfl rfl (Nat.le_of_ble_eq_true rfl) ?_
  intro p e s m args below meth c ls A fx hK hA hP hD hS hl
  have hl : lv_has ls 2 [(0, .ref (ad 0)), (1, .int a1)] := hl
  show W p l e rm_X8_lyndons s m args below meth c s.heap [] 0 0 _ _
  obtain ⟨⟨hx, hb, hml, hown, hts⟩, hrt, hlk⟩ := id fx
  have hf : 0 ≤ rm_X8_lyndons.cells ∧ 0 ≤ rm_X8_lyndons.slots := ⟨Nat.zero_le _, Nat.zero_le _⟩
  unfold wp_X8_lyndons at h
  refine lv_iload_n hx hb dX8_lyndons_0 rfl (lv_at hl 1 rfl) ?_
  refine lv_i2l hx hb dX8_lyndons_1 rfl ?_
  refine lv_lconst (v := 1) hx hb dX8_lyndons_2 (by decide) ?_
  refine lv_aload_n hx hb dX8_lyndons_3 rfl (lv_at hl 0 rfl) ?_
  refine ms_get 1 (v := .int (S.1 1)) fx in_X8_lyndons (by decide) rfl (by decide +kernel) rfl hK hP dX8_lyndons_4 ?_
  refine lv_i2l hx hb dX8_lyndons_7 rfl ?_
  refine xr_sI (n := 3) (As := [.long a1.toInt64, .long 1, .long ((S.1 1).toInt64)]) (rest := []) fx (ct_X8_in l h) gX8_lyndons_X8_in rfl rfl (by decide +kernel) ⟨Nat.le_of_ble_eq_true rfl, Nat.le_of_ble_eq_true rfl⟩ ⟨rfl, rfl⟩ hf hl.1 rfl (Nat.le_of_ble_eq_true rfl) dX8_lyndons_8 (fun r1 h => ?_)
  refine lv_if_eq (tgt := 22) hx hb dX8_lyndons_11 (by decide) (fun c11 => ?_) (fun c11 => ?_)
  · have h := h.1 c11
    refine lv_iconst (v := (-1)) hx hb dX8_lyndons_22 (by decide) ?_
    exact xr_rI fx hK hP hD hS h dX8_lyndons_23
  · have h := h.2 c11
    refine lv_aload_n hx hb dX8_lyndons_14 rfl (lv_at hl 0 rfl) ?_
    refine lv_iload_n hx hb dX8_lyndons_15 rfl (lv_at hl 1 rfl) ?_
    refine xr_vI (n := 1) (As := [.int a1]) (rest := []) fx (ct_X8_manyOf l D ad cI cJ cR h) gX8_lyndons_X8_manyOf rfl rfl (by decide +kernel) ⟨Nat.le_of_ble_eq_true rfl, Nat.le_of_ble_eq_true rfl⟩ ⟨rfl, rfl⟩ hf (ms_recv hK hP) hK hP hD hS hA hl.1 rfl (Nat.le_of_ble_eq_true rfl) dX8_lyndons_16 (fun r3 S2 H locs h hP hD hS => ?_)
    refine lv_goto (tgt := 23) hx hb dX8_lyndons_19 (by decide) ?_
    exact xr_rI fx hK hP hD hS h dX8_lyndons_23
abbrev rm_X8_side : Room := { frames := 2, cells := 0, slots := 0, locals := 46 }
theorem in_X8_side : ∀ w ∈ wsX80, w ∈ wsX8_side := by decide +kernel
set_option maxHeartbeats 4000000 in
set_option maxRecDepth 100000 in
theorem ct_X8_side (l : Launch) (D : va_G) (ad : Nat → Nat) (cI cJ cR : ClassId) {S : ms_T} {a1 : Int32} {a2 : Int32} {Q : Int32 → ms_T → Prop} (h : wp_X8_side S a1 a2 Q) : xr_I l D (ms_ty cI cJ cR) (ms_w ad cI cJ) yX8_side wsX8_side rm_X8_side [.ref (ad 0), .int a1, .int a2] S Q := by
  refine xr_eI (cc := cX8_side) (nL := 3) (ret := (some .int)) (own := RX8) (by decide) rfl rfl (Nat.le_of_ble_eq_true rfl) ?_
  intro p e s m args below meth c ls A fx hK hA hP hD hS hl
  have hl : lv_has ls 3 [(0, .ref (ad 0)), (1, .int a1), (2, .int a2)] := hl
  show W p l e rm_X8_side s m args below meth c s.heap [] 0 0 _ _
  obtain ⟨⟨hx, hb, hml, hown, hts⟩, hrt, hlk⟩ := id fx
  have hf : 0 ≤ rm_X8_side.cells ∧ 0 ≤ rm_X8_side.slots := ⟨Nat.zero_le _, Nat.zero_le _⟩
  unfold wp_X8_side at h
  refine lv_aload_n hx hb dX8_side_0 rfl (lv_at hl 0 rfl) ?_
  refine lv_iload_n hx hb dX8_side_1 rfl (lv_at hl 1 rfl) ?_
  refine xr_vI (n := 1) (As := [.int a1]) (rest := []) fx (ct_X8_isNumber l D ad cI cJ cR h) gX8_side_X8_isNumber rfl rfl (by decide +kernel) ⟨Nat.le_of_ble_eq_true rfl, Nat.le_of_ble_eq_true rfl⟩ ⟨rfl, rfl⟩ hf (ms_recv hK hP) hK hP hD hS hA hl.1 rfl (Nat.le_of_ble_eq_true rfl) dX8_side_2 (fun r2 S1 H locs h hP hD hS => ?_)
  refine lv_if_eq (tgt := 40) hx hb dX8_side_5 (by decide) (fun c5 => ?_) (fun c5 => ?_)
  · have h := h.1 c5
    refine lv_iconst (v := (-1)) hx hb dX8_side_40 (by decide) ?_
    exact xr_rI fx hK hP hD hS h dX8_side_41
  · have h := h.2 c5
    refine lv_iload_n hx hb dX8_side_8 rfl (lv_at hl 2 rfl) ?_
    refine lv_i2l hx hb dX8_side_9 rfl ?_
    refine lv_lconst (v := 0) hx hb dX8_side_10 (by decide) ?_
    refine lv_lconst (v := 1) hx hb dX8_side_11 (by decide) ?_
    refine xr_sI (n := 3) (As := [.long a2.toInt64, .long 0, .long 1]) (rest := []) fx (ct_X8_in l h) gX8_side_X8_in rfl rfl (by decide +kernel) ⟨Nat.le_of_ble_eq_true rfl, Nat.le_of_ble_eq_true rfl⟩ ⟨rfl, rfl⟩ hf hl.1 rfl (Nat.le_of_ble_eq_true rfl) dX8_side_12 (fun r3 h => ?_)
    refine lv_if_eq (tgt := 40) hx hb dX8_side_15 (by decide) (fun c15 => ?_) (fun c15 => ?_)
    · have h := h.1 c15
      refine lv_iconst (v := (-1)) hx hb dX8_side_40 (by decide) ?_
      exact xr_rI fx hK hP hD hS h dX8_side_41
    · have h := h.2 c15
      refine lv_iload_n hx hb dX8_side_18 rfl (lv_at hl 2 rfl) ?_
      refine lv_if_ne (tgt := 31) hx hb dX8_side_19 (by decide) (fun c19 => ?_) (fun c19 => ?_)
      · have h := h.1 c19
        refine lv_aload_n hx hb dX8_side_31 rfl (lv_at hl 0 rfl) ?_
        refine ms_get 10 (v := .ref (ad 6)) fx in_X8_side (by decide) rfl (by decide +kernel) rfl hK hP dX8_side_32 ?_
        refine lv_iload_n hx hb dX8_side_35 rfl (lv_at hl 1 rfl) ?_
        obtain ⟨hi4, h⟩ := h
        refine ms_iald 5 (by decide) fx hK hP rfl hi4 dX8_side_36 ?_
        refine lv_goto (tgt := 41) hx hb dX8_side_37 (by decide) ?_
        exact xr_rI fx hK hP hD hS h dX8_side_41
      · have h := h.2 c19
        refine lv_aload_n hx hb dX8_side_22 rfl (lv_at hl 0 rfl) ?_
        refine ms_get 9 (v := .ref (ad 5)) fx in_X8_side (by decide) rfl (by decide +kernel) rfl hK hP dX8_side_23 ?_
        refine lv_iload_n hx hb dX8_side_26 rfl (lv_at hl 1 rfl) ?_
        obtain ⟨hi5, h⟩ := h
        refine ms_iald 4 (by decide) fx hK hP rfl hi5 dX8_side_27 ?_
        refine lv_goto (tgt := 41) hx hb dX8_side_28 (by decide) ?_
        exact xr_rI fx hK hP hD hS h dX8_side_41
abbrev rm_X8_basis : Room := { frames := 2, cells := 0, slots := 0, locals := 46 }
theorem in_X8_basis : ∀ w ∈ wsX80, w ∈ wsX8_basis := by decide +kernel
set_option maxHeartbeats 4000000 in
set_option maxRecDepth 100000 in
theorem kb_X8_basis_37 {p : Program} {l : Launch} {e : Env} {s : State} {m : MethodId} {args : Array Value} {below : List Frame} {meth : Method} {c : Code} {D : va_G} {ad : Nat → Nat} {cI cJ cR : ClassId} {A : Nat → Prop}  {K37 : ms_T → Int32 → Int32 → Int32 → Int32 → Prop} {Q : Int32 → ms_T → Prop} {S : ms_T} {v1 : Int32} {v2 : Int32} {v3 : Int32} {v4 : Int32} (fx : xr_Fx p m c meth cX8_basis 5 s args wsX8_basis RX8 (some .int)) (hK : xr_K D (ms_ty cI cJ cR) s) (hA : ∀ q, s.heap.size ≤ q → A q)  (k37 : ∀ (S : ms_T) (v1 : Int32) (v2 : Int32) (v3 : Int32) (v4 : Int32) {H : Heap} {locs : List Loc} {ls : Array Slot}, va_P D vwCl (ms_w ad cI cJ S) H → va_D A (ms_w ad cI cJ S) → va_S A s.heap H locs → lv_has ls 5 [(0, .ref (ad 0)), (1, .int v1), (2, .int v2), (3, .int v3), (4, .int v4)] → K37 S v1 v2 v3 v4 → W p l e rm_X8_basis s m args below meth c H locs 0 0 (MQ below (va_Qi Q (xr_B D (ms_ty cI cJ cR) (ms_w ad cI cJ) A) A) args s 0 0 A) (F0 m 37 ls [])) {H : Heap} {locs : List Loc} {ls : Array Slot} (hP : va_P D vwCl (ms_w ad cI cJ S) H) (hD : va_D A (ms_w ad cI cJ S)) (hS : va_S A s.heap H locs) (hl : lv_has ls 5 [(0, .ref (ad 0)), (1, .int v1), (2, .int v2), (3, .int v3), (4, .int v4)]) (h : wb_X8_basis_37 K37 Q S v1 v2 v3 v4) : W p l e rm_X8_basis s m args below meth c H locs 0 0 (MQ below (va_Qi Q (xr_B D (ms_ty cI cJ cR) (ms_w ad cI cJ) A) A) args s 0 0 A) (F0 m 37 ls []) := by
  obtain ⟨⟨hx, hb, hml, hown, hts⟩, hrt, hlk⟩ := id fx
  have hf : 0 ≤ rm_X8_basis.cells ∧ 0 ≤ rm_X8_basis.slots := ⟨Nat.zero_le _, Nat.zero_le _⟩
  unfold wb_X8_basis_37 at h
  refine lv_iload hx hb dX8_basis_37 (lv_at hl 4 rfl) ?_
  refine lv_aload_n hx hb dX8_basis_39 rfl (lv_at hl 0 rfl) ?_
  refine ms_get 3 (v := .ref (ad 1)) fx in_X8_basis (by decide) rfl (by decide +kernel) rfl hK hP dX8_basis_40 ?_
  refine lv_iload_n hx hb dX8_basis_43 rfl (lv_at hl 3 rfl) ?_
  obtain ⟨hi1, h⟩ := h
  refine ms_iald 0 (by decide) fx hK hP rfl hi1 dX8_basis_44 ?_
  refine lv_icmp_ge (tgt := 87) hx hb dX8_basis_45 (by decide) (fun c45 => ?_) (fun c45 => ?_)
  · have h := h.1 c45
    refine lv_iconst (v := 0) hx hb dX8_basis_87 (by decide) ?_
    exact xr_rI fx hK hP hD hS h dX8_basis_88
  · have h := h.2 c45
    refine lv_aload_n hx hb dX8_basis_48 rfl (lv_at hl 0 rfl) ?_
    refine ms_get 6 (v := .ref (ad 15)) fx in_X8_basis (by decide) rfl (by decide +kernel) rfl hK hP dX8_basis_49 ?_
    refine lv_sipush (v := 364) hx hb dX8_basis_52 (by decide) ?_
    refine lv_iload_n hx hb dX8_basis_55 rfl (lv_at hl 1 rfl) ?_
    refine lv_imul hx hb dX8_basis_56 ?_
    refine lv_aload_n hx hb dX8_basis_57 rfl (lv_at hl 0 rfl) ?_
    refine ms_get 4 (v := .ref (ad 2)) fx in_X8_basis (by decide) rfl (by decide +kernel) rfl hK hP dX8_basis_58 ?_
    refine lv_iload_n hx hb dX8_basis_61 rfl (lv_at hl 3 rfl) ?_
    obtain ⟨hi2, h⟩ := h
    refine ms_iald 1 (by decide) fx hK hP rfl hi2 dX8_basis_62 ?_
    refine lv_iadd hx hb dX8_basis_63 ?_
    refine lv_iload hx hb dX8_basis_64 (lv_at hl 4 rfl) ?_
    refine lv_iadd hx hb dX8_basis_66 ?_
    refine lv_aload_n hx hb dX8_basis_67 rfl (lv_at hl 0 rfl) ?_
    refine ms_get 13 (v := .ref (ad 16)) fx in_X8_basis (by decide) rfl (by decide +kernel) rfl hK hP dX8_basis_68 ?_
    refine lv_sipush (v := 256) hx hb dX8_basis_71 (by decide) ?_
    refine lv_iload_n hx hb dX8_basis_74 rfl (lv_at hl 2 rfl) ?_
    refine lv_imul hx hb dX8_basis_75 ?_
    refine lv_iload hx hb dX8_basis_76 (lv_at hl 4 rfl) ?_
    refine lv_iadd hx hb dX8_basis_78 ?_
    obtain ⟨hi3, h⟩ := h
    refine ms_lald 1 (by decide) fx hK hP rfl hi3 dX8_basis_79 ?_
    obtain ⟨hi4, h⟩ := h
    refine ms_last 0 (by decide) fx hK hP hD hS rfl hi4 dX8_basis_80 (fun H locs hP hD hS => ?_)
    obtain ⟨v4_5, ev4_5⟩ : ∃ z : Int32, z = v4 + 1 := ⟨_, rfl⟩
    have h := h v4_5 ev4_5
    refine lv_iinc (v := v4_5) (lv' := [(4, .int v4_5), (0, .ref (ad 0)), (1, .int v1), (2, .int v2), (3, .int v3)]) hx hb dX8_basis_81 hl (k := 4) rfl (by rw [ev4_5]; rfl) (by decide) rfl (fun ls hl => ?_)
    refine lv_goto (tgt := 37) hx hb dX8_basis_84 (by decide) ?_
    exact k37 _ _ _ _ _ hP hD hS (lv_sub hl [1, 2, 3, 4, 0] rfl) h
theorem kw_X8_basis_37 {p : Program} {l : Launch} {e : Env} {s : State} {m : MethodId} {args : Array Value} {below : List Frame} {meth : Method} {c : Code} {D : va_G} {ad : Nat → Nat} {cI cJ cR : ClassId} {A : Nat → Prop}  {Q : Int32 → ms_T → Prop} (fx : xr_Fx p m c meth cX8_basis 5 s args wsX8_basis RX8 (some .int)) (hK : xr_K D (ms_ty cI cJ cR) s) (hA : ∀ q, s.heap.size ≤ q → A q)  : ∀ (n : Nat) (S : ms_T) (v1 : Int32) (v2 : Int32) (v3 : Int32) (v4 : Int32) {H : Heap} {locs : List Loc} {ls : Array Slot}, va_P D vwCl (ms_w ad cI cJ S) H → va_D A (ms_w ad cI cJ S) → va_S A s.heap H locs → lv_has ls 5 [(0, .ref (ad 0)), (1, .int v1), (2, .int v2), (3, .int v3), (4, .int v4)] → wp_X8_basis_37 Q n S v1 v2 v3 v4 → W p l e rm_X8_basis s m args below meth c H locs 0 0 (MQ below (va_Qi Q (xr_B D (ms_ty cI cJ cR) (ms_w ad cI cJ) A) A) args s 0 0 A) (F0 m 37 ls []) := by
  intro n
  induction n with
  | zero => intro S v1 v2 v3 v4 H locs ls hP hD hS hl h; exact False.elim h
  | succ n ih => intro S v1 v2 v3 v4 H locs ls hP hD hS hl h; exact kb_X8_basis_37 fx hK hA ih hP hD hS hl h
set_option maxHeartbeats 4000000 in
set_option maxRecDepth 100000 in
theorem ct_X8_basis (l : Launch) (D : va_G) (ad : Nat → Nat) (cI cJ cR : ClassId) {S : ms_T} {a1 : Int32} {a2 : Int32} {Q : Int32 → ms_T → Prop} (h : wp_X8_basis S a1 a2 Q) : xr_I l D (ms_ty cI cJ cR) (ms_w ad cI cJ) yX8_basis wsX8_basis rm_X8_basis [.ref (ad 0), .int a1, .int a2] S Q := by
  refine xr_eI (cc := cX8_basis) (nL := 5) (ret := (some .int)) (own := RX8) (by decide) rfl rfl (Nat.le_of_ble_eq_true rfl) ?_
  intro p e s m args below meth c ls A fx hK hA hP hD hS hl
  have hl : lv_has ls 5 [(0, .ref (ad 0)), (1, .int a1), (2, .int a2)] := hl
  show W p l e rm_X8_basis s m args below meth c s.heap [] 0 0 _ _
  obtain ⟨⟨hx, hb, hml, hown, hts⟩, hrt, hlk⟩ := id fx
  have hf : 0 ≤ rm_X8_basis.cells ∧ 0 ≤ rm_X8_basis.slots := ⟨Nat.zero_le _, Nat.zero_le _⟩
  unfold wp_X8_basis at h
  refine lv_iload_n hx hb dX8_basis_0 rfl (lv_at hl 1 rfl) ?_
  refine xr_sI (n := 1) (As := [.int a1]) (rest := []) fx (ct_X8_isSum l h) gX8_basis_X8_isSum rfl rfl (by decide +kernel) ⟨Nat.le_of_ble_eq_true rfl, Nat.le_of_ble_eq_true rfl⟩ ⟨rfl, rfl⟩ hf hl.1 rfl (Nat.le_of_ble_eq_true rfl) dX8_basis_1 (fun r6 h => ?_)
  refine lv_if_eq (tgt := 15) hx hb dX8_basis_4 (by decide) (fun c4 => ?_) (fun c4 => ?_)
  · have h := h.1 c4
    refine lv_iconst (v := (-1)) hx hb dX8_basis_15 (by decide) ?_
    exact xr_rI fx hK hP hD hS h dX8_basis_16
  · have h := h.2 c4
    refine lv_aload_n hx hb dX8_basis_7 rfl (lv_at hl 0 rfl) ?_
    refine lv_iload_n hx hb dX8_basis_8 rfl (lv_at hl 2 rfl) ?_
    refine xr_vI (n := 1) (As := [.int a2]) (rest := []) fx (ct_X8_isNumber l D ad cI cJ cR h) gX8_basis_X8_isNumber rfl rfl (by decide +kernel) ⟨Nat.le_of_ble_eq_true rfl, Nat.le_of_ble_eq_true rfl⟩ ⟨rfl, rfl⟩ hf (ms_recv hK hP) hK hP hD hS hA hl.1 rfl (Nat.le_of_ble_eq_true rfl) dX8_basis_9 (fun r8 S7 H locs h hP hD hS => ?_)
    refine lv_if_ne (tgt := 17) hx hb dX8_basis_12 (by decide) (fun c12 => ?_) (fun c12 => ?_)
    · have h := h.1 c12
      refine lv_aload_n hx hb dX8_basis_17 rfl (lv_at hl 0 rfl) ?_
      refine lv_iload_n hx hb dX8_basis_18 rfl (lv_at hl 1 rfl) ?_
      refine xr_vV (n := 1) (As := [.int a1]) (rest := []) fx (ct_X8_clears l D ad cI cJ cR h) gX8_basis_X8_clears rfl rfl (by decide +kernel) ⟨Nat.le_of_ble_eq_true rfl, Nat.le_of_ble_eq_true rfl⟩ ⟨rfl, rfl⟩ hf (ms_recv hK hP) hK hP hD hS hA hl.1 rfl (Nat.le_of_ble_eq_true rfl) dX8_basis_19 (fun S9 H locs h hP hD hS => ?_)
      refine lv_aload_n hx hb dX8_basis_22 rfl (lv_at hl 0 rfl) ?_
      refine ms_get 5 (v := .ref (ad 3)) fx in_X8_basis (by decide) rfl (by decide +kernel) rfl hK hP dX8_basis_23 ?_
      refine lv_aload_n hx hb dX8_basis_26 rfl (lv_at hl 0 rfl) ?_
      refine ms_get 8 (v := .ref (ad 4)) fx in_X8_basis (by decide) rfl (by decide +kernel) rfl hK hP dX8_basis_27 ?_
      refine lv_iload_n hx hb dX8_basis_30 rfl (lv_at hl 2 rfl) ?_
      obtain ⟨hi10, h⟩ := h
      refine ms_iald 3 (by decide) fx hK hP rfl hi10 dX8_basis_31 ?_
      obtain ⟨hi11, h⟩ := h
      refine ms_iald 2 (by decide) fx hK hP rfl hi11 dX8_basis_32 ?_
      refine lv_topi (fun v3_12 ev3_12 => ?_)
      have h := h v3_12 ev3_12
      refine lv_istore_n (lv' := [(3, .int v3_12), (0, .ref (ad 0)), (1, .int a1), (2, .int a2)]) hx hb dX8_basis_33 rfl hl (by decide) rfl (fun ls hl => ?_)
      refine lv_iconst (v := 0) hx hb dX8_basis_34 (by decide) ?_
      refine lv_istore (lv' := [(4, .int 0), (3, .int v3_12), (0, .ref (ad 0)), (1, .int a1), (2, .int a2)]) hx hb dX8_basis_35 hl (by decide) rfl (fun ls hl => ?_)
      obtain ⟨n, h⟩ := h
      exact kw_X8_basis_37 fx hK hA n _ _ _ _ _ hP hD hS (lv_sub hl [2, 3, 4, 1, 0] rfl) h
    · have h := h.2 c12
      refine lv_iconst (v := (-1)) hx hb dX8_basis_15 (by decide) ?_
      exact xr_rI fx hK hP hD hS h dX8_basis_16
abbrev rm_X8_text : Room := { frames := 2, cells := 0, slots := 0, locals := 46 }
theorem in_X8_text : ∀ w ∈ wsX80, w ∈ wsX8_text := by decide +kernel
set_option maxHeartbeats 4000000 in
set_option maxRecDepth 100000 in
theorem kw_X8_text_128 {p : Program} {l : Launch} {e : Env} {s : State} {m : MethodId} {args : Array Value} {below : List Frame} {meth : Method} {c : Code} {D : va_G} {ad : Nat → Nat} {cI cJ cR : ClassId} {A : Nat → Prop} {K33 : ms_T → Int32 → Int32 → Prop} {Q : Int32 → ms_T → Prop} {S : ms_T} {v3 : Int32} {v4 : Int32} (fx : xr_Fx p m c meth cX8_text 6 s args wsX8_text RX8 (some .int)) (hK : xr_K D (ms_ty cI cJ cR) s) (hA : ∀ q, s.heap.size ≤ q → A q) (k33 : ∀ (S : ms_T) (v3 : Int32) (v4 : Int32) {H : Heap} {locs : List Loc} {ls : Array Slot}, va_P D vwCl (ms_w ad cI cJ S) H → va_D A (ms_w ad cI cJ S) → va_S A s.heap H locs → lv_has ls 6 [(0, .ref (ad 0)), (3, .int v3), (4, .int v4)] → K33 S v3 v4 → W p l e rm_X8_text s m args below meth c H locs 0 0 (MQ below (va_Qi Q (xr_B D (ms_ty cI cJ cR) (ms_w ad cI cJ) A) A) args s 0 0 A) (F0 m 33 ls [])) {H : Heap} {locs : List Loc} {ls : Array Slot} (hP : va_P D vwCl (ms_w ad cI cJ S) H) (hD : va_D A (ms_w ad cI cJ S)) (hS : va_S A s.heap H locs) (hl : lv_has ls 6 [(0, .ref (ad 0)), (3, .int v3), (4, .int v4)]) (h : wp_X8_text_128 K33 Q S v3 v4) : W p l e rm_X8_text s m args below meth c H locs 0 0 (MQ below (va_Qi Q (xr_B D (ms_ty cI cJ cR) (ms_w ad cI cJ) A) A) args s 0 0 A) (F0 m 128 ls []) := by
  obtain ⟨⟨hx, hb, hml, hown, hts⟩, hrt, hlk⟩ := id fx
  have hf : 0 ≤ rm_X8_text.cells ∧ 0 ≤ rm_X8_text.slots := ⟨Nat.zero_le _, Nat.zero_le _⟩
  unfold wp_X8_text_128 at h
  refine lv_goto (tgt := 33) hx hb dX8_text_128 (by decide) ?_
  exact k33 _ _ _ hP hD hS (lv_sub hl [0, 1, 2] rfl) h
set_option maxHeartbeats 4000000 in
set_option maxRecDepth 100000 in
theorem kb_X8_text_33 {p : Program} {l : Launch} {e : Env} {s : State} {m : MethodId} {args : Array Value} {below : List Frame} {meth : Method} {c : Code} {D : va_G} {ad : Nat → Nat} {cI cJ cR : ClassId} {A : Nat → Prop}  {K33 : ms_T → Int32 → Int32 → Prop} {Q : Int32 → ms_T → Prop} {S : ms_T} {v3 : Int32} {v4 : Int32} (fx : xr_Fx p m c meth cX8_text 6 s args wsX8_text RX8 (some .int)) (hK : xr_K D (ms_ty cI cJ cR) s) (hA : ∀ q, s.heap.size ≤ q → A q)  (k33 : ∀ (S : ms_T) (v3 : Int32) (v4 : Int32) {H : Heap} {locs : List Loc} {ls : Array Slot}, va_P D vwCl (ms_w ad cI cJ S) H → va_D A (ms_w ad cI cJ S) → va_S A s.heap H locs → lv_has ls 6 [(0, .ref (ad 0)), (3, .int v3), (4, .int v4)] → K33 S v3 v4 → W p l e rm_X8_text s m args below meth c H locs 0 0 (MQ below (va_Qi Q (xr_B D (ms_ty cI cJ cR) (ms_w ad cI cJ) A) A) args s 0 0 A) (F0 m 33 ls [])) {H : Heap} {locs : List Loc} {ls : Array Slot} (hP : va_P D vwCl (ms_w ad cI cJ S) H) (hD : va_D A (ms_w ad cI cJ S)) (hS : va_S A s.heap H locs) (hl : lv_has ls 6 [(0, .ref (ad 0)), (3, .int v3), (4, .int v4)]) (h : wb_X8_text_33 K33 Q S v3 v4) : W p l e rm_X8_text s m args below meth c H locs 0 0 (MQ below (va_Qi Q (xr_B D (ms_ty cI cJ cR) (ms_w ad cI cJ) A) A) args s 0 0 A) (F0 m 33 ls []) := by
  obtain ⟨⟨hx, hb, hml, hown, hts⟩, hrt, hlk⟩ := id fx
  have hf : 0 ≤ rm_X8_text.cells ∧ 0 ≤ rm_X8_text.slots := ⟨Nat.zero_le _, Nat.zero_le _⟩
  unfold wb_X8_text_33 at h
  refine lv_aload_n hx hb dX8_text_33 rfl (lv_at hl 0 rfl) ?_
  refine ms_get 9 (v := .ref (ad 5)) fx in_X8_text (by decide) rfl (by decide +kernel) rfl hK hP dX8_text_34 ?_
  refine lv_iload_n hx hb dX8_text_37 rfl (lv_at hl 1 rfl) ?_
  obtain ⟨hi1, h⟩ := h
  refine ms_iald 4 (by decide) fx hK hP rfl hi1 dX8_text_38 ?_
  refine lv_iconst (v := (-1)) hx hb dX8_text_39 (by decide) ?_
  refine lv_icmp_eq (tgt := 131) hx hb dX8_text_40 (by decide) (fun c40 => ?_) (fun c40 => ?_)
  · have h := h.1 c40
    refine lv_bipush (v := 97) hx hb dX8_text_131 (by decide) ?_
    refine lv_aload_n hx hb dX8_text_133 rfl (lv_at hl 0 rfl) ?_
    refine ms_get 8 (v := .ref (ad 4)) fx in_X8_text (by decide) rfl (by decide +kernel) rfl hK hP dX8_text_134 ?_
    refine lv_iload_n hx hb dX8_text_137 rfl (lv_at hl 1 rfl) ?_
    obtain ⟨hi2, h⟩ := h
    refine ms_iald 3 (by decide) fx hK hP rfl hi2 dX8_text_138 ?_
    refine lv_iadd hx hb dX8_text_139 ?_
    refine lv_aload_n hx hb dX8_text_140 rfl (lv_at hl 0 rfl) ?_
    refine ms_get 4 (v := .ref (ad 2)) fx in_X8_text (by decide) rfl (by decide +kernel) rfl hK hP dX8_text_141 ?_
    refine lv_iconst (v := 1) hx hb dX8_text_144 (by decide) ?_
    obtain ⟨hi3, h⟩ := h
    refine ms_iald 1 (by decide) fx hK hP rfl hi3 dX8_text_145 ?_
    refine lv_isub hx hb dX8_text_146 ?_
    exact xr_rI fx hK hP hD hS h dX8_text_147
  · have h := h.2 c40
    refine lv_aload_n hx hb dX8_text_43 rfl (lv_at hl 0 rfl) ?_
    refine ms_get 11 (v := .ref (ad 7)) fx in_X8_text (by decide) rfl (by decide +kernel) rfl hK hP dX8_text_44 ?_
    refine lv_aload_n hx hb dX8_text_47 rfl (lv_at hl 0 rfl) ?_
    refine ms_get 9 (v := .ref (ad 5)) fx in_X8_text (by decide) rfl (by decide +kernel) rfl hK hP dX8_text_48 ?_
    refine lv_iload_n hx hb dX8_text_51 rfl (lv_at hl 1 rfl) ?_
    obtain ⟨hi4, h⟩ := h
    refine ms_iald 4 (by decide) fx hK hP rfl hi4 dX8_text_52 ?_
    obtain ⟨hi5, h⟩ := h
    refine ms_iald 6 (by decide) fx hK hP rfl hi5 dX8_text_53 ?_
    refine lv_topi (fun v5_6 ev5_6 => ?_)
    have h := h v5_6 ev5_6
    refine lv_istore (lv' := [(5, .int v5_6), (0, .ref (ad 0)), (3, .int v3), (4, .int v4)]) hx hb dX8_text_54 hl (by decide) rfl (fun ls hl => ?_)
    refine lv_iload hx hb dX8_text_56 (lv_at hl 3 rfl) ?_
    refine lv_if_ne (tgt := 64) hx hb dX8_text_58 (by decide) (fun c58 => ?_) (fun c58 => ?_)
    · have h := h.1 c58
      refine lv_iload hx hb dX8_text_64 (lv_at hl 3 rfl) ?_
      refine lv_iload hx hb dX8_text_66 (lv_at hl 0 rfl) ?_
      refine lv_icmp_gt (tgt := 84) hx hb dX8_text_68 (by decide) (fun c68 => ?_) (fun c68 => ?_)
      · have h := h.1 c68
        refine lv_iload hx hb dX8_text_84 (lv_at hl 3 rfl) ?_
        refine lv_iload hx hb dX8_text_86 (lv_at hl 0 rfl) ?_
        refine lv_iconst (v := 1) hx hb dX8_text_88 (by decide) ?_
        refine lv_iadd hx hb dX8_text_89 ?_
        refine lv_icmp_ne (tgt := 96) hx hb dX8_text_90 (by decide) (fun c90 => ?_) (fun c90 => ?_)
        · have h := h.1 c90
          refine lv_iload hx hb dX8_text_96 (lv_at hl 3 rfl) ?_
          refine lv_aload_n hx hb dX8_text_98 rfl (lv_at hl 1 rfl) ?_
          refine ms_get 11 (v := .ref (ad 7)) fx in_X8_text (by decide) rfl (by decide +kernel) rfl hK hP dX8_text_99 ?_
          refine lv_iload_n hx hb dX8_text_102 rfl (lv_at hl 2 rfl) ?_
          obtain ⟨hi7, h⟩ := h
          refine ms_iald 6 (by decide) fx hK hP rfl hi7 dX8_text_103 ?_
          refine lv_iconst (v := 1) hx hb dX8_text_104 (by decide) ?_
          refine lv_isub hx hb dX8_text_105 ?_
          refine lv_icmp_ne (tgt := 112) hx hb dX8_text_106 (by decide) (fun c106 => ?_) (fun c106 => ?_)
          · have h := h.1 c106
            refine lv_iload hx hb dX8_text_112 (lv_at hl 3 rfl) ?_
            refine lv_iload hx hb dX8_text_114 (lv_at hl 0 rfl) ?_
            refine lv_iconst (v := 2) hx hb dX8_text_116 (by decide) ?_
            refine lv_iadd hx hb dX8_text_117 ?_
            refine lv_isub hx hb dX8_text_118 ?_
            refine lv_topi (fun v4_8 ev4_8 => ?_)
            have h := h v4_8 ev4_8
            refine lv_istore (lv' := [(4, .int v4_8), (5, .int v5_6), (0, .ref (ad 0)), (3, .int v3)]) hx hb dX8_text_119 hl (by decide) rfl (fun ls hl => ?_)
            refine lv_aload_n hx hb dX8_text_121 rfl (lv_at hl 2 rfl) ?_
            refine ms_get 10 (v := .ref (ad 6)) fx in_X8_text (by decide) rfl (by decide +kernel) rfl hK hP dX8_text_122 ?_
            refine lv_iload_n hx hb dX8_text_125 rfl (lv_at hl 3 rfl) ?_
            obtain ⟨hi9, h⟩ := h
            refine ms_iald 5 (by decide) fx hK hP rfl hi9 dX8_text_126 ?_
            refine lv_topi (fun v3_10 ev3_10 => ?_)
            have h := h v3_10 ev3_10
            refine lv_istore_n (lv' := [(3, .int v3_10), (4, .int v4_8), (5, .int v5_6), (0, .ref (ad 0))]) hx hb dX8_text_127 rfl hl (by decide) rfl (fun ls hl => ?_)
            exact kw_X8_text_128 fx hK hA k33 hP hD hS (lv_sub hl [3, 0, 1] rfl) h
          · have h := h.2 c106
            refine lv_bipush (v := 93) hx hb dX8_text_109 (by decide) ?_
            exact xr_rI fx hK hP hD hS h dX8_text_111
        · have h := h.2 c90
          refine lv_bipush (v := 44) hx hb dX8_text_93 (by decide) ?_
          exact xr_rI fx hK hP hD hS h dX8_text_95
      · have h := h.2 c68
        refine lv_aload_n hx hb dX8_text_71 rfl (lv_at hl 1 rfl) ?_
        refine ms_get 9 (v := .ref (ad 5)) fx in_X8_text (by decide) rfl (by decide +kernel) rfl hK hP dX8_text_72 ?_
        refine lv_iload_n hx hb dX8_text_75 rfl (lv_at hl 2 rfl) ?_
        obtain ⟨hi11, h⟩ := h
        refine ms_iald 4 (by decide) fx hK hP rfl hi11 dX8_text_76 ?_
        refine lv_topi (fun v3_12 ev3_12 => ?_)
        have h := h v3_12 ev3_12
        refine lv_istore_n (lv' := [(3, .int v3_12), (5, .int v5_6), (0, .ref (ad 0)), (4, .int v4)]) hx hb dX8_text_77 rfl hl (by decide) rfl (fun ls hl => ?_)
        obtain ⟨v4_13, ev4_13⟩ : ∃ z : Int32, z = v4 + (-1) := ⟨_, rfl⟩
        have h := h v4_13 ev4_13
        refine lv_iinc (v := v4_13) (lv' := [(4, .int v4_13), (3, .int v3_12), (5, .int v5_6), (0, .ref (ad 0))]) hx hb dX8_text_78 hl (k := 3) rfl (by rw [ev4_13]; rfl) (by decide) rfl (fun ls hl => ?_)
        refine lv_goto (tgt := 128) hx hb dX8_text_81 (by decide) ?_
        exact kw_X8_text_128 fx hK hA k33 hP hD hS (lv_sub hl [3, 1, 0] rfl) h
    · have h := h.2 c58
      refine lv_bipush (v := 91) hx hb dX8_text_61 (by decide) ?_
      exact xr_rI fx hK hP hD hS h dX8_text_63
theorem kw_X8_text_33 {p : Program} {l : Launch} {e : Env} {s : State} {m : MethodId} {args : Array Value} {below : List Frame} {meth : Method} {c : Code} {D : va_G} {ad : Nat → Nat} {cI cJ cR : ClassId} {A : Nat → Prop}  {Q : Int32 → ms_T → Prop} (fx : xr_Fx p m c meth cX8_text 6 s args wsX8_text RX8 (some .int)) (hK : xr_K D (ms_ty cI cJ cR) s) (hA : ∀ q, s.heap.size ≤ q → A q)  : ∀ (n : Nat) (S : ms_T) (v3 : Int32) (v4 : Int32) {H : Heap} {locs : List Loc} {ls : Array Slot}, va_P D vwCl (ms_w ad cI cJ S) H → va_D A (ms_w ad cI cJ S) → va_S A s.heap H locs → lv_has ls 6 [(0, .ref (ad 0)), (3, .int v3), (4, .int v4)] → wp_X8_text_33 Q n S v3 v4 → W p l e rm_X8_text s m args below meth c H locs 0 0 (MQ below (va_Qi Q (xr_B D (ms_ty cI cJ cR) (ms_w ad cI cJ) A) A) args s 0 0 A) (F0 m 33 ls []) := by
  intro n
  induction n with
  | zero => intro S v3 v4 H locs ls hP hD hS hl h; exact False.elim h
  | succ n ih => intro S v3 v4 H locs ls hP hD hS hl h; exact kb_X8_text_33 fx hK hA ih hP hD hS hl h
set_option maxHeartbeats 4000000 in
set_option maxRecDepth 100000 in
theorem ct_X8_text (l : Launch) (D : va_G) (ad : Nat → Nat) (cI cJ cR : ClassId) {S : ms_T} {a1 : Int32} {a2 : Int32} {Q : Int32 → ms_T → Prop} (h : wp_X8_text S a1 a2 Q) : xr_I l D (ms_ty cI cJ cR) (ms_w ad cI cJ) yX8_text wsX8_text rm_X8_text [.ref (ad 0), .int a1, .int a2] S Q := by
  refine xr_eI (cc := cX8_text) (nL := 6) (ret := (some .int)) (own := RX8) (by decide) rfl rfl (Nat.le_of_ble_eq_true rfl) ?_
  intro p e s m args below meth c ls A fx hK hA hP hD hS hl
  have hl : lv_has ls 6 [(0, .ref (ad 0)), (1, .int a1), (2, .int a2)] := hl
  show W p l e rm_X8_text s m args below meth c s.heap [] 0 0 _ _
  obtain ⟨⟨hx, hb, hml, hown, hts⟩, hrt, hlk⟩ := id fx
  have hf : 0 ≤ rm_X8_text.cells ∧ 0 ≤ rm_X8_text.slots := ⟨Nat.zero_le _, Nat.zero_le _⟩
  unfold wp_X8_text at h
  refine lv_aload_n hx hb dX8_text_0 rfl (lv_at hl 0 rfl) ?_
  refine lv_iload_n hx hb dX8_text_1 rfl (lv_at hl 1 rfl) ?_
  refine xr_vI (n := 1) (As := [.int a1]) (rest := []) fx (ct_X8_isNumber l D ad cI cJ cR h) gX8_text_X8_isNumber rfl rfl (by decide +kernel) ⟨Nat.le_of_ble_eq_true rfl, Nat.le_of_ble_eq_true rfl⟩ ⟨rfl, rfl⟩ hf (ms_recv hK hP) hK hP hD hS hA hl.1 rfl (Nat.le_of_ble_eq_true rfl) dX8_text_2 (fun r15 S14 H locs h hP hD hS => ?_)
  refine lv_if_eq (tgt := 26) hx hb dX8_text_5 (by decide) (fun c5 => ?_) (fun c5 => ?_)
  · have h := h.1 c5
    refine lv_iconst (v := (-1)) hx hb dX8_text_26 (by decide) ?_
    exact xr_rI fx hK hP hD hS h dX8_text_27
  · have h := h.2 c5
    refine lv_iload_n hx hb dX8_text_8 rfl (lv_at hl 2 rfl) ?_
    refine lv_i2l hx hb dX8_text_9 rfl ?_
    refine lv_lconst (v := 0) hx hb dX8_text_10 (by decide) ?_
    refine lv_aload_n hx hb dX8_text_11 rfl (lv_at hl 0 rfl) ?_
    refine ms_get 11 (v := .ref (ad 7)) fx in_X8_text (by decide) rfl (by decide +kernel) rfl hK hP dX8_text_12 ?_
    refine lv_iload_n hx hb dX8_text_15 rfl (lv_at hl 1 rfl) ?_
    obtain ⟨hi16, h⟩ := h
    refine ms_iald 6 (by decide) fx hK hP rfl hi16 dX8_text_16 ?_
    refine lv_iconst (v := 1) hx hb dX8_text_17 (by decide) ?_
    refine lv_isub hx hb dX8_text_18 ?_
    refine lv_i2l hx hb dX8_text_19 rfl ?_
    refine xr_sI (n := 3) (As := [.long a2.toInt64, .long 0, .long (((S14.2.1 6 a1.toNatClampNeg) - 1).toInt64)]) (rest := []) fx (ct_X8_in l h) gX8_text_X8_in rfl rfl (by decide +kernel) ⟨Nat.le_of_ble_eq_true rfl, Nat.le_of_ble_eq_true rfl⟩ ⟨rfl, rfl⟩ hf hl.1 rfl (Nat.le_of_ble_eq_true rfl) dX8_text_20 (fun r17 h => ?_)
    refine lv_if_ne (tgt := 28) hx hb dX8_text_23 (by decide) (fun c23 => ?_) (fun c23 => ?_)
    · have h := h.1 c23
      refine lv_iload_n hx hb dX8_text_28 rfl (lv_at hl 1 rfl) ?_
      refine lv_istore_n (lv' := [(3, .int a1), (0, .ref (ad 0)), (1, .int a1), (2, .int a2)]) hx hb dX8_text_29 rfl hl (by decide) rfl (fun ls hl => ?_)
      refine lv_iload_n hx hb dX8_text_30 rfl (lv_at hl 3 rfl) ?_
      refine lv_istore (lv' := [(4, .int a2), (3, .int a1), (0, .ref (ad 0)), (1, .int a1), (2, .int a2)]) hx hb dX8_text_31 hl (by decide) rfl (fun ls hl => ?_)
      obtain ⟨n, h⟩ := h
      exact kw_X8_text_33 fx hK hA n _ _ _ hP hD hS (lv_sub hl [2, 1, 0] rfl) h
    · have h := h.2 c23
      refine lv_iconst (v := (-1)) hx hb dX8_text_26 (by decide) ?_
      exact xr_rI fx hK hP hD hS h dX8_text_27
abbrev rm_X8_isFirst : Room := { frames := 1, cells := 0, slots := 0, locals := 23 }
theorem in_X8_isFirst : ∀ w ∈ wsX80, w ∈ wsX8_isFirst := by decide +kernel
set_option maxHeartbeats 4000000 in
set_option maxRecDepth 100000 in
theorem kb_X8_isFirst_13 {p : Program} {l : Launch} {e : Env} {s : State} {m : MethodId} {args : Array Value} {below : List Frame} {meth : Method} {c : Code} {D : va_G} {ad : Nat → Nat} {cI cJ cR : ClassId} {A : Nat → Prop}  {K13 : ms_T → Int32 → Int32 → Prop} {Q : Int32 → ms_T → Prop} {S : ms_T} {v4 : Int32} {v5 : Int32} (fx : xr_Fx p m c meth cX8_isFirst 6 s args wsX8_isFirst RX8 (some .boolean)) (hK : xr_K D (ms_ty cI cJ cR) s) (hA : ∀ q, s.heap.size ≤ q → A q)  (k13 : ∀ (S : ms_T) (v4 : Int32) (v5 : Int32) {H : Heap} {locs : List Loc} {ls : Array Slot}, va_P D vwCl (ms_w ad cI cJ S) H → va_D A (ms_w ad cI cJ S) → va_S A s.heap H locs → lv_has ls 6 [(0, .ref (ad 0)), (4, .int v4), (5, .int v5)] → K13 S v4 v5 → W p l e rm_X8_isFirst s m args below meth c H locs 0 0 (MQ below (va_Qi Q (xr_B D (ms_ty cI cJ cR) (ms_w ad cI cJ) A) A) args s 0 0 A) (F0 m 13 ls [])) {H : Heap} {locs : List Loc} {ls : Array Slot} (hP : va_P D vwCl (ms_w ad cI cJ S) H) (hD : va_D A (ms_w ad cI cJ S)) (hS : va_S A s.heap H locs) (hl : lv_has ls 6 [(0, .ref (ad 0)), (4, .int v4), (5, .int v5)]) (h : wb_X8_isFirst_13 K13 Q S v4 v5) : W p l e rm_X8_isFirst s m args below meth c H locs 0 0 (MQ below (va_Qi Q (xr_B D (ms_ty cI cJ cR) (ms_w ad cI cJ) A) A) args s 0 0 A) (F0 m 13 ls []) := by
  obtain ⟨⟨hx, hb, hml, hown, hts⟩, hrt, hlk⟩ := id fx
  have hf : 0 ≤ rm_X8_isFirst.cells ∧ 0 ≤ rm_X8_isFirst.slots := ⟨Nat.zero_le _, Nat.zero_le _⟩
  unfold wb_X8_isFirst_13 at h
  refine lv_iload hx hb dX8_isFirst_13 (lv_at hl 2 rfl) ?_
  refine lv_aload_n hx hb dX8_isFirst_15 rfl (lv_at hl 0 rfl) ?_
  refine ms_get 5 (v := .ref (ad 3)) fx in_X8_isFirst (by decide) rfl (by decide +kernel) rfl hK hP dX8_isFirst_16 ?_
  refine lv_iload hx hb dX8_isFirst_19 (lv_at hl 1 rfl) ?_
  obtain ⟨hi1, h⟩ := h
  refine ms_iald 2 (by decide) fx hK hP rfl hi1 dX8_isFirst_21 ?_
  refine lv_icmp_gt (tgt := 50) hx hb dX8_isFirst_22 (by decide) (fun c22 => ?_) (fun c22 => ?_)
  · have h := h.1 c22
    refine lv_iconst (v := 1) hx hb dX8_isFirst_50 (by decide) ?_
    exact xr_rZ fx rfl hK hP hD hS h dX8_isFirst_51
  · have h := h.2 c22
    refine lv_aload_n hx hb dX8_isFirst_25 rfl (lv_at hl 0 rfl) ?_
    refine ms_get 12 (v := .ref (ad 8)) fx in_X8_isFirst (by decide) rfl (by decide +kernel) rfl hK hP dX8_isFirst_26 ?_
    refine lv_aload_n hx hb dX8_isFirst_29 rfl (lv_at hl 0 rfl) ?_
    refine lv_iload hx hb dX8_isFirst_30 (lv_at hl 1 rfl) ?_
    refine lv_iload hx hb dX8_isFirst_32 (lv_at hl 2 rfl) ?_
    refine xr_vI (n := 2) (As := [.int v4, .int v5]) (rest := [.ref (ad 8)]) fx (ct_X8_beginning l D ad cI cJ cR h) gX8_isFirst_X8_beginning rfl rfl (by decide +kernel) ⟨Nat.le_of_ble_eq_true rfl, Nat.le_of_ble_eq_true rfl⟩ ⟨rfl, rfl⟩ hf (ms_recv hK hP) hK hP hD hS hA hl.1 rfl (Nat.le_of_ble_eq_true rfl) dX8_isFirst_34 (fun r3 S2 H locs h hP hD hS => ?_)
    obtain ⟨hi4, h⟩ := h
    refine ms_iald 7 (by decide) fx hK hP rfl hi4 dX8_isFirst_37 ?_
    refine lv_iconst (v := (-1)) hx hb dX8_isFirst_38 (by decide) ?_
    refine lv_icmp_eq (tgt := 44) hx hb dX8_isFirst_39 (by decide) (fun c39 => ?_) (fun c39 => ?_)
    · have h := h.1 c39
      obtain ⟨v5_5, ev5_5⟩ : ∃ z : Int32, z = v5 + 1 := ⟨_, rfl⟩
      have h := h v5_5 ev5_5
      refine lv_iinc (v := v5_5) (lv' := [(5, .int v5_5), (0, .ref (ad 0)), (4, .int v4)]) hx hb dX8_isFirst_44 hl (k := 2) rfl (by rw [ev5_5]; rfl) (by decide) rfl (fun ls hl => ?_)
      refine lv_goto (tgt := 13) hx hb dX8_isFirst_47 (by decide) ?_
      exact k13 _ _ _ hP hD hS (lv_sub hl [1, 2, 0] rfl) h
    · have h := h.2 c39
      refine lv_iconst (v := 0) hx hb dX8_isFirst_42 (by decide) ?_
      exact xr_rZ fx rfl hK hP hD hS h dX8_isFirst_43
theorem kw_X8_isFirst_13 {p : Program} {l : Launch} {e : Env} {s : State} {m : MethodId} {args : Array Value} {below : List Frame} {meth : Method} {c : Code} {D : va_G} {ad : Nat → Nat} {cI cJ cR : ClassId} {A : Nat → Prop}  {Q : Int32 → ms_T → Prop} (fx : xr_Fx p m c meth cX8_isFirst 6 s args wsX8_isFirst RX8 (some .boolean)) (hK : xr_K D (ms_ty cI cJ cR) s) (hA : ∀ q, s.heap.size ≤ q → A q)  : ∀ (n : Nat) (S : ms_T) (v4 : Int32) (v5 : Int32) {H : Heap} {locs : List Loc} {ls : Array Slot}, va_P D vwCl (ms_w ad cI cJ S) H → va_D A (ms_w ad cI cJ S) → va_S A s.heap H locs → lv_has ls 6 [(0, .ref (ad 0)), (4, .int v4), (5, .int v5)] → wp_X8_isFirst_13 Q n S v4 v5 → W p l e rm_X8_isFirst s m args below meth c H locs 0 0 (MQ below (va_Qi Q (xr_B D (ms_ty cI cJ cR) (ms_w ad cI cJ) A) A) args s 0 0 A) (F0 m 13 ls []) := by
  intro n
  induction n with
  | zero => intro S v4 v5 H locs ls hP hD hS hl h; exact False.elim h
  | succ n ih => intro S v4 v5 H locs ls hP hD hS hl h; exact kb_X8_isFirst_13 fx hK hA ih hP hD hS hl h
set_option maxHeartbeats 4000000 in
set_option maxRecDepth 100000 in
theorem ct_X8_isFirst (l : Launch) (D : va_G) (ad : Nat → Nat) (cI cJ cR : ClassId) {S : ms_T} {a1 : Int32} {a2 : Int32} {a3 : Int32} {Q : Int32 → ms_T → Prop} (h : wp_X8_isFirst S a1 a2 a3 Q) : xr_I l D (ms_ty cI cJ cR) (ms_w ad cI cJ) yX8_isFirst wsX8_isFirst rm_X8_isFirst [.ref (ad 0), .int a1, .int a2, .int a3] S Q := by
  refine xr_eI (cc := cX8_isFirst) (nL := 6) (ret := (some .boolean)) (own := RX8) (by decide) rfl rfl (Nat.le_of_ble_eq_true rfl) ?_
  intro p e s m args below meth c ls A fx hK hA hP hD hS hl
  have hl : lv_has ls 6 [(0, .ref (ad 0)), (1, .int a1), (2, .int a2), (3, .int a3)] := hl
  show W p l e rm_X8_isFirst s m args below meth c s.heap [] 0 0 _ _
  obtain ⟨⟨hx, hb, hml, hown, hts⟩, hrt, hlk⟩ := id fx
  have hf : 0 ≤ rm_X8_isFirst.cells ∧ 0 ≤ rm_X8_isFirst.slots := ⟨Nat.zero_le _, Nat.zero_le _⟩
  unfold wp_X8_isFirst at h
  refine lv_aload_n hx hb dX8_isFirst_0 rfl (lv_at hl 0 rfl) ?_
  refine lv_iload_n hx hb dX8_isFirst_1 rfl (lv_at hl 1 rfl) ?_
  refine lv_iload_n hx hb dX8_isFirst_2 rfl (lv_at hl 2 rfl) ?_
  refine xr_vI (n := 2) (As := [.int a1, .int a2]) (rest := []) fx (ct_X8_end l D ad cI cJ cR h) gX8_isFirst_X8_end rfl rfl (by decide +kernel) ⟨Nat.le_of_ble_eq_true rfl, Nat.le_of_ble_eq_true rfl⟩ ⟨rfl, rfl⟩ hf (ms_recv hK hP) hK hP hD hS hA hl.1 rfl (Nat.le_of_ble_eq_true rfl) dX8_isFirst_3 (fun r7 S6 H locs h hP hD hS => ?_)
  refine lv_istore (lv' := [(4, .int r7), (0, .ref (ad 0)), (1, .int a1), (2, .int a2), (3, .int a3)]) hx hb dX8_isFirst_6 hl (by decide) rfl (fun ls hl => ?_)
  refine lv_iload_n hx hb dX8_isFirst_8 rfl (lv_at hl 4 rfl) ?_
  refine lv_iconst (v := 1) hx hb dX8_isFirst_9 (by decide) ?_
  refine lv_iadd hx hb dX8_isFirst_10 ?_
  refine lv_topi (fun v5_8 ev5_8 => ?_)
  have h := h v5_8 ev5_8
  refine lv_istore (lv' := [(5, .int v5_8), (4, .int r7), (0, .ref (ad 0)), (1, .int a1), (2, .int a2), (3, .int a3)]) hx hb dX8_isFirst_11 hl (by decide) rfl (fun ls hl => ?_)
  obtain ⟨n, h⟩ := h
  exact kw_X8_isFirst_13 fx hK hA n _ _ _ hP hD hS (lv_sub hl [2, 1, 0] rfl) h
abbrev rm_X8_firstChief : Room := { frames := 2, cells := 0, slots := 0, locals := 48 }
theorem in_X8_firstChief : ∀ w ∈ wsX80, w ∈ wsX8_firstChief := by decide +kernel
set_option maxHeartbeats 4000000 in
set_option maxRecDepth 100000 in
theorem kw_X8_firstChief_51 {p : Program} {l : Launch} {e : Env} {s : State} {m : MethodId} {args : Array Value} {below : List Frame} {meth : Method} {c : Code} {D : va_G} {ad : Nat → Nat} {cI cJ cR : ClassId} {A : Nat → Prop} {K9 : ms_T → Int32 → Int32 → Int32 → Prop} {Q : Int32 → ms_T → Prop} {S : ms_T} {v1 : Int32} {v2 : Int32} {v3 : Int32} (fx : xr_Fx p m c meth cX8_firstChief 4 s args wsX8_firstChief RX8 (some .int)) (hK : xr_K D (ms_ty cI cJ cR) s) (hA : ∀ q, s.heap.size ≤ q → A q) (k9 : ∀ (S : ms_T) (v1 : Int32) (v2 : Int32) (v3 : Int32) {H : Heap} {locs : List Loc} {ls : Array Slot}, va_P D vwCl (ms_w ad cI cJ S) H → va_D A (ms_w ad cI cJ S) → va_S A s.heap H locs → lv_has ls 4 [(0, .ref (ad 0)), (1, .int v1), (2, .int v2), (3, .int v3)] → K9 S v1 v2 v3 → W p l e rm_X8_firstChief s m args below meth c H locs 0 0 (MQ below (va_Qi Q (xr_B D (ms_ty cI cJ cR) (ms_w ad cI cJ) A) A) args s 0 0 A) (F0 m 9 ls [])) {H : Heap} {locs : List Loc} {ls : Array Slot} (hP : va_P D vwCl (ms_w ad cI cJ S) H) (hD : va_D A (ms_w ad cI cJ S)) (hS : va_S A s.heap H locs) (hl : lv_has ls 4 [(0, .ref (ad 0)), (1, .int v1), (2, .int v2), (3, .int v3)]) (h : wp_X8_firstChief_51 K9 Q S v1 v2 v3) : W p l e rm_X8_firstChief s m args below meth c H locs 0 0 (MQ below (va_Qi Q (xr_B D (ms_ty cI cJ cR) (ms_w ad cI cJ) A) A) args s 0 0 A) (F0 m 51 ls []) := by
  obtain ⟨⟨hx, hb, hml, hown, hts⟩, hrt, hlk⟩ := id fx
  have hf : 0 ≤ rm_X8_firstChief.cells ∧ 0 ≤ rm_X8_firstChief.slots := ⟨Nat.zero_le _, Nat.zero_le _⟩
  unfold wp_X8_firstChief_51 at h
  obtain ⟨v3_1, ev3_1⟩ : ∃ z : Int32, z = v3 + (-1) := ⟨_, rfl⟩
  have h := h v3_1 ev3_1
  refine lv_iinc (v := v3_1) (lv' := [(3, .int v3_1), (0, .ref (ad 0)), (1, .int v1), (2, .int v2)]) hx hb dX8_firstChief_51 hl (k := 3) rfl (by rw [ev3_1]; rfl) (by decide) rfl (fun ls hl => ?_)
  refine lv_goto (tgt := 9) hx hb dX8_firstChief_54 (by decide) ?_
  exact k9 _ _ _ _ hP hD hS (lv_sub hl [1, 2, 3, 0] rfl) h
set_option maxHeartbeats 4000000 in
set_option maxRecDepth 100000 in
theorem kb_X8_firstChief_9 {p : Program} {l : Launch} {e : Env} {s : State} {m : MethodId} {args : Array Value} {below : List Frame} {meth : Method} {c : Code} {D : va_G} {ad : Nat → Nat} {cI cJ cR : ClassId} {A : Nat → Prop}  {K9 : ms_T → Int32 → Int32 → Int32 → Prop} {Q : Int32 → ms_T → Prop} {S : ms_T} {v1 : Int32} {v2 : Int32} {v3 : Int32} (fx : xr_Fx p m c meth cX8_firstChief 4 s args wsX8_firstChief RX8 (some .int)) (hK : xr_K D (ms_ty cI cJ cR) s) (hA : ∀ q, s.heap.size ≤ q → A q)  (k9 : ∀ (S : ms_T) (v1 : Int32) (v2 : Int32) (v3 : Int32) {H : Heap} {locs : List Loc} {ls : Array Slot}, va_P D vwCl (ms_w ad cI cJ S) H → va_D A (ms_w ad cI cJ S) → va_S A s.heap H locs → lv_has ls 4 [(0, .ref (ad 0)), (1, .int v1), (2, .int v2), (3, .int v3)] → K9 S v1 v2 v3 → W p l e rm_X8_firstChief s m args below meth c H locs 0 0 (MQ below (va_Qi Q (xr_B D (ms_ty cI cJ cR) (ms_w ad cI cJ) A) A) args s 0 0 A) (F0 m 9 ls [])) {H : Heap} {locs : List Loc} {ls : Array Slot} (hP : va_P D vwCl (ms_w ad cI cJ S) H) (hD : va_D A (ms_w ad cI cJ S)) (hS : va_S A s.heap H locs) (hl : lv_has ls 4 [(0, .ref (ad 0)), (1, .int v1), (2, .int v2), (3, .int v3)]) (h : wb_X8_firstChief_9 K9 Q S v1 v2 v3) : W p l e rm_X8_firstChief s m args below meth c H locs 0 0 (MQ below (va_Qi Q (xr_B D (ms_ty cI cJ cR) (ms_w ad cI cJ) A) A) args s 0 0 A) (F0 m 9 ls []) := by
  obtain ⟨⟨hx, hb, hml, hown, hts⟩, hrt, hlk⟩ := id fx
  have hf : 0 ≤ rm_X8_firstChief.cells ∧ 0 ≤ rm_X8_firstChief.slots := ⟨Nat.zero_le _, Nat.zero_le _⟩
  unfold wb_X8_firstChief_9 at h
  refine lv_aload_n hx hb dX8_firstChief_9 rfl (lv_at hl 0 rfl) ?_
  refine ms_get 12 (v := .ref (ad 8)) fx in_X8_firstChief (by decide) rfl (by decide +kernel) rfl hK hP dX8_firstChief_10 ?_
  refine lv_aload_n hx hb dX8_firstChief_13 rfl (lv_at hl 0 rfl) ?_
  refine lv_aload_n hx hb dX8_firstChief_14 rfl (lv_at hl 0 rfl) ?_
  refine lv_iload_n hx hb dX8_firstChief_15 rfl (lv_at hl 1 rfl) ?_
  refine lv_iload_n hx hb dX8_firstChief_16 rfl (lv_at hl 2 rfl) ?_
  refine xr_vI (n := 2) (As := [.int v1, .int v2]) (rest := [.ref (ad 0), .ref (ad 8)]) fx (ct_X8_end l D ad cI cJ cR h) gX8_firstChief_X8_end rfl rfl (by decide +kernel) ⟨Nat.le_of_ble_eq_true rfl, Nat.le_of_ble_eq_true rfl⟩ ⟨rfl, rfl⟩ hf (ms_recv hK hP) hK hP hD hS hA hl.1 rfl (Nat.le_of_ble_eq_true rfl) dX8_firstChief_17 (fun r3 S2 H locs h hP hD hS => ?_)
  refine lv_iload_n hx hb dX8_firstChief_20 rfl (lv_at hl 3 rfl) ?_
  refine xr_vI (n := 2) (As := [.int r3, .int v3]) (rest := [.ref (ad 8)]) fx (ct_X8_beginning l D ad cI cJ cR h) gX8_firstChief_X8_beginning rfl rfl (by decide +kernel) ⟨Nat.le_of_ble_eq_true rfl, Nat.le_of_ble_eq_true rfl⟩ ⟨rfl, rfl⟩ hf (ms_recv hK hP) hK hP hD hS hA hl.1 rfl (Nat.le_of_ble_eq_true rfl) dX8_firstChief_21 (fun r5 S4 H locs h hP hD hS => ?_)
  obtain ⟨hi6, h⟩ := h
  refine ms_iald 7 (by decide) fx hK hP rfl hi6 dX8_firstChief_24 ?_
  refine lv_iconst (v := (-1)) hx hb dX8_firstChief_25 (by decide) ?_
  refine lv_icmp_eq (tgt := 51) hx hb dX8_firstChief_26 (by decide) (fun c26 => ?_) (fun c26 => ?_)
  · have h := h.1 c26
    exact kw_X8_firstChief_51 fx hK hA k9 hP hD hS (lv_sub hl [0, 1, 2, 3] rfl) h
  · have h := h.2 c26
    refine lv_iload_n hx hb dX8_firstChief_29 rfl (lv_at hl 3 rfl) ?_
    refine lv_aload_n hx hb dX8_firstChief_30 rfl (lv_at hl 0 rfl) ?_
    refine ms_get 5 (v := .ref (ad 3)) fx in_X8_firstChief (by decide) rfl (by decide +kernel) rfl hK hP dX8_firstChief_31 ?_
    refine lv_iload_n hx hb dX8_firstChief_34 rfl (lv_at hl 1 rfl) ?_
    obtain ⟨hi7, h⟩ := h
    refine ms_iald 2 (by decide) fx hK hP rfl hi7 dX8_firstChief_35 ?_
    refine lv_iload_n hx hb dX8_firstChief_36 rfl (lv_at hl 2 rfl) ?_
    refine lv_isub hx hb dX8_firstChief_37 ?_
    refine lv_icmp_ge (tgt := 57) hx hb dX8_firstChief_38 (by decide) (fun c38 => ?_) (fun c38 => ?_)
    · have h := h.1 c38
      refine lv_iload_n hx hb dX8_firstChief_57 rfl (lv_at hl 3 rfl) ?_
      exact xr_rI fx hK hP hD hS h dX8_firstChief_58
    · have h := h.2 c38
      refine lv_aload_n hx hb dX8_firstChief_41 rfl (lv_at hl 0 rfl) ?_
      refine lv_iload_n hx hb dX8_firstChief_42 rfl (lv_at hl 1 rfl) ?_
      refine lv_iload_n hx hb dX8_firstChief_43 rfl (lv_at hl 2 rfl) ?_
      refine lv_iload_n hx hb dX8_firstChief_44 rfl (lv_at hl 3 rfl) ?_
      refine xr_vI (n := 3) (As := [.int v1, .int v2, .int v3]) (rest := []) fx (ct_X8_isFirst l D ad cI cJ cR h) gX8_firstChief_X8_isFirst rfl rfl (by decide +kernel) ⟨Nat.le_of_ble_eq_true rfl, Nat.le_of_ble_eq_true rfl⟩ ⟨rfl, rfl⟩ hf (ms_recv hK hP) hK hP hD hS hA hl.1 rfl (Nat.le_of_ble_eq_true rfl) dX8_firstChief_45 (fun r9 S8 H locs h hP hD hS => ?_)
      refine lv_if_ne (tgt := 57) hx hb dX8_firstChief_48 (by decide) (fun c48 => ?_) (fun c48 => ?_)
      · have h := h.1 c48
        refine lv_iload_n hx hb dX8_firstChief_57 rfl (lv_at hl 3 rfl) ?_
        exact xr_rI fx hK hP hD hS h dX8_firstChief_58
      · have h := h.2 c48
        exact kw_X8_firstChief_51 fx hK hA k9 hP hD hS (lv_sub hl [0, 1, 2, 3] rfl) h
theorem kw_X8_firstChief_9 {p : Program} {l : Launch} {e : Env} {s : State} {m : MethodId} {args : Array Value} {below : List Frame} {meth : Method} {c : Code} {D : va_G} {ad : Nat → Nat} {cI cJ cR : ClassId} {A : Nat → Prop}  {Q : Int32 → ms_T → Prop} (fx : xr_Fx p m c meth cX8_firstChief 4 s args wsX8_firstChief RX8 (some .int)) (hK : xr_K D (ms_ty cI cJ cR) s) (hA : ∀ q, s.heap.size ≤ q → A q)  : ∀ (n : Nat) (S : ms_T) (v1 : Int32) (v2 : Int32) (v3 : Int32) {H : Heap} {locs : List Loc} {ls : Array Slot}, va_P D vwCl (ms_w ad cI cJ S) H → va_D A (ms_w ad cI cJ S) → va_S A s.heap H locs → lv_has ls 4 [(0, .ref (ad 0)), (1, .int v1), (2, .int v2), (3, .int v3)] → wp_X8_firstChief_9 Q n S v1 v2 v3 → W p l e rm_X8_firstChief s m args below meth c H locs 0 0 (MQ below (va_Qi Q (xr_B D (ms_ty cI cJ cR) (ms_w ad cI cJ) A) A) args s 0 0 A) (F0 m 9 ls []) := by
  intro n
  induction n with
  | zero => intro S v1 v2 v3 H locs ls hP hD hS hl h; exact False.elim h
  | succ n ih => intro S v1 v2 v3 H locs ls hP hD hS hl h; exact kb_X8_firstChief_9 fx hK hA ih hP hD hS hl h
set_option maxHeartbeats 4000000 in
set_option maxRecDepth 100000 in
theorem ct_X8_firstChief (l : Launch) (D : va_G) (ad : Nat → Nat) (cI cJ cR : ClassId) {S : ms_T} {a1 : Int32} {a2 : Int32} {Q : Int32 → ms_T → Prop} (h : wp_X8_firstChief S a1 a2 Q) : xr_I l D (ms_ty cI cJ cR) (ms_w ad cI cJ) yX8_firstChief wsX8_firstChief rm_X8_firstChief [.ref (ad 0), .int a1, .int a2] S Q := by
  refine xr_eI (cc := cX8_firstChief) (nL := 4) (ret := (some .int)) (own := RX8) (by decide) rfl rfl (Nat.le_of_ble_eq_true rfl) ?_
  intro p e s m args below meth c ls A fx hK hA hP hD hS hl
  have hl : lv_has ls 4 [(0, .ref (ad 0)), (1, .int a1), (2, .int a2)] := hl
  show W p l e rm_X8_firstChief s m args below meth c s.heap [] 0 0 _ _
  obtain ⟨⟨hx, hb, hml, hown, hts⟩, hrt, hlk⟩ := id fx
  have hf : 0 ≤ rm_X8_firstChief.cells ∧ 0 ≤ rm_X8_firstChief.slots := ⟨Nat.zero_le _, Nat.zero_le _⟩
  unfold wp_X8_firstChief at h
  refine lv_aload_n hx hb dX8_firstChief_0 rfl (lv_at hl 0 rfl) ?_
  refine ms_get 5 (v := .ref (ad 3)) fx in_X8_firstChief (by decide) rfl (by decide +kernel) rfl hK hP dX8_firstChief_1 ?_
  refine lv_iload_n hx hb dX8_firstChief_4 rfl (lv_at hl 1 rfl) ?_
  obtain ⟨hi10, h⟩ := h
  refine ms_iald 2 (by decide) fx hK hP rfl hi10 dX8_firstChief_5 ?_
  refine lv_iload_n hx hb dX8_firstChief_6 rfl (lv_at hl 2 rfl) ?_
  refine lv_isub hx hb dX8_firstChief_7 ?_
  refine lv_topi (fun v3_11 ev3_11 => ?_)
  have h := h v3_11 ev3_11
  refine lv_istore_n (lv' := [(3, .int v3_11), (0, .ref (ad 0)), (1, .int a1), (2, .int a2)]) hx hb dX8_firstChief_8 rfl hl (by decide) rfl (fun ls hl => ?_)
  obtain ⟨n, h⟩ := h
  exact kw_X8_firstChief_9 fx hK hA n _ _ _ _ hP hD hS (lv_sub hl [1, 2, 3, 0] rfl) h
abbrev rm_X8_ordered : Room := { frames := 3, cells := 0, slots := 0, locals := 71 }
theorem in_X8_ordered : ∀ w ∈ wsX80, w ∈ wsX8_ordered := by decide +kernel
set_option maxHeartbeats 4000000 in
set_option maxRecDepth 100000 in
theorem kb_X8_ordered_120 {p : Program} {l : Launch} {e : Env} {s : State} {m : MethodId} {args : Array Value} {below : List Frame} {meth : Method} {c : Code} {D : va_G} {ad : Nat → Nat} {cI cJ cR : ClassId} {A : Nat → Prop} {K9 : ms_T → Int32 → Int32 → Prop} {K120 : ms_T → Int32 → Int32 → Int32 → Prop} {Q : ms_T → Prop} {S : ms_T} {v1 : Int32} {v2 : Int32} {v5 : Int32} (fx : xr_Fx p m c meth cX8_ordered 6 s args wsX8_ordered RX8 none) (hK : xr_K D (ms_ty cI cJ cR) s) (hA : ∀ q, s.heap.size ≤ q → A q) (k9 : ∀ (S : ms_T) (v1 : Int32) (v2 : Int32) {H : Heap} {locs : List Loc} {ls : Array Slot}, va_P D vwCl (ms_w ad cI cJ S) H → va_D A (ms_w ad cI cJ S) → va_S A s.heap H locs → lv_has ls 6 [(0, .ref (ad 0)), (1, .int v1), (2, .int v2)] → K9 S v1 v2 → W p l e rm_X8_ordered s m args below meth c H locs 0 0 (MQ below (va_Qv Q (xr_B D (ms_ty cI cJ cR) (ms_w ad cI cJ) A) A) args s 0 0 A) (F0 m 9 ls [])) (k120 : ∀ (S : ms_T) (v1 : Int32) (v2 : Int32) (v5 : Int32) {H : Heap} {locs : List Loc} {ls : Array Slot}, va_P D vwCl (ms_w ad cI cJ S) H → va_D A (ms_w ad cI cJ S) → va_S A s.heap H locs → lv_has ls 6 [(0, .ref (ad 0)), (1, .int v1), (2, .int v2), (5, .int v5)] → K120 S v1 v2 v5 → W p l e rm_X8_ordered s m args below meth c H locs 0 0 (MQ below (va_Qv Q (xr_B D (ms_ty cI cJ cR) (ms_w ad cI cJ) A) A) args s 0 0 A) (F0 m 120 ls [])) {H : Heap} {locs : List Loc} {ls : Array Slot} (hP : va_P D vwCl (ms_w ad cI cJ S) H) (hD : va_D A (ms_w ad cI cJ S)) (hS : va_S A s.heap H locs) (hl : lv_has ls 6 [(0, .ref (ad 0)), (1, .int v1), (2, .int v2), (5, .int v5)]) (h : wb_X8_ordered_120 K9 K120 Q S v1 v2 v5) : W p l e rm_X8_ordered s m args below meth c H locs 0 0 (MQ below (va_Qv Q (xr_B D (ms_ty cI cJ cR) (ms_w ad cI cJ) A) A) args s 0 0 A) (F0 m 120 ls []) := by
  obtain ⟨⟨hx, hb, hml, hown, hts⟩, hrt, hlk⟩ := id fx
  have hf : 0 ≤ rm_X8_ordered.cells ∧ 0 ≤ rm_X8_ordered.slots := ⟨Nat.zero_le _, Nat.zero_le _⟩
  unfold wb_X8_ordered_120 at h
  refine lv_iload hx hb dX8_ordered_120 (lv_at hl 3 rfl) ?_
  refine lv_aload_n hx hb dX8_ordered_122 rfl (lv_at hl 0 rfl) ?_
  refine ms_get 3 (v := .ref (ad 1)) fx in_X8_ordered (by decide) rfl (by decide +kernel) rfl hK hP dX8_ordered_123 ?_
  refine lv_iload_n hx hb dX8_ordered_126 rfl (lv_at hl 2 rfl) ?_
  obtain ⟨hi1, h⟩ := h
  refine ms_iald 0 (by decide) fx hK hP rfl hi1 dX8_ordered_127 ?_
  refine lv_icmp_ge (tgt := 151) hx hb dX8_ordered_128 (by decide) (fun c128 => ?_) (fun c128 => ?_)
  · have h := h.1 c128
    refine lv_goto (tgt := 9) hx hb dX8_ordered_151 (by decide) ?_
    exact k9 _ _ _ hP hD hS (lv_sub hl [0, 1, 2] rfl) h
  · have h := h.2 c128
    refine lv_aload_n hx hb dX8_ordered_131 rfl (lv_at hl 0 rfl) ?_
    refine ms_get 14 (v := .ref (ad 17)) fx in_X8_ordered (by decide) rfl (by decide +kernel) rfl hK hP dX8_ordered_132 ?_
    refine lv_iload hx hb dX8_ordered_135 (lv_at hl 3 rfl) ?_
    refine lv_aload_n hx hb dX8_ordered_137 rfl (lv_at hl 0 rfl) ?_
    refine ms_get 15 (v := .ref (ad 18)) fx in_X8_ordered (by decide) rfl (by decide +kernel) rfl hK hP dX8_ordered_138 ?_
    refine lv_iload hx hb dX8_ordered_141 (lv_at hl 3 rfl) ?_
    obtain ⟨hi2, h⟩ := h
    refine ms_lald 3 (by decide) fx hK hP rfl hi2 dX8_ordered_143 ?_
    obtain ⟨hi3, h⟩ := h
    refine ms_last 2 (by decide) fx hK hP hD hS rfl hi3 dX8_ordered_144 (fun H locs hP hD hS => ?_)
    obtain ⟨v5_4, ev5_4⟩ : ∃ z : Int32, z = v5 + 1 := ⟨_, rfl⟩
    have h := h v5_4 ev5_4
    refine lv_iinc (v := v5_4) (lv' := [(5, .int v5_4), (0, .ref (ad 0)), (1, .int v1), (2, .int v2)]) hx hb dX8_ordered_145 hl (k := 3) rfl (by rw [ev5_4]; rfl) (by decide) rfl (fun ls hl => ?_)
    refine lv_goto (tgt := 120) hx hb dX8_ordered_148 (by decide) ?_
    exact k120 _ _ _ _ hP hD hS (lv_sub hl [1, 2, 3, 0] rfl) h
theorem kw_X8_ordered_120 {p : Program} {l : Launch} {e : Env} {s : State} {m : MethodId} {args : Array Value} {below : List Frame} {meth : Method} {c : Code} {D : va_G} {ad : Nat → Nat} {cI cJ cR : ClassId} {A : Nat → Prop} {K9 : ms_T → Int32 → Int32 → Prop} {Q : ms_T → Prop} (fx : xr_Fx p m c meth cX8_ordered 6 s args wsX8_ordered RX8 none) (hK : xr_K D (ms_ty cI cJ cR) s) (hA : ∀ q, s.heap.size ≤ q → A q) (k9 : ∀ (S : ms_T) (v1 : Int32) (v2 : Int32) {H : Heap} {locs : List Loc} {ls : Array Slot}, va_P D vwCl (ms_w ad cI cJ S) H → va_D A (ms_w ad cI cJ S) → va_S A s.heap H locs → lv_has ls 6 [(0, .ref (ad 0)), (1, .int v1), (2, .int v2)] → K9 S v1 v2 → W p l e rm_X8_ordered s m args below meth c H locs 0 0 (MQ below (va_Qv Q (xr_B D (ms_ty cI cJ cR) (ms_w ad cI cJ) A) A) args s 0 0 A) (F0 m 9 ls [])) : ∀ (n : Nat) (S : ms_T) (v1 : Int32) (v2 : Int32) (v5 : Int32) {H : Heap} {locs : List Loc} {ls : Array Slot}, va_P D vwCl (ms_w ad cI cJ S) H → va_D A (ms_w ad cI cJ S) → va_S A s.heap H locs → lv_has ls 6 [(0, .ref (ad 0)), (1, .int v1), (2, .int v2), (5, .int v5)] → wp_X8_ordered_120 K9 Q n S v1 v2 v5 → W p l e rm_X8_ordered s m args below meth c H locs 0 0 (MQ below (va_Qv Q (xr_B D (ms_ty cI cJ cR) (ms_w ad cI cJ) A) A) args s 0 0 A) (F0 m 120 ls []) := by
  intro n
  induction n with
  | zero => intro S v1 v2 v5 H locs ls hP hD hS hl h; exact False.elim h
  | succ n ih => intro S v1 v2 v5 H locs ls hP hD hS hl h; exact kb_X8_ordered_120 fx hK hA k9 ih hP hD hS hl h
set_option maxHeartbeats 4000000 in
set_option maxRecDepth 100000 in
theorem kb_X8_ordered_47 {p : Program} {l : Launch} {e : Env} {s : State} {m : MethodId} {args : Array Value} {below : List Frame} {meth : Method} {c : Code} {D : va_G} {ad : Nat → Nat} {cI cJ cR : ClassId} {A : Nat → Prop} {K9 : ms_T → Int32 → Int32 → Prop} {K47 : ms_T → Int32 → Int32 → Int32 → Int32 → Int32 → Prop} {Q : ms_T → Prop} {S : ms_T} {v1 : Int32} {v2 : Int32} {v3 : Int32} {v4 : Int32} {v5 : Int32} (fx : xr_Fx p m c meth cX8_ordered 6 s args wsX8_ordered RX8 none) (hK : xr_K D (ms_ty cI cJ cR) s) (hA : ∀ q, s.heap.size ≤ q → A q) (k9 : ∀ (S : ms_T) (v1 : Int32) (v2 : Int32) {H : Heap} {locs : List Loc} {ls : Array Slot}, va_P D vwCl (ms_w ad cI cJ S) H → va_D A (ms_w ad cI cJ S) → va_S A s.heap H locs → lv_has ls 6 [(0, .ref (ad 0)), (1, .int v1), (2, .int v2)] → K9 S v1 v2 → W p l e rm_X8_ordered s m args below meth c H locs 0 0 (MQ below (va_Qv Q (xr_B D (ms_ty cI cJ cR) (ms_w ad cI cJ) A) A) args s 0 0 A) (F0 m 9 ls [])) (k47 : ∀ (S : ms_T) (v1 : Int32) (v2 : Int32) (v3 : Int32) (v4 : Int32) (v5 : Int32) {H : Heap} {locs : List Loc} {ls : Array Slot}, va_P D vwCl (ms_w ad cI cJ S) H → va_D A (ms_w ad cI cJ S) → va_S A s.heap H locs → lv_has ls 6 [(0, .ref (ad 0)), (1, .int v1), (2, .int v2), (3, .int v3), (4, .int v4), (5, .int v5)] → K47 S v1 v2 v3 v4 v5 → W p l e rm_X8_ordered s m args below meth c H locs 0 0 (MQ below (va_Qv Q (xr_B D (ms_ty cI cJ cR) (ms_w ad cI cJ) A) A) args s 0 0 A) (F0 m 47 ls [])) {H : Heap} {locs : List Loc} {ls : Array Slot} (hP : va_P D vwCl (ms_w ad cI cJ S) H) (hD : va_D A (ms_w ad cI cJ S)) (hS : va_S A s.heap H locs) (hl : lv_has ls 6 [(0, .ref (ad 0)), (1, .int v1), (2, .int v2), (3, .int v3), (4, .int v4), (5, .int v5)]) (h : wb_X8_ordered_47 K9 K47 Q S v1 v2 v3 v4 v5) : W p l e rm_X8_ordered s m args below meth c H locs 0 0 (MQ below (va_Qv Q (xr_B D (ms_ty cI cJ cR) (ms_w ad cI cJ) A) A) args s 0 0 A) (F0 m 47 ls []) := by
  obtain ⟨⟨hx, hb, hml, hown, hts⟩, hrt, hlk⟩ := id fx
  have hf : 0 ≤ rm_X8_ordered.cells ∧ 0 ≤ rm_X8_ordered.slots := ⟨Nat.zero_le _, Nat.zero_le _⟩
  unfold wb_X8_ordered_47 at h
  refine lv_iload hx hb dX8_ordered_47 (lv_at hl 5 rfl) ?_
  refine lv_aload_n hx hb dX8_ordered_49 rfl (lv_at hl 0 rfl) ?_
  refine ms_get 3 (v := .ref (ad 1)) fx in_X8_ordered (by decide) rfl (by decide +kernel) rfl hK hP dX8_ordered_50 ?_
  refine lv_iload_n hx hb dX8_ordered_53 rfl (lv_at hl 2 rfl) ?_
  refine lv_iload_n hx hb dX8_ordered_54 rfl (lv_at hl 3 rfl) ?_
  refine lv_iadd hx hb dX8_ordered_55 ?_
  obtain ⟨hi5, h⟩ := h
  refine ms_iald 0 (by decide) fx hK hP rfl hi5 dX8_ordered_56 ?_
  refine lv_icmp_ge (tgt := 113) hx hb dX8_ordered_57 (by decide) (fun c57 => ?_) (fun c57 => ?_)
  · have h := h.1 c57
    refine lv_iload_n hx hb dX8_ordered_113 rfl (lv_at hl 2 rfl) ?_
    refine lv_iload_n hx hb dX8_ordered_114 rfl (lv_at hl 3 rfl) ?_
    refine lv_iadd hx hb dX8_ordered_115 ?_
    refine lv_topi (fun v2_6 ev2_6 => ?_)
    have h := h v2_6 ev2_6
    refine lv_istore_n (lv' := [(2, .int v2_6), (0, .ref (ad 0)), (1, .int v1), (3, .int v3), (4, .int v4), (5, .int v5)]) hx hb dX8_ordered_116 rfl hl (by decide) rfl (fun ls hl => ?_)
    refine lv_iconst (v := 0) hx hb dX8_ordered_117 (by decide) ?_
    refine lv_istore (lv' := [(5, .int 0), (2, .int v2_6), (0, .ref (ad 0)), (1, .int v1), (3, .int v3), (4, .int v4)]) hx hb dX8_ordered_118 hl (by decide) rfl (fun ls hl => ?_)
    obtain ⟨n, h⟩ := h
    exact kw_X8_ordered_120 fx hK hA k9 n _ _ _ _ hP hD hS (lv_sub hl [2, 3, 1, 0] rfl) h
  · have h := h.2 c57
    refine lv_aload_n hx hb dX8_ordered_60 rfl (lv_at hl 0 rfl) ?_
    refine ms_get 15 (v := .ref (ad 18)) fx in_X8_ordered (by decide) rfl (by decide +kernel) rfl hK hP dX8_ordered_61 ?_
    refine lv_iload hx hb dX8_ordered_64 (lv_at hl 5 rfl) ?_
    refine lv_aload_n hx hb dX8_ordered_66 rfl (lv_at hl 0 rfl) ?_
    refine ms_get 14 (v := .ref (ad 17)) fx in_X8_ordered (by decide) rfl (by decide +kernel) rfl hK hP dX8_ordered_67 ?_
    refine lv_iload hx hb dX8_ordered_70 (lv_at hl 5 rfl) ?_
    refine lv_aload_n hx hb dX8_ordered_72 rfl (lv_at hl 0 rfl) ?_
    refine ms_get 3 (v := .ref (ad 1)) fx in_X8_ordered (by decide) rfl (by decide +kernel) rfl hK hP dX8_ordered_73 ?_
    refine lv_iload_n hx hb dX8_ordered_76 rfl (lv_at hl 3 rfl) ?_
    obtain ⟨hi7, h⟩ := h
    refine ms_iald 0 (by decide) fx hK hP rfl hi7 dX8_ordered_77 ?_
    obtain ⟨hz8, h⟩ := h
    refine lv_idiv hx hb dX8_ordered_78 hz8 ?_
    obtain ⟨hi9, h⟩ := h
    refine ms_lald 2 (by decide) fx hK hP rfl hi9 dX8_ordered_79 ?_
    refine lv_aload_n hx hb dX8_ordered_80 rfl (lv_at hl 0 rfl) ?_
    refine ms_get 13 (v := .ref (ad 16)) fx in_X8_ordered (by decide) rfl (by decide +kernel) rfl hK hP dX8_ordered_81 ?_
    refine lv_sipush (v := 256) hx hb dX8_ordered_84 (by decide) ?_
    refine lv_iload hx hb dX8_ordered_87 (lv_at hl 4 rfl) ?_
    refine lv_imul hx hb dX8_ordered_89 ?_
    refine lv_iload hx hb dX8_ordered_90 (lv_at hl 5 rfl) ?_
    refine lv_aload_n hx hb dX8_ordered_92 rfl (lv_at hl 0 rfl) ?_
    refine ms_get 3 (v := .ref (ad 1)) fx in_X8_ordered (by decide) rfl (by decide +kernel) rfl hK hP dX8_ordered_93 ?_
    refine lv_iload_n hx hb dX8_ordered_96 rfl (lv_at hl 3 rfl) ?_
    obtain ⟨hi10, h⟩ := h
    refine ms_iald 0 (by decide) fx hK hP rfl hi10 dX8_ordered_97 ?_
    obtain ⟨hz11, h⟩ := h
    refine lv_irem hx hb dX8_ordered_98 hz11 ?_
    refine lv_iadd hx hb dX8_ordered_99 ?_
    obtain ⟨hi12, h⟩ := h
    refine ms_lald 1 (by decide) fx hK hP rfl hi12 dX8_ordered_100 ?_
    refine lv_lmul hx hb dX8_ordered_101 ?_
    refine lv_ldc2 (v := 2147483647) hx hb hown (hts (.constantLong RX8 3 (2147483647)) (by decide +kernel)) dX8_ordered_102 ?_
    refine lv_lrem hx hb dX8_ordered_105 (by decide) ?_
    obtain ⟨hi13, h⟩ := h
    refine ms_last 3 (by decide) fx hK hP hD hS rfl hi13 dX8_ordered_106 (fun H locs hP hD hS => ?_)
    obtain ⟨v5_14, ev5_14⟩ : ∃ z : Int32, z = v5 + 1 := ⟨_, rfl⟩
    have h := h v5_14 ev5_14
    refine lv_iinc (v := v5_14) (lv' := [(5, .int v5_14), (0, .ref (ad 0)), (1, .int v1), (2, .int v2), (3, .int v3), (4, .int v4)]) hx hb dX8_ordered_107 hl (k := 5) rfl (by rw [ev5_14]; rfl) (by decide) rfl (fun ls hl => ?_)
    refine lv_goto (tgt := 47) hx hb dX8_ordered_110 (by decide) ?_
    exact k47 _ _ _ _ _ _ hP hD hS (lv_sub hl [1, 2, 3, 4, 5, 0] rfl) h
theorem kw_X8_ordered_47 {p : Program} {l : Launch} {e : Env} {s : State} {m : MethodId} {args : Array Value} {below : List Frame} {meth : Method} {c : Code} {D : va_G} {ad : Nat → Nat} {cI cJ cR : ClassId} {A : Nat → Prop} {K9 : ms_T → Int32 → Int32 → Prop} {Q : ms_T → Prop} (fx : xr_Fx p m c meth cX8_ordered 6 s args wsX8_ordered RX8 none) (hK : xr_K D (ms_ty cI cJ cR) s) (hA : ∀ q, s.heap.size ≤ q → A q) (k9 : ∀ (S : ms_T) (v1 : Int32) (v2 : Int32) {H : Heap} {locs : List Loc} {ls : Array Slot}, va_P D vwCl (ms_w ad cI cJ S) H → va_D A (ms_w ad cI cJ S) → va_S A s.heap H locs → lv_has ls 6 [(0, .ref (ad 0)), (1, .int v1), (2, .int v2)] → K9 S v1 v2 → W p l e rm_X8_ordered s m args below meth c H locs 0 0 (MQ below (va_Qv Q (xr_B D (ms_ty cI cJ cR) (ms_w ad cI cJ) A) A) args s 0 0 A) (F0 m 9 ls [])) : ∀ (n : Nat) (S : ms_T) (v1 : Int32) (v2 : Int32) (v3 : Int32) (v4 : Int32) (v5 : Int32) {H : Heap} {locs : List Loc} {ls : Array Slot}, va_P D vwCl (ms_w ad cI cJ S) H → va_D A (ms_w ad cI cJ S) → va_S A s.heap H locs → lv_has ls 6 [(0, .ref (ad 0)), (1, .int v1), (2, .int v2), (3, .int v3), (4, .int v4), (5, .int v5)] → wp_X8_ordered_47 K9 Q n S v1 v2 v3 v4 v5 → W p l e rm_X8_ordered s m args below meth c H locs 0 0 (MQ below (va_Qv Q (xr_B D (ms_ty cI cJ cR) (ms_w ad cI cJ) A) A) args s 0 0 A) (F0 m 47 ls []) := by
  intro n
  induction n with
  | zero => intro S v1 v2 v3 v4 v5 H locs ls hP hD hS hl h; exact False.elim h
  | succ n ih => intro S v1 v2 v3 v4 v5 H locs ls hP hD hS hl h; exact kb_X8_ordered_47 fx hK hA k9 ih hP hD hS hl h
set_option maxHeartbeats 4000000 in
set_option maxRecDepth 100000 in
theorem kb_X8_ordered_9 {p : Program} {l : Launch} {e : Env} {s : State} {m : MethodId} {args : Array Value} {below : List Frame} {meth : Method} {c : Code} {D : va_G} {ad : Nat → Nat} {cI cJ cR : ClassId} {A : Nat → Prop}  {K9 : ms_T → Int32 → Int32 → Prop} {Q : ms_T → Prop} {S : ms_T} {v1 : Int32} {v2 : Int32} (fx : xr_Fx p m c meth cX8_ordered 6 s args wsX8_ordered RX8 none) (hK : xr_K D (ms_ty cI cJ cR) s) (hA : ∀ q, s.heap.size ≤ q → A q)  (k9 : ∀ (S : ms_T) (v1 : Int32) (v2 : Int32) {H : Heap} {locs : List Loc} {ls : Array Slot}, va_P D vwCl (ms_w ad cI cJ S) H → va_D A (ms_w ad cI cJ S) → va_S A s.heap H locs → lv_has ls 6 [(0, .ref (ad 0)), (1, .int v1), (2, .int v2)] → K9 S v1 v2 → W p l e rm_X8_ordered s m args below meth c H locs 0 0 (MQ below (va_Qv Q (xr_B D (ms_ty cI cJ cR) (ms_w ad cI cJ) A) A) args s 0 0 A) (F0 m 9 ls [])) {H : Heap} {locs : List Loc} {ls : Array Slot} (hP : va_P D vwCl (ms_w ad cI cJ S) H) (hD : va_D A (ms_w ad cI cJ S)) (hS : va_S A s.heap H locs) (hl : lv_has ls 6 [(0, .ref (ad 0)), (1, .int v1), (2, .int v2)]) (h : wb_X8_ordered_9 K9 Q S v1 v2) : W p l e rm_X8_ordered s m args below meth c H locs 0 0 (MQ below (va_Qv Q (xr_B D (ms_ty cI cJ cR) (ms_w ad cI cJ) A) A) args s 0 0 A) (F0 m 9 ls []) := by
  obtain ⟨⟨hx, hb, hml, hown, hts⟩, hrt, hlk⟩ := id fx
  have hf : 0 ≤ rm_X8_ordered.cells ∧ 0 ≤ rm_X8_ordered.slots := ⟨Nat.zero_le _, Nat.zero_le _⟩
  unfold wb_X8_ordered_9 at h
  refine lv_iload_n hx hb dX8_ordered_9 rfl (lv_at hl 2 rfl) ?_
  refine lv_aload_n hx hb dX8_ordered_10 rfl (lv_at hl 0 rfl) ?_
  refine ms_get 5 (v := .ref (ad 3)) fx in_X8_ordered (by decide) rfl (by decide +kernel) rfl hK hP dX8_ordered_11 ?_
  refine lv_iload_n hx hb dX8_ordered_14 rfl (lv_at hl 1 rfl) ?_
  obtain ⟨hi15, h⟩ := h
  refine ms_iald 2 (by decide) fx hK hP rfl hi15 dX8_ordered_15 ?_
  refine lv_icmp_ge (tgt := 154) hx hb dX8_ordered_16 (by decide) (fun c16 => ?_) (fun c16 => ?_)
  · have h := h.1 c16
    exact xr_rV fx hK hP hD hS h dX8_ordered_154
  · have h := h.2 c16
    refine lv_aload_n hx hb dX8_ordered_19 rfl (lv_at hl 0 rfl) ?_
    refine lv_iload_n hx hb dX8_ordered_20 rfl (lv_at hl 1 rfl) ?_
    refine lv_iload_n hx hb dX8_ordered_21 rfl (lv_at hl 2 rfl) ?_
    refine xr_vI (n := 2) (As := [.int v1, .int v2]) (rest := []) fx (ct_X8_firstChief l D ad cI cJ cR h) gX8_ordered_X8_firstChief rfl rfl (by decide +kernel) ⟨Nat.le_of_ble_eq_true rfl, Nat.le_of_ble_eq_true rfl⟩ ⟨rfl, rfl⟩ hf (ms_recv hK hP) hK hP hD hS hA hl.1 rfl (Nat.le_of_ble_eq_true rfl) dX8_ordered_22 (fun r17 S16 H locs h hP hD hS => ?_)
    refine lv_istore_n (lv' := [(3, .int r17), (0, .ref (ad 0)), (1, .int v1), (2, .int v2)]) hx hb dX8_ordered_25 rfl hl (by decide) rfl (fun ls hl => ?_)
    refine lv_aload_n hx hb dX8_ordered_26 rfl (lv_at hl 1 rfl) ?_
    refine ms_get 12 (v := .ref (ad 8)) fx in_X8_ordered (by decide) rfl (by decide +kernel) rfl hK hP dX8_ordered_27 ?_
    refine lv_aload_n hx hb dX8_ordered_30 rfl (lv_at hl 1 rfl) ?_
    refine lv_aload_n hx hb dX8_ordered_31 rfl (lv_at hl 1 rfl) ?_
    refine lv_iload_n hx hb dX8_ordered_32 rfl (lv_at hl 2 rfl) ?_
    refine lv_iload_n hx hb dX8_ordered_33 rfl (lv_at hl 3 rfl) ?_
    refine xr_vI (n := 2) (As := [.int v1, .int v2]) (rest := [.ref (ad 0), .ref (ad 8)]) fx (ct_X8_end l D ad cI cJ cR h) gX8_ordered_X8_end rfl rfl (by decide +kernel) ⟨Nat.le_of_ble_eq_true rfl, Nat.le_of_ble_eq_true rfl⟩ ⟨rfl, rfl⟩ hf (ms_recv hK hP) hK hP hD hS hA hl.1 rfl (Nat.le_of_ble_eq_true rfl) dX8_ordered_34 (fun r19 S18 H locs h hP hD hS => ?_)
    refine lv_iload_n hx hb dX8_ordered_37 rfl (lv_at hl 0 rfl) ?_
    refine xr_vI (n := 2) (As := [.int r19, .int r17]) (rest := [.ref (ad 8)]) fx (ct_X8_beginning l D ad cI cJ cR h) gX8_ordered_X8_beginning rfl rfl (by decide +kernel) ⟨Nat.le_of_ble_eq_true rfl, Nat.le_of_ble_eq_true rfl⟩ ⟨rfl, rfl⟩ hf (ms_recv hK hP) hK hP hD hS hA hl.1 rfl (Nat.le_of_ble_eq_true rfl) dX8_ordered_38 (fun r21 S20 H locs h hP hD hS => ?_)
    obtain ⟨hi22, h⟩ := h
    refine ms_iald 7 (by decide) fx hK hP rfl hi22 dX8_ordered_41 ?_
    refine lv_topi (fun v4_23 ev4_23 => ?_)
    have h := h v4_23 ev4_23
    refine lv_istore (lv' := [(4, .int v4_23), (3, .int r17), (0, .ref (ad 0)), (1, .int v1), (2, .int v2)]) hx hb dX8_ordered_42 hl (by decide) rfl (fun ls hl => ?_)
    refine lv_iconst (v := 0) hx hb dX8_ordered_44 (by decide) ?_
    refine lv_istore (lv' := [(5, .int 0), (4, .int v4_23), (3, .int r17), (0, .ref (ad 0)), (1, .int v1), (2, .int v2)]) hx hb dX8_ordered_45 hl (by decide) rfl (fun ls hl => ?_)
    obtain ⟨n, h⟩ := h
    exact kw_X8_ordered_47 fx hK hA k9 n _ _ _ _ _ _ hP hD hS (lv_sub hl [3, 4, 5, 2, 1, 0] rfl) h
theorem kw_X8_ordered_9 {p : Program} {l : Launch} {e : Env} {s : State} {m : MethodId} {args : Array Value} {below : List Frame} {meth : Method} {c : Code} {D : va_G} {ad : Nat → Nat} {cI cJ cR : ClassId} {A : Nat → Prop}  {Q : ms_T → Prop} (fx : xr_Fx p m c meth cX8_ordered 6 s args wsX8_ordered RX8 none) (hK : xr_K D (ms_ty cI cJ cR) s) (hA : ∀ q, s.heap.size ≤ q → A q)  : ∀ (n : Nat) (S : ms_T) (v1 : Int32) (v2 : Int32) {H : Heap} {locs : List Loc} {ls : Array Slot}, va_P D vwCl (ms_w ad cI cJ S) H → va_D A (ms_w ad cI cJ S) → va_S A s.heap H locs → lv_has ls 6 [(0, .ref (ad 0)), (1, .int v1), (2, .int v2)] → wp_X8_ordered_9 Q n S v1 v2 → W p l e rm_X8_ordered s m args below meth c H locs 0 0 (MQ below (va_Qv Q (xr_B D (ms_ty cI cJ cR) (ms_w ad cI cJ) A) A) args s 0 0 A) (F0 m 9 ls []) := by
  intro n
  induction n with
  | zero => intro S v1 v2 H locs ls hP hD hS hl h; exact False.elim h
  | succ n ih => intro S v1 v2 H locs ls hP hD hS hl h; exact kb_X8_ordered_9 fx hK hA ih hP hD hS hl h
set_option maxHeartbeats 4000000 in
set_option maxRecDepth 100000 in
theorem ct_X8_ordered (l : Launch) (D : va_G) (ad : Nat → Nat) (cI cJ cR : ClassId) {S : ms_T} {a1 : Int32} {Q : ms_T → Prop} (h : wp_X8_ordered S a1 Q) : xr_V l D (ms_ty cI cJ cR) (ms_w ad cI cJ) yX8_ordered wsX8_ordered rm_X8_ordered [.ref (ad 0), .int a1] S Q := by
  refine xr_eV (cc := cX8_ordered) (nL := 6) (ret := none) (own := RX8) (by decide) rfl rfl (Nat.le_of_ble_eq_true rfl) ?_
  intro p e s m args below meth c ls A fx hK hA hP hD hS hl
  have hl : lv_has ls 6 [(0, .ref (ad 0)), (1, .int a1)] := hl
  show W p l e rm_X8_ordered s m args below meth c s.heap [] 0 0 _ _
  obtain ⟨⟨hx, hb, hml, hown, hts⟩, hrt, hlk⟩ := id fx
  have hf : 0 ≤ rm_X8_ordered.cells ∧ 0 ≤ rm_X8_ordered.slots := ⟨Nat.zero_le _, Nat.zero_le _⟩
  unfold wp_X8_ordered at h
  refine lv_iconst (v := 0) hx hb dX8_ordered_0 (by decide) ?_
  refine lv_istore_n (lv' := [(2, .int 0), (0, .ref (ad 0)), (1, .int a1)]) hx hb dX8_ordered_1 rfl hl (by decide) rfl (fun ls hl => ?_)
  refine lv_aload_n hx hb dX8_ordered_2 rfl (lv_at hl 1 rfl) ?_
  refine ms_get 14 (v := .ref (ad 17)) fx in_X8_ordered (by decide) rfl (by decide +kernel) rfl hK hP dX8_ordered_3 ?_
  refine lv_iconst (v := 0) hx hb dX8_ordered_6 (by decide) ?_
  refine lv_lconst (v := 1) hx hb dX8_ordered_7 (by decide) ?_
  obtain ⟨hi24, h⟩ := h
  refine ms_last 2 (by decide) fx hK hP hD hS rfl hi24 dX8_ordered_8 (fun H locs hP hD hS => ?_)
  obtain ⟨n, h⟩ := h
  exact kw_X8_ordered_9 fx hK hA n _ _ _ hP hD hS (lv_sub hl [1, 2, 0] rfl) h
abbrev rm_X8_shares : Room := { frames := 4, cells := 0, slots := 0, locals := 96 }
theorem in_X8_shares : ∀ w ∈ wsX80, w ∈ wsX8_shares := by decide +kernel
set_option maxHeartbeats 4000000 in
set_option maxRecDepth 100000 in
theorem kw_X8_shares_136 {p : Program} {l : Launch} {e : Env} {s : State} {m : MethodId} {args : Array Value} {below : List Frame} {meth : Method} {c : Code} {D : va_G} {ad : Nat → Nat} {cI cJ cR : ClassId} {A : Nat → Prop} {K2 : ms_T → Int32 → Int32 → Prop} {Q : ms_T → Prop} {S : ms_T} {v1 : Int32} {v2 : Int32} (fx : xr_Fx p m c meth cX8_shares 9 s args wsX8_shares RX8 none) (hK : xr_K D (ms_ty cI cJ cR) s) (hA : ∀ q, s.heap.size ≤ q → A q) (k2 : ∀ (S : ms_T) (v1 : Int32) (v2 : Int32) {H : Heap} {locs : List Loc} {ls : Array Slot}, va_P D vwCl (ms_w ad cI cJ S) H → va_D A (ms_w ad cI cJ S) → va_S A s.heap H locs → lv_has ls 9 [(0, .ref (ad 0)), (1, .int v1), (2, .int v2)] → K2 S v1 v2 → W p l e rm_X8_shares s m args below meth c H locs 0 0 (MQ below (va_Qv Q (xr_B D (ms_ty cI cJ cR) (ms_w ad cI cJ) A) A) args s 0 0 A) (F0 m 2 ls [])) {H : Heap} {locs : List Loc} {ls : Array Slot} (hP : va_P D vwCl (ms_w ad cI cJ S) H) (hD : va_D A (ms_w ad cI cJ S)) (hS : va_S A s.heap H locs) (hl : lv_has ls 9 [(0, .ref (ad 0)), (1, .int v1), (2, .int v2)]) (h : wp_X8_shares_136 K2 Q S v1 v2) : W p l e rm_X8_shares s m args below meth c H locs 0 0 (MQ below (va_Qv Q (xr_B D (ms_ty cI cJ cR) (ms_w ad cI cJ) A) A) args s 0 0 A) (F0 m 136 ls []) := by
  obtain ⟨⟨hx, hb, hml, hown, hts⟩, hrt, hlk⟩ := id fx
  have hf : 0 ≤ rm_X8_shares.cells ∧ 0 ≤ rm_X8_shares.slots := ⟨Nat.zero_le _, Nat.zero_le _⟩
  unfold wp_X8_shares_136 at h
  obtain ⟨v2_1, ev2_1⟩ : ∃ z : Int32, z = v2 + 1 := ⟨_, rfl⟩
  have h := h v2_1 ev2_1
  refine lv_iinc (v := v2_1) (lv' := [(2, .int v2_1), (0, .ref (ad 0)), (1, .int v1)]) hx hb dX8_shares_136 hl (k := 2) rfl (by rw [ev2_1]; rfl) (by decide) rfl (fun ls hl => ?_)
  refine lv_goto (tgt := 2) hx hb dX8_shares_139 (by decide) ?_
  exact k2 _ _ _ hP hD hS (lv_sub hl [1, 2, 0] rfl) h
set_option maxHeartbeats 4000000 in
set_option maxRecDepth 100000 in
theorem kb_X8_shares_55 {p : Program} {l : Launch} {e : Env} {s : State} {m : MethodId} {args : Array Value} {below : List Frame} {meth : Method} {c : Code} {D : va_G} {ad : Nat → Nat} {cI cJ cR : ClassId} {A : Nat → Prop} {K2 : ms_T → Int32 → Int32 → Prop} {K55 : ms_T → Int32 → Int32 → Int64 → Int32 → Int32 → Prop} {Q : ms_T → Prop} {S : ms_T} {v1 : Int32} {v2 : Int32} {v3 : Int64} {v5 : Int32} {v6 : Int32} (fx : xr_Fx p m c meth cX8_shares 9 s args wsX8_shares RX8 none) (hK : xr_K D (ms_ty cI cJ cR) s) (hA : ∀ q, s.heap.size ≤ q → A q) (k2 : ∀ (S : ms_T) (v1 : Int32) (v2 : Int32) {H : Heap} {locs : List Loc} {ls : Array Slot}, va_P D vwCl (ms_w ad cI cJ S) H → va_D A (ms_w ad cI cJ S) → va_S A s.heap H locs → lv_has ls 9 [(0, .ref (ad 0)), (1, .int v1), (2, .int v2)] → K2 S v1 v2 → W p l e rm_X8_shares s m args below meth c H locs 0 0 (MQ below (va_Qv Q (xr_B D (ms_ty cI cJ cR) (ms_w ad cI cJ) A) A) args s 0 0 A) (F0 m 2 ls [])) (k55 : ∀ (S : ms_T) (v1 : Int32) (v2 : Int32) (v3 : Int64) (v5 : Int32) (v6 : Int32) {H : Heap} {locs : List Loc} {ls : Array Slot}, va_P D vwCl (ms_w ad cI cJ S) H → va_D A (ms_w ad cI cJ S) → va_S A s.heap H locs → lv_has ls 9 [(0, .ref (ad 0)), (1, .int v1), (2, .int v2), (3, .long v3), (5, .int v5), (6, .int v6)] → K55 S v1 v2 v3 v5 v6 → W p l e rm_X8_shares s m args below meth c H locs 0 0 (MQ below (va_Qv Q (xr_B D (ms_ty cI cJ cR) (ms_w ad cI cJ) A) A) args s 0 0 A) (F0 m 55 ls [])) {H : Heap} {locs : List Loc} {ls : Array Slot} (hP : va_P D vwCl (ms_w ad cI cJ S) H) (hD : va_D A (ms_w ad cI cJ S)) (hS : va_S A s.heap H locs) (hl : lv_has ls 9 [(0, .ref (ad 0)), (1, .int v1), (2, .int v2), (3, .long v3), (5, .int v5), (6, .int v6)]) (h : wb_X8_shares_55 K2 K55 Q S v1 v2 v3 v5 v6) : W p l e rm_X8_shares s m args below meth c H locs 0 0 (MQ below (va_Qv Q (xr_B D (ms_ty cI cJ cR) (ms_w ad cI cJ) A) A) args s 0 0 A) (F0 m 55 ls []) := by
  obtain ⟨⟨hx, hb, hml, hown, hts⟩, hrt, hlk⟩ := id fx
  have hf : 0 ≤ rm_X8_shares.cells ∧ 0 ≤ rm_X8_shares.slots := ⟨Nat.zero_le _, Nat.zero_le _⟩
  unfold wb_X8_shares_55 at h
  refine lv_iload hx hb dX8_shares_55 (lv_at hl 5 rfl) ?_
  refine lv_aload_n hx hb dX8_shares_57 rfl (lv_at hl 0 rfl) ?_
  refine ms_get 3 (v := .ref (ad 1)) fx in_X8_shares (by decide) rfl (by decide +kernel) rfl hK hP dX8_shares_58 ?_
  refine lv_iload hx hb dX8_shares_61 (lv_at hl 4 rfl) ?_
  obtain ⟨hi2, h⟩ := h
  refine ms_iald 0 (by decide) fx hK hP rfl hi2 dX8_shares_63 ?_
  refine lv_icmp_ge (tgt := 136) hx hb dX8_shares_64 (by decide) (fun c64 => ?_) (fun c64 => ?_)
  · have h := h.1 c64
    exact kw_X8_shares_136 fx hK hA k2 hP hD hS (lv_sub hl [0, 1, 2] rfl) h
  · have h := h.2 c64
    refine lv_aload_n hx hb dX8_shares_67 rfl (lv_at hl 0 rfl) ?_
    refine ms_get 6 (v := .ref (ad 15)) fx in_X8_shares (by decide) rfl (by decide +kernel) rfl hK hP dX8_shares_68 ?_
    refine lv_sipush (v := 364) hx hb dX8_shares_71 (by decide) ?_
    refine lv_iload_n hx hb dX8_shares_74 rfl (lv_at hl 1 rfl) ?_
    refine lv_imul hx hb dX8_shares_75 ?_
    refine lv_aload_n hx hb dX8_shares_76 rfl (lv_at hl 0 rfl) ?_
    refine ms_get 4 (v := .ref (ad 2)) fx in_X8_shares (by decide) rfl (by decide +kernel) rfl hK hP dX8_shares_77 ?_
    refine lv_iload hx hb dX8_shares_80 (lv_at hl 4 rfl) ?_
    obtain ⟨hi3, h⟩ := h
    refine ms_iald 1 (by decide) fx hK hP rfl hi3 dX8_shares_82 ?_
    refine lv_iadd hx hb dX8_shares_83 ?_
    refine lv_iload hx hb dX8_shares_84 (lv_at hl 5 rfl) ?_
    refine lv_iadd hx hb dX8_shares_86 ?_
    obtain ⟨hi4, h⟩ := h
    refine ms_lald 0 (by decide) fx hK hP rfl hi4 dX8_shares_87 ?_
    refine lv_lload_n hx hb dX8_shares_88 rfl (lv_at hl 3 rfl) ?_
    refine lv_aload_n hx hb dX8_shares_89 rfl (lv_at hl 0 rfl) ?_
    refine ms_get 14 (v := .ref (ad 17)) fx in_X8_shares (by decide) rfl (by decide +kernel) rfl hK hP dX8_shares_90 ?_
    refine lv_iload hx hb dX8_shares_93 (lv_at hl 5 rfl) ?_
    obtain ⟨hi5, h⟩ := h
    refine ms_lald 2 (by decide) fx hK hP rfl hi5 dX8_shares_95 ?_
    refine lv_lmul hx hb dX8_shares_96 ?_
    refine lv_ldc2 (v := 2147483647) hx hb hown (hts (.constantLong RX8 3 (2147483647)) (by decide +kernel)) dX8_shares_97 ?_
    refine lv_lrem hx hb dX8_shares_100 (by decide) ?_
    refine lv_lsub hx hb dX8_shares_101 ?_
    refine lv_topl (fun v7_6 ev7_6 => ?_)
    have h := h v7_6 ev7_6
    refine lv_lstore (lv' := [(7, .long v7_6), (0, .ref (ad 0)), (1, .int v1), (2, .int v2), (3, .long v3), (5, .int v5), (6, .int v6)]) hx hb dX8_shares_102 hl (by decide) rfl (fun ls hl => ?_)
    refine lv_aload_n hx hb dX8_shares_104 rfl (lv_at hl 1 rfl) ?_
    refine ms_get 6 (v := .ref (ad 15)) fx in_X8_shares (by decide) rfl (by decide +kernel) rfl hK hP dX8_shares_105 ?_
    refine lv_sipush (v := 364) hx hb dX8_shares_108 (by decide) ?_
    refine lv_iload_n hx hb dX8_shares_111 rfl (lv_at hl 2 rfl) ?_
    refine lv_imul hx hb dX8_shares_112 ?_
    refine lv_aload_n hx hb dX8_shares_113 rfl (lv_at hl 1 rfl) ?_
    refine ms_get 4 (v := .ref (ad 2)) fx in_X8_shares (by decide) rfl (by decide +kernel) rfl hK hP dX8_shares_114 ?_
    refine lv_iload hx hb dX8_shares_117 (lv_at hl 5 rfl) ?_
    obtain ⟨hi7, h⟩ := h
    refine ms_iald 1 (by decide) fx hK hP rfl hi7 dX8_shares_119 ?_
    refine lv_iadd hx hb dX8_shares_120 ?_
    refine lv_iload hx hb dX8_shares_121 (lv_at hl 6 rfl) ?_
    refine lv_iadd hx hb dX8_shares_123 ?_
    refine lv_lload hx hb dX8_shares_124 (lv_at hl 0 rfl) ?_
    refine xr_sL (n := 1) (As := [.long v7_6]) (rest := [.int (((364 * v1) + (S.2.1 1 v5.toNatClampNeg)) + v6), .ref (ad 15)]) fx (ct_X8_mod l h) gX8_shares_X8_mod rfl rfl (by decide +kernel) ⟨Nat.le_of_ble_eq_true rfl, Nat.le_of_ble_eq_true rfl⟩ ⟨rfl, rfl⟩ hf hl.1 rfl (Nat.le_of_ble_eq_true rfl) dX8_shares_126 (fun r8 h => ?_)
    obtain ⟨hi9, h⟩ := h
    refine ms_last 0 (by decide) fx hK hP hD hS rfl hi9 dX8_shares_129 (fun H locs hP hD hS => ?_)
    obtain ⟨v6_10, ev6_10⟩ : ∃ z : Int32, z = v6 + 1 := ⟨_, rfl⟩
    have h := h v6_10 ev6_10
    refine lv_iinc (v := v6_10) (lv' := [(6, .int v6_10), (7, .long v7_6), (0, .ref (ad 0)), (1, .int v1), (2, .int v2), (3, .long v3), (5, .int v5)]) hx hb dX8_shares_130 hl (k := 6) rfl (by rw [ev6_10]; rfl) (by decide) rfl (fun ls hl => ?_)
    refine lv_goto (tgt := 55) hx hb dX8_shares_133 (by decide) ?_
    exact k55 _ _ _ _ _ _ hP hD hS (lv_sub hl [2, 3, 4, 5, 6, 0] rfl) h
theorem kw_X8_shares_55 {p : Program} {l : Launch} {e : Env} {s : State} {m : MethodId} {args : Array Value} {below : List Frame} {meth : Method} {c : Code} {D : va_G} {ad : Nat → Nat} {cI cJ cR : ClassId} {A : Nat → Prop} {K2 : ms_T → Int32 → Int32 → Prop} {Q : ms_T → Prop} (fx : xr_Fx p m c meth cX8_shares 9 s args wsX8_shares RX8 none) (hK : xr_K D (ms_ty cI cJ cR) s) (hA : ∀ q, s.heap.size ≤ q → A q) (k2 : ∀ (S : ms_T) (v1 : Int32) (v2 : Int32) {H : Heap} {locs : List Loc} {ls : Array Slot}, va_P D vwCl (ms_w ad cI cJ S) H → va_D A (ms_w ad cI cJ S) → va_S A s.heap H locs → lv_has ls 9 [(0, .ref (ad 0)), (1, .int v1), (2, .int v2)] → K2 S v1 v2 → W p l e rm_X8_shares s m args below meth c H locs 0 0 (MQ below (va_Qv Q (xr_B D (ms_ty cI cJ cR) (ms_w ad cI cJ) A) A) args s 0 0 A) (F0 m 2 ls [])) : ∀ (n : Nat) (S : ms_T) (v1 : Int32) (v2 : Int32) (v3 : Int64) (v5 : Int32) (v6 : Int32) {H : Heap} {locs : List Loc} {ls : Array Slot}, va_P D vwCl (ms_w ad cI cJ S) H → va_D A (ms_w ad cI cJ S) → va_S A s.heap H locs → lv_has ls 9 [(0, .ref (ad 0)), (1, .int v1), (2, .int v2), (3, .long v3), (5, .int v5), (6, .int v6)] → wp_X8_shares_55 K2 Q n S v1 v2 v3 v5 v6 → W p l e rm_X8_shares s m args below meth c H locs 0 0 (MQ below (va_Qv Q (xr_B D (ms_ty cI cJ cR) (ms_w ad cI cJ) A) A) args s 0 0 A) (F0 m 55 ls []) := by
  intro n
  induction n with
  | zero => intro S v1 v2 v3 v5 v6 H locs ls hP hD hS hl h; exact False.elim h
  | succ n ih => intro S v1 v2 v3 v5 v6 H locs ls hP hD hS hl h; exact kb_X8_shares_55 fx hK hA k2 ih hP hD hS hl h
set_option maxHeartbeats 4000000 in
set_option maxRecDepth 100000 in
theorem kb_X8_shares_2 {p : Program} {l : Launch} {e : Env} {s : State} {m : MethodId} {args : Array Value} {below : List Frame} {meth : Method} {c : Code} {D : va_G} {ad : Nat → Nat} {cI cJ cR : ClassId} {A : Nat → Prop}  {K2 : ms_T → Int32 → Int32 → Prop} {Q : ms_T → Prop} {S : ms_T} {v1 : Int32} {v2 : Int32} (fx : xr_Fx p m c meth cX8_shares 9 s args wsX8_shares RX8 none) (hK : xr_K D (ms_ty cI cJ cR) s) (hA : ∀ q, s.heap.size ≤ q → A q)  (k2 : ∀ (S : ms_T) (v1 : Int32) (v2 : Int32) {H : Heap} {locs : List Loc} {ls : Array Slot}, va_P D vwCl (ms_w ad cI cJ S) H → va_D A (ms_w ad cI cJ S) → va_S A s.heap H locs → lv_has ls 9 [(0, .ref (ad 0)), (1, .int v1), (2, .int v2)] → K2 S v1 v2 → W p l e rm_X8_shares s m args below meth c H locs 0 0 (MQ below (va_Qv Q (xr_B D (ms_ty cI cJ cR) (ms_w ad cI cJ) A) A) args s 0 0 A) (F0 m 2 ls [])) {H : Heap} {locs : List Loc} {ls : Array Slot} (hP : va_P D vwCl (ms_w ad cI cJ S) H) (hD : va_D A (ms_w ad cI cJ S)) (hS : va_S A s.heap H locs) (hl : lv_has ls 9 [(0, .ref (ad 0)), (1, .int v1), (2, .int v2)]) (h : wb_X8_shares_2 K2 Q S v1 v2) : W p l e rm_X8_shares s m args below meth c H locs 0 0 (MQ below (va_Qv Q (xr_B D (ms_ty cI cJ cR) (ms_w ad cI cJ) A) A) args s 0 0 A) (F0 m 2 ls []) := by
  obtain ⟨⟨hx, hb, hml, hown, hts⟩, hrt, hlk⟩ := id fx
  have hf : 0 ≤ rm_X8_shares.cells ∧ 0 ≤ rm_X8_shares.slots := ⟨Nat.zero_le _, Nat.zero_le _⟩
  unfold wb_X8_shares_2 at h
  refine lv_iload_n hx hb dX8_shares_2 rfl (lv_at hl 2 rfl) ?_
  refine lv_aload_n hx hb dX8_shares_3 rfl (lv_at hl 0 rfl) ?_
  refine ms_get 2 (v := .int (S.1 2)) fx in_X8_shares (by decide) rfl (by decide +kernel) rfl hK hP dX8_shares_4 ?_
  refine lv_icmp_ge (tgt := 142) hx hb dX8_shares_7 (by decide) (fun c7 => ?_) (fun c7 => ?_)
  · have h := h.1 c7
    exact xr_rV fx hK hP hD hS h dX8_shares_142
  · have h := h.2 c7
    refine lv_aload_n hx hb dX8_shares_10 rfl (lv_at hl 0 rfl) ?_
    refine ms_get 6 (v := .ref (ad 15)) fx in_X8_shares (by decide) rfl (by decide +kernel) rfl hK hP dX8_shares_11 ?_
    refine lv_sipush (v := 364) hx hb dX8_shares_14 (by decide) ?_
    refine lv_iload_n hx hb dX8_shares_17 rfl (lv_at hl 1 rfl) ?_
    refine lv_imul hx hb dX8_shares_18 ?_
    refine lv_iload_n hx hb dX8_shares_19 rfl (lv_at hl 2 rfl) ?_
    refine lv_iadd hx hb dX8_shares_20 ?_
    obtain ⟨hi11, h⟩ := h
    refine ms_lald 0 (by decide) fx hK hP rfl hi11 dX8_shares_21 ?_
    refine lv_topl (fun v3_12 ev3_12 => ?_)
    have h := h v3_12 ev3_12
    refine lv_lstore_n (lv' := [(3, .long v3_12), (0, .ref (ad 0)), (1, .int v1), (2, .int v2)]) hx hb dX8_shares_22 rfl hl (by decide) rfl (fun ls hl => ?_)
    refine lv_lload_n hx hb dX8_shares_23 rfl (lv_at hl 0 rfl) ?_
    refine lv_lconst (v := 0) hx hb dX8_shares_24 (by decide) ?_
    refine W.lcmp hx hb dX8_shares_25 ?_
    refine lv_if_eq (tgt := 136) hx hb dX8_shares_26 (by decide) (fun c26 => ?_) (fun c26 => ?_)
    · have h := h.1 ((lg_cmp_eq _ _).mp c26)
      exact kw_X8_shares_136 fx hK hA k2 hP hD hS (lv_sub hl [1, 2, 3] rfl) h
    · have h := h.2 (fun z => c26 ((lg_cmp_eq _ _).mpr z))
      refine lv_aload_n hx hb dX8_shares_29 rfl (lv_at hl 1 rfl) ?_
      refine lv_iload_n hx hb dX8_shares_30 rfl (lv_at hl 3 rfl) ?_
      refine xr_vV (n := 1) (As := [.int v2]) (rest := []) fx (ct_X8_ordered l D ad cI cJ cR h) gX8_shares_X8_ordered rfl rfl (by decide +kernel) ⟨Nat.le_of_ble_eq_true rfl, Nat.le_of_ble_eq_true rfl⟩ ⟨rfl, rfl⟩ hf (ms_recv hK hP) hK hP hD hS hA hl.1 rfl (Nat.le_of_ble_eq_true rfl) dX8_shares_31 (fun S13 H locs h hP hD hS => ?_)
      refine lv_aload_n hx hb dX8_shares_34 rfl (lv_at hl 1 rfl) ?_
      refine ms_get 5 (v := .ref (ad 3)) fx in_X8_shares (by decide) rfl (by decide +kernel) rfl hK hP dX8_shares_35 ?_
      refine lv_iload_n hx hb dX8_shares_38 rfl (lv_at hl 3 rfl) ?_
      obtain ⟨hi14, h⟩ := h
      refine ms_iald 2 (by decide) fx hK hP rfl hi14 dX8_shares_39 ?_
      refine lv_topi (fun v5_15 ev5_15 => ?_)
      have h := h v5_15 ev5_15
      refine lv_istore (lv' := [(5, .int v5_15), (3, .long v3_12), (0, .ref (ad 0)), (1, .int v1), (2, .int v2)]) hx hb dX8_shares_40 hl (by decide) rfl (fun ls hl => ?_)
      refine lv_iload_n hx hb dX8_shares_42 rfl (lv_at hl 4 rfl) ?_
      refine lv_aload_n hx hb dX8_shares_43 rfl (lv_at hl 2 rfl) ?_
      refine ms_get 4 (v := .ref (ad 2)) fx in_X8_shares (by decide) rfl (by decide +kernel) rfl hK hP dX8_shares_44 ?_
      refine lv_iload hx hb dX8_shares_47 (lv_at hl 0 rfl) ?_
      obtain ⟨hi16, h⟩ := h
      refine ms_iald 1 (by decide) fx hK hP rfl hi16 dX8_shares_49 ?_
      refine lv_isub hx hb dX8_shares_50 ?_
      refine lv_iconst (v := 1) hx hb dX8_shares_51 (by decide) ?_
      refine lv_iadd hx hb dX8_shares_52 ?_
      refine lv_topi (fun v6_17 ev6_17 => ?_)
      have h := h v6_17 ev6_17
      refine lv_istore (lv' := [(6, .int v6_17), (5, .int v5_15), (3, .long v3_12), (0, .ref (ad 0)), (1, .int v1), (2, .int v2)]) hx hb dX8_shares_53 hl (by decide) rfl (fun ls hl => ?_)
      obtain ⟨n, h⟩ := h
      exact kw_X8_shares_55 fx hK hA k2 n _ _ _ _ _ _ hP hD hS (lv_sub hl [3, 4, 5, 2, 1, 0] rfl) h
theorem kw_X8_shares_2 {p : Program} {l : Launch} {e : Env} {s : State} {m : MethodId} {args : Array Value} {below : List Frame} {meth : Method} {c : Code} {D : va_G} {ad : Nat → Nat} {cI cJ cR : ClassId} {A : Nat → Prop}  {Q : ms_T → Prop} (fx : xr_Fx p m c meth cX8_shares 9 s args wsX8_shares RX8 none) (hK : xr_K D (ms_ty cI cJ cR) s) (hA : ∀ q, s.heap.size ≤ q → A q)  : ∀ (n : Nat) (S : ms_T) (v1 : Int32) (v2 : Int32) {H : Heap} {locs : List Loc} {ls : Array Slot}, va_P D vwCl (ms_w ad cI cJ S) H → va_D A (ms_w ad cI cJ S) → va_S A s.heap H locs → lv_has ls 9 [(0, .ref (ad 0)), (1, .int v1), (2, .int v2)] → wp_X8_shares_2 Q n S v1 v2 → W p l e rm_X8_shares s m args below meth c H locs 0 0 (MQ below (va_Qv Q (xr_B D (ms_ty cI cJ cR) (ms_w ad cI cJ) A) A) args s 0 0 A) (F0 m 2 ls []) := by
  intro n
  induction n with
  | zero => intro S v1 v2 H locs ls hP hD hS hl h; exact False.elim h
  | succ n ih => intro S v1 v2 H locs ls hP hD hS hl h; exact kb_X8_shares_2 fx hK hA ih hP hD hS hl h
set_option maxHeartbeats 4000000 in
set_option maxRecDepth 100000 in
theorem ct_X8_shares (l : Launch) (D : va_G) (ad : Nat → Nat) (cI cJ cR : ClassId) {S : ms_T} {a1 : Int32} {Q : ms_T → Prop} (h : wp_X8_shares S a1 Q) : xr_V l D (ms_ty cI cJ cR) (ms_w ad cI cJ) yX8_shares wsX8_shares rm_X8_shares [.ref (ad 0), .int a1] S Q := by
  refine xr_eV (cc := cX8_shares) (nL := 9) (ret := none) (own := RX8) (by decide) rfl rfl (Nat.le_of_ble_eq_true rfl) ?_
  intro p e s m args below meth c ls A fx hK hA hP hD hS hl
  have hl : lv_has ls 9 [(0, .ref (ad 0)), (1, .int a1)] := hl
  show W p l e rm_X8_shares s m args below meth c s.heap [] 0 0 _ _
  obtain ⟨⟨hx, hb, hml, hown, hts⟩, hrt, hlk⟩ := id fx
  have hf : 0 ≤ rm_X8_shares.cells ∧ 0 ≤ rm_X8_shares.slots := ⟨Nat.zero_le _, Nat.zero_le _⟩
  unfold wp_X8_shares at h
  refine lv_iconst (v := 0) hx hb dX8_shares_0 (by decide) ?_
  refine lv_istore_n (lv' := [(2, .int 0), (0, .ref (ad 0)), (1, .int a1)]) hx hb dX8_shares_1 rfl hl (by decide) rfl (fun ls hl => ?_)
  obtain ⟨n, h⟩ := h
  exact kw_X8_shares_2 fx hK hA n _ _ _ hP hD hS (lv_sub hl [1, 2, 0] rfl) h
abbrev rm_X8_share : Room := { frames := 5, cells := 0, slots := 0, locals := 124 }
theorem in_X8_share : ∀ w ∈ wsX80, w ∈ wsX8_share := by decide +kernel
set_option maxHeartbeats 4000000 in
set_option maxRecDepth 100000 in
theorem ct_X8_share (l : Launch) (D : va_G) (ad : Nat → Nat) (cI cJ cR : ClassId) {S : ms_T} {a1 : Int32} {a2 : Int32} {Q : Int32 → ms_T → Prop} (h : wp_X8_share S a1 a2 Q) : xr_I l D (ms_ty cI cJ cR) (ms_w ad cI cJ) yX8_share wsX8_share rm_X8_share [.ref (ad 0), .int a1, .int a2] S Q := by
  refine xr_eI (cc := cX8_share) (nL := 4) (ret := (some .int)) (own := RX8) (by decide) rfl rfl (Nat.le_of_ble_eq_true rfl) ?_
  intro p e s m args below meth c ls A fx hK hA hP hD hS hl
  have hl : lv_has ls 4 [(0, .ref (ad 0)), (1, .int a1), (2, .int a2)] := hl
  show W p l e rm_X8_share s m args below meth c s.heap [] 0 0 _ _
  obtain ⟨⟨hx, hb, hml, hown, hts⟩, hrt, hlk⟩ := id fx
  have hf : 0 ≤ rm_X8_share.cells ∧ 0 ≤ rm_X8_share.slots := ⟨Nat.zero_le _, Nat.zero_le _⟩
  unfold wp_X8_share at h
  refine lv_aload_n hx hb dX8_share_0 rfl (lv_at hl 0 rfl) ?_
  refine lv_iload_n hx hb dX8_share_1 rfl (lv_at hl 2 rfl) ?_
  refine xr_vI (n := 1) (As := [.int a2]) (rest := []) fx (ct_X8_wordOf l D ad cI cJ cR h) gX8_share_X8_wordOf rfl rfl (by decide +kernel) ⟨Nat.le_of_ble_eq_true rfl, Nat.le_of_ble_eq_true rfl⟩ ⟨rfl, rfl⟩ hf (ms_recv hK hP) hK hP hD hS hA hl.1 rfl (Nat.le_of_ble_eq_true rfl) dX8_share_2 (fun r2 S1 H locs h hP hD hS => ?_)
  refine lv_istore_n (lv' := [(3, .int r2), (0, .ref (ad 0)), (1, .int a1), (2, .int a2)]) hx hb dX8_share_5 rfl hl (by decide) rfl (fun ls hl => ?_)
  refine lv_iload_n hx hb dX8_share_6 rfl (lv_at hl 2 rfl) ?_
  refine xr_sI (n := 1) (As := [.int a1]) (rest := []) fx (ct_X8_isSum l h) gX8_share_X8_isSum rfl rfl (by decide +kernel) ⟨Nat.le_of_ble_eq_true rfl, Nat.le_of_ble_eq_true rfl⟩ ⟨rfl, rfl⟩ hf hl.1 rfl (Nat.le_of_ble_eq_true rfl) dX8_share_7 (fun r3 h => ?_)
  refine lv_if_eq (tgt := 18) hx hb dX8_share_10 (by decide) (fun c10 => ?_) (fun c10 => ?_)
  · have h := h.1 c10
    refine lv_iconst (v := (-1)) hx hb dX8_share_18 (by decide) ?_
    exact xr_rI fx hK hP hD hS h dX8_share_19
  · have h := h.2 c10
    refine lv_iload_n hx hb dX8_share_13 rfl (lv_at hl 0 rfl) ?_
    refine lv_iconst (v := (-1)) hx hb dX8_share_14 (by decide) ?_
    refine lv_icmp_ne (tgt := 20) hx hb dX8_share_15 (by decide) (fun c15 => ?_) (fun c15 => ?_)
    · have h := h.1 c15
      refine lv_aload_n hx hb dX8_share_20 rfl (lv_at hl 1 rfl) ?_
      refine lv_bipush (v := 8) hx hb dX8_share_21 (by decide) ?_
      refine lv_iload_n hx hb dX8_share_23 rfl (lv_at hl 2 rfl) ?_
      refine xr_vV (n := 2) (As := [.int 8, .int a1]) (rest := []) fx (ct_X8_copies l D ad cI cJ cR h) gX8_share_X8_copies rfl rfl (by decide +kernel) ⟨Nat.le_of_ble_eq_true rfl, Nat.le_of_ble_eq_true rfl⟩ ⟨rfl, rfl⟩ hf (ms_recv hK hP) hK hP hD hS hA hl.1 rfl (Nat.le_of_ble_eq_true rfl) dX8_share_24 (fun S4 H locs h hP hD hS => ?_)
      refine lv_aload_n hx hb dX8_share_27 rfl (lv_at hl 1 rfl) ?_
      refine lv_bipush (v := 8) hx hb dX8_share_28 (by decide) ?_
      refine xr_vV (n := 1) (As := [.int 8]) (rest := []) fx (ct_X8_shares l D ad cI cJ cR h) gX8_share_X8_shares rfl rfl (by decide +kernel) ⟨Nat.le_of_ble_eq_true rfl, Nat.le_of_ble_eq_true rfl⟩ ⟨rfl, rfl⟩ hf (ms_recv hK hP) hK hP hD hS hA hl.1 rfl (Nat.le_of_ble_eq_true rfl) dX8_share_30 (fun S5 H locs h hP hD hS => ?_)
      refine lv_aload_n hx hb dX8_share_33 rfl (lv_at hl 1 rfl) ?_
      refine ms_get 6 (v := .ref (ad 15)) fx in_X8_share (by decide) rfl (by decide +kernel) rfl hK hP dX8_share_34 ?_
      refine lv_sipush (v := 2912) hx hb dX8_share_37 (by decide) ?_
      refine lv_iload_n hx hb dX8_share_40 rfl (lv_at hl 0 rfl) ?_
      refine lv_iadd hx hb dX8_share_41 ?_
      obtain ⟨hi6, h⟩ := h
      refine ms_lald 0 (by decide) fx hK hP rfl hi6 dX8_share_42 ?_
      refine lv_l2i hx hb dX8_share_43 rfl ?_
      exact xr_rI fx hK hP hD hS h dX8_share_44
    · have h := h.2 c15
      refine lv_iconst (v := (-1)) hx hb dX8_share_18 (by decide) ?_
      exact xr_rI fx hK hP hD hS h dX8_share_19
abbrev rm_X8_isLie : Room := { frames := 5, cells := 0, slots := 0, locals := 124 }
theorem in_X8_isLie : ∀ w ∈ wsX80, w ∈ wsX8_isLie := by decide +kernel
set_option maxHeartbeats 4000000 in
set_option maxRecDepth 100000 in
theorem kw_X8_isLie_50 {p : Program} {l : Launch} {e : Env} {s : State} {m : MethodId} {args : Array Value} {below : List Frame} {meth : Method} {c : Code} {D : va_G} {ad : Nat → Nat} {cI cJ cR : ClassId} {A : Nat → Prop} {K15 : ms_T → Int32 → Prop} {Q : Int32 → ms_T → Prop} {S : ms_T} {v2 : Int32} (fx : xr_Fx p m c meth cX8_isLie 3 s args wsX8_isLie RX8 (some .boolean)) (hK : xr_K D (ms_ty cI cJ cR) s) (hA : ∀ q, s.heap.size ≤ q → A q) (k15 : ∀ (S : ms_T) (v2 : Int32) {H : Heap} {locs : List Loc} {ls : Array Slot}, va_P D vwCl (ms_w ad cI cJ S) H → va_D A (ms_w ad cI cJ S) → va_S A s.heap H locs → lv_has ls 3 [(0, .ref (ad 0)), (2, .int v2)] → K15 S v2 → W p l e rm_X8_isLie s m args below meth c H locs 0 0 (MQ below (va_Qi Q (xr_B D (ms_ty cI cJ cR) (ms_w ad cI cJ) A) A) args s 0 0 A) (F0 m 15 ls [])) {H : Heap} {locs : List Loc} {ls : Array Slot} (hP : va_P D vwCl (ms_w ad cI cJ S) H) (hD : va_D A (ms_w ad cI cJ S)) (hS : va_S A s.heap H locs) (hl : lv_has ls 3 [(0, .ref (ad 0)), (2, .int v2)]) (h : wp_X8_isLie_50 K15 Q S v2) : W p l e rm_X8_isLie s m args below meth c H locs 0 0 (MQ below (va_Qi Q (xr_B D (ms_ty cI cJ cR) (ms_w ad cI cJ) A) A) args s 0 0 A) (F0 m 50 ls []) := by
  obtain ⟨⟨hx, hb, hml, hown, hts⟩, hrt, hlk⟩ := id fx
  have hf : 0 ≤ rm_X8_isLie.cells ∧ 0 ≤ rm_X8_isLie.slots := ⟨Nat.zero_le _, Nat.zero_le _⟩
  unfold wp_X8_isLie_50 at h
  obtain ⟨v2_1, ev2_1⟩ : ∃ z : Int32, z = v2 + 1 := ⟨_, rfl⟩
  have h := h v2_1 ev2_1
  refine lv_iinc (v := v2_1) (lv' := [(2, .int v2_1), (0, .ref (ad 0))]) hx hb dX8_isLie_50 hl (k := 1) rfl (by rw [ev2_1]; rfl) (by decide) rfl (fun ls hl => ?_)
  refine lv_goto (tgt := 15) hx hb dX8_isLie_53 (by decide) ?_
  exact k15 _ _ hP hD hS (lv_sub hl [1, 0] rfl) h
set_option maxHeartbeats 4000000 in
set_option maxRecDepth 100000 in
theorem kb_X8_isLie_15 {p : Program} {l : Launch} {e : Env} {s : State} {m : MethodId} {args : Array Value} {below : List Frame} {meth : Method} {c : Code} {D : va_G} {ad : Nat → Nat} {cI cJ cR : ClassId} {A : Nat → Prop}  {K15 : ms_T → Int32 → Prop} {Q : Int32 → ms_T → Prop} {S : ms_T} {v2 : Int32} (fx : xr_Fx p m c meth cX8_isLie 3 s args wsX8_isLie RX8 (some .boolean)) (hK : xr_K D (ms_ty cI cJ cR) s) (hA : ∀ q, s.heap.size ≤ q → A q)  (k15 : ∀ (S : ms_T) (v2 : Int32) {H : Heap} {locs : List Loc} {ls : Array Slot}, va_P D vwCl (ms_w ad cI cJ S) H → va_D A (ms_w ad cI cJ S) → va_S A s.heap H locs → lv_has ls 3 [(0, .ref (ad 0)), (2, .int v2)] → K15 S v2 → W p l e rm_X8_isLie s m args below meth c H locs 0 0 (MQ below (va_Qi Q (xr_B D (ms_ty cI cJ cR) (ms_w ad cI cJ) A) A) args s 0 0 A) (F0 m 15 ls [])) {H : Heap} {locs : List Loc} {ls : Array Slot} (hP : va_P D vwCl (ms_w ad cI cJ S) H) (hD : va_D A (ms_w ad cI cJ S)) (hS : va_S A s.heap H locs) (hl : lv_has ls 3 [(0, .ref (ad 0)), (2, .int v2)]) (h : wb_X8_isLie_15 K15 Q S v2) : W p l e rm_X8_isLie s m args below meth c H locs 0 0 (MQ below (va_Qi Q (xr_B D (ms_ty cI cJ cR) (ms_w ad cI cJ) A) A) args s 0 0 A) (F0 m 15 ls []) := by
  obtain ⟨⟨hx, hb, hml, hown, hts⟩, hrt, hlk⟩ := id fx
  have hf : 0 ≤ rm_X8_isLie.cells ∧ 0 ≤ rm_X8_isLie.slots := ⟨Nat.zero_le _, Nat.zero_le _⟩
  unfold wb_X8_isLie_15 at h
  refine lv_iload_n hx hb dX8_isLie_15 rfl (lv_at hl 1 rfl) ?_
  refine lv_aload_n hx hb dX8_isLie_16 rfl (lv_at hl 0 rfl) ?_
  refine ms_get 2 (v := .int (S.1 2)) fx in_X8_isLie (by decide) rfl (by decide +kernel) rfl hK hP dX8_isLie_17 ?_
  refine lv_icmp_ge (tgt := 56) hx hb dX8_isLie_20 (by decide) (fun c20 => ?_) (fun c20 => ?_)
  · have h := h.1 c20
    refine lv_iconst (v := 1) hx hb dX8_isLie_56 (by decide) ?_
    exact xr_rZ fx rfl hK hP hD hS h dX8_isLie_57
  · have h := h.2 c20
    refine lv_aload_n hx hb dX8_isLie_23 rfl (lv_at hl 0 rfl) ?_
    refine ms_get 6 (v := .ref (ad 15)) fx in_X8_isLie (by decide) rfl (by decide +kernel) rfl hK hP dX8_isLie_24 ?_
    refine lv_sipush (v := 2912) hx hb dX8_isLie_27 (by decide) ?_
    refine lv_iload_n hx hb dX8_isLie_30 rfl (lv_at hl 1 rfl) ?_
    refine lv_iadd hx hb dX8_isLie_31 ?_
    obtain ⟨hi2, h⟩ := h
    refine ms_lald 0 (by decide) fx hK hP rfl hi2 dX8_isLie_32 ?_
    refine lv_lconst (v := 0) hx hb dX8_isLie_33 (by decide) ?_
    refine W.lcmp hx hb dX8_isLie_34 ?_
    refine lv_if_eq (tgt := 50) hx hb dX8_isLie_35 (by decide) (fun c35 => ?_) (fun c35 => ?_)
    · have h := h.1 ((lg_cmp_eq _ _).mp c35)
      exact kw_X8_isLie_50 fx hK hA k15 hP hD hS (lv_sub hl [0, 1] rfl) h
    · have h := h.2 (fun z => c35 ((lg_cmp_eq _ _).mpr z))
      refine lv_aload_n hx hb dX8_isLie_38 rfl (lv_at hl 0 rfl) ?_
      refine ms_get 12 (v := .ref (ad 8)) fx in_X8_isLie (by decide) rfl (by decide +kernel) rfl hK hP dX8_isLie_39 ?_
      refine lv_iload_n hx hb dX8_isLie_42 rfl (lv_at hl 1 rfl) ?_
      obtain ⟨hi3, h⟩ := h
      refine ms_iald 7 (by decide) fx hK hP rfl hi3 dX8_isLie_43 ?_
      refine lv_iconst (v := (-1)) hx hb dX8_isLie_44 (by decide) ?_
      refine lv_icmp_ne (tgt := 50) hx hb dX8_isLie_45 (by decide) (fun c45 => ?_) (fun c45 => ?_)
      · have h := h.1 c45
        exact kw_X8_isLie_50 fx hK hA k15 hP hD hS (lv_sub hl [0, 1] rfl) h
      · have h := h.2 c45
        refine lv_iconst (v := 0) hx hb dX8_isLie_48 (by decide) ?_
        exact xr_rZ fx rfl hK hP hD hS h dX8_isLie_49
theorem kw_X8_isLie_15 {p : Program} {l : Launch} {e : Env} {s : State} {m : MethodId} {args : Array Value} {below : List Frame} {meth : Method} {c : Code} {D : va_G} {ad : Nat → Nat} {cI cJ cR : ClassId} {A : Nat → Prop}  {Q : Int32 → ms_T → Prop} (fx : xr_Fx p m c meth cX8_isLie 3 s args wsX8_isLie RX8 (some .boolean)) (hK : xr_K D (ms_ty cI cJ cR) s) (hA : ∀ q, s.heap.size ≤ q → A q)  : ∀ (n : Nat) (S : ms_T) (v2 : Int32) {H : Heap} {locs : List Loc} {ls : Array Slot}, va_P D vwCl (ms_w ad cI cJ S) H → va_D A (ms_w ad cI cJ S) → va_S A s.heap H locs → lv_has ls 3 [(0, .ref (ad 0)), (2, .int v2)] → wp_X8_isLie_15 Q n S v2 → W p l e rm_X8_isLie s m args below meth c H locs 0 0 (MQ below (va_Qi Q (xr_B D (ms_ty cI cJ cR) (ms_w ad cI cJ) A) A) args s 0 0 A) (F0 m 15 ls []) := by
  intro n
  induction n with
  | zero => intro S v2 H locs ls hP hD hS hl h; exact False.elim h
  | succ n ih => intro S v2 H locs ls hP hD hS hl h; exact kb_X8_isLie_15 fx hK hA ih hP hD hS hl h
set_option maxHeartbeats 4000000 in
set_option maxRecDepth 100000 in
theorem ct_X8_isLie (l : Launch) (D : va_G) (ad : Nat → Nat) (cI cJ cR : ClassId) {S : ms_T} {a1 : Int32} {Q : Int32 → ms_T → Prop} (h : wp_X8_isLie S a1 Q) : xr_I l D (ms_ty cI cJ cR) (ms_w ad cI cJ) yX8_isLie wsX8_isLie rm_X8_isLie [.ref (ad 0), .int a1] S Q := by
  refine xr_eI (cc := cX8_isLie) (nL := 3) (ret := (some .boolean)) (own := RX8) (by decide) rfl rfl (Nat.le_of_ble_eq_true rfl) ?_
  intro p e s m args below meth c ls A fx hK hA hP hD hS hl
  have hl : lv_has ls 3 [(0, .ref (ad 0)), (1, .int a1)] := hl
  show W p l e rm_X8_isLie s m args below meth c s.heap [] 0 0 _ _
  obtain ⟨⟨hx, hb, hml, hown, hts⟩, hrt, hlk⟩ := id fx
  have hf : 0 ≤ rm_X8_isLie.cells ∧ 0 ≤ rm_X8_isLie.slots := ⟨Nat.zero_le _, Nat.zero_le _⟩
  unfold wp_X8_isLie at h
  refine lv_aload_n hx hb dX8_isLie_0 rfl (lv_at hl 0 rfl) ?_
  refine lv_bipush (v := 8) hx hb dX8_isLie_1 (by decide) ?_
  refine lv_iload_n hx hb dX8_isLie_3 rfl (lv_at hl 1 rfl) ?_
  refine xr_vV (n := 2) (As := [.int 8, .int a1]) (rest := []) fx (ct_X8_copies l D ad cI cJ cR h) gX8_isLie_X8_copies rfl rfl (by decide +kernel) ⟨Nat.le_of_ble_eq_true rfl, Nat.le_of_ble_eq_true rfl⟩ ⟨rfl, rfl⟩ hf (ms_recv hK hP) hK hP hD hS hA hl.1 rfl (Nat.le_of_ble_eq_true rfl) dX8_isLie_4 (fun S4 H locs h hP hD hS => ?_)
  refine lv_aload_n hx hb dX8_isLie_7 rfl (lv_at hl 0 rfl) ?_
  refine lv_bipush (v := 8) hx hb dX8_isLie_8 (by decide) ?_
  refine xr_vV (n := 1) (As := [.int 8]) (rest := []) fx (ct_X8_shares l D ad cI cJ cR h) gX8_isLie_X8_shares rfl rfl (by decide +kernel) ⟨Nat.le_of_ble_eq_true rfl, Nat.le_of_ble_eq_true rfl⟩ ⟨rfl, rfl⟩ hf (ms_recv hK hP) hK hP hD hS hA hl.1 rfl (Nat.le_of_ble_eq_true rfl) dX8_isLie_10 (fun S5 H locs h hP hD hS => ?_)
  refine lv_iconst (v := 0) hx hb dX8_isLie_13 (by decide) ?_
  refine lv_istore_n (lv' := [(2, .int 0), (0, .ref (ad 0)), (1, .int a1)]) hx hb dX8_isLie_14 rfl hl (by decide) rfl (fun ls hl => ?_)
  obtain ⟨n, h⟩ := h
  exact kw_X8_isLie_15 fx hK hA n _ _ hP hD hS (lv_sub hl [1, 0] rfl) h
abbrev rm_X8_lie : Room := { frames := 6, cells := 0, slots := 0, locals := 146 }
set_option maxHeartbeats 4000000 in
set_option maxRecDepth 100000 in
theorem ct_X8_lie (l : Launch) (D : va_G) (ad : Nat → Nat) (cI cJ cR : ClassId) {S : ms_T} {a1 : Int32} {Q : Int32 → ms_T → Prop} (h : wp_X8_lie S a1 Q) : xr_I l D (ms_ty cI cJ cR) (ms_w ad cI cJ) yX8_lie wsX8_lie rm_X8_lie [.ref (ad 0), .int a1] S Q := by
  refine xr_eI (cc := cX8_lie) (nL := 2) (ret := (some .int)) (own := RX8) (by decide) rfl rfl (Nat.le_of_ble_eq_true rfl) ?_
  intro p e s m args below meth c ls A fx hK hA hP hD hS hl
  have hl : lv_has ls 2 [(0, .ref (ad 0)), (1, .int a1)] := hl
  show W p l e rm_X8_lie s m args below meth c s.heap [] 0 0 _ _
  obtain ⟨⟨hx, hb, hml, hown, hts⟩, hrt, hlk⟩ := id fx
  have hf : 0 ≤ rm_X8_lie.cells ∧ 0 ≤ rm_X8_lie.slots := ⟨Nat.zero_le _, Nat.zero_le _⟩
  unfold wp_X8_lie at h
  refine lv_iload_n hx hb dX8_lie_0 rfl (lv_at hl 1 rfl) ?_
  refine xr_sI (n := 1) (As := [.int a1]) (rest := []) fx (ct_X8_isSum l h) gX8_lie_X8_isSum rfl rfl (by decide +kernel) ⟨Nat.le_of_ble_eq_true rfl, Nat.le_of_ble_eq_true rfl⟩ ⟨rfl, rfl⟩ hf hl.1 rfl (Nat.le_of_ble_eq_true rfl) dX8_lie_1 (fun r1 h => ?_)
  refine lv_if_eq (tgt := 23) hx hb dX8_lie_4 (by decide) (fun c4 => ?_) (fun c4 => ?_)
  · have h := h.1 c4
    refine lv_iconst (v := (-1)) hx hb dX8_lie_23 (by decide) ?_
    exact xr_rI fx hK hP hD hS h dX8_lie_24
  · have h := h.2 c4
    refine lv_aload_n hx hb dX8_lie_7 rfl (lv_at hl 0 rfl) ?_
    refine lv_iload_n hx hb dX8_lie_8 rfl (lv_at hl 1 rfl) ?_
    refine xr_vI (n := 1) (As := [.int a1]) (rest := []) fx (ct_X8_isLie l D ad cI cJ cR h) gX8_lie_X8_isLie rfl rfl (by decide +kernel) ⟨Nat.le_of_ble_eq_true rfl, Nat.le_of_ble_eq_true rfl⟩ ⟨rfl, rfl⟩ hf (ms_recv hK hP) hK hP hD hS hA hl.1 rfl (Nat.le_of_ble_eq_true rfl) dX8_lie_9 (fun r3 S2 H locs h hP hD hS => ?_)
    refine lv_if_eq (tgt := 19) hx hb dX8_lie_12 (by decide) (fun c12 => ?_) (fun c12 => ?_)
    · have h := h.1 c12
      refine lv_iconst (v := 0) hx hb dX8_lie_19 (by decide) ?_
      refine lv_goto (tgt := 24) hx hb dX8_lie_20 (by decide) ?_
      exact xr_rI fx hK hP hD hS h dX8_lie_24
    · have h := h.2 c12
      refine lv_iconst (v := 1) hx hb dX8_lie_15 (by decide) ?_
      refine lv_goto (tgt := 24) hx hb dX8_lie_16 (by decide) ?_
      exact xr_rI fx hK hP hD hS h dX8_lie_24
abbrev rm_X8_table : Room := { frames := 5, cells := 0, slots := 0, locals := 124 }
theorem in_X8_table : ∀ w ∈ wsX80, w ∈ wsX8_table := by decide +kernel
set_option maxHeartbeats 4000000 in
set_option maxRecDepth 100000 in
theorem kb_X8_table_97 {p : Program} {l : Launch} {e : Env} {s : State} {m : MethodId} {args : Array Value} {below : List Frame} {meth : Method} {c : Code} {D : va_G} {ad : Nat → Nat} {cI cJ cR : ClassId} {A : Nat → Prop}  {K97 : ms_T → Int32 → Int32 → Int32 → Int32 → Prop} {Q : Int32 → ms_T → Prop} {S : ms_T} {v3 : Int32} {v4 : Int32} {v5 : Int32} {v6 : Int32} (fx : xr_Fx p m c meth cX8_table 8 s args wsX8_table RX8 (some .int)) (hK : xr_K D (ms_ty cI cJ cR) s) (hA : ∀ q, s.heap.size ≤ q → A q)  (k97 : ∀ (S : ms_T) (v3 : Int32) (v4 : Int32) (v5 : Int32) (v6 : Int32) {H : Heap} {locs : List Loc} {ls : Array Slot}, va_P D vwCl (ms_w ad cI cJ S) H → va_D A (ms_w ad cI cJ S) → va_S A s.heap H locs → lv_has ls 8 [(0, .ref (ad 0)), (3, .int v3), (4, .int v4), (5, .int v5), (6, .int v6)] → K97 S v3 v4 v5 v6 → W p l e rm_X8_table s m args below meth c H locs 0 0 (MQ below (va_Qi Q (xr_B D (ms_ty cI cJ cR) (ms_w ad cI cJ) A) A) args s 0 0 A) (F0 m 97 ls [])) {H : Heap} {locs : List Loc} {ls : Array Slot} (hP : va_P D vwCl (ms_w ad cI cJ S) H) (hD : va_D A (ms_w ad cI cJ S)) (hS : va_S A s.heap H locs) (hl : lv_has ls 8 [(0, .ref (ad 0)), (3, .int v3), (4, .int v4), (5, .int v5), (6, .int v6)]) (h : wb_X8_table_97 K97 Q S v3 v4 v5 v6) : W p l e rm_X8_table s m args below meth c H locs 0 0 (MQ below (va_Qi Q (xr_B D (ms_ty cI cJ cR) (ms_w ad cI cJ) A) A) args s 0 0 A) (F0 m 97 ls []) := by
  obtain ⟨⟨hx, hb, hml, hown, hts⟩, hrt, hlk⟩ := id fx
  have hf : 0 ≤ rm_X8_table.cells ∧ 0 ≤ rm_X8_table.slots := ⟨Nat.zero_le _, Nat.zero_le _⟩
  unfold wb_X8_table_97 at h
  refine lv_iload hx hb dX8_table_97 (lv_at hl 4 rfl) ?_
  refine lv_aload_n hx hb dX8_table_99 rfl (lv_at hl 0 rfl) ?_
  refine ms_get 3 (v := .ref (ad 1)) fx in_X8_table (by decide) rfl (by decide +kernel) rfl hK hP dX8_table_100 ?_
  refine lv_iload hx hb dX8_table_103 (lv_at hl 2 rfl) ?_
  refine lv_iload hx hb dX8_table_105 (lv_at hl 3 rfl) ?_
  refine lv_iadd hx hb dX8_table_107 ?_
  obtain ⟨hi1, h⟩ := h
  refine ms_iald 0 (by decide) fx hK hP rfl hi1 dX8_table_108 ?_
  refine lv_icmp_ge (tgt := 151) hx hb dX8_table_109 (by decide) (fun c109 => ?_) (fun c109 => ?_)
  · have h := h.1 c109
    refine lv_aload_n hx hb dX8_table_151 rfl (lv_at hl 0 rfl) ?_
    refine lv_bipush (v := 8) hx hb dX8_table_152 (by decide) ?_
    refine xr_vV (n := 1) (As := [.int 8]) (rest := []) fx (ct_X8_shares l D ad cI cJ cR h) gX8_table_X8_shares rfl rfl (by decide +kernel) ⟨Nat.le_of_ble_eq_true rfl, Nat.le_of_ble_eq_true rfl⟩ ⟨rfl, rfl⟩ hf (ms_recv hK hP) hK hP hD hS hA hl.1 rfl (Nat.le_of_ble_eq_true rfl) dX8_table_154 (fun S2 H locs h hP hD hS => ?_)
    refine lv_aload_n hx hb dX8_table_157 rfl (lv_at hl 0 rfl) ?_
    refine ms_get 6 (v := .ref (ad 15)) fx in_X8_table (by decide) rfl (by decide +kernel) rfl hK hP dX8_table_158 ?_
    refine lv_sipush (v := 2912) hx hb dX8_table_161 (by decide) ?_
    refine lv_aload_n hx hb dX8_table_164 rfl (lv_at hl 0 rfl) ?_
    refine ms_get 8 (v := .ref (ad 4)) fx in_X8_table (by decide) rfl (by decide +kernel) rfl hK hP dX8_table_165 ?_
    refine lv_iload_n hx hb dX8_table_168 rfl (lv_at hl 1 rfl) ?_
    obtain ⟨hi3, h⟩ := h
    refine ms_iald 3 (by decide) fx hK hP rfl hi3 dX8_table_169 ?_
    refine lv_iadd hx hb dX8_table_170 ?_
    obtain ⟨hi4, h⟩ := h
    refine ms_lald 0 (by decide) fx hK hP rfl hi4 dX8_table_171 ?_
    refine lv_topl (fun v6_5 ev6_5 => ?_)
    have h := h v6_5 ev6_5
    refine lv_lstore (lv' := [(6, .long v6_5), (0, .ref (ad 0)), (3, .int v3), (4, .int v4), (5, .int v5)]) hx hb dX8_table_172 hl (by decide) rfl (fun ls hl => ?_)
    refine lv_lload hx hb dX8_table_174 (lv_at hl 0 rfl) ?_
    refine lv_ldc2 (v := 1073741823) hx hb hown (hts (.constantLong RX8 227 (1073741823)) (by decide +kernel)) dX8_table_176 ?_
    refine W.lcmp hx hb dX8_table_179 ?_
    refine lv_if_le (tgt := 192) hx hb dX8_table_180 (by decide) (fun c180 => ?_) (fun c180 => ?_)
    · have h := h.1 ((lg_cmp_le _ _).mp c180)
      refine lv_lload hx hb dX8_table_192 (lv_at hl 0 rfl) ?_
      refine lv_l2i hx hb dX8_table_194 rfl ?_
      exact xr_rI fx hK hP hD hS h dX8_table_195
    · have h := h.2 (fun z => c180 ((lg_cmp_le _ _).mpr z))
      refine lv_lload hx hb dX8_table_183 (lv_at hl 0 rfl) ?_
      refine lv_ldc2 (v := 2147483647) hx hb hown (hts (.constantLong RX8 3 (2147483647)) (by decide +kernel)) dX8_table_185 ?_
      refine lv_lsub hx hb dX8_table_188 ?_
      refine lv_goto (tgt := 194) hx hb dX8_table_189 (by decide) ?_
      refine lv_l2i hx hb dX8_table_194 rfl ?_
      exact xr_rI fx hK hP hD hS h dX8_table_195
  · have h := h.2 c109
    refine lv_aload_n hx hb dX8_table_112 rfl (lv_at hl 0 rfl) ?_
    refine ms_get 6 (v := .ref (ad 15)) fx in_X8_table (by decide) rfl (by decide +kernel) rfl hK hP dX8_table_113 ?_
    refine lv_sipush (v := 2912) hx hb dX8_table_116 (by decide) ?_
    refine lv_aload_n hx hb dX8_table_119 rfl (lv_at hl 0 rfl) ?_
    refine ms_get 4 (v := .ref (ad 2)) fx in_X8_table (by decide) rfl (by decide +kernel) rfl hK hP dX8_table_120 ?_
    refine lv_iload hx hb dX8_table_123 (lv_at hl 2 rfl) ?_
    refine lv_iload hx hb dX8_table_125 (lv_at hl 3 rfl) ?_
    refine lv_iadd hx hb dX8_table_127 ?_
    obtain ⟨hi6, h⟩ := h
    refine ms_iald 1 (by decide) fx hK hP rfl hi6 dX8_table_128 ?_
    refine lv_iadd hx hb dX8_table_129 ?_
    refine lv_iload hx hb dX8_table_130 (lv_at hl 4 rfl) ?_
    refine lv_iadd hx hb dX8_table_132 ?_
    refine lv_aload_n hx hb dX8_table_133 rfl (lv_at hl 0 rfl) ?_
    refine ms_get 13 (v := .ref (ad 16)) fx in_X8_table (by decide) rfl (by decide +kernel) rfl hK hP dX8_table_134 ?_
    refine lv_sipush (v := 25344) hx hb dX8_table_137 (by decide) ?_
    refine lv_iload hx hb dX8_table_140 (lv_at hl 4 rfl) ?_
    refine lv_iadd hx hb dX8_table_142 ?_
    obtain ⟨hi7, h⟩ := h
    refine ms_lald 1 (by decide) fx hK hP rfl hi7 dX8_table_143 ?_
    obtain ⟨hi8, h⟩ := h
    refine ms_last 0 (by decide) fx hK hP hD hS rfl hi8 dX8_table_144 (fun H locs hP hD hS => ?_)
    obtain ⟨v6_9, ev6_9⟩ : ∃ z : Int32, z = v6 + 1 := ⟨_, rfl⟩
    have h := h v6_9 ev6_9
    refine lv_iinc (v := v6_9) (lv' := [(6, .int v6_9), (0, .ref (ad 0)), (3, .int v3), (4, .int v4), (5, .int v5)]) hx hb dX8_table_145 hl (k := 4) rfl (by rw [ev6_9]; rfl) (by decide) rfl (fun ls hl => ?_)
    refine lv_goto (tgt := 97) hx hb dX8_table_148 (by decide) ?_
    exact k97 _ _ _ _ _ hP hD hS (lv_sub hl [1, 2, 3, 4, 0] rfl) h
theorem kw_X8_table_97 {p : Program} {l : Launch} {e : Env} {s : State} {m : MethodId} {args : Array Value} {below : List Frame} {meth : Method} {c : Code} {D : va_G} {ad : Nat → Nat} {cI cJ cR : ClassId} {A : Nat → Prop}  {Q : Int32 → ms_T → Prop} (fx : xr_Fx p m c meth cX8_table 8 s args wsX8_table RX8 (some .int)) (hK : xr_K D (ms_ty cI cJ cR) s) (hA : ∀ q, s.heap.size ≤ q → A q)  : ∀ (n : Nat) (S : ms_T) (v3 : Int32) (v4 : Int32) (v5 : Int32) (v6 : Int32) {H : Heap} {locs : List Loc} {ls : Array Slot}, va_P D vwCl (ms_w ad cI cJ S) H → va_D A (ms_w ad cI cJ S) → va_S A s.heap H locs → lv_has ls 8 [(0, .ref (ad 0)), (3, .int v3), (4, .int v4), (5, .int v5), (6, .int v6)] → wp_X8_table_97 Q n S v3 v4 v5 v6 → W p l e rm_X8_table s m args below meth c H locs 0 0 (MQ below (va_Qi Q (xr_B D (ms_ty cI cJ cR) (ms_w ad cI cJ) A) A) args s 0 0 A) (F0 m 97 ls []) := by
  intro n
  induction n with
  | zero => intro S v3 v4 v5 v6 H locs ls hP hD hS hl h; exact False.elim h
  | succ n ih => intro S v3 v4 v5 v6 H locs ls hP hD hS hl h; exact kb_X8_table_97 fx hK hA ih hP hD hS hl h
set_option maxHeartbeats 4000000 in
set_option maxRecDepth 100000 in
theorem ct_X8_table (l : Launch) (D : va_G) (ad : Nat → Nat) (cI cJ cR : ClassId) {S : ms_T} {a1 : Int32} {a2 : Int32} {a3 : Int32} {Q : Int32 → ms_T → Prop} (h : wp_X8_table S a1 a2 a3 Q) : xr_I l D (ms_ty cI cJ cR) (ms_w ad cI cJ) yX8_table wsX8_table rm_X8_table [.ref (ad 0), .int a1, .int a2, .int a3] S Q := by
  refine xr_eI (cc := cX8_table) (nL := 8) (ret := (some .int)) (own := RX8) (by decide) rfl rfl (Nat.le_of_ble_eq_true rfl) ?_
  intro p e s m args below meth c ls A fx hK hA hP hD hS hl
  have hl : lv_has ls 8 [(0, .ref (ad 0)), (1, .int a1), (2, .int a2), (3, .int a3)] := hl
  show W p l e rm_X8_table s m args below meth c s.heap [] 0 0 _ _
  obtain ⟨⟨hx, hb, hml, hown, hts⟩, hrt, hlk⟩ := id fx
  have hf : 0 ≤ rm_X8_table.cells ∧ 0 ≤ rm_X8_table.slots := ⟨Nat.zero_le _, Nat.zero_le _⟩
  unfold wp_X8_table at h
  refine lv_aload_n hx hb dX8_table_0 rfl (lv_at hl 0 rfl) ?_
  refine lv_iload_n hx hb dX8_table_1 rfl (lv_at hl 1 rfl) ?_
  refine xr_vI (n := 1) (As := [.int a1]) (rest := []) fx (ct_X8_isNumber l D ad cI cJ cR h) gX8_table_X8_isNumber rfl rfl (by decide +kernel) ⟨Nat.le_of_ble_eq_true rfl, Nat.le_of_ble_eq_true rfl⟩ ⟨rfl, rfl⟩ hf (ms_recv hK hP) hK hP hD hS hA hl.1 rfl (Nat.le_of_ble_eq_true rfl) dX8_table_2 (fun r11 S10 H locs h hP hD hS => ?_)
  refine lv_if_eq (tgt := 24) hx hb dX8_table_5 (by decide) (fun c5 => ?_) (fun c5 => ?_)
  · have h := h.1 c5
    refine lv_ldc (v := (-2147483648)) hx hb hown (hts (.constant RX8 177 (-2147483648)) (by decide +kernel)) dX8_table_24 ?_
    exact xr_rI fx hK hP hD hS h dX8_table_26
  · have h := h.2 c5
    refine lv_aload_n hx hb dX8_table_8 rfl (lv_at hl 0 rfl) ?_
    refine lv_iload_n hx hb dX8_table_9 rfl (lv_at hl 2 rfl) ?_
    refine xr_vI (n := 1) (As := [.int a2]) (rest := []) fx (ct_X8_isNumber l D ad cI cJ cR h) gX8_table_X8_isNumber rfl rfl (by decide +kernel) ⟨Nat.le_of_ble_eq_true rfl, Nat.le_of_ble_eq_true rfl⟩ ⟨rfl, rfl⟩ hf (ms_recv hK hP) hK hP hD hS hA hl.1 rfl (Nat.le_of_ble_eq_true rfl) dX8_table_10 (fun r13 S12 H locs h hP hD hS => ?_)
    refine lv_if_eq (tgt := 24) hx hb dX8_table_13 (by decide) (fun c13 => ?_) (fun c13 => ?_)
    · have h := h.1 c13
      refine lv_ldc (v := (-2147483648)) hx hb hown (hts (.constant RX8 177 (-2147483648)) (by decide +kernel)) dX8_table_24 ?_
      exact xr_rI fx hK hP hD hS h dX8_table_26
    · have h := h.2 c13
      refine lv_aload_n hx hb dX8_table_16 rfl (lv_at hl 0 rfl) ?_
      refine lv_iload_n hx hb dX8_table_17 rfl (lv_at hl 3 rfl) ?_
      refine xr_vI (n := 1) (As := [.int a3]) (rest := []) fx (ct_X8_isNumber l D ad cI cJ cR h) gX8_table_X8_isNumber rfl rfl (by decide +kernel) ⟨Nat.le_of_ble_eq_true rfl, Nat.le_of_ble_eq_true rfl⟩ ⟨rfl, rfl⟩ hf (ms_recv hK hP) hK hP hD hS hA hl.1 rfl (Nat.le_of_ble_eq_true rfl) dX8_table_18 (fun r15 S14 H locs h hP hD hS => ?_)
      refine lv_if_ne (tgt := 27) hx hb dX8_table_21 (by decide) (fun c21 => ?_) (fun c21 => ?_)
      · have h := h.1 c21
        refine lv_aload_n hx hb dX8_table_27 rfl (lv_at hl 0 rfl) ?_
        refine ms_get 5 (v := .ref (ad 3)) fx in_X8_table (by decide) rfl (by decide +kernel) rfl hK hP dX8_table_28 ?_
        refine lv_aload_n hx hb dX8_table_31 rfl (lv_at hl 0 rfl) ?_
        refine ms_get 8 (v := .ref (ad 4)) fx in_X8_table (by decide) rfl (by decide +kernel) rfl hK hP dX8_table_32 ?_
        refine lv_iload_n hx hb dX8_table_35 rfl (lv_at hl 1 rfl) ?_
        obtain ⟨hi16, h⟩ := h
        refine ms_iald 3 (by decide) fx hK hP rfl hi16 dX8_table_36 ?_
        obtain ⟨hi17, h⟩ := h
        refine ms_iald 2 (by decide) fx hK hP rfl hi17 dX8_table_37 ?_
        refine lv_topi (fun v4_18 ev4_18 => ?_)
        have h := h v4_18 ev4_18
        refine lv_istore (lv' := [(4, .int v4_18), (0, .ref (ad 0)), (1, .int a1), (2, .int a2), (3, .int a3)]) hx hb dX8_table_38 hl (by decide) rfl (fun ls hl => ?_)
        refine lv_aload_n hx hb dX8_table_40 rfl (lv_at hl 1 rfl) ?_
        refine ms_get 5 (v := .ref (ad 3)) fx in_X8_table (by decide) rfl (by decide +kernel) rfl hK hP dX8_table_41 ?_
        refine lv_aload_n hx hb dX8_table_44 rfl (lv_at hl 1 rfl) ?_
        refine ms_get 8 (v := .ref (ad 4)) fx in_X8_table (by decide) rfl (by decide +kernel) rfl hK hP dX8_table_45 ?_
        refine lv_iload_n hx hb dX8_table_48 rfl (lv_at hl 3 rfl) ?_
        obtain ⟨hi19, h⟩ := h
        refine ms_iald 3 (by decide) fx hK hP rfl hi19 dX8_table_49 ?_
        obtain ⟨hi20, h⟩ := h
        refine ms_iald 2 (by decide) fx hK hP rfl hi20 dX8_table_50 ?_
        refine lv_topi (fun v5_21 ev5_21 => ?_)
        have h := h v5_21 ev5_21
        refine lv_istore (lv' := [(5, .int v5_21), (4, .int v4_18), (0, .ref (ad 0)), (1, .int a1), (2, .int a2), (3, .int a3)]) hx hb dX8_table_51 hl (by decide) rfl (fun ls hl => ?_)
        refine lv_iload hx hb dX8_table_53 (lv_at hl 1 rfl) ?_
        refine lv_iload hx hb dX8_table_55 (lv_at hl 0 rfl) ?_
        refine lv_iadd hx hb dX8_table_57 ?_
        refine lv_aload_n hx hb dX8_table_58 rfl (lv_at hl 2 rfl) ?_
        refine ms_get 1 (v := .int (S14.1 1)) fx in_X8_table (by decide) rfl (by decide +kernel) rfl hK hP dX8_table_59 ?_
        refine lv_icmp_le (tgt := 67) hx hb dX8_table_62 (by decide) (fun c62 => ?_) (fun c62 => ?_)
        · have h := h.1 c62
          refine lv_aload_n hx hb dX8_table_67 rfl (lv_at hl 2 rfl) ?_
          refine lv_bipush (v := 8) hx hb dX8_table_68 (by decide) ?_
          refine xr_vV (n := 1) (As := [.int 8]) (rest := []) fx (ct_X8_clears l D ad cI cJ cR h) gX8_table_X8_clears rfl rfl (by decide +kernel) ⟨Nat.le_of_ble_eq_true rfl, Nat.le_of_ble_eq_true rfl⟩ ⟨rfl, rfl⟩ hf (ms_recv hK hP) hK hP hD hS hA hl.1 rfl (Nat.le_of_ble_eq_true rfl) dX8_table_70 (fun S22 H locs h hP hD hS => ?_)
          refine lv_aload_n hx hb dX8_table_73 rfl (lv_at hl 2 rfl) ?_
          refine lv_sipush (v := 25344) hx hb dX8_table_74 (by decide) ?_
          refine lv_sipush (v := 256) hx hb dX8_table_77 (by decide) ?_
          refine lv_iload_n hx hb dX8_table_80 rfl (lv_at hl 3 rfl) ?_
          refine lv_imul hx hb dX8_table_81 ?_
          refine lv_iload hx hb dX8_table_82 (lv_at hl 1 rfl) ?_
          refine lv_sipush (v := 256) hx hb dX8_table_84 (by decide) ?_
          refine lv_iload_n hx hb dX8_table_87 rfl (lv_at hl 4 rfl) ?_
          refine lv_imul hx hb dX8_table_88 ?_
          refine lv_iload hx hb dX8_table_89 (lv_at hl 0 rfl) ?_
          refine xr_vV (n := 5) (As := [.int 25344, .int (256 * a1), .int v4_18, .int (256 * a2), .int v5_21]) (rest := []) fx (ct_X8_brackets l D ad cI cJ cR h) gX8_table_X8_brackets rfl rfl (by decide +kernel) ⟨Nat.le_of_ble_eq_true rfl, Nat.le_of_ble_eq_true rfl⟩ ⟨rfl, rfl⟩ hf (ms_recv hK hP) hK hP hD hS hA hl.1 rfl (Nat.le_of_ble_eq_true rfl) dX8_table_91 (fun S23 H locs h hP hD hS => ?_)
          refine lv_iconst (v := 0) hx hb dX8_table_94 (by decide) ?_
          refine lv_istore (lv' := [(6, .int 0), (5, .int v5_21), (4, .int v4_18), (0, .ref (ad 0)), (1, .int a1), (2, .int a2), (3, .int a3)]) hx hb dX8_table_95 hl (by decide) rfl (fun ls hl => ?_)
          obtain ⟨n, h⟩ := h
          exact kw_X8_table_97 fx hK hA n _ _ _ _ _ hP hD hS (lv_sub hl [3, 6, 2, 1, 0] rfl) h
        · have h := h.2 c62
          refine lv_iconst (v := 0) hx hb dX8_table_65 (by decide) ?_
          exact xr_rI fx hK hP hD hS h dX8_table_66
      · have h := h.2 c21
        refine lv_ldc (v := (-2147483648)) hx hb hown (hts (.constant RX8 177 (-2147483648)) (by decide +kernel)) dX8_table_24 ?_
        exact xr_rI fx hK hP hD hS h dX8_table_26
abbrev rm_X8_step : Room := { frames := 2, cells := 0, slots := 0, locals := 48 }
theorem in_X8_step : ∀ w ∈ wsX80, w ∈ wsX8_step := by decide +kernel
set_option maxHeartbeats 4000000 in
set_option maxRecDepth 100000 in
theorem ct_X8_step (l : Launch) (D : va_G) (ad : Nat → Nat) (cI cJ cR : ClassId) {S : ms_T} {a1 : Int32} {a2 : Int32} {a3 : Int32} {Q : Int32 → ms_T → Prop} (h : wp_X8_step S a1 a2 a3 Q) : xr_I l D (ms_ty cI cJ cR) (ms_w ad cI cJ) yX8_step wsX8_step rm_X8_step [.ref (ad 0), .int a1, .int a2, .int a3] S Q := by
  refine xr_eI (cc := cX8_step) (nL := 4) (ret := (some .int)) (own := RX8) (by decide) rfl rfl (Nat.le_of_ble_eq_true rfl) ?_
  intro p e s m args below meth c ls A fx hK hA hP hD hS hl
  have hl : lv_has ls 4 [(0, .ref (ad 0)), (1, .int a1), (2, .int a2), (3, .int a3)] := hl
  show W p l e rm_X8_step s m args below meth c s.heap [] 0 0 _ _
  obtain ⟨⟨hx, hb, hml, hown, hts⟩, hrt, hlk⟩ := id fx
  have hf : 0 ≤ rm_X8_step.cells ∧ 0 ≤ rm_X8_step.slots := ⟨Nat.zero_le _, Nat.zero_le _⟩
  unfold wp_X8_step at h
  refine lv_aload_n hx hb dX8_step_0 rfl (lv_at hl 0 rfl) ?_
  refine lv_iload_n hx hb dX8_step_1 rfl (lv_at hl 1 rfl) ?_
  refine xr_vI (n := 1) (As := [.int a1]) (rest := []) fx (ct_X8_isLetter l D ad cI cJ cR h) gX8_step_X8_isLetter rfl rfl (by decide +kernel) ⟨Nat.le_of_ble_eq_true rfl, Nat.le_of_ble_eq_true rfl⟩ ⟨rfl, rfl⟩ hf (ms_recv hK hP) hK hP hD hS hA hl.1 rfl (Nat.le_of_ble_eq_true rfl) dX8_step_2 (fun r2 S1 H locs h hP hD hS => ?_)
  refine lv_if_ne (tgt := 10) hx hb dX8_step_5 (by decide) (fun c5 => ?_) (fun c5 => ?_)
  · have h := h.1 c5
    refine lv_iload_n hx hb dX8_step_10 rfl (lv_at hl 2 rfl) ?_
    refine lv_i2l hx hb dX8_step_11 rfl ?_
    refine lv_ldc2 (v := (-99)) hx hb hown (hts (.constantLong RX8 229 (-99)) (by decide +kernel)) dX8_step_12 ?_
    refine lv_ldc2 (v := 99) hx hb hown (hts (.constantLong RX8 231 (99)) (by decide +kernel)) dX8_step_15 ?_
    refine xr_sI (n := 3) (As := [.long a2.toInt64, .long ((-99)), .long 99]) (rest := []) fx (ct_X8_in l h) gX8_step_X8_in rfl rfl (by decide +kernel) ⟨Nat.le_of_ble_eq_true rfl, Nat.le_of_ble_eq_true rfl⟩ ⟨rfl, rfl⟩ hf hl.1 rfl (Nat.le_of_ble_eq_true rfl) dX8_step_18 (fun r3 h => ?_)
    refine lv_if_eq (tgt := 36) hx hb dX8_step_21 (by decide) (fun c21 => ?_) (fun c21 => ?_)
    · have h := h.1 c21
      refine lv_bipush (v := (-2)) hx hb dX8_step_36 (by decide) ?_
      exact xr_rI fx hK hP hD hS h dX8_step_38
    · have h := h.2 c21
      refine lv_iload_n hx hb dX8_step_24 rfl (lv_at hl 3 rfl) ?_
      refine lv_i2l hx hb dX8_step_25 rfl ?_
      refine lv_lconst (v := 1) hx hb dX8_step_26 (by decide) ?_
      refine lv_ldc2 (v := 99) hx hb hown (hts (.constantLong RX8 231 (99)) (by decide +kernel)) dX8_step_27 ?_
      refine xr_sI (n := 3) (As := [.long a3.toInt64, .long 1, .long 99]) (rest := []) fx (ct_X8_in l h) gX8_step_X8_in rfl rfl (by decide +kernel) ⟨Nat.le_of_ble_eq_true rfl, Nat.le_of_ble_eq_true rfl⟩ ⟨rfl, rfl⟩ hf hl.1 rfl (Nat.le_of_ble_eq_true rfl) dX8_step_30 (fun r4 h => ?_)
      refine lv_if_ne (tgt := 39) hx hb dX8_step_33 (by decide) (fun c33 => ?_) (fun c33 => ?_)
      · have h := h.1 c33
        refine lv_aload_n hx hb dX8_step_39 rfl (lv_at hl 0 rfl) ?_
        refine ms_get 16 (v := .int (S1.1 4)) fx in_X8_step (by decide) rfl (by decide +kernel) rfl hK hP dX8_step_40 ?_
        refine lv_bipush (v := 12) hx hb dX8_step_43 (by decide) ?_
        refine lv_icmp_ne (tgt := 51) hx hb dX8_step_45 (by decide) (fun c45 => ?_) (fun c45 => ?_)
        · have h := h.1 c45
          refine lv_aload_n hx hb dX8_step_51 rfl (lv_at hl 0 rfl) ?_
          refine ms_get 17 (v := .ref (ad 9)) fx in_X8_step (by decide) rfl (by decide +kernel) rfl hK hP dX8_step_52 ?_
          refine lv_aload_n hx hb dX8_step_55 rfl (lv_at hl 0 rfl) ?_
          refine ms_get 16 (v := .int (S1.1 4)) fx in_X8_step (by decide) rfl (by decide +kernel) rfl hK hP dX8_step_56 ?_
          refine lv_iload_n hx hb dX8_step_59 rfl (lv_at hl 1 rfl) ?_
          obtain ⟨hi5, h⟩ := h
          refine ms_iast 8 (by decide) fx hK hP hD hS rfl hi5 dX8_step_60 (fun H locs hP hD hS => ?_)
          refine lv_aload_n hx hb dX8_step_61 rfl (lv_at hl 0 rfl) ?_
          refine ms_get 18 (v := .ref (ad 19)) fx in_X8_step (by decide) rfl (by decide +kernel) rfl hK hP dX8_step_62 ?_
          refine lv_aload_n hx hb dX8_step_65 rfl (lv_at hl 0 rfl) ?_
          refine ms_get 16 (v := .int ((ms_sI S1 8 (S1.1 4).toNatClampNeg a1).1 4)) fx in_X8_step (by decide) rfl (by decide +kernel) rfl hK hP dX8_step_66 ?_
          refine lv_iload_n hx hb dX8_step_69 rfl (lv_at hl 2 rfl) ?_
          refine lv_iload_n hx hb dX8_step_70 rfl (lv_at hl 3 rfl) ?_
          refine xr_sL (n := 2) (As := [.int a2, .int a3]) (rest := [.int ((ms_sI S1 8 (S1.1 4).toNatClampNeg a1).1 4), .ref (ad 19)]) fx (ct_X8_partOf l h) gX8_step_X8_partOf rfl rfl (by decide +kernel) ⟨Nat.le_of_ble_eq_true rfl, Nat.le_of_ble_eq_true rfl⟩ ⟨rfl, rfl⟩ hf hl.1 rfl (Nat.le_of_ble_eq_true rfl) dX8_step_71 (fun r6 h => ?_)
          obtain ⟨hi7, h⟩ := h
          refine ms_last 4 (by decide) fx hK hP hD hS rfl hi7 dX8_step_74 (fun H locs hP hD hS => ?_)
          refine lv_aload_n hx hb dX8_step_75 rfl (lv_at hl 0 rfl) ?_
          refine lv_dup hx hb dX8_step_76 rfl ?_
          refine ms_get 16 (v := .int ((ms_sJ (ms_sI S1 8 (S1.1 4).toNatClampNeg a1) 4 ((ms_sI S1 8 (S1.1 4).toNatClampNeg a1).1 4).toNatClampNeg r6).1 4)) fx in_X8_step (by decide) rfl (by decide +kernel) rfl hK hP dX8_step_77 ?_
          refine lv_iconst (v := 1) hx hb dX8_step_80 (by decide) ?_
          refine lv_iadd hx hb dX8_step_81 ?_
          refine ms_put 16 4 (ty := .int) fx in_X8_step (by decide) ms_f16 (by decide +kernel) rfl rfl (by decide +kernel) rfl rfl hK hP hD hS dX8_step_82 (fun H locs hP hD hS => ?_)
          refine lv_aload_n hx hb dX8_step_85 rfl (lv_at hl 0 rfl) ?_
          refine ms_get 16 (v := .int ((ms_sF (ms_sJ (ms_sI S1 8 (S1.1 4).toNatClampNeg a1) 4 ((ms_sI S1 8 (S1.1 4).toNatClampNeg a1).1 4).toNatClampNeg r6) 4 (((ms_sJ (ms_sI S1 8 (S1.1 4).toNatClampNeg a1) 4 ((ms_sI S1 8 (S1.1 4).toNatClampNeg a1).1 4).toNatClampNeg r6).1 4) + 1)).1 4)) fx in_X8_step (by decide) rfl (by decide +kernel) rfl hK hP dX8_step_86 ?_
          exact xr_rI fx hK hP hD hS h dX8_step_89
        · have h := h.2 c45
          refine lv_bipush (v := (-4)) hx hb dX8_step_48 (by decide) ?_
          exact xr_rI fx hK hP hD hS h dX8_step_50
      · have h := h.2 c33
        refine lv_bipush (v := (-2)) hx hb dX8_step_36 (by decide) ?_
        exact xr_rI fx hK hP hD hS h dX8_step_38
  · have h := h.2 c5
    refine lv_iconst (v := (-1)) hx hb dX8_step_8 (by decide) ?_
    exact xr_rI fx hK hP hD hS h dX8_step_9
