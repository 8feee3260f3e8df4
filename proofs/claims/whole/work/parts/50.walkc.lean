abbrev rm_X7_noSum : Room := { frames := 0, cells := 0, slots := 0, locals := 0 }
set_option maxHeartbeats 4000000 in
set_option maxRecDepth 100000 in
theorem ct_X7_noSum (l : Launch) {a0 : Int32} {Q : Int32 → Prop} (h : wp_X7_noSum a0 Q) : xr_SI l yX7_noSum wsX7_noSum rm_X7_noSum [.int a0] Q := by
  refine xr_eSI (cc := cX7_noSum) (nL := 1) (ret := (some .boolean)) (own := RX7) (by decide) rfl rfl (Nat.le_of_ble_eq_true rfl) ?_
  intro p e s m args below meth c ls fx hl
  have hl : lv_has ls 1 [(0, .int a0)] := hl
  show W p l e rm_X7_noSum s m args below meth c s.heap [] 0 0 _ _
  obtain ⟨⟨hx, hb, hml, hown, hts⟩, hrt, hlk⟩ := id fx
  have hf : 0 ≤ rm_X7_noSum.cells ∧ 0 ≤ rm_X7_noSum.slots := ⟨Nat.zero_le _, Nat.zero_le _⟩
  unfold wp_X7_noSum at h
  refine lv_iload_n hx hb dX7_noSum_0 rfl (lv_at hl 0 rfl) ?_
  refine lv_if_lt (tgt := 10) hx hb dX7_noSum_1 (by decide) (fun c1 => ?_) (fun c1 => ?_)
  · have h := h.1 c1
    refine lv_iconst (v := 1) hx hb dX7_noSum_10 (by decide) ?_
    refine lv_goto (tgt := 15) hx hb dX7_noSum_11 (by decide) ?_
    exact xr_rSZ fx rfl h dX7_noSum_15
  · have h := h.2 c1
    refine lv_iload_n hx hb dX7_noSum_4 rfl (lv_at hl 0 rfl) ?_
    refine lv_bipush (v := 8) hx hb dX7_noSum_5 (by decide) ?_
    refine lv_icmp_lt (tgt := 14) hx hb dX7_noSum_7 (by decide) (fun c7 => ?_) (fun c7 => ?_)
    · have h := h.1 c7
      refine lv_iconst (v := 0) hx hb dX7_noSum_14 (by decide) ?_
      exact xr_rSZ fx rfl h dX7_noSum_15
    · have h := h.2 c7
      refine lv_iconst (v := 1) hx hb dX7_noSum_10 (by decide) ?_
      refine lv_goto (tgt := 15) hx hb dX7_noSum_11 (by decide) ?_
      exact xr_rSZ fx rfl h dX7_noSum_15
abbrev rm_J7_fill_53178 : Room := { frames := 0, cells := 0, slots := 0, locals := 0 }
set_option maxHeartbeats 4000000 in
set_option maxRecDepth 100000 in
theorem kb_J7_fill_53178_5 {p : Program} {l : Launch} {e : Env} {s : State} {m : MethodId} {args : Array Value} {below : List Frame} {meth : Method} {c : Code} {D : va_G} {ad : Nat → Nat} {cI cJ cR : ClassId} {Ln : Nat → Nat} {A : Nat → Prop}  {K5 : cs_T → Nat → Int32 → Int32 → Int32 → Prop} {Q : cs_T → Prop} {S : cs_T} {v0 : Nat} {v1 : Int32} {v2 : Int32} {v3 : Int32} (fx : xr_Fx p m c meth cJ7_fill_53178 4 s args wsJ7_fill_53178 RJ7 none) (hK : xr_K D (cs_ty cI cJ cR) s) (hA : ∀ q, s.heap.size ≤ q → A q)   (k5 : ∀ (S : cs_T) (v0 : Nat) (v1 : Int32) (v2 : Int32) (v3 : Int32) {H : Heap} {locs : List Loc} {ls : Array Slot}, va_P D vwCl (cs_w ad cI cR Ln S) H → va_D A (cs_w ad cI cR Ln S) → va_S A s.heap H locs → lv_has ls 4 [(0, .ref (ad (9 + v0))), (1, .int v1), (2, .int v2), (3, .int v3)] → K5 S v0 v1 v2 v3 → W p l e rm_J7_fill_53178 s m args below meth c H locs 0 0 (MQ below (va_Qv Q (xr_B D (cs_ty cI cJ cR) (cs_w ad cI cR Ln) A) A) args s 0 0 A) (F0 m 5 ls [])) {H : Heap} {locs : List Loc} {ls : Array Slot} (hP : va_P D vwCl (cs_w ad cI cR Ln S) H) (hD : va_D A (cs_w ad cI cR Ln S)) (hS : va_S A s.heap H locs) (hl : lv_has ls 4 [(0, .ref (ad (9 + v0))), (1, .int v1), (2, .int v2), (3, .int v3)]) (h : wb_J7_fill_53178_5 Ln K5 Q S v0 v1 v2 v3) : W p l e rm_J7_fill_53178 s m args below meth c H locs 0 0 (MQ below (va_Qv Q (xr_B D (cs_ty cI cJ cR) (cs_w ad cI cR Ln) A) A) args s 0 0 A) (F0 m 5 ls []) := by
  obtain ⟨⟨hx, hb, hml, hown, hts⟩, hrt, hlk⟩ := id fx
  have hf : 0 ≤ rm_J7_fill_53178.cells ∧ 0 ≤ rm_J7_fill_53178.slots := ⟨Nat.zero_le _, Nat.zero_le _⟩
  unfold wb_J7_fill_53178_5 at h
  refine lv_iload_n hx hb dJ7_fill_53178_5 rfl (lv_at hl 2 rfl) ?_
  refine lv_iload_n hx hb dJ7_fill_53178_6 rfl (lv_at hl 3 rfl) ?_
  refine lv_icmp_ge (tgt := 20) hx hb dJ7_fill_53178_7 (by decide) (fun c7 => ?_) (fun c7 => ?_)
  · have h := h.1 c7
    exact xr_rV fx hK hP hD hS h dJ7_fill_53178_20
  · have h := h.2 c7
    refine lv_aload_n hx hb dJ7_fill_53178_10 rfl (lv_at hl 0 rfl) ?_
    refine lv_iload_n hx hb dJ7_fill_53178_11 rfl (lv_at hl 2 rfl) ?_
    refine lv_iload_n hx hb dJ7_fill_53178_12 rfl (lv_at hl 1 rfl) ?_
    obtain ⟨hk2, h⟩ := h
    obtain ⟨hi1, h⟩ := h
    refine cs_iast v0 hk2 fx hK hP hD hS hi1 dJ7_fill_53178_13 (fun H locs hP hD hS => ?_)
    obtain ⟨v2_3, ev2_3⟩ : ∃ z : Int32, z = v2 + 1 := ⟨_, rfl⟩
    have h := h v2_3 ev2_3
    refine lv_iinc (v := v2_3) (lv' := [(2, .int v2_3), (0, .ref (ad (9 + v0))), (1, .int v1), (3, .int v3)]) hx hb dJ7_fill_53178_14 hl (k := 2) rfl (by rw [ev2_3]; rfl) (by decide) rfl (fun ls hl => ?_)
    refine lv_goto (tgt := 5) hx hb dJ7_fill_53178_17 (by decide) ?_
    exact k5 _ _ _ _ _ hP hD hS (lv_sub hl [1, 2, 0, 3] rfl) h
theorem kw_J7_fill_53178_5 {p : Program} {l : Launch} {e : Env} {s : State} {m : MethodId} {args : Array Value} {below : List Frame} {meth : Method} {c : Code} {D : va_G} {ad : Nat → Nat} {cI cJ cR : ClassId} {Ln : Nat → Nat} {A : Nat → Prop}  {Q : cs_T → Prop} (fx : xr_Fx p m c meth cJ7_fill_53178 4 s args wsJ7_fill_53178 RJ7 none) (hK : xr_K D (cs_ty cI cJ cR) s) (hA : ∀ q, s.heap.size ≤ q → A q)   : ∀ (n : Nat) (S : cs_T) (v0 : Nat) (v1 : Int32) (v2 : Int32) (v3 : Int32) {H : Heap} {locs : List Loc} {ls : Array Slot}, va_P D vwCl (cs_w ad cI cR Ln S) H → va_D A (cs_w ad cI cR Ln S) → va_S A s.heap H locs → lv_has ls 4 [(0, .ref (ad (9 + v0))), (1, .int v1), (2, .int v2), (3, .int v3)] → wp_J7_fill_53178_5 Ln Q n S v0 v1 v2 v3 → W p l e rm_J7_fill_53178 s m args below meth c H locs 0 0 (MQ below (va_Qv Q (xr_B D (cs_ty cI cJ cR) (cs_w ad cI cR Ln) A) A) args s 0 0 A) (F0 m 5 ls []) := by
  intro n
  induction n with
  | zero => intro S v0 v1 v2 v3 H locs ls hP hD hS hl h; exact False.elim h
  | succ n ih => intro S v0 v1 v2 v3 H locs ls hP hD hS hl h; exact kb_J7_fill_53178_5 fx hK hA ih hP hD hS hl h
set_option maxHeartbeats 4000000 in
set_option maxRecDepth 100000 in
theorem ct_J7_fill_53178 (l : Launch) (D : va_G) (ad : Nat → Nat) (cI cJ cR : ClassId) (Ln : Nat → Nat) {S : cs_T} {a0 : Nat} {a1 : Int32} {Q : cs_T → Prop} (h : wp_J7_fill_53178 Ln S a0 a1 Q) : xr_V l D (cs_ty cI cJ cR) (cs_w ad cI cR Ln) yJ7_fill_53178 wsJ7_fill_53178 rm_J7_fill_53178 [.ref (ad (9 + a0)), .int a1] S Q := by
  refine xr_eV (cc := cJ7_fill_53178) (nL := 4) (ret := none) (own := RJ7) (by decide) rfl rfl (Nat.le_of_ble_eq_true rfl) ?_
  intro p e s m args below meth c ls A fx hK hA hP hD hS hl
  have hl : lv_has ls 4 [(0, .ref (ad (9 + a0))), (1, .int a1)] := hl
  show W p l e rm_J7_fill_53178 s m args below meth c s.heap [] 0 0 _ _
  obtain ⟨⟨hx, hb, hml, hown, hts⟩, hrt, hlk⟩ := id fx
  have hf : 0 ≤ rm_J7_fill_53178.cells ∧ 0 ≤ rm_J7_fill_53178.slots := ⟨Nat.zero_le _, Nat.zero_le _⟩
  unfold wp_J7_fill_53178 at h
  refine lv_iconst (v := 0) hx hb dJ7_fill_53178_0 (by decide) ?_
  refine lv_istore_n (lv' := [(2, .int 0), (0, .ref (ad (9 + a0))), (1, .int a1)]) hx hb dJ7_fill_53178_1 rfl hl (by decide) rfl (fun ls hl => ?_)
  refine lv_aload_n hx hb dJ7_fill_53178_2 rfl (lv_at hl 1 rfl) ?_
  obtain ⟨hk4, h⟩ := h
  refine cs_alen a0 hk4 fx hK hP dJ7_fill_53178_3 ?_
  refine lv_topi (fun v3_5 ev3_5 => ?_)
  have h := h v3_5 ev3_5
  refine lv_istore_n (lv' := [(3, .int v3_5), (2, .int 0), (0, .ref (ad (9 + a0))), (1, .int a1)]) hx hb dJ7_fill_53178_4 rfl hl (by decide) rfl (fun ls hl => ?_)
  obtain ⟨n, h⟩ := h
  exact kw_J7_fill_53178_5 fx hK hA n _ _ _ _ _ hP hD hS (lv_sub hl [2, 3, 1, 0] rfl) h
abbrev rm_X7_clear : Room := { frames := 1, cells := 0, slots := 0, locals := 23 }
theorem in_X7_clear_X7 : ∀ w ∈ wsX70, w ∈ wsX7_clear := by decide +kernel
set_option maxHeartbeats 4000000 in
set_option maxRecDepth 100000 in
theorem ct_X7_clear (l : Launch) (D : va_G) (ad : Nat → Nat) (cI cJ cR : ClassId) (Ln : Nat → Nat) {S : cs_T} {a1 : Int32} {Q : Int32 → cs_T → Prop} (h : wp_X7_clear Ln S a1 Q) : xr_I l D (cs_ty cI cJ cR) (cs_w ad cI cR Ln) yX7_clear wsX7_clear rm_X7_clear [.ref (ad 0), .int a1] S Q := by
  refine xr_eI (cc := cX7_clear) (nL := 2) (ret := (some .int)) (own := RX7) (by decide) rfl rfl (Nat.le_of_ble_eq_true rfl) ?_
  intro p e s m args below meth c ls A fx hK hA hP hD hS hl
  have hl : lv_has ls 2 [(0, .ref (ad 0)), (1, .int a1)] := hl
  show W p l e rm_X7_clear s m args below meth c s.heap [] 0 0 _ _
  obtain ⟨⟨hx, hb, hml, hown, hts⟩, hrt, hlk⟩ := id fx
  have hf : 0 ≤ rm_X7_clear.cells ∧ 0 ≤ rm_X7_clear.slots := ⟨Nat.zero_le _, Nat.zero_le _⟩
  unfold wp_X7_clear at h
  refine lv_iload_n hx hb dX7_clear_0 rfl (lv_at hl 1 rfl) ?_
  refine xr_sI (n := 1) (As := [.int a1]) (rest := []) fx (ct_X7_noSum l h) gX7_clear_X7_noSum rfl rfl (by decide +kernel) ⟨Nat.le_of_ble_eq_true rfl, Nat.le_of_ble_eq_true rfl⟩ ⟨rfl, rfl⟩ hf hl.1 rfl (Nat.le_of_ble_eq_true rfl) dX7_clear_1 (fun r1 h => ?_)
  refine lv_if_eq (tgt := 9) hx hb dX7_clear_4 (by decide) (fun c4 => ?_) (fun c4 => ?_)
  · have h := h.1 c4
    refine lv_aload_n hx hb dX7_clear_9 rfl (lv_at hl 0 rfl) ?_
    refine cs_get 0 6 1 (v := .ref (ad 7)) (ref := "BracketLetters") fx (by decide) rfl rfl in_X7_clear_X7 (by decide) rfl (by decide +kernel) rfl hK hP dX7_clear_10 ?_
    refine lv_iload_n hx hb dX7_clear_13 rfl (lv_at hl 1 rfl) ?_
    obtain ⟨hi2, h⟩ := h
    refine cs_aald 7 8 7 fx (by decide) rfl hK hP hi2 dX7_clear_14 ?_
    refine lv_iconst (v := 0) hx hb dX7_clear_15 (by decide) ?_
    refine xr_wV (n := 2) (As := [.ref (ad (9 + (7 + a1.toNatClampNeg))), .int 0]) (rest := []) fx (ct_J7_fill_53178 l D ad cI cJ cR Ln h) gX7_clear_J7_fill_53178 rfl rfl (by decide +kernel) ⟨Nat.le_of_ble_eq_true rfl, Nat.le_of_ble_eq_true rfl⟩ ⟨rfl, rfl⟩ hf hK hP hD hS hA hl.1 rfl (Nat.le_of_ble_eq_true rfl) dX7_clear_16 (fun S3 H locs h hP hD hS => ?_)
    refine lv_iconst (v := 0) hx hb dX7_clear_19 (by decide) ?_
    exact xr_rI fx hK hP hD hS h dX7_clear_20
  · have h := h.2 c4
    refine lv_iconst (v := (-1)) hx hb dX7_clear_7 (by decide) ?_
    exact xr_rI fx hK hP hD hS h dX7_clear_8
abbrev rm_X6_placeOf : Room := { frames := 0, cells := 0, slots := 0, locals := 0 }
theorem in_X6_placeOf_X6 : ∀ w ∈ wsX60, w ∈ wsX6_placeOf := by decide +kernel
set_option maxHeartbeats 4000000 in
set_option maxRecDepth 100000 in
theorem kw_X6_placeOf_82 {p : Program} {l : Launch} {e : Env} {s : State} {m : MethodId} {args : Array Value} {below : List Frame} {meth : Method} {c : Code} {D : va_G} {ad : Nat → Nat} {cI cJ cR : ClassId} {Ln : Nat → Nat} {A : Nat → Prop}  {Q : Int32 → cs_T → Prop} {S : cs_T} {v2 : Int32} {v3 : Int32} {v4 : Int32} (fx : xr_Fx p m c meth cX6_placeOf 7 s args wsX6_placeOf RX6 (some .int)) (hK : xr_K D (cs_ty cI cJ cR) s) (hA : ∀ q, s.heap.size ≤ q → A q)   {H : Heap} {locs : List Loc} {ls : Array Slot} (hP : va_P D vwCl (cs_w ad cI cR Ln S) H) (hD : va_D A (cs_w ad cI cR Ln S)) (hS : va_S A s.heap H locs) (hl : lv_has ls 7 [(0, .ref (ad 1)), (2, .int v2), (3, .int v3), (4, .int v4)]) (h : wp_X6_placeOf_82 Ln Q S v2 v3 v4) : W p l e rm_X6_placeOf s m args below meth c H locs 0 0 (MQ below (va_Qi Q (xr_B D (cs_ty cI cJ cR) (cs_w ad cI cR Ln) A) A) args s 0 0 A) (F0 m 82 ls []) := by
  obtain ⟨⟨hx, hb, hml, hown, hts⟩, hrt, hlk⟩ := id fx
  have hf : 0 ≤ rm_X6_placeOf.cells ∧ 0 ≤ rm_X6_placeOf.slots := ⟨Nat.zero_le _, Nat.zero_le _⟩
  unfold wp_X6_placeOf_82 at h
  refine lv_iload_n hx hb dX6_placeOf_82 rfl (lv_at hl 1 rfl) ?_
  refine lv_if_le (tgt := 90) hx hb dX6_placeOf_83 (by decide) (fun c83 => ?_) (fun c83 => ?_)
  · have h := h.1 c83
    refine lv_aload_n hx hb dX6_placeOf_90 rfl (lv_at hl 0 rfl) ?_
    refine cs_get 1 5 3 (v := .ref (ad (9 + 1))) (ref := "BracketLetters$Words") fx (by decide) rfl rfl in_X6_placeOf_X6 (by decide) rfl (by decide +kernel) rfl hK hP dX6_placeOf_91 ?_
    refine lv_iload hx hb dX6_placeOf_94 (lv_at hl 3 rfl) ?_
    obtain ⟨hi1, h⟩ := h
    refine cs_iald 1 (by decide) fx hK hP hi1 dX6_placeOf_96 ?_
    refine lv_iload_n hx hb dX6_placeOf_97 rfl (lv_at hl 2 rfl) ?_
    refine lv_iadd hx hb dX6_placeOf_98 ?_
    exact xr_rI fx hK hP hD hS h dX6_placeOf_99
  · have h := h.2 c83
    refine lv_iconst (v := (-1)) hx hb dX6_placeOf_86 (by decide) ?_
    refine lv_goto (tgt := 99) hx hb dX6_placeOf_87 (by decide) ?_
    exact xr_rI fx hK hP hD hS h dX6_placeOf_99
set_option maxHeartbeats 4000000 in
set_option maxRecDepth 100000 in
theorem kb_X6_placeOf_16 {p : Program} {l : Launch} {e : Env} {s : State} {m : MethodId} {args : Array Value} {below : List Frame} {meth : Method} {c : Code} {D : va_G} {ad : Nat → Nat} {cI cJ cR : ClassId} {Ln : Nat → Nat} {A : Nat → Prop}  {K16 : cs_T → Int32 → Int32 → Int32 → Int32 → Prop} {Q : Int32 → cs_T → Prop} {S : cs_T} {v2 : Int32} {v3 : Int32} {v4 : Int32} {v5 : Int32} (fx : xr_Fx p m c meth cX6_placeOf 7 s args wsX6_placeOf RX6 (some .int)) (hK : xr_K D (cs_ty cI cJ cR) s) (hA : ∀ q, s.heap.size ≤ q → A q)   (k16 : ∀ (S : cs_T) (v2 : Int32) (v3 : Int32) (v4 : Int32) (v5 : Int32) {H : Heap} {locs : List Loc} {ls : Array Slot}, va_P D vwCl (cs_w ad cI cR Ln S) H → va_D A (cs_w ad cI cR Ln S) → va_S A s.heap H locs → lv_has ls 7 [(0, .ref (ad 1)), (2, .int v2), (3, .int v3), (4, .int v4), (5, .int v5)] → K16 S v2 v3 v4 v5 → W p l e rm_X6_placeOf s m args below meth c H locs 0 0 (MQ below (va_Qi Q (xr_B D (cs_ty cI cJ cR) (cs_w ad cI cR Ln) A) A) args s 0 0 A) (F0 m 16 ls [])) {H : Heap} {locs : List Loc} {ls : Array Slot} (hP : va_P D vwCl (cs_w ad cI cR Ln S) H) (hD : va_D A (cs_w ad cI cR Ln S)) (hS : va_S A s.heap H locs) (hl : lv_has ls 7 [(0, .ref (ad 1)), (2, .int v2), (3, .int v3), (4, .int v4), (5, .int v5)]) (h : wb_X6_placeOf_16 Ln K16 Q S v2 v3 v4 v5) : W p l e rm_X6_placeOf s m args below meth c H locs 0 0 (MQ below (va_Qi Q (xr_B D (cs_ty cI cJ cR) (cs_w ad cI cR Ln) A) A) args s 0 0 A) (F0 m 16 ls []) := by
  obtain ⟨⟨hx, hb, hml, hown, hts⟩, hrt, hlk⟩ := id fx
  have hf : 0 ≤ rm_X6_placeOf.cells ∧ 0 ≤ rm_X6_placeOf.slots := ⟨Nat.zero_le _, Nat.zero_le _⟩
  unfold wb_X6_placeOf_16 at h
  refine lv_iload hx hb dX6_placeOf_16 (lv_at hl 4 rfl) ?_
  refine lv_aload_n hx hb dX6_placeOf_18 rfl (lv_at hl 0 rfl) ?_
  refine cs_get 1 5 1 (v := .int (S.1 3)) (ref := "BracketLetters$Words") fx (by decide) rfl rfl in_X6_placeOf_X6 (by decide) rfl (by decide +kernel) rfl hK hP dX6_placeOf_19 ?_
  refine lv_icmp_ge (tgt := 82) hx hb dX6_placeOf_22 (by decide) (fun c22 => ?_) (fun c22 => ?_)
  · have h := h.1 c22
    exact kw_X6_placeOf_82 fx hK hA hP hD hS (lv_sub hl [0, 1, 2, 3] rfl) h
  · have h := h.2 c22
    refine lv_iload_n hx hb dX6_placeOf_25 rfl (lv_at hl 1 rfl) ?_
    refine lv_if_le (tgt := 82) hx hb dX6_placeOf_26 (by decide) (fun c26 => ?_) (fun c26 => ?_)
    · have h := h.1 c26
      exact kw_X6_placeOf_82 fx hK hA hP hD hS (lv_sub hl [0, 1, 2, 3] rfl) h
    · have h := h.2 c26
      refine lv_iload_n hx hb dX6_placeOf_29 rfl (lv_at hl 1 rfl) ?_
      refine lv_bipush (v := 7) hx hb dX6_placeOf_30 (by decide) ?_
      refine lv_iand hx hb dX6_placeOf_32 ?_
      refine lv_iconst (v := 1) hx hb dX6_placeOf_33 (by decide) ?_
      refine lv_isub hx hb dX6_placeOf_34 ?_
      refine lv_topi (fun v6_2 ev6_2 => ?_)
      have h := h v6_2 ev6_2
      refine lv_istore (lv' := [(6, .int v6_2), (0, .ref (ad 1)), (2, .int v2), (3, .int v3), (4, .int v4), (5, .int v5)]) hx hb dX6_placeOf_35 hl (by decide) rfl (fun ls hl => ?_)
      refine lv_iload hx hb dX6_placeOf_37 (lv_at hl 0 rfl) ?_
      refine lv_if_lt (tgt := 51) hx hb dX6_placeOf_39 (by decide) (fun c39 => ?_) (fun c39 => ?_)
      · have h := h.1 c39
        refine lv_iconst (v := (-1)) hx hb dX6_placeOf_51 (by decide) ?_
        exact xr_rI fx hK hP hD hS h dX6_placeOf_52
      · have h := h.2 c39
        refine lv_iload hx hb dX6_placeOf_42 (lv_at hl 0 rfl) ?_
        refine lv_aload_n hx hb dX6_placeOf_44 rfl (lv_at hl 1 rfl) ?_
        refine cs_get 1 5 0 (v := .int (S.1 2)) (ref := "BracketLetters$Words") fx (by decide) rfl rfl in_X6_placeOf_X6 (by decide) rfl (by decide +kernel) rfl hK hP dX6_placeOf_45 ?_
        refine lv_icmp_lt (tgt := 53) hx hb dX6_placeOf_48 (by decide) (fun c48 => ?_) (fun c48 => ?_)
        · have h := h.1 c48
          refine lv_iload_n hx hb dX6_placeOf_53 rfl (lv_at hl 3 rfl) ?_
          refine lv_iload hx hb dX6_placeOf_54 (lv_at hl 0 rfl) ?_
          refine lv_aload_n hx hb dX6_placeOf_56 rfl (lv_at hl 1 rfl) ?_
          refine cs_get 1 5 2 (v := .ref (ad (9 + 0))) (ref := "BracketLetters$Words") fx (by decide) rfl rfl in_X6_placeOf_X6 (by decide) rfl (by decide +kernel) rfl hK hP dX6_placeOf_57 ?_
          refine lv_iload hx hb dX6_placeOf_60 (lv_at hl 5 rfl) ?_
          obtain ⟨hi3, h⟩ := h
          refine cs_iald 0 (by decide) fx hK hP hi3 dX6_placeOf_62 ?_
          refine lv_imul hx hb dX6_placeOf_63 ?_
          refine lv_iadd hx hb dX6_placeOf_64 ?_
          refine lv_topi (fun v3_4 ev3_4 => ?_)
          have h := h v3_4 ev3_4
          refine lv_istore_n (lv' := [(3, .int v3_4), (6, .int v6_2), (0, .ref (ad 1)), (2, .int v2), (4, .int v4), (5, .int v5)]) hx hb dX6_placeOf_65 rfl hl (by decide) rfl (fun ls hl => ?_)
          refine lv_iload hx hb dX6_placeOf_66 (lv_at hl 5 rfl) ?_
          refine lv_iconst (v := 1) hx hb dX6_placeOf_68 (by decide) ?_
          refine lv_iadd hx hb dX6_placeOf_69 ?_
          refine lv_topi (fun v4_5 ev4_5 => ?_)
          have h := h v4_5 ev4_5
          refine lv_istore (lv' := [(4, .int v4_5), (3, .int v3_4), (6, .int v6_2), (0, .ref (ad 1)), (2, .int v2), (5, .int v5)]) hx hb dX6_placeOf_70 hl (by decide) rfl (fun ls hl => ?_)
          refine lv_iload_n hx hb dX6_placeOf_72 rfl (lv_at hl 4 rfl) ?_
          refine lv_iconst (v := 3) hx hb dX6_placeOf_73 (by decide) ?_
          refine lv_ishr hx hb dX6_placeOf_74 ?_
          refine lv_topi (fun v2_6 ev2_6 => ?_)
          have h := h v2_6 ev2_6
          refine lv_istore_n (lv' := [(2, .int v2_6), (4, .int v4_5), (3, .int v3_4), (6, .int v6_2), (0, .ref (ad 1)), (5, .int v5)]) hx hb dX6_placeOf_75 rfl hl (by decide) rfl (fun ls hl => ?_)
          obtain ⟨v5_7, ev5_7⟩ : ∃ z : Int32, z = v5 + 1 := ⟨_, rfl⟩
          have h := h v5_7 ev5_7
          refine lv_iinc (v := v5_7) (lv' := [(5, .int v5_7), (2, .int v2_6), (4, .int v4_5), (3, .int v3_4), (6, .int v6_2), (0, .ref (ad 1))]) hx hb dX6_placeOf_76 hl (k := 5) rfl (by rw [ev5_7]; rfl) (by decide) rfl (fun ls hl => ?_)
          refine lv_goto (tgt := 16) hx hb dX6_placeOf_79 (by decide) ?_
          exact k16 _ _ _ _ _ hP hD hS (lv_sub hl [5, 1, 3, 2, 0] rfl) h
        · have h := h.2 c48
          refine lv_iconst (v := (-1)) hx hb dX6_placeOf_51 (by decide) ?_
          exact xr_rI fx hK hP hD hS h dX6_placeOf_52
theorem kw_X6_placeOf_16 {p : Program} {l : Launch} {e : Env} {s : State} {m : MethodId} {args : Array Value} {below : List Frame} {meth : Method} {c : Code} {D : va_G} {ad : Nat → Nat} {cI cJ cR : ClassId} {Ln : Nat → Nat} {A : Nat → Prop}  {Q : Int32 → cs_T → Prop} (fx : xr_Fx p m c meth cX6_placeOf 7 s args wsX6_placeOf RX6 (some .int)) (hK : xr_K D (cs_ty cI cJ cR) s) (hA : ∀ q, s.heap.size ≤ q → A q)   : ∀ (n : Nat) (S : cs_T) (v2 : Int32) (v3 : Int32) (v4 : Int32) (v5 : Int32) {H : Heap} {locs : List Loc} {ls : Array Slot}, va_P D vwCl (cs_w ad cI cR Ln S) H → va_D A (cs_w ad cI cR Ln S) → va_S A s.heap H locs → lv_has ls 7 [(0, .ref (ad 1)), (2, .int v2), (3, .int v3), (4, .int v4), (5, .int v5)] → wp_X6_placeOf_16 Ln Q n S v2 v3 v4 v5 → W p l e rm_X6_placeOf s m args below meth c H locs 0 0 (MQ below (va_Qi Q (xr_B D (cs_ty cI cJ cR) (cs_w ad cI cR Ln) A) A) args s 0 0 A) (F0 m 16 ls []) := by
  intro n
  induction n with
  | zero => intro S v2 v3 v4 v5 H locs ls hP hD hS hl h; exact False.elim h
  | succ n ih => intro S v2 v3 v4 v5 H locs ls hP hD hS hl h; exact kb_X6_placeOf_16 fx hK hA ih hP hD hS hl h
set_option maxHeartbeats 4000000 in
set_option maxRecDepth 100000 in
theorem ct_X6_placeOf (l : Launch) (D : va_G) (ad : Nat → Nat) (cI cJ cR : ClassId) (Ln : Nat → Nat) {S : cs_T} {a1 : Int32} {Q : Int32 → cs_T → Prop} (h : wp_X6_placeOf Ln S a1 Q) : xr_I l D (cs_ty cI cJ cR) (cs_w ad cI cR Ln) yX6_placeOf wsX6_placeOf rm_X6_placeOf [.ref (ad 1), .int a1] S Q := by
  refine xr_eI (cc := cX6_placeOf) (nL := 7) (ret := (some .int)) (own := RX6) (by decide) rfl rfl (Nat.le_of_ble_eq_true rfl) ?_
  intro p e s m args below meth c ls A fx hK hA hP hD hS hl
  have hl : lv_has ls 7 [(0, .ref (ad 1)), (1, .int a1)] := hl
  show W p l e rm_X6_placeOf s m args below meth c s.heap [] 0 0 _ _
  obtain ⟨⟨hx, hb, hml, hown, hts⟩, hrt, hlk⟩ := id fx
  have hf : 0 ≤ rm_X6_placeOf.cells ∧ 0 ≤ rm_X6_placeOf.slots := ⟨Nat.zero_le _, Nat.zero_le _⟩
  unfold wp_X6_placeOf at h
  refine lv_iload_n hx hb dX6_placeOf_0 rfl (lv_at hl 1 rfl) ?_
  refine lv_if_ge (tgt := 6) hx hb dX6_placeOf_1 (by decide) (fun c1 => ?_) (fun c1 => ?_)
  · have h := h.1 c1
    refine lv_iload_n hx hb dX6_placeOf_6 rfl (lv_at hl 1 rfl) ?_
    refine lv_istore_n (lv' := [(2, .int a1), (0, .ref (ad 1)), (1, .int a1)]) hx hb dX6_placeOf_7 rfl hl (by decide) rfl (fun ls hl => ?_)
    refine lv_iconst (v := 0) hx hb dX6_placeOf_8 (by decide) ?_
    refine lv_istore_n (lv' := [(3, .int 0), (2, .int a1), (0, .ref (ad 1)), (1, .int a1)]) hx hb dX6_placeOf_9 rfl hl (by decide) rfl (fun ls hl => ?_)
    refine lv_iconst (v := 0) hx hb dX6_placeOf_10 (by decide) ?_
    refine lv_istore (lv' := [(4, .int 0), (3, .int 0), (2, .int a1), (0, .ref (ad 1)), (1, .int a1)]) hx hb dX6_placeOf_11 hl (by decide) rfl (fun ls hl => ?_)
    refine lv_iconst (v := 0) hx hb dX6_placeOf_13 (by decide) ?_
    refine lv_istore (lv' := [(5, .int 0), (4, .int 0), (3, .int 0), (2, .int a1), (0, .ref (ad 1)), (1, .int a1)]) hx hb dX6_placeOf_14 hl (by decide) rfl (fun ls hl => ?_)
    obtain ⟨n, h⟩ := h
    exact kw_X6_placeOf_16 fx hK hA n _ _ _ _ _ hP hD hS (lv_sub hl [4, 3, 2, 1, 0] rfl) h
  · have h := h.2 c1
    refine lv_iconst (v := (-1)) hx hb dX6_placeOf_4 (by decide) ?_
    exact xr_rI fx hK hP hD hS h dX6_placeOf_5
abbrev rm_X7_noFraction : Room := { frames := 0, cells := 0, slots := 0, locals := 0 }
set_option maxHeartbeats 4000000 in
set_option maxRecDepth 100000 in
theorem ct_X7_noFraction (l : Launch) {a0 : Int32} {a1 : Int32} {a2 : Int32} {Q : Int32 → Prop} (h : wp_X7_noFraction a0 a1 a2 Q) : xr_SI l yX7_noFraction wsX7_noFraction rm_X7_noFraction [.int a0, .int a1, .int a2] Q := by
  refine xr_eSI (cc := cX7_noFraction) (nL := 3) (ret := (some .boolean)) (own := RX7) (by decide) rfl rfl (Nat.le_of_ble_eq_true rfl) ?_
  intro p e s m args below meth c ls fx hl
  have hl : lv_has ls 3 [(0, .int a0), (1, .int a1), (2, .int a2)] := hl
  show W p l e rm_X7_noFraction s m args below meth c s.heap [] 0 0 _ _
  obtain ⟨⟨hx, hb, hml, hown, hts⟩, hrt, hlk⟩ := id fx
  have hf : 0 ≤ rm_X7_noFraction.cells ∧ 0 ≤ rm_X7_noFraction.slots := ⟨Nat.zero_le _, Nat.zero_le _⟩
  unfold wp_X7_noFraction at h
  refine lv_iload_n hx hb dX7_noFraction_0 rfl (lv_at hl 0 rfl) ?_
  refine lv_iload_n hx hb dX7_noFraction_1 rfl (lv_at hl 2 rfl) ?_
  refine lv_ineg hx hb dX7_noFraction_2 ?_
  refine lv_icmp_lt (tgt := 21) hx hb dX7_noFraction_3 (by decide) (fun c3 => ?_) (fun c3 => ?_)
  · have h := h.1 c3
    refine lv_iconst (v := 1) hx hb dX7_noFraction_21 (by decide) ?_
    refine lv_goto (tgt := 26) hx hb dX7_noFraction_22 (by decide) ?_
    exact xr_rSZ fx rfl h dX7_noFraction_26
  · have h := h.2 c3
    refine lv_iload_n hx hb dX7_noFraction_6 rfl (lv_at hl 0 rfl) ?_
    refine lv_iload_n hx hb dX7_noFraction_7 rfl (lv_at hl 2 rfl) ?_
    refine lv_icmp_gt (tgt := 21) hx hb dX7_noFraction_8 (by decide) (fun c8 => ?_) (fun c8 => ?_)
    · have h := h.1 c8
      refine lv_iconst (v := 1) hx hb dX7_noFraction_21 (by decide) ?_
      refine lv_goto (tgt := 26) hx hb dX7_noFraction_22 (by decide) ?_
      exact xr_rSZ fx rfl h dX7_noFraction_26
    · have h := h.2 c8
      refine lv_iload_n hx hb dX7_noFraction_11 rfl (lv_at hl 1 rfl) ?_
      refine lv_iconst (v := 1) hx hb dX7_noFraction_12 (by decide) ?_
      refine lv_icmp_lt (tgt := 21) hx hb dX7_noFraction_13 (by decide) (fun c13 => ?_) (fun c13 => ?_)
      · have h := h.1 c13
        refine lv_iconst (v := 1) hx hb dX7_noFraction_21 (by decide) ?_
        refine lv_goto (tgt := 26) hx hb dX7_noFraction_22 (by decide) ?_
        exact xr_rSZ fx rfl h dX7_noFraction_26
      · have h := h.2 c13
        refine lv_iload_n hx hb dX7_noFraction_16 rfl (lv_at hl 1 rfl) ?_
        refine lv_iload_n hx hb dX7_noFraction_17 rfl (lv_at hl 2 rfl) ?_
        refine lv_icmp_le (tgt := 25) hx hb dX7_noFraction_18 (by decide) (fun c18 => ?_) (fun c18 => ?_)
        · have h := h.1 c18
          refine lv_iconst (v := 0) hx hb dX7_noFraction_25 (by decide) ?_
          exact xr_rSZ fx rfl h dX7_noFraction_26
        · have h := h.2 c18
          refine lv_iconst (v := 1) hx hb dX7_noFraction_21 (by decide) ?_
          refine lv_goto (tgt := 26) hx hb dX7_noFraction_22 (by decide) ?_
          exact xr_rSZ fx rfl h dX7_noFraction_26
abbrev rm_J9_floorMod_7cf53 : Room := { frames := 0, cells := 0, slots := 0, locals := 0 }
set_option maxHeartbeats 4000000 in
set_option maxRecDepth 100000 in
theorem ct_J9_floorMod_7cf53 (l : Launch) {a0 : Int32} {a1 : Int32} {Q : Int32 → Prop} (h : wp_J9_floorMod_7cf53 a0 a1 Q) : xr_SI l yJ9_floorMod_7cf53 wsJ9_floorMod_7cf53 rm_J9_floorMod_7cf53 [.int a0, .int a1] Q := by
  refine xr_eSIF (cc := cJ9_floorMod_7cf53) (nL := 3) (ret := (some .int)) (own := RJ9) (by decide +kernel) rfl rfl (Nat.le_of_ble_eq_true rfl) ?_
  intro p e s m args below meth c ls fx hl
  have hl : lv_has ls 3 [(0, .int a0), (1, .int a1)] := hl
  show W p l e rm_J9_floorMod_7cf53 s m args below meth c s.heap [] 0 0 _ _
  obtain ⟨⟨hx, hb, hml, hown, hts⟩, hrt, hlk⟩ := id fx
  have hf : 0 ≤ rm_J9_floorMod_7cf53.cells ∧ 0 ≤ rm_J9_floorMod_7cf53.slots := ⟨Nat.zero_le _, Nat.zero_le _⟩
  unfold wp_J9_floorMod_7cf53 at h
  refine lv_iload_n hx hb dJ9_floorMod_7cf53_0 rfl (lv_at hl 0 rfl) ?_
  refine lv_iload_n hx hb dJ9_floorMod_7cf53_1 rfl (lv_at hl 1 rfl) ?_
  obtain ⟨hz1, h⟩ := h
  refine lv_irem hx hb dJ9_floorMod_7cf53_2 hz1 ?_
  refine lv_topi (fun v2_2 ev2_2 => ?_)
  have h := h v2_2 ev2_2
  refine lv_istore_n (lv' := [(2, .int v2_2), (0, .int a0), (1, .int a1)]) hx hb dJ9_floorMod_7cf53_3 rfl hl (by decide) rfl (fun ls hl => ?_)
  refine lv_iload_n hx hb dJ9_floorMod_7cf53_4 rfl (lv_at hl 1 rfl) ?_
  refine lv_iload_n hx hb dJ9_floorMod_7cf53_5 rfl (lv_at hl 2 rfl) ?_
  refine lv_ixor hx hb dJ9_floorMod_7cf53_6 ?_
  refine lv_if_ge (tgt := 18) hx hb dJ9_floorMod_7cf53_7 (by decide) (fun c7 => ?_) (fun c7 => ?_)
  · have h := h.1 c7
    refine lv_iload_n hx hb dJ9_floorMod_7cf53_18 rfl (lv_at hl 0 rfl) ?_
    exact xr_rSI fx h dJ9_floorMod_7cf53_19
  · have h := h.2 c7
    refine lv_iload_n hx hb dJ9_floorMod_7cf53_10 rfl (lv_at hl 0 rfl) ?_
    refine lv_if_eq (tgt := 18) hx hb dJ9_floorMod_7cf53_11 (by decide) (fun c11 => ?_) (fun c11 => ?_)
    · have h := h.1 c11
      refine lv_iload_n hx hb dJ9_floorMod_7cf53_18 rfl (lv_at hl 0 rfl) ?_
      exact xr_rSI fx h dJ9_floorMod_7cf53_19
    · have h := h.2 c11
      refine lv_iload_n hx hb dJ9_floorMod_7cf53_14 rfl (lv_at hl 0 rfl) ?_
      refine lv_iload_n hx hb dJ9_floorMod_7cf53_15 rfl (lv_at hl 2 rfl) ?_
      refine lv_iadd hx hb dJ9_floorMod_7cf53_16 ?_
      exact xr_rSI fx h dJ9_floorMod_7cf53_17
abbrev rm_X3_ratio : Room := { frames := 2, cells := 0, slots := 0, locals := 45 }
set_option maxHeartbeats 4000000 in
set_option maxRecDepth 100000 in
theorem ct_X3_ratio (l : Launch) {a0 : Int32} {a1 : Int32} {Q : Int32 → Prop} (h : wp_X3_ratio a0 a1 Q) : xr_SI l yX3_ratio wsX3_ratio rm_X3_ratio [.int a0, .int a1] Q := by
  refine xr_eSI (cc := cX3_ratio) (nL := 2) (ret := (some .int)) (own := RX3) (by decide) rfl rfl (Nat.le_of_ble_eq_true rfl) ?_
  intro p e s m args below meth c ls fx hl
  have hl : lv_has ls 2 [(0, .int a0), (1, .int a1)] := hl
  show W p l e rm_X3_ratio s m args below meth c s.heap [] 0 0 _ _
  obtain ⟨⟨hx, hb, hml, hown, hts⟩, hrt, hlk⟩ := id fx
  have hf : 0 ≤ rm_X3_ratio.cells ∧ 0 ≤ rm_X3_ratio.slots := ⟨Nat.zero_le _, Nat.zero_le _⟩
  unfold wp_X3_ratio at h
  refine lv_iload_n hx hb dX3_ratio_0 rfl (lv_at hl 0 rfl) ?_
  refine lv_ldc (v := 2147483647) hx hb hown (hts (.constant RX3 9 (2147483647)) (by decide +kernel)) dX3_ratio_1 ?_
  refine xr_sI (n := 2) (As := [.int a0, .int 2147483647]) (rest := []) fx (ct_J9_floorMod_7cf53 l h) gX3_ratio_J9_floorMod_7cf53 rfl rfl (by decide +kernel) ⟨Nat.le_of_ble_eq_true rfl, Nat.le_of_ble_eq_true rfl⟩ ⟨rfl, rfl⟩ hf hl.1 rfl (Nat.le_of_ble_eq_true rfl) dX3_ratio_3 (fun r1 h => ?_)
  refine lv_iload_n hx hb dX3_ratio_6 rfl (lv_at hl 1 rfl) ?_
  refine xr_sI (n := 1) (As := [.int a1]) (rest := [.int r1]) fx (ct_X3_reciprocal l h) gX3_ratio_X3_reciprocal rfl rfl (by decide +kernel) ⟨Nat.le_of_ble_eq_true rfl, Nat.le_of_ble_eq_true rfl⟩ ⟨rfl, rfl⟩ hf hl.1 rfl (Nat.le_of_ble_eq_true rfl) dX3_ratio_7 (fun r2 h => ?_)
  refine xr_sI (n := 2) (As := [.int r1, .int r2]) (rest := []) fx (ct_X3_product l h) gX3_ratio_X3_product rfl rfl (by decide +kernel) ⟨Nat.le_of_ble_eq_true rfl, Nat.le_of_ble_eq_true rfl⟩ ⟨rfl, rfl⟩ hf hl.1 rfl (Nat.le_of_ble_eq_true rfl) dX3_ratio_10 (fun r3 h => ?_)
  exact xr_rSI fx h dX3_ratio_13
abbrev rm_X7_put : Room := { frames := 3, cells := 0, slots := 0, locals := 66 }
theorem in_X7_put_X7 : ∀ w ∈ wsX70, w ∈ wsX7_put := by decide +kernel
set_option maxHeartbeats 4000000 in
set_option maxRecDepth 100000 in
theorem ct_X7_put (l : Launch) (D : va_G) (ad : Nat → Nat) (cI cJ cR : ClassId) (Ln : Nat → Nat) {S : cs_T} {a1 : Int32} {a2 : Int32} {a3 : Int32} {a4 : Int32} {Q : Int32 → cs_T → Prop} (h : wp_X7_put Ln S a1 a2 a3 a4 Q) : xr_I l D (cs_ty cI cJ cR) (cs_w ad cI cR Ln) yX7_put wsX7_put rm_X7_put [.ref (ad 0), .int a1, .int a2, .int a3, .int a4] S Q := by
  refine xr_eI (cc := cX7_put) (nL := 6) (ret := (some .int)) (own := RX7) (by decide) rfl rfl (Nat.le_of_ble_eq_true rfl) ?_
  intro p e s m args below meth c ls A fx hK hA hP hD hS hl
  have hl : lv_has ls 6 [(0, .ref (ad 0)), (1, .int a1), (2, .int a2), (3, .int a3), (4, .int a4)] := hl
  show W p l e rm_X7_put s m args below meth c s.heap [] 0 0 _ _
  obtain ⟨⟨hx, hb, hml, hown, hts⟩, hrt, hlk⟩ := id fx
  have hf : 0 ≤ rm_X7_put.cells ∧ 0 ≤ rm_X7_put.slots := ⟨Nat.zero_le _, Nat.zero_le _⟩
  unfold wp_X7_put at h
  refine lv_aload_n hx hb dX7_put_0 rfl (lv_at hl 0 rfl) ?_
  refine cs_get 0 6 0 (v := .ref (ad 1)) (ref := "BracketLetters") fx (by decide) rfl rfl in_X7_put_X7 (by decide) rfl (by decide +kernel) rfl hK hP dX7_put_1 ?_
  refine lv_iload_n hx hb dX7_put_4 rfl (lv_at hl 2 rfl) ?_
  refine xr_vI (n := 1) (As := [.int a2]) (rest := []) fx (ct_X6_placeOf l D ad cI cJ cR Ln h) gX7_put_X6_placeOf rfl rfl (by decide +kernel) ⟨Nat.le_of_ble_eq_true rfl, Nat.le_of_ble_eq_true rfl⟩ ⟨rfl, rfl⟩ hf (cs_recv 1 5 (by decide) rfl rfl hK hP) hK hP hD hS hA hl.1 rfl (Nat.le_of_ble_eq_true rfl) dX7_put_5 (fun r2 S1 H locs h hP hD hS => ?_)
  refine lv_istore (lv' := [(5, .int r2), (0, .ref (ad 0)), (1, .int a1), (2, .int a2), (3, .int a3), (4, .int a4)]) hx hb dX7_put_8 hl (by decide) rfl (fun ls hl => ?_)
  refine lv_iload_n hx hb dX7_put_10 rfl (lv_at hl 2 rfl) ?_
  refine xr_sI (n := 1) (As := [.int a1]) (rest := []) fx (ct_X7_noSum l h) gX7_put_X7_noSum rfl rfl (by decide +kernel) ⟨Nat.le_of_ble_eq_true rfl, Nat.le_of_ble_eq_true rfl⟩ ⟨rfl, rfl⟩ hf hl.1 rfl (Nat.le_of_ble_eq_true rfl) dX7_put_11 (fun r3 h => ?_)
  refine lv_if_ne (tgt := 22) hx hb dX7_put_14 (by decide) (fun c14 => ?_) (fun c14 => ?_)
  · have h := h.1 c14
    refine lv_iconst (v := (-1)) hx hb dX7_put_22 (by decide) ?_
    exact xr_rI fx hK hP hD hS h dX7_put_23
  · have h := h.2 c14
    refine lv_iload hx hb dX7_put_17 (lv_at hl 0 rfl) ?_
    refine lv_if_ge (tgt := 24) hx hb dX7_put_19 (by decide) (fun c19 => ?_) (fun c19 => ?_)
    · have h := h.1 c19
      refine lv_iload_n hx hb dX7_put_24 rfl (lv_at hl 4 rfl) ?_
      refine lv_iload hx hb dX7_put_25 (lv_at hl 5 rfl) ?_
      refine lv_sipush (v := 9999) hx hb dX7_put_27 (by decide) ?_
      refine xr_sI (n := 3) (As := [.int a3, .int a4, .int 9999]) (rest := []) fx (ct_X7_noFraction l h) gX7_put_X7_noFraction rfl rfl (by decide +kernel) ⟨Nat.le_of_ble_eq_true rfl, Nat.le_of_ble_eq_true rfl⟩ ⟨rfl, rfl⟩ hf hl.1 rfl (Nat.le_of_ble_eq_true rfl) dX7_put_30 (fun r4 h => ?_)
      refine lv_if_eq (tgt := 39) hx hb dX7_put_33 (by decide) (fun c33 => ?_) (fun c33 => ?_)
      · have h := h.1 c33
        refine lv_aload_n hx hb dX7_put_39 rfl (lv_at hl 1 rfl) ?_
        refine cs_get 0 6 1 (v := .ref (ad 7)) (ref := "BracketLetters") fx (by decide) rfl rfl in_X7_put_X7 (by decide) rfl (by decide +kernel) rfl hK hP dX7_put_40 ?_
        refine lv_iload_n hx hb dX7_put_43 rfl (lv_at hl 2 rfl) ?_
        obtain ⟨hi5, h⟩ := h
        refine cs_aald 7 8 7 fx (by decide) rfl hK hP hi5 dX7_put_44 ?_
        refine lv_iload hx hb dX7_put_45 (lv_at hl 0 rfl) ?_
        refine lv_iload_n hx hb dX7_put_47 rfl (lv_at hl 4 rfl) ?_
        refine lv_iload hx hb dX7_put_48 (lv_at hl 5 rfl) ?_
        refine xr_sI (n := 2) (As := [.int a3, .int a4]) (rest := [.int r2, .ref (ad (9 + (7 + a1.toNatClampNeg)))]) fx (ct_X3_ratio l h) gX7_put_X3_ratio rfl rfl (by decide +kernel) ⟨Nat.le_of_ble_eq_true rfl, Nat.le_of_ble_eq_true rfl⟩ ⟨rfl, rfl⟩ hf hl.1 rfl (Nat.le_of_ble_eq_true rfl) dX7_put_50 (fun r6 h => ?_)
        obtain ⟨hk8, h⟩ := h
        obtain ⟨hi7, h⟩ := h
        refine cs_iast (7 + a1.toNatClampNeg) hk8 fx hK hP hD hS hi7 dX7_put_53 (fun H locs hP hD hS => ?_)
        refine lv_iconst (v := 0) hx hb dX7_put_54 (by decide) ?_
        exact xr_rI fx hK hP hD hS h dX7_put_55
      · have h := h.2 c33
        refine lv_bipush (v := (-2)) hx hb dX7_put_36 (by decide) ?_
        exact xr_rI fx hK hP hD hS h dX7_put_38
    · have h := h.2 c19
      refine lv_iconst (v := (-1)) hx hb dX7_put_22 (by decide) ?_
      exact xr_rI fx hK hP hD hS h dX7_put_23
abbrev rm_X7_at : Room := { frames := 1, cells := 0, slots := 0, locals := 26 }
theorem in_X7_at_X7 : ∀ w ∈ wsX70, w ∈ wsX7_at := by decide +kernel
set_option maxHeartbeats 4000000 in
set_option maxRecDepth 100000 in
theorem ct_X7_at (l : Launch) (D : va_G) (ad : Nat → Nat) (cI cJ cR : ClassId) (Ln : Nat → Nat) {S : cs_T} {a1 : Int32} {a2 : Int32} {Q : Int32 → cs_T → Prop} (h : wp_X7_at Ln S a1 a2 Q) : xr_I l D (cs_ty cI cJ cR) (cs_w ad cI cR Ln) yX7_at wsX7_at rm_X7_at [.ref (ad 0), .int a1, .int a2] S Q := by
  refine xr_eI (cc := cX7_at) (nL := 4) (ret := (some .int)) (own := RX7) (by decide) rfl rfl (Nat.le_of_ble_eq_true rfl) ?_
  intro p e s m args below meth c ls A fx hK hA hP hD hS hl
  have hl : lv_has ls 4 [(0, .ref (ad 0)), (1, .int a1), (2, .int a2)] := hl
  show W p l e rm_X7_at s m args below meth c s.heap [] 0 0 _ _
  obtain ⟨⟨hx, hb, hml, hown, hts⟩, hrt, hlk⟩ := id fx
  have hf : 0 ≤ rm_X7_at.cells ∧ 0 ≤ rm_X7_at.slots := ⟨Nat.zero_le _, Nat.zero_le _⟩
  unfold wp_X7_at at h
  refine lv_aload_n hx hb dX7_at_0 rfl (lv_at hl 0 rfl) ?_
  refine cs_get 0 6 0 (v := .ref (ad 1)) (ref := "BracketLetters") fx (by decide) rfl rfl in_X7_at_X7 (by decide) rfl (by decide +kernel) rfl hK hP dX7_at_1 ?_
  refine lv_iload_n hx hb dX7_at_4 rfl (lv_at hl 2 rfl) ?_
  refine xr_vI (n := 1) (As := [.int a2]) (rest := []) fx (ct_X6_placeOf l D ad cI cJ cR Ln h) gX7_at_X6_placeOf rfl rfl (by decide +kernel) ⟨Nat.le_of_ble_eq_true rfl, Nat.le_of_ble_eq_true rfl⟩ ⟨rfl, rfl⟩ hf (cs_recv 1 5 (by decide) rfl rfl hK hP) hK hP hD hS hA hl.1 rfl (Nat.le_of_ble_eq_true rfl) dX7_at_5 (fun r2 S1 H locs h hP hD hS => ?_)
  refine lv_istore_n (lv' := [(3, .int r2), (0, .ref (ad 0)), (1, .int a1), (2, .int a2)]) hx hb dX7_at_8 rfl hl (by decide) rfl (fun ls hl => ?_)
  refine lv_iload_n hx hb dX7_at_9 rfl (lv_at hl 2 rfl) ?_
  refine xr_sI (n := 1) (As := [.int a1]) (rest := []) fx (ct_X7_noSum l h) gX7_at_X7_noSum rfl rfl (by decide +kernel) ⟨Nat.le_of_ble_eq_true rfl, Nat.le_of_ble_eq_true rfl⟩ ⟨rfl, rfl⟩ hf hl.1 rfl (Nat.le_of_ble_eq_true rfl) dX7_at_10 (fun r3 h => ?_)
  refine lv_if_ne (tgt := 20) hx hb dX7_at_13 (by decide) (fun c13 => ?_) (fun c13 => ?_)
  · have h := h.1 c13
    refine lv_iconst (v := (-1)) hx hb dX7_at_20 (by decide) ?_
    exact xr_rI fx hK hP hD hS h dX7_at_21
  · have h := h.2 c13
    refine lv_iload_n hx hb dX7_at_16 rfl (lv_at hl 0 rfl) ?_
    refine lv_if_ge (tgt := 22) hx hb dX7_at_17 (by decide) (fun c17 => ?_) (fun c17 => ?_)
    · have h := h.1 c17
      refine lv_aload_n hx hb dX7_at_22 rfl (lv_at hl 1 rfl) ?_
      refine cs_get 0 6 1 (v := .ref (ad 7)) (ref := "BracketLetters") fx (by decide) rfl rfl in_X7_at_X7 (by decide) rfl (by decide +kernel) rfl hK hP dX7_at_23 ?_
      refine lv_iload_n hx hb dX7_at_26 rfl (lv_at hl 2 rfl) ?_
      obtain ⟨hi4, h⟩ := h
      refine cs_aald 7 8 7 fx (by decide) rfl hK hP hi4 dX7_at_27 ?_
      refine lv_iload_n hx hb dX7_at_28 rfl (lv_at hl 0 rfl) ?_
      obtain ⟨hk6, h⟩ := h
      obtain ⟨hi5, h⟩ := h
      refine cs_iald (7 + a1.toNatClampNeg) hk6 fx hK hP hi5 dX7_at_29 ?_
      exact xr_rI fx hK hP hD hS h dX7_at_30
    · have h := h.2 c17
      refine lv_iconst (v := (-1)) hx hb dX7_at_20 (by decide) ?_
      exact xr_rI fx hK hP hD hS h dX7_at_21
abbrev rm_X7_fraction : Room := { frames := 1, cells := 0, slots := 0, locals := 21 }
set_option maxHeartbeats 4000000 in
set_option maxRecDepth 100000 in
theorem kw_X7_fraction_66 {p : Program} {l : Launch} {e : Env} {s : State} {m : MethodId} {args : Array Value} {below : List Frame} {meth : Method} {c : Code} {D : va_G} {ad : Nat → Nat} {cI cJ cR : ClassId} {Ln : Nat → Nat} {A : Nat → Prop} {K24 : cs_T → Int32 → Int32 → Int32 → Prop} {Q : Int32 → cs_T → Prop} {S : cs_T} {v1 : Int32} {v2 : Int32} {v3 : Int32} (fx : xr_Fx p m c meth cX7_fraction 5 s args wsX7_fraction RX7 (some .int)) (hK : xr_K D (cs_ty cI cJ cR) s) (hA : ∀ q, s.heap.size ≤ q → A q)  (k24 : ∀ (S : cs_T) (v1 : Int32) (v2 : Int32) (v3 : Int32) {H : Heap} {locs : List Loc} {ls : Array Slot}, va_P D vwCl (cs_w ad cI cR Ln S) H → va_D A (cs_w ad cI cR Ln S) → va_S A s.heap H locs → lv_has ls 5 [(0, .ref (ad 0)), (1, .int v1), (2, .int v2), (3, .int v3)] → K24 S v1 v2 v3 → W p l e rm_X7_fraction s m args below meth c H locs 0 0 (MQ below (va_Qi Q (xr_B D (cs_ty cI cJ cR) (cs_w ad cI cR Ln) A) A) args s 0 0 A) (F0 m 24 ls [])) {H : Heap} {locs : List Loc} {ls : Array Slot} (hP : va_P D vwCl (cs_w ad cI cR Ln S) H) (hD : va_D A (cs_w ad cI cR Ln S)) (hS : va_S A s.heap H locs) (hl : lv_has ls 5 [(0, .ref (ad 0)), (1, .int v1), (2, .int v2), (3, .int v3)]) (h : wp_X7_fraction_66 Ln K24 Q S v1 v2 v3) : W p l e rm_X7_fraction s m args below meth c H locs 0 0 (MQ below (va_Qi Q (xr_B D (cs_ty cI cJ cR) (cs_w ad cI cR Ln) A) A) args s 0 0 A) (F0 m 66 ls []) := by
  obtain ⟨⟨hx, hb, hml, hown, hts⟩, hrt, hlk⟩ := id fx
  have hf : 0 ≤ rm_X7_fraction.cells ∧ 0 ≤ rm_X7_fraction.slots := ⟨Nat.zero_le _, Nat.zero_le _⟩
  unfold wp_X7_fraction_66 at h
  obtain ⟨v3_1, ev3_1⟩ : ∃ z : Int32, z = v3 + 1 := ⟨_, rfl⟩
  have h := h v3_1 ev3_1
  refine lv_iinc (v := v3_1) (lv' := [(3, .int v3_1), (0, .ref (ad 0)), (1, .int v1), (2, .int v2)]) hx hb dX7_fraction_66 hl (k := 3) rfl (by rw [ev3_1]; rfl) (by decide) rfl (fun ls hl => ?_)
  refine lv_goto (tgt := 24) hx hb dX7_fraction_69 (by decide) ?_
  exact k24 _ _ _ _ hP hD hS (lv_sub hl [1, 2, 3, 0] rfl) h
set_option maxHeartbeats 4000000 in
set_option maxRecDepth 100000 in
theorem kb_X7_fraction_24 {p : Program} {l : Launch} {e : Env} {s : State} {m : MethodId} {args : Array Value} {below : List Frame} {meth : Method} {c : Code} {D : va_G} {ad : Nat → Nat} {cI cJ cR : ClassId} {Ln : Nat → Nat} {A : Nat → Prop}  {K24 : cs_T → Int32 → Int32 → Int32 → Prop} {Q : Int32 → cs_T → Prop} {S : cs_T} {v1 : Int32} {v2 : Int32} {v3 : Int32} (fx : xr_Fx p m c meth cX7_fraction 5 s args wsX7_fraction RX7 (some .int)) (hK : xr_K D (cs_ty cI cJ cR) s) (hA : ∀ q, s.heap.size ≤ q → A q)   (k24 : ∀ (S : cs_T) (v1 : Int32) (v2 : Int32) (v3 : Int32) {H : Heap} {locs : List Loc} {ls : Array Slot}, va_P D vwCl (cs_w ad cI cR Ln S) H → va_D A (cs_w ad cI cR Ln S) → va_S A s.heap H locs → lv_has ls 5 [(0, .ref (ad 0)), (1, .int v1), (2, .int v2), (3, .int v3)] → K24 S v1 v2 v3 → W p l e rm_X7_fraction s m args below meth c H locs 0 0 (MQ below (va_Qi Q (xr_B D (cs_ty cI cJ cR) (cs_w ad cI cR Ln) A) A) args s 0 0 A) (F0 m 24 ls [])) {H : Heap} {locs : List Loc} {ls : Array Slot} (hP : va_P D vwCl (cs_w ad cI cR Ln S) H) (hD : va_D A (cs_w ad cI cR Ln S)) (hS : va_S A s.heap H locs) (hl : lv_has ls 5 [(0, .ref (ad 0)), (1, .int v1), (2, .int v2), (3, .int v3)]) (h : wb_X7_fraction_24 Ln K24 Q S v1 v2 v3) : W p l e rm_X7_fraction s m args below meth c H locs 0 0 (MQ below (va_Qi Q (xr_B D (cs_ty cI cJ cR) (cs_w ad cI cR Ln) A) A) args s 0 0 A) (F0 m 24 ls []) := by
  obtain ⟨⟨hx, hb, hml, hown, hts⟩, hrt, hlk⟩ := id fx
  have hf : 0 ≤ rm_X7_fraction.cells ∧ 0 ≤ rm_X7_fraction.slots := ⟨Nat.zero_le _, Nat.zero_le _⟩
  unfold wb_X7_fraction_24 at h
  refine lv_iload_n hx hb dX7_fraction_24 rfl (lv_at hl 3 rfl) ?_
  refine lv_sipush (v := 1000) hx hb dX7_fraction_25 (by decide) ?_
  refine lv_icmp_gt (tgt := 72) hx hb dX7_fraction_28 (by decide) (fun c28 => ?_) (fun c28 => ?_)
  · have h := h.1 c28
    refine lv_ldc (v := (-2147483648)) hx hb hown (hts (.constant RX7 102 (-2147483648)) (by decide +kernel)) dX7_fraction_72 ?_
    exact xr_rI fx hK hP hD hS h dX7_fraction_74
  · have h := h.2 c28
    refine lv_iload_n hx hb dX7_fraction_31 rfl (lv_at hl 1 rfl) ?_
    refine lv_iload_n hx hb dX7_fraction_32 rfl (lv_at hl 3 rfl) ?_
    refine xr_sI (n := 2) (As := [.int v1, .int v3]) (rest := []) fx (ct_X3_product l h) gX7_fraction_X3_product rfl rfl (by decide +kernel) ⟨Nat.le_of_ble_eq_true rfl, Nat.le_of_ble_eq_true rfl⟩ ⟨rfl, rfl⟩ hf hl.1 rfl (Nat.le_of_ble_eq_true rfl) dX7_fraction_33 (fun r2 h => ?_)
    refine xr_sI (n := 1) (As := [.int r2]) (rest := []) fx (ct_X3_nearNought l h) gX7_fraction_X3_nearNought rfl rfl (by decide +kernel) ⟨Nat.le_of_ble_eq_true rfl, Nat.le_of_ble_eq_true rfl⟩ ⟨rfl, rfl⟩ hf hl.1 rfl (Nat.le_of_ble_eq_true rfl) dX7_fraction_36 (fun r3 h => ?_)
    refine lv_istore (lv' := [(4, .int r3), (0, .ref (ad 0)), (1, .int v1), (2, .int v2), (3, .int v3)]) hx hb dX7_fraction_39 hl (by decide) rfl (fun ls hl => ?_)
    refine lv_iload hx hb dX7_fraction_41 (lv_at hl 0 rfl) ?_
    refine lv_ldc (v := (-1000000)) hx hb hown (hts (.constant RX7 109 (-1000000)) (by decide +kernel)) dX7_fraction_43 ?_
    refine lv_icmp_lt (tgt := 66) hx hb dX7_fraction_45 (by decide) (fun c45 => ?_) (fun c45 => ?_)
    · have h := h.1 c45
      exact kw_X7_fraction_66 fx hK hA k24 hP hD hS (lv_sub hl [1, 2, 3, 4] rfl) h
    · have h := h.2 c45
      refine lv_iload hx hb dX7_fraction_48 (lv_at hl 0 rfl) ?_
      refine lv_ldc (v := 1000000) hx hb hown (hts (.constant RX7 110 (1000000)) (by decide +kernel)) dX7_fraction_50 ?_
      refine lv_icmp_gt (tgt := 66) hx hb dX7_fraction_52 (by decide) (fun c52 => ?_) (fun c52 => ?_)
      · have h := h.1 c52
        exact kw_X7_fraction_66 fx hK hA k24 hP hD hS (lv_sub hl [1, 2, 3, 4] rfl) h
      · have h := h.2 c52
        refine lv_iload_n hx hb dX7_fraction_55 rfl (lv_at hl 3 rfl) ?_
        refine lv_if_ne (tgt := 64) hx hb dX7_fraction_56 (by decide) (fun c56 => ?_) (fun c56 => ?_)
        · have h := h.1 c56
          refine lv_iload_n hx hb dX7_fraction_64 rfl (lv_at hl 4 rfl) ?_
          exact xr_rI fx hK hP hD hS h dX7_fraction_65
        · have h := h.2 c56
          refine lv_iload hx hb dX7_fraction_59 (lv_at hl 0 rfl) ?_
          refine lv_goto (tgt := 65) hx hb dX7_fraction_61 (by decide) ?_
          exact xr_rI fx hK hP hD hS h dX7_fraction_65
theorem kw_X7_fraction_24 {p : Program} {l : Launch} {e : Env} {s : State} {m : MethodId} {args : Array Value} {below : List Frame} {meth : Method} {c : Code} {D : va_G} {ad : Nat → Nat} {cI cJ cR : ClassId} {Ln : Nat → Nat} {A : Nat → Prop}  {Q : Int32 → cs_T → Prop} (fx : xr_Fx p m c meth cX7_fraction 5 s args wsX7_fraction RX7 (some .int)) (hK : xr_K D (cs_ty cI cJ cR) s) (hA : ∀ q, s.heap.size ≤ q → A q)   : ∀ (n : Nat) (S : cs_T) (v1 : Int32) (v2 : Int32) (v3 : Int32) {H : Heap} {locs : List Loc} {ls : Array Slot}, va_P D vwCl (cs_w ad cI cR Ln S) H → va_D A (cs_w ad cI cR Ln S) → va_S A s.heap H locs → lv_has ls 5 [(0, .ref (ad 0)), (1, .int v1), (2, .int v2), (3, .int v3)] → wp_X7_fraction_24 Ln Q n S v1 v2 v3 → W p l e rm_X7_fraction s m args below meth c H locs 0 0 (MQ below (va_Qi Q (xr_B D (cs_ty cI cJ cR) (cs_w ad cI cR Ln) A) A) args s 0 0 A) (F0 m 24 ls []) := by
  intro n
  induction n with
  | zero => intro S v1 v2 v3 H locs ls hP hD hS hl h; exact False.elim h
  | succ n ih => intro S v1 v2 v3 H locs ls hP hD hS hl h; exact kb_X7_fraction_24 fx hK hA ih hP hD hS hl h
set_option maxHeartbeats 4000000 in
set_option maxRecDepth 100000 in
theorem ct_X7_fraction (l : Launch) (D : va_G) (ad : Nat → Nat) (cI cJ cR : ClassId) (Ln : Nat → Nat) {S : cs_T} {a1 : Int32} {a2 : Int32} {Q : Int32 → cs_T → Prop} (h : wp_X7_fraction Ln S a1 a2 Q) : xr_I l D (cs_ty cI cJ cR) (cs_w ad cI cR Ln) yX7_fraction wsX7_fraction rm_X7_fraction [.ref (ad 0), .int a1, .int a2] S Q := by
  refine xr_eI (cc := cX7_fraction) (nL := 5) (ret := (some .int)) (own := RX7) (by decide) rfl rfl (Nat.le_of_ble_eq_true rfl) ?_
  intro p e s m args below meth c ls A fx hK hA hP hD hS hl
  have hl : lv_has ls 5 [(0, .ref (ad 0)), (1, .int a1), (2, .int a2)] := hl
  show W p l e rm_X7_fraction s m args below meth c s.heap [] 0 0 _ _
  obtain ⟨⟨hx, hb, hml, hown, hts⟩, hrt, hlk⟩ := id fx
  have hf : 0 ≤ rm_X7_fraction.cells ∧ 0 ≤ rm_X7_fraction.slots := ⟨Nat.zero_le _, Nat.zero_le _⟩
  unfold wp_X7_fraction at h
  refine lv_iload_n hx hb dX7_fraction_0 rfl (lv_at hl 1 rfl) ?_
  refine lv_if_lt (tgt := 19) hx hb dX7_fraction_1 (by decide) (fun c1 => ?_) (fun c1 => ?_)
  · have h := h.1 c1
    refine lv_ldc (v := (-2147483648)) hx hb hown (hts (.constant RX7 102 (-2147483648)) (by decide +kernel)) dX7_fraction_19 ?_
    exact xr_rI fx hK hP hD hS h dX7_fraction_21
  · have h := h.2 c1
    refine lv_iload_n hx hb dX7_fraction_4 rfl (lv_at hl 1 rfl) ?_
    refine lv_ldc (v := 2147483647) hx hb hown (hts (.constant RX7 101 (2147483647)) (by decide +kernel)) dX7_fraction_5 ?_
    refine lv_icmp_ge (tgt := 19) hx hb dX7_fraction_7 (by decide) (fun c7 => ?_) (fun c7 => ?_)
    · have h := h.1 c7
      refine lv_ldc (v := (-2147483648)) hx hb hown (hts (.constant RX7 102 (-2147483648)) (by decide +kernel)) dX7_fraction_19 ?_
      exact xr_rI fx hK hP hD hS h dX7_fraction_21
    · have h := h.2 c7
      refine lv_iload_n hx hb dX7_fraction_10 rfl (lv_at hl 2 rfl) ?_
      refine lv_if_lt (tgt := 19) hx hb dX7_fraction_11 (by decide) (fun c11 => ?_) (fun c11 => ?_)
      · have h := h.1 c11
        refine lv_ldc (v := (-2147483648)) hx hb hown (hts (.constant RX7 102 (-2147483648)) (by decide +kernel)) dX7_fraction_19 ?_
        exact xr_rI fx hK hP hD hS h dX7_fraction_21
      · have h := h.2 c11
        refine lv_iload_n hx hb dX7_fraction_14 rfl (lv_at hl 2 rfl) ?_
        refine lv_iconst (v := 1) hx hb dX7_fraction_15 (by decide) ?_
        refine lv_icmp_le (tgt := 22) hx hb dX7_fraction_16 (by decide) (fun c16 => ?_) (fun c16 => ?_)
        · have h := h.1 c16
          refine lv_iconst (v := 1) hx hb dX7_fraction_22 (by decide) ?_
          refine lv_istore_n (lv' := [(3, .int 1), (0, .ref (ad 0)), (1, .int a1), (2, .int a2)]) hx hb dX7_fraction_23 rfl hl (by decide) rfl (fun ls hl => ?_)
          obtain ⟨n, h⟩ := h
          exact kw_X7_fraction_24 fx hK hA n _ _ _ _ hP hD hS (lv_sub hl [1, 2, 3, 0] rfl) h
        · have h := h.2 c16
          refine lv_ldc (v := (-2147483648)) hx hb hown (hts (.constant RX7 102 (-2147483648)) (by decide +kernel)) dX7_fraction_19 ?_
          exact xr_rI fx hK hP hD hS h dX7_fraction_21
abbrev rm_X0_amass : Room := { frames := 1, cells := 0, slots := 0, locals := 22 }
set_option maxHeartbeats 4000000 in
set_option maxRecDepth 100000 in
theorem kw_X0_amass_33 {p : Program} {l : Launch} {e : Env} {s : State} {m : MethodId} {args : Array Value} {below : List Frame} {meth : Method} {c : Code} {D : va_G} {ad : Nat → Nat} {cI cJ cR : ClassId} {Ln : Nat → Nat} {A : Nat → Prop} {K3 : cs_T → Nat → Nat → Int32 → Int32 → Prop} {Q : cs_T → Prop} {S : cs_T} {v1 : Nat} {v2 : Nat} {v3 : Int32} {v4 : Int32} (fx : xr_Fx p m c meth cX0_amass 5 s args wsX0_amass RX0 none) (hK : xr_K D (cs_ty cI cJ cR) s) (hA : ∀ q, s.heap.size ≤ q → A q)  (k3 : ∀ (S : cs_T) (v1 : Nat) (v2 : Nat) (v3 : Int32) (v4 : Int32) {H : Heap} {locs : List Loc} {ls : Array Slot}, va_P D vwCl (cs_w ad cI cR Ln S) H → va_D A (cs_w ad cI cR Ln S) → va_S A s.heap H locs → lv_has ls 5 [(0, .ref (ad 2)), (1, .ref (ad (9 + v1))), (2, .ref (ad (9 + v2))), (3, .int v3), (4, .int v4)] → K3 S v1 v2 v3 v4 → W p l e rm_X0_amass s m args below meth c H locs 0 0 (MQ below (va_Qv Q (xr_B D (cs_ty cI cJ cR) (cs_w ad cI cR Ln) A) A) args s 0 0 A) (F0 m 3 ls [])) {H : Heap} {locs : List Loc} {ls : Array Slot} (hP : va_P D vwCl (cs_w ad cI cR Ln S) H) (hD : va_D A (cs_w ad cI cR Ln S)) (hS : va_S A s.heap H locs) (hl : lv_has ls 5 [(0, .ref (ad 2)), (1, .ref (ad (9 + v1))), (2, .ref (ad (9 + v2))), (3, .int v3), (4, .int v4)]) (h : wp_X0_amass_33 Ln K3 Q S v1 v2 v3 v4) : W p l e rm_X0_amass s m args below meth c H locs 0 0 (MQ below (va_Qv Q (xr_B D (cs_ty cI cJ cR) (cs_w ad cI cR Ln) A) A) args s 0 0 A) (F0 m 33 ls []) := by
  obtain ⟨⟨hx, hb, hml, hown, hts⟩, hrt, hlk⟩ := id fx
  have hf : 0 ≤ rm_X0_amass.cells ∧ 0 ≤ rm_X0_amass.slots := ⟨Nat.zero_le _, Nat.zero_le _⟩
  unfold wp_X0_amass_33 at h
  obtain ⟨v4_1, ev4_1⟩ : ∃ z : Int32, z = v4 + 1 := ⟨_, rfl⟩
  have h := h v4_1 ev4_1
  refine lv_iinc (v := v4_1) (lv' := [(4, .int v4_1), (0, .ref (ad 2)), (1, .ref (ad (9 + v1))), (2, .ref (ad (9 + v2))), (3, .int v3)]) hx hb dX0_amass_33 hl (k := 4) rfl (by rw [ev4_1]; rfl) (by decide) rfl (fun ls hl => ?_)
  refine lv_goto (tgt := 3) hx hb dX0_amass_36 (by decide) ?_
  exact k3 _ _ _ _ _ hP hD hS (lv_sub hl [1, 2, 3, 4, 0] rfl) h
set_option maxHeartbeats 4000000 in
set_option maxRecDepth 100000 in
theorem kb_X0_amass_3 {p : Program} {l : Launch} {e : Env} {s : State} {m : MethodId} {args : Array Value} {below : List Frame} {meth : Method} {c : Code} {D : va_G} {ad : Nat → Nat} {cI cJ cR : ClassId} {Ln : Nat → Nat} {A : Nat → Prop}  {K3 : cs_T → Nat → Nat → Int32 → Int32 → Prop} {Q : cs_T → Prop} {S : cs_T} {v1 : Nat} {v2 : Nat} {v3 : Int32} {v4 : Int32} (fx : xr_Fx p m c meth cX0_amass 5 s args wsX0_amass RX0 none) (hK : xr_K D (cs_ty cI cJ cR) s) (hA : ∀ q, s.heap.size ≤ q → A q)   (k3 : ∀ (S : cs_T) (v1 : Nat) (v2 : Nat) (v3 : Int32) (v4 : Int32) {H : Heap} {locs : List Loc} {ls : Array Slot}, va_P D vwCl (cs_w ad cI cR Ln S) H → va_D A (cs_w ad cI cR Ln S) → va_S A s.heap H locs → lv_has ls 5 [(0, .ref (ad 2)), (1, .ref (ad (9 + v1))), (2, .ref (ad (9 + v2))), (3, .int v3), (4, .int v4)] → K3 S v1 v2 v3 v4 → W p l e rm_X0_amass s m args below meth c H locs 0 0 (MQ below (va_Qv Q (xr_B D (cs_ty cI cJ cR) (cs_w ad cI cR Ln) A) A) args s 0 0 A) (F0 m 3 ls [])) {H : Heap} {locs : List Loc} {ls : Array Slot} (hP : va_P D vwCl (cs_w ad cI cR Ln S) H) (hD : va_D A (cs_w ad cI cR Ln S)) (hS : va_S A s.heap H locs) (hl : lv_has ls 5 [(0, .ref (ad 2)), (1, .ref (ad (9 + v1))), (2, .ref (ad (9 + v2))), (3, .int v3), (4, .int v4)]) (h : wb_X0_amass_3 Ln K3 Q S v1 v2 v3 v4) : W p l e rm_X0_amass s m args below meth c H locs 0 0 (MQ below (va_Qv Q (xr_B D (cs_ty cI cJ cR) (cs_w ad cI cR Ln) A) A) args s 0 0 A) (F0 m 3 ls []) := by
  obtain ⟨⟨hx, hb, hml, hown, hts⟩, hrt, hlk⟩ := id fx
  have hf : 0 ≤ rm_X0_amass.cells ∧ 0 ≤ rm_X0_amass.slots := ⟨Nat.zero_le _, Nat.zero_le _⟩
  unfold wb_X0_amass_3 at h
  refine lv_iload hx hb dX0_amass_3 (lv_at hl 4 rfl) ?_
  refine lv_aload_n hx hb dX0_amass_5 rfl (lv_at hl 1 rfl) ?_
  obtain ⟨hk2, h⟩ := h
  refine cs_alen v1 hk2 fx hK hP dX0_amass_6 ?_
  refine lv_icmp_ge (tgt := 39) hx hb dX0_amass_7 (by decide) (fun c7 => ?_) (fun c7 => ?_)
  · have h := h.1 c7
    exact xr_rV fx hK hP hD hS h dX0_amass_39
  · have h := h.2 c7
    refine lv_aload_n hx hb dX0_amass_10 rfl (lv_at hl 2 rfl) ?_
    refine lv_iload hx hb dX0_amass_11 (lv_at hl 4 rfl) ?_
    obtain ⟨hk4, h⟩ := h
    obtain ⟨hi3, h⟩ := h
    refine cs_iald v2 hk4 fx hK hP hi3 dX0_amass_13 ?_
    refine lv_if_eq (tgt := 33) hx hb dX0_amass_14 (by decide) (fun c14 => ?_) (fun c14 => ?_)
    · have h := h.1 c14
      exact kw_X0_amass_33 fx hK hA k3 hP hD hS (lv_sub hl [0, 1, 2, 3, 4] rfl) h
    · have h := h.2 c14
      refine lv_aload_n hx hb dX0_amass_17 rfl (lv_at hl 1 rfl) ?_
      refine lv_iload hx hb dX0_amass_18 (lv_at hl 4 rfl) ?_
      refine lv_aload_n hx hb dX0_amass_20 rfl (lv_at hl 1 rfl) ?_
      refine lv_iload hx hb dX0_amass_21 (lv_at hl 4 rfl) ?_
      obtain ⟨hi5, h⟩ := h
      refine cs_iald v1 hk2 fx hK hP hi5 dX0_amass_23 ?_
      refine lv_aload_n hx hb dX0_amass_24 rfl (lv_at hl 2 rfl) ?_
      refine lv_iload hx hb dX0_amass_25 (lv_at hl 4 rfl) ?_
      obtain ⟨hi6, h⟩ := h
      refine cs_iald v2 hk4 fx hK hP hi6 dX0_amass_27 ?_
      refine lv_iload_n hx hb dX0_amass_28 rfl (lv_at hl 3 rfl) ?_
      refine xr_sI (n := 3) (As := [.int (S.2.1 v1 v4.toNatClampNeg), .int (S.2.1 v2 v4.toNatClampNeg), .int v3]) (rest := [.int v4, .ref (ad (9 + v1))]) fx (ct_X3_productMore l h) gX0_amass_X3_productMore rfl rfl (by decide +kernel) ⟨Nat.le_of_ble_eq_true rfl, Nat.le_of_ble_eq_true rfl⟩ ⟨rfl, rfl⟩ hf hl.1 rfl (Nat.le_of_ble_eq_true rfl) dX0_amass_29 (fun r7 h => ?_)
      obtain ⟨hi8, h⟩ := h
      refine cs_iast v1 hk2 fx hK hP hD hS hi8 dX0_amass_32 (fun H locs hP hD hS => ?_)
      exact kw_X0_amass_33 fx hK hA k3 hP hD hS (lv_sub hl [0, 1, 2, 3, 4] rfl) h
theorem kw_X0_amass_3 {p : Program} {l : Launch} {e : Env} {s : State} {m : MethodId} {args : Array Value} {below : List Frame} {meth : Method} {c : Code} {D : va_G} {ad : Nat → Nat} {cI cJ cR : ClassId} {Ln : Nat → Nat} {A : Nat → Prop}  {Q : cs_T → Prop} (fx : xr_Fx p m c meth cX0_amass 5 s args wsX0_amass RX0 none) (hK : xr_K D (cs_ty cI cJ cR) s) (hA : ∀ q, s.heap.size ≤ q → A q)   : ∀ (n : Nat) (S : cs_T) (v1 : Nat) (v2 : Nat) (v3 : Int32) (v4 : Int32) {H : Heap} {locs : List Loc} {ls : Array Slot}, va_P D vwCl (cs_w ad cI cR Ln S) H → va_D A (cs_w ad cI cR Ln S) → va_S A s.heap H locs → lv_has ls 5 [(0, .ref (ad 2)), (1, .ref (ad (9 + v1))), (2, .ref (ad (9 + v2))), (3, .int v3), (4, .int v4)] → wp_X0_amass_3 Ln Q n S v1 v2 v3 v4 → W p l e rm_X0_amass s m args below meth c H locs 0 0 (MQ below (va_Qv Q (xr_B D (cs_ty cI cJ cR) (cs_w ad cI cR Ln) A) A) args s 0 0 A) (F0 m 3 ls []) := by
  intro n
  induction n with
  | zero => intro S v1 v2 v3 v4 H locs ls hP hD hS hl h; exact False.elim h
  | succ n ih => intro S v1 v2 v3 v4 H locs ls hP hD hS hl h; exact kb_X0_amass_3 fx hK hA ih hP hD hS hl h
set_option maxHeartbeats 4000000 in
set_option maxRecDepth 100000 in
theorem ct_X0_amass (l : Launch) (D : va_G) (ad : Nat → Nat) (cI cJ cR : ClassId) (Ln : Nat → Nat) {S : cs_T} {a1 : Nat} {a2 : Nat} {a3 : Int32} {Q : cs_T → Prop} (h : wp_X0_amass Ln S a1 a2 a3 Q) : xr_V l D (cs_ty cI cJ cR) (cs_w ad cI cR Ln) yX0_amass wsX0_amass rm_X0_amass [.ref (ad 2), .ref (ad (9 + a1)), .ref (ad (9 + a2)), .int a3] S Q := by
  refine xr_eV (cc := cX0_amass) (nL := 5) (ret := none) (own := RX0) (by decide) rfl rfl (Nat.le_of_ble_eq_true rfl) ?_
  intro p e s m args below meth c ls A fx hK hA hP hD hS hl
  have hl : lv_has ls 5 [(0, .ref (ad 2)), (1, .ref (ad (9 + a1))), (2, .ref (ad (9 + a2))), (3, .int a3)] := hl
  show W p l e rm_X0_amass s m args below meth c s.heap [] 0 0 _ _
  obtain ⟨⟨hx, hb, hml, hown, hts⟩, hrt, hlk⟩ := id fx
  have hf : 0 ≤ rm_X0_amass.cells ∧ 0 ≤ rm_X0_amass.slots := ⟨Nat.zero_le _, Nat.zero_le _⟩
  unfold wp_X0_amass at h
  refine lv_iconst (v := 0) hx hb dX0_amass_0 (by decide) ?_
  refine lv_istore (lv' := [(4, .int 0), (0, .ref (ad 2)), (1, .ref (ad (9 + a1))), (2, .ref (ad (9 + a2))), (3, .int a3)]) hx hb dX0_amass_1 hl (by decide) rfl (fun ls hl => ?_)
  obtain ⟨n, h⟩ := h
  exact kw_X0_amass_3 fx hK hA n _ _ _ _ _ hP hD hS (lv_sub hl [1, 2, 3, 4, 0] rfl) h
abbrev rm_X7_add : Room := { frames := 3, cells := 0, slots := 0, locals := 66 }
theorem in_X7_add_X7 : ∀ w ∈ wsX70, w ∈ wsX7_add := by decide +kernel
set_option maxHeartbeats 4000000 in
set_option maxRecDepth 100000 in
theorem ct_X7_add (l : Launch) (D : va_G) (ad : Nat → Nat) (cI cJ cR : ClassId) (Ln : Nat → Nat) {S : cs_T} {a1 : Int32} {a2 : Int32} {a3 : Int32} {a4 : Int32} {Q : Int32 → cs_T → Prop} (h : wp_X7_add Ln S a1 a2 a3 a4 Q) : xr_I l D (cs_ty cI cJ cR) (cs_w ad cI cR Ln) yX7_add wsX7_add rm_X7_add [.ref (ad 0), .int a1, .int a2, .int a3, .int a4] S Q := by
  refine xr_eI (cc := cX7_add) (nL := 5) (ret := (some .int)) (own := RX7) (by decide) rfl rfl (Nat.le_of_ble_eq_true rfl) ?_
  intro p e s m args below meth c ls A fx hK hA hP hD hS hl
  have hl : lv_has ls 5 [(0, .ref (ad 0)), (1, .int a1), (2, .int a2), (3, .int a3), (4, .int a4)] := hl
  show W p l e rm_X7_add s m args below meth c s.heap [] 0 0 _ _
  obtain ⟨⟨hx, hb, hml, hown, hts⟩, hrt, hlk⟩ := id fx
  have hf : 0 ≤ rm_X7_add.cells ∧ 0 ≤ rm_X7_add.slots := ⟨Nat.zero_le _, Nat.zero_le _⟩
  unfold wp_X7_add at h
  refine lv_iload_n hx hb dX7_add_0 rfl (lv_at hl 1 rfl) ?_
  refine xr_sI (n := 1) (As := [.int a1]) (rest := []) fx (ct_X7_noSum l h) gX7_add_X7_noSum rfl rfl (by decide +kernel) ⟨Nat.le_of_ble_eq_true rfl, Nat.le_of_ble_eq_true rfl⟩ ⟨rfl, rfl⟩ hf hl.1 rfl (Nat.le_of_ble_eq_true rfl) dX7_add_1 (fun r1 h => ?_)
  refine lv_if_ne (tgt := 14) hx hb dX7_add_4 (by decide) (fun c4 => ?_) (fun c4 => ?_)
  · have h := h.1 c4
    refine lv_iconst (v := (-1)) hx hb dX7_add_14 (by decide) ?_
    exact xr_rI fx hK hP hD hS h dX7_add_15
  · have h := h.2 c4
    refine lv_iload_n hx hb dX7_add_7 rfl (lv_at hl 2 rfl) ?_
    refine xr_sI (n := 1) (As := [.int a2]) (rest := []) fx (ct_X7_noSum l h) gX7_add_X7_noSum rfl rfl (by decide +kernel) ⟨Nat.le_of_ble_eq_true rfl, Nat.le_of_ble_eq_true rfl⟩ ⟨rfl, rfl⟩ hf hl.1 rfl (Nat.le_of_ble_eq_true rfl) dX7_add_8 (fun r2 h => ?_)
    refine lv_if_eq (tgt := 16) hx hb dX7_add_11 (by decide) (fun c11 => ?_) (fun c11 => ?_)
    · have h := h.1 c11
      refine lv_iload_n hx hb dX7_add_16 rfl (lv_at hl 3 rfl) ?_
      refine lv_iload hx hb dX7_add_17 (lv_at hl 4 rfl) ?_
      refine lv_sipush (v := 9999) hx hb dX7_add_19 (by decide) ?_
      refine xr_sI (n := 3) (As := [.int a3, .int a4, .int 9999]) (rest := []) fx (ct_X7_noFraction l h) gX7_add_X7_noFraction rfl rfl (by decide +kernel) ⟨Nat.le_of_ble_eq_true rfl, Nat.le_of_ble_eq_true rfl⟩ ⟨rfl, rfl⟩ hf hl.1 rfl (Nat.le_of_ble_eq_true rfl) dX7_add_22 (fun r3 h => ?_)
      refine lv_if_eq (tgt := 31) hx hb dX7_add_25 (by decide) (fun c25 => ?_) (fun c25 => ?_)
      · have h := h.1 c25
        refine lv_aload_n hx hb dX7_add_31 rfl (lv_at hl 0 rfl) ?_
        refine cs_get 0 6 2 (v := .ref (ad 2)) (ref := "BracketLetters") fx (by decide) rfl rfl in_X7_add_X7 (by decide) rfl (by decide +kernel) rfl hK hP dX7_add_32 ?_
        refine lv_aload_n hx hb dX7_add_35 rfl (lv_at hl 0 rfl) ?_
        refine cs_get 0 6 1 (v := .ref (ad 7)) (ref := "BracketLetters") fx (by decide) rfl rfl in_X7_add_X7 (by decide) rfl (by decide +kernel) rfl hK hP dX7_add_36 ?_
        refine lv_iload_n hx hb dX7_add_39 rfl (lv_at hl 1 rfl) ?_
        obtain ⟨hi4, h⟩ := h
        refine cs_aald 7 8 7 fx (by decide) rfl hK hP hi4 dX7_add_40 ?_
        refine lv_aload_n hx hb dX7_add_41 rfl (lv_at hl 0 rfl) ?_
        refine cs_get 0 6 1 (v := .ref (ad 7)) (ref := "BracketLetters") fx (by decide) rfl rfl in_X7_add_X7 (by decide) rfl (by decide +kernel) rfl hK hP dX7_add_42 ?_
        refine lv_iload_n hx hb dX7_add_45 rfl (lv_at hl 2 rfl) ?_
        obtain ⟨hi5, h⟩ := h
        refine cs_aald 7 8 7 fx (by decide) rfl hK hP hi5 dX7_add_46 ?_
        refine lv_iload_n hx hb dX7_add_47 rfl (lv_at hl 3 rfl) ?_
        refine lv_iload hx hb dX7_add_48 (lv_at hl 4 rfl) ?_
        refine xr_sI (n := 2) (As := [.int a3, .int a4]) (rest := [.ref (ad (9 + (7 + a2.toNatClampNeg))), .ref (ad (9 + (7 + a1.toNatClampNeg))), .ref (ad 2)]) fx (ct_X3_ratio l h) gX7_add_X3_ratio rfl rfl (by decide +kernel) ⟨Nat.le_of_ble_eq_true rfl, Nat.le_of_ble_eq_true rfl⟩ ⟨rfl, rfl⟩ hf hl.1 rfl (Nat.le_of_ble_eq_true rfl) dX7_add_50 (fun r6 h => ?_)
        refine xr_vV (n := 3) (As := [.ref (ad (9 + (7 + a1.toNatClampNeg))), .ref (ad (9 + (7 + a2.toNatClampNeg))), .int r6]) (rest := []) fx (ct_X0_amass l D ad cI cJ cR Ln h) gX7_add_X0_amass rfl rfl (by decide +kernel) ⟨Nat.le_of_ble_eq_true rfl, Nat.le_of_ble_eq_true rfl⟩ ⟨rfl, rfl⟩ hf (cs_recv 2 0 (by decide) rfl rfl hK hP) hK hP hD hS hA hl.1 rfl (Nat.le_of_ble_eq_true rfl) dX7_add_53 (fun S7 H locs h hP hD hS => ?_)
        refine lv_iconst (v := 0) hx hb dX7_add_56 (by decide) ?_
        exact xr_rI fx hK hP hD hS h dX7_add_57
      · have h := h.2 c25
        refine lv_bipush (v := (-2)) hx hb dX7_add_28 (by decide) ?_
        exact xr_rI fx hK hP hD hS h dX7_add_30
    · have h := h.2 c11
      refine lv_iconst (v := (-1)) hx hb dX7_add_14 (by decide) ?_
      exact xr_rI fx hK hP hD hS h dX7_add_15
abbrev rm_X0_gather : Room := { frames := 0, cells := 0, slots := 0, locals := 0 }
theorem in_X0_gather_X0 : ∀ w ∈ wsX00, w ∈ wsX0_gather := by decide +kernel
set_option maxHeartbeats 4000000 in
set_option maxRecDepth 100000 in
theorem kw_X0_gather_136 {p : Program} {l : Launch} {e : Env} {s : State} {m : MethodId} {args : Array Value} {below : List Frame} {meth : Method} {c : Code} {D : va_G} {ad : Nat → Nat} {cI cJ cR : ClassId} {Ln : Nat → Nat} {A : Nat → Prop} {K3 : cs_T → Nat → Nat → Nat → Int32 → Int32 → Int32 → Prop} {K13 : cs_T → Nat → Nat → Nat → Int32 → Int32 → Int32 → Int32 → Prop} {K51 : cs_T → Nat → Nat → Nat → Int32 → Int32 → Int32 → Int32 → Int64 → Int32 → Prop} {K92 : cs_T → Nat → Nat → Nat → Int32 → Int32 → Int32 → Int32 → Int64 → Int32 → Int32 → Int32 → Prop} {Q : cs_T → Prop} {S : cs_T} {v1 : Nat} {v2 : Nat} {v3 : Nat} {v4 : Int32} {v5 : Int32} {v6 : Int32} {v7 : Int32} {v8 : Int64} {v10 : Int32} {v11 : Int32} {v12 : Int32} (fx : xr_Fx p m c meth cX0_gather 13 s args wsX0_gather RX0 none) (hK : xr_K D (cs_ty cI cJ cR) s) (hA : ∀ q, s.heap.size ≤ q → A q)  (k3 : ∀ (S : cs_T) (v1 : Nat) (v2 : Nat) (v3 : Nat) (v4 : Int32) (v5 : Int32) (v6 : Int32) {H : Heap} {locs : List Loc} {ls : Array Slot}, va_P D vwCl (cs_w ad cI cR Ln S) H → va_D A (cs_w ad cI cR Ln S) → va_S A s.heap H locs → lv_has ls 13 [(0, .ref (ad 2)), (1, .ref (ad (9 + v1))), (2, .ref (ad (9 + v2))), (3, .ref (ad (9 + v3))), (4, .int v4), (5, .int v5), (6, .int v6)] → K3 S v1 v2 v3 v4 v5 v6 → W p l e rm_X0_gather s m args below meth c H locs 0 0 (MQ below (va_Qv Q (xr_B D (cs_ty cI cJ cR) (cs_w ad cI cR Ln) A) A) args s 0 0 A) (F0 m 3 ls [])) (k13 : ∀ (S : cs_T) (v1 : Nat) (v2 : Nat) (v3 : Nat) (v4 : Int32) (v5 : Int32) (v6 : Int32) (v7 : Int32) {H : Heap} {locs : List Loc} {ls : Array Slot}, va_P D vwCl (cs_w ad cI cR Ln S) H → va_D A (cs_w ad cI cR Ln S) → va_S A s.heap H locs → lv_has ls 13 [(0, .ref (ad 2)), (1, .ref (ad (9 + v1))), (2, .ref (ad (9 + v2))), (3, .ref (ad (9 + v3))), (4, .int v4), (5, .int v5), (6, .int v6), (7, .int v7)] → K13 S v1 v2 v3 v4 v5 v6 v7 → W p l e rm_X0_gather s m args below meth c H locs 0 0 (MQ below (va_Qv Q (xr_B D (cs_ty cI cJ cR) (cs_w ad cI cR Ln) A) A) args s 0 0 A) (F0 m 13 ls [])) (k51 : ∀ (S : cs_T) (v1 : Nat) (v2 : Nat) (v3 : Nat) (v4 : Int32) (v5 : Int32) (v6 : Int32) (v7 : Int32) (v8 : Int64) (v10 : Int32) {H : Heap} {locs : List Loc} {ls : Array Slot}, va_P D vwCl (cs_w ad cI cR Ln S) H → va_D A (cs_w ad cI cR Ln S) → va_S A s.heap H locs → lv_has ls 13 [(0, .ref (ad 2)), (1, .ref (ad (9 + v1))), (2, .ref (ad (9 + v2))), (3, .ref (ad (9 + v3))), (4, .int v4), (5, .int v5), (6, .int v6), (7, .int v7), (8, .long v8), (10, .int v10)] → K51 S v1 v2 v3 v4 v5 v6 v7 v8 v10 → W p l e rm_X0_gather s m args below meth c H locs 0 0 (MQ below (va_Qv Q (xr_B D (cs_ty cI cJ cR) (cs_w ad cI cR Ln) A) A) args s 0 0 A) (F0 m 51 ls [])) (k92 : ∀ (S : cs_T) (v1 : Nat) (v2 : Nat) (v3 : Nat) (v4 : Int32) (v5 : Int32) (v6 : Int32) (v7 : Int32) (v8 : Int64) (v10 : Int32) (v11 : Int32) (v12 : Int32) {H : Heap} {locs : List Loc} {ls : Array Slot}, va_P D vwCl (cs_w ad cI cR Ln S) H → va_D A (cs_w ad cI cR Ln S) → va_S A s.heap H locs → lv_has ls 13 [(0, .ref (ad 2)), (1, .ref (ad (9 + v1))), (2, .ref (ad (9 + v2))), (3, .ref (ad (9 + v3))), (4, .int v4), (5, .int v5), (6, .int v6), (7, .int v7), (8, .long v8), (10, .int v10), (11, .int v11), (12, .int v12)] → K92 S v1 v2 v3 v4 v5 v6 v7 v8 v10 v11 v12 → W p l e rm_X0_gather s m args below meth c H locs 0 0 (MQ below (va_Qv Q (xr_B D (cs_ty cI cJ cR) (cs_w ad cI cR Ln) A) A) args s 0 0 A) (F0 m 92 ls [])) {H : Heap} {locs : List Loc} {ls : Array Slot} (hP : va_P D vwCl (cs_w ad cI cR Ln S) H) (hD : va_D A (cs_w ad cI cR Ln S)) (hS : va_S A s.heap H locs) (hl : lv_has ls 13 [(0, .ref (ad 2)), (1, .ref (ad (9 + v1))), (2, .ref (ad (9 + v2))), (3, .ref (ad (9 + v3))), (4, .int v4), (5, .int v5), (6, .int v6), (7, .int v7), (8, .long v8), (10, .int v10), (11, .int v11), (12, .int v12)]) (h : wp_X0_gather_136 Ln K3 K13 K51 K92 Q S v1 v2 v3 v4 v5 v6 v7 v8 v10 v11 v12) : W p l e rm_X0_gather s m args below meth c H locs 0 0 (MQ below (va_Qv Q (xr_B D (cs_ty cI cJ cR) (cs_w ad cI cR Ln) A) A) args s 0 0 A) (F0 m 136 ls []) := by
  obtain ⟨⟨hx, hb, hml, hown, hts⟩, hrt, hlk⟩ := id fx
  have hf : 0 ≤ rm_X0_gather.cells ∧ 0 ≤ rm_X0_gather.slots := ⟨Nat.zero_le _, Nat.zero_le _⟩
  unfold wp_X0_gather_136 at h
  refine lv_iload hx hb dX0_gather_136 (lv_at hl 10 rfl) ?_
  refine lv_aload_n hx hb dX0_gather_138 rfl (lv_at hl 0 rfl) ?_
  refine cs_get 2 0 4 (v := .ref (ad (9 + 0))) (ref := "BracketLetters$Algebra") fx (by decide) rfl rfl in_X0_gather_X0 (by decide) rfl (by decide +kernel) rfl hK hP dX0_gather_139 ?_
  refine lv_iload hx hb dX0_gather_142 (lv_at hl 6 rfl) ?_
  obtain ⟨hi1, h⟩ := h
  refine cs_iald 0 (by decide) fx hK hP hi1 dX0_gather_144 ?_
  refine lv_iadd hx hb dX0_gather_145 ?_
  refine lv_topi (fun v11_2 ev11_2 => ?_)
  have h := h v11_2 ev11_2
  refine lv_istore (lv' := [(11, .int v11_2), (0, .ref (ad 2)), (1, .ref (ad (9 + v1))), (2, .ref (ad (9 + v2))), (3, .ref (ad (9 + v3))), (4, .int v4), (5, .int v5), (6, .int v6), (7, .int v7), (8, .long v8), (10, .int v10), (12, .int v12)]) hx hb dX0_gather_146 hl (by decide) rfl (fun ls hl => ?_)
  obtain ⟨v12_3, ev12_3⟩ : ∃ z : Int32, z = v12 + 1 := ⟨_, rfl⟩
  have h := h v12_3 ev12_3
  refine lv_iinc (v := v12_3) (lv' := [(12, .int v12_3), (11, .int v11_2), (0, .ref (ad 2)), (1, .ref (ad (9 + v1))), (2, .ref (ad (9 + v2))), (3, .ref (ad (9 + v3))), (4, .int v4), (5, .int v5), (6, .int v6), (7, .int v7), (8, .long v8), (10, .int v10)]) hx hb dX0_gather_148 hl (k := 11) rfl (by rw [ev12_3]; rfl) (by decide) rfl (fun ls hl => ?_)
  refine lv_goto (tgt := 92) hx hb dX0_gather_151 (by decide) ?_
  exact k92 _ _ _ _ _ _ _ _ _ _ _ _ hP hD hS (lv_sub hl [2, 3, 4, 5, 6, 7, 8, 9, 10, 11, 1, 0] rfl) h
set_option maxHeartbeats 4000000 in
set_option maxRecDepth 100000 in
theorem kb_X0_gather_92 {p : Program} {l : Launch} {e : Env} {s : State} {m : MethodId} {args : Array Value} {below : List Frame} {meth : Method} {c : Code} {D : va_G} {ad : Nat → Nat} {cI cJ cR : ClassId} {Ln : Nat → Nat} {A : Nat → Prop} {K3 : cs_T → Nat → Nat → Nat → Int32 → Int32 → Int32 → Prop} {K13 : cs_T → Nat → Nat → Nat → Int32 → Int32 → Int32 → Int32 → Prop} {K51 : cs_T → Nat → Nat → Nat → Int32 → Int32 → Int32 → Int32 → Int64 → Int32 → Prop} {K92 : cs_T → Nat → Nat → Nat → Int32 → Int32 → Int32 → Int32 → Int64 → Int32 → Int32 → Int32 → Prop} {Q : cs_T → Prop} {S : cs_T} {v1 : Nat} {v2 : Nat} {v3 : Nat} {v4 : Int32} {v5 : Int32} {v6 : Int32} {v7 : Int32} {v8 : Int64} {v10 : Int32} {v11 : Int32} {v12 : Int32} (fx : xr_Fx p m c meth cX0_gather 13 s args wsX0_gather RX0 none) (hK : xr_K D (cs_ty cI cJ cR) s) (hA : ∀ q, s.heap.size ≤ q → A q)  (k3 : ∀ (S : cs_T) (v1 : Nat) (v2 : Nat) (v3 : Nat) (v4 : Int32) (v5 : Int32) (v6 : Int32) {H : Heap} {locs : List Loc} {ls : Array Slot}, va_P D vwCl (cs_w ad cI cR Ln S) H → va_D A (cs_w ad cI cR Ln S) → va_S A s.heap H locs → lv_has ls 13 [(0, .ref (ad 2)), (1, .ref (ad (9 + v1))), (2, .ref (ad (9 + v2))), (3, .ref (ad (9 + v3))), (4, .int v4), (5, .int v5), (6, .int v6)] → K3 S v1 v2 v3 v4 v5 v6 → W p l e rm_X0_gather s m args below meth c H locs 0 0 (MQ below (va_Qv Q (xr_B D (cs_ty cI cJ cR) (cs_w ad cI cR Ln) A) A) args s 0 0 A) (F0 m 3 ls [])) (k13 : ∀ (S : cs_T) (v1 : Nat) (v2 : Nat) (v3 : Nat) (v4 : Int32) (v5 : Int32) (v6 : Int32) (v7 : Int32) {H : Heap} {locs : List Loc} {ls : Array Slot}, va_P D vwCl (cs_w ad cI cR Ln S) H → va_D A (cs_w ad cI cR Ln S) → va_S A s.heap H locs → lv_has ls 13 [(0, .ref (ad 2)), (1, .ref (ad (9 + v1))), (2, .ref (ad (9 + v2))), (3, .ref (ad (9 + v3))), (4, .int v4), (5, .int v5), (6, .int v6), (7, .int v7)] → K13 S v1 v2 v3 v4 v5 v6 v7 → W p l e rm_X0_gather s m args below meth c H locs 0 0 (MQ below (va_Qv Q (xr_B D (cs_ty cI cJ cR) (cs_w ad cI cR Ln) A) A) args s 0 0 A) (F0 m 13 ls [])) (k51 : ∀ (S : cs_T) (v1 : Nat) (v2 : Nat) (v3 : Nat) (v4 : Int32) (v5 : Int32) (v6 : Int32) (v7 : Int32) (v8 : Int64) (v10 : Int32) {H : Heap} {locs : List Loc} {ls : Array Slot}, va_P D vwCl (cs_w ad cI cR Ln S) H → va_D A (cs_w ad cI cR Ln S) → va_S A s.heap H locs → lv_has ls 13 [(0, .ref (ad 2)), (1, .ref (ad (9 + v1))), (2, .ref (ad (9 + v2))), (3, .ref (ad (9 + v3))), (4, .int v4), (5, .int v5), (6, .int v6), (7, .int v7), (8, .long v8), (10, .int v10)] → K51 S v1 v2 v3 v4 v5 v6 v7 v8 v10 → W p l e rm_X0_gather s m args below meth c H locs 0 0 (MQ below (va_Qv Q (xr_B D (cs_ty cI cJ cR) (cs_w ad cI cR Ln) A) A) args s 0 0 A) (F0 m 51 ls [])) (k92 : ∀ (S : cs_T) (v1 : Nat) (v2 : Nat) (v3 : Nat) (v4 : Int32) (v5 : Int32) (v6 : Int32) (v7 : Int32) (v8 : Int64) (v10 : Int32) (v11 : Int32) (v12 : Int32) {H : Heap} {locs : List Loc} {ls : Array Slot}, va_P D vwCl (cs_w ad cI cR Ln S) H → va_D A (cs_w ad cI cR Ln S) → va_S A s.heap H locs → lv_has ls 13 [(0, .ref (ad 2)), (1, .ref (ad (9 + v1))), (2, .ref (ad (9 + v2))), (3, .ref (ad (9 + v3))), (4, .int v4), (5, .int v5), (6, .int v6), (7, .int v7), (8, .long v8), (10, .int v10), (11, .int v11), (12, .int v12)] → K92 S v1 v2 v3 v4 v5 v6 v7 v8 v10 v11 v12 → W p l e rm_X0_gather s m args below meth c H locs 0 0 (MQ below (va_Qv Q (xr_B D (cs_ty cI cJ cR) (cs_w ad cI cR Ln) A) A) args s 0 0 A) (F0 m 92 ls [])) {H : Heap} {locs : List Loc} {ls : Array Slot} (hP : va_P D vwCl (cs_w ad cI cR Ln S) H) (hD : va_D A (cs_w ad cI cR Ln S)) (hS : va_S A s.heap H locs) (hl : lv_has ls 13 [(0, .ref (ad 2)), (1, .ref (ad (9 + v1))), (2, .ref (ad (9 + v2))), (3, .ref (ad (9 + v3))), (4, .int v4), (5, .int v5), (6, .int v6), (7, .int v7), (8, .long v8), (10, .int v10), (11, .int v11), (12, .int v12)]) (h : wb_X0_gather_92 Ln K3 K13 K51 K92 Q S v1 v2 v3 v4 v5 v6 v7 v8 v10 v11 v12) : W p l e rm_X0_gather s m args below meth c H locs 0 0 (MQ below (va_Qv Q (xr_B D (cs_ty cI cJ cR) (cs_w ad cI cR Ln) A) A) args s 0 0 A) (F0 m 92 ls []) := by
  obtain ⟨⟨hx, hb, hml, hown, hts⟩, hrt, hlk⟩ := id fx
  have hf : 0 ≤ rm_X0_gather.cells ∧ 0 ≤ rm_X0_gather.slots := ⟨Nat.zero_le _, Nat.zero_le _⟩
  unfold wb_X0_gather_92 at h
  refine lv_iload hx hb dX0_gather_92 (lv_at hl 11 rfl) ?_
  refine lv_aload_n hx hb dX0_gather_94 rfl (lv_at hl 0 rfl) ?_
  refine cs_get 2 0 5 (v := .ref (ad (9 + 1))) (ref := "BracketLetters$Algebra") fx (by decide) rfl rfl in_X0_gather_X0 (by decide) rfl (by decide +kernel) rfl hK hP dX0_gather_95 ?_
  refine lv_iload hx hb dX0_gather_98 (lv_at hl 9 rfl) ?_
  refine lv_iconst (v := 1) hx hb dX0_gather_100 (by decide) ?_
  refine lv_iadd hx hb dX0_gather_101 ?_
  obtain ⟨hi4, h⟩ := h
  refine cs_iald 1 (by decide) fx hK hP hi4 dX0_gather_102 ?_
  refine lv_icmp_ge (tgt := 154) hx hb dX0_gather_103 (by decide) (fun c103 => ?_) (fun c103 => ?_)
  · have h := h.1 c103
    obtain ⟨v10_5, ev10_5⟩ : ∃ z : Int32, z = v10 + 1 := ⟨_, rfl⟩
    have h := h v10_5 ev10_5
    refine lv_iinc (v := v10_5) (lv' := [(10, .int v10_5), (0, .ref (ad 2)), (1, .ref (ad (9 + v1))), (2, .ref (ad (9 + v2))), (3, .ref (ad (9 + v3))), (4, .int v4), (5, .int v5), (6, .int v6), (7, .int v7), (8, .long v8), (11, .int v11), (12, .int v12)]) hx hb dX0_gather_154 hl (k := 9) rfl (by rw [ev10_5]; rfl) (by decide) rfl (fun ls hl => ?_)
    refine lv_goto (tgt := 51) hx hb dX0_gather_157 (by decide) ?_
    exact k51 _ _ _ _ _ _ _ _ _ _ hP hD hS (lv_sub hl [1, 2, 3, 4, 5, 6, 7, 8, 9, 0] rfl) h
  · have h := h.2 c103
    refine lv_aload_n hx hb dX0_gather_106 rfl (lv_at hl 2 rfl) ?_
    refine lv_iload hx hb dX0_gather_107 (lv_at hl 11 rfl) ?_
    obtain ⟨hk7, h⟩ := h
    obtain ⟨hi6, h⟩ := h
    refine cs_iald v2 hk7 fx hK hP hi6 dX0_gather_109 ?_
    refine lv_if_eq (tgt := 136) hx hb dX0_gather_110 (by decide) (fun c110 => ?_) (fun c110 => ?_)
    · have h := h.1 c110
      exact kw_X0_gather_136 fx hK hA k3 k13 k51 k92 hP hD hS (lv_sub hl [0, 1, 2, 3, 4, 5, 6, 7, 8, 9, 10, 11] rfl) h
    · have h := h.2 c110
      refine lv_aload_n hx hb dX0_gather_113 rfl (lv_at hl 1 rfl) ?_
      refine lv_iload hx hb dX0_gather_114 (lv_at hl 10 rfl) ?_
      refine lv_aload_n hx hb dX0_gather_116 rfl (lv_at hl 1 rfl) ?_
      refine lv_iload hx hb dX0_gather_117 (lv_at hl 10 rfl) ?_
      obtain ⟨hk9, h⟩ := h
      obtain ⟨hi8, h⟩ := h
      refine cs_iald v1 hk9 fx hK hP hi8 dX0_gather_119 ?_
      refine lv_i2l hx hb dX0_gather_120 rfl ?_
      refine lv_aload_n hx hb dX0_gather_121 rfl (lv_at hl 2 rfl) ?_
      refine lv_iload hx hb dX0_gather_122 (lv_at hl 11 rfl) ?_
      obtain ⟨hi10, h⟩ := h
      refine cs_iald v2 hk7 fx hK hP hi10 dX0_gather_124 ?_
      refine lv_i2l hx hb dX0_gather_125 rfl ?_
      refine lv_lload hx hb dX0_gather_126 (lv_at hl 8 rfl) ?_
      refine lv_lmul hx hb dX0_gather_128 ?_
      refine lv_ladd hx hb dX0_gather_129 ?_
      refine lv_ldc2 (v := 2147483647) hx hb hown (hts (.constantLong RX0 98 (2147483647)) (by decide +kernel)) dX0_gather_130 ?_
      refine lv_lrem hx hb dX0_gather_133 (by decide) ?_
      refine lv_l2i hx hb dX0_gather_134 rfl ?_
      obtain ⟨hi11, h⟩ := h
      refine cs_iast v1 hk9 fx hK hP hD hS hi11 dX0_gather_135 (fun H locs hP hD hS => ?_)
      exact kw_X0_gather_136 fx hK hA k3 k13 k51 k92 hP hD hS (lv_sub hl [0, 1, 2, 3, 4, 5, 6, 7, 8, 9, 10, 11] rfl) h
theorem kw_X0_gather_92 {p : Program} {l : Launch} {e : Env} {s : State} {m : MethodId} {args : Array Value} {below : List Frame} {meth : Method} {c : Code} {D : va_G} {ad : Nat → Nat} {cI cJ cR : ClassId} {Ln : Nat → Nat} {A : Nat → Prop} {K3 : cs_T → Nat → Nat → Nat → Int32 → Int32 → Int32 → Prop} {K13 : cs_T → Nat → Nat → Nat → Int32 → Int32 → Int32 → Int32 → Prop} {K51 : cs_T → Nat → Nat → Nat → Int32 → Int32 → Int32 → Int32 → Int64 → Int32 → Prop} {Q : cs_T → Prop} (fx : xr_Fx p m c meth cX0_gather 13 s args wsX0_gather RX0 none) (hK : xr_K D (cs_ty cI cJ cR) s) (hA : ∀ q, s.heap.size ≤ q → A q)  (k3 : ∀ (S : cs_T) (v1 : Nat) (v2 : Nat) (v3 : Nat) (v4 : Int32) (v5 : Int32) (v6 : Int32) {H : Heap} {locs : List Loc} {ls : Array Slot}, va_P D vwCl (cs_w ad cI cR Ln S) H → va_D A (cs_w ad cI cR Ln S) → va_S A s.heap H locs → lv_has ls 13 [(0, .ref (ad 2)), (1, .ref (ad (9 + v1))), (2, .ref (ad (9 + v2))), (3, .ref (ad (9 + v3))), (4, .int v4), (5, .int v5), (6, .int v6)] → K3 S v1 v2 v3 v4 v5 v6 → W p l e rm_X0_gather s m args below meth c H locs 0 0 (MQ below (va_Qv Q (xr_B D (cs_ty cI cJ cR) (cs_w ad cI cR Ln) A) A) args s 0 0 A) (F0 m 3 ls [])) (k13 : ∀ (S : cs_T) (v1 : Nat) (v2 : Nat) (v3 : Nat) (v4 : Int32) (v5 : Int32) (v6 : Int32) (v7 : Int32) {H : Heap} {locs : List Loc} {ls : Array Slot}, va_P D vwCl (cs_w ad cI cR Ln S) H → va_D A (cs_w ad cI cR Ln S) → va_S A s.heap H locs → lv_has ls 13 [(0, .ref (ad 2)), (1, .ref (ad (9 + v1))), (2, .ref (ad (9 + v2))), (3, .ref (ad (9 + v3))), (4, .int v4), (5, .int v5), (6, .int v6), (7, .int v7)] → K13 S v1 v2 v3 v4 v5 v6 v7 → W p l e rm_X0_gather s m args below meth c H locs 0 0 (MQ below (va_Qv Q (xr_B D (cs_ty cI cJ cR) (cs_w ad cI cR Ln) A) A) args s 0 0 A) (F0 m 13 ls [])) (k51 : ∀ (S : cs_T) (v1 : Nat) (v2 : Nat) (v3 : Nat) (v4 : Int32) (v5 : Int32) (v6 : Int32) (v7 : Int32) (v8 : Int64) (v10 : Int32) {H : Heap} {locs : List Loc} {ls : Array Slot}, va_P D vwCl (cs_w ad cI cR Ln S) H → va_D A (cs_w ad cI cR Ln S) → va_S A s.heap H locs → lv_has ls 13 [(0, .ref (ad 2)), (1, .ref (ad (9 + v1))), (2, .ref (ad (9 + v2))), (3, .ref (ad (9 + v3))), (4, .int v4), (5, .int v5), (6, .int v6), (7, .int v7), (8, .long v8), (10, .int v10)] → K51 S v1 v2 v3 v4 v5 v6 v7 v8 v10 → W p l e rm_X0_gather s m args below meth c H locs 0 0 (MQ below (va_Qv Q (xr_B D (cs_ty cI cJ cR) (cs_w ad cI cR Ln) A) A) args s 0 0 A) (F0 m 51 ls [])) : ∀ (n : Nat) (S : cs_T) (v1 : Nat) (v2 : Nat) (v3 : Nat) (v4 : Int32) (v5 : Int32) (v6 : Int32) (v7 : Int32) (v8 : Int64) (v10 : Int32) (v11 : Int32) (v12 : Int32) {H : Heap} {locs : List Loc} {ls : Array Slot}, va_P D vwCl (cs_w ad cI cR Ln S) H → va_D A (cs_w ad cI cR Ln S) → va_S A s.heap H locs → lv_has ls 13 [(0, .ref (ad 2)), (1, .ref (ad (9 + v1))), (2, .ref (ad (9 + v2))), (3, .ref (ad (9 + v3))), (4, .int v4), (5, .int v5), (6, .int v6), (7, .int v7), (8, .long v8), (10, .int v10), (11, .int v11), (12, .int v12)] → wp_X0_gather_92 Ln K3 K13 K51 Q n S v1 v2 v3 v4 v5 v6 v7 v8 v10 v11 v12 → W p l e rm_X0_gather s m args below meth c H locs 0 0 (MQ below (va_Qv Q (xr_B D (cs_ty cI cJ cR) (cs_w ad cI cR Ln) A) A) args s 0 0 A) (F0 m 92 ls []) := by
  intro n
  induction n with
  | zero => intro S v1 v2 v3 v4 v5 v6 v7 v8 v10 v11 v12 H locs ls hP hD hS hl h; exact False.elim h
  | succ n ih => intro S v1 v2 v3 v4 v5 v6 v7 v8 v10 v11 v12 H locs ls hP hD hS hl h; exact kb_X0_gather_92 fx hK hA k3 k13 k51 ih hP hD hS hl h
set_option maxHeartbeats 4000000 in
set_option maxRecDepth 100000 in
theorem kw_X0_gather_160 {p : Program} {l : Launch} {e : Env} {s : State} {m : MethodId} {args : Array Value} {below : List Frame} {meth : Method} {c : Code} {D : va_G} {ad : Nat → Nat} {cI cJ cR : ClassId} {Ln : Nat → Nat} {A : Nat → Prop} {K3 : cs_T → Nat → Nat → Nat → Int32 → Int32 → Int32 → Prop} {K13 : cs_T → Nat → Nat → Nat → Int32 → Int32 → Int32 → Int32 → Prop} {Q : cs_T → Prop} {S : cs_T} {v1 : Nat} {v2 : Nat} {v3 : Nat} {v4 : Int32} {v5 : Int32} {v6 : Int32} {v7 : Int32} (fx : xr_Fx p m c meth cX0_gather 13 s args wsX0_gather RX0 none) (hK : xr_K D (cs_ty cI cJ cR) s) (hA : ∀ q, s.heap.size ≤ q → A q)  (k3 : ∀ (S : cs_T) (v1 : Nat) (v2 : Nat) (v3 : Nat) (v4 : Int32) (v5 : Int32) (v6 : Int32) {H : Heap} {locs : List Loc} {ls : Array Slot}, va_P D vwCl (cs_w ad cI cR Ln S) H → va_D A (cs_w ad cI cR Ln S) → va_S A s.heap H locs → lv_has ls 13 [(0, .ref (ad 2)), (1, .ref (ad (9 + v1))), (2, .ref (ad (9 + v2))), (3, .ref (ad (9 + v3))), (4, .int v4), (5, .int v5), (6, .int v6)] → K3 S v1 v2 v3 v4 v5 v6 → W p l e rm_X0_gather s m args below meth c H locs 0 0 (MQ below (va_Qv Q (xr_B D (cs_ty cI cJ cR) (cs_w ad cI cR Ln) A) A) args s 0 0 A) (F0 m 3 ls [])) (k13 : ∀ (S : cs_T) (v1 : Nat) (v2 : Nat) (v3 : Nat) (v4 : Int32) (v5 : Int32) (v6 : Int32) (v7 : Int32) {H : Heap} {locs : List Loc} {ls : Array Slot}, va_P D vwCl (cs_w ad cI cR Ln S) H → va_D A (cs_w ad cI cR Ln S) → va_S A s.heap H locs → lv_has ls 13 [(0, .ref (ad 2)), (1, .ref (ad (9 + v1))), (2, .ref (ad (9 + v2))), (3, .ref (ad (9 + v3))), (4, .int v4), (5, .int v5), (6, .int v6), (7, .int v7)] → K13 S v1 v2 v3 v4 v5 v6 v7 → W p l e rm_X0_gather s m args below meth c H locs 0 0 (MQ below (va_Qv Q (xr_B D (cs_ty cI cJ cR) (cs_w ad cI cR Ln) A) A) args s 0 0 A) (F0 m 13 ls [])) {H : Heap} {locs : List Loc} {ls : Array Slot} (hP : va_P D vwCl (cs_w ad cI cR Ln S) H) (hD : va_D A (cs_w ad cI cR Ln S)) (hS : va_S A s.heap H locs) (hl : lv_has ls 13 [(0, .ref (ad 2)), (1, .ref (ad (9 + v1))), (2, .ref (ad (9 + v2))), (3, .ref (ad (9 + v3))), (4, .int v4), (5, .int v5), (6, .int v6), (7, .int v7)]) (h : wp_X0_gather_160 Ln K3 K13 Q S v1 v2 v3 v4 v5 v6 v7) : W p l e rm_X0_gather s m args below meth c H locs 0 0 (MQ below (va_Qv Q (xr_B D (cs_ty cI cJ cR) (cs_w ad cI cR Ln) A) A) args s 0 0 A) (F0 m 160 ls []) := by
  obtain ⟨⟨hx, hb, hml, hown, hts⟩, hrt, hlk⟩ := id fx
  have hf : 0 ≤ rm_X0_gather.cells ∧ 0 ≤ rm_X0_gather.slots := ⟨Nat.zero_le _, Nat.zero_le _⟩
  unfold wp_X0_gather_160 at h
  obtain ⟨v7_12, ev7_12⟩ : ∃ z : Int32, z = v7 + 1 := ⟨_, rfl⟩
  have h := h v7_12 ev7_12
  refine lv_iinc (v := v7_12) (lv' := [(7, .int v7_12), (0, .ref (ad 2)), (1, .ref (ad (9 + v1))), (2, .ref (ad (9 + v2))), (3, .ref (ad (9 + v3))), (4, .int v4), (5, .int v5), (6, .int v6)]) hx hb dX0_gather_160 hl (k := 7) rfl (by rw [ev7_12]; rfl) (by decide) rfl (fun ls hl => ?_)
  refine lv_goto (tgt := 13) hx hb dX0_gather_163 (by decide) ?_
  exact k13 _ _ _ _ _ _ _ _ hP hD hS (lv_sub hl [1, 2, 3, 4, 5, 6, 7, 0] rfl) h
set_option maxHeartbeats 4000000 in
set_option maxRecDepth 100000 in
theorem kb_X0_gather_51 {p : Program} {l : Launch} {e : Env} {s : State} {m : MethodId} {args : Array Value} {below : List Frame} {meth : Method} {c : Code} {D : va_G} {ad : Nat → Nat} {cI cJ cR : ClassId} {Ln : Nat → Nat} {A : Nat → Prop} {K3 : cs_T → Nat → Nat → Nat → Int32 → Int32 → Int32 → Prop} {K13 : cs_T → Nat → Nat → Nat → Int32 → Int32 → Int32 → Int32 → Prop} {K51 : cs_T → Nat → Nat → Nat → Int32 → Int32 → Int32 → Int32 → Int64 → Int32 → Prop} {Q : cs_T → Prop} {S : cs_T} {v1 : Nat} {v2 : Nat} {v3 : Nat} {v4 : Int32} {v5 : Int32} {v6 : Int32} {v7 : Int32} {v8 : Int64} {v10 : Int32} (fx : xr_Fx p m c meth cX0_gather 13 s args wsX0_gather RX0 none) (hK : xr_K D (cs_ty cI cJ cR) s) (hA : ∀ q, s.heap.size ≤ q → A q)  (k3 : ∀ (S : cs_T) (v1 : Nat) (v2 : Nat) (v3 : Nat) (v4 : Int32) (v5 : Int32) (v6 : Int32) {H : Heap} {locs : List Loc} {ls : Array Slot}, va_P D vwCl (cs_w ad cI cR Ln S) H → va_D A (cs_w ad cI cR Ln S) → va_S A s.heap H locs → lv_has ls 13 [(0, .ref (ad 2)), (1, .ref (ad (9 + v1))), (2, .ref (ad (9 + v2))), (3, .ref (ad (9 + v3))), (4, .int v4), (5, .int v5), (6, .int v6)] → K3 S v1 v2 v3 v4 v5 v6 → W p l e rm_X0_gather s m args below meth c H locs 0 0 (MQ below (va_Qv Q (xr_B D (cs_ty cI cJ cR) (cs_w ad cI cR Ln) A) A) args s 0 0 A) (F0 m 3 ls [])) (k13 : ∀ (S : cs_T) (v1 : Nat) (v2 : Nat) (v3 : Nat) (v4 : Int32) (v5 : Int32) (v6 : Int32) (v7 : Int32) {H : Heap} {locs : List Loc} {ls : Array Slot}, va_P D vwCl (cs_w ad cI cR Ln S) H → va_D A (cs_w ad cI cR Ln S) → va_S A s.heap H locs → lv_has ls 13 [(0, .ref (ad 2)), (1, .ref (ad (9 + v1))), (2, .ref (ad (9 + v2))), (3, .ref (ad (9 + v3))), (4, .int v4), (5, .int v5), (6, .int v6), (7, .int v7)] → K13 S v1 v2 v3 v4 v5 v6 v7 → W p l e rm_X0_gather s m args below meth c H locs 0 0 (MQ below (va_Qv Q (xr_B D (cs_ty cI cJ cR) (cs_w ad cI cR Ln) A) A) args s 0 0 A) (F0 m 13 ls [])) (k51 : ∀ (S : cs_T) (v1 : Nat) (v2 : Nat) (v3 : Nat) (v4 : Int32) (v5 : Int32) (v6 : Int32) (v7 : Int32) (v8 : Int64) (v10 : Int32) {H : Heap} {locs : List Loc} {ls : Array Slot}, va_P D vwCl (cs_w ad cI cR Ln S) H → va_D A (cs_w ad cI cR Ln S) → va_S A s.heap H locs → lv_has ls 13 [(0, .ref (ad 2)), (1, .ref (ad (9 + v1))), (2, .ref (ad (9 + v2))), (3, .ref (ad (9 + v3))), (4, .int v4), (5, .int v5), (6, .int v6), (7, .int v7), (8, .long v8), (10, .int v10)] → K51 S v1 v2 v3 v4 v5 v6 v7 v8 v10 → W p l e rm_X0_gather s m args below meth c H locs 0 0 (MQ below (va_Qv Q (xr_B D (cs_ty cI cJ cR) (cs_w ad cI cR Ln) A) A) args s 0 0 A) (F0 m 51 ls [])) {H : Heap} {locs : List Loc} {ls : Array Slot} (hP : va_P D vwCl (cs_w ad cI cR Ln S) H) (hD : va_D A (cs_w ad cI cR Ln S)) (hS : va_S A s.heap H locs) (hl : lv_has ls 13 [(0, .ref (ad 2)), (1, .ref (ad (9 + v1))), (2, .ref (ad (9 + v2))), (3, .ref (ad (9 + v3))), (4, .int v4), (5, .int v5), (6, .int v6), (7, .int v7), (8, .long v8), (10, .int v10)]) (h : wb_X0_gather_51 Ln K3 K13 K51 Q S v1 v2 v3 v4 v5 v6 v7 v8 v10) : W p l e rm_X0_gather s m args below meth c H locs 0 0 (MQ below (va_Qv Q (xr_B D (cs_ty cI cJ cR) (cs_w ad cI cR Ln) A) A) args s 0 0 A) (F0 m 51 ls []) := by
  obtain ⟨⟨hx, hb, hml, hown, hts⟩, hrt, hlk⟩ := id fx
  have hf : 0 ≤ rm_X0_gather.cells ∧ 0 ≤ rm_X0_gather.slots := ⟨Nat.zero_le _, Nat.zero_le _⟩
  unfold wb_X0_gather_51 at h
  refine lv_iload hx hb dX0_gather_51 (lv_at hl 9 rfl) ?_
  refine lv_iload hx hb dX0_gather_53 (lv_at hl 5 rfl) ?_
  refine lv_iload hx hb dX0_gather_55 (lv_at hl 6 rfl) ?_
  refine lv_isub hx hb dX0_gather_57 ?_
  refine lv_icmp_gt (tgt := 160) hx hb dX0_gather_58 (by decide) (fun c58 => ?_) (fun c58 => ?_)
  · have h := h.1 c58
    exact kw_X0_gather_160 fx hK hA k3 k13 hP hD hS (lv_sub hl [0, 1, 2, 3, 4, 5, 6, 7] rfl) h
  · have h := h.2 c58
    refine lv_lload hx hb dX0_gather_61 (lv_at hl 8 rfl) ?_
    refine lv_lconst (v := 0) hx hb dX0_gather_63 (by decide) ?_
    refine W.lcmp hx hb dX0_gather_64 ?_
    refine lv_if_eq (tgt := 160) hx hb dX0_gather_65 (by decide) (fun c65 => ?_) (fun c65 => ?_)
    · have h := h.1 ((lg_cmp_eq _ _).mp c65)
      exact kw_X0_gather_160 fx hK hA k3 k13 hP hD hS (lv_sub hl [0, 1, 2, 3, 4, 5, 6, 7] rfl) h
    · have h := h.2 (fun z => c65 ((lg_cmp_eq _ _).mpr z))
      refine lv_aload_n hx hb dX0_gather_68 rfl (lv_at hl 0 rfl) ?_
      refine cs_get 2 0 5 (v := .ref (ad (9 + 1))) (ref := "BracketLetters$Algebra") fx (by decide) rfl rfl in_X0_gather_X0 (by decide) rfl (by decide +kernel) rfl hK hP dX0_gather_69 ?_
      refine lv_iload hx hb dX0_gather_72 (lv_at hl 9 rfl) ?_
      refine lv_iload hx hb dX0_gather_74 (lv_at hl 6 rfl) ?_
      refine lv_iadd hx hb dX0_gather_76 ?_
      obtain ⟨hi13, h⟩ := h
      refine cs_iald 1 (by decide) fx hK hP hi13 dX0_gather_77 ?_
      refine lv_iload hx hb dX0_gather_78 (lv_at hl 7 rfl) ?_
      refine lv_iadd hx hb dX0_gather_80 ?_
      refine lv_topi (fun v11_14 ev11_14 => ?_)
      have h := h v11_14 ev11_14
      refine lv_istore (lv' := [(11, .int v11_14), (0, .ref (ad 2)), (1, .ref (ad (9 + v1))), (2, .ref (ad (9 + v2))), (3, .ref (ad (9 + v3))), (4, .int v4), (5, .int v5), (6, .int v6), (7, .int v7), (8, .long v8), (10, .int v10)]) hx hb dX0_gather_81 hl (by decide) rfl (fun ls hl => ?_)
      refine lv_aload_n hx hb dX0_gather_83 rfl (lv_at hl 1 rfl) ?_
      refine cs_get 2 0 5 (v := .ref (ad (9 + 1))) (ref := "BracketLetters$Algebra") fx (by decide) rfl rfl in_X0_gather_X0 (by decide) rfl (by decide +kernel) rfl hK hP dX0_gather_84 ?_
      refine lv_iload hx hb dX0_gather_87 (lv_at hl 10 rfl) ?_
      obtain ⟨hi15, h⟩ := h
      refine cs_iald 1 (by decide) fx hK hP hi15 dX0_gather_89 ?_
      refine lv_topi (fun v12_16 ev12_16 => ?_)
      have h := h v12_16 ev12_16
      refine lv_istore (lv' := [(12, .int v12_16), (11, .int v11_14), (0, .ref (ad 2)), (1, .ref (ad (9 + v1))), (2, .ref (ad (9 + v2))), (3, .ref (ad (9 + v3))), (4, .int v4), (5, .int v5), (6, .int v6), (7, .int v7), (8, .long v8), (10, .int v10)]) hx hb dX0_gather_90 hl (by decide) rfl (fun ls hl => ?_)
      obtain ⟨n, h⟩ := h
      exact kw_X0_gather_92 fx hK hA k3 k13 k51 n _ _ _ _ _ _ _ _ _ _ _ _ hP hD hS (lv_sub hl [2, 3, 4, 5, 6, 7, 8, 9, 10, 11, 1, 0] rfl) h
theorem kw_X0_gather_51 {p : Program} {l : Launch} {e : Env} {s : State} {m : MethodId} {args : Array Value} {below : List Frame} {meth : Method} {c : Code} {D : va_G} {ad : Nat → Nat} {cI cJ cR : ClassId} {Ln : Nat → Nat} {A : Nat → Prop} {K3 : cs_T → Nat → Nat → Nat → Int32 → Int32 → Int32 → Prop} {K13 : cs_T → Nat → Nat → Nat → Int32 → Int32 → Int32 → Int32 → Prop} {Q : cs_T → Prop} (fx : xr_Fx p m c meth cX0_gather 13 s args wsX0_gather RX0 none) (hK : xr_K D (cs_ty cI cJ cR) s) (hA : ∀ q, s.heap.size ≤ q → A q)  (k3 : ∀ (S : cs_T) (v1 : Nat) (v2 : Nat) (v3 : Nat) (v4 : Int32) (v5 : Int32) (v6 : Int32) {H : Heap} {locs : List Loc} {ls : Array Slot}, va_P D vwCl (cs_w ad cI cR Ln S) H → va_D A (cs_w ad cI cR Ln S) → va_S A s.heap H locs → lv_has ls 13 [(0, .ref (ad 2)), (1, .ref (ad (9 + v1))), (2, .ref (ad (9 + v2))), (3, .ref (ad (9 + v3))), (4, .int v4), (5, .int v5), (6, .int v6)] → K3 S v1 v2 v3 v4 v5 v6 → W p l e rm_X0_gather s m args below meth c H locs 0 0 (MQ below (va_Qv Q (xr_B D (cs_ty cI cJ cR) (cs_w ad cI cR Ln) A) A) args s 0 0 A) (F0 m 3 ls [])) (k13 : ∀ (S : cs_T) (v1 : Nat) (v2 : Nat) (v3 : Nat) (v4 : Int32) (v5 : Int32) (v6 : Int32) (v7 : Int32) {H : Heap} {locs : List Loc} {ls : Array Slot}, va_P D vwCl (cs_w ad cI cR Ln S) H → va_D A (cs_w ad cI cR Ln S) → va_S A s.heap H locs → lv_has ls 13 [(0, .ref (ad 2)), (1, .ref (ad (9 + v1))), (2, .ref (ad (9 + v2))), (3, .ref (ad (9 + v3))), (4, .int v4), (5, .int v5), (6, .int v6), (7, .int v7)] → K13 S v1 v2 v3 v4 v5 v6 v7 → W p l e rm_X0_gather s m args below meth c H locs 0 0 (MQ below (va_Qv Q (xr_B D (cs_ty cI cJ cR) (cs_w ad cI cR Ln) A) A) args s 0 0 A) (F0 m 13 ls [])) : ∀ (n : Nat) (S : cs_T) (v1 : Nat) (v2 : Nat) (v3 : Nat) (v4 : Int32) (v5 : Int32) (v6 : Int32) (v7 : Int32) (v8 : Int64) (v10 : Int32) {H : Heap} {locs : List Loc} {ls : Array Slot}, va_P D vwCl (cs_w ad cI cR Ln S) H → va_D A (cs_w ad cI cR Ln S) → va_S A s.heap H locs → lv_has ls 13 [(0, .ref (ad 2)), (1, .ref (ad (9 + v1))), (2, .ref (ad (9 + v2))), (3, .ref (ad (9 + v3))), (4, .int v4), (5, .int v5), (6, .int v6), (7, .int v7), (8, .long v8), (10, .int v10)] → wp_X0_gather_51 Ln K3 K13 Q n S v1 v2 v3 v4 v5 v6 v7 v8 v10 → W p l e rm_X0_gather s m args below meth c H locs 0 0 (MQ below (va_Qv Q (xr_B D (cs_ty cI cJ cR) (cs_w ad cI cR Ln) A) A) args s 0 0 A) (F0 m 51 ls []) := by
  intro n
  induction n with
  | zero => intro S v1 v2 v3 v4 v5 v6 v7 v8 v10 H locs ls hP hD hS hl h; exact False.elim h
  | succ n ih => intro S v1 v2 v3 v4 v5 v6 v7 v8 v10 H locs ls hP hD hS hl h; exact kb_X0_gather_51 fx hK hA k3 k13 ih hP hD hS hl h
set_option maxHeartbeats 4000000 in
set_option maxRecDepth 100000 in
theorem kb_X0_gather_13 {p : Program} {l : Launch} {e : Env} {s : State} {m : MethodId} {args : Array Value} {below : List Frame} {meth : Method} {c : Code} {D : va_G} {ad : Nat → Nat} {cI cJ cR : ClassId} {Ln : Nat → Nat} {A : Nat → Prop} {K3 : cs_T → Nat → Nat → Nat → Int32 → Int32 → Int32 → Prop} {K13 : cs_T → Nat → Nat → Nat → Int32 → Int32 → Int32 → Int32 → Prop} {Q : cs_T → Prop} {S : cs_T} {v1 : Nat} {v2 : Nat} {v3 : Nat} {v4 : Int32} {v5 : Int32} {v6 : Int32} {v7 : Int32} (fx : xr_Fx p m c meth cX0_gather 13 s args wsX0_gather RX0 none) (hK : xr_K D (cs_ty cI cJ cR) s) (hA : ∀ q, s.heap.size ≤ q → A q)  (k3 : ∀ (S : cs_T) (v1 : Nat) (v2 : Nat) (v3 : Nat) (v4 : Int32) (v5 : Int32) (v6 : Int32) {H : Heap} {locs : List Loc} {ls : Array Slot}, va_P D vwCl (cs_w ad cI cR Ln S) H → va_D A (cs_w ad cI cR Ln S) → va_S A s.heap H locs → lv_has ls 13 [(0, .ref (ad 2)), (1, .ref (ad (9 + v1))), (2, .ref (ad (9 + v2))), (3, .ref (ad (9 + v3))), (4, .int v4), (5, .int v5), (6, .int v6)] → K3 S v1 v2 v3 v4 v5 v6 → W p l e rm_X0_gather s m args below meth c H locs 0 0 (MQ below (va_Qv Q (xr_B D (cs_ty cI cJ cR) (cs_w ad cI cR Ln) A) A) args s 0 0 A) (F0 m 3 ls [])) (k13 : ∀ (S : cs_T) (v1 : Nat) (v2 : Nat) (v3 : Nat) (v4 : Int32) (v5 : Int32) (v6 : Int32) (v7 : Int32) {H : Heap} {locs : List Loc} {ls : Array Slot}, va_P D vwCl (cs_w ad cI cR Ln S) H → va_D A (cs_w ad cI cR Ln S) → va_S A s.heap H locs → lv_has ls 13 [(0, .ref (ad 2)), (1, .ref (ad (9 + v1))), (2, .ref (ad (9 + v2))), (3, .ref (ad (9 + v3))), (4, .int v4), (5, .int v5), (6, .int v6), (7, .int v7)] → K13 S v1 v2 v3 v4 v5 v6 v7 → W p l e rm_X0_gather s m args below meth c H locs 0 0 (MQ below (va_Qv Q (xr_B D (cs_ty cI cJ cR) (cs_w ad cI cR Ln) A) A) args s 0 0 A) (F0 m 13 ls [])) {H : Heap} {locs : List Loc} {ls : Array Slot} (hP : va_P D vwCl (cs_w ad cI cR Ln S) H) (hD : va_D A (cs_w ad cI cR Ln S)) (hS : va_S A s.heap H locs) (hl : lv_has ls 13 [(0, .ref (ad 2)), (1, .ref (ad (9 + v1))), (2, .ref (ad (9 + v2))), (3, .ref (ad (9 + v3))), (4, .int v4), (5, .int v5), (6, .int v6), (7, .int v7)]) (h : wb_X0_gather_13 Ln K3 K13 Q S v1 v2 v3 v4 v5 v6 v7) : W p l e rm_X0_gather s m args below meth c H locs 0 0 (MQ below (va_Qv Q (xr_B D (cs_ty cI cJ cR) (cs_w ad cI cR Ln) A) A) args s 0 0 A) (F0 m 13 ls []) := by
  obtain ⟨⟨hx, hb, hml, hown, hts⟩, hrt, hlk⟩ := id fx
  have hf : 0 ≤ rm_X0_gather.cells ∧ 0 ≤ rm_X0_gather.slots := ⟨Nat.zero_le _, Nat.zero_le _⟩
  unfold wb_X0_gather_13 at h
  refine lv_iload hx hb dX0_gather_13 (lv_at hl 7 rfl) ?_
  refine lv_aload_n hx hb dX0_gather_15 rfl (lv_at hl 0 rfl) ?_
  refine cs_get 2 0 4 (v := .ref (ad (9 + 0))) (ref := "BracketLetters$Algebra") fx (by decide) rfl rfl in_X0_gather_X0 (by decide) rfl (by decide +kernel) rfl hK hP dX0_gather_16 ?_
  refine lv_iload hx hb dX0_gather_19 (lv_at hl 6 rfl) ?_
  obtain ⟨hi17, h⟩ := h
  refine cs_iald 0 (by decide) fx hK hP hi17 dX0_gather_21 ?_
  refine lv_icmp_ge (tgt := 166) hx hb dX0_gather_22 (by decide) (fun c22 => ?_) (fun c22 => ?_)
  · have h := h.1 c22
    obtain ⟨v6_18, ev6_18⟩ : ∃ z : Int32, z = v6 + 1 := ⟨_, rfl⟩
    have h := h v6_18 ev6_18
    refine lv_iinc (v := v6_18) (lv' := [(6, .int v6_18), (0, .ref (ad 2)), (1, .ref (ad (9 + v1))), (2, .ref (ad (9 + v2))), (3, .ref (ad (9 + v3))), (4, .int v4), (5, .int v5), (7, .int v7)]) hx hb dX0_gather_166 hl (k := 6) rfl (by rw [ev6_18]; rfl) (by decide) rfl (fun ls hl => ?_)
    refine lv_goto (tgt := 3) hx hb dX0_gather_169 (by decide) ?_
    exact k3 _ _ _ _ _ _ _ hP hD hS (lv_sub hl [1, 2, 3, 4, 5, 6, 0] rfl) h
  · have h := h.2 c22
    refine lv_aload_n hx hb dX0_gather_25 rfl (lv_at hl 3 rfl) ?_
    refine lv_aload_n hx hb dX0_gather_26 rfl (lv_at hl 0 rfl) ?_
    refine cs_get 2 0 5 (v := .ref (ad (9 + 1))) (ref := "BracketLetters$Algebra") fx (by decide) rfl rfl in_X0_gather_X0 (by decide) rfl (by decide +kernel) rfl hK hP dX0_gather_27 ?_
    refine lv_iload hx hb dX0_gather_30 (lv_at hl 6 rfl) ?_
    obtain ⟨hi19, h⟩ := h
    refine cs_iald 1 (by decide) fx hK hP hi19 dX0_gather_32 ?_
    refine lv_iload hx hb dX0_gather_33 (lv_at hl 7 rfl) ?_
    refine lv_iadd hx hb dX0_gather_35 ?_
    obtain ⟨hk21, h⟩ := h
    obtain ⟨hi20, h⟩ := h
    refine cs_iald v3 hk21 fx hK hP hi20 dX0_gather_36 ?_
    refine lv_i2l hx hb dX0_gather_37 rfl ?_
    refine lv_iload hx hb dX0_gather_38 (lv_at hl 4 rfl) ?_
    refine lv_i2l hx hb dX0_gather_40 rfl ?_
    refine lv_lmul hx hb dX0_gather_41 ?_
    refine lv_ldc2 (v := 2147483647) hx hb hown (hts (.constantLong RX0 98 (2147483647)) (by decide +kernel)) dX0_gather_42 ?_
    refine lv_lrem hx hb dX0_gather_45 (by decide) ?_
    refine lv_topl (fun v8_22 ev8_22 => ?_)
    have h := h v8_22 ev8_22
    refine lv_lstore (lv' := [(8, .long v8_22), (0, .ref (ad 2)), (1, .ref (ad (9 + v1))), (2, .ref (ad (9 + v2))), (3, .ref (ad (9 + v3))), (4, .int v4), (5, .int v5), (6, .int v6), (7, .int v7)]) hx hb dX0_gather_46 hl (by decide) rfl (fun ls hl => ?_)
    refine lv_iconst (v := 0) hx hb dX0_gather_48 (by decide) ?_
    refine lv_istore (lv' := [(10, .int 0), (8, .long v8_22), (0, .ref (ad 2)), (1, .ref (ad (9 + v1))), (2, .ref (ad (9 + v2))), (3, .ref (ad (9 + v3))), (4, .int v4), (5, .int v5), (6, .int v6), (7, .int v7)]) hx hb dX0_gather_49 hl (by decide) rfl (fun ls hl => ?_)
    obtain ⟨n, h⟩ := h
    exact kw_X0_gather_51 fx hK hA k3 k13 n _ _ _ _ _ _ _ _ _ _ hP hD hS (lv_sub hl [2, 3, 4, 5, 6, 7, 8, 9, 1, 0] rfl) h
theorem kw_X0_gather_13 {p : Program} {l : Launch} {e : Env} {s : State} {m : MethodId} {args : Array Value} {below : List Frame} {meth : Method} {c : Code} {D : va_G} {ad : Nat → Nat} {cI cJ cR : ClassId} {Ln : Nat → Nat} {A : Nat → Prop} {K3 : cs_T → Nat → Nat → Nat → Int32 → Int32 → Int32 → Prop} {Q : cs_T → Prop} (fx : xr_Fx p m c meth cX0_gather 13 s args wsX0_gather RX0 none) (hK : xr_K D (cs_ty cI cJ cR) s) (hA : ∀ q, s.heap.size ≤ q → A q)  (k3 : ∀ (S : cs_T) (v1 : Nat) (v2 : Nat) (v3 : Nat) (v4 : Int32) (v5 : Int32) (v6 : Int32) {H : Heap} {locs : List Loc} {ls : Array Slot}, va_P D vwCl (cs_w ad cI cR Ln S) H → va_D A (cs_w ad cI cR Ln S) → va_S A s.heap H locs → lv_has ls 13 [(0, .ref (ad 2)), (1, .ref (ad (9 + v1))), (2, .ref (ad (9 + v2))), (3, .ref (ad (9 + v3))), (4, .int v4), (5, .int v5), (6, .int v6)] → K3 S v1 v2 v3 v4 v5 v6 → W p l e rm_X0_gather s m args below meth c H locs 0 0 (MQ below (va_Qv Q (xr_B D (cs_ty cI cJ cR) (cs_w ad cI cR Ln) A) A) args s 0 0 A) (F0 m 3 ls [])) : ∀ (n : Nat) (S : cs_T) (v1 : Nat) (v2 : Nat) (v3 : Nat) (v4 : Int32) (v5 : Int32) (v6 : Int32) (v7 : Int32) {H : Heap} {locs : List Loc} {ls : Array Slot}, va_P D vwCl (cs_w ad cI cR Ln S) H → va_D A (cs_w ad cI cR Ln S) → va_S A s.heap H locs → lv_has ls 13 [(0, .ref (ad 2)), (1, .ref (ad (9 + v1))), (2, .ref (ad (9 + v2))), (3, .ref (ad (9 + v3))), (4, .int v4), (5, .int v5), (6, .int v6), (7, .int v7)] → wp_X0_gather_13 Ln K3 Q n S v1 v2 v3 v4 v5 v6 v7 → W p l e rm_X0_gather s m args below meth c H locs 0 0 (MQ below (va_Qv Q (xr_B D (cs_ty cI cJ cR) (cs_w ad cI cR Ln) A) A) args s 0 0 A) (F0 m 13 ls []) := by
  intro n
  induction n with
  | zero => intro S v1 v2 v3 v4 v5 v6 v7 H locs ls hP hD hS hl h; exact False.elim h
  | succ n ih => intro S v1 v2 v3 v4 v5 v6 v7 H locs ls hP hD hS hl h; exact kb_X0_gather_13 fx hK hA k3 ih hP hD hS hl h
set_option maxHeartbeats 4000000 in
set_option maxRecDepth 100000 in
theorem kb_X0_gather_3 {p : Program} {l : Launch} {e : Env} {s : State} {m : MethodId} {args : Array Value} {below : List Frame} {meth : Method} {c : Code} {D : va_G} {ad : Nat → Nat} {cI cJ cR : ClassId} {Ln : Nat → Nat} {A : Nat → Prop}  {K3 : cs_T → Nat → Nat → Nat → Int32 → Int32 → Int32 → Prop} {Q : cs_T → Prop} {S : cs_T} {v1 : Nat} {v2 : Nat} {v3 : Nat} {v4 : Int32} {v5 : Int32} {v6 : Int32} (fx : xr_Fx p m c meth cX0_gather 13 s args wsX0_gather RX0 none) (hK : xr_K D (cs_ty cI cJ cR) s) (hA : ∀ q, s.heap.size ≤ q → A q)   (k3 : ∀ (S : cs_T) (v1 : Nat) (v2 : Nat) (v3 : Nat) (v4 : Int32) (v5 : Int32) (v6 : Int32) {H : Heap} {locs : List Loc} {ls : Array Slot}, va_P D vwCl (cs_w ad cI cR Ln S) H → va_D A (cs_w ad cI cR Ln S) → va_S A s.heap H locs → lv_has ls 13 [(0, .ref (ad 2)), (1, .ref (ad (9 + v1))), (2, .ref (ad (9 + v2))), (3, .ref (ad (9 + v3))), (4, .int v4), (5, .int v5), (6, .int v6)] → K3 S v1 v2 v3 v4 v5 v6 → W p l e rm_X0_gather s m args below meth c H locs 0 0 (MQ below (va_Qv Q (xr_B D (cs_ty cI cJ cR) (cs_w ad cI cR Ln) A) A) args s 0 0 A) (F0 m 3 ls [])) {H : Heap} {locs : List Loc} {ls : Array Slot} (hP : va_P D vwCl (cs_w ad cI cR Ln S) H) (hD : va_D A (cs_w ad cI cR Ln S)) (hS : va_S A s.heap H locs) (hl : lv_has ls 13 [(0, .ref (ad 2)), (1, .ref (ad (9 + v1))), (2, .ref (ad (9 + v2))), (3, .ref (ad (9 + v3))), (4, .int v4), (5, .int v5), (6, .int v6)]) (h : wb_X0_gather_3 Ln K3 Q S v1 v2 v3 v4 v5 v6) : W p l e rm_X0_gather s m args below meth c H locs 0 0 (MQ below (va_Qv Q (xr_B D (cs_ty cI cJ cR) (cs_w ad cI cR Ln) A) A) args s 0 0 A) (F0 m 3 ls []) := by
  obtain ⟨⟨hx, hb, hml, hown, hts⟩, hrt, hlk⟩ := id fx
  have hf : 0 ≤ rm_X0_gather.cells ∧ 0 ≤ rm_X0_gather.slots := ⟨Nat.zero_le _, Nat.zero_le _⟩
  unfold wb_X0_gather_3 at h
  refine lv_iload hx hb dX0_gather_3 (lv_at hl 6 rfl) ?_
  refine lv_iload hx hb dX0_gather_5 (lv_at hl 5 rfl) ?_
  refine lv_icmp_gt (tgt := 172) hx hb dX0_gather_7 (by decide) (fun c7 => ?_) (fun c7 => ?_)
  · have h := h.1 c7
    exact xr_rV fx hK hP hD hS h dX0_gather_172
  · have h := h.2 c7
    refine lv_iconst (v := 0) hx hb dX0_gather_10 (by decide) ?_
    refine lv_istore (lv' := [(7, .int 0), (0, .ref (ad 2)), (1, .ref (ad (9 + v1))), (2, .ref (ad (9 + v2))), (3, .ref (ad (9 + v3))), (4, .int v4), (5, .int v5), (6, .int v6)]) hx hb dX0_gather_11 hl (by decide) rfl (fun ls hl => ?_)
    obtain ⟨n, h⟩ := h
    exact kw_X0_gather_13 fx hK hA k3 n _ _ _ _ _ _ _ _ hP hD hS (lv_sub hl [1, 2, 3, 4, 5, 6, 7, 0] rfl) h
theorem kw_X0_gather_3 {p : Program} {l : Launch} {e : Env} {s : State} {m : MethodId} {args : Array Value} {below : List Frame} {meth : Method} {c : Code} {D : va_G} {ad : Nat → Nat} {cI cJ cR : ClassId} {Ln : Nat → Nat} {A : Nat → Prop}  {Q : cs_T → Prop} (fx : xr_Fx p m c meth cX0_gather 13 s args wsX0_gather RX0 none) (hK : xr_K D (cs_ty cI cJ cR) s) (hA : ∀ q, s.heap.size ≤ q → A q)   : ∀ (n : Nat) (S : cs_T) (v1 : Nat) (v2 : Nat) (v3 : Nat) (v4 : Int32) (v5 : Int32) (v6 : Int32) {H : Heap} {locs : List Loc} {ls : Array Slot}, va_P D vwCl (cs_w ad cI cR Ln S) H → va_D A (cs_w ad cI cR Ln S) → va_S A s.heap H locs → lv_has ls 13 [(0, .ref (ad 2)), (1, .ref (ad (9 + v1))), (2, .ref (ad (9 + v2))), (3, .ref (ad (9 + v3))), (4, .int v4), (5, .int v5), (6, .int v6)] → wp_X0_gather_3 Ln Q n S v1 v2 v3 v4 v5 v6 → W p l e rm_X0_gather s m args below meth c H locs 0 0 (MQ below (va_Qv Q (xr_B D (cs_ty cI cJ cR) (cs_w ad cI cR Ln) A) A) args s 0 0 A) (F0 m 3 ls []) := by
  intro n
  induction n with
  | zero => intro S v1 v2 v3 v4 v5 v6 H locs ls hP hD hS hl h; exact False.elim h
  | succ n ih => intro S v1 v2 v3 v4 v5 v6 H locs ls hP hD hS hl h; exact kb_X0_gather_3 fx hK hA ih hP hD hS hl h
set_option maxHeartbeats 4000000 in
set_option maxRecDepth 100000 in
theorem ct_X0_gather (l : Launch) (D : va_G) (ad : Nat → Nat) (cI cJ cR : ClassId) (Ln : Nat → Nat) {S : cs_T} {a1 : Nat} {a2 : Nat} {a3 : Nat} {a4 : Int32} {a5 : Int32} {Q : cs_T → Prop} (h : wp_X0_gather Ln S a1 a2 a3 a4 a5 Q) : xr_V l D (cs_ty cI cJ cR) (cs_w ad cI cR Ln) yX0_gather wsX0_gather rm_X0_gather [.ref (ad 2), .ref (ad (9 + a1)), .ref (ad (9 + a2)), .ref (ad (9 + a3)), .int a4, .int a5] S Q := by
  refine xr_eV (cc := cX0_gather) (nL := 13) (ret := none) (own := RX0) (by decide) rfl rfl (Nat.le_of_ble_eq_true rfl) ?_
  intro p e s m args below meth c ls A fx hK hA hP hD hS hl
  have hl : lv_has ls 13 [(0, .ref (ad 2)), (1, .ref (ad (9 + a1))), (2, .ref (ad (9 + a2))), (3, .ref (ad (9 + a3))), (4, .int a4), (5, .int a5)] := hl
  show W p l e rm_X0_gather s m args below meth c s.heap [] 0 0 _ _
  obtain ⟨⟨hx, hb, hml, hown, hts⟩, hrt, hlk⟩ := id fx
  have hf : 0 ≤ rm_X0_gather.cells ∧ 0 ≤ rm_X0_gather.slots := ⟨Nat.zero_le _, Nat.zero_le _⟩
  unfold wp_X0_gather at h
  refine lv_iconst (v := 0) hx hb dX0_gather_0 (by decide) ?_
  refine lv_istore (lv' := [(6, .int 0), (0, .ref (ad 2)), (1, .ref (ad (9 + a1))), (2, .ref (ad (9 + a2))), (3, .ref (ad (9 + a3))), (4, .int a4), (5, .int a5)]) hx hb dX0_gather_1 hl (by decide) rfl (fun ls hl => ?_)
  obtain ⟨n, h⟩ := h
  exact kw_X0_gather_3 fx hK hA n _ _ _ _ _ _ _ hP hD hS (lv_sub hl [1, 2, 3, 4, 5, 6, 0] rfl) h
abbrev rm_X0_copy : Room := { frames := 1, cells := 0, slots := 0, locals := 48 }
set_option maxHeartbeats 4000000 in
set_option maxRecDepth 100000 in
theorem ct_X0_copy (l : Launch) (D : va_G) (ad : Nat → Nat) (cI cJ cR : ClassId) (Ln : Nat → Nat) {S : cs_T} {a1 : Nat} {a2 : Nat} {Q : cs_T → Prop} (h : wp_X0_copy Ln S a1 a2 Q) : xr_V l D (cs_ty cI cJ cR) (cs_w ad cI cR Ln) yX0_copy wsX0_copy rm_X0_copy [.ref (ad 2), .ref (ad (9 + a1)), .ref (ad (9 + a2))] S Q := by
  refine xr_eV (cc := cX0_copy) (nL := 3) (ret := none) (own := RX0) (by decide) rfl rfl (Nat.le_of_ble_eq_true rfl) ?_
  intro p e s m args below meth c ls A fx hK hA hP hD hS hl
  have hl : lv_has ls 3 [(0, .ref (ad 2)), (1, .ref (ad (9 + a1))), (2, .ref (ad (9 + a2)))] := hl
  show W p l e rm_X0_copy s m args below meth c s.heap [] 0 0 _ _
  obtain ⟨⟨hx, hb, hml, hown, hts⟩, hrt, hlk⟩ := id fx
  have hf : 0 ≤ rm_X0_copy.cells ∧ 0 ≤ rm_X0_copy.slots := ⟨Nat.zero_le _, Nat.zero_le _⟩
  unfold wp_X0_copy at h
  refine lv_aload_n hx hb dX0_copy_0 rfl (lv_at hl 2 rfl) ?_
  refine lv_iconst (v := 0) hx hb dX0_copy_1 (by decide) ?_
  refine lv_aload_n hx hb dX0_copy_2 rfl (lv_at hl 1 rfl) ?_
  refine lv_iconst (v := 0) hx hb dX0_copy_3 (by decide) ?_
  refine lv_aload_n hx hb dX0_copy_4 rfl (lv_at hl 2 rfl) ?_
  obtain ⟨hk1, h⟩ := h
  refine cs_alen a2 hk1 fx hK hP dX0_copy_5 ?_
  obtain ⟨hk2, h⟩ := h
  obtain ⟨ha3, ha4, ha5, ha6, ha7, h⟩ := h
  refine cs_copy a2 a1 hk1 hk2 fx (by decide +kernel) (by decide +kernel) (by decide +kernel) (by decide +kernel) hl.1 hK hP hD hS ha3 ha4 ha5 ha6 ha7 (Nat.le_of_ble_eq_true rfl) (Nat.le_of_ble_eq_true rfl) dX0_copy_6 (fun H locs hP hD hS => ?_)
  exact xr_rV fx hK hP hD hS h dX0_copy_9
abbrev rm_X0_multiply : Room := { frames := 2, cells := 0, slots := 0, locals := 70 }
theorem in_X0_multiply_X0 : ∀ w ∈ wsX00, w ∈ wsX0_multiply := by decide +kernel
set_option maxHeartbeats 4000000 in
set_option maxRecDepth 100000 in
theorem ct_X0_multiply (l : Launch) (D : va_G) (ad : Nat → Nat) (cI cJ cR : ClassId) (Ln : Nat → Nat) {S : cs_T} {a1 : Nat} {a2 : Nat} {a3 : Nat} {Q : cs_T → Prop} (h : wp_X0_multiply Ln S a1 a2 a3 Q) : xr_V l D (cs_ty cI cJ cR) (cs_w ad cI cR Ln) yX0_multiply wsX0_multiply rm_X0_multiply [.ref (ad 2), .ref (ad (9 + a1)), .ref (ad (9 + a2)), .ref (ad (9 + a3))] S Q := by
  refine xr_eV (cc := cX0_multiply) (nL := 4) (ret := none) (own := RX0) (by decide) rfl rfl (Nat.le_of_ble_eq_true rfl) ?_
  intro p e s m args below meth c ls A fx hK hA hP hD hS hl
  have hl : lv_has ls 4 [(0, .ref (ad 2)), (1, .ref (ad (9 + a1))), (2, .ref (ad (9 + a2))), (3, .ref (ad (9 + a3)))] := hl
  show W p l e rm_X0_multiply s m args below meth c s.heap [] 0 0 _ _
  obtain ⟨⟨hx, hb, hml, hown, hts⟩, hrt, hlk⟩ := id fx
  have hf : 0 ≤ rm_X0_multiply.cells ∧ 0 ≤ rm_X0_multiply.slots := ⟨Nat.zero_le _, Nat.zero_le _⟩
  unfold wp_X0_multiply at h
  refine lv_aload_n hx hb dX0_multiply_0 rfl (lv_at hl 0 rfl) ?_
  refine cs_get 2 0 7 (v := .ref (ad (9 + 3))) (ref := "BracketLetters$Algebra") fx (by decide) rfl rfl in_X0_multiply_X0 (by decide) rfl (by decide +kernel) rfl hK hP dX0_multiply_1 ?_
  refine lv_iconst (v := 0) hx hb dX0_multiply_4 (by decide) ?_
  refine xr_wV (n := 2) (As := [.ref (ad (9 + 3)), .int 0]) (rest := []) fx (ct_J7_fill_53178 l D ad cI cJ cR Ln h) gX0_multiply_J7_fill_53178 rfl rfl (by decide +kernel) ⟨Nat.le_of_ble_eq_true rfl, Nat.le_of_ble_eq_true rfl⟩ ⟨rfl, rfl⟩ hf hK hP hD hS hA hl.1 rfl (Nat.le_of_ble_eq_true rfl) dX0_multiply_5 (fun S1 H locs h hP hD hS => ?_)
  refine lv_aload_n hx hb dX0_multiply_8 rfl (lv_at hl 0 rfl) ?_
  refine lv_aload_n hx hb dX0_multiply_9 rfl (lv_at hl 0 rfl) ?_
  refine cs_get 2 0 7 (v := .ref (ad (9 + 3))) (ref := "BracketLetters$Algebra") fx (by decide) rfl rfl in_X0_multiply_X0 (by decide) rfl (by decide +kernel) rfl hK hP dX0_multiply_10 ?_
  refine lv_aload_n hx hb dX0_multiply_13 rfl (lv_at hl 2 rfl) ?_
  refine lv_aload_n hx hb dX0_multiply_14 rfl (lv_at hl 3 rfl) ?_
  refine lv_iconst (v := 1) hx hb dX0_multiply_15 (by decide) ?_
  refine lv_aload_n hx hb dX0_multiply_16 rfl (lv_at hl 0 rfl) ?_
  refine cs_get 2 0 2 (v := .int (S1.1 0)) (ref := "BracketLetters$Algebra") fx (by decide) rfl rfl in_X0_multiply_X0 (by decide) rfl (by decide +kernel) rfl hK hP dX0_multiply_17 ?_
  refine xr_vV (n := 5) (As := [.ref (ad (9 + 3)), .ref (ad (9 + a2)), .ref (ad (9 + a3)), .int 1, .int (S1.1 0)]) (rest := []) fx (ct_X0_gather l D ad cI cJ cR Ln h) gX0_multiply_X0_gather rfl rfl (by decide +kernel) ⟨Nat.le_of_ble_eq_true rfl, Nat.le_of_ble_eq_true rfl⟩ ⟨rfl, rfl⟩ hf (cs_recv 2 0 (by decide) rfl rfl hK hP) hK hP hD hS hA hl.1 rfl (Nat.le_of_ble_eq_true rfl) dX0_multiply_20 (fun S2 H locs h hP hD hS => ?_)
  refine lv_aload_n hx hb dX0_multiply_23 rfl (lv_at hl 0 rfl) ?_
  refine lv_aload_n hx hb dX0_multiply_24 rfl (lv_at hl 1 rfl) ?_
  refine lv_aload_n hx hb dX0_multiply_25 rfl (lv_at hl 0 rfl) ?_
  refine cs_get 2 0 7 (v := .ref (ad (9 + 3))) (ref := "BracketLetters$Algebra") fx (by decide) rfl rfl in_X0_multiply_X0 (by decide) rfl (by decide +kernel) rfl hK hP dX0_multiply_26 ?_
  refine xr_vV (n := 2) (As := [.ref (ad (9 + a1)), .ref (ad (9 + 3))]) (rest := []) fx (ct_X0_copy l D ad cI cJ cR Ln h) gX0_multiply_X0_copy rfl rfl (by decide +kernel) ⟨Nat.le_of_ble_eq_true rfl, Nat.le_of_ble_eq_true rfl⟩ ⟨rfl, rfl⟩ hf (cs_recv 2 0 (by decide) rfl rfl hK hP) hK hP hD hS hA hl.1 rfl (Nat.le_of_ble_eq_true rfl) dX0_multiply_29 (fun S3 H locs h hP hD hS => ?_)
  exact xr_rV fx hK hP hD hS h dX0_multiply_32
abbrev rm_X7_times : Room := { frames := 3, cells := 0, slots := 0, locals := 93 }
theorem in_X7_times_X7 : ∀ w ∈ wsX70, w ∈ wsX7_times := by decide +kernel
set_option maxHeartbeats 4000000 in
set_option maxRecDepth 100000 in
theorem ct_X7_times (l : Launch) (D : va_G) (ad : Nat → Nat) (cI cJ cR : ClassId) (Ln : Nat → Nat) {S : cs_T} {a1 : Int32} {a2 : Int32} {a3 : Int32} {Q : Int32 → cs_T → Prop} (h : wp_X7_times Ln S a1 a2 a3 Q) : xr_I l D (cs_ty cI cJ cR) (cs_w ad cI cR Ln) yX7_times wsX7_times rm_X7_times [.ref (ad 0), .int a1, .int a2, .int a3] S Q := by
  refine xr_eI (cc := cX7_times) (nL := 4) (ret := (some .int)) (own := RX7) (by decide) rfl rfl (Nat.le_of_ble_eq_true rfl) ?_
  intro p e s m args below meth c ls A fx hK hA hP hD hS hl
  have hl : lv_has ls 4 [(0, .ref (ad 0)), (1, .int a1), (2, .int a2), (3, .int a3)] := hl
  show W p l e rm_X7_times s m args below meth c s.heap [] 0 0 _ _
  obtain ⟨⟨hx, hb, hml, hown, hts⟩, hrt, hlk⟩ := id fx
  have hf : 0 ≤ rm_X7_times.cells ∧ 0 ≤ rm_X7_times.slots := ⟨Nat.zero_le _, Nat.zero_le _⟩
  unfold wp_X7_times at h
  refine lv_iload_n hx hb dX7_times_0 rfl (lv_at hl 1 rfl) ?_
  refine xr_sI (n := 1) (As := [.int a1]) (rest := []) fx (ct_X7_noSum l h) gX7_times_X7_noSum rfl rfl (by decide +kernel) ⟨Nat.le_of_ble_eq_true rfl, Nat.le_of_ble_eq_true rfl⟩ ⟨rfl, rfl⟩ hf hl.1 rfl (Nat.le_of_ble_eq_true rfl) dX7_times_1 (fun r1 h => ?_)
  refine lv_if_ne (tgt := 21) hx hb dX7_times_4 (by decide) (fun c4 => ?_) (fun c4 => ?_)
  · have h := h.1 c4
    refine lv_iconst (v := (-1)) hx hb dX7_times_21 (by decide) ?_
    exact xr_rI fx hK hP hD hS h dX7_times_22
  · have h := h.2 c4
    refine lv_iload_n hx hb dX7_times_7 rfl (lv_at hl 2 rfl) ?_
    refine xr_sI (n := 1) (As := [.int a2]) (rest := []) fx (ct_X7_noSum l h) gX7_times_X7_noSum rfl rfl (by decide +kernel) ⟨Nat.le_of_ble_eq_true rfl, Nat.le_of_ble_eq_true rfl⟩ ⟨rfl, rfl⟩ hf hl.1 rfl (Nat.le_of_ble_eq_true rfl) dX7_times_8 (fun r2 h => ?_)
    refine lv_if_ne (tgt := 21) hx hb dX7_times_11 (by decide) (fun c11 => ?_) (fun c11 => ?_)
    · have h := h.1 c11
      refine lv_iconst (v := (-1)) hx hb dX7_times_21 (by decide) ?_
      exact xr_rI fx hK hP hD hS h dX7_times_22
    · have h := h.2 c11
      refine lv_iload_n hx hb dX7_times_14 rfl (lv_at hl 3 rfl) ?_
      refine xr_sI (n := 1) (As := [.int a3]) (rest := []) fx (ct_X7_noSum l h) gX7_times_X7_noSum rfl rfl (by decide +kernel) ⟨Nat.le_of_ble_eq_true rfl, Nat.le_of_ble_eq_true rfl⟩ ⟨rfl, rfl⟩ hf hl.1 rfl (Nat.le_of_ble_eq_true rfl) dX7_times_15 (fun r3 h => ?_)
      refine lv_if_eq (tgt := 23) hx hb dX7_times_18 (by decide) (fun c18 => ?_) (fun c18 => ?_)
      · have h := h.1 c18
        refine lv_aload_n hx hb dX7_times_23 rfl (lv_at hl 0 rfl) ?_
        refine cs_get 0 6 2 (v := .ref (ad 2)) (ref := "BracketLetters") fx (by decide) rfl rfl in_X7_times_X7 (by decide) rfl (by decide +kernel) rfl hK hP dX7_times_24 ?_
        refine lv_aload_n hx hb dX7_times_27 rfl (lv_at hl 0 rfl) ?_
        refine cs_get 0 6 1 (v := .ref (ad 7)) (ref := "BracketLetters") fx (by decide) rfl rfl in_X7_times_X7 (by decide) rfl (by decide +kernel) rfl hK hP dX7_times_28 ?_
        refine lv_iload_n hx hb dX7_times_31 rfl (lv_at hl 1 rfl) ?_
        obtain ⟨hi4, h⟩ := h
        refine cs_aald 7 8 7 fx (by decide) rfl hK hP hi4 dX7_times_32 ?_
        refine lv_aload_n hx hb dX7_times_33 rfl (lv_at hl 0 rfl) ?_
        refine cs_get 0 6 1 (v := .ref (ad 7)) (ref := "BracketLetters") fx (by decide) rfl rfl in_X7_times_X7 (by decide) rfl (by decide +kernel) rfl hK hP dX7_times_34 ?_
        refine lv_iload_n hx hb dX7_times_37 rfl (lv_at hl 2 rfl) ?_
        obtain ⟨hi5, h⟩ := h
        refine cs_aald 7 8 7 fx (by decide) rfl hK hP hi5 dX7_times_38 ?_
        refine lv_aload_n hx hb dX7_times_39 rfl (lv_at hl 0 rfl) ?_
        refine cs_get 0 6 1 (v := .ref (ad 7)) (ref := "BracketLetters") fx (by decide) rfl rfl in_X7_times_X7 (by decide) rfl (by decide +kernel) rfl hK hP dX7_times_40 ?_
        refine lv_iload_n hx hb dX7_times_43 rfl (lv_at hl 3 rfl) ?_
        obtain ⟨hi6, h⟩ := h
        refine cs_aald 7 8 7 fx (by decide) rfl hK hP hi6 dX7_times_44 ?_
        refine xr_vV (n := 3) (As := [.ref (ad (9 + (7 + a1.toNatClampNeg))), .ref (ad (9 + (7 + a2.toNatClampNeg))), .ref (ad (9 + (7 + a3.toNatClampNeg)))]) (rest := []) fx (ct_X0_multiply l D ad cI cJ cR Ln h) gX7_times_X0_multiply rfl rfl (by decide +kernel) ⟨Nat.le_of_ble_eq_true rfl, Nat.le_of_ble_eq_true rfl⟩ ⟨rfl, rfl⟩ hf (cs_recv 2 0 (by decide) rfl rfl hK hP) hK hP hD hS hA hl.1 rfl (Nat.le_of_ble_eq_true rfl) dX7_times_45 (fun S7 H locs h hP hD hS => ?_)
        refine lv_iconst (v := 0) hx hb dX7_times_48 (by decide) ?_
        exact xr_rI fx hK hP hD hS h dX7_times_49
      · have h := h.2 c18
        refine lv_iconst (v := (-1)) hx hb dX7_times_21 (by decide) ?_
        exact xr_rI fx hK hP hD hS h dX7_times_22
abbrev rm_X0_commute : Room := { frames := 2, cells := 0, slots := 0, locals := 70 }
theorem in_X0_commute_X0 : ∀ w ∈ wsX00, w ∈ wsX0_commute := by decide +kernel
set_option maxHeartbeats 4000000 in
set_option maxRecDepth 100000 in
theorem ct_X0_commute (l : Launch) (D : va_G) (ad : Nat → Nat) (cI cJ cR : ClassId) (Ln : Nat → Nat) {S : cs_T} {a1 : Nat} {a2 : Nat} {a3 : Nat} {Q : cs_T → Prop} (h : wp_X0_commute Ln S a1 a2 a3 Q) : xr_V l D (cs_ty cI cJ cR) (cs_w ad cI cR Ln) yX0_commute wsX0_commute rm_X0_commute [.ref (ad 2), .ref (ad (9 + a1)), .ref (ad (9 + a2)), .ref (ad (9 + a3))] S Q := by
  refine xr_eV (cc := cX0_commute) (nL := 4) (ret := none) (own := RX0) (by decide) rfl rfl (Nat.le_of_ble_eq_true rfl) ?_
  intro p e s m args below meth c ls A fx hK hA hP hD hS hl
  have hl : lv_has ls 4 [(0, .ref (ad 2)), (1, .ref (ad (9 + a1))), (2, .ref (ad (9 + a2))), (3, .ref (ad (9 + a3)))] := hl
  show W p l e rm_X0_commute s m args below meth c s.heap [] 0 0 _ _
  obtain ⟨⟨hx, hb, hml, hown, hts⟩, hrt, hlk⟩ := id fx
  have hf : 0 ≤ rm_X0_commute.cells ∧ 0 ≤ rm_X0_commute.slots := ⟨Nat.zero_le _, Nat.zero_le _⟩
  unfold wp_X0_commute at h
  refine lv_aload_n hx hb dX0_commute_0 rfl (lv_at hl 0 rfl) ?_
  refine cs_get 2 0 7 (v := .ref (ad (9 + 3))) (ref := "BracketLetters$Algebra") fx (by decide) rfl rfl in_X0_commute_X0 (by decide) rfl (by decide +kernel) rfl hK hP dX0_commute_1 ?_
  refine lv_iconst (v := 0) hx hb dX0_commute_4 (by decide) ?_
  refine xr_wV (n := 2) (As := [.ref (ad (9 + 3)), .int 0]) (rest := []) fx (ct_J7_fill_53178 l D ad cI cJ cR Ln h) gX0_commute_J7_fill_53178 rfl rfl (by decide +kernel) ⟨Nat.le_of_ble_eq_true rfl, Nat.le_of_ble_eq_true rfl⟩ ⟨rfl, rfl⟩ hf hK hP hD hS hA hl.1 rfl (Nat.le_of_ble_eq_true rfl) dX0_commute_5 (fun S1 H locs h hP hD hS => ?_)
  refine lv_aload_n hx hb dX0_commute_8 rfl (lv_at hl 0 rfl) ?_
  refine lv_aload_n hx hb dX0_commute_9 rfl (lv_at hl 0 rfl) ?_
  refine cs_get 2 0 7 (v := .ref (ad (9 + 3))) (ref := "BracketLetters$Algebra") fx (by decide) rfl rfl in_X0_commute_X0 (by decide) rfl (by decide +kernel) rfl hK hP dX0_commute_10 ?_
  refine lv_aload_n hx hb dX0_commute_13 rfl (lv_at hl 2 rfl) ?_
  refine lv_aload_n hx hb dX0_commute_14 rfl (lv_at hl 3 rfl) ?_
  refine lv_iconst (v := 1) hx hb dX0_commute_15 (by decide) ?_
  refine lv_aload_n hx hb dX0_commute_16 rfl (lv_at hl 0 rfl) ?_
  refine cs_get 2 0 2 (v := .int (S1.1 0)) (ref := "BracketLetters$Algebra") fx (by decide) rfl rfl in_X0_commute_X0 (by decide) rfl (by decide +kernel) rfl hK hP dX0_commute_17 ?_
  refine xr_vV (n := 5) (As := [.ref (ad (9 + 3)), .ref (ad (9 + a2)), .ref (ad (9 + a3)), .int 1, .int (S1.1 0)]) (rest := []) fx (ct_X0_gather l D ad cI cJ cR Ln h) gX0_commute_X0_gather rfl rfl (by decide +kernel) ⟨Nat.le_of_ble_eq_true rfl, Nat.le_of_ble_eq_true rfl⟩ ⟨rfl, rfl⟩ hf (cs_recv 2 0 (by decide) rfl rfl hK hP) hK hP hD hS hA hl.1 rfl (Nat.le_of_ble_eq_true rfl) dX0_commute_20 (fun S2 H locs h hP hD hS => ?_)
  refine lv_aload_n hx hb dX0_commute_23 rfl (lv_at hl 0 rfl) ?_
  refine lv_aload_n hx hb dX0_commute_24 rfl (lv_at hl 0 rfl) ?_
  refine cs_get 2 0 7 (v := .ref (ad (9 + 3))) (ref := "BracketLetters$Algebra") fx (by decide) rfl rfl in_X0_commute_X0 (by decide) rfl (by decide +kernel) rfl hK hP dX0_commute_25 ?_
  refine lv_aload_n hx hb dX0_commute_28 rfl (lv_at hl 3 rfl) ?_
  refine lv_aload_n hx hb dX0_commute_29 rfl (lv_at hl 2 rfl) ?_
  refine lv_ldc (v := 2147483646) hx hb hown (hts (.constant RX0 97 (2147483646)) (by decide +kernel)) dX0_commute_30 ?_
  refine lv_aload_n hx hb dX0_commute_32 rfl (lv_at hl 0 rfl) ?_
  refine cs_get 2 0 2 (v := .int (S2.1 0)) (ref := "BracketLetters$Algebra") fx (by decide) rfl rfl in_X0_commute_X0 (by decide) rfl (by decide +kernel) rfl hK hP dX0_commute_33 ?_
  refine xr_vV (n := 5) (As := [.ref (ad (9 + 3)), .ref (ad (9 + a3)), .ref (ad (9 + a2)), .int 2147483646, .int (S2.1 0)]) (rest := []) fx (ct_X0_gather l D ad cI cJ cR Ln h) gX0_commute_X0_gather rfl rfl (by decide +kernel) ⟨Nat.le_of_ble_eq_true rfl, Nat.le_of_ble_eq_true rfl⟩ ⟨rfl, rfl⟩ hf (cs_recv 2 0 (by decide) rfl rfl hK hP) hK hP hD hS hA hl.1 rfl (Nat.le_of_ble_eq_true rfl) dX0_commute_36 (fun S3 H locs h hP hD hS => ?_)
  refine lv_aload_n hx hb dX0_commute_39 rfl (lv_at hl 0 rfl) ?_
  refine lv_aload_n hx hb dX0_commute_40 rfl (lv_at hl 1 rfl) ?_
  refine lv_aload_n hx hb dX0_commute_41 rfl (lv_at hl 0 rfl) ?_
  refine cs_get 2 0 7 (v := .ref (ad (9 + 3))) (ref := "BracketLetters$Algebra") fx (by decide) rfl rfl in_X0_commute_X0 (by decide) rfl (by decide +kernel) rfl hK hP dX0_commute_42 ?_
  refine xr_vV (n := 2) (As := [.ref (ad (9 + a1)), .ref (ad (9 + 3))]) (rest := []) fx (ct_X0_copy l D ad cI cJ cR Ln h) gX0_commute_X0_copy rfl rfl (by decide +kernel) ⟨Nat.le_of_ble_eq_true rfl, Nat.le_of_ble_eq_true rfl⟩ ⟨rfl, rfl⟩ hf (cs_recv 2 0 (by decide) rfl rfl hK hP) hK hP hD hS hA hl.1 rfl (Nat.le_of_ble_eq_true rfl) dX0_commute_45 (fun S4 H locs h hP hD hS => ?_)
  exact xr_rV fx hK hP hD hS h dX0_commute_48
abbrev rm_X7_bracket : Room := { frames := 3, cells := 0, slots := 0, locals := 93 }
theorem in_X7_bracket_X7 : ∀ w ∈ wsX70, w ∈ wsX7_bracket := by decide +kernel
set_option maxHeartbeats 4000000 in
set_option maxRecDepth 100000 in
theorem ct_X7_bracket (l : Launch) (D : va_G) (ad : Nat → Nat) (cI cJ cR : ClassId) (Ln : Nat → Nat) {S : cs_T} {a1 : Int32} {a2 : Int32} {a3 : Int32} {Q : Int32 → cs_T → Prop} (h : wp_X7_bracket Ln S a1 a2 a3 Q) : xr_I l D (cs_ty cI cJ cR) (cs_w ad cI cR Ln) yX7_bracket wsX7_bracket rm_X7_bracket [.ref (ad 0), .int a1, .int a2, .int a3] S Q := by
  refine xr_eI (cc := cX7_bracket) (nL := 4) (ret := (some .int)) (own := RX7) (by decide) rfl rfl (Nat.le_of_ble_eq_true rfl) ?_
  intro p e s m args below meth c ls A fx hK hA hP hD hS hl
  have hl : lv_has ls 4 [(0, .ref (ad 0)), (1, .int a1), (2, .int a2), (3, .int a3)] := hl
  show W p l e rm_X7_bracket s m args below meth c s.heap [] 0 0 _ _
  obtain ⟨⟨hx, hb, hml, hown, hts⟩, hrt, hlk⟩ := id fx
  have hf : 0 ≤ rm_X7_bracket.cells ∧ 0 ≤ rm_X7_bracket.slots := ⟨Nat.zero_le _, Nat.zero_le _⟩
  unfold wp_X7_bracket at h
  refine lv_iload_n hx hb dX7_bracket_0 rfl (lv_at hl 1 rfl) ?_
  refine xr_sI (n := 1) (As := [.int a1]) (rest := []) fx (ct_X7_noSum l h) gX7_bracket_X7_noSum rfl rfl (by decide +kernel) ⟨Nat.le_of_ble_eq_true rfl, Nat.le_of_ble_eq_true rfl⟩ ⟨rfl, rfl⟩ hf hl.1 rfl (Nat.le_of_ble_eq_true rfl) dX7_bracket_1 (fun r1 h => ?_)
  refine lv_if_ne (tgt := 21) hx hb dX7_bracket_4 (by decide) (fun c4 => ?_) (fun c4 => ?_)
  · have h := h.1 c4
    refine lv_iconst (v := (-1)) hx hb dX7_bracket_21 (by decide) ?_
    exact xr_rI fx hK hP hD hS h dX7_bracket_22
  · have h := h.2 c4
    refine lv_iload_n hx hb dX7_bracket_7 rfl (lv_at hl 2 rfl) ?_
    refine xr_sI (n := 1) (As := [.int a2]) (rest := []) fx (ct_X7_noSum l h) gX7_bracket_X7_noSum rfl rfl (by decide +kernel) ⟨Nat.le_of_ble_eq_true rfl, Nat.le_of_ble_eq_true rfl⟩ ⟨rfl, rfl⟩ hf hl.1 rfl (Nat.le_of_ble_eq_true rfl) dX7_bracket_8 (fun r2 h => ?_)
    refine lv_if_ne (tgt := 21) hx hb dX7_bracket_11 (by decide) (fun c11 => ?_) (fun c11 => ?_)
    · have h := h.1 c11
      refine lv_iconst (v := (-1)) hx hb dX7_bracket_21 (by decide) ?_
      exact xr_rI fx hK hP hD hS h dX7_bracket_22
    · have h := h.2 c11
      refine lv_iload_n hx hb dX7_bracket_14 rfl (lv_at hl 3 rfl) ?_
      refine xr_sI (n := 1) (As := [.int a3]) (rest := []) fx (ct_X7_noSum l h) gX7_bracket_X7_noSum rfl rfl (by decide +kernel) ⟨Nat.le_of_ble_eq_true rfl, Nat.le_of_ble_eq_true rfl⟩ ⟨rfl, rfl⟩ hf hl.1 rfl (Nat.le_of_ble_eq_true rfl) dX7_bracket_15 (fun r3 h => ?_)
      refine lv_if_eq (tgt := 23) hx hb dX7_bracket_18 (by decide) (fun c18 => ?_) (fun c18 => ?_)
      · have h := h.1 c18
        refine lv_aload_n hx hb dX7_bracket_23 rfl (lv_at hl 0 rfl) ?_
        refine cs_get 0 6 2 (v := .ref (ad 2)) (ref := "BracketLetters") fx (by decide) rfl rfl in_X7_bracket_X7 (by decide) rfl (by decide +kernel) rfl hK hP dX7_bracket_24 ?_
        refine lv_aload_n hx hb dX7_bracket_27 rfl (lv_at hl 0 rfl) ?_
        refine cs_get 0 6 1 (v := .ref (ad 7)) (ref := "BracketLetters") fx (by decide) rfl rfl in_X7_bracket_X7 (by decide) rfl (by decide +kernel) rfl hK hP dX7_bracket_28 ?_
        refine lv_iload_n hx hb dX7_bracket_31 rfl (lv_at hl 1 rfl) ?_
        obtain ⟨hi4, h⟩ := h
        refine cs_aald 7 8 7 fx (by decide) rfl hK hP hi4 dX7_bracket_32 ?_
        refine lv_aload_n hx hb dX7_bracket_33 rfl (lv_at hl 0 rfl) ?_
        refine cs_get 0 6 1 (v := .ref (ad 7)) (ref := "BracketLetters") fx (by decide) rfl rfl in_X7_bracket_X7 (by decide) rfl (by decide +kernel) rfl hK hP dX7_bracket_34 ?_
        refine lv_iload_n hx hb dX7_bracket_37 rfl (lv_at hl 2 rfl) ?_
        obtain ⟨hi5, h⟩ := h
        refine cs_aald 7 8 7 fx (by decide) rfl hK hP hi5 dX7_bracket_38 ?_
        refine lv_aload_n hx hb dX7_bracket_39 rfl (lv_at hl 0 rfl) ?_
        refine cs_get 0 6 1 (v := .ref (ad 7)) (ref := "BracketLetters") fx (by decide) rfl rfl in_X7_bracket_X7 (by decide) rfl (by decide +kernel) rfl hK hP dX7_bracket_40 ?_
        refine lv_iload_n hx hb dX7_bracket_43 rfl (lv_at hl 3 rfl) ?_
        obtain ⟨hi6, h⟩ := h
        refine cs_aald 7 8 7 fx (by decide) rfl hK hP hi6 dX7_bracket_44 ?_
        refine xr_vV (n := 3) (As := [.ref (ad (9 + (7 + a1.toNatClampNeg))), .ref (ad (9 + (7 + a2.toNatClampNeg))), .ref (ad (9 + (7 + a3.toNatClampNeg)))]) (rest := []) fx (ct_X0_commute l D ad cI cJ cR Ln h) gX7_bracket_X0_commute rfl rfl (by decide +kernel) ⟨Nat.le_of_ble_eq_true rfl, Nat.le_of_ble_eq_true rfl⟩ ⟨rfl, rfl⟩ hf (cs_recv 2 0 (by decide) rfl rfl hK hP) hK hP hD hS hA hl.1 rfl (Nat.le_of_ble_eq_true rfl) dX7_bracket_45 (fun S7 H locs h hP hD hS => ?_)
        refine lv_iconst (v := 0) hx hb dX7_bracket_48 (by decide) ?_
        exact xr_rI fx hK hP hD hS h dX7_bracket_49
      · have h := h.2 c18
        refine lv_iconst (v := (-1)) hx hb dX7_bracket_21 (by decide) ?_
        exact xr_rI fx hK hP hD hS h dX7_bracket_22
abbrev rm_X0_interleave (d : Nat) : Room := { frames := 1 * d, cells := 0, slots := 0, locals := 29 * d }
theorem in_X0_interleave_X0 : ∀ w ∈ wsX00, w ∈ wsX0_interleave := by decide +kernel
set_option maxHeartbeats 4000000 in
set_option maxRecDepth 100000 in
theorem kw_X0_interleave_18 {p : Program} {l : Launch} {e : Env} {s : State} {m : MethodId} {args : Array Value} {below : List Frame} {meth : Method} {c : Code} {D : va_G} {ad : Nat → Nat} {cI cJ cR : ClassId} {Ln : Nat → Nat} {A : Nat → Prop} {R : cs_T → Int32 → Int32 → Int32 → Int32 → Int32 → Int32 → Int32 → (cs_T → Prop) → Prop} {d : Nat}  {Q : cs_T → Prop} {S : cs_T} {v1 : Int32} {v3 : Int32} {v5 : Int32} {v6 : Int32} {v7 : Int32} {s0 : Int32} (fx : xr_Fx p m c meth cX0_interleave 10 s args wsX0_interleave RX0 none) (hK : xr_K D (cs_ty cI cJ cR) s) (hA : ∀ q, s.heap.size ≤ q → A q) (hR : ∀ (S : cs_T) (b0 : Int32) (b1 : Int32) (b2 : Int32) (b3 : Int32) (b4 : Int32) (b5 : Int32) (b6 : Int32) (Q : cs_T → Prop), R S b0 b1 b2 b3 b4 b5 b6 Q → xr_V l D (cs_ty cI cJ cR) (cs_w ad cI cR Ln) yX0_interleave wsX0_interleave (rm_X0_interleave d) [.ref (ad 2), .int b0, .int b1, .int b2, .int b3, .int b4, .int b5, .int b6] S Q)  {H : Heap} {locs : List Loc} {ls : Array Slot} (hP : va_P D vwCl (cs_w ad cI cR Ln S) H) (hD : va_D A (cs_w ad cI cR Ln S)) (hS : va_S A s.heap H locs) (hl : lv_has ls 10 [(0, .ref (ad 2)), (1, .int v1), (3, .int v3), (5, .int v5), (6, .int v6), (7, .int v7)]) (h : wp_X0_interleave_18 R Ln Q S v1 v3 v5 v6 v7 s0) : W p l e (rm_X0_interleave (d + 1)) s m args below meth c H locs 0 0 (MQ below (va_Qv Q (xr_B D (cs_ty cI cJ cR) (cs_w ad cI cR Ln) A) A) args s 0 0 A) (F0 m 18 ls [.int s0]) := by
  obtain ⟨⟨hx, hb, hml, hown, hts⟩, hrt, hlk⟩ := id fx
  have hf : 0 ≤ (rm_X0_interleave (d + 1)).cells ∧ 0 ≤ (rm_X0_interleave (d + 1)).slots := ⟨Nat.zero_le _, Nat.zero_le _⟩
  unfold wp_X0_interleave_18 at h
  refine lv_istore (lv' := [(8, .int s0), (0, .ref (ad 2)), (1, .int v1), (3, .int v3), (5, .int v5), (6, .int v6), (7, .int v7)]) hx hb dX0_interleave_18 hl (by decide) rfl (fun ls hl => ?_)
  refine lv_aload_n hx hb dX0_interleave_20 rfl (lv_at hl 1 rfl) ?_
  refine cs_get 2 0 5 (v := .ref (ad (9 + 1))) (ref := "BracketLetters$Algebra") fx (by decide) rfl rfl in_X0_interleave_X0 (by decide) rfl (by decide +kernel) rfl hK hP dX0_interleave_21 ?_
  refine lv_iload_n hx hb dX0_interleave_24 rfl (lv_at hl 2 rfl) ?_
  refine lv_iload_n hx hb dX0_interleave_25 rfl (lv_at hl 3 rfl) ?_
  refine lv_iadd hx hb dX0_interleave_26 ?_
  refine lv_iload hx hb dX0_interleave_27 (lv_at hl 4 rfl) ?_
  refine lv_iadd hx hb dX0_interleave_29 ?_
  obtain ⟨hi1, h⟩ := h
  refine cs_iald 1 (by decide) fx hK hP hi1 dX0_interleave_30 ?_
  refine lv_iload hx hb dX0_interleave_31 (lv_at hl 0 rfl) ?_
  refine lv_aload_n hx hb dX0_interleave_33 rfl (lv_at hl 1 rfl) ?_
  refine cs_get 2 0 4 (v := .ref (ad (9 + 0))) (ref := "BracketLetters$Algebra") fx (by decide) rfl rfl in_X0_interleave_X0 (by decide) rfl (by decide +kernel) rfl hK hP dX0_interleave_34 ?_
  refine lv_iload hx hb dX0_interleave_37 (lv_at hl 4 rfl) ?_
  obtain ⟨hi2, h⟩ := h
  refine cs_iald 0 (by decide) fx hK hP hi2 dX0_interleave_39 ?_
  refine lv_imul hx hb dX0_interleave_40 ?_
  refine lv_iadd hx hb dX0_interleave_41 ?_
  refine lv_iload hx hb dX0_interleave_42 (lv_at hl 5 rfl) ?_
  refine lv_iadd hx hb dX0_interleave_44 ?_
  refine lv_topi (fun v9_3 ev9_3 => ?_)
  have h := h v9_3 ev9_3
  refine lv_istore (lv' := [(9, .int v9_3), (8, .int s0), (0, .ref (ad 2)), (1, .int v1), (3, .int v3), (5, .int v5), (6, .int v6), (7, .int v7)]) hx hb dX0_interleave_45 hl (by decide) rfl (fun ls hl => ?_)
  refine lv_aload_n hx hb dX0_interleave_47 rfl (lv_at hl 2 rfl) ?_
  refine cs_get 2 0 7 (v := .ref (ad (9 + 3))) (ref := "BracketLetters$Algebra") fx (by decide) rfl rfl in_X0_interleave_X0 (by decide) rfl (by decide +kernel) rfl hK hP dX0_interleave_48 ?_
  refine lv_iload hx hb dX0_interleave_51 (lv_at hl 0 rfl) ?_
  refine lv_aload_n hx hb dX0_interleave_53 rfl (lv_at hl 2 rfl) ?_
  refine cs_get 2 0 7 (v := .ref (ad (9 + 3))) (ref := "BracketLetters$Algebra") fx (by decide) rfl rfl in_X0_interleave_X0 (by decide) rfl (by decide +kernel) rfl hK hP dX0_interleave_54 ?_
  refine lv_iload hx hb dX0_interleave_57 (lv_at hl 0 rfl) ?_
  obtain ⟨hi4, h⟩ := h
  refine cs_iald 3 (by decide) fx hK hP hi4 dX0_interleave_59 ?_
  refine lv_iload hx hb dX0_interleave_60 (lv_at hl 7 rfl) ?_
  refine xr_sI (n := 2) (As := [.int (S.2.1 3 v9_3.toNatClampNeg), .int v7]) (rest := [.int v9_3, .ref (ad (9 + 3))]) fx (ct_X3_plus l h) gX0_interleave_X3_plus rfl rfl (by decide +kernel) (by constructor <;> simp [rm_X0_interleave, rm_X3_plus] <;> omega) ⟨rfl, rfl⟩ hf hl.1 rfl (Nat.le_of_ble_eq_true rfl) dX0_interleave_62 (fun r5 h => ?_)
  obtain ⟨hi6, h⟩ := h
  refine cs_iast 3 (by decide) fx hK hP hD hS hi6 dX0_interleave_65 (fun H locs hP hD hS => ?_)
  exact xr_rV fx hK hP hD hS h dX0_interleave_66
set_option maxHeartbeats 4000000 in
set_option maxRecDepth 100000 in
theorem kw_X0_interleave_8 {p : Program} {l : Launch} {e : Env} {s : State} {m : MethodId} {args : Array Value} {below : List Frame} {meth : Method} {c : Code} {D : va_G} {ad : Nat → Nat} {cI cJ cR : ClassId} {Ln : Nat → Nat} {A : Nat → Prop} {R : cs_T → Int32 → Int32 → Int32 → Int32 → Int32 → Int32 → Int32 → (cs_T → Prop) → Prop} {d : Nat}  {Q : cs_T → Prop} {S : cs_T} {v1 : Int32} {v2 : Int32} {v3 : Int32} {v4 : Int32} {v5 : Int32} {v6 : Int32} {v7 : Int32} (fx : xr_Fx p m c meth cX0_interleave 10 s args wsX0_interleave RX0 none) (hK : xr_K D (cs_ty cI cJ cR) s) (hA : ∀ q, s.heap.size ≤ q → A q) (hR : ∀ (S : cs_T) (b0 : Int32) (b1 : Int32) (b2 : Int32) (b3 : Int32) (b4 : Int32) (b5 : Int32) (b6 : Int32) (Q : cs_T → Prop), R S b0 b1 b2 b3 b4 b5 b6 Q → xr_V l D (cs_ty cI cJ cR) (cs_w ad cI cR Ln) yX0_interleave wsX0_interleave (rm_X0_interleave d) [.ref (ad 2), .int b0, .int b1, .int b2, .int b3, .int b4, .int b5, .int b6] S Q)  {H : Heap} {locs : List Loc} {ls : Array Slot} (hP : va_P D vwCl (cs_w ad cI cR Ln S) H) (hD : va_D A (cs_w ad cI cR Ln S)) (hS : va_S A s.heap H locs) (hl : lv_has ls 10 [(0, .ref (ad 2)), (1, .int v1), (2, .int v2), (3, .int v3), (4, .int v4), (5, .int v5), (6, .int v6), (7, .int v7)]) (h : wp_X0_interleave_8 R Ln Q S v1 v2 v3 v4 v5 v6 v7) : W p l e (rm_X0_interleave (d + 1)) s m args below meth c H locs 0 0 (MQ below (va_Qv Q (xr_B D (cs_ty cI cJ cR) (cs_w ad cI cR Ln) A) A) args s 0 0 A) (F0 m 8 ls []) := by
  obtain ⟨⟨hx, hb, hml, hown, hts⟩, hrt, hlk⟩ := id fx
  have hf : 0 ≤ (rm_X0_interleave (d + 1)).cells ∧ 0 ≤ (rm_X0_interleave (d + 1)).slots := ⟨Nat.zero_le _, Nat.zero_le _⟩
  unfold wp_X0_interleave_8 at h
  refine lv_iload_n hx hb dX0_interleave_8 rfl (lv_at hl 1 rfl) ?_
  refine lv_if_gt (tgt := 17) hx hb dX0_interleave_9 (by decide) (fun c9 => ?_) (fun c9 => ?_)
  · have h := h.1 c9
    refine lv_iload_n hx hb dX0_interleave_17 rfl (lv_at hl 2 rfl) ?_
    exact kw_X0_interleave_18 fx hK hA hR hP hD hS (lv_sub hl [0, 1, 3, 5, 6, 7] rfl) h
  · have h := h.2 c9
    refine lv_iload hx hb dX0_interleave_12 (lv_at hl 4 rfl) ?_
    refine lv_goto (tgt := 18) hx hb dX0_interleave_14 (by decide) ?_
    exact kw_X0_interleave_18 fx hK hA hR hP hD hS (lv_sub hl [0, 1, 3, 5, 6, 7] rfl) h
set_option maxHeartbeats 4000000 in
set_option maxRecDepth 100000 in
theorem cq_X0_interleave (l : Launch) (D : va_G) (ad : Nat → Nat) (cI cJ cR : ClassId) (Ln : Nat → Nat) (d : Nat) {R : cs_T → Int32 → Int32 → Int32 → Int32 → Int32 → Int32 → Int32 → (cs_T → Prop) → Prop} (hR : ∀ (S : cs_T) (b0 : Int32) (b1 : Int32) (b2 : Int32) (b3 : Int32) (b4 : Int32) (b5 : Int32) (b6 : Int32) (Q : cs_T → Prop), R S b0 b1 b2 b3 b4 b5 b6 Q → xr_V l D (cs_ty cI cJ cR) (cs_w ad cI cR Ln) yX0_interleave wsX0_interleave (rm_X0_interleave d) [.ref (ad 2), .int b0, .int b1, .int b2, .int b3, .int b4, .int b5, .int b6] S Q) {S : cs_T} {a1 : Int32} {a2 : Int32} {a3 : Int32} {a4 : Int32} {a5 : Int32} {a6 : Int32} {a7 : Int32} {Q : cs_T → Prop} (h : wq_X0_interleave R Ln S a1 a2 a3 a4 a5 a6 a7 Q) : xr_V l D (cs_ty cI cJ cR) (cs_w ad cI cR Ln) yX0_interleave wsX0_interleave (rm_X0_interleave (d + 1)) [.ref (ad 2), .int a1, .int a2, .int a3, .int a4, .int a5, .int a6, .int a7] S Q := by
  refine xr_eV (cc := cX0_interleave) (nL := 10) (ret := none) (own := RX0) (by decide) rfl rfl (Nat.le_of_ble_eq_true rfl) ?_
  intro p e s m args below meth c ls A fx hK hA hP hD hS hl
  have hl : lv_has ls 10 [(0, .ref (ad 2)), (1, .int a1), (2, .int a2), (3, .int a3), (4, .int a4), (5, .int a5), (6, .int a6), (7, .int a7)] := hl
  show W p l e (rm_X0_interleave (d + 1)) s m args below meth c s.heap [] 0 0 _ _
  obtain ⟨⟨hx, hb, hml, hown, hts⟩, hrt, hlk⟩ := id fx
  have hf : 0 ≤ (rm_X0_interleave (d + 1)).cells ∧ 0 ≤ (rm_X0_interleave (d + 1)).slots := ⟨Nat.zero_le _, Nat.zero_le _⟩
  unfold wq_X0_interleave at h
  refine lv_iload_n hx hb dX0_interleave_0 rfl (lv_at hl 1 rfl) ?_
  refine lv_if_le (tgt := 8) hx hb dX0_interleave_1 (by decide) (fun c1 => ?_) (fun c1 => ?_)
  · have h := h.1 c1
    exact kw_X0_interleave_8 fx hK hA hR hP hD hS (lv_sub hl [0, 1, 2, 3, 4, 5, 6, 7] rfl) h
  · have h := h.2 c1
    refine lv_iload_n hx hb dX0_interleave_4 rfl (lv_at hl 3 rfl) ?_
    refine lv_if_gt (tgt := 67) hx hb dX0_interleave_5 (by decide) (fun c5 => ?_) (fun c5 => ?_)
    · have h := h.1 c5
      refine lv_iload hx hb dX0_interleave_67 (lv_at hl 6 rfl) ?_
      refine lv_iload_n hx hb dX0_interleave_69 rfl (lv_at hl 2 rfl) ?_
      refine lv_aload_n hx hb dX0_interleave_70 rfl (lv_at hl 0 rfl) ?_
      refine cs_get 2 0 3 (v := .int (S.1 1)) (ref := "BracketLetters$Algebra") fx (by decide) rfl rfl in_X0_interleave_X0 (by decide) rfl (by decide +kernel) rfl hK hP dX0_interleave_71 ?_
      obtain ⟨hz7, h⟩ := h
      refine lv_irem hx hb dX0_interleave_74 hz7 ?_
      refine lv_aload_n hx hb dX0_interleave_75 rfl (lv_at hl 0 rfl) ?_
      refine cs_get 2 0 4 (v := .ref (ad (9 + 0))) (ref := "BracketLetters$Algebra") fx (by decide) rfl rfl in_X0_interleave_X0 (by decide) rfl (by decide +kernel) rfl hK hP dX0_interleave_76 ?_
      refine lv_iload hx hb dX0_interleave_79 (lv_at hl 5 rfl) ?_
      obtain ⟨hi8, h⟩ := h
      refine cs_iald 0 (by decide) fx hK hP hi8 dX0_interleave_81 ?_
      refine lv_imul hx hb dX0_interleave_82 ?_
      refine lv_iadd hx hb dX0_interleave_83 ?_
      refine lv_topi (fun v8_9 ev8_9 => ?_)
      have h := h v8_9 ev8_9
      refine lv_istore (lv' := [(8, .int v8_9), (0, .ref (ad 2)), (1, .int a1), (2, .int a2), (3, .int a3), (4, .int a4), (5, .int a5), (6, .int a6), (7, .int a7)]) hx hb dX0_interleave_84 hl (by decide) rfl (fun ls hl => ?_)
      refine lv_iload hx hb dX0_interleave_86 (lv_at hl 7 rfl) ?_
      refine lv_iload hx hb dX0_interleave_88 (lv_at hl 5 rfl) ?_
      refine lv_aload_n hx hb dX0_interleave_90 rfl (lv_at hl 1 rfl) ?_
      refine cs_get 2 0 3 (v := .int (S.1 1)) (ref := "BracketLetters$Algebra") fx (by decide) rfl rfl in_X0_interleave_X0 (by decide) rfl (by decide +kernel) rfl hK hP dX0_interleave_91 ?_
      obtain ⟨hz10, h⟩ := h
      refine lv_irem hx hb dX0_interleave_94 hz10 ?_
      refine lv_aload_n hx hb dX0_interleave_95 rfl (lv_at hl 1 rfl) ?_
      refine cs_get 2 0 4 (v := .ref (ad (9 + 0))) (ref := "BracketLetters$Algebra") fx (by decide) rfl rfl in_X0_interleave_X0 (by decide) rfl (by decide +kernel) rfl hK hP dX0_interleave_96 ?_
      refine lv_iload hx hb dX0_interleave_99 (lv_at hl 6 rfl) ?_
      obtain ⟨hi11, h⟩ := h
      refine cs_iald 0 (by decide) fx hK hP hi11 dX0_interleave_101 ?_
      refine lv_imul hx hb dX0_interleave_102 ?_
      refine lv_iadd hx hb dX0_interleave_103 ?_
      refine lv_topi (fun v9_12 ev9_12 => ?_)
      have h := h v9_12 ev9_12
      refine lv_istore (lv' := [(9, .int v9_12), (8, .int v8_9), (0, .ref (ad 2)), (1, .int a1), (2, .int a2), (3, .int a3), (4, .int a4), (5, .int a5), (6, .int a6), (7, .int a7)]) hx hb dX0_interleave_104 hl (by decide) rfl (fun ls hl => ?_)
      refine lv_aload_n hx hb dX0_interleave_106 rfl (lv_at hl 2 rfl) ?_
      refine lv_iload_n hx hb dX0_interleave_107 rfl (lv_at hl 3 rfl) ?_
      refine lv_iconst (v := 1) hx hb dX0_interleave_108 (by decide) ?_
      refine lv_isub hx hb dX0_interleave_109 ?_
      refine lv_iload_n hx hb dX0_interleave_110 rfl (lv_at hl 4 rfl) ?_
      refine lv_aload_n hx hb dX0_interleave_111 rfl (lv_at hl 2 rfl) ?_
      refine cs_get 2 0 3 (v := .int (S.1 1)) (ref := "BracketLetters$Algebra") fx (by decide) rfl rfl in_X0_interleave_X0 (by decide) rfl (by decide +kernel) rfl hK hP dX0_interleave_112 ?_
      obtain ⟨hz13, h⟩ := h
      refine lv_idiv hx hb dX0_interleave_115 hz13 ?_
      refine lv_iload_n hx hb dX0_interleave_116 rfl (lv_at hl 5 rfl) ?_
      refine lv_iload hx hb dX0_interleave_117 (lv_at hl 6 rfl) ?_
      refine lv_iload hx hb dX0_interleave_119 (lv_at hl 7 rfl) ?_
      refine lv_iconst (v := 1) hx hb dX0_interleave_121 (by decide) ?_
      refine lv_iadd hx hb dX0_interleave_122 ?_
      refine lv_iload hx hb dX0_interleave_123 (lv_at hl 1 rfl) ?_
      refine lv_iload hx hb dX0_interleave_125 (lv_at hl 9 rfl) ?_
      refine xr_vV (n := 7) (As := [.int (a1 - 1), .int (a2 / (S.1 1)), .int a3, .int a4, .int (a5 + 1), .int v8_9, .int a7]) (rest := []) fx (hR _ _ _ _ _ _ _ _ _ h) gX0_interleave_X0_interleave rfl rfl (by decide +kernel) (by constructor <;> simp [rm_X0_interleave, rm_X0_interleave] <;> omega) ⟨rfl, rfl⟩ hf (cs_recv 2 0 (by decide) rfl rfl hK hP) hK hP hD hS hA hl.1 rfl (Nat.le_of_ble_eq_true rfl) dX0_interleave_127 (fun S14 H locs h hP hD hS => ?_)
      refine lv_aload_n hx hb dX0_interleave_130 rfl (lv_at hl 2 rfl) ?_
      refine lv_iload_n hx hb dX0_interleave_131 rfl (lv_at hl 3 rfl) ?_
      refine lv_iload_n hx hb dX0_interleave_132 rfl (lv_at hl 4 rfl) ?_
      refine lv_iload_n hx hb dX0_interleave_133 rfl (lv_at hl 5 rfl) ?_
      refine lv_iconst (v := 1) hx hb dX0_interleave_134 (by decide) ?_
      refine lv_isub hx hb dX0_interleave_135 ?_
      refine lv_iload hx hb dX0_interleave_136 (lv_at hl 6 rfl) ?_
      refine lv_aload_n hx hb dX0_interleave_138 rfl (lv_at hl 2 rfl) ?_
      refine cs_get 2 0 3 (v := .int (S14.1 1)) (ref := "BracketLetters$Algebra") fx (by decide) rfl rfl in_X0_interleave_X0 (by decide) rfl (by decide +kernel) rfl hK hP dX0_interleave_139 ?_
      obtain ⟨hz15, h⟩ := h
      refine lv_idiv hx hb dX0_interleave_142 hz15 ?_
      refine lv_iload hx hb dX0_interleave_143 (lv_at hl 7 rfl) ?_
      refine lv_iconst (v := 1) hx hb dX0_interleave_145 (by decide) ?_
      refine lv_iadd hx hb dX0_interleave_146 ?_
      refine lv_iload hx hb dX0_interleave_147 (lv_at hl 0 rfl) ?_
      refine lv_iload hx hb dX0_interleave_149 (lv_at hl 9 rfl) ?_
      refine xr_vV (n := 7) (As := [.int a1, .int a2, .int (a3 - 1), .int (a4 / (S14.1 1)), .int (a5 + 1), .int v9_12, .int a7]) (rest := []) fx (hR _ _ _ _ _ _ _ _ _ h) gX0_interleave_X0_interleave rfl rfl (by decide +kernel) (by constructor <;> simp [rm_X0_interleave, rm_X0_interleave] <;> omega) ⟨rfl, rfl⟩ hf (cs_recv 2 0 (by decide) rfl rfl hK hP) hK hP hD hS hA hl.1 rfl (Nat.le_of_ble_eq_true rfl) dX0_interleave_151 (fun S16 H locs h hP hD hS => ?_)
      exact xr_rV fx hK hP hD hS h dX0_interleave_154
    · have h := h.2 c5
      exact kw_X0_interleave_8 fx hK hA hR hP hD hS (lv_sub hl [0, 1, 2, 3, 4, 5, 6, 7] rfl) h
theorem ct_X0_interleave (l : Launch) (D : va_G) (ad : Nat → Nat) (cI cJ cR : ClassId) (Ln : Nat → Nat) : ∀ (d : Nat) (S : cs_T) (a1 : Int32) (a2 : Int32) (a3 : Int32) (a4 : Int32) (a5 : Int32) (a6 : Int32) (a7 : Int32) (Q : cs_T → Prop), wp_X0_interleave Ln d S a1 a2 a3 a4 a5 a6 a7 Q → xr_V l D (cs_ty cI cJ cR) (cs_w ad cI cR Ln) yX0_interleave wsX0_interleave (rm_X0_interleave d) [.ref (ad 2), .int a1, .int a2, .int a3, .int a4, .int a5, .int a6, .int a7] S Q := by
  intro d
  induction d with
  | zero => intro S a1 a2 a3 a4 a5 a6 a7 Q h; exact False.elim h
  | succ d ih => intro S a1 a2 a3 a4 a5 a6 a7 Q h; exact cq_X0_interleave l D ad cI cJ cR Ln d ih h
abbrev rm_X0_mingleWord : Room := { frames := 9, cells := 0, slots := 0, locals := 261 }
theorem in_X0_mingleWord_X0 : ∀ w ∈ wsX00, w ∈ wsX0_mingleWord := by decide +kernel
set_option maxHeartbeats 4000000 in
set_option maxRecDepth 100000 in
theorem kw_X0_mingleWord_67 {p : Program} {l : Launch} {e : Env} {s : State} {m : MethodId} {args : Array Value} {below : List Frame} {meth : Method} {c : Code} {D : va_G} {ad : Nat → Nat} {cI cJ cR : ClassId} {Ln : Nat → Nat} {A : Nat → Prop} {K3 : cs_T → Int32 → Int32 → Int32 → Nat → Int32 → Prop} {K17 : cs_T → Int32 → Int32 → Int32 → Nat → Int32 → Int32 → Prop} {Q : cs_T → Prop} {S : cs_T} {v1 : Int32} {v2 : Int32} {v3 : Int32} {v4 : Nat} {v5 : Int32} {v6 : Int32} (fx : xr_Fx p m c meth cX0_mingleWord 8 s args wsX0_mingleWord RX0 none) (hK : xr_K D (cs_ty cI cJ cR) s) (hA : ∀ q, s.heap.size ≤ q → A q)  (k3 : ∀ (S : cs_T) (v1 : Int32) (v2 : Int32) (v3 : Int32) (v4 : Nat) (v5 : Int32) {H : Heap} {locs : List Loc} {ls : Array Slot}, va_P D vwCl (cs_w ad cI cR Ln S) H → va_D A (cs_w ad cI cR Ln S) → va_S A s.heap H locs → lv_has ls 8 [(0, .ref (ad 2)), (1, .int v1), (2, .int v2), (3, .int v3), (4, .ref (ad (9 + v4))), (5, .int v5)] → K3 S v1 v2 v3 v4 v5 → W p l e rm_X0_mingleWord s m args below meth c H locs 0 0 (MQ below (va_Qv Q (xr_B D (cs_ty cI cJ cR) (cs_w ad cI cR Ln) A) A) args s 0 0 A) (F0 m 3 ls [])) (k17 : ∀ (S : cs_T) (v1 : Int32) (v2 : Int32) (v3 : Int32) (v4 : Nat) (v5 : Int32) (v6 : Int32) {H : Heap} {locs : List Loc} {ls : Array Slot}, va_P D vwCl (cs_w ad cI cR Ln S) H → va_D A (cs_w ad cI cR Ln S) → va_S A s.heap H locs → lv_has ls 8 [(0, .ref (ad 2)), (1, .int v1), (2, .int v2), (3, .int v3), (4, .ref (ad (9 + v4))), (5, .int v5), (6, .int v6)] → K17 S v1 v2 v3 v4 v5 v6 → W p l e rm_X0_mingleWord s m args below meth c H locs 0 0 (MQ below (va_Qv Q (xr_B D (cs_ty cI cJ cR) (cs_w ad cI cR Ln) A) A) args s 0 0 A) (F0 m 17 ls [])) {H : Heap} {locs : List Loc} {ls : Array Slot} (hP : va_P D vwCl (cs_w ad cI cR Ln S) H) (hD : va_D A (cs_w ad cI cR Ln S)) (hS : va_S A s.heap H locs) (hl : lv_has ls 8 [(0, .ref (ad 2)), (1, .int v1), (2, .int v2), (3, .int v3), (4, .ref (ad (9 + v4))), (5, .int v5), (6, .int v6)]) (h : wp_X0_mingleWord_67 Ln K3 K17 Q S v1 v2 v3 v4 v5 v6) : W p l e rm_X0_mingleWord s m args below meth c H locs 0 0 (MQ below (va_Qv Q (xr_B D (cs_ty cI cJ cR) (cs_w ad cI cR Ln) A) A) args s 0 0 A) (F0 m 67 ls []) := by
  obtain ⟨⟨hx, hb, hml, hown, hts⟩, hrt, hlk⟩ := id fx
  have hf : 0 ≤ rm_X0_mingleWord.cells ∧ 0 ≤ rm_X0_mingleWord.slots := ⟨Nat.zero_le _, Nat.zero_le _⟩
  unfold wp_X0_mingleWord_67 at h
  obtain ⟨v6_1, ev6_1⟩ : ∃ z : Int32, z = v6 + 1 := ⟨_, rfl⟩
  have h := h v6_1 ev6_1
  refine lv_iinc (v := v6_1) (lv' := [(6, .int v6_1), (0, .ref (ad 2)), (1, .int v1), (2, .int v2), (3, .int v3), (4, .ref (ad (9 + v4))), (5, .int v5)]) hx hb dX0_mingleWord_67 hl (k := 6) rfl (by rw [ev6_1]; rfl) (by decide) rfl (fun ls hl => ?_)
  refine lv_goto (tgt := 17) hx hb dX0_mingleWord_70 (by decide) ?_
  exact k17 _ _ _ _ _ _ _ hP hD hS (lv_sub hl [1, 2, 3, 4, 5, 6, 0] rfl) h
set_option maxHeartbeats 4000000 in
set_option maxRecDepth 100000 in
theorem kb_X0_mingleWord_17 {p : Program} {l : Launch} {e : Env} {s : State} {m : MethodId} {args : Array Value} {below : List Frame} {meth : Method} {c : Code} {D : va_G} {ad : Nat → Nat} {cI cJ cR : ClassId} {Ln : Nat → Nat} {A : Nat → Prop} {K3 : cs_T → Int32 → Int32 → Int32 → Nat → Int32 → Prop} {K17 : cs_T → Int32 → Int32 → Int32 → Nat → Int32 → Int32 → Prop} {Q : cs_T → Prop} {S : cs_T} {v1 : Int32} {v2 : Int32} {v3 : Int32} {v4 : Nat} {v5 : Int32} {v6 : Int32} (fx : xr_Fx p m c meth cX0_mingleWord 8 s args wsX0_mingleWord RX0 none) (hK : xr_K D (cs_ty cI cJ cR) s) (hA : ∀ q, s.heap.size ≤ q → A q)  (k3 : ∀ (S : cs_T) (v1 : Int32) (v2 : Int32) (v3 : Int32) (v4 : Nat) (v5 : Int32) {H : Heap} {locs : List Loc} {ls : Array Slot}, va_P D vwCl (cs_w ad cI cR Ln S) H → va_D A (cs_w ad cI cR Ln S) → va_S A s.heap H locs → lv_has ls 8 [(0, .ref (ad 2)), (1, .int v1), (2, .int v2), (3, .int v3), (4, .ref (ad (9 + v4))), (5, .int v5)] → K3 S v1 v2 v3 v4 v5 → W p l e rm_X0_mingleWord s m args below meth c H locs 0 0 (MQ below (va_Qv Q (xr_B D (cs_ty cI cJ cR) (cs_w ad cI cR Ln) A) A) args s 0 0 A) (F0 m 3 ls [])) (k17 : ∀ (S : cs_T) (v1 : Int32) (v2 : Int32) (v3 : Int32) (v4 : Nat) (v5 : Int32) (v6 : Int32) {H : Heap} {locs : List Loc} {ls : Array Slot}, va_P D vwCl (cs_w ad cI cR Ln S) H → va_D A (cs_w ad cI cR Ln S) → va_S A s.heap H locs → lv_has ls 8 [(0, .ref (ad 2)), (1, .int v1), (2, .int v2), (3, .int v3), (4, .ref (ad (9 + v4))), (5, .int v5), (6, .int v6)] → K17 S v1 v2 v3 v4 v5 v6 → W p l e rm_X0_mingleWord s m args below meth c H locs 0 0 (MQ below (va_Qv Q (xr_B D (cs_ty cI cJ cR) (cs_w ad cI cR Ln) A) A) args s 0 0 A) (F0 m 17 ls [])) {H : Heap} {locs : List Loc} {ls : Array Slot} (hP : va_P D vwCl (cs_w ad cI cR Ln S) H) (hD : va_D A (cs_w ad cI cR Ln S)) (hS : va_S A s.heap H locs) (hl : lv_has ls 8 [(0, .ref (ad 2)), (1, .int v1), (2, .int v2), (3, .int v3), (4, .ref (ad (9 + v4))), (5, .int v5), (6, .int v6)]) (h : wb_X0_mingleWord_17 Ln K3 K17 Q S v1 v2 v3 v4 v5 v6) : W p l e rm_X0_mingleWord s m args below meth c H locs 0 0 (MQ below (va_Qv Q (xr_B D (cs_ty cI cJ cR) (cs_w ad cI cR Ln) A) A) args s 0 0 A) (F0 m 17 ls []) := by
  obtain ⟨⟨hx, hb, hml, hown, hts⟩, hrt, hlk⟩ := id fx
  have hf : 0 ≤ rm_X0_mingleWord.cells ∧ 0 ≤ rm_X0_mingleWord.slots := ⟨Nat.zero_le _, Nat.zero_le _⟩
  unfold wb_X0_mingleWord_17 at h
  refine lv_iload hx hb dX0_mingleWord_17 (lv_at hl 6 rfl) ?_
  refine lv_aload_n hx hb dX0_mingleWord_19 rfl (lv_at hl 0 rfl) ?_
  refine cs_get 2 0 4 (v := .ref (ad (9 + 0))) (ref := "BracketLetters$Algebra") fx (by decide) rfl rfl in_X0_mingleWord_X0 (by decide) rfl (by decide +kernel) rfl hK hP dX0_mingleWord_20 ?_
  refine lv_iload hx hb dX0_mingleWord_23 (lv_at hl 5 rfl) ?_
  obtain ⟨hi2, h⟩ := h
  refine cs_iald 0 (by decide) fx hK hP hi2 dX0_mingleWord_25 ?_
  refine lv_icmp_ge (tgt := 73) hx hb dX0_mingleWord_26 (by decide) (fun c26 => ?_) (fun c26 => ?_)
  · have h := h.1 c26
    obtain ⟨v5_3, ev5_3⟩ : ∃ z : Int32, z = v5 + 1 := ⟨_, rfl⟩
    have h := h v5_3 ev5_3
    refine lv_iinc (v := v5_3) (lv' := [(5, .int v5_3), (0, .ref (ad 2)), (1, .int v1), (2, .int v2), (3, .int v3), (4, .ref (ad (9 + v4))), (6, .int v6)]) hx hb dX0_mingleWord_73 hl (k := 5) rfl (by rw [ev5_3]; rfl) (by decide) rfl (fun ls hl => ?_)
    refine lv_goto (tgt := 3) hx hb dX0_mingleWord_76 (by decide) ?_
    exact k3 _ _ _ _ _ _ hP hD hS (lv_sub hl [1, 2, 3, 4, 5, 0] rfl) h
  · have h := h.2 c26
    refine lv_aload hx hb dX0_mingleWord_29 (lv_at hl 4 rfl) ?_
    refine lv_aload_n hx hb dX0_mingleWord_31 rfl (lv_at hl 0 rfl) ?_
    refine cs_get 2 0 5 (v := .ref (ad (9 + 1))) (ref := "BracketLetters$Algebra") fx (by decide) rfl rfl in_X0_mingleWord_X0 (by decide) rfl (by decide +kernel) rfl hK hP dX0_mingleWord_32 ?_
    refine lv_iload hx hb dX0_mingleWord_35 (lv_at hl 5 rfl) ?_
    obtain ⟨hi4, h⟩ := h
    refine cs_iald 1 (by decide) fx hK hP hi4 dX0_mingleWord_37 ?_
    refine lv_iload hx hb dX0_mingleWord_38 (lv_at hl 6 rfl) ?_
    refine lv_iadd hx hb dX0_mingleWord_40 ?_
    obtain ⟨hk6, h⟩ := h
    obtain ⟨hi5, h⟩ := h
    refine cs_iald v4 hk6 fx hK hP hi5 dX0_mingleWord_41 ?_
    refine lv_topi (fun v7_7 ev7_7 => ?_)
    have h := h v7_7 ev7_7
    refine lv_istore (lv' := [(7, .int v7_7), (0, .ref (ad 2)), (1, .int v1), (2, .int v2), (3, .int v3), (4, .ref (ad (9 + v4))), (5, .int v5), (6, .int v6)]) hx hb dX0_mingleWord_42 hl (by decide) rfl (fun ls hl => ?_)
    refine lv_iload hx hb dX0_mingleWord_44 (lv_at hl 0 rfl) ?_
    refine lv_if_eq (tgt := 67) hx hb dX0_mingleWord_46 (by decide) (fun c46 => ?_) (fun c46 => ?_)
    · have h := h.1 c46
      exact kw_X0_mingleWord_67 fx hK hA k3 k17 hP hD hS (lv_sub hl [1, 2, 3, 4, 5, 6, 7] rfl) h
    · have h := h.2 c46
      refine lv_aload_n hx hb dX0_mingleWord_49 rfl (lv_at hl 1 rfl) ?_
      refine lv_iload_n hx hb dX0_mingleWord_50 rfl (lv_at hl 2 rfl) ?_
      refine lv_iload_n hx hb dX0_mingleWord_51 rfl (lv_at hl 3 rfl) ?_
      refine lv_iload hx hb dX0_mingleWord_52 (lv_at hl 6 rfl) ?_
      refine lv_iload hx hb dX0_mingleWord_54 (lv_at hl 7 rfl) ?_
      refine lv_iconst (v := 0) hx hb dX0_mingleWord_56 (by decide) ?_
      refine lv_iconst (v := 0) hx hb dX0_mingleWord_57 (by decide) ?_
      refine lv_iload_n hx hb dX0_mingleWord_58 rfl (lv_at hl 4 rfl) ?_
      refine lv_iload hx hb dX0_mingleWord_59 (lv_at hl 0 rfl) ?_
      refine xr_sI (n := 2) (As := [.int v3, .int v7_7]) (rest := [.int 0, .int 0, .int v6, .int v5, .int v2, .int v1, .ref (ad 2)]) fx (ct_X3_product l h) gX0_mingleWord_X3_product rfl rfl (by decide +kernel) ⟨Nat.le_of_ble_eq_true rfl, Nat.le_of_ble_eq_true rfl⟩ ⟨rfl, rfl⟩ hf hl.1 rfl (Nat.le_of_ble_eq_true rfl) dX0_mingleWord_61 (fun r8 h => ?_)
      refine xr_vV (n := 7) (As := [.int v1, .int v2, .int v5, .int v6, .int 0, .int 0, .int r8]) (rest := []) fx (ct_X0_interleave l D ad cI cJ cR Ln 8 _ _ _ _ _ _ _ _ _ h) gX0_mingleWord_X0_interleave rfl rfl (by decide +kernel) ⟨Nat.le_of_ble_eq_true rfl, Nat.le_of_ble_eq_true rfl⟩ ⟨rfl, rfl⟩ hf (cs_recv 2 0 (by decide) rfl rfl hK hP) hK hP hD hS hA hl.1 rfl (Nat.le_of_ble_eq_true rfl) dX0_mingleWord_64 (fun S9 H locs h hP hD hS => ?_)
      exact kw_X0_mingleWord_67 fx hK hA k3 k17 hP hD hS (lv_sub hl [1, 2, 3, 4, 5, 6, 7] rfl) h
theorem kw_X0_mingleWord_17 {p : Program} {l : Launch} {e : Env} {s : State} {m : MethodId} {args : Array Value} {below : List Frame} {meth : Method} {c : Code} {D : va_G} {ad : Nat → Nat} {cI cJ cR : ClassId} {Ln : Nat → Nat} {A : Nat → Prop} {K3 : cs_T → Int32 → Int32 → Int32 → Nat → Int32 → Prop} {Q : cs_T → Prop} (fx : xr_Fx p m c meth cX0_mingleWord 8 s args wsX0_mingleWord RX0 none) (hK : xr_K D (cs_ty cI cJ cR) s) (hA : ∀ q, s.heap.size ≤ q → A q)  (k3 : ∀ (S : cs_T) (v1 : Int32) (v2 : Int32) (v3 : Int32) (v4 : Nat) (v5 : Int32) {H : Heap} {locs : List Loc} {ls : Array Slot}, va_P D vwCl (cs_w ad cI cR Ln S) H → va_D A (cs_w ad cI cR Ln S) → va_S A s.heap H locs → lv_has ls 8 [(0, .ref (ad 2)), (1, .int v1), (2, .int v2), (3, .int v3), (4, .ref (ad (9 + v4))), (5, .int v5)] → K3 S v1 v2 v3 v4 v5 → W p l e rm_X0_mingleWord s m args below meth c H locs 0 0 (MQ below (va_Qv Q (xr_B D (cs_ty cI cJ cR) (cs_w ad cI cR Ln) A) A) args s 0 0 A) (F0 m 3 ls [])) : ∀ (n : Nat) (S : cs_T) (v1 : Int32) (v2 : Int32) (v3 : Int32) (v4 : Nat) (v5 : Int32) (v6 : Int32) {H : Heap} {locs : List Loc} {ls : Array Slot}, va_P D vwCl (cs_w ad cI cR Ln S) H → va_D A (cs_w ad cI cR Ln S) → va_S A s.heap H locs → lv_has ls 8 [(0, .ref (ad 2)), (1, .int v1), (2, .int v2), (3, .int v3), (4, .ref (ad (9 + v4))), (5, .int v5), (6, .int v6)] → wp_X0_mingleWord_17 Ln K3 Q n S v1 v2 v3 v4 v5 v6 → W p l e rm_X0_mingleWord s m args below meth c H locs 0 0 (MQ below (va_Qv Q (xr_B D (cs_ty cI cJ cR) (cs_w ad cI cR Ln) A) A) args s 0 0 A) (F0 m 17 ls []) := by
  intro n
  induction n with
  | zero => intro S v1 v2 v3 v4 v5 v6 H locs ls hP hD hS hl h; exact False.elim h
  | succ n ih => intro S v1 v2 v3 v4 v5 v6 H locs ls hP hD hS hl h; exact kb_X0_mingleWord_17 fx hK hA k3 ih hP hD hS hl h
set_option maxHeartbeats 4000000 in
set_option maxRecDepth 100000 in
theorem kb_X0_mingleWord_3 {p : Program} {l : Launch} {e : Env} {s : State} {m : MethodId} {args : Array Value} {below : List Frame} {meth : Method} {c : Code} {D : va_G} {ad : Nat → Nat} {cI cJ cR : ClassId} {Ln : Nat → Nat} {A : Nat → Prop}  {K3 : cs_T → Int32 → Int32 → Int32 → Nat → Int32 → Prop} {Q : cs_T → Prop} {S : cs_T} {v1 : Int32} {v2 : Int32} {v3 : Int32} {v4 : Nat} {v5 : Int32} (fx : xr_Fx p m c meth cX0_mingleWord 8 s args wsX0_mingleWord RX0 none) (hK : xr_K D (cs_ty cI cJ cR) s) (hA : ∀ q, s.heap.size ≤ q → A q)   (k3 : ∀ (S : cs_T) (v1 : Int32) (v2 : Int32) (v3 : Int32) (v4 : Nat) (v5 : Int32) {H : Heap} {locs : List Loc} {ls : Array Slot}, va_P D vwCl (cs_w ad cI cR Ln S) H → va_D A (cs_w ad cI cR Ln S) → va_S A s.heap H locs → lv_has ls 8 [(0, .ref (ad 2)), (1, .int v1), (2, .int v2), (3, .int v3), (4, .ref (ad (9 + v4))), (5, .int v5)] → K3 S v1 v2 v3 v4 v5 → W p l e rm_X0_mingleWord s m args below meth c H locs 0 0 (MQ below (va_Qv Q (xr_B D (cs_ty cI cJ cR) (cs_w ad cI cR Ln) A) A) args s 0 0 A) (F0 m 3 ls [])) {H : Heap} {locs : List Loc} {ls : Array Slot} (hP : va_P D vwCl (cs_w ad cI cR Ln S) H) (hD : va_D A (cs_w ad cI cR Ln S)) (hS : va_S A s.heap H locs) (hl : lv_has ls 8 [(0, .ref (ad 2)), (1, .int v1), (2, .int v2), (3, .int v3), (4, .ref (ad (9 + v4))), (5, .int v5)]) (h : wb_X0_mingleWord_3 Ln K3 Q S v1 v2 v3 v4 v5) : W p l e rm_X0_mingleWord s m args below meth c H locs 0 0 (MQ below (va_Qv Q (xr_B D (cs_ty cI cJ cR) (cs_w ad cI cR Ln) A) A) args s 0 0 A) (F0 m 3 ls []) := by
  obtain ⟨⟨hx, hb, hml, hown, hts⟩, hrt, hlk⟩ := id fx
  have hf : 0 ≤ rm_X0_mingleWord.cells ∧ 0 ≤ rm_X0_mingleWord.slots := ⟨Nat.zero_le _, Nat.zero_le _⟩
  unfold wb_X0_mingleWord_3 at h
  refine lv_iload hx hb dX0_mingleWord_3 (lv_at hl 5 rfl) ?_
  refine lv_aload_n hx hb dX0_mingleWord_5 rfl (lv_at hl 0 rfl) ?_
  refine cs_get 2 0 2 (v := .int (S.1 0)) (ref := "BracketLetters$Algebra") fx (by decide) rfl rfl in_X0_mingleWord_X0 (by decide) rfl (by decide +kernel) rfl hK hP dX0_mingleWord_6 ?_
  refine lv_iload_n hx hb dX0_mingleWord_9 rfl (lv_at hl 1 rfl) ?_
  refine lv_isub hx hb dX0_mingleWord_10 ?_
  refine lv_icmp_gt (tgt := 79) hx hb dX0_mingleWord_11 (by decide) (fun c11 => ?_) (fun c11 => ?_)
  · have h := h.1 c11
    exact xr_rV fx hK hP hD hS h dX0_mingleWord_79
  · have h := h.2 c11
    refine lv_iconst (v := 0) hx hb dX0_mingleWord_14 (by decide) ?_
    refine lv_istore (lv' := [(6, .int 0), (0, .ref (ad 2)), (1, .int v1), (2, .int v2), (3, .int v3), (4, .ref (ad (9 + v4))), (5, .int v5)]) hx hb dX0_mingleWord_15 hl (by decide) rfl (fun ls hl => ?_)
    obtain ⟨n, h⟩ := h
    exact kw_X0_mingleWord_17 fx hK hA k3 n _ _ _ _ _ _ _ hP hD hS (lv_sub hl [1, 2, 3, 4, 5, 6, 0] rfl) h
theorem kw_X0_mingleWord_3 {p : Program} {l : Launch} {e : Env} {s : State} {m : MethodId} {args : Array Value} {below : List Frame} {meth : Method} {c : Code} {D : va_G} {ad : Nat → Nat} {cI cJ cR : ClassId} {Ln : Nat → Nat} {A : Nat → Prop}  {Q : cs_T → Prop} (fx : xr_Fx p m c meth cX0_mingleWord 8 s args wsX0_mingleWord RX0 none) (hK : xr_K D (cs_ty cI cJ cR) s) (hA : ∀ q, s.heap.size ≤ q → A q)   : ∀ (n : Nat) (S : cs_T) (v1 : Int32) (v2 : Int32) (v3 : Int32) (v4 : Nat) (v5 : Int32) {H : Heap} {locs : List Loc} {ls : Array Slot}, va_P D vwCl (cs_w ad cI cR Ln S) H → va_D A (cs_w ad cI cR Ln S) → va_S A s.heap H locs → lv_has ls 8 [(0, .ref (ad 2)), (1, .int v1), (2, .int v2), (3, .int v3), (4, .ref (ad (9 + v4))), (5, .int v5)] → wp_X0_mingleWord_3 Ln Q n S v1 v2 v3 v4 v5 → W p l e rm_X0_mingleWord s m args below meth c H locs 0 0 (MQ below (va_Qv Q (xr_B D (cs_ty cI cJ cR) (cs_w ad cI cR Ln) A) A) args s 0 0 A) (F0 m 3 ls []) := by
  intro n
  induction n with
  | zero => intro S v1 v2 v3 v4 v5 H locs ls hP hD hS hl h; exact False.elim h
  | succ n ih => intro S v1 v2 v3 v4 v5 H locs ls hP hD hS hl h; exact kb_X0_mingleWord_3 fx hK hA ih hP hD hS hl h
set_option maxHeartbeats 4000000 in
set_option maxRecDepth 100000 in
theorem ct_X0_mingleWord (l : Launch) (D : va_G) (ad : Nat → Nat) (cI cJ cR : ClassId) (Ln : Nat → Nat) {S : cs_T} {a1 : Int32} {a2 : Int32} {a3 : Int32} {a4 : Nat} {Q : cs_T → Prop} (h : wp_X0_mingleWord Ln S a1 a2 a3 a4 Q) : xr_V l D (cs_ty cI cJ cR) (cs_w ad cI cR Ln) yX0_mingleWord wsX0_mingleWord rm_X0_mingleWord [.ref (ad 2), .int a1, .int a2, .int a3, .ref (ad (9 + a4))] S Q := by
  refine xr_eV (cc := cX0_mingleWord) (nL := 8) (ret := none) (own := RX0) (by decide) rfl rfl (Nat.le_of_ble_eq_true rfl) ?_
  intro p e s m args below meth c ls A fx hK hA hP hD hS hl
  have hl : lv_has ls 8 [(0, .ref (ad 2)), (1, .int a1), (2, .int a2), (3, .int a3), (4, .ref (ad (9 + a4)))] := hl
  show W p l e rm_X0_mingleWord s m args below meth c s.heap [] 0 0 _ _
  obtain ⟨⟨hx, hb, hml, hown, hts⟩, hrt, hlk⟩ := id fx
  have hf : 0 ≤ rm_X0_mingleWord.cells ∧ 0 ≤ rm_X0_mingleWord.slots := ⟨Nat.zero_le _, Nat.zero_le _⟩
  unfold wp_X0_mingleWord at h
  refine lv_iconst (v := 0) hx hb dX0_mingleWord_0 (by decide) ?_
  refine lv_istore (lv' := [(5, .int 0), (0, .ref (ad 2)), (1, .int a1), (2, .int a2), (3, .int a3), (4, .ref (ad (9 + a4)))]) hx hb dX0_mingleWord_1 hl (by decide) rfl (fun ls hl => ?_)
  obtain ⟨n, h⟩ := h
  exact kw_X0_mingleWord_3 fx hK hA n _ _ _ _ _ _ hP hD hS (lv_sub hl [1, 2, 3, 4, 5, 0] rfl) h
