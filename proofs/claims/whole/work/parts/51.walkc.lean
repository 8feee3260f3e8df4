abbrev rm_X0_mingle : Room := { frames := 10, cells := 0, slots := 0, locals := 288 }
theorem in_X0_mingle_X0 : ∀ w ∈ wsX00, w ∈ wsX0_mingle := by decide +kernel
set_option maxHeartbeats 4000000 in
set_option maxRecDepth 100000 in
theorem kw_X0_mingle_65 {p : Program} {l : Launch} {e : Env} {s : State} {m : MethodId} {args : Array Value} {below : List Frame} {meth : Method} {c : Code} {D : va_G} {ad : Nat → Nat} {cI cJ cR : ClassId} {Ln : Nat → Nat} {A : Nat → Prop} {K11 : cs_T → Nat → Nat → Nat → Int32 → Prop} {K23 : cs_T → Nat → Nat → Nat → Int32 → Int32 → Prop} {Q : cs_T → Prop} {S : cs_T} {v1 : Nat} {v2 : Nat} {v3 : Nat} {v4 : Int32} {v5 : Int32} (fx : xr_Fx p m c meth cX0_mingle 7 s args wsX0_mingle RX0 none) (hK : xr_K D (cs_ty cI cJ cR) s) (hA : ∀ q, s.heap.size ≤ q → A q)  (k11 : ∀ (S : cs_T) (v1 : Nat) (v2 : Nat) (v3 : Nat) (v4 : Int32) {H : Heap} {locs : List Loc} {ls : Array Slot}, va_P D vwCl (cs_w ad cI cR Ln S) H → va_D A (cs_w ad cI cR Ln S) → va_S A s.heap H locs → lv_has ls 7 [(0, .ref (ad 2)), (1, .ref (ad (9 + v1))), (2, .ref (ad (9 + v2))), (3, .ref (ad (9 + v3))), (4, .int v4)] → K11 S v1 v2 v3 v4 → W p l e rm_X0_mingle s m args below meth c H locs 0 0 (MQ below (va_Qv Q (xr_B D (cs_ty cI cJ cR) (cs_w ad cI cR Ln) A) A) args s 0 0 A) (F0 m 11 ls [])) (k23 : ∀ (S : cs_T) (v1 : Nat) (v2 : Nat) (v3 : Nat) (v4 : Int32) (v5 : Int32) {H : Heap} {locs : List Loc} {ls : Array Slot}, va_P D vwCl (cs_w ad cI cR Ln S) H → va_D A (cs_w ad cI cR Ln S) → va_S A s.heap H locs → lv_has ls 7 [(0, .ref (ad 2)), (1, .ref (ad (9 + v1))), (2, .ref (ad (9 + v2))), (3, .ref (ad (9 + v3))), (4, .int v4), (5, .int v5)] → K23 S v1 v2 v3 v4 v5 → W p l e rm_X0_mingle s m args below meth c H locs 0 0 (MQ below (va_Qv Q (xr_B D (cs_ty cI cJ cR) (cs_w ad cI cR Ln) A) A) args s 0 0 A) (F0 m 23 ls [])) {H : Heap} {locs : List Loc} {ls : Array Slot} (hP : va_P D vwCl (cs_w ad cI cR Ln S) H) (hD : va_D A (cs_w ad cI cR Ln S)) (hS : va_S A s.heap H locs) (hl : lv_has ls 7 [(0, .ref (ad 2)), (1, .ref (ad (9 + v1))), (2, .ref (ad (9 + v2))), (3, .ref (ad (9 + v3))), (4, .int v4), (5, .int v5)]) (h : wp_X0_mingle_65 Ln K11 K23 Q S v1 v2 v3 v4 v5) : W p l e rm_X0_mingle s m args below meth c H locs 0 0 (MQ below (va_Qv Q (xr_B D (cs_ty cI cJ cR) (cs_w ad cI cR Ln) A) A) args s 0 0 A) (F0 m 65 ls []) := by
  obtain ⟨⟨hx, hb, hml, hown, hts⟩, hrt, hlk⟩ := id fx
  have hf : 0 ≤ rm_X0_mingle.cells ∧ 0 ≤ rm_X0_mingle.slots := ⟨Nat.zero_le _, Nat.zero_le _⟩
  unfold wp_X0_mingle_65 at h
  obtain ⟨v5_1, ev5_1⟩ : ∃ z : Int32, z = v5 + 1 := ⟨_, rfl⟩
  have h := h v5_1 ev5_1
  refine lv_iinc (v := v5_1) (lv' := [(5, .int v5_1), (0, .ref (ad 2)), (1, .ref (ad (9 + v1))), (2, .ref (ad (9 + v2))), (3, .ref (ad (9 + v3))), (4, .int v4)]) hx hb dX0_mingle_65 hl (k := 5) rfl (by rw [ev5_1]; rfl) (by decide) rfl (fun ls hl => ?_)
  refine lv_goto (tgt := 23) hx hb dX0_mingle_68 (by decide) ?_
  exact k23 _ _ _ _ _ _ hP hD hS (lv_sub hl [1, 2, 3, 4, 5, 0] rfl) h
set_option maxHeartbeats 4000000 in
set_option maxRecDepth 100000 in
theorem kb_X0_mingle_23 {p : Program} {l : Launch} {e : Env} {s : State} {m : MethodId} {args : Array Value} {below : List Frame} {meth : Method} {c : Code} {D : va_G} {ad : Nat → Nat} {cI cJ cR : ClassId} {Ln : Nat → Nat} {A : Nat → Prop} {K11 : cs_T → Nat → Nat → Nat → Int32 → Prop} {K23 : cs_T → Nat → Nat → Nat → Int32 → Int32 → Prop} {Q : cs_T → Prop} {S : cs_T} {v1 : Nat} {v2 : Nat} {v3 : Nat} {v4 : Int32} {v5 : Int32} (fx : xr_Fx p m c meth cX0_mingle 7 s args wsX0_mingle RX0 none) (hK : xr_K D (cs_ty cI cJ cR) s) (hA : ∀ q, s.heap.size ≤ q → A q)  (k11 : ∀ (S : cs_T) (v1 : Nat) (v2 : Nat) (v3 : Nat) (v4 : Int32) {H : Heap} {locs : List Loc} {ls : Array Slot}, va_P D vwCl (cs_w ad cI cR Ln S) H → va_D A (cs_w ad cI cR Ln S) → va_S A s.heap H locs → lv_has ls 7 [(0, .ref (ad 2)), (1, .ref (ad (9 + v1))), (2, .ref (ad (9 + v2))), (3, .ref (ad (9 + v3))), (4, .int v4)] → K11 S v1 v2 v3 v4 → W p l e rm_X0_mingle s m args below meth c H locs 0 0 (MQ below (va_Qv Q (xr_B D (cs_ty cI cJ cR) (cs_w ad cI cR Ln) A) A) args s 0 0 A) (F0 m 11 ls [])) (k23 : ∀ (S : cs_T) (v1 : Nat) (v2 : Nat) (v3 : Nat) (v4 : Int32) (v5 : Int32) {H : Heap} {locs : List Loc} {ls : Array Slot}, va_P D vwCl (cs_w ad cI cR Ln S) H → va_D A (cs_w ad cI cR Ln S) → va_S A s.heap H locs → lv_has ls 7 [(0, .ref (ad 2)), (1, .ref (ad (9 + v1))), (2, .ref (ad (9 + v2))), (3, .ref (ad (9 + v3))), (4, .int v4), (5, .int v5)] → K23 S v1 v2 v3 v4 v5 → W p l e rm_X0_mingle s m args below meth c H locs 0 0 (MQ below (va_Qv Q (xr_B D (cs_ty cI cJ cR) (cs_w ad cI cR Ln) A) A) args s 0 0 A) (F0 m 23 ls [])) {H : Heap} {locs : List Loc} {ls : Array Slot} (hP : va_P D vwCl (cs_w ad cI cR Ln S) H) (hD : va_D A (cs_w ad cI cR Ln S)) (hS : va_S A s.heap H locs) (hl : lv_has ls 7 [(0, .ref (ad 2)), (1, .ref (ad (9 + v1))), (2, .ref (ad (9 + v2))), (3, .ref (ad (9 + v3))), (4, .int v4), (5, .int v5)]) (h : wb_X0_mingle_23 Ln K11 K23 Q S v1 v2 v3 v4 v5) : W p l e rm_X0_mingle s m args below meth c H locs 0 0 (MQ below (va_Qv Q (xr_B D (cs_ty cI cJ cR) (cs_w ad cI cR Ln) A) A) args s 0 0 A) (F0 m 23 ls []) := by
  obtain ⟨⟨hx, hb, hml, hown, hts⟩, hrt, hlk⟩ := id fx
  have hf : 0 ≤ rm_X0_mingle.cells ∧ 0 ≤ rm_X0_mingle.slots := ⟨Nat.zero_le _, Nat.zero_le _⟩
  unfold wb_X0_mingle_23 at h
  refine lv_iload hx hb dX0_mingle_23 (lv_at hl 5 rfl) ?_
  refine lv_aload_n hx hb dX0_mingle_25 rfl (lv_at hl 0 rfl) ?_
  refine cs_get 2 0 4 (v := .ref (ad (9 + 0))) (ref := "BracketLetters$Algebra") fx (by decide) rfl rfl in_X0_mingle_X0 (by decide) rfl (by decide +kernel) rfl hK hP dX0_mingle_26 ?_
  refine lv_iload hx hb dX0_mingle_29 (lv_at hl 4 rfl) ?_
  obtain ⟨hi2, h⟩ := h
  refine cs_iald 0 (by decide) fx hK hP hi2 dX0_mingle_31 ?_
  refine lv_icmp_ge (tgt := 71) hx hb dX0_mingle_32 (by decide) (fun c32 => ?_) (fun c32 => ?_)
  · have h := h.1 c32
    obtain ⟨v4_3, ev4_3⟩ : ∃ z : Int32, z = v4 + 1 := ⟨_, rfl⟩
    have h := h v4_3 ev4_3
    refine lv_iinc (v := v4_3) (lv' := [(4, .int v4_3), (0, .ref (ad 2)), (1, .ref (ad (9 + v1))), (2, .ref (ad (9 + v2))), (3, .ref (ad (9 + v3))), (5, .int v5)]) hx hb dX0_mingle_71 hl (k := 4) rfl (by rw [ev4_3]; rfl) (by decide) rfl (fun ls hl => ?_)
    refine lv_goto (tgt := 11) hx hb dX0_mingle_74 (by decide) ?_
    exact k11 _ _ _ _ _ hP hD hS (lv_sub hl [1, 2, 3, 4, 0] rfl) h
  · have h := h.2 c32
    refine lv_aload_n hx hb dX0_mingle_35 rfl (lv_at hl 2 rfl) ?_
    refine lv_aload_n hx hb dX0_mingle_36 rfl (lv_at hl 0 rfl) ?_
    refine cs_get 2 0 5 (v := .ref (ad (9 + 1))) (ref := "BracketLetters$Algebra") fx (by decide) rfl rfl in_X0_mingle_X0 (by decide) rfl (by decide +kernel) rfl hK hP dX0_mingle_37 ?_
    refine lv_iload hx hb dX0_mingle_40 (lv_at hl 4 rfl) ?_
    obtain ⟨hi4, h⟩ := h
    refine cs_iald 1 (by decide) fx hK hP hi4 dX0_mingle_42 ?_
    refine lv_iload hx hb dX0_mingle_43 (lv_at hl 5 rfl) ?_
    refine lv_iadd hx hb dX0_mingle_45 ?_
    obtain ⟨hk6, h⟩ := h
    obtain ⟨hi5, h⟩ := h
    refine cs_iald v2 hk6 fx hK hP hi5 dX0_mingle_46 ?_
    refine lv_topi (fun v6_7 ev6_7 => ?_)
    have h := h v6_7 ev6_7
    refine lv_istore (lv' := [(6, .int v6_7), (0, .ref (ad 2)), (1, .ref (ad (9 + v1))), (2, .ref (ad (9 + v2))), (3, .ref (ad (9 + v3))), (4, .int v4), (5, .int v5)]) hx hb dX0_mingle_47 hl (by decide) rfl (fun ls hl => ?_)
    refine lv_iload hx hb dX0_mingle_49 (lv_at hl 0 rfl) ?_
    refine lv_if_eq (tgt := 65) hx hb dX0_mingle_51 (by decide) (fun c51 => ?_) (fun c51 => ?_)
    · have h := h.1 c51
      exact kw_X0_mingle_65 fx hK hA k11 k23 hP hD hS (lv_sub hl [1, 2, 3, 4, 5, 6] rfl) h
    · have h := h.2 c51
      refine lv_aload_n hx hb dX0_mingle_54 rfl (lv_at hl 1 rfl) ?_
      refine lv_iload hx hb dX0_mingle_55 (lv_at hl 5 rfl) ?_
      refine lv_iload hx hb dX0_mingle_57 (lv_at hl 6 rfl) ?_
      refine lv_iload hx hb dX0_mingle_59 (lv_at hl 0 rfl) ?_
      refine lv_aload_n hx hb dX0_mingle_61 rfl (lv_at hl 4 rfl) ?_
      refine xr_vV (n := 4) (As := [.int v4, .int v5, .int v6_7, .ref (ad (9 + v3))]) (rest := []) fx (ct_X0_mingleWord l D ad cI cJ cR Ln h) gX0_mingle_X0_mingleWord rfl rfl (by decide +kernel) ⟨Nat.le_of_ble_eq_true rfl, Nat.le_of_ble_eq_true rfl⟩ ⟨rfl, rfl⟩ hf (cs_recv 2 0 (by decide) rfl rfl hK hP) hK hP hD hS hA hl.1 rfl (Nat.le_of_ble_eq_true rfl) dX0_mingle_62 (fun S8 H locs h hP hD hS => ?_)
      exact kw_X0_mingle_65 fx hK hA k11 k23 hP hD hS (lv_sub hl [1, 2, 3, 4, 5, 6] rfl) h
theorem kw_X0_mingle_23 {p : Program} {l : Launch} {e : Env} {s : State} {m : MethodId} {args : Array Value} {below : List Frame} {meth : Method} {c : Code} {D : va_G} {ad : Nat → Nat} {cI cJ cR : ClassId} {Ln : Nat → Nat} {A : Nat → Prop} {K11 : cs_T → Nat → Nat → Nat → Int32 → Prop} {Q : cs_T → Prop} (fx : xr_Fx p m c meth cX0_mingle 7 s args wsX0_mingle RX0 none) (hK : xr_K D (cs_ty cI cJ cR) s) (hA : ∀ q, s.heap.size ≤ q → A q)  (k11 : ∀ (S : cs_T) (v1 : Nat) (v2 : Nat) (v3 : Nat) (v4 : Int32) {H : Heap} {locs : List Loc} {ls : Array Slot}, va_P D vwCl (cs_w ad cI cR Ln S) H → va_D A (cs_w ad cI cR Ln S) → va_S A s.heap H locs → lv_has ls 7 [(0, .ref (ad 2)), (1, .ref (ad (9 + v1))), (2, .ref (ad (9 + v2))), (3, .ref (ad (9 + v3))), (4, .int v4)] → K11 S v1 v2 v3 v4 → W p l e rm_X0_mingle s m args below meth c H locs 0 0 (MQ below (va_Qv Q (xr_B D (cs_ty cI cJ cR) (cs_w ad cI cR Ln) A) A) args s 0 0 A) (F0 m 11 ls [])) : ∀ (n : Nat) (S : cs_T) (v1 : Nat) (v2 : Nat) (v3 : Nat) (v4 : Int32) (v5 : Int32) {H : Heap} {locs : List Loc} {ls : Array Slot}, va_P D vwCl (cs_w ad cI cR Ln S) H → va_D A (cs_w ad cI cR Ln S) → va_S A s.heap H locs → lv_has ls 7 [(0, .ref (ad 2)), (1, .ref (ad (9 + v1))), (2, .ref (ad (9 + v2))), (3, .ref (ad (9 + v3))), (4, .int v4), (5, .int v5)] → wp_X0_mingle_23 Ln K11 Q n S v1 v2 v3 v4 v5 → W p l e rm_X0_mingle s m args below meth c H locs 0 0 (MQ below (va_Qv Q (xr_B D (cs_ty cI cJ cR) (cs_w ad cI cR Ln) A) A) args s 0 0 A) (F0 m 23 ls []) := by
  intro n
  induction n with
  | zero => intro S v1 v2 v3 v4 v5 H locs ls hP hD hS hl h; exact False.elim h
  | succ n ih => intro S v1 v2 v3 v4 v5 H locs ls hP hD hS hl h; exact kb_X0_mingle_23 fx hK hA k11 ih hP hD hS hl h
set_option maxHeartbeats 4000000 in
set_option maxRecDepth 100000 in
theorem kb_X0_mingle_11 {p : Program} {l : Launch} {e : Env} {s : State} {m : MethodId} {args : Array Value} {below : List Frame} {meth : Method} {c : Code} {D : va_G} {ad : Nat → Nat} {cI cJ cR : ClassId} {Ln : Nat → Nat} {A : Nat → Prop}  {K11 : cs_T → Nat → Nat → Nat → Int32 → Prop} {Q : cs_T → Prop} {S : cs_T} {v1 : Nat} {v2 : Nat} {v3 : Nat} {v4 : Int32} (fx : xr_Fx p m c meth cX0_mingle 7 s args wsX0_mingle RX0 none) (hK : xr_K D (cs_ty cI cJ cR) s) (hA : ∀ q, s.heap.size ≤ q → A q)   (k11 : ∀ (S : cs_T) (v1 : Nat) (v2 : Nat) (v3 : Nat) (v4 : Int32) {H : Heap} {locs : List Loc} {ls : Array Slot}, va_P D vwCl (cs_w ad cI cR Ln S) H → va_D A (cs_w ad cI cR Ln S) → va_S A s.heap H locs → lv_has ls 7 [(0, .ref (ad 2)), (1, .ref (ad (9 + v1))), (2, .ref (ad (9 + v2))), (3, .ref (ad (9 + v3))), (4, .int v4)] → K11 S v1 v2 v3 v4 → W p l e rm_X0_mingle s m args below meth c H locs 0 0 (MQ below (va_Qv Q (xr_B D (cs_ty cI cJ cR) (cs_w ad cI cR Ln) A) A) args s 0 0 A) (F0 m 11 ls [])) {H : Heap} {locs : List Loc} {ls : Array Slot} (hP : va_P D vwCl (cs_w ad cI cR Ln S) H) (hD : va_D A (cs_w ad cI cR Ln S)) (hS : va_S A s.heap H locs) (hl : lv_has ls 7 [(0, .ref (ad 2)), (1, .ref (ad (9 + v1))), (2, .ref (ad (9 + v2))), (3, .ref (ad (9 + v3))), (4, .int v4)]) (h : wb_X0_mingle_11 Ln K11 Q S v1 v2 v3 v4) : W p l e rm_X0_mingle s m args below meth c H locs 0 0 (MQ below (va_Qv Q (xr_B D (cs_ty cI cJ cR) (cs_w ad cI cR Ln) A) A) args s 0 0 A) (F0 m 11 ls []) := by
  obtain ⟨⟨hx, hb, hml, hown, hts⟩, hrt, hlk⟩ := id fx
  have hf : 0 ≤ rm_X0_mingle.cells ∧ 0 ≤ rm_X0_mingle.slots := ⟨Nat.zero_le _, Nat.zero_le _⟩
  unfold wb_X0_mingle_11 at h
  refine lv_iload hx hb dX0_mingle_11 (lv_at hl 4 rfl) ?_
  refine lv_aload_n hx hb dX0_mingle_13 rfl (lv_at hl 0 rfl) ?_
  refine cs_get 2 0 2 (v := .int (S.1 0)) (ref := "BracketLetters$Algebra") fx (by decide) rfl rfl in_X0_mingle_X0 (by decide) rfl (by decide +kernel) rfl hK hP dX0_mingle_14 ?_
  refine lv_icmp_gt (tgt := 77) hx hb dX0_mingle_17 (by decide) (fun c17 => ?_) (fun c17 => ?_)
  · have h := h.1 c17
    refine lv_aload_n hx hb dX0_mingle_77 rfl (lv_at hl 0 rfl) ?_
    refine lv_aload_n hx hb dX0_mingle_78 rfl (lv_at hl 1 rfl) ?_
    refine lv_aload_n hx hb dX0_mingle_79 rfl (lv_at hl 0 rfl) ?_
    refine cs_get 2 0 7 (v := .ref (ad (9 + 3))) (ref := "BracketLetters$Algebra") fx (by decide) rfl rfl in_X0_mingle_X0 (by decide) rfl (by decide +kernel) rfl hK hP dX0_mingle_80 ?_
    refine xr_vV (n := 2) (As := [.ref (ad (9 + v1)), .ref (ad (9 + 3))]) (rest := []) fx (ct_X0_copy l D ad cI cJ cR Ln h) gX0_mingle_X0_copy rfl rfl (by decide +kernel) ⟨Nat.le_of_ble_eq_true rfl, Nat.le_of_ble_eq_true rfl⟩ ⟨rfl, rfl⟩ hf (cs_recv 2 0 (by decide) rfl rfl hK hP) hK hP hD hS hA hl.1 rfl (Nat.le_of_ble_eq_true rfl) dX0_mingle_83 (fun S9 H locs h hP hD hS => ?_)
    exact xr_rV fx hK hP hD hS h dX0_mingle_86
  · have h := h.2 c17
    refine lv_iconst (v := 0) hx hb dX0_mingle_20 (by decide) ?_
    refine lv_istore (lv' := [(5, .int 0), (0, .ref (ad 2)), (1, .ref (ad (9 + v1))), (2, .ref (ad (9 + v2))), (3, .ref (ad (9 + v3))), (4, .int v4)]) hx hb dX0_mingle_21 hl (by decide) rfl (fun ls hl => ?_)
    obtain ⟨n, h⟩ := h
    exact kw_X0_mingle_23 fx hK hA k11 n _ _ _ _ _ _ hP hD hS (lv_sub hl [1, 2, 3, 4, 5, 0] rfl) h
theorem kw_X0_mingle_11 {p : Program} {l : Launch} {e : Env} {s : State} {m : MethodId} {args : Array Value} {below : List Frame} {meth : Method} {c : Code} {D : va_G} {ad : Nat → Nat} {cI cJ cR : ClassId} {Ln : Nat → Nat} {A : Nat → Prop}  {Q : cs_T → Prop} (fx : xr_Fx p m c meth cX0_mingle 7 s args wsX0_mingle RX0 none) (hK : xr_K D (cs_ty cI cJ cR) s) (hA : ∀ q, s.heap.size ≤ q → A q)   : ∀ (n : Nat) (S : cs_T) (v1 : Nat) (v2 : Nat) (v3 : Nat) (v4 : Int32) {H : Heap} {locs : List Loc} {ls : Array Slot}, va_P D vwCl (cs_w ad cI cR Ln S) H → va_D A (cs_w ad cI cR Ln S) → va_S A s.heap H locs → lv_has ls 7 [(0, .ref (ad 2)), (1, .ref (ad (9 + v1))), (2, .ref (ad (9 + v2))), (3, .ref (ad (9 + v3))), (4, .int v4)] → wp_X0_mingle_11 Ln Q n S v1 v2 v3 v4 → W p l e rm_X0_mingle s m args below meth c H locs 0 0 (MQ below (va_Qv Q (xr_B D (cs_ty cI cJ cR) (cs_w ad cI cR Ln) A) A) args s 0 0 A) (F0 m 11 ls []) := by
  intro n
  induction n with
  | zero => intro S v1 v2 v3 v4 H locs ls hP hD hS hl h; exact False.elim h
  | succ n ih => intro S v1 v2 v3 v4 H locs ls hP hD hS hl h; exact kb_X0_mingle_11 fx hK hA ih hP hD hS hl h
set_option maxHeartbeats 4000000 in
set_option maxRecDepth 100000 in
theorem ct_X0_mingle (l : Launch) (D : va_G) (ad : Nat → Nat) (cI cJ cR : ClassId) (Ln : Nat → Nat) {S : cs_T} {a1 : Nat} {a2 : Nat} {a3 : Nat} {Q : cs_T → Prop} (h : wp_X0_mingle Ln S a1 a2 a3 Q) : xr_V l D (cs_ty cI cJ cR) (cs_w ad cI cR Ln) yX0_mingle wsX0_mingle rm_X0_mingle [.ref (ad 2), .ref (ad (9 + a1)), .ref (ad (9 + a2)), .ref (ad (9 + a3))] S Q := by
  refine xr_eV (cc := cX0_mingle) (nL := 7) (ret := none) (own := RX0) (by decide) rfl rfl (Nat.le_of_ble_eq_true rfl) ?_
  intro p e s m args below meth c ls A fx hK hA hP hD hS hl
  have hl : lv_has ls 7 [(0, .ref (ad 2)), (1, .ref (ad (9 + a1))), (2, .ref (ad (9 + a2))), (3, .ref (ad (9 + a3)))] := hl
  show W p l e rm_X0_mingle s m args below meth c s.heap [] 0 0 _ _
  obtain ⟨⟨hx, hb, hml, hown, hts⟩, hrt, hlk⟩ := id fx
  have hf : 0 ≤ rm_X0_mingle.cells ∧ 0 ≤ rm_X0_mingle.slots := ⟨Nat.zero_le _, Nat.zero_le _⟩
  unfold wp_X0_mingle at h
  refine lv_aload_n hx hb dX0_mingle_0 rfl (lv_at hl 0 rfl) ?_
  refine cs_get 2 0 7 (v := .ref (ad (9 + 3))) (ref := "BracketLetters$Algebra") fx (by decide) rfl rfl in_X0_mingle_X0 (by decide) rfl (by decide +kernel) rfl hK hP dX0_mingle_1 ?_
  refine lv_iconst (v := 0) hx hb dX0_mingle_4 (by decide) ?_
  refine xr_wV (n := 2) (As := [.ref (ad (9 + 3)), .int 0]) (rest := []) fx (ct_J7_fill_53178 l D ad cI cJ cR Ln h) gX0_mingle_J7_fill_53178 rfl rfl (by decide +kernel) ⟨Nat.le_of_ble_eq_true rfl, Nat.le_of_ble_eq_true rfl⟩ ⟨rfl, rfl⟩ hf hK hP hD hS hA hl.1 rfl (Nat.le_of_ble_eq_true rfl) dX0_mingle_5 (fun S10 H locs h hP hD hS => ?_)
  refine lv_iconst (v := 0) hx hb dX0_mingle_8 (by decide) ?_
  refine lv_istore (lv' := [(4, .int 0), (0, .ref (ad 2)), (1, .ref (ad (9 + a1))), (2, .ref (ad (9 + a2))), (3, .ref (ad (9 + a3)))]) hx hb dX0_mingle_9 hl (by decide) rfl (fun ls hl => ?_)
  obtain ⟨n, h⟩ := h
  exact kw_X0_mingle_11 fx hK hA n _ _ _ _ _ hP hD hS (lv_sub hl [1, 2, 3, 4, 0] rfl) h
abbrev rm_X7_shuffle : Room := { frames := 11, cells := 0, slots := 0, locals := 314 }
theorem in_X7_shuffle_X7 : ∀ w ∈ wsX70, w ∈ wsX7_shuffle := by decide +kernel
set_option maxHeartbeats 4000000 in
set_option maxRecDepth 100000 in
theorem ct_X7_shuffle (l : Launch) (D : va_G) (ad : Nat → Nat) (cI cJ cR : ClassId) (Ln : Nat → Nat) {S : cs_T} {a1 : Int32} {a2 : Int32} {a3 : Int32} {Q : Int32 → cs_T → Prop} (h : wp_X7_shuffle Ln S a1 a2 a3 Q) : xr_I l D (cs_ty cI cJ cR) (cs_w ad cI cR Ln) yX7_shuffle wsX7_shuffle rm_X7_shuffle [.ref (ad 0), .int a1, .int a2, .int a3] S Q := by
  refine xr_eI (cc := cX7_shuffle) (nL := 4) (ret := (some .int)) (own := RX7) (by decide) rfl rfl (Nat.le_of_ble_eq_true rfl) ?_
  intro p e s m args below meth c ls A fx hK hA hP hD hS hl
  have hl : lv_has ls 4 [(0, .ref (ad 0)), (1, .int a1), (2, .int a2), (3, .int a3)] := hl
  show W p l e rm_X7_shuffle s m args below meth c s.heap [] 0 0 _ _
  obtain ⟨⟨hx, hb, hml, hown, hts⟩, hrt, hlk⟩ := id fx
  have hf : 0 ≤ rm_X7_shuffle.cells ∧ 0 ≤ rm_X7_shuffle.slots := ⟨Nat.zero_le _, Nat.zero_le _⟩
  unfold wp_X7_shuffle at h
  refine lv_iload_n hx hb dX7_shuffle_0 rfl (lv_at hl 1 rfl) ?_
  refine xr_sI (n := 1) (As := [.int a1]) (rest := []) fx (ct_X7_noSum l h) gX7_shuffle_X7_noSum rfl rfl (by decide +kernel) ⟨Nat.le_of_ble_eq_true rfl, Nat.le_of_ble_eq_true rfl⟩ ⟨rfl, rfl⟩ hf hl.1 rfl (Nat.le_of_ble_eq_true rfl) dX7_shuffle_1 (fun r1 h => ?_)
  refine lv_if_ne (tgt := 21) hx hb dX7_shuffle_4 (by decide) (fun c4 => ?_) (fun c4 => ?_)
  · have h := h.1 c4
    refine lv_iconst (v := (-1)) hx hb dX7_shuffle_21 (by decide) ?_
    exact xr_rI fx hK hP hD hS h dX7_shuffle_22
  · have h := h.2 c4
    refine lv_iload_n hx hb dX7_shuffle_7 rfl (lv_at hl 2 rfl) ?_
    refine xr_sI (n := 1) (As := [.int a2]) (rest := []) fx (ct_X7_noSum l h) gX7_shuffle_X7_noSum rfl rfl (by decide +kernel) ⟨Nat.le_of_ble_eq_true rfl, Nat.le_of_ble_eq_true rfl⟩ ⟨rfl, rfl⟩ hf hl.1 rfl (Nat.le_of_ble_eq_true rfl) dX7_shuffle_8 (fun r2 h => ?_)
    refine lv_if_ne (tgt := 21) hx hb dX7_shuffle_11 (by decide) (fun c11 => ?_) (fun c11 => ?_)
    · have h := h.1 c11
      refine lv_iconst (v := (-1)) hx hb dX7_shuffle_21 (by decide) ?_
      exact xr_rI fx hK hP hD hS h dX7_shuffle_22
    · have h := h.2 c11
      refine lv_iload_n hx hb dX7_shuffle_14 rfl (lv_at hl 3 rfl) ?_
      refine xr_sI (n := 1) (As := [.int a3]) (rest := []) fx (ct_X7_noSum l h) gX7_shuffle_X7_noSum rfl rfl (by decide +kernel) ⟨Nat.le_of_ble_eq_true rfl, Nat.le_of_ble_eq_true rfl⟩ ⟨rfl, rfl⟩ hf hl.1 rfl (Nat.le_of_ble_eq_true rfl) dX7_shuffle_15 (fun r3 h => ?_)
      refine lv_if_eq (tgt := 23) hx hb dX7_shuffle_18 (by decide) (fun c18 => ?_) (fun c18 => ?_)
      · have h := h.1 c18
        refine lv_aload_n hx hb dX7_shuffle_23 rfl (lv_at hl 0 rfl) ?_
        refine cs_get 0 6 2 (v := .ref (ad 2)) (ref := "BracketLetters") fx (by decide) rfl rfl in_X7_shuffle_X7 (by decide) rfl (by decide +kernel) rfl hK hP dX7_shuffle_24 ?_
        refine lv_aload_n hx hb dX7_shuffle_27 rfl (lv_at hl 0 rfl) ?_
        refine cs_get 0 6 1 (v := .ref (ad 7)) (ref := "BracketLetters") fx (by decide) rfl rfl in_X7_shuffle_X7 (by decide) rfl (by decide +kernel) rfl hK hP dX7_shuffle_28 ?_
        refine lv_iload_n hx hb dX7_shuffle_31 rfl (lv_at hl 1 rfl) ?_
        obtain ⟨hi4, h⟩ := h
        refine cs_aald 7 8 7 fx (by decide) rfl hK hP hi4 dX7_shuffle_32 ?_
        refine lv_aload_n hx hb dX7_shuffle_33 rfl (lv_at hl 0 rfl) ?_
        refine cs_get 0 6 1 (v := .ref (ad 7)) (ref := "BracketLetters") fx (by decide) rfl rfl in_X7_shuffle_X7 (by decide) rfl (by decide +kernel) rfl hK hP dX7_shuffle_34 ?_
        refine lv_iload_n hx hb dX7_shuffle_37 rfl (lv_at hl 2 rfl) ?_
        obtain ⟨hi5, h⟩ := h
        refine cs_aald 7 8 7 fx (by decide) rfl hK hP hi5 dX7_shuffle_38 ?_
        refine lv_aload_n hx hb dX7_shuffle_39 rfl (lv_at hl 0 rfl) ?_
        refine cs_get 0 6 1 (v := .ref (ad 7)) (ref := "BracketLetters") fx (by decide) rfl rfl in_X7_shuffle_X7 (by decide) rfl (by decide +kernel) rfl hK hP dX7_shuffle_40 ?_
        refine lv_iload_n hx hb dX7_shuffle_43 rfl (lv_at hl 3 rfl) ?_
        obtain ⟨hi6, h⟩ := h
        refine cs_aald 7 8 7 fx (by decide) rfl hK hP hi6 dX7_shuffle_44 ?_
        refine xr_vV (n := 3) (As := [.ref (ad (9 + (7 + a1.toNatClampNeg))), .ref (ad (9 + (7 + a2.toNatClampNeg))), .ref (ad (9 + (7 + a3.toNatClampNeg)))]) (rest := []) fx (ct_X0_mingle l D ad cI cJ cR Ln h) gX7_shuffle_X0_mingle rfl rfl (by decide +kernel) ⟨Nat.le_of_ble_eq_true rfl, Nat.le_of_ble_eq_true rfl⟩ ⟨rfl, rfl⟩ hf (cs_recv 2 0 (by decide) rfl rfl hK hP) hK hP hD hS hA hl.1 rfl (Nat.le_of_ble_eq_true rfl) dX7_shuffle_45 (fun S7 H locs h hP hD hS => ?_)
        refine lv_iconst (v := 0) hx hb dX7_shuffle_48 (by decide) ?_
        exact xr_rI fx hK hP hD hS h dX7_shuffle_49
      · have h := h.2 c18
        refine lv_iconst (v := (-1)) hx hb dX7_shuffle_21 (by decide) ?_
        exact xr_rI fx hK hP hD hS h dX7_shuffle_22
abbrev rm_X6_backward : Room := { frames := 0, cells := 0, slots := 0, locals := 0 }
theorem in_X6_backward_X6 : ∀ w ∈ wsX60, w ∈ wsX6_backward := by decide +kernel
set_option maxHeartbeats 4000000 in
set_option maxRecDepth 100000 in
theorem kb_X6_backward_8 {p : Program} {l : Launch} {e : Env} {s : State} {m : MethodId} {args : Array Value} {below : List Frame} {meth : Method} {c : Code} {D : va_G} {ad : Nat → Nat} {cI cJ cR : ClassId} {Ln : Nat → Nat} {A : Nat → Prop}  {K8 : cs_T → Int32 → Int32 → Int32 → Int32 → Prop} {Q : Int32 → cs_T → Prop} {S : cs_T} {v2 : Int32} {v3 : Int32} {v4 : Int32} {v5 : Int32} (fx : xr_Fx p m c meth cX6_backward 6 s args wsX6_backward RX6 (some .int)) (hK : xr_K D (cs_ty cI cJ cR) s) (hA : ∀ q, s.heap.size ≤ q → A q)   (k8 : ∀ (S : cs_T) (v2 : Int32) (v3 : Int32) (v4 : Int32) (v5 : Int32) {H : Heap} {locs : List Loc} {ls : Array Slot}, va_P D vwCl (cs_w ad cI cR Ln S) H → va_D A (cs_w ad cI cR Ln S) → va_S A s.heap H locs → lv_has ls 6 [(0, .ref (ad 1)), (2, .int v2), (3, .int v3), (4, .int v4), (5, .int v5)] → K8 S v2 v3 v4 v5 → W p l e rm_X6_backward s m args below meth c H locs 0 0 (MQ below (va_Qi Q (xr_B D (cs_ty cI cJ cR) (cs_w ad cI cR Ln) A) A) args s 0 0 A) (F0 m 8 ls [])) {H : Heap} {locs : List Loc} {ls : Array Slot} (hP : va_P D vwCl (cs_w ad cI cR Ln S) H) (hD : va_D A (cs_w ad cI cR Ln S)) (hS : va_S A s.heap H locs) (hl : lv_has ls 6 [(0, .ref (ad 1)), (2, .int v2), (3, .int v3), (4, .int v4), (5, .int v5)]) (h : wb_X6_backward_8 Ln K8 Q S v2 v3 v4 v5) : W p l e rm_X6_backward s m args below meth c H locs 0 0 (MQ below (va_Qi Q (xr_B D (cs_ty cI cJ cR) (cs_w ad cI cR Ln) A) A) args s 0 0 A) (F0 m 8 ls []) := by
  obtain ⟨⟨hx, hb, hml, hown, hts⟩, hrt, hlk⟩ := id fx
  have hf : 0 ≤ rm_X6_backward.cells ∧ 0 ≤ rm_X6_backward.slots := ⟨Nat.zero_le _, Nat.zero_le _⟩
  unfold wb_X6_backward_8 at h
  refine lv_iload hx hb dX6_backward_8 (lv_at hl 4 rfl) ?_
  refine lv_iload_n hx hb dX6_backward_10 rfl (lv_at hl 1 rfl) ?_
  refine lv_icmp_ge (tgt := 43) hx hb dX6_backward_11 (by decide) (fun c11 => ?_) (fun c11 => ?_)
  · have h := h.1 c11
    refine lv_iload hx hb dX6_backward_43 (lv_at hl 3 rfl) ?_
    exact xr_rI fx hK hP hD hS h dX6_backward_45
  · have h := h.2 c11
    refine lv_iload hx hb dX6_backward_14 (lv_at hl 3 rfl) ?_
    refine lv_aload_n hx hb dX6_backward_16 rfl (lv_at hl 0 rfl) ?_
    refine cs_get 1 5 0 (v := .int (S.1 2)) (ref := "BracketLetters$Words") fx (by decide) rfl rfl in_X6_backward_X6 (by decide) rfl (by decide +kernel) rfl hK hP dX6_backward_17 ?_
    refine lv_imul hx hb dX6_backward_20 ?_
    refine lv_iload_n hx hb dX6_backward_21 rfl (lv_at hl 2 rfl) ?_
    refine lv_aload_n hx hb dX6_backward_22 rfl (lv_at hl 0 rfl) ?_
    refine cs_get 1 5 0 (v := .int (S.1 2)) (ref := "BracketLetters$Words") fx (by decide) rfl rfl in_X6_backward_X6 (by decide) rfl (by decide +kernel) rfl hK hP dX6_backward_23 ?_
    obtain ⟨hz1, h⟩ := h
    refine lv_irem hx hb dX6_backward_26 hz1 ?_
    refine lv_iadd hx hb dX6_backward_27 ?_
    refine lv_topi (fun v4_2 ev4_2 => ?_)
    have h := h v4_2 ev4_2
    refine lv_istore (lv' := [(4, .int v4_2), (0, .ref (ad 1)), (2, .int v2), (3, .int v3), (5, .int v5)]) hx hb dX6_backward_28 hl (by decide) rfl (fun ls hl => ?_)
    refine lv_iload_n hx hb dX6_backward_30 rfl (lv_at hl 3 rfl) ?_
    refine lv_aload_n hx hb dX6_backward_31 rfl (lv_at hl 1 rfl) ?_
    refine cs_get 1 5 0 (v := .int (S.1 2)) (ref := "BracketLetters$Words") fx (by decide) rfl rfl in_X6_backward_X6 (by decide) rfl (by decide +kernel) rfl hK hP dX6_backward_32 ?_
    obtain ⟨hz3, h⟩ := h
    refine lv_idiv hx hb dX6_backward_35 hz3 ?_
    refine lv_topi (fun v3_4 ev3_4 => ?_)
    have h := h v3_4 ev3_4
    refine lv_istore_n (lv' := [(3, .int v3_4), (4, .int v4_2), (0, .ref (ad 1)), (2, .int v2), (5, .int v5)]) hx hb dX6_backward_36 rfl hl (by decide) rfl (fun ls hl => ?_)
    obtain ⟨v5_5, ev5_5⟩ : ∃ z : Int32, z = v5 + 1 := ⟨_, rfl⟩
    have h := h v5_5 ev5_5
    refine lv_iinc (v := v5_5) (lv' := [(5, .int v5_5), (3, .int v3_4), (4, .int v4_2), (0, .ref (ad 1)), (2, .int v2)]) hx hb dX6_backward_37 hl (k := 4) rfl (by rw [ev5_5]; rfl) (by decide) rfl (fun ls hl => ?_)
    refine lv_goto (tgt := 8) hx hb dX6_backward_40 (by decide) ?_
    exact k8 _ _ _ _ _ hP hD hS (lv_sub hl [3, 4, 1, 2, 0] rfl) h
theorem kw_X6_backward_8 {p : Program} {l : Launch} {e : Env} {s : State} {m : MethodId} {args : Array Value} {below : List Frame} {meth : Method} {c : Code} {D : va_G} {ad : Nat → Nat} {cI cJ cR : ClassId} {Ln : Nat → Nat} {A : Nat → Prop}  {Q : Int32 → cs_T → Prop} (fx : xr_Fx p m c meth cX6_backward 6 s args wsX6_backward RX6 (some .int)) (hK : xr_K D (cs_ty cI cJ cR) s) (hA : ∀ q, s.heap.size ≤ q → A q)   : ∀ (n : Nat) (S : cs_T) (v2 : Int32) (v3 : Int32) (v4 : Int32) (v5 : Int32) {H : Heap} {locs : List Loc} {ls : Array Slot}, va_P D vwCl (cs_w ad cI cR Ln S) H → va_D A (cs_w ad cI cR Ln S) → va_S A s.heap H locs → lv_has ls 6 [(0, .ref (ad 1)), (2, .int v2), (3, .int v3), (4, .int v4), (5, .int v5)] → wp_X6_backward_8 Ln Q n S v2 v3 v4 v5 → W p l e rm_X6_backward s m args below meth c H locs 0 0 (MQ below (va_Qi Q (xr_B D (cs_ty cI cJ cR) (cs_w ad cI cR Ln) A) A) args s 0 0 A) (F0 m 8 ls []) := by
  intro n
  induction n with
  | zero => intro S v2 v3 v4 v5 H locs ls hP hD hS hl h; exact False.elim h
  | succ n ih => intro S v2 v3 v4 v5 H locs ls hP hD hS hl h; exact kb_X6_backward_8 fx hK hA ih hP hD hS hl h
set_option maxHeartbeats 4000000 in
set_option maxRecDepth 100000 in
theorem ct_X6_backward (l : Launch) (D : va_G) (ad : Nat → Nat) (cI cJ cR : ClassId) (Ln : Nat → Nat) {S : cs_T} {a1 : Int32} {a2 : Int32} {Q : Int32 → cs_T → Prop} (h : wp_X6_backward Ln S a1 a2 Q) : xr_I l D (cs_ty cI cJ cR) (cs_w ad cI cR Ln) yX6_backward wsX6_backward rm_X6_backward [.ref (ad 1), .int a1, .int a2] S Q := by
  refine xr_eI (cc := cX6_backward) (nL := 6) (ret := (some .int)) (own := RX6) (by decide) rfl rfl (Nat.le_of_ble_eq_true rfl) ?_
  intro p e s m args below meth c ls A fx hK hA hP hD hS hl
  have hl : lv_has ls 6 [(0, .ref (ad 1)), (1, .int a1), (2, .int a2)] := hl
  show W p l e rm_X6_backward s m args below meth c s.heap [] 0 0 _ _
  obtain ⟨⟨hx, hb, hml, hown, hts⟩, hrt, hlk⟩ := id fx
  have hf : 0 ≤ rm_X6_backward.cells ∧ 0 ≤ rm_X6_backward.slots := ⟨Nat.zero_le _, Nat.zero_le _⟩
  unfold wp_X6_backward at h
  refine lv_iload_n hx hb dX6_backward_0 rfl (lv_at hl 1 rfl) ?_
  refine lv_istore_n (lv' := [(3, .int a1), (0, .ref (ad 1)), (1, .int a1), (2, .int a2)]) hx hb dX6_backward_1 rfl hl (by decide) rfl (fun ls hl => ?_)
  refine lv_iconst (v := 0) hx hb dX6_backward_2 (by decide) ?_
  refine lv_istore (lv' := [(4, .int 0), (3, .int a1), (0, .ref (ad 1)), (1, .int a1), (2, .int a2)]) hx hb dX6_backward_3 hl (by decide) rfl (fun ls hl => ?_)
  refine lv_iconst (v := 0) hx hb dX6_backward_5 (by decide) ?_
  refine lv_istore (lv' := [(5, .int 0), (4, .int 0), (3, .int a1), (0, .ref (ad 1)), (1, .int a1), (2, .int a2)]) hx hb dX6_backward_6 hl (by decide) rfl (fun ls hl => ?_)
  obtain ⟨n, h⟩ := h
  exact kw_X6_backward_8 fx hK hA n _ _ _ _ _ hP hD hS (lv_sub hl [3, 5, 2, 1, 0] rfl) h
abbrev rm_X0_turnAbout : Room := { frames := 2, cells := 0, slots := 0, locals := 70 }
theorem in_X0_turnAbout_X0 : ∀ w ∈ wsX00, w ∈ wsX0_turnAbout := by decide +kernel
set_option maxHeartbeats 4000000 in
set_option maxRecDepth 100000 in
theorem kw_X0_turnAbout_79 {p : Program} {l : Launch} {e : Env} {s : State} {m : MethodId} {args : Array Value} {below : List Frame} {meth : Method} {c : Code} {D : va_G} {ad : Nat → Nat} {cI cJ cR : ClassId} {Ln : Nat → Nat} {A : Nat → Prop} {K2 : cs_T → Nat → Nat → Int32 → Prop} {K13 : cs_T → Nat → Nat → Int32 → Int32 → Prop} {Q : cs_T → Prop} {S : cs_T} {v1 : Nat} {v2 : Nat} {v3 : Int32} {v4 : Int32} {s0 : Nat} {s1 : Int32} {s2 : Int32} (fx : xr_Fx p m c meth cX0_turnAbout 7 s args wsX0_turnAbout RX0 none) (hK : xr_K D (cs_ty cI cJ cR) s) (hA : ∀ q, s.heap.size ≤ q → A q)  (k2 : ∀ (S : cs_T) (v1 : Nat) (v2 : Nat) (v3 : Int32) {H : Heap} {locs : List Loc} {ls : Array Slot}, va_P D vwCl (cs_w ad cI cR Ln S) H → va_D A (cs_w ad cI cR Ln S) → va_S A s.heap H locs → lv_has ls 7 [(0, .ref (ad 2)), (1, .ref (ad (9 + v1))), (2, .ref (ad (9 + v2))), (3, .int v3)] → K2 S v1 v2 v3 → W p l e rm_X0_turnAbout s m args below meth c H locs 0 0 (MQ below (va_Qv Q (xr_B D (cs_ty cI cJ cR) (cs_w ad cI cR Ln) A) A) args s 0 0 A) (F0 m 2 ls [])) (k13 : ∀ (S : cs_T) (v1 : Nat) (v2 : Nat) (v3 : Int32) (v4 : Int32) {H : Heap} {locs : List Loc} {ls : Array Slot}, va_P D vwCl (cs_w ad cI cR Ln S) H → va_D A (cs_w ad cI cR Ln S) → va_S A s.heap H locs → lv_has ls 7 [(0, .ref (ad 2)), (1, .ref (ad (9 + v1))), (2, .ref (ad (9 + v2))), (3, .int v3), (4, .int v4)] → K13 S v1 v2 v3 v4 → W p l e rm_X0_turnAbout s m args below meth c H locs 0 0 (MQ below (va_Qv Q (xr_B D (cs_ty cI cJ cR) (cs_w ad cI cR Ln) A) A) args s 0 0 A) (F0 m 13 ls [])) {H : Heap} {locs : List Loc} {ls : Array Slot} (hP : va_P D vwCl (cs_w ad cI cR Ln S) H) (hD : va_D A (cs_w ad cI cR Ln S)) (hS : va_S A s.heap H locs) (hl : lv_has ls 7 [(0, .ref (ad 2)), (1, .ref (ad (9 + v1))), (2, .ref (ad (9 + v2))), (3, .int v3), (4, .int v4)]) (h : wp_X0_turnAbout_79 Ln K2 K13 Q S v1 v2 v3 v4 s0 s1 s2) : W p l e rm_X0_turnAbout s m args below meth c H locs 0 0 (MQ below (va_Qv Q (xr_B D (cs_ty cI cJ cR) (cs_w ad cI cR Ln) A) A) args s 0 0 A) (F0 m 79 ls [.int s2, .int s1, .ref (ad (9 + s0))]) := by
  obtain ⟨⟨hx, hb, hml, hown, hts⟩, hrt, hlk⟩ := id fx
  have hf : 0 ≤ rm_X0_turnAbout.cells ∧ 0 ≤ rm_X0_turnAbout.slots := ⟨Nat.zero_le _, Nat.zero_le _⟩
  unfold wp_X0_turnAbout_79 at h
  obtain ⟨hk2, h⟩ := h
  obtain ⟨hi1, h⟩ := h
  refine cs_iast s0 hk2 fx hK hP hD hS hi1 dX0_turnAbout_79 (fun H locs hP hD hS => ?_)
  obtain ⟨v4_3, ev4_3⟩ : ∃ z : Int32, z = v4 + 1 := ⟨_, rfl⟩
  have h := h v4_3 ev4_3
  refine lv_iinc (v := v4_3) (lv' := [(4, .int v4_3), (0, .ref (ad 2)), (1, .ref (ad (9 + v1))), (2, .ref (ad (9 + v2))), (3, .int v3)]) hx hb dX0_turnAbout_80 hl (k := 4) rfl (by rw [ev4_3]; rfl) (by decide) rfl (fun ls hl => ?_)
  refine lv_goto (tgt := 13) hx hb dX0_turnAbout_83 (by decide) ?_
  exact k13 _ _ _ _ _ hP hD hS (lv_sub hl [1, 2, 3, 4, 0] rfl) h
set_option maxHeartbeats 4000000 in
set_option maxRecDepth 100000 in
theorem kb_X0_turnAbout_13 {p : Program} {l : Launch} {e : Env} {s : State} {m : MethodId} {args : Array Value} {below : List Frame} {meth : Method} {c : Code} {D : va_G} {ad : Nat → Nat} {cI cJ cR : ClassId} {Ln : Nat → Nat} {A : Nat → Prop} {K2 : cs_T → Nat → Nat → Int32 → Prop} {K13 : cs_T → Nat → Nat → Int32 → Int32 → Prop} {Q : cs_T → Prop} {S : cs_T} {v1 : Nat} {v2 : Nat} {v3 : Int32} {v4 : Int32} (fx : xr_Fx p m c meth cX0_turnAbout 7 s args wsX0_turnAbout RX0 none) (hK : xr_K D (cs_ty cI cJ cR) s) (hA : ∀ q, s.heap.size ≤ q → A q)  (k2 : ∀ (S : cs_T) (v1 : Nat) (v2 : Nat) (v3 : Int32) {H : Heap} {locs : List Loc} {ls : Array Slot}, va_P D vwCl (cs_w ad cI cR Ln S) H → va_D A (cs_w ad cI cR Ln S) → va_S A s.heap H locs → lv_has ls 7 [(0, .ref (ad 2)), (1, .ref (ad (9 + v1))), (2, .ref (ad (9 + v2))), (3, .int v3)] → K2 S v1 v2 v3 → W p l e rm_X0_turnAbout s m args below meth c H locs 0 0 (MQ below (va_Qv Q (xr_B D (cs_ty cI cJ cR) (cs_w ad cI cR Ln) A) A) args s 0 0 A) (F0 m 2 ls [])) (k13 : ∀ (S : cs_T) (v1 : Nat) (v2 : Nat) (v3 : Int32) (v4 : Int32) {H : Heap} {locs : List Loc} {ls : Array Slot}, va_P D vwCl (cs_w ad cI cR Ln S) H → va_D A (cs_w ad cI cR Ln S) → va_S A s.heap H locs → lv_has ls 7 [(0, .ref (ad 2)), (1, .ref (ad (9 + v1))), (2, .ref (ad (9 + v2))), (3, .int v3), (4, .int v4)] → K13 S v1 v2 v3 v4 → W p l e rm_X0_turnAbout s m args below meth c H locs 0 0 (MQ below (va_Qv Q (xr_B D (cs_ty cI cJ cR) (cs_w ad cI cR Ln) A) A) args s 0 0 A) (F0 m 13 ls [])) {H : Heap} {locs : List Loc} {ls : Array Slot} (hP : va_P D vwCl (cs_w ad cI cR Ln S) H) (hD : va_D A (cs_w ad cI cR Ln S)) (hS : va_S A s.heap H locs) (hl : lv_has ls 7 [(0, .ref (ad 2)), (1, .ref (ad (9 + v1))), (2, .ref (ad (9 + v2))), (3, .int v3), (4, .int v4)]) (h : wb_X0_turnAbout_13 Ln K2 K13 Q S v1 v2 v3 v4) : W p l e rm_X0_turnAbout s m args below meth c H locs 0 0 (MQ below (va_Qv Q (xr_B D (cs_ty cI cJ cR) (cs_w ad cI cR Ln) A) A) args s 0 0 A) (F0 m 13 ls []) := by
  obtain ⟨⟨hx, hb, hml, hown, hts⟩, hrt, hlk⟩ := id fx
  have hf : 0 ≤ rm_X0_turnAbout.cells ∧ 0 ≤ rm_X0_turnAbout.slots := ⟨Nat.zero_le _, Nat.zero_le _⟩
  unfold wb_X0_turnAbout_13 at h
  refine lv_iload hx hb dX0_turnAbout_13 (lv_at hl 4 rfl) ?_
  refine lv_aload_n hx hb dX0_turnAbout_15 rfl (lv_at hl 0 rfl) ?_
  refine cs_get 2 0 4 (v := .ref (ad (9 + 0))) (ref := "BracketLetters$Algebra") fx (by decide) rfl rfl in_X0_turnAbout_X0 (by decide) rfl (by decide +kernel) rfl hK hP dX0_turnAbout_16 ?_
  refine lv_iload_n hx hb dX0_turnAbout_19 rfl (lv_at hl 3 rfl) ?_
  obtain ⟨hi4, h⟩ := h
  refine cs_iald 0 (by decide) fx hK hP hi4 dX0_turnAbout_20 ?_
  refine lv_icmp_ge (tgt := 86) hx hb dX0_turnAbout_21 (by decide) (fun c21 => ?_) (fun c21 => ?_)
  · have h := h.1 c21
    obtain ⟨v3_5, ev3_5⟩ : ∃ z : Int32, z = v3 + 1 := ⟨_, rfl⟩
    have h := h v3_5 ev3_5
    refine lv_iinc (v := v3_5) (lv' := [(3, .int v3_5), (0, .ref (ad 2)), (1, .ref (ad (9 + v1))), (2, .ref (ad (9 + v2))), (4, .int v4)]) hx hb dX0_turnAbout_86 hl (k := 3) rfl (by rw [ev3_5]; rfl) (by decide) rfl (fun ls hl => ?_)
    refine lv_goto (tgt := 2) hx hb dX0_turnAbout_89 (by decide) ?_
    exact k2 _ _ _ _ hP hD hS (lv_sub hl [1, 2, 3, 0] rfl) h
  · have h := h.2 c21
    refine lv_aload_n hx hb dX0_turnAbout_24 rfl (lv_at hl 2 rfl) ?_
    refine lv_aload_n hx hb dX0_turnAbout_25 rfl (lv_at hl 0 rfl) ?_
    refine cs_get 2 0 5 (v := .ref (ad (9 + 1))) (ref := "BracketLetters$Algebra") fx (by decide) rfl rfl in_X0_turnAbout_X0 (by decide) rfl (by decide +kernel) rfl hK hP dX0_turnAbout_26 ?_
    refine lv_iload_n hx hb dX0_turnAbout_29 rfl (lv_at hl 3 rfl) ?_
    obtain ⟨hi6, h⟩ := h
    refine cs_iald 1 (by decide) fx hK hP hi6 dX0_turnAbout_30 ?_
    refine lv_iload hx hb dX0_turnAbout_31 (lv_at hl 4 rfl) ?_
    refine lv_iadd hx hb dX0_turnAbout_33 ?_
    obtain ⟨hk8, h⟩ := h
    obtain ⟨hi7, h⟩ := h
    refine cs_iald v2 hk8 fx hK hP hi7 dX0_turnAbout_34 ?_
    refine lv_topi (fun v5_9 ev5_9 => ?_)
    have h := h v5_9 ev5_9
    refine lv_istore (lv' := [(5, .int v5_9), (0, .ref (ad 2)), (1, .ref (ad (9 + v1))), (2, .ref (ad (9 + v2))), (3, .int v3), (4, .int v4)]) hx hb dX0_turnAbout_35 hl (by decide) rfl (fun ls hl => ?_)
    refine lv_aload_n hx hb dX0_turnAbout_37 rfl (lv_at hl 1 rfl) ?_
    refine cs_get 2 0 5 (v := .ref (ad (9 + 1))) (ref := "BracketLetters$Algebra") fx (by decide) rfl rfl in_X0_turnAbout_X0 (by decide) rfl (by decide +kernel) rfl hK hP dX0_turnAbout_38 ?_
    refine lv_iload_n hx hb dX0_turnAbout_41 rfl (lv_at hl 4 rfl) ?_
    obtain ⟨hi10, h⟩ := h
    refine cs_iald 1 (by decide) fx hK hP hi10 dX0_turnAbout_42 ?_
    refine lv_aload_n hx hb dX0_turnAbout_43 rfl (lv_at hl 1 rfl) ?_
    refine cs_get 2 0 1 (v := .ref (ad 1)) (ref := "BracketLetters$Algebra") fx (by decide) rfl rfl in_X0_turnAbout_X0 (by decide) rfl (by decide +kernel) rfl hK hP dX0_turnAbout_44 ?_
    refine lv_iload hx hb dX0_turnAbout_47 (lv_at hl 5 rfl) ?_
    refine lv_iload_n hx hb dX0_turnAbout_49 rfl (lv_at hl 4 rfl) ?_
    refine xr_vI (n := 2) (As := [.int v4, .int v3]) (rest := [.int (S.2.1 1 v3.toNatClampNeg)]) fx (ct_X6_backward l D ad cI cJ cR Ln h) gX0_turnAbout_X6_backward rfl rfl (by decide +kernel) ⟨Nat.le_of_ble_eq_true rfl, Nat.le_of_ble_eq_true rfl⟩ ⟨rfl, rfl⟩ hf (cs_recv 1 5 (by decide) rfl rfl hK hP) hK hP hD hS hA hl.1 rfl (Nat.le_of_ble_eq_true rfl) dX0_turnAbout_50 (fun r12 S11 H locs h hP hD hS => ?_)
    refine lv_iadd hx hb dX0_turnAbout_53 ?_
    refine lv_topi (fun v6_13 ev6_13 => ?_)
    have h := h v6_13 ev6_13
    refine lv_istore (lv' := [(6, .int v6_13), (5, .int v5_9), (0, .ref (ad 2)), (1, .ref (ad (9 + v1))), (2, .ref (ad (9 + v2))), (3, .int v3), (4, .int v4)]) hx hb dX0_turnAbout_54 hl (by decide) rfl (fun ls hl => ?_)
    refine lv_aload_n hx hb dX0_turnAbout_56 rfl (lv_at hl 2 rfl) ?_
    refine cs_get 2 0 7 (v := .ref (ad (9 + 3))) (ref := "BracketLetters$Algebra") fx (by decide) rfl rfl in_X0_turnAbout_X0 (by decide) rfl (by decide +kernel) rfl hK hP dX0_turnAbout_57 ?_
    refine lv_iload hx hb dX0_turnAbout_60 (lv_at hl 0 rfl) ?_
    refine lv_iload_n hx hb dX0_turnAbout_62 rfl (lv_at hl 5 rfl) ?_
    refine lv_iconst (v := 2) hx hb dX0_turnAbout_63 (by decide) ?_
    refine lv_irem hx hb dX0_turnAbout_64 (by decide) ?_
    refine lv_if_ne (tgt := 73) hx hb dX0_turnAbout_65 (by decide) (fun c65 => ?_) (fun c65 => ?_)
    · have h := h.1 c65
      refine lv_iconst (v := 0) hx hb dX0_turnAbout_73 (by decide) ?_
      refine lv_iload hx hb dX0_turnAbout_74 (lv_at hl 1 rfl) ?_
      refine xr_sI (n := 2) (As := [.int 0, .int v5_9]) (rest := [.int v6_13, .ref (ad (9 + 3))]) fx (ct_X3_minus l h) gX0_turnAbout_X3_minus rfl rfl (by decide +kernel) ⟨Nat.le_of_ble_eq_true rfl, Nat.le_of_ble_eq_true rfl⟩ ⟨rfl, rfl⟩ hf hl.1 rfl (Nat.le_of_ble_eq_true rfl) dX0_turnAbout_76 (fun r14 h => ?_)
      exact kw_X0_turnAbout_79 fx hK hA k2 k13 hP hD hS (lv_sub hl [2, 3, 4, 5, 6] rfl) h
    · have h := h.2 c65
      refine lv_iload hx hb dX0_turnAbout_68 (lv_at hl 1 rfl) ?_
      refine lv_goto (tgt := 79) hx hb dX0_turnAbout_70 (by decide) ?_
      exact kw_X0_turnAbout_79 fx hK hA k2 k13 hP hD hS (lv_sub hl [2, 3, 4, 5, 6] rfl) h
theorem kw_X0_turnAbout_13 {p : Program} {l : Launch} {e : Env} {s : State} {m : MethodId} {args : Array Value} {below : List Frame} {meth : Method} {c : Code} {D : va_G} {ad : Nat → Nat} {cI cJ cR : ClassId} {Ln : Nat → Nat} {A : Nat → Prop} {K2 : cs_T → Nat → Nat → Int32 → Prop} {Q : cs_T → Prop} (fx : xr_Fx p m c meth cX0_turnAbout 7 s args wsX0_turnAbout RX0 none) (hK : xr_K D (cs_ty cI cJ cR) s) (hA : ∀ q, s.heap.size ≤ q → A q)  (k2 : ∀ (S : cs_T) (v1 : Nat) (v2 : Nat) (v3 : Int32) {H : Heap} {locs : List Loc} {ls : Array Slot}, va_P D vwCl (cs_w ad cI cR Ln S) H → va_D A (cs_w ad cI cR Ln S) → va_S A s.heap H locs → lv_has ls 7 [(0, .ref (ad 2)), (1, .ref (ad (9 + v1))), (2, .ref (ad (9 + v2))), (3, .int v3)] → K2 S v1 v2 v3 → W p l e rm_X0_turnAbout s m args below meth c H locs 0 0 (MQ below (va_Qv Q (xr_B D (cs_ty cI cJ cR) (cs_w ad cI cR Ln) A) A) args s 0 0 A) (F0 m 2 ls [])) : ∀ (n : Nat) (S : cs_T) (v1 : Nat) (v2 : Nat) (v3 : Int32) (v4 : Int32) {H : Heap} {locs : List Loc} {ls : Array Slot}, va_P D vwCl (cs_w ad cI cR Ln S) H → va_D A (cs_w ad cI cR Ln S) → va_S A s.heap H locs → lv_has ls 7 [(0, .ref (ad 2)), (1, .ref (ad (9 + v1))), (2, .ref (ad (9 + v2))), (3, .int v3), (4, .int v4)] → wp_X0_turnAbout_13 Ln K2 Q n S v1 v2 v3 v4 → W p l e rm_X0_turnAbout s m args below meth c H locs 0 0 (MQ below (va_Qv Q (xr_B D (cs_ty cI cJ cR) (cs_w ad cI cR Ln) A) A) args s 0 0 A) (F0 m 13 ls []) := by
  intro n
  induction n with
  | zero => intro S v1 v2 v3 v4 H locs ls hP hD hS hl h; exact False.elim h
  | succ n ih => intro S v1 v2 v3 v4 H locs ls hP hD hS hl h; exact kb_X0_turnAbout_13 fx hK hA k2 ih hP hD hS hl h
set_option maxHeartbeats 4000000 in
set_option maxRecDepth 100000 in
theorem kb_X0_turnAbout_2 {p : Program} {l : Launch} {e : Env} {s : State} {m : MethodId} {args : Array Value} {below : List Frame} {meth : Method} {c : Code} {D : va_G} {ad : Nat → Nat} {cI cJ cR : ClassId} {Ln : Nat → Nat} {A : Nat → Prop}  {K2 : cs_T → Nat → Nat → Int32 → Prop} {Q : cs_T → Prop} {S : cs_T} {v1 : Nat} {v2 : Nat} {v3 : Int32} (fx : xr_Fx p m c meth cX0_turnAbout 7 s args wsX0_turnAbout RX0 none) (hK : xr_K D (cs_ty cI cJ cR) s) (hA : ∀ q, s.heap.size ≤ q → A q)   (k2 : ∀ (S : cs_T) (v1 : Nat) (v2 : Nat) (v3 : Int32) {H : Heap} {locs : List Loc} {ls : Array Slot}, va_P D vwCl (cs_w ad cI cR Ln S) H → va_D A (cs_w ad cI cR Ln S) → va_S A s.heap H locs → lv_has ls 7 [(0, .ref (ad 2)), (1, .ref (ad (9 + v1))), (2, .ref (ad (9 + v2))), (3, .int v3)] → K2 S v1 v2 v3 → W p l e rm_X0_turnAbout s m args below meth c H locs 0 0 (MQ below (va_Qv Q (xr_B D (cs_ty cI cJ cR) (cs_w ad cI cR Ln) A) A) args s 0 0 A) (F0 m 2 ls [])) {H : Heap} {locs : List Loc} {ls : Array Slot} (hP : va_P D vwCl (cs_w ad cI cR Ln S) H) (hD : va_D A (cs_w ad cI cR Ln S)) (hS : va_S A s.heap H locs) (hl : lv_has ls 7 [(0, .ref (ad 2)), (1, .ref (ad (9 + v1))), (2, .ref (ad (9 + v2))), (3, .int v3)]) (h : wb_X0_turnAbout_2 Ln K2 Q S v1 v2 v3) : W p l e rm_X0_turnAbout s m args below meth c H locs 0 0 (MQ below (va_Qv Q (xr_B D (cs_ty cI cJ cR) (cs_w ad cI cR Ln) A) A) args s 0 0 A) (F0 m 2 ls []) := by
  obtain ⟨⟨hx, hb, hml, hown, hts⟩, hrt, hlk⟩ := id fx
  have hf : 0 ≤ rm_X0_turnAbout.cells ∧ 0 ≤ rm_X0_turnAbout.slots := ⟨Nat.zero_le _, Nat.zero_le _⟩
  unfold wb_X0_turnAbout_2 at h
  refine lv_iload_n hx hb dX0_turnAbout_2 rfl (lv_at hl 3 rfl) ?_
  refine lv_aload_n hx hb dX0_turnAbout_3 rfl (lv_at hl 0 rfl) ?_
  refine cs_get 2 0 2 (v := .int (S.1 0)) (ref := "BracketLetters$Algebra") fx (by decide) rfl rfl in_X0_turnAbout_X0 (by decide) rfl (by decide +kernel) rfl hK hP dX0_turnAbout_4 ?_
  refine lv_icmp_gt (tgt := 92) hx hb dX0_turnAbout_7 (by decide) (fun c7 => ?_) (fun c7 => ?_)
  · have h := h.1 c7
    refine lv_aload_n hx hb dX0_turnAbout_92 rfl (lv_at hl 0 rfl) ?_
    refine lv_aload_n hx hb dX0_turnAbout_93 rfl (lv_at hl 1 rfl) ?_
    refine lv_aload_n hx hb dX0_turnAbout_94 rfl (lv_at hl 0 rfl) ?_
    refine cs_get 2 0 7 (v := .ref (ad (9 + 3))) (ref := "BracketLetters$Algebra") fx (by decide) rfl rfl in_X0_turnAbout_X0 (by decide) rfl (by decide +kernel) rfl hK hP dX0_turnAbout_95 ?_
    refine xr_vV (n := 2) (As := [.ref (ad (9 + v1)), .ref (ad (9 + 3))]) (rest := []) fx (ct_X0_copy l D ad cI cJ cR Ln h) gX0_turnAbout_X0_copy rfl rfl (by decide +kernel) ⟨Nat.le_of_ble_eq_true rfl, Nat.le_of_ble_eq_true rfl⟩ ⟨rfl, rfl⟩ hf (cs_recv 2 0 (by decide) rfl rfl hK hP) hK hP hD hS hA hl.1 rfl (Nat.le_of_ble_eq_true rfl) dX0_turnAbout_98 (fun S15 H locs h hP hD hS => ?_)
    exact xr_rV fx hK hP hD hS h dX0_turnAbout_101
  · have h := h.2 c7
    refine lv_iconst (v := 0) hx hb dX0_turnAbout_10 (by decide) ?_
    refine lv_istore (lv' := [(4, .int 0), (0, .ref (ad 2)), (1, .ref (ad (9 + v1))), (2, .ref (ad (9 + v2))), (3, .int v3)]) hx hb dX0_turnAbout_11 hl (by decide) rfl (fun ls hl => ?_)
    obtain ⟨n, h⟩ := h
    exact kw_X0_turnAbout_13 fx hK hA k2 n _ _ _ _ _ hP hD hS (lv_sub hl [1, 2, 3, 4, 0] rfl) h
theorem kw_X0_turnAbout_2 {p : Program} {l : Launch} {e : Env} {s : State} {m : MethodId} {args : Array Value} {below : List Frame} {meth : Method} {c : Code} {D : va_G} {ad : Nat → Nat} {cI cJ cR : ClassId} {Ln : Nat → Nat} {A : Nat → Prop}  {Q : cs_T → Prop} (fx : xr_Fx p m c meth cX0_turnAbout 7 s args wsX0_turnAbout RX0 none) (hK : xr_K D (cs_ty cI cJ cR) s) (hA : ∀ q, s.heap.size ≤ q → A q)   : ∀ (n : Nat) (S : cs_T) (v1 : Nat) (v2 : Nat) (v3 : Int32) {H : Heap} {locs : List Loc} {ls : Array Slot}, va_P D vwCl (cs_w ad cI cR Ln S) H → va_D A (cs_w ad cI cR Ln S) → va_S A s.heap H locs → lv_has ls 7 [(0, .ref (ad 2)), (1, .ref (ad (9 + v1))), (2, .ref (ad (9 + v2))), (3, .int v3)] → wp_X0_turnAbout_2 Ln Q n S v1 v2 v3 → W p l e rm_X0_turnAbout s m args below meth c H locs 0 0 (MQ below (va_Qv Q (xr_B D (cs_ty cI cJ cR) (cs_w ad cI cR Ln) A) A) args s 0 0 A) (F0 m 2 ls []) := by
  intro n
  induction n with
  | zero => intro S v1 v2 v3 H locs ls hP hD hS hl h; exact False.elim h
  | succ n ih => intro S v1 v2 v3 H locs ls hP hD hS hl h; exact kb_X0_turnAbout_2 fx hK hA ih hP hD hS hl h
set_option maxHeartbeats 4000000 in
set_option maxRecDepth 100000 in
theorem ct_X0_turnAbout (l : Launch) (D : va_G) (ad : Nat → Nat) (cI cJ cR : ClassId) (Ln : Nat → Nat) {S : cs_T} {a1 : Nat} {a2 : Nat} {Q : cs_T → Prop} (h : wp_X0_turnAbout Ln S a1 a2 Q) : xr_V l D (cs_ty cI cJ cR) (cs_w ad cI cR Ln) yX0_turnAbout wsX0_turnAbout rm_X0_turnAbout [.ref (ad 2), .ref (ad (9 + a1)), .ref (ad (9 + a2))] S Q := by
  refine xr_eV (cc := cX0_turnAbout) (nL := 7) (ret := none) (own := RX0) (by decide) rfl rfl (Nat.le_of_ble_eq_true rfl) ?_
  intro p e s m args below meth c ls A fx hK hA hP hD hS hl
  have hl : lv_has ls 7 [(0, .ref (ad 2)), (1, .ref (ad (9 + a1))), (2, .ref (ad (9 + a2)))] := hl
  show W p l e rm_X0_turnAbout s m args below meth c s.heap [] 0 0 _ _
  obtain ⟨⟨hx, hb, hml, hown, hts⟩, hrt, hlk⟩ := id fx
  have hf : 0 ≤ rm_X0_turnAbout.cells ∧ 0 ≤ rm_X0_turnAbout.slots := ⟨Nat.zero_le _, Nat.zero_le _⟩
  unfold wp_X0_turnAbout at h
  refine lv_iconst (v := 0) hx hb dX0_turnAbout_0 (by decide) ?_
  refine lv_istore_n (lv' := [(3, .int 0), (0, .ref (ad 2)), (1, .ref (ad (9 + a1))), (2, .ref (ad (9 + a2)))]) hx hb dX0_turnAbout_1 rfl hl (by decide) rfl (fun ls hl => ?_)
  obtain ⟨n, h⟩ := h
  exact kw_X0_turnAbout_2 fx hK hA n _ _ _ _ hP hD hS (lv_sub hl [1, 2, 3, 0] rfl) h
abbrev rm_X7_turn : Room := { frames := 3, cells := 0, slots := 0, locals := 96 }
theorem in_X7_turn_X7 : ∀ w ∈ wsX70, w ∈ wsX7_turn := by decide +kernel
set_option maxHeartbeats 4000000 in
set_option maxRecDepth 100000 in
theorem ct_X7_turn (l : Launch) (D : va_G) (ad : Nat → Nat) (cI cJ cR : ClassId) (Ln : Nat → Nat) {S : cs_T} {a1 : Int32} {a2 : Int32} {Q : Int32 → cs_T → Prop} (h : wp_X7_turn Ln S a1 a2 Q) : xr_I l D (cs_ty cI cJ cR) (cs_w ad cI cR Ln) yX7_turn wsX7_turn rm_X7_turn [.ref (ad 0), .int a1, .int a2] S Q := by
  refine xr_eI (cc := cX7_turn) (nL := 3) (ret := (some .int)) (own := RX7) (by decide) rfl rfl (Nat.le_of_ble_eq_true rfl) ?_
  intro p e s m args below meth c ls A fx hK hA hP hD hS hl
  have hl : lv_has ls 3 [(0, .ref (ad 0)), (1, .int a1), (2, .int a2)] := hl
  show W p l e rm_X7_turn s m args below meth c s.heap [] 0 0 _ _
  obtain ⟨⟨hx, hb, hml, hown, hts⟩, hrt, hlk⟩ := id fx
  have hf : 0 ≤ rm_X7_turn.cells ∧ 0 ≤ rm_X7_turn.slots := ⟨Nat.zero_le _, Nat.zero_le _⟩
  unfold wp_X7_turn at h
  refine lv_iload_n hx hb dX7_turn_0 rfl (lv_at hl 1 rfl) ?_
  refine xr_sI (n := 1) (As := [.int a1]) (rest := []) fx (ct_X7_noSum l h) gX7_turn_X7_noSum rfl rfl (by decide +kernel) ⟨Nat.le_of_ble_eq_true rfl, Nat.le_of_ble_eq_true rfl⟩ ⟨rfl, rfl⟩ hf hl.1 rfl (Nat.le_of_ble_eq_true rfl) dX7_turn_1 (fun r1 h => ?_)
  refine lv_if_ne (tgt := 14) hx hb dX7_turn_4 (by decide) (fun c4 => ?_) (fun c4 => ?_)
  · have h := h.1 c4
    refine lv_iconst (v := (-1)) hx hb dX7_turn_14 (by decide) ?_
    exact xr_rI fx hK hP hD hS h dX7_turn_15
  · have h := h.2 c4
    refine lv_iload_n hx hb dX7_turn_7 rfl (lv_at hl 2 rfl) ?_
    refine xr_sI (n := 1) (As := [.int a2]) (rest := []) fx (ct_X7_noSum l h) gX7_turn_X7_noSum rfl rfl (by decide +kernel) ⟨Nat.le_of_ble_eq_true rfl, Nat.le_of_ble_eq_true rfl⟩ ⟨rfl, rfl⟩ hf hl.1 rfl (Nat.le_of_ble_eq_true rfl) dX7_turn_8 (fun r2 h => ?_)
    refine lv_if_eq (tgt := 16) hx hb dX7_turn_11 (by decide) (fun c11 => ?_) (fun c11 => ?_)
    · have h := h.1 c11
      refine lv_aload_n hx hb dX7_turn_16 rfl (lv_at hl 0 rfl) ?_
      refine cs_get 0 6 2 (v := .ref (ad 2)) (ref := "BracketLetters") fx (by decide) rfl rfl in_X7_turn_X7 (by decide) rfl (by decide +kernel) rfl hK hP dX7_turn_17 ?_
      refine lv_aload_n hx hb dX7_turn_20 rfl (lv_at hl 0 rfl) ?_
      refine cs_get 0 6 1 (v := .ref (ad 7)) (ref := "BracketLetters") fx (by decide) rfl rfl in_X7_turn_X7 (by decide) rfl (by decide +kernel) rfl hK hP dX7_turn_21 ?_
      refine lv_iload_n hx hb dX7_turn_24 rfl (lv_at hl 1 rfl) ?_
      obtain ⟨hi3, h⟩ := h
      refine cs_aald 7 8 7 fx (by decide) rfl hK hP hi3 dX7_turn_25 ?_
      refine lv_aload_n hx hb dX7_turn_26 rfl (lv_at hl 0 rfl) ?_
      refine cs_get 0 6 1 (v := .ref (ad 7)) (ref := "BracketLetters") fx (by decide) rfl rfl in_X7_turn_X7 (by decide) rfl (by decide +kernel) rfl hK hP dX7_turn_27 ?_
      refine lv_iload_n hx hb dX7_turn_30 rfl (lv_at hl 2 rfl) ?_
      obtain ⟨hi4, h⟩ := h
      refine cs_aald 7 8 7 fx (by decide) rfl hK hP hi4 dX7_turn_31 ?_
      refine xr_vV (n := 2) (As := [.ref (ad (9 + (7 + a1.toNatClampNeg))), .ref (ad (9 + (7 + a2.toNatClampNeg)))]) (rest := []) fx (ct_X0_turnAbout l D ad cI cJ cR Ln h) gX7_turn_X0_turnAbout rfl rfl (by decide +kernel) ⟨Nat.le_of_ble_eq_true rfl, Nat.le_of_ble_eq_true rfl⟩ ⟨rfl, rfl⟩ hf (cs_recv 2 0 (by decide) rfl rfl hK hP) hK hP hD hS hA hl.1 rfl (Nat.le_of_ble_eq_true rfl) dX7_turn_32 (fun S5 H locs h hP hD hS => ?_)
      refine lv_iconst (v := 0) hx hb dX7_turn_35 (by decide) ?_
      exact xr_rI fx hK hP hD hS h dX7_turn_36
    · have h := h.2 c11
      refine lv_iconst (v := (-1)) hx hb dX7_turn_14 (by decide) ?_
      exact xr_rI fx hK hP hD hS h dX7_turn_15
abbrev rm_X0_setToUnit : Room := { frames := 1, cells := 0, slots := 0, locals := 23 }
set_option maxHeartbeats 4000000 in
set_option maxRecDepth 100000 in
theorem ct_X0_setToUnit (l : Launch) (D : va_G) (ad : Nat → Nat) (cI cJ cR : ClassId) (Ln : Nat → Nat) {S : cs_T} {a1 : Nat} {a2 : Int32} {Q : cs_T → Prop} (h : wp_X0_setToUnit Ln S a1 a2 Q) : xr_V l D (cs_ty cI cJ cR) (cs_w ad cI cR Ln) yX0_setToUnit wsX0_setToUnit rm_X0_setToUnit [.ref (ad 2), .ref (ad (9 + a1)), .int a2] S Q := by
  refine xr_eV (cc := cX0_setToUnit) (nL := 3) (ret := none) (own := RX0) (by decide) rfl rfl (Nat.le_of_ble_eq_true rfl) ?_
  intro p e s m args below meth c ls A fx hK hA hP hD hS hl
  have hl : lv_has ls 3 [(0, .ref (ad 2)), (1, .ref (ad (9 + a1))), (2, .int a2)] := hl
  show W p l e rm_X0_setToUnit s m args below meth c s.heap [] 0 0 _ _
  obtain ⟨⟨hx, hb, hml, hown, hts⟩, hrt, hlk⟩ := id fx
  have hf : 0 ≤ rm_X0_setToUnit.cells ∧ 0 ≤ rm_X0_setToUnit.slots := ⟨Nat.zero_le _, Nat.zero_le _⟩
  unfold wp_X0_setToUnit at h
  refine lv_aload_n hx hb dX0_setToUnit_0 rfl (lv_at hl 1 rfl) ?_
  refine lv_iconst (v := 0) hx hb dX0_setToUnit_1 (by decide) ?_
  refine xr_wV (n := 2) (As := [.ref (ad (9 + a1)), .int 0]) (rest := []) fx (ct_J7_fill_53178 l D ad cI cJ cR Ln h) gX0_setToUnit_J7_fill_53178 rfl rfl (by decide +kernel) ⟨Nat.le_of_ble_eq_true rfl, Nat.le_of_ble_eq_true rfl⟩ ⟨rfl, rfl⟩ hf hK hP hD hS hA hl.1 rfl (Nat.le_of_ble_eq_true rfl) dX0_setToUnit_2 (fun S1 H locs h hP hD hS => ?_)
  refine lv_aload_n hx hb dX0_setToUnit_5 rfl (lv_at hl 1 rfl) ?_
  refine lv_iconst (v := 0) hx hb dX0_setToUnit_6 (by decide) ?_
  refine lv_iload_n hx hb dX0_setToUnit_7 rfl (lv_at hl 2 rfl) ?_
  obtain ⟨hk3, h⟩ := h
  obtain ⟨hi2, h⟩ := h
  refine cs_iast a1 hk3 fx hK hP hD hS hi2 dX0_setToUnit_8 (fun H locs hP hD hS => ?_)
  exact xr_rV fx hK hP hD hS h dX0_setToUnit_9
abbrev rm_X0_raise : Room := { frames := 2, cells := 0, slots := 0, locals := 70 }
theorem in_X0_raise_X0 : ∀ w ∈ wsX00, w ∈ wsX0_raise := by decide +kernel
set_option maxHeartbeats 4000000 in
set_option maxRecDepth 100000 in
theorem kb_X0_raise_23 {p : Program} {l : Launch} {e : Env} {s : State} {m : MethodId} {args : Array Value} {below : List Frame} {meth : Method} {c : Code} {D : va_G} {ad : Nat → Nat} {cI cJ cR : ClassId} {Ln : Nat → Nat} {A : Nat → Prop}  {K23 : cs_T → Nat → Nat → Nat → Nat → Int32 → Prop} {Q : cs_T → Prop} {S : cs_T} {v1 : Nat} {v2 : Nat} {v3 : Nat} {v4 : Nat} {v5 : Int32} (fx : xr_Fx p m c meth cX0_raise 7 s args wsX0_raise RX0 none) (hK : xr_K D (cs_ty cI cJ cR) s) (hA : ∀ q, s.heap.size ≤ q → A q)   (k23 : ∀ (S : cs_T) (v1 : Nat) (v2 : Nat) (v3 : Nat) (v4 : Nat) (v5 : Int32) {H : Heap} {locs : List Loc} {ls : Array Slot}, va_P D vwCl (cs_w ad cI cR Ln S) H → va_D A (cs_w ad cI cR Ln S) → va_S A s.heap H locs → lv_has ls 7 [(0, .ref (ad 2)), (1, .ref (ad (9 + v1))), (2, .ref (ad (9 + v2))), (3, .ref (ad (9 + v3))), (4, .ref (ad (9 + v4))), (5, .int v5)] → K23 S v1 v2 v3 v4 v5 → W p l e rm_X0_raise s m args below meth c H locs 0 0 (MQ below (va_Qv Q (xr_B D (cs_ty cI cJ cR) (cs_w ad cI cR Ln) A) A) args s 0 0 A) (F0 m 23 ls [])) {H : Heap} {locs : List Loc} {ls : Array Slot} (hP : va_P D vwCl (cs_w ad cI cR Ln S) H) (hD : va_D A (cs_w ad cI cR Ln S)) (hS : va_S A s.heap H locs) (hl : lv_has ls 7 [(0, .ref (ad 2)), (1, .ref (ad (9 + v1))), (2, .ref (ad (9 + v2))), (3, .ref (ad (9 + v3))), (4, .ref (ad (9 + v4))), (5, .int v5)]) (h : wb_X0_raise_23 Ln K23 Q S v1 v2 v3 v4 v5) : W p l e rm_X0_raise s m args below meth c H locs 0 0 (MQ below (va_Qv Q (xr_B D (cs_ty cI cJ cR) (cs_w ad cI cR Ln) A) A) args s 0 0 A) (F0 m 23 ls []) := by
  obtain ⟨⟨hx, hb, hml, hown, hts⟩, hrt, hlk⟩ := id fx
  have hf : 0 ≤ rm_X0_raise.cells ∧ 0 ≤ rm_X0_raise.slots := ⟨Nat.zero_le _, Nat.zero_le _⟩
  unfold wb_X0_raise_23 at h
  refine lv_iload hx hb dX0_raise_23 (lv_at hl 5 rfl) ?_
  refine lv_iconst (v := 1) hx hb dX0_raise_25 (by decide) ?_
  refine lv_icmp_lt (tgt := 71) hx hb dX0_raise_26 (by decide) (fun c26 => ?_) (fun c26 => ?_)
  · have h := h.1 c26
    refine lv_aload_n hx hb dX0_raise_71 rfl (lv_at hl 0 rfl) ?_
    refine lv_aload_n hx hb dX0_raise_72 rfl (lv_at hl 1 rfl) ?_
    refine lv_aload_n hx hb dX0_raise_73 rfl (lv_at hl 3 rfl) ?_
    refine xr_vV (n := 2) (As := [.ref (ad (9 + v1)), .ref (ad (9 + v3))]) (rest := []) fx (ct_X0_copy l D ad cI cJ cR Ln h) gX0_raise_X0_copy rfl rfl (by decide +kernel) ⟨Nat.le_of_ble_eq_true rfl, Nat.le_of_ble_eq_true rfl⟩ ⟨rfl, rfl⟩ hf (cs_recv 2 0 (by decide) rfl rfl hK hP) hK hP hD hS hA hl.1 rfl (Nat.le_of_ble_eq_true rfl) dX0_raise_74 (fun S1 H locs h hP hD hS => ?_)
    exact xr_rV fx hK hP hD hS h dX0_raise_77
  · have h := h.2 c26
    refine lv_aload_n hx hb dX0_raise_29 rfl (lv_at hl 0 rfl) ?_
    refine lv_aload hx hb dX0_raise_30 (lv_at hl 4 rfl) ?_
    refine lv_iconst (v := 1) hx hb dX0_raise_32 (by decide) ?_
    refine xr_vV (n := 2) (As := [.ref (ad (9 + v4)), .int 1]) (rest := []) fx (ct_X0_setToUnit l D ad cI cJ cR Ln h) gX0_raise_X0_setToUnit rfl rfl (by decide +kernel) ⟨Nat.le_of_ble_eq_true rfl, Nat.le_of_ble_eq_true rfl⟩ ⟨rfl, rfl⟩ hf (cs_recv 2 0 (by decide) rfl rfl hK hP) hK hP hD hS hA hl.1 rfl (Nat.le_of_ble_eq_true rfl) dX0_raise_33 (fun S2 H locs h hP hD hS => ?_)
    refine lv_aload_n hx hb dX0_raise_36 rfl (lv_at hl 0 rfl) ?_
    refine lv_aload hx hb dX0_raise_37 (lv_at hl 4 rfl) ?_
    refine lv_aload_n hx hb dX0_raise_39 rfl (lv_at hl 3 rfl) ?_
    refine lv_aload_n hx hb dX0_raise_40 rfl (lv_at hl 2 rfl) ?_
    refine lv_aload_n hx hb dX0_raise_41 rfl (lv_at hl 0 rfl) ?_
    refine cs_get 2 0 6 (v := .ref (ad (9 + 2))) (ref := "BracketLetters$Algebra") fx (by decide) rfl rfl in_X0_raise_X0 (by decide) rfl (by decide +kernel) rfl hK hP dX0_raise_42 ?_
    refine lv_iload hx hb dX0_raise_45 (lv_at hl 5 rfl) ?_
    obtain ⟨hi3, h⟩ := h
    refine cs_iald 2 (by decide) fx hK hP hi3 dX0_raise_47 ?_
    refine lv_aload_n hx hb dX0_raise_48 rfl (lv_at hl 0 rfl) ?_
    refine cs_get 2 0 2 (v := .int (S2.1 0)) (ref := "BracketLetters$Algebra") fx (by decide) rfl rfl in_X0_raise_X0 (by decide) rfl (by decide +kernel) rfl hK hP dX0_raise_49 ?_
    refine xr_vV (n := 5) (As := [.ref (ad (9 + v4)), .ref (ad (9 + v3)), .ref (ad (9 + v2)), .int (S2.2.1 2 v5.toNatClampNeg), .int (S2.1 0)]) (rest := []) fx (ct_X0_gather l D ad cI cJ cR Ln h) gX0_raise_X0_gather rfl rfl (by decide +kernel) ⟨Nat.le_of_ble_eq_true rfl, Nat.le_of_ble_eq_true rfl⟩ ⟨rfl, rfl⟩ hf (cs_recv 2 0 (by decide) rfl rfl hK hP) hK hP hD hS hA hl.1 rfl (Nat.le_of_ble_eq_true rfl) dX0_raise_52 (fun S4 H locs h hP hD hS => ?_)
    refine lv_aload_n hx hb dX0_raise_55 rfl (lv_at hl 3 rfl) ?_
    refine lv_astore (lv' := [(6, .ref (ad (9 + v3))), (0, .ref (ad 2)), (1, .ref (ad (9 + v1))), (2, .ref (ad (9 + v2))), (3, .ref (ad (9 + v3))), (4, .ref (ad (9 + v4))), (5, .int v5)]) hx hb dX0_raise_56 hl (by decide) rfl (fun ls hl => ?_)
    refine lv_aload hx hb dX0_raise_58 (lv_at hl 5 rfl) ?_
    refine lv_astore_n (lv' := [(3, .ref (ad (9 + v4))), (6, .ref (ad (9 + v3))), (0, .ref (ad 2)), (1, .ref (ad (9 + v1))), (2, .ref (ad (9 + v2))), (4, .ref (ad (9 + v4))), (5, .int v5)]) hx hb dX0_raise_60 rfl hl (by decide) rfl (fun ls hl => ?_)
    refine lv_aload hx hb dX0_raise_61 (lv_at hl 1 rfl) ?_
    refine lv_astore (lv' := [(4, .ref (ad (9 + v3))), (3, .ref (ad (9 + v4))), (6, .ref (ad (9 + v3))), (0, .ref (ad 2)), (1, .ref (ad (9 + v1))), (2, .ref (ad (9 + v2))), (5, .int v5)]) hx hb dX0_raise_63 hl (by decide) rfl (fun ls hl => ?_)
    obtain ⟨v5_5, ev5_5⟩ : ∃ z : Int32, z = v5 + (-1) := ⟨_, rfl⟩
    have h := h v5_5 ev5_5
    refine lv_iinc (v := v5_5) (lv' := [(5, .int v5_5), (4, .ref (ad (9 + v3))), (3, .ref (ad (9 + v4))), (6, .ref (ad (9 + v3))), (0, .ref (ad 2)), (1, .ref (ad (9 + v1))), (2, .ref (ad (9 + v2)))]) hx hb dX0_raise_65 hl (k := 6) rfl (by rw [ev5_5]; rfl) (by decide) rfl (fun ls hl => ?_)
    refine lv_goto (tgt := 23) hx hb dX0_raise_68 (by decide) ?_
    exact k23 _ _ _ _ _ _ hP hD hS (lv_sub hl [4, 5, 6, 2, 1, 0] rfl) h
theorem kw_X0_raise_23 {p : Program} {l : Launch} {e : Env} {s : State} {m : MethodId} {args : Array Value} {below : List Frame} {meth : Method} {c : Code} {D : va_G} {ad : Nat → Nat} {cI cJ cR : ClassId} {Ln : Nat → Nat} {A : Nat → Prop}  {Q : cs_T → Prop} (fx : xr_Fx p m c meth cX0_raise 7 s args wsX0_raise RX0 none) (hK : xr_K D (cs_ty cI cJ cR) s) (hA : ∀ q, s.heap.size ≤ q → A q)   : ∀ (n : Nat) (S : cs_T) (v1 : Nat) (v2 : Nat) (v3 : Nat) (v4 : Nat) (v5 : Int32) {H : Heap} {locs : List Loc} {ls : Array Slot}, va_P D vwCl (cs_w ad cI cR Ln S) H → va_D A (cs_w ad cI cR Ln S) → va_S A s.heap H locs → lv_has ls 7 [(0, .ref (ad 2)), (1, .ref (ad (9 + v1))), (2, .ref (ad (9 + v2))), (3, .ref (ad (9 + v3))), (4, .ref (ad (9 + v4))), (5, .int v5)] → wp_X0_raise_23 Ln Q n S v1 v2 v3 v4 v5 → W p l e rm_X0_raise s m args below meth c H locs 0 0 (MQ below (va_Qv Q (xr_B D (cs_ty cI cJ cR) (cs_w ad cI cR Ln) A) A) args s 0 0 A) (F0 m 23 ls []) := by
  intro n
  induction n with
  | zero => intro S v1 v2 v3 v4 v5 H locs ls hP hD hS hl h; exact False.elim h
  | succ n ih => intro S v1 v2 v3 v4 v5 H locs ls hP hD hS hl h; exact kb_X0_raise_23 fx hK hA ih hP hD hS hl h
set_option maxHeartbeats 4000000 in
set_option maxRecDepth 100000 in
theorem ct_X0_raise (l : Launch) (D : va_G) (ad : Nat → Nat) (cI cJ cR : ClassId) (Ln : Nat → Nat) {S : cs_T} {a1 : Nat} {a2 : Nat} {Q : cs_T → Prop} (h : wp_X0_raise Ln S a1 a2 Q) : xr_V l D (cs_ty cI cJ cR) (cs_w ad cI cR Ln) yX0_raise wsX0_raise rm_X0_raise [.ref (ad 2), .ref (ad (9 + a1)), .ref (ad (9 + a2))] S Q := by
  refine xr_eV (cc := cX0_raise) (nL := 7) (ret := none) (own := RX0) (by decide) rfl rfl (Nat.le_of_ble_eq_true rfl) ?_
  intro p e s m args below meth c ls A fx hK hA hP hD hS hl
  have hl : lv_has ls 7 [(0, .ref (ad 2)), (1, .ref (ad (9 + a1))), (2, .ref (ad (9 + a2)))] := hl
  show W p l e rm_X0_raise s m args below meth c s.heap [] 0 0 _ _
  obtain ⟨⟨hx, hb, hml, hown, hts⟩, hrt, hlk⟩ := id fx
  have hf : 0 ≤ rm_X0_raise.cells ∧ 0 ≤ rm_X0_raise.slots := ⟨Nat.zero_le _, Nat.zero_le _⟩
  unfold wp_X0_raise at h
  refine lv_aload_n hx hb dX0_raise_0 rfl (lv_at hl 0 rfl) ?_
  refine cs_get 2 0 9 (v := .ref (ad (9 + 5))) (ref := "BracketLetters$Algebra") fx (by decide) rfl rfl in_X0_raise_X0 (by decide) rfl (by decide +kernel) rfl hK hP dX0_raise_1 ?_
  refine lv_astore_n (lv' := [(3, .ref (ad (9 + 5))), (0, .ref (ad 2)), (1, .ref (ad (9 + a1))), (2, .ref (ad (9 + a2)))]) hx hb dX0_raise_4 rfl hl (by decide) rfl (fun ls hl => ?_)
  refine lv_aload_n hx hb dX0_raise_5 rfl (lv_at hl 1 rfl) ?_
  refine cs_get 2 0 10 (v := .ref (ad (9 + 6))) (ref := "BracketLetters$Algebra") fx (by decide) rfl rfl in_X0_raise_X0 (by decide) rfl (by decide +kernel) rfl hK hP dX0_raise_6 ?_
  refine lv_astore (lv' := [(4, .ref (ad (9 + 6))), (3, .ref (ad (9 + 5))), (0, .ref (ad 2)), (1, .ref (ad (9 + a1))), (2, .ref (ad (9 + a2)))]) hx hb dX0_raise_9 hl (by decide) rfl (fun ls hl => ?_)
  refine lv_aload_n hx hb dX0_raise_11 rfl (lv_at hl 2 rfl) ?_
  refine lv_aload_n hx hb dX0_raise_12 rfl (lv_at hl 1 rfl) ?_
  refine lv_iconst (v := 1) hx hb dX0_raise_13 (by decide) ?_
  refine xr_vV (n := 2) (As := [.ref (ad (9 + 5)), .int 1]) (rest := []) fx (ct_X0_setToUnit l D ad cI cJ cR Ln h) gX0_raise_X0_setToUnit rfl rfl (by decide +kernel) ⟨Nat.le_of_ble_eq_true rfl, Nat.le_of_ble_eq_true rfl⟩ ⟨rfl, rfl⟩ hf (cs_recv 2 0 (by decide) rfl rfl hK hP) hK hP hD hS hA hl.1 rfl (Nat.le_of_ble_eq_true rfl) dX0_raise_14 (fun S6 H locs h hP hD hS => ?_)
  refine lv_aload_n hx hb dX0_raise_17 rfl (lv_at hl 2 rfl) ?_
  refine cs_get 2 0 2 (v := .int (S6.1 0)) (ref := "BracketLetters$Algebra") fx (by decide) rfl rfl in_X0_raise_X0 (by decide) rfl (by decide +kernel) rfl hK hP dX0_raise_18 ?_
  refine lv_topi (fun v5_7 ev5_7 => ?_)
  have h := h v5_7 ev5_7
  refine lv_istore (lv' := [(5, .int v5_7), (4, .ref (ad (9 + 6))), (3, .ref (ad (9 + 5))), (0, .ref (ad 2)), (1, .ref (ad (9 + a1))), (2, .ref (ad (9 + a2)))]) hx hb dX0_raise_21 hl (by decide) rfl (fun ls hl => ?_)
  obtain ⟨n, h⟩ := h
  exact kw_X0_raise_23 fx hK hA n _ _ _ _ _ _ hP hD hS (lv_sub hl [3, 4, 5, 2, 1, 0] rfl) h
abbrev rm_X7_exp : Room := { frames := 3, cells := 0, slots := 0, locals := 96 }
theorem in_X7_exp_X7 : ∀ w ∈ wsX70, w ∈ wsX7_exp := by decide +kernel
set_option maxHeartbeats 4000000 in
set_option maxRecDepth 100000 in
theorem ct_X7_exp (l : Launch) (D : va_G) (ad : Nat → Nat) (cI cJ cR : ClassId) (Ln : Nat → Nat) {S : cs_T} {a1 : Int32} {a2 : Int32} {Q : Int32 → cs_T → Prop} (h : wp_X7_exp Ln S a1 a2 Q) : xr_I l D (cs_ty cI cJ cR) (cs_w ad cI cR Ln) yX7_exp wsX7_exp rm_X7_exp [.ref (ad 0), .int a1, .int a2] S Q := by
  refine xr_eI (cc := cX7_exp) (nL := 3) (ret := (some .int)) (own := RX7) (by decide) rfl rfl (Nat.le_of_ble_eq_true rfl) ?_
  intro p e s m args below meth c ls A fx hK hA hP hD hS hl
  have hl : lv_has ls 3 [(0, .ref (ad 0)), (1, .int a1), (2, .int a2)] := hl
  show W p l e rm_X7_exp s m args below meth c s.heap [] 0 0 _ _
  obtain ⟨⟨hx, hb, hml, hown, hts⟩, hrt, hlk⟩ := id fx
  have hf : 0 ≤ rm_X7_exp.cells ∧ 0 ≤ rm_X7_exp.slots := ⟨Nat.zero_le _, Nat.zero_le _⟩
  unfold wp_X7_exp at h
  refine lv_iload_n hx hb dX7_exp_0 rfl (lv_at hl 1 rfl) ?_
  refine xr_sI (n := 1) (As := [.int a1]) (rest := []) fx (ct_X7_noSum l h) gX7_exp_X7_noSum rfl rfl (by decide +kernel) ⟨Nat.le_of_ble_eq_true rfl, Nat.le_of_ble_eq_true rfl⟩ ⟨rfl, rfl⟩ hf hl.1 rfl (Nat.le_of_ble_eq_true rfl) dX7_exp_1 (fun r1 h => ?_)
  refine lv_if_ne (tgt := 14) hx hb dX7_exp_4 (by decide) (fun c4 => ?_) (fun c4 => ?_)
  · have h := h.1 c4
    refine lv_iconst (v := (-1)) hx hb dX7_exp_14 (by decide) ?_
    exact xr_rI fx hK hP hD hS h dX7_exp_15
  · have h := h.2 c4
    refine lv_iload_n hx hb dX7_exp_7 rfl (lv_at hl 2 rfl) ?_
    refine xr_sI (n := 1) (As := [.int a2]) (rest := []) fx (ct_X7_noSum l h) gX7_exp_X7_noSum rfl rfl (by decide +kernel) ⟨Nat.le_of_ble_eq_true rfl, Nat.le_of_ble_eq_true rfl⟩ ⟨rfl, rfl⟩ hf hl.1 rfl (Nat.le_of_ble_eq_true rfl) dX7_exp_8 (fun r2 h => ?_)
    refine lv_if_eq (tgt := 16) hx hb dX7_exp_11 (by decide) (fun c11 => ?_) (fun c11 => ?_)
    · have h := h.1 c11
      refine lv_aload_n hx hb dX7_exp_16 rfl (lv_at hl 0 rfl) ?_
      refine cs_get 0 6 1 (v := .ref (ad 7)) (ref := "BracketLetters") fx (by decide) rfl rfl in_X7_exp_X7 (by decide) rfl (by decide +kernel) rfl hK hP dX7_exp_17 ?_
      refine lv_iload_n hx hb dX7_exp_20 rfl (lv_at hl 2 rfl) ?_
      obtain ⟨hi3, h⟩ := h
      refine cs_aald 7 8 7 fx (by decide) rfl hK hP hi3 dX7_exp_21 ?_
      refine lv_iconst (v := 0) hx hb dX7_exp_22 (by decide) ?_
      obtain ⟨hk5, h⟩ := h
      obtain ⟨hi4, h⟩ := h
      refine cs_iald (7 + a2.toNatClampNeg) hk5 fx hK hP hi4 dX7_exp_23 ?_
      refine lv_if_eq (tgt := 30) hx hb dX7_exp_24 (by decide) (fun c24 => ?_) (fun c24 => ?_)
      · have h := h.1 c24
        refine lv_aload_n hx hb dX7_exp_30 rfl (lv_at hl 0 rfl) ?_
        refine cs_get 0 6 2 (v := .ref (ad 2)) (ref := "BracketLetters") fx (by decide) rfl rfl in_X7_exp_X7 (by decide) rfl (by decide +kernel) rfl hK hP dX7_exp_31 ?_
        refine lv_aload_n hx hb dX7_exp_34 rfl (lv_at hl 0 rfl) ?_
        refine cs_get 0 6 1 (v := .ref (ad 7)) (ref := "BracketLetters") fx (by decide) rfl rfl in_X7_exp_X7 (by decide) rfl (by decide +kernel) rfl hK hP dX7_exp_35 ?_
        refine lv_iload_n hx hb dX7_exp_38 rfl (lv_at hl 1 rfl) ?_
        obtain ⟨hi6, h⟩ := h
        refine cs_aald 7 8 7 fx (by decide) rfl hK hP hi6 dX7_exp_39 ?_
        refine lv_aload_n hx hb dX7_exp_40 rfl (lv_at hl 0 rfl) ?_
        refine cs_get 0 6 1 (v := .ref (ad 7)) (ref := "BracketLetters") fx (by decide) rfl rfl in_X7_exp_X7 (by decide) rfl (by decide +kernel) rfl hK hP dX7_exp_41 ?_
        refine lv_iload_n hx hb dX7_exp_44 rfl (lv_at hl 2 rfl) ?_
        obtain ⟨hi7, h⟩ := h
        refine cs_aald 7 8 7 fx (by decide) rfl hK hP hi7 dX7_exp_45 ?_
        refine xr_vV (n := 2) (As := [.ref (ad (9 + (7 + a1.toNatClampNeg))), .ref (ad (9 + (7 + a2.toNatClampNeg)))]) (rest := []) fx (ct_X0_raise l D ad cI cJ cR Ln h) gX7_exp_X0_raise rfl rfl (by decide +kernel) ⟨Nat.le_of_ble_eq_true rfl, Nat.le_of_ble_eq_true rfl⟩ ⟨rfl, rfl⟩ hf (cs_recv 2 0 (by decide) rfl rfl hK hP) hK hP hD hS hA hl.1 rfl (Nat.le_of_ble_eq_true rfl) dX7_exp_46 (fun S8 H locs h hP hD hS => ?_)
        refine lv_iconst (v := 0) hx hb dX7_exp_49 (by decide) ?_
        exact xr_rI fx hK hP hD hS h dX7_exp_50
      · have h := h.2 c24
        refine lv_bipush (v := (-3)) hx hb dX7_exp_27 (by decide) ?_
        exact xr_rI fx hK hP hD hS h dX7_exp_29
    · have h := h.2 c11
      refine lv_iconst (v := (-1)) hx hb dX7_exp_14 (by decide) ?_
      exact xr_rI fx hK hP hD hS h dX7_exp_15
abbrev rm_X0_unraise : Room := { frames := 2, cells := 0, slots := 0, locals := 70 }
theorem in_X0_unraise_X0 : ∀ w ∈ wsX00, w ∈ wsX0_unraise := by decide +kernel
set_option maxHeartbeats 4000000 in
set_option maxRecDepth 100000 in
theorem kb_X0_unraise_49 {p : Program} {l : Launch} {e : Env} {s : State} {m : MethodId} {args : Array Value} {below : List Frame} {meth : Method} {c : Code} {D : va_G} {ad : Nat → Nat} {cI cJ cR : ClassId} {Ln : Nat → Nat} {A : Nat → Prop}  {K49 : cs_T → Nat → Nat → Nat → Int32 → Prop} {Q : cs_T → Prop} {S : cs_T} {v1 : Nat} {v3 : Nat} {v4 : Nat} {v5 : Int32} (fx : xr_Fx p m c meth cX0_unraise 7 s args wsX0_unraise RX0 none) (hK : xr_K D (cs_ty cI cJ cR) s) (hA : ∀ q, s.heap.size ≤ q → A q)   (k49 : ∀ (S : cs_T) (v1 : Nat) (v3 : Nat) (v4 : Nat) (v5 : Int32) {H : Heap} {locs : List Loc} {ls : Array Slot}, va_P D vwCl (cs_w ad cI cR Ln S) H → va_D A (cs_w ad cI cR Ln S) → va_S A s.heap H locs → lv_has ls 7 [(0, .ref (ad 2)), (1, .ref (ad (9 + v1))), (3, .ref (ad (9 + v3))), (4, .ref (ad (9 + v4))), (5, .int v5)] → K49 S v1 v3 v4 v5 → W p l e rm_X0_unraise s m args below meth c H locs 0 0 (MQ below (va_Qv Q (xr_B D (cs_ty cI cJ cR) (cs_w ad cI cR Ln) A) A) args s 0 0 A) (F0 m 49 ls [])) {H : Heap} {locs : List Loc} {ls : Array Slot} (hP : va_P D vwCl (cs_w ad cI cR Ln S) H) (hD : va_D A (cs_w ad cI cR Ln S)) (hS : va_S A s.heap H locs) (hl : lv_has ls 7 [(0, .ref (ad 2)), (1, .ref (ad (9 + v1))), (3, .ref (ad (9 + v3))), (4, .ref (ad (9 + v4))), (5, .int v5)]) (h : wb_X0_unraise_49 Ln K49 Q S v1 v3 v4 v5) : W p l e rm_X0_unraise s m args below meth c H locs 0 0 (MQ below (va_Qv Q (xr_B D (cs_ty cI cJ cR) (cs_w ad cI cR Ln) A) A) args s 0 0 A) (F0 m 49 ls []) := by
  obtain ⟨⟨hx, hb, hml, hown, hts⟩, hrt, hlk⟩ := id fx
  have hf : 0 ≤ rm_X0_unraise.cells ∧ 0 ≤ rm_X0_unraise.slots := ⟨Nat.zero_le _, Nat.zero_le _⟩
  unfold wb_X0_unraise_49 at h
  refine lv_iload hx hb dX0_unraise_49 (lv_at hl 4 rfl) ?_
  refine lv_iconst (v := 1) hx hb dX0_unraise_51 (by decide) ?_
  refine lv_icmp_lt (tgt := 101) hx hb dX0_unraise_52 (by decide) (fun c52 => ?_) (fun c52 => ?_)
  · have h := h.1 c52
    refine lv_aload hx hb dX0_unraise_101 (lv_at hl 3 rfl) ?_
    refine lv_iconst (v := 0) hx hb dX0_unraise_103 (by decide) ?_
    refine xr_wV (n := 2) (As := [.ref (ad (9 + v4)), .int 0]) (rest := []) fx (ct_J7_fill_53178 l D ad cI cJ cR Ln h) gX0_unraise_J7_fill_53178 rfl rfl (by decide +kernel) ⟨Nat.le_of_ble_eq_true rfl, Nat.le_of_ble_eq_true rfl⟩ ⟨rfl, rfl⟩ hf hK hP hD hS hA hl.1 rfl (Nat.le_of_ble_eq_true rfl) dX0_unraise_104 (fun S1 H locs h hP hD hS => ?_)
    refine lv_aload_n hx hb dX0_unraise_107 rfl (lv_at hl 0 rfl) ?_
    refine lv_aload hx hb dX0_unraise_108 (lv_at hl 3 rfl) ?_
    refine lv_aload_n hx hb dX0_unraise_110 rfl (lv_at hl 2 rfl) ?_
    refine lv_aload_n hx hb dX0_unraise_111 rfl (lv_at hl 0 rfl) ?_
    refine cs_get 2 0 8 (v := .ref (ad (9 + 4))) (ref := "BracketLetters$Algebra") fx (by decide) rfl rfl in_X0_unraise_X0 (by decide) rfl (by decide +kernel) rfl hK hP dX0_unraise_112 ?_
    refine lv_iconst (v := 1) hx hb dX0_unraise_115 (by decide) ?_
    refine lv_aload_n hx hb dX0_unraise_116 rfl (lv_at hl 0 rfl) ?_
    refine cs_get 2 0 2 (v := .int (S1.1 0)) (ref := "BracketLetters$Algebra") fx (by decide) rfl rfl in_X0_unraise_X0 (by decide) rfl (by decide +kernel) rfl hK hP dX0_unraise_117 ?_
    refine xr_vV (n := 5) (As := [.ref (ad (9 + v4)), .ref (ad (9 + v3)), .ref (ad (9 + 4)), .int 1, .int (S1.1 0)]) (rest := []) fx (ct_X0_gather l D ad cI cJ cR Ln h) gX0_unraise_X0_gather rfl rfl (by decide +kernel) ⟨Nat.le_of_ble_eq_true rfl, Nat.le_of_ble_eq_true rfl⟩ ⟨rfl, rfl⟩ hf (cs_recv 2 0 (by decide) rfl rfl hK hP) hK hP hD hS hA hl.1 rfl (Nat.le_of_ble_eq_true rfl) dX0_unraise_120 (fun S2 H locs h hP hD hS => ?_)
    refine lv_aload_n hx hb dX0_unraise_123 rfl (lv_at hl 0 rfl) ?_
    refine lv_aload_n hx hb dX0_unraise_124 rfl (lv_at hl 1 rfl) ?_
    refine lv_aload hx hb dX0_unraise_125 (lv_at hl 3 rfl) ?_
    refine xr_vV (n := 2) (As := [.ref (ad (9 + v1)), .ref (ad (9 + v4))]) (rest := []) fx (ct_X0_copy l D ad cI cJ cR Ln h) gX0_unraise_X0_copy rfl rfl (by decide +kernel) ⟨Nat.le_of_ble_eq_true rfl, Nat.le_of_ble_eq_true rfl⟩ ⟨rfl, rfl⟩ hf (cs_recv 2 0 (by decide) rfl rfl hK hP) hK hP hD hS hA hl.1 rfl (Nat.le_of_ble_eq_true rfl) dX0_unraise_127 (fun S3 H locs h hP hD hS => ?_)
    exact xr_rV fx hK hP hD hS h dX0_unraise_130
  · have h := h.2 c52
    refine lv_aload_n hx hb dX0_unraise_55 rfl (lv_at hl 0 rfl) ?_
    refine lv_aload hx hb dX0_unraise_56 (lv_at hl 3 rfl) ?_
    refine lv_aload_n hx hb dX0_unraise_58 rfl (lv_at hl 0 rfl) ?_
    refine cs_get 2 0 6 (v := .ref (ad (9 + 2))) (ref := "BracketLetters$Algebra") fx (by decide) rfl rfl in_X0_unraise_X0 (by decide) rfl (by decide +kernel) rfl hK hP dX0_unraise_59 ?_
    refine lv_iload hx hb dX0_unraise_62 (lv_at hl 4 rfl) ?_
    obtain ⟨hi4, h⟩ := h
    refine cs_iald 2 (by decide) fx hK hP hi4 dX0_unraise_64 ?_
    refine xr_vV (n := 2) (As := [.ref (ad (9 + v4)), .int (S.2.1 2 v5.toNatClampNeg)]) (rest := []) fx (ct_X0_setToUnit l D ad cI cJ cR Ln h) gX0_unraise_X0_setToUnit rfl rfl (by decide +kernel) ⟨Nat.le_of_ble_eq_true rfl, Nat.le_of_ble_eq_true rfl⟩ ⟨rfl, rfl⟩ hf (cs_recv 2 0 (by decide) rfl rfl hK hP) hK hP hD hS hA hl.1 rfl (Nat.le_of_ble_eq_true rfl) dX0_unraise_65 (fun S5 H locs h hP hD hS => ?_)
    refine lv_aload_n hx hb dX0_unraise_68 rfl (lv_at hl 0 rfl) ?_
    refine lv_aload hx hb dX0_unraise_69 (lv_at hl 3 rfl) ?_
    refine lv_aload_n hx hb dX0_unraise_71 rfl (lv_at hl 2 rfl) ?_
    refine lv_aload_n hx hb dX0_unraise_72 rfl (lv_at hl 0 rfl) ?_
    refine cs_get 2 0 8 (v := .ref (ad (9 + 4))) (ref := "BracketLetters$Algebra") fx (by decide) rfl rfl in_X0_unraise_X0 (by decide) rfl (by decide +kernel) rfl hK hP dX0_unraise_73 ?_
    refine lv_ldc (v := 2147483646) hx hb hown (hts (.constant RX0 97 (2147483646)) (by decide +kernel)) dX0_unraise_76 ?_
    refine lv_aload_n hx hb dX0_unraise_78 rfl (lv_at hl 0 rfl) ?_
    refine cs_get 2 0 2 (v := .int (S5.1 0)) (ref := "BracketLetters$Algebra") fx (by decide) rfl rfl in_X0_unraise_X0 (by decide) rfl (by decide +kernel) rfl hK hP dX0_unraise_79 ?_
    refine xr_vV (n := 5) (As := [.ref (ad (9 + v4)), .ref (ad (9 + v3)), .ref (ad (9 + 4)), .int 2147483646, .int (S5.1 0)]) (rest := []) fx (ct_X0_gather l D ad cI cJ cR Ln h) gX0_unraise_X0_gather rfl rfl (by decide +kernel) ⟨Nat.le_of_ble_eq_true rfl, Nat.le_of_ble_eq_true rfl⟩ ⟨rfl, rfl⟩ hf (cs_recv 2 0 (by decide) rfl rfl hK hP) hK hP hD hS hA hl.1 rfl (Nat.le_of_ble_eq_true rfl) dX0_unraise_82 (fun S6 H locs h hP hD hS => ?_)
    refine lv_aload_n hx hb dX0_unraise_85 rfl (lv_at hl 2 rfl) ?_
    refine lv_astore (lv' := [(6, .ref (ad (9 + v3))), (0, .ref (ad 2)), (1, .ref (ad (9 + v1))), (3, .ref (ad (9 + v3))), (4, .ref (ad (9 + v4))), (5, .int v5)]) hx hb dX0_unraise_86 hl (by decide) rfl (fun ls hl => ?_)
    refine lv_aload hx hb dX0_unraise_88 (lv_at hl 4 rfl) ?_
    refine lv_astore_n (lv' := [(3, .ref (ad (9 + v4))), (6, .ref (ad (9 + v3))), (0, .ref (ad 2)), (1, .ref (ad (9 + v1))), (4, .ref (ad (9 + v4))), (5, .int v5)]) hx hb dX0_unraise_90 rfl hl (by decide) rfl (fun ls hl => ?_)
    refine lv_aload hx hb dX0_unraise_91 (lv_at hl 1 rfl) ?_
    refine lv_astore (lv' := [(4, .ref (ad (9 + v3))), (3, .ref (ad (9 + v4))), (6, .ref (ad (9 + v3))), (0, .ref (ad 2)), (1, .ref (ad (9 + v1))), (5, .int v5)]) hx hb dX0_unraise_93 hl (by decide) rfl (fun ls hl => ?_)
    obtain ⟨v5_7, ev5_7⟩ : ∃ z : Int32, z = v5 + (-1) := ⟨_, rfl⟩
    have h := h v5_7 ev5_7
    refine lv_iinc (v := v5_7) (lv' := [(5, .int v5_7), (4, .ref (ad (9 + v3))), (3, .ref (ad (9 + v4))), (6, .ref (ad (9 + v3))), (0, .ref (ad 2)), (1, .ref (ad (9 + v1)))]) hx hb dX0_unraise_95 hl (k := 5) rfl (by rw [ev5_7]; rfl) (by decide) rfl (fun ls hl => ?_)
    refine lv_goto (tgt := 49) hx hb dX0_unraise_98 (by decide) ?_
    exact k49 _ _ _ _ _ hP hD hS (lv_sub hl [4, 5, 2, 1, 0] rfl) h
theorem kw_X0_unraise_49 {p : Program} {l : Launch} {e : Env} {s : State} {m : MethodId} {args : Array Value} {below : List Frame} {meth : Method} {c : Code} {D : va_G} {ad : Nat → Nat} {cI cJ cR : ClassId} {Ln : Nat → Nat} {A : Nat → Prop}  {Q : cs_T → Prop} (fx : xr_Fx p m c meth cX0_unraise 7 s args wsX0_unraise RX0 none) (hK : xr_K D (cs_ty cI cJ cR) s) (hA : ∀ q, s.heap.size ≤ q → A q)   : ∀ (n : Nat) (S : cs_T) (v1 : Nat) (v3 : Nat) (v4 : Nat) (v5 : Int32) {H : Heap} {locs : List Loc} {ls : Array Slot}, va_P D vwCl (cs_w ad cI cR Ln S) H → va_D A (cs_w ad cI cR Ln S) → va_S A s.heap H locs → lv_has ls 7 [(0, .ref (ad 2)), (1, .ref (ad (9 + v1))), (3, .ref (ad (9 + v3))), (4, .ref (ad (9 + v4))), (5, .int v5)] → wp_X0_unraise_49 Ln Q n S v1 v3 v4 v5 → W p l e rm_X0_unraise s m args below meth c H locs 0 0 (MQ below (va_Qv Q (xr_B D (cs_ty cI cJ cR) (cs_w ad cI cR Ln) A) A) args s 0 0 A) (F0 m 49 ls []) := by
  intro n
  induction n with
  | zero => intro S v1 v3 v4 v5 H locs ls hP hD hS hl h; exact False.elim h
  | succ n ih => intro S v1 v3 v4 v5 H locs ls hP hD hS hl h; exact kb_X0_unraise_49 fx hK hA ih hP hD hS hl h
set_option maxHeartbeats 4000000 in
set_option maxRecDepth 100000 in
theorem ct_X0_unraise (l : Launch) (D : va_G) (ad : Nat → Nat) (cI cJ cR : ClassId) (Ln : Nat → Nat) {S : cs_T} {a1 : Nat} {a2 : Nat} {Q : cs_T → Prop} (h : wp_X0_unraise Ln S a1 a2 Q) : xr_V l D (cs_ty cI cJ cR) (cs_w ad cI cR Ln) yX0_unraise wsX0_unraise rm_X0_unraise [.ref (ad 2), .ref (ad (9 + a1)), .ref (ad (9 + a2))] S Q := by
  refine xr_eV (cc := cX0_unraise) (nL := 7) (ret := none) (own := RX0) (by decide) rfl rfl (Nat.le_of_ble_eq_true rfl) ?_
  intro p e s m args below meth c ls A fx hK hA hP hD hS hl
  have hl : lv_has ls 7 [(0, .ref (ad 2)), (1, .ref (ad (9 + a1))), (2, .ref (ad (9 + a2)))] := hl
  show W p l e rm_X0_unraise s m args below meth c s.heap [] 0 0 _ _
  obtain ⟨⟨hx, hb, hml, hown, hts⟩, hrt, hlk⟩ := id fx
  have hf : 0 ≤ rm_X0_unraise.cells ∧ 0 ≤ rm_X0_unraise.slots := ⟨Nat.zero_le _, Nat.zero_le _⟩
  unfold wp_X0_unraise at h
  refine lv_aload_n hx hb dX0_unraise_0 rfl (lv_at hl 0 rfl) ?_
  refine lv_aload_n hx hb dX0_unraise_1 rfl (lv_at hl 0 rfl) ?_
  refine cs_get 2 0 8 (v := .ref (ad (9 + 4))) (ref := "BracketLetters$Algebra") fx (by decide) rfl rfl in_X0_unraise_X0 (by decide) rfl (by decide +kernel) rfl hK hP dX0_unraise_2 ?_
  refine lv_aload_n hx hb dX0_unraise_5 rfl (lv_at hl 2 rfl) ?_
  refine xr_vV (n := 2) (As := [.ref (ad (9 + 4)), .ref (ad (9 + a2))]) (rest := []) fx (ct_X0_copy l D ad cI cJ cR Ln h) gX0_unraise_X0_copy rfl rfl (by decide +kernel) ⟨Nat.le_of_ble_eq_true rfl, Nat.le_of_ble_eq_true rfl⟩ ⟨rfl, rfl⟩ hf (cs_recv 2 0 (by decide) rfl rfl hK hP) hK hP hD hS hA hl.1 rfl (Nat.le_of_ble_eq_true rfl) dX0_unraise_6 (fun S8 H locs h hP hD hS => ?_)
  refine lv_aload_n hx hb dX0_unraise_9 rfl (lv_at hl 0 rfl) ?_
  refine cs_get 2 0 8 (v := .ref (ad (9 + 4))) (ref := "BracketLetters$Algebra") fx (by decide) rfl rfl in_X0_unraise_X0 (by decide) rfl (by decide +kernel) rfl hK hP dX0_unraise_10 ?_
  refine lv_iconst (v := 0) hx hb dX0_unraise_13 (by decide) ?_
  refine lv_iconst (v := 0) hx hb dX0_unraise_14 (by decide) ?_
  obtain ⟨hi9, h⟩ := h
  refine cs_iast 4 (by decide) fx hK hP hD hS hi9 dX0_unraise_15 (fun H locs hP hD hS => ?_)
  refine lv_aload_n hx hb dX0_unraise_16 rfl (lv_at hl 0 rfl) ?_
  refine cs_get 2 0 9 (v := .ref (ad (9 + 5))) (ref := "BracketLetters$Algebra") fx (by decide) rfl rfl in_X0_unraise_X0 (by decide) rfl (by decide +kernel) rfl hK hP dX0_unraise_17 ?_
  refine lv_astore_n (lv' := [(3, .ref (ad (9 + 5))), (0, .ref (ad 2)), (1, .ref (ad (9 + a1))), (2, .ref (ad (9 + a2)))]) hx hb dX0_unraise_20 rfl hl (by decide) rfl (fun ls hl => ?_)
  refine lv_aload_n hx hb dX0_unraise_21 rfl (lv_at hl 1 rfl) ?_
  refine cs_get 2 0 10 (v := .ref (ad (9 + 6))) (ref := "BracketLetters$Algebra") fx (by decide) rfl rfl in_X0_unraise_X0 (by decide) rfl (by decide +kernel) rfl hK hP dX0_unraise_22 ?_
  refine lv_astore (lv' := [(4, .ref (ad (9 + 6))), (3, .ref (ad (9 + 5))), (0, .ref (ad 2)), (1, .ref (ad (9 + a1))), (2, .ref (ad (9 + a2)))]) hx hb dX0_unraise_25 hl (by decide) rfl (fun ls hl => ?_)
  refine lv_aload_n hx hb dX0_unraise_27 rfl (lv_at hl 2 rfl) ?_
  refine lv_aload_n hx hb dX0_unraise_28 rfl (lv_at hl 1 rfl) ?_
  refine lv_aload_n hx hb dX0_unraise_29 rfl (lv_at hl 2 rfl) ?_
  refine cs_get 2 0 6 (v := .ref (ad (9 + 2))) (ref := "BracketLetters$Algebra") fx (by decide) rfl rfl in_X0_unraise_X0 (by decide) rfl (by decide +kernel) rfl hK hP dX0_unraise_30 ?_
  refine lv_aload_n hx hb dX0_unraise_33 rfl (lv_at hl 2 rfl) ?_
  refine cs_get 2 0 2 (v := .int ((cs_sI S8 4 ((0 : Int32)).toNatClampNeg 0).1 0)) (ref := "BracketLetters$Algebra") fx (by decide) rfl rfl in_X0_unraise_X0 (by decide) rfl (by decide +kernel) rfl hK hP dX0_unraise_34 ?_
  obtain ⟨hi10, h⟩ := h
  refine cs_iald 2 (by decide) fx hK hP hi10 dX0_unraise_37 ?_
  refine xr_vV (n := 2) (As := [.ref (ad (9 + 5)), .int ((cs_sI S8 4 ((0 : Int32)).toNatClampNeg 0).2.1 2 ((cs_sI S8 4 ((0 : Int32)).toNatClampNeg 0).1 0).toNatClampNeg)]) (rest := []) fx (ct_X0_setToUnit l D ad cI cJ cR Ln h) gX0_unraise_X0_setToUnit rfl rfl (by decide +kernel) ⟨Nat.le_of_ble_eq_true rfl, Nat.le_of_ble_eq_true rfl⟩ ⟨rfl, rfl⟩ hf (cs_recv 2 0 (by decide) rfl rfl hK hP) hK hP hD hS hA hl.1 rfl (Nat.le_of_ble_eq_true rfl) dX0_unraise_38 (fun S11 H locs h hP hD hS => ?_)
  refine lv_aload_n hx hb dX0_unraise_41 rfl (lv_at hl 2 rfl) ?_
  refine cs_get 2 0 2 (v := .int (S11.1 0)) (ref := "BracketLetters$Algebra") fx (by decide) rfl rfl in_X0_unraise_X0 (by decide) rfl (by decide +kernel) rfl hK hP dX0_unraise_42 ?_
  refine lv_iconst (v := 1) hx hb dX0_unraise_45 (by decide) ?_
  refine lv_isub hx hb dX0_unraise_46 ?_
  refine lv_topi (fun v5_12 ev5_12 => ?_)
  have h := h v5_12 ev5_12
  refine lv_istore (lv' := [(5, .int v5_12), (4, .ref (ad (9 + 6))), (3, .ref (ad (9 + 5))), (0, .ref (ad 2)), (1, .ref (ad (9 + a1))), (2, .ref (ad (9 + a2)))]) hx hb dX0_unraise_47 hl (by decide) rfl (fun ls hl => ?_)
  obtain ⟨n, h⟩ := h
  exact kw_X0_unraise_49 fx hK hA n _ _ _ _ _ hP hD hS (lv_sub hl [3, 4, 2, 1, 0] rfl) h
abbrev rm_X7_log : Room := { frames := 3, cells := 0, slots := 0, locals := 96 }
theorem in_X7_log_X7 : ∀ w ∈ wsX70, w ∈ wsX7_log := by decide +kernel
set_option maxHeartbeats 4000000 in
set_option maxRecDepth 100000 in
theorem ct_X7_log (l : Launch) (D : va_G) (ad : Nat → Nat) (cI cJ cR : ClassId) (Ln : Nat → Nat) {S : cs_T} {a1 : Int32} {a2 : Int32} {Q : Int32 → cs_T → Prop} (h : wp_X7_log Ln S a1 a2 Q) : xr_I l D (cs_ty cI cJ cR) (cs_w ad cI cR Ln) yX7_log wsX7_log rm_X7_log [.ref (ad 0), .int a1, .int a2] S Q := by
  refine xr_eI (cc := cX7_log) (nL := 3) (ret := (some .int)) (own := RX7) (by decide) rfl rfl (Nat.le_of_ble_eq_true rfl) ?_
  intro p e s m args below meth c ls A fx hK hA hP hD hS hl
  have hl : lv_has ls 3 [(0, .ref (ad 0)), (1, .int a1), (2, .int a2)] := hl
  show W p l e rm_X7_log s m args below meth c s.heap [] 0 0 _ _
  obtain ⟨⟨hx, hb, hml, hown, hts⟩, hrt, hlk⟩ := id fx
  have hf : 0 ≤ rm_X7_log.cells ∧ 0 ≤ rm_X7_log.slots := ⟨Nat.zero_le _, Nat.zero_le _⟩
  unfold wp_X7_log at h
  refine lv_iload_n hx hb dX7_log_0 rfl (lv_at hl 1 rfl) ?_
  refine xr_sI (n := 1) (As := [.int a1]) (rest := []) fx (ct_X7_noSum l h) gX7_log_X7_noSum rfl rfl (by decide +kernel) ⟨Nat.le_of_ble_eq_true rfl, Nat.le_of_ble_eq_true rfl⟩ ⟨rfl, rfl⟩ hf hl.1 rfl (Nat.le_of_ble_eq_true rfl) dX7_log_1 (fun r1 h => ?_)
  refine lv_if_ne (tgt := 14) hx hb dX7_log_4 (by decide) (fun c4 => ?_) (fun c4 => ?_)
  · have h := h.1 c4
    refine lv_iconst (v := (-1)) hx hb dX7_log_14 (by decide) ?_
    exact xr_rI fx hK hP hD hS h dX7_log_15
  · have h := h.2 c4
    refine lv_iload_n hx hb dX7_log_7 rfl (lv_at hl 2 rfl) ?_
    refine xr_sI (n := 1) (As := [.int a2]) (rest := []) fx (ct_X7_noSum l h) gX7_log_X7_noSum rfl rfl (by decide +kernel) ⟨Nat.le_of_ble_eq_true rfl, Nat.le_of_ble_eq_true rfl⟩ ⟨rfl, rfl⟩ hf hl.1 rfl (Nat.le_of_ble_eq_true rfl) dX7_log_8 (fun r2 h => ?_)
    refine lv_if_eq (tgt := 16) hx hb dX7_log_11 (by decide) (fun c11 => ?_) (fun c11 => ?_)
    · have h := h.1 c11
      refine lv_aload_n hx hb dX7_log_16 rfl (lv_at hl 0 rfl) ?_
      refine cs_get 0 6 1 (v := .ref (ad 7)) (ref := "BracketLetters") fx (by decide) rfl rfl in_X7_log_X7 (by decide) rfl (by decide +kernel) rfl hK hP dX7_log_17 ?_
      refine lv_iload_n hx hb dX7_log_20 rfl (lv_at hl 2 rfl) ?_
      obtain ⟨hi3, h⟩ := h
      refine cs_aald 7 8 7 fx (by decide) rfl hK hP hi3 dX7_log_21 ?_
      refine lv_iconst (v := 0) hx hb dX7_log_22 (by decide) ?_
      obtain ⟨hk5, h⟩ := h
      obtain ⟨hi4, h⟩ := h
      refine cs_iald (7 + a2.toNatClampNeg) hk5 fx hK hP hi4 dX7_log_23 ?_
      refine lv_iconst (v := 1) hx hb dX7_log_24 (by decide) ?_
      refine lv_icmp_eq (tgt := 31) hx hb dX7_log_25 (by decide) (fun c25 => ?_) (fun c25 => ?_)
      · have h := h.1 c25
        refine lv_aload_n hx hb dX7_log_31 rfl (lv_at hl 0 rfl) ?_
        refine cs_get 0 6 2 (v := .ref (ad 2)) (ref := "BracketLetters") fx (by decide) rfl rfl in_X7_log_X7 (by decide) rfl (by decide +kernel) rfl hK hP dX7_log_32 ?_
        refine lv_aload_n hx hb dX7_log_35 rfl (lv_at hl 0 rfl) ?_
        refine cs_get 0 6 1 (v := .ref (ad 7)) (ref := "BracketLetters") fx (by decide) rfl rfl in_X7_log_X7 (by decide) rfl (by decide +kernel) rfl hK hP dX7_log_36 ?_
        refine lv_iload_n hx hb dX7_log_39 rfl (lv_at hl 1 rfl) ?_
        obtain ⟨hi6, h⟩ := h
        refine cs_aald 7 8 7 fx (by decide) rfl hK hP hi6 dX7_log_40 ?_
        refine lv_aload_n hx hb dX7_log_41 rfl (lv_at hl 0 rfl) ?_
        refine cs_get 0 6 1 (v := .ref (ad 7)) (ref := "BracketLetters") fx (by decide) rfl rfl in_X7_log_X7 (by decide) rfl (by decide +kernel) rfl hK hP dX7_log_42 ?_
        refine lv_iload_n hx hb dX7_log_45 rfl (lv_at hl 2 rfl) ?_
        obtain ⟨hi7, h⟩ := h
        refine cs_aald 7 8 7 fx (by decide) rfl hK hP hi7 dX7_log_46 ?_
        refine xr_vV (n := 2) (As := [.ref (ad (9 + (7 + a1.toNatClampNeg))), .ref (ad (9 + (7 + a2.toNatClampNeg)))]) (rest := []) fx (ct_X0_unraise l D ad cI cJ cR Ln h) gX7_log_X0_unraise rfl rfl (by decide +kernel) ⟨Nat.le_of_ble_eq_true rfl, Nat.le_of_ble_eq_true rfl⟩ ⟨rfl, rfl⟩ hf (cs_recv 2 0 (by decide) rfl rfl hK hP) hK hP hD hS hA hl.1 rfl (Nat.le_of_ble_eq_true rfl) dX7_log_47 (fun S8 H locs h hP hD hS => ?_)
        refine lv_iconst (v := 0) hx hb dX7_log_50 (by decide) ?_
        exact xr_rI fx hK hP hD hS h dX7_log_51
      · have h := h.2 c25
        refine lv_bipush (v := (-3)) hx hb dX7_log_28 (by decide) ?_
        exact xr_rI fx hK hP hD hS h dX7_log_30
    · have h := h.2 c11
      refine lv_iconst (v := (-1)) hx hb dX7_log_14 (by decide) ?_
      exact xr_rI fx hK hP hD hS h dX7_log_15
abbrev rm_X0_invert : Room := { frames := 2, cells := 0, slots := 0, locals := 70 }
theorem in_X0_invert_X0 : ∀ w ∈ wsX00, w ∈ wsX0_invert := by decide +kernel
set_option maxHeartbeats 4000000 in
set_option maxRecDepth 100000 in
theorem kb_X0_invert_36 {p : Program} {l : Launch} {e : Env} {s : State} {m : MethodId} {args : Array Value} {below : List Frame} {meth : Method} {c : Code} {D : va_G} {ad : Nat → Nat} {cI cJ cR : ClassId} {Ln : Nat → Nat} {A : Nat → Prop}  {K36 : cs_T → Nat → Nat → Nat → Int32 → Prop} {Q : cs_T → Prop} {S : cs_T} {v1 : Nat} {v3 : Nat} {v4 : Nat} {v5 : Int32} (fx : xr_Fx p m c meth cX0_invert 7 s args wsX0_invert RX0 none) (hK : xr_K D (cs_ty cI cJ cR) s) (hA : ∀ q, s.heap.size ≤ q → A q)   (k36 : ∀ (S : cs_T) (v1 : Nat) (v3 : Nat) (v4 : Nat) (v5 : Int32) {H : Heap} {locs : List Loc} {ls : Array Slot}, va_P D vwCl (cs_w ad cI cR Ln S) H → va_D A (cs_w ad cI cR Ln S) → va_S A s.heap H locs → lv_has ls 7 [(0, .ref (ad 2)), (1, .ref (ad (9 + v1))), (3, .ref (ad (9 + v3))), (4, .ref (ad (9 + v4))), (5, .int v5)] → K36 S v1 v3 v4 v5 → W p l e rm_X0_invert s m args below meth c H locs 0 0 (MQ below (va_Qv Q (xr_B D (cs_ty cI cJ cR) (cs_w ad cI cR Ln) A) A) args s 0 0 A) (F0 m 36 ls [])) {H : Heap} {locs : List Loc} {ls : Array Slot} (hP : va_P D vwCl (cs_w ad cI cR Ln S) H) (hD : va_D A (cs_w ad cI cR Ln S)) (hS : va_S A s.heap H locs) (hl : lv_has ls 7 [(0, .ref (ad 2)), (1, .ref (ad (9 + v1))), (3, .ref (ad (9 + v3))), (4, .ref (ad (9 + v4))), (5, .int v5)]) (h : wb_X0_invert_36 Ln K36 Q S v1 v3 v4 v5) : W p l e rm_X0_invert s m args below meth c H locs 0 0 (MQ below (va_Qv Q (xr_B D (cs_ty cI cJ cR) (cs_w ad cI cR Ln) A) A) args s 0 0 A) (F0 m 36 ls []) := by
  obtain ⟨⟨hx, hb, hml, hown, hts⟩, hrt, hlk⟩ := id fx
  have hf : 0 ≤ rm_X0_invert.cells ∧ 0 ≤ rm_X0_invert.slots := ⟨Nat.zero_le _, Nat.zero_le _⟩
  unfold wb_X0_invert_36 at h
  refine lv_iload hx hb dX0_invert_36 (lv_at hl 4 rfl) ?_
  refine lv_aload_n hx hb dX0_invert_38 rfl (lv_at hl 0 rfl) ?_
  refine cs_get 2 0 2 (v := .int (S.1 0)) (ref := "BracketLetters$Algebra") fx (by decide) rfl rfl in_X0_invert_X0 (by decide) rfl (by decide +kernel) rfl hK hP dX0_invert_39 ?_
  refine lv_icmp_gt (tgt := 85) hx hb dX0_invert_42 (by decide) (fun c42 => ?_) (fun c42 => ?_)
  · have h := h.1 c42
    refine lv_aload_n hx hb dX0_invert_85 rfl (lv_at hl 0 rfl) ?_
    refine lv_aload_n hx hb dX0_invert_86 rfl (lv_at hl 1 rfl) ?_
    refine lv_aload_n hx hb dX0_invert_87 rfl (lv_at hl 2 rfl) ?_
    refine xr_vV (n := 2) (As := [.ref (ad (9 + v1)), .ref (ad (9 + v3))]) (rest := []) fx (ct_X0_copy l D ad cI cJ cR Ln h) gX0_invert_X0_copy rfl rfl (by decide +kernel) ⟨Nat.le_of_ble_eq_true rfl, Nat.le_of_ble_eq_true rfl⟩ ⟨rfl, rfl⟩ hf (cs_recv 2 0 (by decide) rfl rfl hK hP) hK hP hD hS hA hl.1 rfl (Nat.le_of_ble_eq_true rfl) dX0_invert_88 (fun S1 H locs h hP hD hS => ?_)
    exact xr_rV fx hK hP hD hS h dX0_invert_91
  · have h := h.2 c42
    refine lv_aload_n hx hb dX0_invert_45 rfl (lv_at hl 0 rfl) ?_
    refine lv_aload hx hb dX0_invert_46 (lv_at hl 3 rfl) ?_
    refine lv_iconst (v := 1) hx hb dX0_invert_48 (by decide) ?_
    refine xr_vV (n := 2) (As := [.ref (ad (9 + v4)), .int 1]) (rest := []) fx (ct_X0_setToUnit l D ad cI cJ cR Ln h) gX0_invert_X0_setToUnit rfl rfl (by decide +kernel) ⟨Nat.le_of_ble_eq_true rfl, Nat.le_of_ble_eq_true rfl⟩ ⟨rfl, rfl⟩ hf (cs_recv 2 0 (by decide) rfl rfl hK hP) hK hP hD hS hA hl.1 rfl (Nat.le_of_ble_eq_true rfl) dX0_invert_49 (fun S2 H locs h hP hD hS => ?_)
    refine lv_aload_n hx hb dX0_invert_52 rfl (lv_at hl 0 rfl) ?_
    refine lv_aload hx hb dX0_invert_53 (lv_at hl 3 rfl) ?_
    refine lv_aload_n hx hb dX0_invert_55 rfl (lv_at hl 2 rfl) ?_
    refine lv_aload_n hx hb dX0_invert_56 rfl (lv_at hl 0 rfl) ?_
    refine cs_get 2 0 8 (v := .ref (ad (9 + 4))) (ref := "BracketLetters$Algebra") fx (by decide) rfl rfl in_X0_invert_X0 (by decide) rfl (by decide +kernel) rfl hK hP dX0_invert_57 ?_
    refine lv_ldc (v := 2147483646) hx hb hown (hts (.constant RX0 97 (2147483646)) (by decide +kernel)) dX0_invert_60 ?_
    refine lv_aload_n hx hb dX0_invert_62 rfl (lv_at hl 0 rfl) ?_
    refine cs_get 2 0 2 (v := .int (S2.1 0)) (ref := "BracketLetters$Algebra") fx (by decide) rfl rfl in_X0_invert_X0 (by decide) rfl (by decide +kernel) rfl hK hP dX0_invert_63 ?_
    refine xr_vV (n := 5) (As := [.ref (ad (9 + v4)), .ref (ad (9 + v3)), .ref (ad (9 + 4)), .int 2147483646, .int (S2.1 0)]) (rest := []) fx (ct_X0_gather l D ad cI cJ cR Ln h) gX0_invert_X0_gather rfl rfl (by decide +kernel) ⟨Nat.le_of_ble_eq_true rfl, Nat.le_of_ble_eq_true rfl⟩ ⟨rfl, rfl⟩ hf (cs_recv 2 0 (by decide) rfl rfl hK hP) hK hP hD hS hA hl.1 rfl (Nat.le_of_ble_eq_true rfl) dX0_invert_66 (fun S3 H locs h hP hD hS => ?_)
    refine lv_aload_n hx hb dX0_invert_69 rfl (lv_at hl 2 rfl) ?_
    refine lv_astore (lv' := [(6, .ref (ad (9 + v3))), (0, .ref (ad 2)), (1, .ref (ad (9 + v1))), (3, .ref (ad (9 + v3))), (4, .ref (ad (9 + v4))), (5, .int v5)]) hx hb dX0_invert_70 hl (by decide) rfl (fun ls hl => ?_)
    refine lv_aload hx hb dX0_invert_72 (lv_at hl 4 rfl) ?_
    refine lv_astore_n (lv' := [(3, .ref (ad (9 + v4))), (6, .ref (ad (9 + v3))), (0, .ref (ad 2)), (1, .ref (ad (9 + v1))), (4, .ref (ad (9 + v4))), (5, .int v5)]) hx hb dX0_invert_74 rfl hl (by decide) rfl (fun ls hl => ?_)
    refine lv_aload hx hb dX0_invert_75 (lv_at hl 1 rfl) ?_
    refine lv_astore (lv' := [(4, .ref (ad (9 + v3))), (3, .ref (ad (9 + v4))), (6, .ref (ad (9 + v3))), (0, .ref (ad 2)), (1, .ref (ad (9 + v1))), (5, .int v5)]) hx hb dX0_invert_77 hl (by decide) rfl (fun ls hl => ?_)
    obtain ⟨v5_4, ev5_4⟩ : ∃ z : Int32, z = v5 + 1 := ⟨_, rfl⟩
    have h := h v5_4 ev5_4
    refine lv_iinc (v := v5_4) (lv' := [(5, .int v5_4), (4, .ref (ad (9 + v3))), (3, .ref (ad (9 + v4))), (6, .ref (ad (9 + v3))), (0, .ref (ad 2)), (1, .ref (ad (9 + v1)))]) hx hb dX0_invert_79 hl (k := 5) rfl (by rw [ev5_4]; rfl) (by decide) rfl (fun ls hl => ?_)
    refine lv_goto (tgt := 36) hx hb dX0_invert_82 (by decide) ?_
    exact k36 _ _ _ _ _ hP hD hS (lv_sub hl [4, 5, 2, 1, 0] rfl) h
theorem kw_X0_invert_36 {p : Program} {l : Launch} {e : Env} {s : State} {m : MethodId} {args : Array Value} {below : List Frame} {meth : Method} {c : Code} {D : va_G} {ad : Nat → Nat} {cI cJ cR : ClassId} {Ln : Nat → Nat} {A : Nat → Prop}  {Q : cs_T → Prop} (fx : xr_Fx p m c meth cX0_invert 7 s args wsX0_invert RX0 none) (hK : xr_K D (cs_ty cI cJ cR) s) (hA : ∀ q, s.heap.size ≤ q → A q)   : ∀ (n : Nat) (S : cs_T) (v1 : Nat) (v3 : Nat) (v4 : Nat) (v5 : Int32) {H : Heap} {locs : List Loc} {ls : Array Slot}, va_P D vwCl (cs_w ad cI cR Ln S) H → va_D A (cs_w ad cI cR Ln S) → va_S A s.heap H locs → lv_has ls 7 [(0, .ref (ad 2)), (1, .ref (ad (9 + v1))), (3, .ref (ad (9 + v3))), (4, .ref (ad (9 + v4))), (5, .int v5)] → wp_X0_invert_36 Ln Q n S v1 v3 v4 v5 → W p l e rm_X0_invert s m args below meth c H locs 0 0 (MQ below (va_Qv Q (xr_B D (cs_ty cI cJ cR) (cs_w ad cI cR Ln) A) A) args s 0 0 A) (F0 m 36 ls []) := by
  intro n
  induction n with
  | zero => intro S v1 v3 v4 v5 H locs ls hP hD hS hl h; exact False.elim h
  | succ n ih => intro S v1 v3 v4 v5 H locs ls hP hD hS hl h; exact kb_X0_invert_36 fx hK hA ih hP hD hS hl h
set_option maxHeartbeats 4000000 in
set_option maxRecDepth 100000 in
theorem ct_X0_invert (l : Launch) (D : va_G) (ad : Nat → Nat) (cI cJ cR : ClassId) (Ln : Nat → Nat) {S : cs_T} {a1 : Nat} {a2 : Nat} {Q : cs_T → Prop} (h : wp_X0_invert Ln S a1 a2 Q) : xr_V l D (cs_ty cI cJ cR) (cs_w ad cI cR Ln) yX0_invert wsX0_invert rm_X0_invert [.ref (ad 2), .ref (ad (9 + a1)), .ref (ad (9 + a2))] S Q := by
  refine xr_eV (cc := cX0_invert) (nL := 7) (ret := none) (own := RX0) (by decide) rfl rfl (Nat.le_of_ble_eq_true rfl) ?_
  intro p e s m args below meth c ls A fx hK hA hP hD hS hl
  have hl : lv_has ls 7 [(0, .ref (ad 2)), (1, .ref (ad (9 + a1))), (2, .ref (ad (9 + a2)))] := hl
  show W p l e rm_X0_invert s m args below meth c s.heap [] 0 0 _ _
  obtain ⟨⟨hx, hb, hml, hown, hts⟩, hrt, hlk⟩ := id fx
  have hf : 0 ≤ rm_X0_invert.cells ∧ 0 ≤ rm_X0_invert.slots := ⟨Nat.zero_le _, Nat.zero_le _⟩
  unfold wp_X0_invert at h
  refine lv_aload_n hx hb dX0_invert_0 rfl (lv_at hl 0 rfl) ?_
  refine lv_aload_n hx hb dX0_invert_1 rfl (lv_at hl 0 rfl) ?_
  refine cs_get 2 0 8 (v := .ref (ad (9 + 4))) (ref := "BracketLetters$Algebra") fx (by decide) rfl rfl in_X0_invert_X0 (by decide) rfl (by decide +kernel) rfl hK hP dX0_invert_2 ?_
  refine lv_aload_n hx hb dX0_invert_5 rfl (lv_at hl 2 rfl) ?_
  refine xr_vV (n := 2) (As := [.ref (ad (9 + 4)), .ref (ad (9 + a2))]) (rest := []) fx (ct_X0_copy l D ad cI cJ cR Ln h) gX0_invert_X0_copy rfl rfl (by decide +kernel) ⟨Nat.le_of_ble_eq_true rfl, Nat.le_of_ble_eq_true rfl⟩ ⟨rfl, rfl⟩ hf (cs_recv 2 0 (by decide) rfl rfl hK hP) hK hP hD hS hA hl.1 rfl (Nat.le_of_ble_eq_true rfl) dX0_invert_6 (fun S5 H locs h hP hD hS => ?_)
  refine lv_aload_n hx hb dX0_invert_9 rfl (lv_at hl 0 rfl) ?_
  refine cs_get 2 0 8 (v := .ref (ad (9 + 4))) (ref := "BracketLetters$Algebra") fx (by decide) rfl rfl in_X0_invert_X0 (by decide) rfl (by decide +kernel) rfl hK hP dX0_invert_10 ?_
  refine lv_iconst (v := 0) hx hb dX0_invert_13 (by decide) ?_
  refine lv_iconst (v := 0) hx hb dX0_invert_14 (by decide) ?_
  obtain ⟨hi6, h⟩ := h
  refine cs_iast 4 (by decide) fx hK hP hD hS hi6 dX0_invert_15 (fun H locs hP hD hS => ?_)
  refine lv_aload_n hx hb dX0_invert_16 rfl (lv_at hl 0 rfl) ?_
  refine cs_get 2 0 9 (v := .ref (ad (9 + 5))) (ref := "BracketLetters$Algebra") fx (by decide) rfl rfl in_X0_invert_X0 (by decide) rfl (by decide +kernel) rfl hK hP dX0_invert_17 ?_
  refine lv_astore_n (lv' := [(3, .ref (ad (9 + 5))), (0, .ref (ad 2)), (1, .ref (ad (9 + a1))), (2, .ref (ad (9 + a2)))]) hx hb dX0_invert_20 rfl hl (by decide) rfl (fun ls hl => ?_)
  refine lv_aload_n hx hb dX0_invert_21 rfl (lv_at hl 1 rfl) ?_
  refine cs_get 2 0 10 (v := .ref (ad (9 + 6))) (ref := "BracketLetters$Algebra") fx (by decide) rfl rfl in_X0_invert_X0 (by decide) rfl (by decide +kernel) rfl hK hP dX0_invert_22 ?_
  refine lv_astore (lv' := [(4, .ref (ad (9 + 6))), (3, .ref (ad (9 + 5))), (0, .ref (ad 2)), (1, .ref (ad (9 + a1))), (2, .ref (ad (9 + a2)))]) hx hb dX0_invert_25 hl (by decide) rfl (fun ls hl => ?_)
  refine lv_aload_n hx hb dX0_invert_27 rfl (lv_at hl 2 rfl) ?_
  refine lv_aload_n hx hb dX0_invert_28 rfl (lv_at hl 1 rfl) ?_
  refine lv_iconst (v := 1) hx hb dX0_invert_29 (by decide) ?_
  refine xr_vV (n := 2) (As := [.ref (ad (9 + 5)), .int 1]) (rest := []) fx (ct_X0_setToUnit l D ad cI cJ cR Ln h) gX0_invert_X0_setToUnit rfl rfl (by decide +kernel) ⟨Nat.le_of_ble_eq_true rfl, Nat.le_of_ble_eq_true rfl⟩ ⟨rfl, rfl⟩ hf (cs_recv 2 0 (by decide) rfl rfl hK hP) hK hP hD hS hA hl.1 rfl (Nat.le_of_ble_eq_true rfl) dX0_invert_30 (fun S7 H locs h hP hD hS => ?_)
  refine lv_iconst (v := 1) hx hb dX0_invert_33 (by decide) ?_
  refine lv_istore (lv' := [(5, .int 1), (4, .ref (ad (9 + 6))), (3, .ref (ad (9 + 5))), (0, .ref (ad 2)), (1, .ref (ad (9 + a1))), (2, .ref (ad (9 + a2)))]) hx hb dX0_invert_34 hl (by decide) rfl (fun ls hl => ?_)
  obtain ⟨n, h⟩ := h
  exact kw_X0_invert_36 fx hK hA n _ _ _ _ _ hP hD hS (lv_sub hl [3, 4, 2, 1, 0] rfl) h
abbrev rm_X7_inverse : Room := { frames := 3, cells := 0, slots := 0, locals := 96 }
theorem in_X7_inverse_X7 : ∀ w ∈ wsX70, w ∈ wsX7_inverse := by decide +kernel
set_option maxHeartbeats 4000000 in
set_option maxRecDepth 100000 in
theorem ct_X7_inverse (l : Launch) (D : va_G) (ad : Nat → Nat) (cI cJ cR : ClassId) (Ln : Nat → Nat) {S : cs_T} {a1 : Int32} {a2 : Int32} {Q : Int32 → cs_T → Prop} (h : wp_X7_inverse Ln S a1 a2 Q) : xr_I l D (cs_ty cI cJ cR) (cs_w ad cI cR Ln) yX7_inverse wsX7_inverse rm_X7_inverse [.ref (ad 0), .int a1, .int a2] S Q := by
  refine xr_eI (cc := cX7_inverse) (nL := 3) (ret := (some .int)) (own := RX7) (by decide) rfl rfl (Nat.le_of_ble_eq_true rfl) ?_
  intro p e s m args below meth c ls A fx hK hA hP hD hS hl
  have hl : lv_has ls 3 [(0, .ref (ad 0)), (1, .int a1), (2, .int a2)] := hl
  show W p l e rm_X7_inverse s m args below meth c s.heap [] 0 0 _ _
  obtain ⟨⟨hx, hb, hml, hown, hts⟩, hrt, hlk⟩ := id fx
  have hf : 0 ≤ rm_X7_inverse.cells ∧ 0 ≤ rm_X7_inverse.slots := ⟨Nat.zero_le _, Nat.zero_le _⟩
  unfold wp_X7_inverse at h
  refine lv_iload_n hx hb dX7_inverse_0 rfl (lv_at hl 1 rfl) ?_
  refine xr_sI (n := 1) (As := [.int a1]) (rest := []) fx (ct_X7_noSum l h) gX7_inverse_X7_noSum rfl rfl (by decide +kernel) ⟨Nat.le_of_ble_eq_true rfl, Nat.le_of_ble_eq_true rfl⟩ ⟨rfl, rfl⟩ hf hl.1 rfl (Nat.le_of_ble_eq_true rfl) dX7_inverse_1 (fun r1 h => ?_)
  refine lv_if_ne (tgt := 14) hx hb dX7_inverse_4 (by decide) (fun c4 => ?_) (fun c4 => ?_)
  · have h := h.1 c4
    refine lv_iconst (v := (-1)) hx hb dX7_inverse_14 (by decide) ?_
    exact xr_rI fx hK hP hD hS h dX7_inverse_15
  · have h := h.2 c4
    refine lv_iload_n hx hb dX7_inverse_7 rfl (lv_at hl 2 rfl) ?_
    refine xr_sI (n := 1) (As := [.int a2]) (rest := []) fx (ct_X7_noSum l h) gX7_inverse_X7_noSum rfl rfl (by decide +kernel) ⟨Nat.le_of_ble_eq_true rfl, Nat.le_of_ble_eq_true rfl⟩ ⟨rfl, rfl⟩ hf hl.1 rfl (Nat.le_of_ble_eq_true rfl) dX7_inverse_8 (fun r2 h => ?_)
    refine lv_if_eq (tgt := 16) hx hb dX7_inverse_11 (by decide) (fun c11 => ?_) (fun c11 => ?_)
    · have h := h.1 c11
      refine lv_aload_n hx hb dX7_inverse_16 rfl (lv_at hl 0 rfl) ?_
      refine cs_get 0 6 1 (v := .ref (ad 7)) (ref := "BracketLetters") fx (by decide) rfl rfl in_X7_inverse_X7 (by decide) rfl (by decide +kernel) rfl hK hP dX7_inverse_17 ?_
      refine lv_iload_n hx hb dX7_inverse_20 rfl (lv_at hl 2 rfl) ?_
      obtain ⟨hi3, h⟩ := h
      refine cs_aald 7 8 7 fx (by decide) rfl hK hP hi3 dX7_inverse_21 ?_
      refine lv_iconst (v := 0) hx hb dX7_inverse_22 (by decide) ?_
      obtain ⟨hk5, h⟩ := h
      obtain ⟨hi4, h⟩ := h
      refine cs_iald (7 + a2.toNatClampNeg) hk5 fx hK hP hi4 dX7_inverse_23 ?_
      refine lv_iconst (v := 1) hx hb dX7_inverse_24 (by decide) ?_
      refine lv_icmp_eq (tgt := 31) hx hb dX7_inverse_25 (by decide) (fun c25 => ?_) (fun c25 => ?_)
      · have h := h.1 c25
        refine lv_aload_n hx hb dX7_inverse_31 rfl (lv_at hl 0 rfl) ?_
        refine cs_get 0 6 2 (v := .ref (ad 2)) (ref := "BracketLetters") fx (by decide) rfl rfl in_X7_inverse_X7 (by decide) rfl (by decide +kernel) rfl hK hP dX7_inverse_32 ?_
        refine lv_aload_n hx hb dX7_inverse_35 rfl (lv_at hl 0 rfl) ?_
        refine cs_get 0 6 1 (v := .ref (ad 7)) (ref := "BracketLetters") fx (by decide) rfl rfl in_X7_inverse_X7 (by decide) rfl (by decide +kernel) rfl hK hP dX7_inverse_36 ?_
        refine lv_iload_n hx hb dX7_inverse_39 rfl (lv_at hl 1 rfl) ?_
        obtain ⟨hi6, h⟩ := h
        refine cs_aald 7 8 7 fx (by decide) rfl hK hP hi6 dX7_inverse_40 ?_
        refine lv_aload_n hx hb dX7_inverse_41 rfl (lv_at hl 0 rfl) ?_
        refine cs_get 0 6 1 (v := .ref (ad 7)) (ref := "BracketLetters") fx (by decide) rfl rfl in_X7_inverse_X7 (by decide) rfl (by decide +kernel) rfl hK hP dX7_inverse_42 ?_
        refine lv_iload_n hx hb dX7_inverse_45 rfl (lv_at hl 2 rfl) ?_
        obtain ⟨hi7, h⟩ := h
        refine cs_aald 7 8 7 fx (by decide) rfl hK hP hi7 dX7_inverse_46 ?_
        refine xr_vV (n := 2) (As := [.ref (ad (9 + (7 + a1.toNatClampNeg))), .ref (ad (9 + (7 + a2.toNatClampNeg)))]) (rest := []) fx (ct_X0_invert l D ad cI cJ cR Ln h) gX7_inverse_X0_invert rfl rfl (by decide +kernel) ⟨Nat.le_of_ble_eq_true rfl, Nat.le_of_ble_eq_true rfl⟩ ⟨rfl, rfl⟩ hf (cs_recv 2 0 (by decide) rfl rfl hK hP) hK hP hD hS hA hl.1 rfl (Nat.le_of_ble_eq_true rfl) dX7_inverse_47 (fun S8 H locs h hP hD hS => ?_)
        refine lv_iconst (v := 0) hx hb dX7_inverse_50 (by decide) ?_
        exact xr_rI fx hK hP hD hS h dX7_inverse_51
      · have h := h.2 c25
        refine lv_bipush (v := (-3)) hx hb dX7_inverse_28 (by decide) ?_
        exact xr_rI fx hK hP hD hS h dX7_inverse_30
    · have h := h.2 c11
      refine lv_iconst (v := (-1)) hx hb dX7_inverse_14 (by decide) ?_
      exact xr_rI fx hK hP hD hS h dX7_inverse_15
abbrev rm_X0_compose : Room := { frames := 3, cells := 0, slots := 0, locals := 96 }
theorem in_X0_compose_X0 : ∀ w ∈ wsX00, w ∈ wsX0_compose := by decide +kernel
set_option maxHeartbeats 4000000 in
set_option maxRecDepth 100000 in
theorem ct_X0_compose (l : Launch) (D : va_G) (ad : Nat → Nat) (cI cJ cR : ClassId) (Ln : Nat → Nat) {S : cs_T} {a1 : Nat} {a2 : Nat} {a3 : Nat} {Q : cs_T → Prop} (h : wp_X0_compose Ln S a1 a2 a3 Q) : xr_V l D (cs_ty cI cJ cR) (cs_w ad cI cR Ln) yX0_compose wsX0_compose rm_X0_compose [.ref (ad 2), .ref (ad (9 + a1)), .ref (ad (9 + a2)), .ref (ad (9 + a3))] S Q := by
  refine xr_eV (cc := cX0_compose) (nL := 4) (ret := none) (own := RX0) (by decide) rfl rfl (Nat.le_of_ble_eq_true rfl) ?_
  intro p e s m args below meth c ls A fx hK hA hP hD hS hl
  have hl : lv_has ls 4 [(0, .ref (ad 2)), (1, .ref (ad (9 + a1))), (2, .ref (ad (9 + a2))), (3, .ref (ad (9 + a3)))] := hl
  show W p l e rm_X0_compose s m args below meth c s.heap [] 0 0 _ _
  obtain ⟨⟨hx, hb, hml, hown, hts⟩, hrt, hlk⟩ := id fx
  have hf : 0 ≤ rm_X0_compose.cells ∧ 0 ≤ rm_X0_compose.slots := ⟨Nat.zero_le _, Nat.zero_le _⟩
  unfold wp_X0_compose at h
  refine lv_aload_n hx hb dX0_compose_0 rfl (lv_at hl 0 rfl) ?_
  refine lv_aload_n hx hb dX0_compose_1 rfl (lv_at hl 0 rfl) ?_
  refine cs_get 2 0 0 (v := .ref (ad 8)) (ref := "BracketLetters$Algebra") fx (by decide) rfl rfl in_X0_compose_X0 (by decide) rfl (by decide +kernel) rfl hK hP dX0_compose_2 ?_
  refine lv_iconst (v := 0) hx hb dX0_compose_5 (by decide) ?_
  obtain ⟨hi1, h⟩ := h
  refine cs_aald 8 18 15 fx (by decide) rfl hK hP hi1 dX0_compose_6 ?_
  refine lv_aload_n hx hb dX0_compose_7 rfl (lv_at hl 2 rfl) ?_
  refine xr_vV (n := 2) (As := [.ref (ad (9 + (15 + ((0 : Int32)).toNatClampNeg))), .ref (ad (9 + a2))]) (rest := []) fx (ct_X0_raise l D ad cI cJ cR Ln h) gX0_compose_X0_raise rfl rfl (by decide +kernel) ⟨Nat.le_of_ble_eq_true rfl, Nat.le_of_ble_eq_true rfl⟩ ⟨rfl, rfl⟩ hf (cs_recv 2 0 (by decide) rfl rfl hK hP) hK hP hD hS hA hl.1 rfl (Nat.le_of_ble_eq_true rfl) dX0_compose_8 (fun S2 H locs h hP hD hS => ?_)
  refine lv_aload_n hx hb dX0_compose_11 rfl (lv_at hl 0 rfl) ?_
  refine lv_aload_n hx hb dX0_compose_12 rfl (lv_at hl 0 rfl) ?_
  refine cs_get 2 0 0 (v := .ref (ad 8)) (ref := "BracketLetters$Algebra") fx (by decide) rfl rfl in_X0_compose_X0 (by decide) rfl (by decide +kernel) rfl hK hP dX0_compose_13 ?_
  refine lv_iconst (v := 1) hx hb dX0_compose_16 (by decide) ?_
  obtain ⟨hi3, h⟩ := h
  refine cs_aald 8 18 15 fx (by decide) rfl hK hP hi3 dX0_compose_17 ?_
  refine lv_aload_n hx hb dX0_compose_18 rfl (lv_at hl 3 rfl) ?_
  refine xr_vV (n := 2) (As := [.ref (ad (9 + (15 + ((1 : Int32)).toNatClampNeg))), .ref (ad (9 + a3))]) (rest := []) fx (ct_X0_raise l D ad cI cJ cR Ln h) gX0_compose_X0_raise rfl rfl (by decide +kernel) ⟨Nat.le_of_ble_eq_true rfl, Nat.le_of_ble_eq_true rfl⟩ ⟨rfl, rfl⟩ hf (cs_recv 2 0 (by decide) rfl rfl hK hP) hK hP hD hS hA hl.1 rfl (Nat.le_of_ble_eq_true rfl) dX0_compose_19 (fun S4 H locs h hP hD hS => ?_)
  refine lv_aload_n hx hb dX0_compose_22 rfl (lv_at hl 0 rfl) ?_
  refine lv_aload_n hx hb dX0_compose_23 rfl (lv_at hl 0 rfl) ?_
  refine cs_get 2 0 0 (v := .ref (ad 8)) (ref := "BracketLetters$Algebra") fx (by decide) rfl rfl in_X0_compose_X0 (by decide) rfl (by decide +kernel) rfl hK hP dX0_compose_24 ?_
  refine lv_iconst (v := 0) hx hb dX0_compose_27 (by decide) ?_
  obtain ⟨hi5, h⟩ := h
  refine cs_aald 8 18 15 fx (by decide) rfl hK hP hi5 dX0_compose_28 ?_
  refine lv_aload_n hx hb dX0_compose_29 rfl (lv_at hl 0 rfl) ?_
  refine cs_get 2 0 0 (v := .ref (ad 8)) (ref := "BracketLetters$Algebra") fx (by decide) rfl rfl in_X0_compose_X0 (by decide) rfl (by decide +kernel) rfl hK hP dX0_compose_30 ?_
  refine lv_iconst (v := 0) hx hb dX0_compose_33 (by decide) ?_
  obtain ⟨hi6, h⟩ := h
  refine cs_aald 8 18 15 fx (by decide) rfl hK hP hi6 dX0_compose_34 ?_
  refine lv_aload_n hx hb dX0_compose_35 rfl (lv_at hl 0 rfl) ?_
  refine cs_get 2 0 0 (v := .ref (ad 8)) (ref := "BracketLetters$Algebra") fx (by decide) rfl rfl in_X0_compose_X0 (by decide) rfl (by decide +kernel) rfl hK hP dX0_compose_36 ?_
  refine lv_iconst (v := 1) hx hb dX0_compose_39 (by decide) ?_
  obtain ⟨hi7, h⟩ := h
  refine cs_aald 8 18 15 fx (by decide) rfl hK hP hi7 dX0_compose_40 ?_
  refine xr_vV (n := 3) (As := [.ref (ad (9 + (15 + ((0 : Int32)).toNatClampNeg))), .ref (ad (9 + (15 + ((0 : Int32)).toNatClampNeg))), .ref (ad (9 + (15 + ((1 : Int32)).toNatClampNeg)))]) (rest := []) fx (ct_X0_multiply l D ad cI cJ cR Ln h) gX0_compose_X0_multiply rfl rfl (by decide +kernel) ⟨Nat.le_of_ble_eq_true rfl, Nat.le_of_ble_eq_true rfl⟩ ⟨rfl, rfl⟩ hf (cs_recv 2 0 (by decide) rfl rfl hK hP) hK hP hD hS hA hl.1 rfl (Nat.le_of_ble_eq_true rfl) dX0_compose_41 (fun S8 H locs h hP hD hS => ?_)
  refine lv_aload_n hx hb dX0_compose_44 rfl (lv_at hl 0 rfl) ?_
  refine lv_aload_n hx hb dX0_compose_45 rfl (lv_at hl 1 rfl) ?_
  refine lv_aload_n hx hb dX0_compose_46 rfl (lv_at hl 0 rfl) ?_
  refine cs_get 2 0 0 (v := .ref (ad 8)) (ref := "BracketLetters$Algebra") fx (by decide) rfl rfl in_X0_compose_X0 (by decide) rfl (by decide +kernel) rfl hK hP dX0_compose_47 ?_
  refine lv_iconst (v := 0) hx hb dX0_compose_50 (by decide) ?_
  obtain ⟨hi9, h⟩ := h
  refine cs_aald 8 18 15 fx (by decide) rfl hK hP hi9 dX0_compose_51 ?_
  refine xr_vV (n := 2) (As := [.ref (ad (9 + a1)), .ref (ad (9 + (15 + ((0 : Int32)).toNatClampNeg)))]) (rest := []) fx (ct_X0_unraise l D ad cI cJ cR Ln h) gX0_compose_X0_unraise rfl rfl (by decide +kernel) ⟨Nat.le_of_ble_eq_true rfl, Nat.le_of_ble_eq_true rfl⟩ ⟨rfl, rfl⟩ hf (cs_recv 2 0 (by decide) rfl rfl hK hP) hK hP hD hS hA hl.1 rfl (Nat.le_of_ble_eq_true rfl) dX0_compose_52 (fun S10 H locs h hP hD hS => ?_)
  exact xr_rV fx hK hP hD hS h dX0_compose_55
abbrev rm_X7_group : Room := { frames := 4, cells := 0, slots := 0, locals := 119 }
theorem in_X7_group_X7 : ∀ w ∈ wsX70, w ∈ wsX7_group := by decide +kernel
set_option maxHeartbeats 4000000 in
set_option maxRecDepth 100000 in
theorem ct_X7_group (l : Launch) (D : va_G) (ad : Nat → Nat) (cI cJ cR : ClassId) (Ln : Nat → Nat) {S : cs_T} {a1 : Int32} {a2 : Int32} {a3 : Int32} {Q : Int32 → cs_T → Prop} (h : wp_X7_group Ln S a1 a2 a3 Q) : xr_I l D (cs_ty cI cJ cR) (cs_w ad cI cR Ln) yX7_group wsX7_group rm_X7_group [.ref (ad 0), .int a1, .int a2, .int a3] S Q := by
  refine xr_eI (cc := cX7_group) (nL := 4) (ret := (some .int)) (own := RX7) (by decide) rfl rfl (Nat.le_of_ble_eq_true rfl) ?_
  intro p e s m args below meth c ls A fx hK hA hP hD hS hl
  have hl : lv_has ls 4 [(0, .ref (ad 0)), (1, .int a1), (2, .int a2), (3, .int a3)] := hl
  show W p l e rm_X7_group s m args below meth c s.heap [] 0 0 _ _
  obtain ⟨⟨hx, hb, hml, hown, hts⟩, hrt, hlk⟩ := id fx
  have hf : 0 ≤ rm_X7_group.cells ∧ 0 ≤ rm_X7_group.slots := ⟨Nat.zero_le _, Nat.zero_le _⟩
  unfold wp_X7_group at h
  refine lv_iload_n hx hb dX7_group_0 rfl (lv_at hl 1 rfl) ?_
  refine xr_sI (n := 1) (As := [.int a1]) (rest := []) fx (ct_X7_noSum l h) gX7_group_X7_noSum rfl rfl (by decide +kernel) ⟨Nat.le_of_ble_eq_true rfl, Nat.le_of_ble_eq_true rfl⟩ ⟨rfl, rfl⟩ hf hl.1 rfl (Nat.le_of_ble_eq_true rfl) dX7_group_1 (fun r1 h => ?_)
  refine lv_if_ne (tgt := 21) hx hb dX7_group_4 (by decide) (fun c4 => ?_) (fun c4 => ?_)
  · have h := h.1 c4
    refine lv_iconst (v := (-1)) hx hb dX7_group_21 (by decide) ?_
    exact xr_rI fx hK hP hD hS h dX7_group_22
  · have h := h.2 c4
    refine lv_iload_n hx hb dX7_group_7 rfl (lv_at hl 2 rfl) ?_
    refine xr_sI (n := 1) (As := [.int a2]) (rest := []) fx (ct_X7_noSum l h) gX7_group_X7_noSum rfl rfl (by decide +kernel) ⟨Nat.le_of_ble_eq_true rfl, Nat.le_of_ble_eq_true rfl⟩ ⟨rfl, rfl⟩ hf hl.1 rfl (Nat.le_of_ble_eq_true rfl) dX7_group_8 (fun r2 h => ?_)
    refine lv_if_ne (tgt := 21) hx hb dX7_group_11 (by decide) (fun c11 => ?_) (fun c11 => ?_)
    · have h := h.1 c11
      refine lv_iconst (v := (-1)) hx hb dX7_group_21 (by decide) ?_
      exact xr_rI fx hK hP hD hS h dX7_group_22
    · have h := h.2 c11
      refine lv_iload_n hx hb dX7_group_14 rfl (lv_at hl 3 rfl) ?_
      refine xr_sI (n := 1) (As := [.int a3]) (rest := []) fx (ct_X7_noSum l h) gX7_group_X7_noSum rfl rfl (by decide +kernel) ⟨Nat.le_of_ble_eq_true rfl, Nat.le_of_ble_eq_true rfl⟩ ⟨rfl, rfl⟩ hf hl.1 rfl (Nat.le_of_ble_eq_true rfl) dX7_group_15 (fun r3 h => ?_)
      refine lv_if_eq (tgt := 23) hx hb dX7_group_18 (by decide) (fun c18 => ?_) (fun c18 => ?_)
      · have h := h.1 c18
        refine lv_aload_n hx hb dX7_group_23 rfl (lv_at hl 0 rfl) ?_
        refine cs_get 0 6 1 (v := .ref (ad 7)) (ref := "BracketLetters") fx (by decide) rfl rfl in_X7_group_X7 (by decide) rfl (by decide +kernel) rfl hK hP dX7_group_24 ?_
        refine lv_iload_n hx hb dX7_group_27 rfl (lv_at hl 2 rfl) ?_
        obtain ⟨hi4, h⟩ := h
        refine cs_aald 7 8 7 fx (by decide) rfl hK hP hi4 dX7_group_28 ?_
        refine lv_iconst (v := 0) hx hb dX7_group_29 (by decide) ?_
        obtain ⟨hk6, h⟩ := h
        obtain ⟨hi5, h⟩ := h
        refine cs_iald (7 + a2.toNatClampNeg) hk6 fx hK hP hi5 dX7_group_30 ?_
        refine lv_if_ne (tgt := 45) hx hb dX7_group_31 (by decide) (fun c31 => ?_) (fun c31 => ?_)
        · have h := h.1 c31
          refine lv_bipush (v := (-3)) hx hb dX7_group_45 (by decide) ?_
          exact xr_rI fx hK hP hD hS h dX7_group_47
        · have h := h.2 c31
          refine lv_aload_n hx hb dX7_group_34 rfl (lv_at hl 0 rfl) ?_
          refine cs_get 0 6 1 (v := .ref (ad 7)) (ref := "BracketLetters") fx (by decide) rfl rfl in_X7_group_X7 (by decide) rfl (by decide +kernel) rfl hK hP dX7_group_35 ?_
          refine lv_iload_n hx hb dX7_group_38 rfl (lv_at hl 3 rfl) ?_
          obtain ⟨hi7, h⟩ := h
          refine cs_aald 7 8 7 fx (by decide) rfl hK hP hi7 dX7_group_39 ?_
          refine lv_iconst (v := 0) hx hb dX7_group_40 (by decide) ?_
          obtain ⟨hk9, h⟩ := h
          obtain ⟨hi8, h⟩ := h
          refine cs_iald (7 + a3.toNatClampNeg) hk9 fx hK hP hi8 dX7_group_41 ?_
          refine lv_if_eq (tgt := 48) hx hb dX7_group_42 (by decide) (fun c42 => ?_) (fun c42 => ?_)
          · have h := h.1 c42
            refine lv_aload_n hx hb dX7_group_48 rfl (lv_at hl 0 rfl) ?_
            refine cs_get 0 6 2 (v := .ref (ad 2)) (ref := "BracketLetters") fx (by decide) rfl rfl in_X7_group_X7 (by decide) rfl (by decide +kernel) rfl hK hP dX7_group_49 ?_
            refine lv_aload_n hx hb dX7_group_52 rfl (lv_at hl 0 rfl) ?_
            refine cs_get 0 6 1 (v := .ref (ad 7)) (ref := "BracketLetters") fx (by decide) rfl rfl in_X7_group_X7 (by decide) rfl (by decide +kernel) rfl hK hP dX7_group_53 ?_
            refine lv_iload_n hx hb dX7_group_56 rfl (lv_at hl 1 rfl) ?_
            obtain ⟨hi10, h⟩ := h
            refine cs_aald 7 8 7 fx (by decide) rfl hK hP hi10 dX7_group_57 ?_
            refine lv_aload_n hx hb dX7_group_58 rfl (lv_at hl 0 rfl) ?_
            refine cs_get 0 6 1 (v := .ref (ad 7)) (ref := "BracketLetters") fx (by decide) rfl rfl in_X7_group_X7 (by decide) rfl (by decide +kernel) rfl hK hP dX7_group_59 ?_
            refine lv_iload_n hx hb dX7_group_62 rfl (lv_at hl 2 rfl) ?_
            obtain ⟨hi11, h⟩ := h
            refine cs_aald 7 8 7 fx (by decide) rfl hK hP hi11 dX7_group_63 ?_
            refine lv_aload_n hx hb dX7_group_64 rfl (lv_at hl 0 rfl) ?_
            refine cs_get 0 6 1 (v := .ref (ad 7)) (ref := "BracketLetters") fx (by decide) rfl rfl in_X7_group_X7 (by decide) rfl (by decide +kernel) rfl hK hP dX7_group_65 ?_
            refine lv_iload_n hx hb dX7_group_68 rfl (lv_at hl 3 rfl) ?_
            obtain ⟨hi12, h⟩ := h
            refine cs_aald 7 8 7 fx (by decide) rfl hK hP hi12 dX7_group_69 ?_
            refine xr_vV (n := 3) (As := [.ref (ad (9 + (7 + a1.toNatClampNeg))), .ref (ad (9 + (7 + a2.toNatClampNeg))), .ref (ad (9 + (7 + a3.toNatClampNeg)))]) (rest := []) fx (ct_X0_compose l D ad cI cJ cR Ln h) gX7_group_X0_compose rfl rfl (by decide +kernel) ⟨Nat.le_of_ble_eq_true rfl, Nat.le_of_ble_eq_true rfl⟩ ⟨rfl, rfl⟩ hf (cs_recv 2 0 (by decide) rfl rfl hK hP) hK hP hD hS hA hl.1 rfl (Nat.le_of_ble_eq_true rfl) dX7_group_70 (fun S13 H locs h hP hD hS => ?_)
            refine lv_iconst (v := 0) hx hb dX7_group_73 (by decide) ?_
            exact xr_rI fx hK hP hD hS h dX7_group_74
          · have h := h.2 c42
            refine lv_bipush (v := (-3)) hx hb dX7_group_45 (by decide) ?_
            exact xr_rI fx hK hP hD hS h dX7_group_47
      · have h := h.2 c18
        refine lv_iconst (v := (-1)) hx hb dX7_group_21 (by decide) ?_
        exact xr_rI fx hK hP hD hS h dX7_group_22
abbrev rm_X7_noLetter : Room := { frames := 0, cells := 0, slots := 0, locals := 0 }
theorem in_X7_noLetter_X7 : ∀ w ∈ wsX70, w ∈ wsX7_noLetter := by decide +kernel
theorem in_X7_noLetter_X6 : ∀ w ∈ wsX60, w ∈ wsX7_noLetter := by decide +kernel
set_option maxHeartbeats 4000000 in
set_option maxRecDepth 100000 in
theorem ct_X7_noLetter (l : Launch) (D : va_G) (ad : Nat → Nat) (cI cJ cR : ClassId) (Ln : Nat → Nat) {S : cs_T} {a1 : Int32} {Q : Int32 → cs_T → Prop} (h : wp_X7_noLetter Ln S a1 Q) : xr_I l D (cs_ty cI cJ cR) (cs_w ad cI cR Ln) yX7_noLetter wsX7_noLetter rm_X7_noLetter [.ref (ad 0), .int a1] S Q := by
  refine xr_eI (cc := cX7_noLetter) (nL := 2) (ret := (some .boolean)) (own := RX7) (by decide) rfl rfl (Nat.le_of_ble_eq_true rfl) ?_
  intro p e s m args below meth c ls A fx hK hA hP hD hS hl
  have hl : lv_has ls 2 [(0, .ref (ad 0)), (1, .int a1)] := hl
  show W p l e rm_X7_noLetter s m args below meth c s.heap [] 0 0 _ _
  obtain ⟨⟨hx, hb, hml, hown, hts⟩, hrt, hlk⟩ := id fx
  have hf : 0 ≤ rm_X7_noLetter.cells ∧ 0 ≤ rm_X7_noLetter.slots := ⟨Nat.zero_le _, Nat.zero_le _⟩
  unfold wp_X7_noLetter at h
  refine lv_iload_n hx hb dX7_noLetter_0 rfl (lv_at hl 1 rfl) ?_
  refine lv_if_lt (tgt := 15) hx hb dX7_noLetter_1 (by decide) (fun c1 => ?_) (fun c1 => ?_)
  · have h := h.1 c1
    refine lv_iconst (v := 1) hx hb dX7_noLetter_15 (by decide) ?_
    refine lv_goto (tgt := 20) hx hb dX7_noLetter_16 (by decide) ?_
    exact xr_rZ fx rfl hK hP hD hS h dX7_noLetter_20
  · have h := h.2 c1
    refine lv_iload_n hx hb dX7_noLetter_4 rfl (lv_at hl 1 rfl) ?_
    refine lv_aload_n hx hb dX7_noLetter_5 rfl (lv_at hl 0 rfl) ?_
    refine cs_get 0 6 0 (v := .ref (ad 1)) (ref := "BracketLetters") fx (by decide) rfl rfl in_X7_noLetter_X7 (by decide) rfl (by decide +kernel) rfl hK hP dX7_noLetter_6 ?_
    refine cs_get 1 5 0 (v := .int (S.1 2)) (ref := "BracketLetters$Words") fx (by decide) rfl rfl in_X7_noLetter_X6 (by decide) rfl (by decide +kernel) rfl hK hP dX7_noLetter_9 ?_
    refine lv_icmp_lt (tgt := 19) hx hb dX7_noLetter_12 (by decide) (fun c12 => ?_) (fun c12 => ?_)
    · have h := h.1 c12
      refine lv_iconst (v := 0) hx hb dX7_noLetter_19 (by decide) ?_
      exact xr_rZ fx rfl hK hP hD hS h dX7_noLetter_20
    · have h := h.2 c12
      refine lv_iconst (v := 1) hx hb dX7_noLetter_15 (by decide) ?_
      refine lv_goto (tgt := 20) hx hb dX7_noLetter_16 (by decide) ?_
      exact xr_rZ fx rfl hK hP hD hS h dX7_noLetter_20
abbrev rm_X0_setInOne : Room := { frames := 1, cells := 0, slots := 0, locals := 22 }
theorem in_X0_setInOne_X0 : ∀ w ∈ wsX00, w ∈ wsX0_setInOne := by decide +kernel
set_option maxHeartbeats 4000000 in
set_option maxRecDepth 100000 in
theorem kw_X0_setInOne_131 {p : Program} {l : Launch} {e : Env} {s : State} {m : MethodId} {args : Array Value} {below : List Frame} {meth : Method} {c : Code} {D : va_G} {ad : Nat → Nat} {cI cJ cR : ClassId} {Ln : Nat → Nat} {A : Nat → Prop} {K25 : cs_T → Int32 → Int32 → Int32 → Nat → Int32 → Int32 → Int32 → Prop} {K41 : cs_T → Int32 → Int32 → Int32 → Nat → Int32 → Int32 → Int32 → Int32 → Prop} {Q : cs_T → Prop} {S : cs_T} {v1 : Int32} {v3 : Int32} {v4 : Int32} {v5 : Nat} {v6 : Int32} {v7 : Int32} {v8 : Int32} {v9 : Int32} (fx : xr_Fx p m c meth cX0_setInOne 12 s args wsX0_setInOne RX0 none) (hK : xr_K D (cs_ty cI cJ cR) s) (hA : ∀ q, s.heap.size ≤ q → A q)  (k25 : ∀ (S : cs_T) (v1 : Int32) (v3 : Int32) (v4 : Int32) (v5 : Nat) (v6 : Int32) (v7 : Int32) (v8 : Int32) {H : Heap} {locs : List Loc} {ls : Array Slot}, va_P D vwCl (cs_w ad cI cR Ln S) H → va_D A (cs_w ad cI cR Ln S) → va_S A s.heap H locs → lv_has ls 12 [(0, .ref (ad 2)), (1, .int v1), (3, .int v3), (4, .int v4), (5, .ref (ad (9 + v5))), (6, .int v6), (7, .int v7), (8, .int v8)] → K25 S v1 v3 v4 v5 v6 v7 v8 → W p l e rm_X0_setInOne s m args below meth c H locs 0 0 (MQ below (va_Qv Q (xr_B D (cs_ty cI cJ cR) (cs_w ad cI cR Ln) A) A) args s 0 0 A) (F0 m 25 ls [])) (k41 : ∀ (S : cs_T) (v1 : Int32) (v3 : Int32) (v4 : Int32) (v5 : Nat) (v6 : Int32) (v7 : Int32) (v8 : Int32) (v9 : Int32) {H : Heap} {locs : List Loc} {ls : Array Slot}, va_P D vwCl (cs_w ad cI cR Ln S) H → va_D A (cs_w ad cI cR Ln S) → va_S A s.heap H locs → lv_has ls 12 [(0, .ref (ad 2)), (1, .int v1), (3, .int v3), (4, .int v4), (5, .ref (ad (9 + v5))), (6, .int v6), (7, .int v7), (8, .int v8), (9, .int v9)] → K41 S v1 v3 v4 v5 v6 v7 v8 v9 → W p l e rm_X0_setInOne s m args below meth c H locs 0 0 (MQ below (va_Qv Q (xr_B D (cs_ty cI cJ cR) (cs_w ad cI cR Ln) A) A) args s 0 0 A) (F0 m 41 ls [])) {H : Heap} {locs : List Loc} {ls : Array Slot} (hP : va_P D vwCl (cs_w ad cI cR Ln S) H) (hD : va_D A (cs_w ad cI cR Ln S)) (hS : va_S A s.heap H locs) (hl : lv_has ls 12 [(0, .ref (ad 2)), (1, .int v1), (3, .int v3), (4, .int v4), (5, .ref (ad (9 + v5))), (6, .int v6), (7, .int v7), (8, .int v8), (9, .int v9)]) (h : wp_X0_setInOne_131 Ln K25 K41 Q S v1 v3 v4 v5 v6 v7 v8 v9) : W p l e rm_X0_setInOne s m args below meth c H locs 0 0 (MQ below (va_Qv Q (xr_B D (cs_ty cI cJ cR) (cs_w ad cI cR Ln) A) A) args s 0 0 A) (F0 m 131 ls []) := by
  obtain ⟨⟨hx, hb, hml, hown, hts⟩, hrt, hlk⟩ := id fx
  have hf : 0 ≤ rm_X0_setInOne.cells ∧ 0 ≤ rm_X0_setInOne.slots := ⟨Nat.zero_le _, Nat.zero_le _⟩
  unfold wp_X0_setInOne_131 at h
  obtain ⟨v9_1, ev9_1⟩ : ∃ z : Int32, z = v9 + 1 := ⟨_, rfl⟩
  have h := h v9_1 ev9_1
  refine lv_iinc (v := v9_1) (lv' := [(9, .int v9_1), (0, .ref (ad 2)), (1, .int v1), (3, .int v3), (4, .int v4), (5, .ref (ad (9 + v5))), (6, .int v6), (7, .int v7), (8, .int v8)]) hx hb dX0_setInOne_131 hl (k := 8) rfl (by rw [ev9_1]; rfl) (by decide) rfl (fun ls hl => ?_)
  refine lv_goto (tgt := 41) hx hb dX0_setInOne_134 (by decide) ?_
  exact k41 _ _ _ _ _ _ _ _ _ hP hD hS (lv_sub hl [1, 2, 3, 4, 5, 6, 7, 8, 0] rfl) h
set_option maxHeartbeats 4000000 in
set_option maxRecDepth 100000 in
theorem kb_X0_setInOne_41 {p : Program} {l : Launch} {e : Env} {s : State} {m : MethodId} {args : Array Value} {below : List Frame} {meth : Method} {c : Code} {D : va_G} {ad : Nat → Nat} {cI cJ cR : ClassId} {Ln : Nat → Nat} {A : Nat → Prop} {K25 : cs_T → Int32 → Int32 → Int32 → Nat → Int32 → Int32 → Int32 → Prop} {K41 : cs_T → Int32 → Int32 → Int32 → Nat → Int32 → Int32 → Int32 → Int32 → Prop} {Q : cs_T → Prop} {S : cs_T} {v1 : Int32} {v3 : Int32} {v4 : Int32} {v5 : Nat} {v6 : Int32} {v7 : Int32} {v8 : Int32} {v9 : Int32} (fx : xr_Fx p m c meth cX0_setInOne 12 s args wsX0_setInOne RX0 none) (hK : xr_K D (cs_ty cI cJ cR) s) (hA : ∀ q, s.heap.size ≤ q → A q)  (k25 : ∀ (S : cs_T) (v1 : Int32) (v3 : Int32) (v4 : Int32) (v5 : Nat) (v6 : Int32) (v7 : Int32) (v8 : Int32) {H : Heap} {locs : List Loc} {ls : Array Slot}, va_P D vwCl (cs_w ad cI cR Ln S) H → va_D A (cs_w ad cI cR Ln S) → va_S A s.heap H locs → lv_has ls 12 [(0, .ref (ad 2)), (1, .int v1), (3, .int v3), (4, .int v4), (5, .ref (ad (9 + v5))), (6, .int v6), (7, .int v7), (8, .int v8)] → K25 S v1 v3 v4 v5 v6 v7 v8 → W p l e rm_X0_setInOne s m args below meth c H locs 0 0 (MQ below (va_Qv Q (xr_B D (cs_ty cI cJ cR) (cs_w ad cI cR Ln) A) A) args s 0 0 A) (F0 m 25 ls [])) (k41 : ∀ (S : cs_T) (v1 : Int32) (v3 : Int32) (v4 : Int32) (v5 : Nat) (v6 : Int32) (v7 : Int32) (v8 : Int32) (v9 : Int32) {H : Heap} {locs : List Loc} {ls : Array Slot}, va_P D vwCl (cs_w ad cI cR Ln S) H → va_D A (cs_w ad cI cR Ln S) → va_S A s.heap H locs → lv_has ls 12 [(0, .ref (ad 2)), (1, .int v1), (3, .int v3), (4, .int v4), (5, .ref (ad (9 + v5))), (6, .int v6), (7, .int v7), (8, .int v8), (9, .int v9)] → K41 S v1 v3 v4 v5 v6 v7 v8 v9 → W p l e rm_X0_setInOne s m args below meth c H locs 0 0 (MQ below (va_Qv Q (xr_B D (cs_ty cI cJ cR) (cs_w ad cI cR Ln) A) A) args s 0 0 A) (F0 m 41 ls [])) {H : Heap} {locs : List Loc} {ls : Array Slot} (hP : va_P D vwCl (cs_w ad cI cR Ln S) H) (hD : va_D A (cs_w ad cI cR Ln S)) (hS : va_S A s.heap H locs) (hl : lv_has ls 12 [(0, .ref (ad 2)), (1, .int v1), (3, .int v3), (4, .int v4), (5, .ref (ad (9 + v5))), (6, .int v6), (7, .int v7), (8, .int v8), (9, .int v9)]) (h : wb_X0_setInOne_41 Ln K25 K41 Q S v1 v3 v4 v5 v6 v7 v8 v9) : W p l e rm_X0_setInOne s m args below meth c H locs 0 0 (MQ below (va_Qv Q (xr_B D (cs_ty cI cJ cR) (cs_w ad cI cR Ln) A) A) args s 0 0 A) (F0 m 41 ls []) := by
  obtain ⟨⟨hx, hb, hml, hown, hts⟩, hrt, hlk⟩ := id fx
  have hf : 0 ≤ rm_X0_setInOne.cells ∧ 0 ≤ rm_X0_setInOne.slots := ⟨Nat.zero_le _, Nat.zero_le _⟩
  unfold wb_X0_setInOne_41 at h
  refine lv_iload hx hb dX0_setInOne_41 (lv_at hl 8 rfl) ?_
  refine lv_aload_n hx hb dX0_setInOne_43 rfl (lv_at hl 0 rfl) ?_
  refine cs_get 2 0 4 (v := .ref (ad (9 + 0))) (ref := "BracketLetters$Algebra") fx (by decide) rfl rfl in_X0_setInOne_X0 (by decide) rfl (by decide +kernel) rfl hK hP dX0_setInOne_44 ?_
  refine lv_iload hx hb dX0_setInOne_47 (lv_at hl 7 rfl) ?_
  obtain ⟨hi2, h⟩ := h
  refine cs_iald 0 (by decide) fx hK hP hi2 dX0_setInOne_49 ?_
  refine lv_icmp_ge (tgt := 137) hx hb dX0_setInOne_50 (by decide) (fun c50 => ?_) (fun c50 => ?_)
  · have h := h.1 c50
    obtain ⟨v8_3, ev8_3⟩ : ∃ z : Int32, z = v8 + 1 := ⟨_, rfl⟩
    have h := h v8_3 ev8_3
    refine lv_iinc (v := v8_3) (lv' := [(8, .int v8_3), (0, .ref (ad 2)), (1, .int v1), (3, .int v3), (4, .int v4), (5, .ref (ad (9 + v5))), (6, .int v6), (7, .int v7), (9, .int v9)]) hx hb dX0_setInOne_137 hl (k := 7) rfl (by rw [ev8_3]; rfl) (by decide) rfl (fun ls hl => ?_)
    refine lv_goto (tgt := 25) hx hb dX0_setInOne_140 (by decide) ?_
    exact k25 _ _ _ _ _ _ _ _ hP hD hS (lv_sub hl [1, 2, 3, 4, 5, 6, 7, 0] rfl) h
  · have h := h.2 c50
    refine lv_aload hx hb dX0_setInOne_53 (lv_at hl 4 rfl) ?_
    refine lv_aload_n hx hb dX0_setInOne_55 rfl (lv_at hl 0 rfl) ?_
    refine cs_get 2 0 5 (v := .ref (ad (9 + 1))) (ref := "BracketLetters$Algebra") fx (by decide) rfl rfl in_X0_setInOne_X0 (by decide) rfl (by decide +kernel) rfl hK hP dX0_setInOne_56 ?_
    refine lv_iload hx hb dX0_setInOne_59 (lv_at hl 7 rfl) ?_
    obtain ⟨hi4, h⟩ := h
    refine cs_iald 1 (by decide) fx hK hP hi4 dX0_setInOne_61 ?_
    refine lv_iload hx hb dX0_setInOne_62 (lv_at hl 8 rfl) ?_
    refine lv_iadd hx hb dX0_setInOne_64 ?_
    obtain ⟨hk6, h⟩ := h
    obtain ⟨hi5, h⟩ := h
    refine cs_iald v5 hk6 fx hK hP hi5 dX0_setInOne_65 ?_
    refine lv_topi (fun v10_7 ev10_7 => ?_)
    have h := h v10_7 ev10_7
    refine lv_istore (lv' := [(10, .int v10_7), (0, .ref (ad 2)), (1, .int v1), (3, .int v3), (4, .int v4), (5, .ref (ad (9 + v5))), (6, .int v6), (7, .int v7), (8, .int v8), (9, .int v9)]) hx hb dX0_setInOne_66 hl (by decide) rfl (fun ls hl => ?_)
    refine lv_iload hx hb dX0_setInOne_68 (lv_at hl 0 rfl) ?_
    refine lv_if_eq (tgt := 131) hx hb dX0_setInOne_70 (by decide) (fun c70 => ?_) (fun c70 => ?_)
    · have h := h.1 c70
      exact kw_X0_setInOne_131 fx hK hA k25 k41 hP hD hS (lv_sub hl [1, 2, 3, 4, 5, 6, 7, 8, 9] rfl) h
    · have h := h.2 c70
      refine lv_aload_n hx hb dX0_setInOne_73 rfl (lv_at hl 1 rfl) ?_
      refine cs_get 2 0 5 (v := .ref (ad (9 + 1))) (ref := "BracketLetters$Algebra") fx (by decide) rfl rfl in_X0_setInOne_X0 (by decide) rfl (by decide +kernel) rfl hK hP dX0_setInOne_74 ?_
      refine lv_iload_n hx hb dX0_setInOne_77 rfl (lv_at hl 2 rfl) ?_
      refine lv_iconst (v := 1) hx hb dX0_setInOne_78 (by decide) ?_
      refine lv_isub hx hb dX0_setInOne_79 ?_
      refine lv_iload hx hb dX0_setInOne_80 (lv_at hl 8 rfl) ?_
      refine lv_iadd hx hb dX0_setInOne_82 ?_
      obtain ⟨hi8, h⟩ := h
      refine cs_iald 1 (by decide) fx hK hP hi8 dX0_setInOne_83 ?_
      refine lv_iload hx hb dX0_setInOne_84 (lv_at hl 6 rfl) ?_
      refine lv_aload_n hx hb dX0_setInOne_86 rfl (lv_at hl 1 rfl) ?_
      refine cs_get 2 0 4 (v := .ref (ad (9 + 0))) (ref := "BracketLetters$Algebra") fx (by decide) rfl rfl in_X0_setInOne_X0 (by decide) rfl (by decide +kernel) rfl hK hP dX0_setInOne_87 ?_
      refine lv_iload hx hb dX0_setInOne_90 (lv_at hl 8 rfl) ?_
      obtain ⟨hi9, h⟩ := h
      refine cs_iald 0 (by decide) fx hK hP hi9 dX0_setInOne_92 ?_
      refine lv_imul hx hb dX0_setInOne_93 ?_
      refine lv_iload hx hb dX0_setInOne_94 (lv_at hl 9 rfl) ?_
      refine lv_iadd hx hb dX0_setInOne_96 ?_
      refine lv_aload_n hx hb dX0_setInOne_97 rfl (lv_at hl 1 rfl) ?_
      refine cs_get 2 0 4 (v := .ref (ad (9 + 0))) (ref := "BracketLetters$Algebra") fx (by decide) rfl rfl in_X0_setInOne_X0 (by decide) rfl (by decide +kernel) rfl hK hP dX0_setInOne_98 ?_
      refine lv_iload_n hx hb dX0_setInOne_101 rfl (lv_at hl 3 rfl) ?_
      obtain ⟨hi10, h⟩ := h
      refine cs_iald 0 (by decide) fx hK hP hi10 dX0_setInOne_102 ?_
      refine lv_imul hx hb dX0_setInOne_103 ?_
      refine lv_iadd hx hb dX0_setInOne_104 ?_
      refine lv_iload hx hb dX0_setInOne_105 (lv_at hl 7 rfl) ?_
      refine lv_iadd hx hb dX0_setInOne_107 ?_
      refine lv_topi (fun v11_11 ev11_11 => ?_)
      have h := h v11_11 ev11_11
      refine lv_istore (lv' := [(11, .int v11_11), (10, .int v10_7), (0, .ref (ad 2)), (1, .int v1), (3, .int v3), (4, .int v4), (5, .ref (ad (9 + v5))), (6, .int v6), (7, .int v7), (8, .int v8), (9, .int v9)]) hx hb dX0_setInOne_108 hl (by decide) rfl (fun ls hl => ?_)
      refine lv_aload_n hx hb dX0_setInOne_110 rfl (lv_at hl 2 rfl) ?_
      refine cs_get 2 0 7 (v := .ref (ad (9 + 3))) (ref := "BracketLetters$Algebra") fx (by decide) rfl rfl in_X0_setInOne_X0 (by decide) rfl (by decide +kernel) rfl hK hP dX0_setInOne_111 ?_
      refine lv_iload hx hb dX0_setInOne_114 (lv_at hl 0 rfl) ?_
      refine lv_aload_n hx hb dX0_setInOne_116 rfl (lv_at hl 2 rfl) ?_
      refine cs_get 2 0 7 (v := .ref (ad (9 + 3))) (ref := "BracketLetters$Algebra") fx (by decide) rfl rfl in_X0_setInOne_X0 (by decide) rfl (by decide +kernel) rfl hK hP dX0_setInOne_117 ?_
      refine lv_iload hx hb dX0_setInOne_120 (lv_at hl 0 rfl) ?_
      obtain ⟨hi12, h⟩ := h
      refine cs_iald 3 (by decide) fx hK hP hi12 dX0_setInOne_122 ?_
      refine lv_iload hx hb dX0_setInOne_123 (lv_at hl 5 rfl) ?_
      refine lv_iload hx hb dX0_setInOne_125 (lv_at hl 1 rfl) ?_
      refine xr_sI (n := 3) (As := [.int (S.2.1 3 v11_11.toNatClampNeg), .int v4, .int v10_7]) (rest := [.int v11_11, .ref (ad (9 + 3))]) fx (ct_X3_productMore l h) gX0_setInOne_X3_productMore rfl rfl (by decide +kernel) ⟨Nat.le_of_ble_eq_true rfl, Nat.le_of_ble_eq_true rfl⟩ ⟨rfl, rfl⟩ hf hl.1 rfl (Nat.le_of_ble_eq_true rfl) dX0_setInOne_127 (fun r13 h => ?_)
      obtain ⟨hi14, h⟩ := h
      refine cs_iast 3 (by decide) fx hK hP hD hS hi14 dX0_setInOne_130 (fun H locs hP hD hS => ?_)
      exact kw_X0_setInOne_131 fx hK hA k25 k41 hP hD hS (lv_sub hl [2, 3, 4, 5, 6, 7, 8, 9, 10] rfl) h
theorem kw_X0_setInOne_41 {p : Program} {l : Launch} {e : Env} {s : State} {m : MethodId} {args : Array Value} {below : List Frame} {meth : Method} {c : Code} {D : va_G} {ad : Nat → Nat} {cI cJ cR : ClassId} {Ln : Nat → Nat} {A : Nat → Prop} {K25 : cs_T → Int32 → Int32 → Int32 → Nat → Int32 → Int32 → Int32 → Prop} {Q : cs_T → Prop} (fx : xr_Fx p m c meth cX0_setInOne 12 s args wsX0_setInOne RX0 none) (hK : xr_K D (cs_ty cI cJ cR) s) (hA : ∀ q, s.heap.size ≤ q → A q)  (k25 : ∀ (S : cs_T) (v1 : Int32) (v3 : Int32) (v4 : Int32) (v5 : Nat) (v6 : Int32) (v7 : Int32) (v8 : Int32) {H : Heap} {locs : List Loc} {ls : Array Slot}, va_P D vwCl (cs_w ad cI cR Ln S) H → va_D A (cs_w ad cI cR Ln S) → va_S A s.heap H locs → lv_has ls 12 [(0, .ref (ad 2)), (1, .int v1), (3, .int v3), (4, .int v4), (5, .ref (ad (9 + v5))), (6, .int v6), (7, .int v7), (8, .int v8)] → K25 S v1 v3 v4 v5 v6 v7 v8 → W p l e rm_X0_setInOne s m args below meth c H locs 0 0 (MQ below (va_Qv Q (xr_B D (cs_ty cI cJ cR) (cs_w ad cI cR Ln) A) A) args s 0 0 A) (F0 m 25 ls [])) : ∀ (n : Nat) (S : cs_T) (v1 : Int32) (v3 : Int32) (v4 : Int32) (v5 : Nat) (v6 : Int32) (v7 : Int32) (v8 : Int32) (v9 : Int32) {H : Heap} {locs : List Loc} {ls : Array Slot}, va_P D vwCl (cs_w ad cI cR Ln S) H → va_D A (cs_w ad cI cR Ln S) → va_S A s.heap H locs → lv_has ls 12 [(0, .ref (ad 2)), (1, .int v1), (3, .int v3), (4, .int v4), (5, .ref (ad (9 + v5))), (6, .int v6), (7, .int v7), (8, .int v8), (9, .int v9)] → wp_X0_setInOne_41 Ln K25 Q n S v1 v3 v4 v5 v6 v7 v8 v9 → W p l e rm_X0_setInOne s m args below meth c H locs 0 0 (MQ below (va_Qv Q (xr_B D (cs_ty cI cJ cR) (cs_w ad cI cR Ln) A) A) args s 0 0 A) (F0 m 41 ls []) := by
  intro n
  induction n with
  | zero => intro S v1 v3 v4 v5 v6 v7 v8 v9 H locs ls hP hD hS hl h; exact False.elim h
  | succ n ih => intro S v1 v3 v4 v5 v6 v7 v8 v9 H locs ls hP hD hS hl h; exact kb_X0_setInOne_41 fx hK hA k25 ih hP hD hS hl h
set_option maxHeartbeats 4000000 in
set_option maxRecDepth 100000 in
theorem kb_X0_setInOne_25 {p : Program} {l : Launch} {e : Env} {s : State} {m : MethodId} {args : Array Value} {below : List Frame} {meth : Method} {c : Code} {D : va_G} {ad : Nat → Nat} {cI cJ cR : ClassId} {Ln : Nat → Nat} {A : Nat → Prop}  {K25 : cs_T → Int32 → Int32 → Int32 → Nat → Int32 → Int32 → Int32 → Prop} {Q : cs_T → Prop} {S : cs_T} {v1 : Int32} {v3 : Int32} {v4 : Int32} {v5 : Nat} {v6 : Int32} {v7 : Int32} {v8 : Int32} (fx : xr_Fx p m c meth cX0_setInOne 12 s args wsX0_setInOne RX0 none) (hK : xr_K D (cs_ty cI cJ cR) s) (hA : ∀ q, s.heap.size ≤ q → A q)   (k25 : ∀ (S : cs_T) (v1 : Int32) (v3 : Int32) (v4 : Int32) (v5 : Nat) (v6 : Int32) (v7 : Int32) (v8 : Int32) {H : Heap} {locs : List Loc} {ls : Array Slot}, va_P D vwCl (cs_w ad cI cR Ln S) H → va_D A (cs_w ad cI cR Ln S) → va_S A s.heap H locs → lv_has ls 12 [(0, .ref (ad 2)), (1, .int v1), (3, .int v3), (4, .int v4), (5, .ref (ad (9 + v5))), (6, .int v6), (7, .int v7), (8, .int v8)] → K25 S v1 v3 v4 v5 v6 v7 v8 → W p l e rm_X0_setInOne s m args below meth c H locs 0 0 (MQ below (va_Qv Q (xr_B D (cs_ty cI cJ cR) (cs_w ad cI cR Ln) A) A) args s 0 0 A) (F0 m 25 ls [])) {H : Heap} {locs : List Loc} {ls : Array Slot} (hP : va_P D vwCl (cs_w ad cI cR Ln S) H) (hD : va_D A (cs_w ad cI cR Ln S)) (hS : va_S A s.heap H locs) (hl : lv_has ls 12 [(0, .ref (ad 2)), (1, .int v1), (3, .int v3), (4, .int v4), (5, .ref (ad (9 + v5))), (6, .int v6), (7, .int v7), (8, .int v8)]) (h : wb_X0_setInOne_25 Ln K25 Q S v1 v3 v4 v5 v6 v7 v8) : W p l e rm_X0_setInOne s m args below meth c H locs 0 0 (MQ below (va_Qv Q (xr_B D (cs_ty cI cJ cR) (cs_w ad cI cR Ln) A) A) args s 0 0 A) (F0 m 25 ls []) := by
  obtain ⟨⟨hx, hb, hml, hown, hts⟩, hrt, hlk⟩ := id fx
  have hf : 0 ≤ rm_X0_setInOne.cells ∧ 0 ≤ rm_X0_setInOne.slots := ⟨Nat.zero_le _, Nat.zero_le _⟩
  unfold wb_X0_setInOne_25 at h
  refine lv_iload hx hb dX0_setInOne_25 (lv_at hl 7 rfl) ?_
  refine lv_aload_n hx hb dX0_setInOne_27 rfl (lv_at hl 0 rfl) ?_
  refine cs_get 2 0 2 (v := .int (S.1 0)) (ref := "BracketLetters$Algebra") fx (by decide) rfl rfl in_X0_setInOne_X0 (by decide) rfl (by decide +kernel) rfl hK hP dX0_setInOne_28 ?_
  refine lv_iload_n hx hb dX0_setInOne_31 rfl (lv_at hl 1 rfl) ?_
  refine lv_isub hx hb dX0_setInOne_32 ?_
  refine lv_iconst (v := 1) hx hb dX0_setInOne_33 (by decide) ?_
  refine lv_iadd hx hb dX0_setInOne_34 ?_
  refine lv_icmp_gt (tgt := 143) hx hb dX0_setInOne_35 (by decide) (fun c35 => ?_) (fun c35 => ?_)
  · have h := h.1 c35
    exact xr_rV fx hK hP hD hS h dX0_setInOne_143
  · have h := h.2 c35
    refine lv_iconst (v := 0) hx hb dX0_setInOne_38 (by decide) ?_
    refine lv_istore (lv' := [(9, .int 0), (0, .ref (ad 2)), (1, .int v1), (3, .int v3), (4, .int v4), (5, .ref (ad (9 + v5))), (6, .int v6), (7, .int v7), (8, .int v8)]) hx hb dX0_setInOne_39 hl (by decide) rfl (fun ls hl => ?_)
    obtain ⟨n, h⟩ := h
    exact kw_X0_setInOne_41 fx hK hA k25 n _ _ _ _ _ _ _ _ _ hP hD hS (lv_sub hl [1, 2, 3, 4, 5, 6, 7, 8, 0] rfl) h
theorem kw_X0_setInOne_25 {p : Program} {l : Launch} {e : Env} {s : State} {m : MethodId} {args : Array Value} {below : List Frame} {meth : Method} {c : Code} {D : va_G} {ad : Nat → Nat} {cI cJ cR : ClassId} {Ln : Nat → Nat} {A : Nat → Prop}  {Q : cs_T → Prop} (fx : xr_Fx p m c meth cX0_setInOne 12 s args wsX0_setInOne RX0 none) (hK : xr_K D (cs_ty cI cJ cR) s) (hA : ∀ q, s.heap.size ≤ q → A q)   : ∀ (n : Nat) (S : cs_T) (v1 : Int32) (v3 : Int32) (v4 : Int32) (v5 : Nat) (v6 : Int32) (v7 : Int32) (v8 : Int32) {H : Heap} {locs : List Loc} {ls : Array Slot}, va_P D vwCl (cs_w ad cI cR Ln S) H → va_D A (cs_w ad cI cR Ln S) → va_S A s.heap H locs → lv_has ls 12 [(0, .ref (ad 2)), (1, .int v1), (3, .int v3), (4, .int v4), (5, .ref (ad (9 + v5))), (6, .int v6), (7, .int v7), (8, .int v8)] → wp_X0_setInOne_25 Ln Q n S v1 v3 v4 v5 v6 v7 v8 → W p l e rm_X0_setInOne s m args below meth c H locs 0 0 (MQ below (va_Qv Q (xr_B D (cs_ty cI cJ cR) (cs_w ad cI cR Ln) A) A) args s 0 0 A) (F0 m 25 ls []) := by
  intro n
  induction n with
  | zero => intro S v1 v3 v4 v5 v6 v7 v8 H locs ls hP hD hS hl h; exact False.elim h
  | succ n ih => intro S v1 v3 v4 v5 v6 v7 v8 H locs ls hP hD hS hl h; exact kb_X0_setInOne_25 fx hK hA ih hP hD hS hl h
set_option maxHeartbeats 4000000 in
set_option maxRecDepth 100000 in
theorem ct_X0_setInOne (l : Launch) (D : va_G) (ad : Nat → Nat) (cI cJ cR : ClassId) (Ln : Nat → Nat) {S : cs_T} {a1 : Int32} {a2 : Int32} {a3 : Int32} {a4 : Int32} {a5 : Nat} {Q : cs_T → Prop} (h : wp_X0_setInOne Ln S a1 a2 a3 a4 a5 Q) : xr_V l D (cs_ty cI cJ cR) (cs_w ad cI cR Ln) yX0_setInOne wsX0_setInOne rm_X0_setInOne [.ref (ad 2), .int a1, .int a2, .int a3, .int a4, .ref (ad (9 + a5))] S Q := by
  refine xr_eV (cc := cX0_setInOne) (nL := 12) (ret := none) (own := RX0) (by decide) rfl rfl (Nat.le_of_ble_eq_true rfl) ?_
  intro p e s m args below meth c ls A fx hK hA hP hD hS hl
  have hl : lv_has ls 12 [(0, .ref (ad 2)), (1, .int a1), (2, .int a2), (3, .int a3), (4, .int a4), (5, .ref (ad (9 + a5)))] := hl
  show W p l e rm_X0_setInOne s m args below meth c s.heap [] 0 0 _ _
  obtain ⟨⟨hx, hb, hml, hown, hts⟩, hrt, hlk⟩ := id fx
  have hf : 0 ≤ rm_X0_setInOne.cells ∧ 0 ≤ rm_X0_setInOne.slots := ⟨Nat.zero_le _, Nat.zero_le _⟩
  unfold wp_X0_setInOne at h
  refine lv_iload_n hx hb dX0_setInOne_0 rfl (lv_at hl 2 rfl) ?_
  refine lv_aload_n hx hb dX0_setInOne_1 rfl (lv_at hl 0 rfl) ?_
  refine cs_get 2 0 4 (v := .ref (ad (9 + 0))) (ref := "BracketLetters$Algebra") fx (by decide) rfl rfl in_X0_setInOne_X0 (by decide) rfl (by decide +kernel) rfl hK hP dX0_setInOne_2 ?_
  refine lv_iload_n hx hb dX0_setInOne_5 rfl (lv_at hl 3 rfl) ?_
  refine lv_iconst (v := 1) hx hb dX0_setInOne_6 (by decide) ?_
  refine lv_iadd hx hb dX0_setInOne_7 ?_
  obtain ⟨hi15, h⟩ := h
  refine cs_iald 0 (by decide) fx hK hP hi15 dX0_setInOne_8 ?_
  obtain ⟨hz16, h⟩ := h
  refine lv_idiv hx hb dX0_setInOne_9 hz16 ?_
  refine lv_topi (fun v6_17 ev6_17 => ?_)
  have h := h v6_17 ev6_17
  refine lv_istore (lv' := [(6, .int v6_17), (0, .ref (ad 2)), (1, .int a1), (2, .int a2), (3, .int a3), (4, .int a4), (5, .ref (ad (9 + a5)))]) hx hb dX0_setInOne_10 hl (by decide) rfl (fun ls hl => ?_)
  refine lv_iload_n hx hb dX0_setInOne_12 rfl (lv_at hl 3 rfl) ?_
  refine lv_aload_n hx hb dX0_setInOne_13 rfl (lv_at hl 1 rfl) ?_
  refine cs_get 2 0 4 (v := .ref (ad (9 + 0))) (ref := "BracketLetters$Algebra") fx (by decide) rfl rfl in_X0_setInOne_X0 (by decide) rfl (by decide +kernel) rfl hK hP dX0_setInOne_14 ?_
  refine lv_iload_n hx hb dX0_setInOne_17 rfl (lv_at hl 4 rfl) ?_
  obtain ⟨hi18, h⟩ := h
  refine cs_iald 0 (by decide) fx hK hP hi18 dX0_setInOne_18 ?_
  obtain ⟨hz19, h⟩ := h
  refine lv_irem hx hb dX0_setInOne_19 hz19 ?_
  refine lv_topi (fun v7_20 ev7_20 => ?_)
  have h := h v7_20 ev7_20
  refine lv_istore (lv' := [(7, .int v7_20), (6, .int v6_17), (0, .ref (ad 2)), (1, .int a1), (2, .int a2), (3, .int a3), (4, .int a4), (5, .ref (ad (9 + a5)))]) hx hb dX0_setInOne_20 hl (by decide) rfl (fun ls hl => ?_)
  refine lv_iconst (v := 0) hx hb dX0_setInOne_22 (by decide) ?_
  refine lv_istore (lv' := [(8, .int 0), (7, .int v7_20), (6, .int v6_17), (0, .ref (ad 2)), (1, .int a1), (2, .int a2), (3, .int a3), (4, .int a4), (5, .ref (ad (9 + a5)))]) hx hb dX0_setInOne_23 hl (by decide) rfl (fun ls hl => ?_)
  obtain ⟨n, h⟩ := h
  exact kw_X0_setInOne_25 fx hK hA n _ _ _ _ _ _ _ _ hP hD hS (lv_sub hl [3, 4, 6, 7, 8, 2, 1, 0] rfl) h
abbrev rm_X0_setInEach : Room := { frames := 2, cells := 0, slots := 0, locals := 70 }
theorem in_X0_setInEach_X0 : ∀ w ∈ wsX00, w ∈ wsX0_setInEach := by decide +kernel
set_option maxHeartbeats 4000000 in
set_option maxRecDepth 100000 in
theorem kw_X0_setInEach_97 {p : Program} {l : Launch} {e : Env} {s : State} {m : MethodId} {args : Array Value} {below : List Frame} {meth : Method} {c : Code} {D : va_G} {ad : Nat → Nat} {cI cJ cR : ClassId} {Ln : Nat → Nat} {A : Nat → Prop} {K11 : cs_T → Nat → Nat → Int32 → Nat → Int32 → Prop} {K23 : cs_T → Nat → Nat → Int32 → Nat → Int32 → Int32 → Prop} {K52 : cs_T → Nat → Nat → Int32 → Nat → Int32 → Int32 → Int32 → Int32 → Prop} {Q : cs_T → Prop} {S : cs_T} {v1 : Nat} {v2 : Nat} {v3 : Int32} {v4 : Nat} {v5 : Int32} {v6 : Int32} {v7 : Int32} {v8 : Int32} (fx : xr_Fx p m c meth cX0_setInEach 9 s args wsX0_setInEach RX0 none) (hK : xr_K D (cs_ty cI cJ cR) s) (hA : ∀ q, s.heap.size ≤ q → A q)  (k11 : ∀ (S : cs_T) (v1 : Nat) (v2 : Nat) (v3 : Int32) (v4 : Nat) (v5 : Int32) {H : Heap} {locs : List Loc} {ls : Array Slot}, va_P D vwCl (cs_w ad cI cR Ln S) H → va_D A (cs_w ad cI cR Ln S) → va_S A s.heap H locs → lv_has ls 9 [(0, .ref (ad 2)), (1, .ref (ad (9 + v1))), (2, .ref (ad (9 + v2))), (3, .int v3), (4, .ref (ad (9 + v4))), (5, .int v5)] → K11 S v1 v2 v3 v4 v5 → W p l e rm_X0_setInEach s m args below meth c H locs 0 0 (MQ below (va_Qv Q (xr_B D (cs_ty cI cJ cR) (cs_w ad cI cR Ln) A) A) args s 0 0 A) (F0 m 11 ls [])) (k23 : ∀ (S : cs_T) (v1 : Nat) (v2 : Nat) (v3 : Int32) (v4 : Nat) (v5 : Int32) (v6 : Int32) {H : Heap} {locs : List Loc} {ls : Array Slot}, va_P D vwCl (cs_w ad cI cR Ln S) H → va_D A (cs_w ad cI cR Ln S) → va_S A s.heap H locs → lv_has ls 9 [(0, .ref (ad 2)), (1, .ref (ad (9 + v1))), (2, .ref (ad (9 + v2))), (3, .int v3), (4, .ref (ad (9 + v4))), (5, .int v5), (6, .int v6)] → K23 S v1 v2 v3 v4 v5 v6 → W p l e rm_X0_setInEach s m args below meth c H locs 0 0 (MQ below (va_Qv Q (xr_B D (cs_ty cI cJ cR) (cs_w ad cI cR Ln) A) A) args s 0 0 A) (F0 m 23 ls [])) (k52 : ∀ (S : cs_T) (v1 : Nat) (v2 : Nat) (v3 : Int32) (v4 : Nat) (v5 : Int32) (v6 : Int32) (v7 : Int32) (v8 : Int32) {H : Heap} {locs : List Loc} {ls : Array Slot}, va_P D vwCl (cs_w ad cI cR Ln S) H → va_D A (cs_w ad cI cR Ln S) → va_S A s.heap H locs → lv_has ls 9 [(0, .ref (ad 2)), (1, .ref (ad (9 + v1))), (2, .ref (ad (9 + v2))), (3, .int v3), (4, .ref (ad (9 + v4))), (5, .int v5), (6, .int v6), (7, .int v7), (8, .int v8)] → K52 S v1 v2 v3 v4 v5 v6 v7 v8 → W p l e rm_X0_setInEach s m args below meth c H locs 0 0 (MQ below (va_Qv Q (xr_B D (cs_ty cI cJ cR) (cs_w ad cI cR Ln) A) A) args s 0 0 A) (F0 m 52 ls [])) {H : Heap} {locs : List Loc} {ls : Array Slot} (hP : va_P D vwCl (cs_w ad cI cR Ln S) H) (hD : va_D A (cs_w ad cI cR Ln S)) (hS : va_S A s.heap H locs) (hl : lv_has ls 9 [(0, .ref (ad 2)), (1, .ref (ad (9 + v1))), (2, .ref (ad (9 + v2))), (3, .int v3), (4, .ref (ad (9 + v4))), (5, .int v5), (6, .int v6), (7, .int v7), (8, .int v8)]) (h : wp_X0_setInEach_97 Ln K11 K23 K52 Q S v1 v2 v3 v4 v5 v6 v7 v8) : W p l e rm_X0_setInEach s m args below meth c H locs 0 0 (MQ below (va_Qv Q (xr_B D (cs_ty cI cJ cR) (cs_w ad cI cR Ln) A) A) args s 0 0 A) (F0 m 97 ls []) := by
  obtain ⟨⟨hx, hb, hml, hown, hts⟩, hrt, hlk⟩ := id fx
  have hf : 0 ≤ rm_X0_setInEach.cells ∧ 0 ≤ rm_X0_setInEach.slots := ⟨Nat.zero_le _, Nat.zero_le _⟩
  unfold wp_X0_setInEach_97 at h
  obtain ⟨v8_1, ev8_1⟩ : ∃ z : Int32, z = v8 + 1 := ⟨_, rfl⟩
  have h := h v8_1 ev8_1
  refine lv_iinc (v := v8_1) (lv' := [(8, .int v8_1), (0, .ref (ad 2)), (1, .ref (ad (9 + v1))), (2, .ref (ad (9 + v2))), (3, .int v3), (4, .ref (ad (9 + v4))), (5, .int v5), (6, .int v6), (7, .int v7)]) hx hb dX0_setInEach_97 hl (k := 8) rfl (by rw [ev8_1]; rfl) (by decide) rfl (fun ls hl => ?_)
  refine lv_goto (tgt := 52) hx hb dX0_setInEach_100 (by decide) ?_
  exact k52 _ _ _ _ _ _ _ _ _ hP hD hS (lv_sub hl [1, 2, 3, 4, 5, 6, 7, 8, 0] rfl) h
set_option maxHeartbeats 4000000 in
set_option maxRecDepth 100000 in
theorem kw_X0_setInEach_103 {p : Program} {l : Launch} {e : Env} {s : State} {m : MethodId} {args : Array Value} {below : List Frame} {meth : Method} {c : Code} {D : va_G} {ad : Nat → Nat} {cI cJ cR : ClassId} {Ln : Nat → Nat} {A : Nat → Prop} {K11 : cs_T → Nat → Nat → Int32 → Nat → Int32 → Prop} {K23 : cs_T → Nat → Nat → Int32 → Nat → Int32 → Int32 → Prop} {Q : cs_T → Prop} {S : cs_T} {v1 : Nat} {v2 : Nat} {v3 : Int32} {v4 : Nat} {v5 : Int32} {v6 : Int32} (fx : xr_Fx p m c meth cX0_setInEach 9 s args wsX0_setInEach RX0 none) (hK : xr_K D (cs_ty cI cJ cR) s) (hA : ∀ q, s.heap.size ≤ q → A q)  (k11 : ∀ (S : cs_T) (v1 : Nat) (v2 : Nat) (v3 : Int32) (v4 : Nat) (v5 : Int32) {H : Heap} {locs : List Loc} {ls : Array Slot}, va_P D vwCl (cs_w ad cI cR Ln S) H → va_D A (cs_w ad cI cR Ln S) → va_S A s.heap H locs → lv_has ls 9 [(0, .ref (ad 2)), (1, .ref (ad (9 + v1))), (2, .ref (ad (9 + v2))), (3, .int v3), (4, .ref (ad (9 + v4))), (5, .int v5)] → K11 S v1 v2 v3 v4 v5 → W p l e rm_X0_setInEach s m args below meth c H locs 0 0 (MQ below (va_Qv Q (xr_B D (cs_ty cI cJ cR) (cs_w ad cI cR Ln) A) A) args s 0 0 A) (F0 m 11 ls [])) (k23 : ∀ (S : cs_T) (v1 : Nat) (v2 : Nat) (v3 : Int32) (v4 : Nat) (v5 : Int32) (v6 : Int32) {H : Heap} {locs : List Loc} {ls : Array Slot}, va_P D vwCl (cs_w ad cI cR Ln S) H → va_D A (cs_w ad cI cR Ln S) → va_S A s.heap H locs → lv_has ls 9 [(0, .ref (ad 2)), (1, .ref (ad (9 + v1))), (2, .ref (ad (9 + v2))), (3, .int v3), (4, .ref (ad (9 + v4))), (5, .int v5), (6, .int v6)] → K23 S v1 v2 v3 v4 v5 v6 → W p l e rm_X0_setInEach s m args below meth c H locs 0 0 (MQ below (va_Qv Q (xr_B D (cs_ty cI cJ cR) (cs_w ad cI cR Ln) A) A) args s 0 0 A) (F0 m 23 ls [])) {H : Heap} {locs : List Loc} {ls : Array Slot} (hP : va_P D vwCl (cs_w ad cI cR Ln S) H) (hD : va_D A (cs_w ad cI cR Ln S)) (hS : va_S A s.heap H locs) (hl : lv_has ls 9 [(0, .ref (ad 2)), (1, .ref (ad (9 + v1))), (2, .ref (ad (9 + v2))), (3, .int v3), (4, .ref (ad (9 + v4))), (5, .int v5), (6, .int v6)]) (h : wp_X0_setInEach_103 Ln K11 K23 Q S v1 v2 v3 v4 v5 v6) : W p l e rm_X0_setInEach s m args below meth c H locs 0 0 (MQ below (va_Qv Q (xr_B D (cs_ty cI cJ cR) (cs_w ad cI cR Ln) A) A) args s 0 0 A) (F0 m 103 ls []) := by
  obtain ⟨⟨hx, hb, hml, hown, hts⟩, hrt, hlk⟩ := id fx
  have hf : 0 ≤ rm_X0_setInEach.cells ∧ 0 ≤ rm_X0_setInEach.slots := ⟨Nat.zero_le _, Nat.zero_le _⟩
  unfold wp_X0_setInEach_103 at h
  obtain ⟨v6_2, ev6_2⟩ : ∃ z : Int32, z = v6 + 1 := ⟨_, rfl⟩
  have h := h v6_2 ev6_2
  refine lv_iinc (v := v6_2) (lv' := [(6, .int v6_2), (0, .ref (ad 2)), (1, .ref (ad (9 + v1))), (2, .ref (ad (9 + v2))), (3, .int v3), (4, .ref (ad (9 + v4))), (5, .int v5)]) hx hb dX0_setInEach_103 hl (k := 6) rfl (by rw [ev6_2]; rfl) (by decide) rfl (fun ls hl => ?_)
  refine lv_goto (tgt := 23) hx hb dX0_setInEach_106 (by decide) ?_
  exact k23 _ _ _ _ _ _ _ hP hD hS (lv_sub hl [1, 2, 3, 4, 5, 6, 0] rfl) h
set_option maxHeartbeats 4000000 in
set_option maxRecDepth 100000 in
theorem kb_X0_setInEach_52 {p : Program} {l : Launch} {e : Env} {s : State} {m : MethodId} {args : Array Value} {below : List Frame} {meth : Method} {c : Code} {D : va_G} {ad : Nat → Nat} {cI cJ cR : ClassId} {Ln : Nat → Nat} {A : Nat → Prop} {K11 : cs_T → Nat → Nat → Int32 → Nat → Int32 → Prop} {K23 : cs_T → Nat → Nat → Int32 → Nat → Int32 → Int32 → Prop} {K52 : cs_T → Nat → Nat → Int32 → Nat → Int32 → Int32 → Int32 → Int32 → Prop} {Q : cs_T → Prop} {S : cs_T} {v1 : Nat} {v2 : Nat} {v3 : Int32} {v4 : Nat} {v5 : Int32} {v6 : Int32} {v7 : Int32} {v8 : Int32} (fx : xr_Fx p m c meth cX0_setInEach 9 s args wsX0_setInEach RX0 none) (hK : xr_K D (cs_ty cI cJ cR) s) (hA : ∀ q, s.heap.size ≤ q → A q)  (k11 : ∀ (S : cs_T) (v1 : Nat) (v2 : Nat) (v3 : Int32) (v4 : Nat) (v5 : Int32) {H : Heap} {locs : List Loc} {ls : Array Slot}, va_P D vwCl (cs_w ad cI cR Ln S) H → va_D A (cs_w ad cI cR Ln S) → va_S A s.heap H locs → lv_has ls 9 [(0, .ref (ad 2)), (1, .ref (ad (9 + v1))), (2, .ref (ad (9 + v2))), (3, .int v3), (4, .ref (ad (9 + v4))), (5, .int v5)] → K11 S v1 v2 v3 v4 v5 → W p l e rm_X0_setInEach s m args below meth c H locs 0 0 (MQ below (va_Qv Q (xr_B D (cs_ty cI cJ cR) (cs_w ad cI cR Ln) A) A) args s 0 0 A) (F0 m 11 ls [])) (k23 : ∀ (S : cs_T) (v1 : Nat) (v2 : Nat) (v3 : Int32) (v4 : Nat) (v5 : Int32) (v6 : Int32) {H : Heap} {locs : List Loc} {ls : Array Slot}, va_P D vwCl (cs_w ad cI cR Ln S) H → va_D A (cs_w ad cI cR Ln S) → va_S A s.heap H locs → lv_has ls 9 [(0, .ref (ad 2)), (1, .ref (ad (9 + v1))), (2, .ref (ad (9 + v2))), (3, .int v3), (4, .ref (ad (9 + v4))), (5, .int v5), (6, .int v6)] → K23 S v1 v2 v3 v4 v5 v6 → W p l e rm_X0_setInEach s m args below meth c H locs 0 0 (MQ below (va_Qv Q (xr_B D (cs_ty cI cJ cR) (cs_w ad cI cR Ln) A) A) args s 0 0 A) (F0 m 23 ls [])) (k52 : ∀ (S : cs_T) (v1 : Nat) (v2 : Nat) (v3 : Int32) (v4 : Nat) (v5 : Int32) (v6 : Int32) (v7 : Int32) (v8 : Int32) {H : Heap} {locs : List Loc} {ls : Array Slot}, va_P D vwCl (cs_w ad cI cR Ln S) H → va_D A (cs_w ad cI cR Ln S) → va_S A s.heap H locs → lv_has ls 9 [(0, .ref (ad 2)), (1, .ref (ad (9 + v1))), (2, .ref (ad (9 + v2))), (3, .int v3), (4, .ref (ad (9 + v4))), (5, .int v5), (6, .int v6), (7, .int v7), (8, .int v8)] → K52 S v1 v2 v3 v4 v5 v6 v7 v8 → W p l e rm_X0_setInEach s m args below meth c H locs 0 0 (MQ below (va_Qv Q (xr_B D (cs_ty cI cJ cR) (cs_w ad cI cR Ln) A) A) args s 0 0 A) (F0 m 52 ls [])) {H : Heap} {locs : List Loc} {ls : Array Slot} (hP : va_P D vwCl (cs_w ad cI cR Ln S) H) (hD : va_D A (cs_w ad cI cR Ln S)) (hS : va_S A s.heap H locs) (hl : lv_has ls 9 [(0, .ref (ad 2)), (1, .ref (ad (9 + v1))), (2, .ref (ad (9 + v2))), (3, .int v3), (4, .ref (ad (9 + v4))), (5, .int v5), (6, .int v6), (7, .int v7), (8, .int v8)]) (h : wb_X0_setInEach_52 Ln K11 K23 K52 Q S v1 v2 v3 v4 v5 v6 v7 v8) : W p l e rm_X0_setInEach s m args below meth c H locs 0 0 (MQ below (va_Qv Q (xr_B D (cs_ty cI cJ cR) (cs_w ad cI cR Ln) A) A) args s 0 0 A) (F0 m 52 ls []) := by
  obtain ⟨⟨hx, hb, hml, hown, hts⟩, hrt, hlk⟩ := id fx
  have hf : 0 ≤ rm_X0_setInEach.cells ∧ 0 ≤ rm_X0_setInEach.slots := ⟨Nat.zero_le _, Nat.zero_le _⟩
  unfold wb_X0_setInEach_52 at h
  refine lv_iload hx hb dX0_setInEach_52 (lv_at hl 8 rfl) ?_
  refine lv_iload hx hb dX0_setInEach_54 (lv_at hl 5 rfl) ?_
  refine lv_icmp_ge (tgt := 103) hx hb dX0_setInEach_56 (by decide) (fun c56 => ?_) (fun c56 => ?_)
  · have h := h.1 c56
    exact kw_X0_setInEach_103 fx hK hA k11 k23 hP hD hS (lv_sub hl [0, 1, 2, 3, 4, 5, 6] rfl) h
  · have h := h.2 c56
    refine lv_iload hx hb dX0_setInEach_59 (lv_at hl 7 rfl) ?_
    refine lv_if_eq (tgt := 103) hx hb dX0_setInEach_61 (by decide) (fun c61 => ?_) (fun c61 => ?_)
    · have h := h.1 c61
      exact kw_X0_setInEach_103 fx hK hA k11 k23 hP hD hS (lv_sub hl [0, 1, 2, 3, 4, 5, 6] rfl) h
    · have h := h.2 c61
      refine lv_iload hx hb dX0_setInEach_64 (lv_at hl 6 rfl) ?_
      refine lv_aload_n hx hb dX0_setInEach_66 rfl (lv_at hl 0 rfl) ?_
      refine cs_get 2 0 4 (v := .ref (ad (9 + 0))) (ref := "BracketLetters$Algebra") fx (by decide) rfl rfl in_X0_setInEach_X0 (by decide) rfl (by decide +kernel) rfl hK hP dX0_setInEach_67 ?_
      refine lv_iload hx hb dX0_setInEach_70 (lv_at hl 8 rfl) ?_
      obtain ⟨hi3, h⟩ := h
      refine cs_iald 0 (by decide) fx hK hP hi3 dX0_setInEach_72 ?_
      obtain ⟨hz4, h⟩ := h
      refine lv_idiv hx hb dX0_setInEach_73 hz4 ?_
      refine lv_aload_n hx hb dX0_setInEach_74 rfl (lv_at hl 0 rfl) ?_
      refine cs_get 2 0 3 (v := .int (S.1 1)) (ref := "BracketLetters$Algebra") fx (by decide) rfl rfl in_X0_setInEach_X0 (by decide) rfl (by decide +kernel) rfl hK hP dX0_setInEach_75 ?_
      obtain ⟨hz5, h⟩ := h
      refine lv_irem hx hb dX0_setInEach_78 hz5 ?_
      refine lv_iload_n hx hb dX0_setInEach_79 rfl (lv_at hl 3 rfl) ?_
      refine lv_icmp_ne (tgt := 97) hx hb dX0_setInEach_80 (by decide) (fun c80 => ?_) (fun c80 => ?_)
      · have h := h.1 c80
        exact kw_X0_setInEach_97 fx hK hA k11 k23 k52 hP hD hS (lv_sub hl [0, 1, 2, 3, 4, 5, 6, 7, 8] rfl) h
      · have h := h.2 c80
        refine lv_aload_n hx hb dX0_setInEach_83 rfl (lv_at hl 0 rfl) ?_
        refine lv_iload hx hb dX0_setInEach_84 (lv_at hl 5 rfl) ?_
        refine lv_iload hx hb dX0_setInEach_86 (lv_at hl 6 rfl) ?_
        refine lv_iload hx hb dX0_setInEach_88 (lv_at hl 8 rfl) ?_
        refine lv_iload hx hb dX0_setInEach_90 (lv_at hl 7 rfl) ?_
        refine lv_aload hx hb dX0_setInEach_92 (lv_at hl 4 rfl) ?_
        refine xr_vV (n := 5) (As := [.int v5, .int v6, .int v8, .int v7, .ref (ad (9 + v4))]) (rest := []) fx (ct_X0_setInOne l D ad cI cJ cR Ln h) gX0_setInEach_X0_setInOne rfl rfl (by decide +kernel) ⟨Nat.le_of_ble_eq_true rfl, Nat.le_of_ble_eq_true rfl⟩ ⟨rfl, rfl⟩ hf (cs_recv 2 0 (by decide) rfl rfl hK hP) hK hP hD hS hA hl.1 rfl (Nat.le_of_ble_eq_true rfl) dX0_setInEach_94 (fun S6 H locs h hP hD hS => ?_)
        exact kw_X0_setInEach_97 fx hK hA k11 k23 k52 hP hD hS (lv_sub hl [0, 1, 2, 3, 4, 5, 6, 7, 8] rfl) h
theorem kw_X0_setInEach_52 {p : Program} {l : Launch} {e : Env} {s : State} {m : MethodId} {args : Array Value} {below : List Frame} {meth : Method} {c : Code} {D : va_G} {ad : Nat → Nat} {cI cJ cR : ClassId} {Ln : Nat → Nat} {A : Nat → Prop} {K11 : cs_T → Nat → Nat → Int32 → Nat → Int32 → Prop} {K23 : cs_T → Nat → Nat → Int32 → Nat → Int32 → Int32 → Prop} {Q : cs_T → Prop} (fx : xr_Fx p m c meth cX0_setInEach 9 s args wsX0_setInEach RX0 none) (hK : xr_K D (cs_ty cI cJ cR) s) (hA : ∀ q, s.heap.size ≤ q → A q)  (k11 : ∀ (S : cs_T) (v1 : Nat) (v2 : Nat) (v3 : Int32) (v4 : Nat) (v5 : Int32) {H : Heap} {locs : List Loc} {ls : Array Slot}, va_P D vwCl (cs_w ad cI cR Ln S) H → va_D A (cs_w ad cI cR Ln S) → va_S A s.heap H locs → lv_has ls 9 [(0, .ref (ad 2)), (1, .ref (ad (9 + v1))), (2, .ref (ad (9 + v2))), (3, .int v3), (4, .ref (ad (9 + v4))), (5, .int v5)] → K11 S v1 v2 v3 v4 v5 → W p l e rm_X0_setInEach s m args below meth c H locs 0 0 (MQ below (va_Qv Q (xr_B D (cs_ty cI cJ cR) (cs_w ad cI cR Ln) A) A) args s 0 0 A) (F0 m 11 ls [])) (k23 : ∀ (S : cs_T) (v1 : Nat) (v2 : Nat) (v3 : Int32) (v4 : Nat) (v5 : Int32) (v6 : Int32) {H : Heap} {locs : List Loc} {ls : Array Slot}, va_P D vwCl (cs_w ad cI cR Ln S) H → va_D A (cs_w ad cI cR Ln S) → va_S A s.heap H locs → lv_has ls 9 [(0, .ref (ad 2)), (1, .ref (ad (9 + v1))), (2, .ref (ad (9 + v2))), (3, .int v3), (4, .ref (ad (9 + v4))), (5, .int v5), (6, .int v6)] → K23 S v1 v2 v3 v4 v5 v6 → W p l e rm_X0_setInEach s m args below meth c H locs 0 0 (MQ below (va_Qv Q (xr_B D (cs_ty cI cJ cR) (cs_w ad cI cR Ln) A) A) args s 0 0 A) (F0 m 23 ls [])) : ∀ (n : Nat) (S : cs_T) (v1 : Nat) (v2 : Nat) (v3 : Int32) (v4 : Nat) (v5 : Int32) (v6 : Int32) (v7 : Int32) (v8 : Int32) {H : Heap} {locs : List Loc} {ls : Array Slot}, va_P D vwCl (cs_w ad cI cR Ln S) H → va_D A (cs_w ad cI cR Ln S) → va_S A s.heap H locs → lv_has ls 9 [(0, .ref (ad 2)), (1, .ref (ad (9 + v1))), (2, .ref (ad (9 + v2))), (3, .int v3), (4, .ref (ad (9 + v4))), (5, .int v5), (6, .int v6), (7, .int v7), (8, .int v8)] → wp_X0_setInEach_52 Ln K11 K23 Q n S v1 v2 v3 v4 v5 v6 v7 v8 → W p l e rm_X0_setInEach s m args below meth c H locs 0 0 (MQ below (va_Qv Q (xr_B D (cs_ty cI cJ cR) (cs_w ad cI cR Ln) A) A) args s 0 0 A) (F0 m 52 ls []) := by
  intro n
  induction n with
  | zero => intro S v1 v2 v3 v4 v5 v6 v7 v8 H locs ls hP hD hS hl h; exact False.elim h
  | succ n ih => intro S v1 v2 v3 v4 v5 v6 v7 v8 H locs ls hP hD hS hl h; exact kb_X0_setInEach_52 fx hK hA k11 k23 ih hP hD hS hl h
set_option maxHeartbeats 4000000 in
set_option maxRecDepth 100000 in
theorem kb_X0_setInEach_23 {p : Program} {l : Launch} {e : Env} {s : State} {m : MethodId} {args : Array Value} {below : List Frame} {meth : Method} {c : Code} {D : va_G} {ad : Nat → Nat} {cI cJ cR : ClassId} {Ln : Nat → Nat} {A : Nat → Prop} {K11 : cs_T → Nat → Nat → Int32 → Nat → Int32 → Prop} {K23 : cs_T → Nat → Nat → Int32 → Nat → Int32 → Int32 → Prop} {Q : cs_T → Prop} {S : cs_T} {v1 : Nat} {v2 : Nat} {v3 : Int32} {v4 : Nat} {v5 : Int32} {v6 : Int32} (fx : xr_Fx p m c meth cX0_setInEach 9 s args wsX0_setInEach RX0 none) (hK : xr_K D (cs_ty cI cJ cR) s) (hA : ∀ q, s.heap.size ≤ q → A q)  (k11 : ∀ (S : cs_T) (v1 : Nat) (v2 : Nat) (v3 : Int32) (v4 : Nat) (v5 : Int32) {H : Heap} {locs : List Loc} {ls : Array Slot}, va_P D vwCl (cs_w ad cI cR Ln S) H → va_D A (cs_w ad cI cR Ln S) → va_S A s.heap H locs → lv_has ls 9 [(0, .ref (ad 2)), (1, .ref (ad (9 + v1))), (2, .ref (ad (9 + v2))), (3, .int v3), (4, .ref (ad (9 + v4))), (5, .int v5)] → K11 S v1 v2 v3 v4 v5 → W p l e rm_X0_setInEach s m args below meth c H locs 0 0 (MQ below (va_Qv Q (xr_B D (cs_ty cI cJ cR) (cs_w ad cI cR Ln) A) A) args s 0 0 A) (F0 m 11 ls [])) (k23 : ∀ (S : cs_T) (v1 : Nat) (v2 : Nat) (v3 : Int32) (v4 : Nat) (v5 : Int32) (v6 : Int32) {H : Heap} {locs : List Loc} {ls : Array Slot}, va_P D vwCl (cs_w ad cI cR Ln S) H → va_D A (cs_w ad cI cR Ln S) → va_S A s.heap H locs → lv_has ls 9 [(0, .ref (ad 2)), (1, .ref (ad (9 + v1))), (2, .ref (ad (9 + v2))), (3, .int v3), (4, .ref (ad (9 + v4))), (5, .int v5), (6, .int v6)] → K23 S v1 v2 v3 v4 v5 v6 → W p l e rm_X0_setInEach s m args below meth c H locs 0 0 (MQ below (va_Qv Q (xr_B D (cs_ty cI cJ cR) (cs_w ad cI cR Ln) A) A) args s 0 0 A) (F0 m 23 ls [])) {H : Heap} {locs : List Loc} {ls : Array Slot} (hP : va_P D vwCl (cs_w ad cI cR Ln S) H) (hD : va_D A (cs_w ad cI cR Ln S)) (hS : va_S A s.heap H locs) (hl : lv_has ls 9 [(0, .ref (ad 2)), (1, .ref (ad (9 + v1))), (2, .ref (ad (9 + v2))), (3, .int v3), (4, .ref (ad (9 + v4))), (5, .int v5), (6, .int v6)]) (h : wb_X0_setInEach_23 Ln K11 K23 Q S v1 v2 v3 v4 v5 v6) : W p l e rm_X0_setInEach s m args below meth c H locs 0 0 (MQ below (va_Qv Q (xr_B D (cs_ty cI cJ cR) (cs_w ad cI cR Ln) A) A) args s 0 0 A) (F0 m 23 ls []) := by
  obtain ⟨⟨hx, hb, hml, hown, hts⟩, hrt, hlk⟩ := id fx
  have hf : 0 ≤ rm_X0_setInEach.cells ∧ 0 ≤ rm_X0_setInEach.slots := ⟨Nat.zero_le _, Nat.zero_le _⟩
  unfold wb_X0_setInEach_23 at h
  refine lv_iload hx hb dX0_setInEach_23 (lv_at hl 6 rfl) ?_
  refine lv_aload_n hx hb dX0_setInEach_25 rfl (lv_at hl 0 rfl) ?_
  refine cs_get 2 0 4 (v := .ref (ad (9 + 0))) (ref := "BracketLetters$Algebra") fx (by decide) rfl rfl in_X0_setInEach_X0 (by decide) rfl (by decide +kernel) rfl hK hP dX0_setInEach_26 ?_
  refine lv_iload hx hb dX0_setInEach_29 (lv_at hl 5 rfl) ?_
  obtain ⟨hi7, h⟩ := h
  refine cs_iald 0 (by decide) fx hK hP hi7 dX0_setInEach_31 ?_
  refine lv_icmp_ge (tgt := 109) hx hb dX0_setInEach_32 (by decide) (fun c32 => ?_) (fun c32 => ?_)
  · have h := h.1 c32
    obtain ⟨v5_8, ev5_8⟩ : ∃ z : Int32, z = v5 + 1 := ⟨_, rfl⟩
    have h := h v5_8 ev5_8
    refine lv_iinc (v := v5_8) (lv' := [(5, .int v5_8), (0, .ref (ad 2)), (1, .ref (ad (9 + v1))), (2, .ref (ad (9 + v2))), (3, .int v3), (4, .ref (ad (9 + v4))), (6, .int v6)]) hx hb dX0_setInEach_109 hl (k := 5) rfl (by rw [ev5_8]; rfl) (by decide) rfl (fun ls hl => ?_)
    refine lv_goto (tgt := 11) hx hb dX0_setInEach_112 (by decide) ?_
    exact k11 _ _ _ _ _ _ hP hD hS (lv_sub hl [1, 2, 3, 4, 5, 0] rfl) h
  · have h := h.2 c32
    refine lv_aload_n hx hb dX0_setInEach_35 rfl (lv_at hl 2 rfl) ?_
    refine lv_aload_n hx hb dX0_setInEach_36 rfl (lv_at hl 0 rfl) ?_
    refine cs_get 2 0 5 (v := .ref (ad (9 + 1))) (ref := "BracketLetters$Algebra") fx (by decide) rfl rfl in_X0_setInEach_X0 (by decide) rfl (by decide +kernel) rfl hK hP dX0_setInEach_37 ?_
    refine lv_iload hx hb dX0_setInEach_40 (lv_at hl 5 rfl) ?_
    obtain ⟨hi9, h⟩ := h
    refine cs_iald 1 (by decide) fx hK hP hi9 dX0_setInEach_42 ?_
    refine lv_iload hx hb dX0_setInEach_43 (lv_at hl 6 rfl) ?_
    refine lv_iadd hx hb dX0_setInEach_45 ?_
    obtain ⟨hk11, h⟩ := h
    obtain ⟨hi10, h⟩ := h
    refine cs_iald v2 hk11 fx hK hP hi10 dX0_setInEach_46 ?_
    refine lv_topi (fun v7_12 ev7_12 => ?_)
    have h := h v7_12 ev7_12
    refine lv_istore (lv' := [(7, .int v7_12), (0, .ref (ad 2)), (1, .ref (ad (9 + v1))), (2, .ref (ad (9 + v2))), (3, .int v3), (4, .ref (ad (9 + v4))), (5, .int v5), (6, .int v6)]) hx hb dX0_setInEach_47 hl (by decide) rfl (fun ls hl => ?_)
    refine lv_iconst (v := 0) hx hb dX0_setInEach_49 (by decide) ?_
    refine lv_istore (lv' := [(8, .int 0), (7, .int v7_12), (0, .ref (ad 2)), (1, .ref (ad (9 + v1))), (2, .ref (ad (9 + v2))), (3, .int v3), (4, .ref (ad (9 + v4))), (5, .int v5), (6, .int v6)]) hx hb dX0_setInEach_50 hl (by decide) rfl (fun ls hl => ?_)
    obtain ⟨n, h⟩ := h
    exact kw_X0_setInEach_52 fx hK hA k11 k23 n _ _ _ _ _ _ _ _ _ hP hD hS (lv_sub hl [2, 3, 4, 5, 6, 7, 8, 1, 0] rfl) h
theorem kw_X0_setInEach_23 {p : Program} {l : Launch} {e : Env} {s : State} {m : MethodId} {args : Array Value} {below : List Frame} {meth : Method} {c : Code} {D : va_G} {ad : Nat → Nat} {cI cJ cR : ClassId} {Ln : Nat → Nat} {A : Nat → Prop} {K11 : cs_T → Nat → Nat → Int32 → Nat → Int32 → Prop} {Q : cs_T → Prop} (fx : xr_Fx p m c meth cX0_setInEach 9 s args wsX0_setInEach RX0 none) (hK : xr_K D (cs_ty cI cJ cR) s) (hA : ∀ q, s.heap.size ≤ q → A q)  (k11 : ∀ (S : cs_T) (v1 : Nat) (v2 : Nat) (v3 : Int32) (v4 : Nat) (v5 : Int32) {H : Heap} {locs : List Loc} {ls : Array Slot}, va_P D vwCl (cs_w ad cI cR Ln S) H → va_D A (cs_w ad cI cR Ln S) → va_S A s.heap H locs → lv_has ls 9 [(0, .ref (ad 2)), (1, .ref (ad (9 + v1))), (2, .ref (ad (9 + v2))), (3, .int v3), (4, .ref (ad (9 + v4))), (5, .int v5)] → K11 S v1 v2 v3 v4 v5 → W p l e rm_X0_setInEach s m args below meth c H locs 0 0 (MQ below (va_Qv Q (xr_B D (cs_ty cI cJ cR) (cs_w ad cI cR Ln) A) A) args s 0 0 A) (F0 m 11 ls [])) : ∀ (n : Nat) (S : cs_T) (v1 : Nat) (v2 : Nat) (v3 : Int32) (v4 : Nat) (v5 : Int32) (v6 : Int32) {H : Heap} {locs : List Loc} {ls : Array Slot}, va_P D vwCl (cs_w ad cI cR Ln S) H → va_D A (cs_w ad cI cR Ln S) → va_S A s.heap H locs → lv_has ls 9 [(0, .ref (ad 2)), (1, .ref (ad (9 + v1))), (2, .ref (ad (9 + v2))), (3, .int v3), (4, .ref (ad (9 + v4))), (5, .int v5), (6, .int v6)] → wp_X0_setInEach_23 Ln K11 Q n S v1 v2 v3 v4 v5 v6 → W p l e rm_X0_setInEach s m args below meth c H locs 0 0 (MQ below (va_Qv Q (xr_B D (cs_ty cI cJ cR) (cs_w ad cI cR Ln) A) A) args s 0 0 A) (F0 m 23 ls []) := by
  intro n
  induction n with
  | zero => intro S v1 v2 v3 v4 v5 v6 H locs ls hP hD hS hl h; exact False.elim h
  | succ n ih => intro S v1 v2 v3 v4 v5 v6 H locs ls hP hD hS hl h; exact kb_X0_setInEach_23 fx hK hA k11 ih hP hD hS hl h
set_option maxHeartbeats 4000000 in
set_option maxRecDepth 100000 in
theorem kb_X0_setInEach_11 {p : Program} {l : Launch} {e : Env} {s : State} {m : MethodId} {args : Array Value} {below : List Frame} {meth : Method} {c : Code} {D : va_G} {ad : Nat → Nat} {cI cJ cR : ClassId} {Ln : Nat → Nat} {A : Nat → Prop}  {K11 : cs_T → Nat → Nat → Int32 → Nat → Int32 → Prop} {Q : cs_T → Prop} {S : cs_T} {v1 : Nat} {v2 : Nat} {v3 : Int32} {v4 : Nat} {v5 : Int32} (fx : xr_Fx p m c meth cX0_setInEach 9 s args wsX0_setInEach RX0 none) (hK : xr_K D (cs_ty cI cJ cR) s) (hA : ∀ q, s.heap.size ≤ q → A q)   (k11 : ∀ (S : cs_T) (v1 : Nat) (v2 : Nat) (v3 : Int32) (v4 : Nat) (v5 : Int32) {H : Heap} {locs : List Loc} {ls : Array Slot}, va_P D vwCl (cs_w ad cI cR Ln S) H → va_D A (cs_w ad cI cR Ln S) → va_S A s.heap H locs → lv_has ls 9 [(0, .ref (ad 2)), (1, .ref (ad (9 + v1))), (2, .ref (ad (9 + v2))), (3, .int v3), (4, .ref (ad (9 + v4))), (5, .int v5)] → K11 S v1 v2 v3 v4 v5 → W p l e rm_X0_setInEach s m args below meth c H locs 0 0 (MQ below (va_Qv Q (xr_B D (cs_ty cI cJ cR) (cs_w ad cI cR Ln) A) A) args s 0 0 A) (F0 m 11 ls [])) {H : Heap} {locs : List Loc} {ls : Array Slot} (hP : va_P D vwCl (cs_w ad cI cR Ln S) H) (hD : va_D A (cs_w ad cI cR Ln S)) (hS : va_S A s.heap H locs) (hl : lv_has ls 9 [(0, .ref (ad 2)), (1, .ref (ad (9 + v1))), (2, .ref (ad (9 + v2))), (3, .int v3), (4, .ref (ad (9 + v4))), (5, .int v5)]) (h : wb_X0_setInEach_11 Ln K11 Q S v1 v2 v3 v4 v5) : W p l e rm_X0_setInEach s m args below meth c H locs 0 0 (MQ below (va_Qv Q (xr_B D (cs_ty cI cJ cR) (cs_w ad cI cR Ln) A) A) args s 0 0 A) (F0 m 11 ls []) := by
  obtain ⟨⟨hx, hb, hml, hown, hts⟩, hrt, hlk⟩ := id fx
  have hf : 0 ≤ rm_X0_setInEach.cells ∧ 0 ≤ rm_X0_setInEach.slots := ⟨Nat.zero_le _, Nat.zero_le _⟩
  unfold wb_X0_setInEach_11 at h
  refine lv_iload hx hb dX0_setInEach_11 (lv_at hl 5 rfl) ?_
  refine lv_aload_n hx hb dX0_setInEach_13 rfl (lv_at hl 0 rfl) ?_
  refine cs_get 2 0 2 (v := .int (S.1 0)) (ref := "BracketLetters$Algebra") fx (by decide) rfl rfl in_X0_setInEach_X0 (by decide) rfl (by decide +kernel) rfl hK hP dX0_setInEach_14 ?_
  refine lv_icmp_gt (tgt := 115) hx hb dX0_setInEach_17 (by decide) (fun c17 => ?_) (fun c17 => ?_)
  · have h := h.1 c17
    refine lv_aload_n hx hb dX0_setInEach_115 rfl (lv_at hl 0 rfl) ?_
    refine lv_aload_n hx hb dX0_setInEach_116 rfl (lv_at hl 1 rfl) ?_
    refine lv_aload_n hx hb dX0_setInEach_117 rfl (lv_at hl 0 rfl) ?_
    refine cs_get 2 0 7 (v := .ref (ad (9 + 3))) (ref := "BracketLetters$Algebra") fx (by decide) rfl rfl in_X0_setInEach_X0 (by decide) rfl (by decide +kernel) rfl hK hP dX0_setInEach_118 ?_
    refine xr_vV (n := 2) (As := [.ref (ad (9 + v1)), .ref (ad (9 + 3))]) (rest := []) fx (ct_X0_copy l D ad cI cJ cR Ln h) gX0_setInEach_X0_copy rfl rfl (by decide +kernel) ⟨Nat.le_of_ble_eq_true rfl, Nat.le_of_ble_eq_true rfl⟩ ⟨rfl, rfl⟩ hf (cs_recv 2 0 (by decide) rfl rfl hK hP) hK hP hD hS hA hl.1 rfl (Nat.le_of_ble_eq_true rfl) dX0_setInEach_121 (fun S13 H locs h hP hD hS => ?_)
    exact xr_rV fx hK hP hD hS h dX0_setInEach_124
  · have h := h.2 c17
    refine lv_iconst (v := 0) hx hb dX0_setInEach_20 (by decide) ?_
    refine lv_istore (lv' := [(6, .int 0), (0, .ref (ad 2)), (1, .ref (ad (9 + v1))), (2, .ref (ad (9 + v2))), (3, .int v3), (4, .ref (ad (9 + v4))), (5, .int v5)]) hx hb dX0_setInEach_21 hl (by decide) rfl (fun ls hl => ?_)
    obtain ⟨n, h⟩ := h
    exact kw_X0_setInEach_23 fx hK hA k11 n _ _ _ _ _ _ _ hP hD hS (lv_sub hl [1, 2, 3, 4, 5, 6, 0] rfl) h
theorem kw_X0_setInEach_11 {p : Program} {l : Launch} {e : Env} {s : State} {m : MethodId} {args : Array Value} {below : List Frame} {meth : Method} {c : Code} {D : va_G} {ad : Nat → Nat} {cI cJ cR : ClassId} {Ln : Nat → Nat} {A : Nat → Prop}  {Q : cs_T → Prop} (fx : xr_Fx p m c meth cX0_setInEach 9 s args wsX0_setInEach RX0 none) (hK : xr_K D (cs_ty cI cJ cR) s) (hA : ∀ q, s.heap.size ≤ q → A q)   : ∀ (n : Nat) (S : cs_T) (v1 : Nat) (v2 : Nat) (v3 : Int32) (v4 : Nat) (v5 : Int32) {H : Heap} {locs : List Loc} {ls : Array Slot}, va_P D vwCl (cs_w ad cI cR Ln S) H → va_D A (cs_w ad cI cR Ln S) → va_S A s.heap H locs → lv_has ls 9 [(0, .ref (ad 2)), (1, .ref (ad (9 + v1))), (2, .ref (ad (9 + v2))), (3, .int v3), (4, .ref (ad (9 + v4))), (5, .int v5)] → wp_X0_setInEach_11 Ln Q n S v1 v2 v3 v4 v5 → W p l e rm_X0_setInEach s m args below meth c H locs 0 0 (MQ below (va_Qv Q (xr_B D (cs_ty cI cJ cR) (cs_w ad cI cR Ln) A) A) args s 0 0 A) (F0 m 11 ls []) := by
  intro n
  induction n with
  | zero => intro S v1 v2 v3 v4 v5 H locs ls hP hD hS hl h; exact False.elim h
  | succ n ih => intro S v1 v2 v3 v4 v5 H locs ls hP hD hS hl h; exact kb_X0_setInEach_11 fx hK hA ih hP hD hS hl h
set_option maxHeartbeats 4000000 in
set_option maxRecDepth 100000 in
theorem ct_X0_setInEach (l : Launch) (D : va_G) (ad : Nat → Nat) (cI cJ cR : ClassId) (Ln : Nat → Nat) {S : cs_T} {a1 : Nat} {a2 : Nat} {a3 : Int32} {a4 : Nat} {Q : cs_T → Prop} (h : wp_X0_setInEach Ln S a1 a2 a3 a4 Q) : xr_V l D (cs_ty cI cJ cR) (cs_w ad cI cR Ln) yX0_setInEach wsX0_setInEach rm_X0_setInEach [.ref (ad 2), .ref (ad (9 + a1)), .ref (ad (9 + a2)), .int a3, .ref (ad (9 + a4))] S Q := by
  refine xr_eV (cc := cX0_setInEach) (nL := 9) (ret := none) (own := RX0) (by decide) rfl rfl (Nat.le_of_ble_eq_true rfl) ?_
  intro p e s m args below meth c ls A fx hK hA hP hD hS hl
  have hl : lv_has ls 9 [(0, .ref (ad 2)), (1, .ref (ad (9 + a1))), (2, .ref (ad (9 + a2))), (3, .int a3), (4, .ref (ad (9 + a4)))] := hl
  show W p l e rm_X0_setInEach s m args below meth c s.heap [] 0 0 _ _
  obtain ⟨⟨hx, hb, hml, hown, hts⟩, hrt, hlk⟩ := id fx
  have hf : 0 ≤ rm_X0_setInEach.cells ∧ 0 ≤ rm_X0_setInEach.slots := ⟨Nat.zero_le _, Nat.zero_le _⟩
  unfold wp_X0_setInEach at h
  refine lv_aload_n hx hb dX0_setInEach_0 rfl (lv_at hl 0 rfl) ?_
  refine cs_get 2 0 7 (v := .ref (ad (9 + 3))) (ref := "BracketLetters$Algebra") fx (by decide) rfl rfl in_X0_setInEach_X0 (by decide) rfl (by decide +kernel) rfl hK hP dX0_setInEach_1 ?_
  refine lv_iconst (v := 0) hx hb dX0_setInEach_4 (by decide) ?_
  refine xr_wV (n := 2) (As := [.ref (ad (9 + 3)), .int 0]) (rest := []) fx (ct_J7_fill_53178 l D ad cI cJ cR Ln h) gX0_setInEach_J7_fill_53178 rfl rfl (by decide +kernel) ⟨Nat.le_of_ble_eq_true rfl, Nat.le_of_ble_eq_true rfl⟩ ⟨rfl, rfl⟩ hf hK hP hD hS hA hl.1 rfl (Nat.le_of_ble_eq_true rfl) dX0_setInEach_5 (fun S14 H locs h hP hD hS => ?_)
  refine lv_iconst (v := 1) hx hb dX0_setInEach_8 (by decide) ?_
  refine lv_istore (lv' := [(5, .int 1), (0, .ref (ad 2)), (1, .ref (ad (9 + a1))), (2, .ref (ad (9 + a2))), (3, .int a3), (4, .ref (ad (9 + a4)))]) hx hb dX0_setInEach_9 hl (by decide) rfl (fun ls hl => ?_)
  obtain ⟨n, h⟩ := h
  exact kw_X0_setInEach_11 fx hK hA n _ _ _ _ _ _ hP hD hS (lv_sub hl [1, 2, 3, 4, 5, 0] rfl) h
