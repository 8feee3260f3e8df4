abbrev rm_X8_digitsFrom : Room := { frames := 2, cells := 0, slots := 0, locals := 45 }
set_option maxHeartbeats 4000000 in
set_option maxRecDepth 100000 in
theorem kb_X8_digitsFrom_2 {p : Program} {l : Launch} {e : Env} {s : State} {m : MethodId} {args : Array Value} {below : List Frame} {meth : Method} {c : Code} {D : va_G} {ad : Nat → Nat} {cI cJ cR : ClassId} {A : Nat → Prop}  {K2 : ms_T → Int32 → Int32 → Prop} {Q : Int32 → ms_T → Prop} {S : ms_T} {v1 : Int32} {v2 : Int32} (fx : xr_Fx p m c meth cX8_digitsFrom 3 s args wsX8_digitsFrom RX8 (some .int)) (hK : xr_K D (ms_ty cI cJ cR) s) (hA : ∀ q, s.heap.size ≤ q → A q)  (k2 : ∀ (S : ms_T) (v1 : Int32) (v2 : Int32) {H : Heap} {locs : List Loc} {ls : Array Slot}, va_P D vwCl (ms_w ad cI cJ S) H → va_D A (ms_w ad cI cJ S) → va_S A s.heap H locs → lv_has ls 3 [(0, .ref (ad 0)), (1, .int v1), (2, .int v2)] → K2 S v1 v2 → W p l e rm_X8_digitsFrom s m args below meth c H locs 0 0 (MQ below (va_Qi Q (xr_B D (ms_ty cI cJ cR) (ms_w ad cI cJ) A) A) args s 0 0 A) (F0 m 2 ls [])) {H : Heap} {locs : List Loc} {ls : Array Slot} (hP : va_P D vwCl (ms_w ad cI cJ S) H) (hD : va_D A (ms_w ad cI cJ S)) (hS : va_S A s.heap H locs) (hl : lv_has ls 3 [(0, .ref (ad 0)), (1, .int v1), (2, .int v2)]) (h : wb_X8_digitsFrom_2 K2 Q S v1 v2) : W p l e rm_X8_digitsFrom s m args below meth c H locs 0 0 (MQ below (va_Qi Q (xr_B D (ms_ty cI cJ cR) (ms_w ad cI cJ) A) A) args s 0 0 A) (F0 m 2 ls []) := by
  obtain ⟨⟨hx, hb, hml, hown, hts⟩, hrt, hlk⟩ := id fx
  have hf : 0 ≤ rm_X8_digitsFrom.cells ∧ 0 ≤ rm_X8_digitsFrom.slots := ⟨Nat.zero_le _, Nat.zero_le _⟩
  unfold wb_X8_digitsFrom_2 at h
  refine lv_iload_n hx hb dX8_digitsFrom_2 rfl (lv_at hl 2 rfl) ?_
  refine lv_iconst (v := 4) hx hb dX8_digitsFrom_3 (by decide) ?_
  refine lv_icmp_ge (tgt := 26) hx hb dX8_digitsFrom_4 (by decide) (fun c4 => ?_) (fun c4 => ?_)
  · have h := h.1 c4
    refine lv_iload_n hx hb dX8_digitsFrom_26 rfl (lv_at hl 2 rfl) ?_
    exact xr_rI fx hK hP hD hS h dX8_digitsFrom_27
  · have h := h.2 c4
    refine lv_aload_n hx hb dX8_digitsFrom_7 rfl (lv_at hl 0 rfl) ?_
    refine lv_iload_n hx hb dX8_digitsFrom_8 rfl (lv_at hl 1 rfl) ?_
    refine lv_iload_n hx hb dX8_digitsFrom_9 rfl (lv_at hl 2 rfl) ?_
    refine lv_iadd hx hb dX8_digitsFrom_10 ?_
    refine xr_vI (n := 1) (As := [.int (v1 + v2)]) (rest := []) fx (ct_X8_byteAt l D ad cI cJ cR h) gX8_digitsFrom_X8_byteAt rfl rfl (by decide +kernel) ⟨Nat.le_of_ble_eq_true rfl, Nat.le_of_ble_eq_true rfl⟩ ⟨rfl, rfl⟩ hf (ms_recv hK hP) hK hP hD hS hA hl.1 rfl (Nat.le_of_ble_eq_true rfl) dX8_digitsFrom_11 (fun r2 S1 H locs h hP hD hS => ?_)
    refine xr_sI (n := 1) (As := [.int r2]) (rest := []) fx (ct_X8_isDigit l h) gX8_digitsFrom_X8_isDigit rfl rfl (by decide +kernel) ⟨Nat.le_of_ble_eq_true rfl, Nat.le_of_ble_eq_true rfl⟩ ⟨rfl, rfl⟩ hf hl.1 rfl (Nat.le_of_ble_eq_true rfl) dX8_digitsFrom_14 (fun r3 h => ?_)
    refine lv_if_eq (tgt := 26) hx hb dX8_digitsFrom_17 (by decide) (fun c17 => ?_) (fun c17 => ?_)
    · have h := h.1 c17
      refine lv_iload_n hx hb dX8_digitsFrom_26 rfl (lv_at hl 2 rfl) ?_
      exact xr_rI fx hK hP hD hS h dX8_digitsFrom_27
    · have h := h.2 c17
      obtain ⟨v2_4, ev2_4⟩ : ∃ z : Int32, z = v2 + 1 := ⟨_, rfl⟩
      have h := h v2_4 ev2_4
      refine lv_iinc (v := v2_4) (lv' := [(2, .int v2_4), (0, .ref (ad 0)), (1, .int v1)]) hx hb dX8_digitsFrom_20 hl (k := 2) rfl (by rw [ev2_4]; rfl) (by decide) rfl (fun ls hl => ?_)
      refine lv_goto (tgt := 2) hx hb dX8_digitsFrom_23 (by decide) ?_
      exact k2 _ _ _ hP hD hS (lv_sub hl [1, 2, 0] rfl) h
theorem kw_X8_digitsFrom_2 {p : Program} {l : Launch} {e : Env} {s : State} {m : MethodId} {args : Array Value} {below : List Frame} {meth : Method} {c : Code} {D : va_G} {ad : Nat → Nat} {cI cJ cR : ClassId} {A : Nat → Prop}  {Q : Int32 → ms_T → Prop} (fx : xr_Fx p m c meth cX8_digitsFrom 3 s args wsX8_digitsFrom RX8 (some .int)) (hK : xr_K D (ms_ty cI cJ cR) s) (hA : ∀ q, s.heap.size ≤ q → A q)  : ∀ (n : Nat) (S : ms_T) (v1 : Int32) (v2 : Int32) {H : Heap} {locs : List Loc} {ls : Array Slot}, va_P D vwCl (ms_w ad cI cJ S) H → va_D A (ms_w ad cI cJ S) → va_S A s.heap H locs → lv_has ls 3 [(0, .ref (ad 0)), (1, .int v1), (2, .int v2)] → wp_X8_digitsFrom_2 Q n S v1 v2 → W p l e rm_X8_digitsFrom s m args below meth c H locs 0 0 (MQ below (va_Qi Q (xr_B D (ms_ty cI cJ cR) (ms_w ad cI cJ) A) A) args s 0 0 A) (F0 m 2 ls []) := by
  intro n
  induction n with
  | zero => intro S v1 v2 H locs ls hP hD hS hl h; exact False.elim h
  | succ n ih => intro S v1 v2 H locs ls hP hD hS hl h; exact kb_X8_digitsFrom_2 fx hK hA ih hP hD hS hl h
set_option maxHeartbeats 4000000 in
set_option maxRecDepth 100000 in
theorem ct_X8_digitsFrom (l : Launch) (D : va_G) (ad : Nat → Nat) (cI cJ cR : ClassId) {S : ms_T} {a1 : Int32} {Q : Int32 → ms_T → Prop} (h : wp_X8_digitsFrom S a1 Q) : xr_I l D (ms_ty cI cJ cR) (ms_w ad cI cJ) yX8_digitsFrom wsX8_digitsFrom rm_X8_digitsFrom [.ref (ad 0), .int a1] S Q := by
  refine xr_eI (cc := cX8_digitsFrom) (nL := 3) (ret := (some .int)) (own := RX8) (by decide) rfl rfl (Nat.le_of_ble_eq_true rfl) ?_
  intro p e s m args below meth c ls A fx hK hA hP hD hS hl
  have hl : lv_has ls 3 [(0, .ref (ad 0)), (1, .int a1)] := hl
  show W p l e rm_X8_digitsFrom s m args below meth c s.heap [] 0 0 _ _
  obtain ⟨⟨hx, hb, hml, hown, hts⟩, hrt, hlk⟩ := id fx
  have hf : 0 ≤ rm_X8_digitsFrom.cells ∧ 0 ≤ rm_X8_digitsFrom.slots := ⟨Nat.zero_le _, Nat.zero_le _⟩
  unfold wp_X8_digitsFrom at h
  refine lv_iconst (v := 0) hx hb dX8_digitsFrom_0 (by decide) ?_
  refine lv_istore_n (lv' := [(2, .int 0), (0, .ref (ad 0)), (1, .int a1)]) hx hb dX8_digitsFrom_1 rfl hl (by decide) rfl (fun ls hl => ?_)
  obtain ⟨n, h⟩ := h
  exact kw_X8_digitsFrom_2 fx hK hA n _ _ _ hP hD hS (lv_sub hl [1, 2, 0] rfl) h
abbrev rm_X8_reads : Room := { frames := 3, cells := 0, slots := 0, locals := 67 }
theorem in_X8_reads : ∀ w ∈ wsX80, w ∈ wsX8_reads := by decide +kernel
set_option maxHeartbeats 4000000 in
set_option maxRecDepth 100000 in
theorem kw_X8_reads_430 {p : Program} {l : Launch} {e : Env} {s : State} {m : MethodId} {args : Array Value} {below : List Frame} {meth : Method} {c : Code} {D : va_G} {ad : Nat → Nat} {cI cJ cR : ClassId} {A : Nat → Prop} {K9 : ms_T → Int32 → Int32 → Prop} {Q : Int32 → ms_T → Prop} {S : ms_T} {v1 : Int32} {v2 : Int32} (fx : xr_Fx p m c meth cX8_reads 5 s args wsX8_reads RX8 (some .int)) (hK : xr_K D (ms_ty cI cJ cR) s) (hA : ∀ q, s.heap.size ≤ q → A q) (k9 : ∀ (S : ms_T) (v1 : Int32) (v2 : Int32) {H : Heap} {locs : List Loc} {ls : Array Slot}, va_P D vwCl (ms_w ad cI cJ S) H → va_D A (ms_w ad cI cJ S) → va_S A s.heap H locs → lv_has ls 5 [(0, .ref (ad 0)), (1, .int v1), (2, .int v2)] → K9 S v1 v2 → W p l e rm_X8_reads s m args below meth c H locs 0 0 (MQ below (va_Qi Q (xr_B D (ms_ty cI cJ cR) (ms_w ad cI cJ) A) A) args s 0 0 A) (F0 m 9 ls [])) {H : Heap} {locs : List Loc} {ls : Array Slot} (hP : va_P D vwCl (ms_w ad cI cJ S) H) (hD : va_D A (ms_w ad cI cJ S)) (hS : va_S A s.heap H locs) (hl : lv_has ls 5 [(0, .ref (ad 0)), (1, .int v1), (2, .int v2)]) (h : wp_X8_reads_430 K9 Q S v1 v2) : W p l e rm_X8_reads s m args below meth c H locs 0 0 (MQ below (va_Qi Q (xr_B D (ms_ty cI cJ cR) (ms_w ad cI cJ) A) A) args s 0 0 A) (F0 m 430 ls []) := by
  obtain ⟨⟨hx, hb, hml, hown, hts⟩, hrt, hlk⟩ := id fx
  have hf : 0 ≤ rm_X8_reads.cells ∧ 0 ≤ rm_X8_reads.slots := ⟨Nat.zero_le _, Nat.zero_le _⟩
  unfold wp_X8_reads_430 at h
  refine lv_goto (tgt := 9) hx hb dX8_reads_430 (by decide) ?_
  exact k9 _ _ _ hP hD hS (lv_sub hl [0, 1, 2] rfl) h
set_option maxHeartbeats 4000000 in
set_option maxRecDepth 100000 in
theorem kw_X8_reads_223 {p : Program} {l : Launch} {e : Env} {s : State} {m : MethodId} {args : Array Value} {below : List Frame} {meth : Method} {c : Code} {D : va_G} {ad : Nat → Nat} {cI cJ cR : ClassId} {A : Nat → Prop} {K9 : ms_T → Int32 → Int32 → Prop} {Q : Int32 → ms_T → Prop} {S : ms_T} {v1 : Int32} {v2 : Int32} (fx : xr_Fx p m c meth cX8_reads 5 s args wsX8_reads RX8 (some .int)) (hK : xr_K D (ms_ty cI cJ cR) s) (hA : ∀ q, s.heap.size ≤ q → A q) (k9 : ∀ (S : ms_T) (v1 : Int32) (v2 : Int32) {H : Heap} {locs : List Loc} {ls : Array Slot}, va_P D vwCl (ms_w ad cI cJ S) H → va_D A (ms_w ad cI cJ S) → va_S A s.heap H locs → lv_has ls 5 [(0, .ref (ad 0)), (1, .int v1), (2, .int v2)] → K9 S v1 v2 → W p l e rm_X8_reads s m args below meth c H locs 0 0 (MQ below (va_Qi Q (xr_B D (ms_ty cI cJ cR) (ms_w ad cI cJ) A) A) args s 0 0 A) (F0 m 9 ls [])) {H : Heap} {locs : List Loc} {ls : Array Slot} (hP : va_P D vwCl (ms_w ad cI cJ S) H) (hD : va_D A (ms_w ad cI cJ S)) (hS : va_S A s.heap H locs) (hl : lv_has ls 5 [(0, .ref (ad 0)), (1, .int v1), (2, .int v2)]) (h : wp_X8_reads_223 K9 Q S v1 v2) : W p l e rm_X8_reads s m args below meth c H locs 0 0 (MQ below (va_Qi Q (xr_B D (ms_ty cI cJ cR) (ms_w ad cI cJ) A) A) args s 0 0 A) (F0 m 223 ls []) := by
  obtain ⟨⟨hx, hb, hml, hown, hts⟩, hrt, hlk⟩ := id fx
  have hf : 0 ≤ rm_X8_reads.cells ∧ 0 ≤ rm_X8_reads.slots := ⟨Nat.zero_le _, Nat.zero_le _⟩
  unfold wp_X8_reads_223 at h
  refine lv_goto (tgt := 430) hx hb dX8_reads_223 (by decide) ?_
  exact kw_X8_reads_430 fx hK hA k9 hP hD hS (lv_sub hl [0, 1, 2] rfl) h
set_option maxHeartbeats 4000000 in
set_option maxRecDepth 100000 in
theorem kw_X8_reads_171 {p : Program} {l : Launch} {e : Env} {s : State} {m : MethodId} {args : Array Value} {below : List Frame} {meth : Method} {c : Code} {D : va_G} {ad : Nat → Nat} {cI cJ cR : ClassId} {A : Nat → Prop} {K9 : ms_T → Int32 → Int32 → Prop} {Q : Int32 → ms_T → Prop} {S : ms_T} {v4 : Int32} {s0 : Int32} {s1 : Int32} (fx : xr_Fx p m c meth cX8_reads 5 s args wsX8_reads RX8 (some .int)) (hK : xr_K D (ms_ty cI cJ cR) s) (hA : ∀ q, s.heap.size ≤ q → A q) (k9 : ∀ (S : ms_T) (v1 : Int32) (v2 : Int32) {H : Heap} {locs : List Loc} {ls : Array Slot}, va_P D vwCl (ms_w ad cI cJ S) H → va_D A (ms_w ad cI cJ S) → va_S A s.heap H locs → lv_has ls 5 [(0, .ref (ad 0)), (1, .int v1), (2, .int v2)] → K9 S v1 v2 → W p l e rm_X8_reads s m args below meth c H locs 0 0 (MQ below (va_Qi Q (xr_B D (ms_ty cI cJ cR) (ms_w ad cI cJ) A) A) args s 0 0 A) (F0 m 9 ls [])) {H : Heap} {locs : List Loc} {ls : Array Slot} (hP : va_P D vwCl (ms_w ad cI cJ S) H) (hD : va_D A (ms_w ad cI cJ S)) (hS : va_S A s.heap H locs) (hl : lv_has ls 5 [(0, .ref (ad 0)), (4, .int v4)]) (h : wp_X8_reads_171 K9 Q S v4 s0 s1) : W p l e rm_X8_reads s m args below meth c H locs 0 0 (MQ below (va_Qi Q (xr_B D (ms_ty cI cJ cR) (ms_w ad cI cJ) A) A) args s 0 0 A) (F0 m 171 ls [.int s1, .int s0, .ref (ad 13)]) := by
  obtain ⟨⟨hx, hb, hml, hown, hts⟩, hrt, hlk⟩ := id fx
  have hf : 0 ≤ rm_X8_reads.cells ∧ 0 ≤ rm_X8_reads.slots := ⟨Nat.zero_le _, Nat.zero_le _⟩
  unfold wp_X8_reads_171 at h
  obtain ⟨hi1, h⟩ := h
  refine ms_iast 12 (by decide) fx hK hP hD hS rfl hi1 dX8_reads_171 (fun H locs hP hD hS => ?_)
  refine lv_aload_n hx hb dX8_reads_172 rfl (lv_at hl 0 rfl) ?_
  refine lv_dup hx hb dX8_reads_173 rfl ?_
  refine ms_get 29 (v := .int ((ms_sI S 12 s0.toNatClampNeg s1).1 8)) fx in_X8_reads (by decide) rfl (by decide +kernel) rfl hK hP dX8_reads_174 ?_
  refine lv_iconst (v := 1) hx hb dX8_reads_177 (by decide) ?_
  refine lv_iadd hx hb dX8_reads_178 ?_
  refine ms_put 29 8 (ty := .int) fx in_X8_reads (by decide) ms_f29 (by decide +kernel) rfl rfl (by decide +kernel) rfl rfl hK hP hD hS dX8_reads_179 (fun H locs hP hD hS => ?_)
  refine lv_iconst (v := 0) hx hb dX8_reads_182 (by decide) ?_
  refine lv_istore_n (lv' := [(2, .int 0), (0, .ref (ad 0)), (4, .int v4)]) hx hb dX8_reads_183 rfl hl (by decide) rfl (fun ls hl => ?_)
  refine lv_iload hx hb dX8_reads_184 (lv_at hl 2 rfl) ?_
  refine lv_iconst (v := 1) hx hb dX8_reads_186 (by decide) ?_
  refine lv_iadd hx hb dX8_reads_187 ?_
  refine lv_topi (fun v1_2 ev1_2 => ?_)
  have h := h v1_2 ev1_2
  refine lv_istore_n (lv' := [(1, .int v1_2), (2, .int 0), (0, .ref (ad 0)), (4, .int v4)]) hx hb dX8_reads_188 rfl hl (by decide) rfl (fun ls hl => ?_)
  refine lv_goto (tgt := 223) hx hb dX8_reads_189 (by decide) ?_
  exact kw_X8_reads_223 fx hK hA k9 hP hD hS (lv_sub hl [2, 0, 1] rfl) h
set_option maxHeartbeats 4000000 in
set_option maxRecDepth 100000 in
theorem kw_X8_reads_139 {p : Program} {l : Launch} {e : Env} {s : State} {m : MethodId} {args : Array Value} {below : List Frame} {meth : Method} {c : Code} {D : va_G} {ad : Nat → Nat} {cI cJ cR : ClassId} {A : Nat → Prop} {K9 : ms_T → Int32 → Int32 → Prop} {Q : Int32 → ms_T → Prop} {S : ms_T} {v3 : Int32} {v4 : Int32} (fx : xr_Fx p m c meth cX8_reads 5 s args wsX8_reads RX8 (some .int)) (hK : xr_K D (ms_ty cI cJ cR) s) (hA : ∀ q, s.heap.size ≤ q → A q) (k9 : ∀ (S : ms_T) (v1 : Int32) (v2 : Int32) {H : Heap} {locs : List Loc} {ls : Array Slot}, va_P D vwCl (ms_w ad cI cJ S) H → va_D A (ms_w ad cI cJ S) → va_S A s.heap H locs → lv_has ls 5 [(0, .ref (ad 0)), (1, .int v1), (2, .int v2)] → K9 S v1 v2 → W p l e rm_X8_reads s m args below meth c H locs 0 0 (MQ below (va_Qi Q (xr_B D (ms_ty cI cJ cR) (ms_w ad cI cJ) A) A) args s 0 0 A) (F0 m 9 ls [])) {H : Heap} {locs : List Loc} {ls : Array Slot} (hP : va_P D vwCl (ms_w ad cI cJ S) H) (hD : va_D A (ms_w ad cI cJ S)) (hS : va_S A s.heap H locs) (hl : lv_has ls 5 [(0, .ref (ad 0)), (3, .int v3), (4, .int v4)]) (h : wp_X8_reads_139 K9 Q S v3 v4) : W p l e rm_X8_reads s m args below meth c H locs 0 0 (MQ below (va_Qi Q (xr_B D (ms_ty cI cJ cR) (ms_w ad cI cJ) A) A) args s 0 0 A) (F0 m 139 ls []) := by
  obtain ⟨⟨hx, hb, hml, hown, hts⟩, hrt, hlk⟩ := id fx
  have hf : 0 ≤ rm_X8_reads.cells ∧ 0 ≤ rm_X8_reads.slots := ⟨Nat.zero_le _, Nat.zero_le _⟩
  unfold wp_X8_reads_139 at h
  refine lv_aload_n hx hb dX8_reads_139 rfl (lv_at hl 0 rfl) ?_
  refine ms_get 29 (v := .int (S.1 8)) fx in_X8_reads (by decide) rfl (by decide +kernel) rfl hK hP dX8_reads_140 ?_
  refine lv_iconst (v := 5) hx hb dX8_reads_143 (by decide) ?_
  refine lv_icmp_ne (tgt := 150) hx hb dX8_reads_144 (by decide) (fun c144 => ?_) (fun c144 => ?_)
  · have h := h.1 c144
    refine lv_aload_n hx hb dX8_reads_150 rfl (lv_at hl 0 rfl) ?_
    refine ms_get 28 (v := .ref (ad 13)) fx in_X8_reads (by decide) rfl (by decide +kernel) rfl hK hP dX8_reads_151 ?_
    refine lv_aload_n hx hb dX8_reads_154 rfl (lv_at hl 0 rfl) ?_
    refine ms_get 29 (v := .int (S.1 8)) fx in_X8_reads (by decide) rfl (by decide +kernel) rfl hK hP dX8_reads_155 ?_
    refine lv_iload_n hx hb dX8_reads_158 rfl (lv_at hl 1 rfl) ?_
    refine lv_bipush (v := 91) hx hb dX8_reads_159 (by decide) ?_
    refine lv_icmp_ne (tgt := 169) hx hb dX8_reads_161 (by decide) (fun c161 => ?_) (fun c161 => ?_)
    · have h := h.1 c161
      refine lv_bipush (v := 40) hx hb dX8_reads_169 (by decide) ?_
      exact kw_X8_reads_171 fx hK hA k9 hP hD hS (lv_sub hl [0, 2] rfl) h
    · have h := h.2 c161
      refine lv_bipush (v := 91) hx hb dX8_reads_164 (by decide) ?_
      refine lv_goto (tgt := 171) hx hb dX8_reads_166 (by decide) ?_
      exact kw_X8_reads_171 fx hK hA k9 hP hD hS (lv_sub hl [0, 2] rfl) h
  · have h := h.2 c144
    refine lv_iload hx hb dX8_reads_147 (lv_at hl 2 rfl) ?_
    exact xr_rI fx hK hP hD hS h dX8_reads_149
set_option maxHeartbeats 4000000 in
set_option maxRecDepth 100000 in
theorem kw_X8_reads_221 {p : Program} {l : Launch} {e : Env} {s : State} {m : MethodId} {args : Array Value} {below : List Frame} {meth : Method} {c : Code} {D : va_G} {ad : Nat → Nat} {cI cJ cR : ClassId} {A : Nat → Prop} {K9 : ms_T → Int32 → Int32 → Prop} {Q : Int32 → ms_T → Prop} {S : ms_T} {v2 : Int32} {s0 : Int32} {s1 : Int32} (fx : xr_Fx p m c meth cX8_reads 5 s args wsX8_reads RX8 (some .int)) (hK : xr_K D (ms_ty cI cJ cR) s) (hA : ∀ q, s.heap.size ≤ q → A q) (k9 : ∀ (S : ms_T) (v1 : Int32) (v2 : Int32) {H : Heap} {locs : List Loc} {ls : Array Slot}, va_P D vwCl (ms_w ad cI cJ S) H → va_D A (ms_w ad cI cJ S) → va_S A s.heap H locs → lv_has ls 5 [(0, .ref (ad 0)), (1, .int v1), (2, .int v2)] → K9 S v1 v2 → W p l e rm_X8_reads s m args below meth c H locs 0 0 (MQ below (va_Qi Q (xr_B D (ms_ty cI cJ cR) (ms_w ad cI cJ) A) A) args s 0 0 A) (F0 m 9 ls [])) {H : Heap} {locs : List Loc} {ls : Array Slot} (hP : va_P D vwCl (ms_w ad cI cJ S) H) (hD : va_D A (ms_w ad cI cJ S)) (hS : va_S A s.heap H locs) (hl : lv_has ls 5 [(0, .ref (ad 0)), (2, .int v2)]) (h : wp_X8_reads_221 K9 Q S v2 s0 s1) : W p l e rm_X8_reads s m args below meth c H locs 0 0 (MQ below (va_Qi Q (xr_B D (ms_ty cI cJ cR) (ms_w ad cI cJ) A) A) args s 0 0 A) (F0 m 221 ls [.int s1, .int s0]) := by
  obtain ⟨⟨hx, hb, hml, hown, hts⟩, hrt, hlk⟩ := id fx
  have hf : 0 ≤ rm_X8_reads.cells ∧ 0 ≤ rm_X8_reads.slots := ⟨Nat.zero_le _, Nat.zero_le _⟩
  unfold wp_X8_reads_221 at h
  refine lv_iadd hx hb dX8_reads_221 ?_
  refine lv_topi (fun v1_3 ev1_3 => ?_)
  have h := h v1_3 ev1_3
  refine lv_istore_n (lv' := [(1, .int v1_3), (0, .ref (ad 0)), (2, .int v2)]) hx hb dX8_reads_222 rfl hl (by decide) rfl (fun ls hl => ?_)
  exact kw_X8_reads_223 fx hK hA k9 hP hD hS (lv_sub hl [1, 0, 2] rfl) h
set_option maxHeartbeats 4000000 in
set_option maxRecDepth 100000 in
theorem kw_X8_reads_113 {p : Program} {l : Launch} {e : Env} {s : State} {m : MethodId} {args : Array Value} {below : List Frame} {meth : Method} {c : Code} {D : va_G} {ad : Nat → Nat} {cI cJ cR : ClassId} {A : Nat → Prop} {K9 : ms_T → Int32 → Int32 → Prop} {Q : Int32 → ms_T → Prop} {S : ms_T} {v1 : Int32} {v3 : Int32} {s0 : Int32} (fx : xr_Fx p m c meth cX8_reads 5 s args wsX8_reads RX8 (some .int)) (hK : xr_K D (ms_ty cI cJ cR) s) (hA : ∀ q, s.heap.size ≤ q → A q) (k9 : ∀ (S : ms_T) (v1 : Int32) (v2 : Int32) {H : Heap} {locs : List Loc} {ls : Array Slot}, va_P D vwCl (ms_w ad cI cJ S) H → va_D A (ms_w ad cI cJ S) → va_S A s.heap H locs → lv_has ls 5 [(0, .ref (ad 0)), (1, .int v1), (2, .int v2)] → K9 S v1 v2 → W p l e rm_X8_reads s m args below meth c H locs 0 0 (MQ below (va_Qi Q (xr_B D (ms_ty cI cJ cR) (ms_w ad cI cJ) A) A) args s 0 0 A) (F0 m 9 ls [])) {H : Heap} {locs : List Loc} {ls : Array Slot} (hP : va_P D vwCl (ms_w ad cI cJ S) H) (hD : va_D A (ms_w ad cI cJ S)) (hS : va_S A s.heap H locs) (hl : lv_has ls 5 [(0, .ref (ad 0)), (1, .int v1), (3, .int v3)]) (h : wp_X8_reads_113 K9 Q S v1 v3 s0) : W p l e rm_X8_reads s m args below meth c H locs 0 0 (MQ below (va_Qi Q (xr_B D (ms_ty cI cJ cR) (ms_w ad cI cJ) A) A) args s 0 0 A) (F0 m 113 ls [.int s0]) := by
  obtain ⟨⟨hx, hb, hml, hown, hts⟩, hrt, hlk⟩ := id fx
  have hf : 0 ≤ rm_X8_reads.cells ∧ 0 ≤ rm_X8_reads.slots := ⟨Nat.zero_le _, Nat.zero_le _⟩
  unfold wp_X8_reads_113 at h
  refine lv_istore (lv' := [(4, .int s0), (0, .ref (ad 0)), (1, .int v1), (3, .int v3)]) hx hb dX8_reads_113 hl (by decide) rfl (fun ls hl => ?_)
  refine lv_iload_n hx hb dX8_reads_115 rfl (lv_at hl 3 rfl) ?_
  refine lv_bipush (v := 91) hx hb dX8_reads_116 (by decide) ?_
  refine lv_icmp_eq (tgt := 139) hx hb dX8_reads_118 (by decide) (fun c118 => ?_) (fun c118 => ?_)
  · have h := h.1 c118
    exact kw_X8_reads_139 fx hK hA k9 hP hD hS (lv_sub hl [1, 3, 0] rfl) h
  · have h := h.2 c118
    refine lv_iload_n hx hb dX8_reads_121 rfl (lv_at hl 3 rfl) ?_
    refine lv_bipush (v := 40) hx hb dX8_reads_122 (by decide) ?_
    refine lv_icmp_eq (tgt := 139) hx hb dX8_reads_124 (by decide) (fun c124 => ?_) (fun c124 => ?_)
    · have h := h.1 c124
      exact kw_X8_reads_139 fx hK hA k9 hP hD hS (lv_sub hl [1, 3, 0] rfl) h
    · have h := h.2 c124
      refine lv_iload_n hx hb dX8_reads_127 rfl (lv_at hl 3 rfl) ?_
      refine lv_bipush (v := 69) hx hb dX8_reads_128 (by decide) ?_
      refine lv_icmp_eq (tgt := 139) hx hb dX8_reads_130 (by decide) (fun c130 => ?_) (fun c130 => ?_)
      · have h := h.1 c130
        exact kw_X8_reads_139 fx hK hA k9 hP hD hS (lv_sub hl [1, 3, 0] rfl) h
      · have h := h.2 c130
        refine lv_iload_n hx hb dX8_reads_133 rfl (lv_at hl 3 rfl) ?_
        refine lv_bipush (v := 76) hx hb dX8_reads_134 (by decide) ?_
        refine lv_icmp_ne (tgt := 192) hx hb dX8_reads_136 (by decide) (fun c136 => ?_) (fun c136 => ?_)
        · have h := h.1 c136
          refine lv_iconst (v := 1) hx hb dX8_reads_192 (by decide) ?_
          refine lv_istore_n (lv' := [(2, .int 1), (4, .int s0), (0, .ref (ad 0)), (1, .int v1), (3, .int v3)]) hx hb dX8_reads_193 rfl hl (by decide) rfl (fun ls hl => ?_)
          refine lv_iload_n hx hb dX8_reads_194 rfl (lv_at hl 3 rfl) ?_
          refine lv_iload_n hx hb dX8_reads_195 rfl (lv_at hl 4 rfl) ?_
          refine lv_bipush (v := 114) hx hb dX8_reads_196 (by decide) ?_
          refine lv_icmp_ne (tgt := 205) hx hb dX8_reads_198 (by decide) (fun c198 => ?_) (fun c198 => ?_)
          · have h := h.1 c198
            refine lv_iload_n hx hb dX8_reads_205 rfl (lv_at hl 4 rfl) ?_
            refine xr_sI (n := 1) (As := [.int v3]) (rest := [.int v1]) fx (ct_X8_isDigit l h) gX8_reads_X8_isDigit rfl rfl (by decide +kernel) ⟨Nat.le_of_ble_eq_true rfl, Nat.le_of_ble_eq_true rfl⟩ ⟨rfl, rfl⟩ hf hl.1 rfl (Nat.le_of_ble_eq_true rfl) dX8_reads_206 (fun r4 h => ?_)
            refine lv_if_eq (tgt := 220) hx hb dX8_reads_209 (by decide) (fun c209 => ?_) (fun c209 => ?_)
            · have h := h.1 c209
              refine lv_iconst (v := 1) hx hb dX8_reads_220 (by decide) ?_
              exact kw_X8_reads_221 fx hK hA k9 hP hD hS (lv_sub hl [2, 0] rfl) h
            · have h := h.2 c209
              refine lv_aload_n hx hb dX8_reads_212 rfl (lv_at hl 2 rfl) ?_
              refine lv_iload_n hx hb dX8_reads_213 rfl (lv_at hl 3 rfl) ?_
              refine xr_vI (n := 1) (As := [.int v1]) (rest := [.int v1]) fx (ct_X8_digitsFrom l D ad cI cJ cR h) gX8_reads_X8_digitsFrom rfl rfl (by decide +kernel) ⟨Nat.le_of_ble_eq_true rfl, Nat.le_of_ble_eq_true rfl⟩ ⟨rfl, rfl⟩ hf (ms_recv hK hP) hK hP hD hS hA hl.1 rfl (Nat.le_of_ble_eq_true rfl) dX8_reads_214 (fun r6 S5 H locs h hP hD hS => ?_)
              refine lv_goto (tgt := 221) hx hb dX8_reads_217 (by decide) ?_
              exact kw_X8_reads_221 fx hK hA k9 hP hD hS (lv_sub hl [2, 0] rfl) h
          · have h := h.2 c198
            refine lv_iconst (v := 2) hx hb dX8_reads_201 (by decide) ?_
            refine lv_goto (tgt := 221) hx hb dX8_reads_202 (by decide) ?_
            exact kw_X8_reads_221 fx hK hA k9 hP hD hS (lv_sub hl [2, 0] rfl) h
        · have h := h.2 c136
          exact kw_X8_reads_139 fx hK hA k9 hP hD hS (lv_sub hl [1, 3, 0] rfl) h
set_option maxHeartbeats 4000000 in
set_option maxRecDepth 100000 in
theorem kw_X8_reads_106 {p : Program} {l : Launch} {e : Env} {s : State} {m : MethodId} {args : Array Value} {below : List Frame} {meth : Method} {c : Code} {D : va_G} {ad : Nat → Nat} {cI cJ cR : ClassId} {A : Nat → Prop} {K9 : ms_T → Int32 → Int32 → Prop} {Q : Int32 → ms_T → Prop} {S : ms_T} {v1 : Int32} {v3 : Int32} (fx : xr_Fx p m c meth cX8_reads 5 s args wsX8_reads RX8 (some .int)) (hK : xr_K D (ms_ty cI cJ cR) s) (hA : ∀ q, s.heap.size ≤ q → A q) (k9 : ∀ (S : ms_T) (v1 : Int32) (v2 : Int32) {H : Heap} {locs : List Loc} {ls : Array Slot}, va_P D vwCl (ms_w ad cI cJ S) H → va_D A (ms_w ad cI cJ S) → va_S A s.heap H locs → lv_has ls 5 [(0, .ref (ad 0)), (1, .int v1), (2, .int v2)] → K9 S v1 v2 → W p l e rm_X8_reads s m args below meth c H locs 0 0 (MQ below (va_Qi Q (xr_B D (ms_ty cI cJ cR) (ms_w ad cI cJ) A) A) args s 0 0 A) (F0 m 9 ls [])) {H : Heap} {locs : List Loc} {ls : Array Slot} (hP : va_P D vwCl (ms_w ad cI cJ S) H) (hD : va_D A (ms_w ad cI cJ S)) (hS : va_S A s.heap H locs) (hl : lv_has ls 5 [(0, .ref (ad 0)), (1, .int v1), (3, .int v3)]) (h : wp_X8_reads_106 K9 Q S v1 v3) : W p l e rm_X8_reads s m args below meth c H locs 0 0 (MQ below (va_Qi Q (xr_B D (ms_ty cI cJ cR) (ms_w ad cI cJ) A) A) args s 0 0 A) (F0 m 106 ls []) := by
  obtain ⟨⟨hx, hb, hml, hown, hts⟩, hrt, hlk⟩ := id fx
  have hf : 0 ≤ rm_X8_reads.cells ∧ 0 ≤ rm_X8_reads.slots := ⟨Nat.zero_le _, Nat.zero_le _⟩
  unfold wp_X8_reads_106 at h
  refine lv_iload_n hx hb dX8_reads_106 rfl (lv_at hl 1 rfl) ?_
  refine lv_iconst (v := 1) hx hb dX8_reads_107 (by decide) ?_
  refine lv_iadd hx hb dX8_reads_108 ?_
  refine lv_goto (tgt := 113) hx hb dX8_reads_109 (by decide) ?_
  exact kw_X8_reads_113 fx hK hA k9 hP hD hS (lv_sub hl [0, 1, 2] rfl) h
set_option maxHeartbeats 4000000 in
set_option maxRecDepth 100000 in
theorem kw_X8_reads_94 {p : Program} {l : Launch} {e : Env} {s : State} {m : MethodId} {args : Array Value} {below : List Frame} {meth : Method} {c : Code} {D : va_G} {ad : Nat → Nat} {cI cJ cR : ClassId} {A : Nat → Prop} {K9 : ms_T → Int32 → Int32 → Prop} {Q : Int32 → ms_T → Prop} {S : ms_T} {v1 : Int32} {v3 : Int32} (fx : xr_Fx p m c meth cX8_reads 5 s args wsX8_reads RX8 (some .int)) (hK : xr_K D (ms_ty cI cJ cR) s) (hA : ∀ q, s.heap.size ≤ q → A q) (k9 : ∀ (S : ms_T) (v1 : Int32) (v2 : Int32) {H : Heap} {locs : List Loc} {ls : Array Slot}, va_P D vwCl (ms_w ad cI cJ S) H → va_D A (ms_w ad cI cJ S) → va_S A s.heap H locs → lv_has ls 5 [(0, .ref (ad 0)), (1, .int v1), (2, .int v2)] → K9 S v1 v2 → W p l e rm_X8_reads s m args below meth c H locs 0 0 (MQ below (va_Qi Q (xr_B D (ms_ty cI cJ cR) (ms_w ad cI cJ) A) A) args s 0 0 A) (F0 m 9 ls [])) {H : Heap} {locs : List Loc} {ls : Array Slot} (hP : va_P D vwCl (ms_w ad cI cJ S) H) (hD : va_D A (ms_w ad cI cJ S)) (hS : va_S A s.heap H locs) (hl : lv_has ls 5 [(0, .ref (ad 0)), (1, .int v1), (3, .int v3)]) (h : wp_X8_reads_94 K9 Q S v1 v3) : W p l e rm_X8_reads s m args below meth c H locs 0 0 (MQ below (va_Qi Q (xr_B D (ms_ty cI cJ cR) (ms_w ad cI cJ) A) A) args s 0 0 A) (F0 m 94 ls []) := by
  obtain ⟨⟨hx, hb, hml, hown, hts⟩, hrt, hlk⟩ := id fx
  have hf : 0 ≤ rm_X8_reads.cells ∧ 0 ≤ rm_X8_reads.slots := ⟨Nat.zero_le _, Nat.zero_le _⟩
  unfold wp_X8_reads_94 at h
  refine lv_iload_n hx hb dX8_reads_94 rfl (lv_at hl 2 rfl) ?_
  refine lv_bipush (v := 69) hx hb dX8_reads_95 (by decide) ?_
  refine lv_icmp_eq (tgt := 106) hx hb dX8_reads_97 (by decide) (fun c97 => ?_) (fun c97 => ?_)
  · have h := h.1 c97
    exact kw_X8_reads_106 fx hK hA k9 hP hD hS (lv_sub hl [0, 1, 2] rfl) h
  · have h := h.2 c97
    refine lv_iload_n hx hb dX8_reads_100 rfl (lv_at hl 2 rfl) ?_
    refine lv_bipush (v := 76) hx hb dX8_reads_101 (by decide) ?_
    refine lv_icmp_ne (tgt := 112) hx hb dX8_reads_103 (by decide) (fun c103 => ?_) (fun c103 => ?_)
    · have h := h.1 c103
      refine lv_iload_n hx hb dX8_reads_112 rfl (lv_at hl 1 rfl) ?_
      exact kw_X8_reads_113 fx hK hA k9 hP hD hS (lv_sub hl [0, 1, 2] rfl) h
    · have h := h.2 c103
      exact kw_X8_reads_106 fx hK hA k9 hP hD hS (lv_sub hl [0, 1, 2] rfl) h
set_option maxHeartbeats 4000000 in
set_option maxRecDepth 100000 in
theorem kw_X8_reads_78 {p : Program} {l : Launch} {e : Env} {s : State} {m : MethodId} {args : Array Value} {below : List Frame} {meth : Method} {c : Code} {D : va_G} {ad : Nat → Nat} {cI cJ cR : ClassId} {A : Nat → Prop} {K9 : ms_T → Int32 → Int32 → Prop} {Q : Int32 → ms_T → Prop} {S : ms_T} {v1 : Int32} {v3 : Int32} (fx : xr_Fx p m c meth cX8_reads 5 s args wsX8_reads RX8 (some .int)) (hK : xr_K D (ms_ty cI cJ cR) s) (hA : ∀ q, s.heap.size ≤ q → A q) (k9 : ∀ (S : ms_T) (v1 : Int32) (v2 : Int32) {H : Heap} {locs : List Loc} {ls : Array Slot}, va_P D vwCl (ms_w ad cI cJ S) H → va_D A (ms_w ad cI cJ S) → va_S A s.heap H locs → lv_has ls 5 [(0, .ref (ad 0)), (1, .int v1), (2, .int v2)] → K9 S v1 v2 → W p l e rm_X8_reads s m args below meth c H locs 0 0 (MQ below (va_Qi Q (xr_B D (ms_ty cI cJ cR) (ms_w ad cI cJ) A) A) args s 0 0 A) (F0 m 9 ls [])) {H : Heap} {locs : List Loc} {ls : Array Slot} (hP : va_P D vwCl (ms_w ad cI cJ S) H) (hD : va_D A (ms_w ad cI cJ S)) (hS : va_S A s.heap H locs) (hl : lv_has ls 5 [(0, .ref (ad 0)), (1, .int v1), (3, .int v3)]) (h : wp_X8_reads_78 K9 Q S v1 v3) : W p l e rm_X8_reads s m args below meth c H locs 0 0 (MQ below (va_Qi Q (xr_B D (ms_ty cI cJ cR) (ms_w ad cI cJ) A) A) args s 0 0 A) (F0 m 78 ls []) := by
  obtain ⟨⟨hx, hb, hml, hown, hts⟩, hrt, hlk⟩ := id fx
  have hf : 0 ≤ rm_X8_reads.cells ∧ 0 ≤ rm_X8_reads.slots := ⟨Nat.zero_le _, Nat.zero_le _⟩
  unfold wp_X8_reads_78 at h
  refine lv_aload_n hx hb dX8_reads_78 rfl (lv_at hl 0 rfl) ?_
  refine lv_iload_n hx hb dX8_reads_79 rfl (lv_at hl 1 rfl) ?_
  refine lv_iconst (v := 1) hx hb dX8_reads_80 (by decide) ?_
  refine lv_iadd hx hb dX8_reads_81 ?_
  refine xr_vI (n := 1) (As := [.int (v1 + 1)]) (rest := []) fx (ct_X8_byteAt l D ad cI cJ cR h) gX8_reads_X8_byteAt rfl rfl (by decide +kernel) ⟨Nat.le_of_ble_eq_true rfl, Nat.le_of_ble_eq_true rfl⟩ ⟨rfl, rfl⟩ hf (ms_recv hK hP) hK hP hD hS hA hl.1 rfl (Nat.le_of_ble_eq_true rfl) dX8_reads_82 (fun r8 S7 H locs h hP hD hS => ?_)
  refine lv_bipush (v := 40) hx hb dX8_reads_85 (by decide) ?_
  refine lv_icmp_eq (tgt := 94) hx hb dX8_reads_87 (by decide) (fun c87 => ?_) (fun c87 => ?_)
  · have h := h.1 c87
    exact kw_X8_reads_94 fx hK hA k9 hP hD hS (lv_sub hl [0, 1, 2] rfl) h
  · have h := h.2 c87
    refine lv_iload_n hx hb dX8_reads_90 rfl (lv_at hl 1 rfl) ?_
    refine lv_iconst (v := 1) hx hb dX8_reads_91 (by decide) ?_
    refine lv_iadd hx hb dX8_reads_92 ?_
    exact xr_rI fx hK hP hD hS h dX8_reads_93
set_option maxHeartbeats 4000000 in
set_option maxRecDepth 100000 in
theorem kw_X8_reads_66 {p : Program} {l : Launch} {e : Env} {s : State} {m : MethodId} {args : Array Value} {below : List Frame} {meth : Method} {c : Code} {D : va_G} {ad : Nat → Nat} {cI cJ cR : ClassId} {A : Nat → Prop} {K9 : ms_T → Int32 → Int32 → Prop} {Q : Int32 → ms_T → Prop} {S : ms_T} {v1 : Int32} {v3 : Int32} (fx : xr_Fx p m c meth cX8_reads 5 s args wsX8_reads RX8 (some .int)) (hK : xr_K D (ms_ty cI cJ cR) s) (hA : ∀ q, s.heap.size ≤ q → A q) (k9 : ∀ (S : ms_T) (v1 : Int32) (v2 : Int32) {H : Heap} {locs : List Loc} {ls : Array Slot}, va_P D vwCl (ms_w ad cI cJ S) H → va_D A (ms_w ad cI cJ S) → va_S A s.heap H locs → lv_has ls 5 [(0, .ref (ad 0)), (1, .int v1), (2, .int v2)] → K9 S v1 v2 → W p l e rm_X8_reads s m args below meth c H locs 0 0 (MQ below (va_Qi Q (xr_B D (ms_ty cI cJ cR) (ms_w ad cI cJ) A) A) args s 0 0 A) (F0 m 9 ls [])) {H : Heap} {locs : List Loc} {ls : Array Slot} (hP : va_P D vwCl (ms_w ad cI cJ S) H) (hD : va_D A (ms_w ad cI cJ S)) (hS : va_S A s.heap H locs) (hl : lv_has ls 5 [(0, .ref (ad 0)), (1, .int v1), (3, .int v3)]) (h : wp_X8_reads_66 K9 Q S v1 v3) : W p l e rm_X8_reads s m args below meth c H locs 0 0 (MQ below (va_Qi Q (xr_B D (ms_ty cI cJ cR) (ms_w ad cI cJ) A) A) args s 0 0 A) (F0 m 66 ls []) := by
  obtain ⟨⟨hx, hb, hml, hown, hts⟩, hrt, hlk⟩ := id fx
  have hf : 0 ≤ rm_X8_reads.cells ∧ 0 ≤ rm_X8_reads.slots := ⟨Nat.zero_le _, Nat.zero_le _⟩
  unfold wp_X8_reads_66 at h
  refine lv_iload_n hx hb dX8_reads_66 rfl (lv_at hl 2 rfl) ?_
  refine lv_bipush (v := 69) hx hb dX8_reads_67 (by decide) ?_
  refine lv_icmp_eq (tgt := 78) hx hb dX8_reads_69 (by decide) (fun c69 => ?_) (fun c69 => ?_)
  · have h := h.1 c69
    exact kw_X8_reads_78 fx hK hA k9 hP hD hS (lv_sub hl [0, 1, 2] rfl) h
  · have h := h.2 c69
    refine lv_iload_n hx hb dX8_reads_72 rfl (lv_at hl 2 rfl) ?_
    refine lv_bipush (v := 76) hx hb dX8_reads_73 (by decide) ?_
    refine lv_icmp_ne (tgt := 94) hx hb dX8_reads_75 (by decide) (fun c75 => ?_) (fun c75 => ?_)
    · have h := h.1 c75
      exact kw_X8_reads_94 fx hK hA k9 hP hD hS (lv_sub hl [0, 1, 2] rfl) h
    · have h := h.2 c75
      exact kw_X8_reads_78 fx hK hA k9 hP hD hS (lv_sub hl [0, 1, 2] rfl) h
set_option maxHeartbeats 4000000 in
set_option maxRecDepth 100000 in
theorem kw_X8_reads_266 {p : Program} {l : Launch} {e : Env} {s : State} {m : MethodId} {args : Array Value} {below : List Frame} {meth : Method} {c : Code} {D : va_G} {ad : Nat → Nat} {cI cJ cR : ClassId} {A : Nat → Prop} {K9 : ms_T → Int32 → Int32 → Prop} {Q : Int32 → ms_T → Prop} {S : ms_T} {v1 : Int32} {s0 : Int32} (fx : xr_Fx p m c meth cX8_reads 5 s args wsX8_reads RX8 (some .int)) (hK : xr_K D (ms_ty cI cJ cR) s) (hA : ∀ q, s.heap.size ≤ q → A q) (k9 : ∀ (S : ms_T) (v1 : Int32) (v2 : Int32) {H : Heap} {locs : List Loc} {ls : Array Slot}, va_P D vwCl (ms_w ad cI cJ S) H → va_D A (ms_w ad cI cJ S) → va_S A s.heap H locs → lv_has ls 5 [(0, .ref (ad 0)), (1, .int v1), (2, .int v2)] → K9 S v1 v2 → W p l e rm_X8_reads s m args below meth c H locs 0 0 (MQ below (va_Qi Q (xr_B D (ms_ty cI cJ cR) (ms_w ad cI cJ) A) A) args s 0 0 A) (F0 m 9 ls [])) {H : Heap} {locs : List Loc} {ls : Array Slot} (hP : va_P D vwCl (ms_w ad cI cJ S) H) (hD : va_D A (ms_w ad cI cJ S)) (hS : va_S A s.heap H locs) (hl : lv_has ls 5 [(0, .ref (ad 0)), (1, .int v1)]) (h : wp_X8_reads_266 K9 Q S v1 s0) : W p l e rm_X8_reads s m args below meth c H locs 0 0 (MQ below (va_Qi Q (xr_B D (ms_ty cI cJ cR) (ms_w ad cI cJ) A) A) args s 0 0 A) (F0 m 266 ls [.int s0]) := by
  obtain ⟨⟨hx, hb, hml, hown, hts⟩, hrt, hlk⟩ := id fx
  have hf : 0 ≤ rm_X8_reads.cells ∧ 0 ≤ rm_X8_reads.slots := ⟨Nat.zero_le _, Nat.zero_le _⟩
  unfold wp_X8_reads_266 at h
  refine lv_istore (lv' := [(4, .int s0), (0, .ref (ad 0)), (1, .int v1)]) hx hb dX8_reads_266 hl (by decide) rfl (fun ls hl => ?_)
  refine lv_iload hx hb dX8_reads_268 (lv_at hl 0 rfl) ?_
  refine lv_if_ne (tgt := 277) hx hb dX8_reads_270 (by decide) (fun c270 => ?_) (fun c270 => ?_)
  · have h := h.1 c270
    refine lv_iconst (v := 2) hx hb dX8_reads_277 (by decide) ?_
    refine lv_istore_n (lv' := [(2, .int 2), (4, .int s0), (0, .ref (ad 0)), (1, .int v1)]) hx hb dX8_reads_278 rfl hl (by decide) rfl (fun ls hl => ?_)
    refine lv_iload_n hx hb dX8_reads_279 rfl (lv_at hl 3 rfl) ?_
    refine lv_iconst (v := 1) hx hb dX8_reads_280 (by decide) ?_
    refine lv_iload hx hb dX8_reads_281 (lv_at hl 1 rfl) ?_
    refine lv_iadd hx hb dX8_reads_283 ?_
    refine lv_iadd hx hb dX8_reads_284 ?_
    refine lv_topi (fun v1_9 ev1_9 => ?_)
    have h := h v1_9 ev1_9
    refine lv_istore_n (lv' := [(1, .int v1_9), (2, .int 2), (4, .int s0), (0, .ref (ad 0))]) hx hb dX8_reads_285 rfl hl (by decide) rfl (fun ls hl => ?_)
    refine lv_goto (tgt := 430) hx hb dX8_reads_286 (by decide) ?_
    exact kw_X8_reads_430 fx hK hA k9 hP hD hS (lv_sub hl [3, 0, 1] rfl) h
  · have h := h.2 c270
    refine lv_iload_n hx hb dX8_reads_273 rfl (lv_at hl 2 rfl) ?_
    refine lv_iconst (v := 1) hx hb dX8_reads_274 (by decide) ?_
    refine lv_iadd hx hb dX8_reads_275 ?_
    exact xr_rI fx hK hP hD hS h dX8_reads_276
set_option maxHeartbeats 4000000 in
set_option maxRecDepth 100000 in
theorem kw_X8_reads_301 {p : Program} {l : Launch} {e : Env} {s : State} {m : MethodId} {args : Array Value} {below : List Frame} {meth : Method} {c : Code} {D : va_G} {ad : Nat → Nat} {cI cJ cR : ClassId} {A : Nat → Prop} {K9 : ms_T → Int32 → Int32 → Prop} {Q : Int32 → ms_T → Prop} {S : ms_T} {v1 : Int32} (fx : xr_Fx p m c meth cX8_reads 5 s args wsX8_reads RX8 (some .int)) (hK : xr_K D (ms_ty cI cJ cR) s) (hA : ∀ q, s.heap.size ≤ q → A q) (k9 : ∀ (S : ms_T) (v1 : Int32) (v2 : Int32) {H : Heap} {locs : List Loc} {ls : Array Slot}, va_P D vwCl (ms_w ad cI cJ S) H → va_D A (ms_w ad cI cJ S) → va_S A s.heap H locs → lv_has ls 5 [(0, .ref (ad 0)), (1, .int v1), (2, .int v2)] → K9 S v1 v2 → W p l e rm_X8_reads s m args below meth c H locs 0 0 (MQ below (va_Qi Q (xr_B D (ms_ty cI cJ cR) (ms_w ad cI cJ) A) A) args s 0 0 A) (F0 m 9 ls [])) {H : Heap} {locs : List Loc} {ls : Array Slot} (hP : va_P D vwCl (ms_w ad cI cJ S) H) (hD : va_D A (ms_w ad cI cJ S)) (hS : va_S A s.heap H locs) (hl : lv_has ls 5 [(0, .ref (ad 0)), (1, .int v1)]) (h : wp_X8_reads_301 K9 Q S v1) : W p l e rm_X8_reads s m args below meth c H locs 0 0 (MQ below (va_Qi Q (xr_B D (ms_ty cI cJ cR) (ms_w ad cI cJ) A) A) args s 0 0 A) (F0 m 301 ls []) := by
  obtain ⟨⟨hx, hb, hml, hown, hts⟩, hrt, hlk⟩ := id fx
  have hf : 0 ≤ rm_X8_reads.cells ∧ 0 ≤ rm_X8_reads.slots := ⟨Nat.zero_le _, Nat.zero_le _⟩
  unfold wp_X8_reads_301 at h
  refine lv_iconst (v := 0) hx hb dX8_reads_301 (by decide) ?_
  refine lv_istore_n (lv' := [(2, .int 0), (0, .ref (ad 0)), (1, .int v1)]) hx hb dX8_reads_302 rfl hl (by decide) rfl (fun ls hl => ?_)
  obtain ⟨v1_10, ev1_10⟩ : ∃ z : Int32, z = v1 + 1 := ⟨_, rfl⟩
  have h := h v1_10 ev1_10
  refine lv_iinc (v := v1_10) (lv' := [(1, .int v1_10), (2, .int 0), (0, .ref (ad 0))]) hx hb dX8_reads_303 hl (k := 2) rfl (by rw [ev1_10]; rfl) (by decide) rfl (fun ls hl => ?_)
  refine lv_goto (tgt := 430) hx hb dX8_reads_306 (by decide) ?_
  exact kw_X8_reads_430 fx hK hA k9 hP hD hS (lv_sub hl [2, 0, 1] rfl) h
set_option maxHeartbeats 4000000 in
set_option maxRecDepth 100000 in
theorem kw_X8_reads_410 {p : Program} {l : Launch} {e : Env} {s : State} {m : MethodId} {args : Array Value} {below : List Frame} {meth : Method} {c : Code} {D : va_G} {ad : Nat → Nat} {cI cJ cR : ClassId} {A : Nat → Prop} {K9 : ms_T → Int32 → Int32 → Prop} {Q : Int32 → ms_T → Prop} {S : ms_T} {v1 : Int32} (fx : xr_Fx p m c meth cX8_reads 5 s args wsX8_reads RX8 (some .int)) (hK : xr_K D (ms_ty cI cJ cR) s) (hA : ∀ q, s.heap.size ≤ q → A q) (k9 : ∀ (S : ms_T) (v1 : Int32) (v2 : Int32) {H : Heap} {locs : List Loc} {ls : Array Slot}, va_P D vwCl (ms_w ad cI cJ S) H → va_D A (ms_w ad cI cJ S) → va_S A s.heap H locs → lv_has ls 5 [(0, .ref (ad 0)), (1, .int v1), (2, .int v2)] → K9 S v1 v2 → W p l e rm_X8_reads s m args below meth c H locs 0 0 (MQ below (va_Qi Q (xr_B D (ms_ty cI cJ cR) (ms_w ad cI cJ) A) A) args s 0 0 A) (F0 m 9 ls [])) {H : Heap} {locs : List Loc} {ls : Array Slot} (hP : va_P D vwCl (ms_w ad cI cJ S) H) (hD : va_D A (ms_w ad cI cJ S)) (hS : va_S A s.heap H locs) (hl : lv_has ls 5 [(0, .ref (ad 0)), (1, .int v1)]) (h : wp_X8_reads_410 K9 Q S v1) : W p l e rm_X8_reads s m args below meth c H locs 0 0 (MQ below (va_Qi Q (xr_B D (ms_ty cI cJ cR) (ms_w ad cI cJ) A) A) args s 0 0 A) (F0 m 410 ls []) := by
  obtain ⟨⟨hx, hb, hml, hown, hts⟩, hrt, hlk⟩ := id fx
  have hf : 0 ≤ rm_X8_reads.cells ∧ 0 ≤ rm_X8_reads.slots := ⟨Nat.zero_le _, Nat.zero_le _⟩
  unfold wp_X8_reads_410 at h
  refine lv_aload_n hx hb dX8_reads_410 rfl (lv_at hl 0 rfl) ?_
  refine lv_dup hx hb dX8_reads_411 rfl ?_
  refine ms_get 29 (v := .int (S.1 8)) fx in_X8_reads (by decide) rfl (by decide +kernel) rfl hK hP dX8_reads_412 ?_
  refine lv_iconst (v := 1) hx hb dX8_reads_415 (by decide) ?_
  refine lv_isub hx hb dX8_reads_416 ?_
  refine ms_put 29 8 (ty := .int) fx in_X8_reads (by decide) ms_f29 (by decide +kernel) rfl rfl (by decide +kernel) rfl rfl hK hP hD hS dX8_reads_417 (fun H locs hP hD hS => ?_)
  refine lv_iconst (v := 1) hx hb dX8_reads_420 (by decide) ?_
  refine lv_istore_n (lv' := [(2, .int 1), (0, .ref (ad 0)), (1, .int v1)]) hx hb dX8_reads_421 rfl hl (by decide) rfl (fun ls hl => ?_)
  obtain ⟨v1_11, ev1_11⟩ : ∃ z : Int32, z = v1 + 1 := ⟨_, rfl⟩
  have h := h v1_11 ev1_11
  refine lv_iinc (v := v1_11) (lv' := [(1, .int v1_11), (2, .int 1), (0, .ref (ad 0))]) hx hb dX8_reads_422 hl (k := 2) rfl (by rw [ev1_11]; rfl) (by decide) rfl (fun ls hl => ?_)
  refine lv_goto (tgt := 430) hx hb dX8_reads_425 (by decide) ?_
  exact kw_X8_reads_430 fx hK hA k9 hP hD hS (lv_sub hl [2, 0, 1] rfl) h
set_option maxHeartbeats 4000000 in
set_option maxRecDepth 100000 in
theorem kw_X8_reads_388 {p : Program} {l : Launch} {e : Env} {s : State} {m : MethodId} {args : Array Value} {below : List Frame} {meth : Method} {c : Code} {D : va_G} {ad : Nat → Nat} {cI cJ cR : ClassId} {A : Nat → Prop} {K9 : ms_T → Int32 → Int32 → Prop} {Q : Int32 → ms_T → Prop} {S : ms_T} {v1 : Int32} {v3 : Int32} (fx : xr_Fx p m c meth cX8_reads 5 s args wsX8_reads RX8 (some .int)) (hK : xr_K D (ms_ty cI cJ cR) s) (hA : ∀ q, s.heap.size ≤ q → A q) (k9 : ∀ (S : ms_T) (v1 : Int32) (v2 : Int32) {H : Heap} {locs : List Loc} {ls : Array Slot}, va_P D vwCl (ms_w ad cI cJ S) H → va_D A (ms_w ad cI cJ S) → va_S A s.heap H locs → lv_has ls 5 [(0, .ref (ad 0)), (1, .int v1), (2, .int v2)] → K9 S v1 v2 → W p l e rm_X8_reads s m args below meth c H locs 0 0 (MQ below (va_Qi Q (xr_B D (ms_ty cI cJ cR) (ms_w ad cI cJ) A) A) args s 0 0 A) (F0 m 9 ls [])) {H : Heap} {locs : List Loc} {ls : Array Slot} (hP : va_P D vwCl (ms_w ad cI cJ S) H) (hD : va_D A (ms_w ad cI cJ S)) (hS : va_S A s.heap H locs) (hl : lv_has ls 5 [(0, .ref (ad 0)), (1, .int v1), (3, .int v3)]) (h : wp_X8_reads_388 K9 Q S v1 v3) : W p l e rm_X8_reads s m args below meth c H locs 0 0 (MQ below (va_Qi Q (xr_B D (ms_ty cI cJ cR) (ms_w ad cI cJ) A) A) args s 0 0 A) (F0 m 388 ls []) := by
  obtain ⟨⟨hx, hb, hml, hown, hts⟩, hrt, hlk⟩ := id fx
  have hf : 0 ≤ rm_X8_reads.cells ∧ 0 ≤ rm_X8_reads.slots := ⟨Nat.zero_le _, Nat.zero_le _⟩
  unfold wp_X8_reads_388 at h
  refine lv_iload_n hx hb dX8_reads_388 rfl (lv_at hl 2 rfl) ?_
  refine lv_bipush (v := 93) hx hb dX8_reads_389 (by decide) ?_
  refine lv_icmp_ne (tgt := 428) hx hb dX8_reads_391 (by decide) (fun c391 => ?_) (fun c391 => ?_)
  · have h := h.1 c391
    refine lv_iload_n hx hb dX8_reads_428 rfl (lv_at hl 1 rfl) ?_
    exact xr_rI fx hK hP hD hS h dX8_reads_429
  · have h := h.2 c391
    refine lv_aload_n hx hb dX8_reads_394 rfl (lv_at hl 0 rfl) ?_
    refine ms_get 28 (v := .ref (ad 13)) fx in_X8_reads (by decide) rfl (by decide +kernel) rfl hK hP dX8_reads_395 ?_
    refine lv_aload_n hx hb dX8_reads_398 rfl (lv_at hl 0 rfl) ?_
    refine ms_get 29 (v := .int (S.1 8)) fx in_X8_reads (by decide) rfl (by decide +kernel) rfl hK hP dX8_reads_399 ?_
    refine lv_iconst (v := 1) hx hb dX8_reads_402 (by decide) ?_
    refine lv_isub hx hb dX8_reads_403 ?_
    obtain ⟨hi12, h⟩ := h
    refine ms_iald 12 (by decide) fx hK hP rfl hi12 dX8_reads_404 ?_
    refine lv_bipush (v := 93) hx hb dX8_reads_405 (by decide) ?_
    refine lv_icmp_ne (tgt := 428) hx hb dX8_reads_407 (by decide) (fun c407 => ?_) (fun c407 => ?_)
    · have h := h.1 c407
      refine lv_iload_n hx hb dX8_reads_428 rfl (lv_at hl 1 rfl) ?_
      exact xr_rI fx hK hP hD hS h dX8_reads_429
    · have h := h.2 c407
      exact kw_X8_reads_410 fx hK hA k9 hP hD hS (lv_sub hl [0, 1] rfl) h
set_option maxHeartbeats 4000000 in
set_option maxRecDepth 100000 in
theorem kw_X8_reads_359 {p : Program} {l : Launch} {e : Env} {s : State} {m : MethodId} {args : Array Value} {below : List Frame} {meth : Method} {c : Code} {D : va_G} {ad : Nat → Nat} {cI cJ cR : ClassId} {A : Nat → Prop} {K9 : ms_T → Int32 → Int32 → Prop} {Q : Int32 → ms_T → Prop} {S : ms_T} {v1 : Int32} {v3 : Int32} (fx : xr_Fx p m c meth cX8_reads 5 s args wsX8_reads RX8 (some .int)) (hK : xr_K D (ms_ty cI cJ cR) s) (hA : ∀ q, s.heap.size ≤ q → A q) (k9 : ∀ (S : ms_T) (v1 : Int32) (v2 : Int32) {H : Heap} {locs : List Loc} {ls : Array Slot}, va_P D vwCl (ms_w ad cI cJ S) H → va_D A (ms_w ad cI cJ S) → va_S A s.heap H locs → lv_has ls 5 [(0, .ref (ad 0)), (1, .int v1), (2, .int v2)] → K9 S v1 v2 → W p l e rm_X8_reads s m args below meth c H locs 0 0 (MQ below (va_Qi Q (xr_B D (ms_ty cI cJ cR) (ms_w ad cI cJ) A) A) args s 0 0 A) (F0 m 9 ls [])) {H : Heap} {locs : List Loc} {ls : Array Slot} (hP : va_P D vwCl (ms_w ad cI cJ S) H) (hD : va_D A (ms_w ad cI cJ S)) (hS : va_S A s.heap H locs) (hl : lv_has ls 5 [(0, .ref (ad 0)), (1, .int v1), (3, .int v3)]) (h : wp_X8_reads_359 K9 Q S v1 v3) : W p l e rm_X8_reads s m args below meth c H locs 0 0 (MQ below (va_Qi Q (xr_B D (ms_ty cI cJ cR) (ms_w ad cI cJ) A) A) args s 0 0 A) (F0 m 359 ls []) := by
  obtain ⟨⟨hx, hb, hml, hown, hts⟩, hrt, hlk⟩ := id fx
  have hf : 0 ≤ rm_X8_reads.cells ∧ 0 ≤ rm_X8_reads.slots := ⟨Nat.zero_le _, Nat.zero_le _⟩
  unfold wp_X8_reads_359 at h
  refine lv_aload_n hx hb dX8_reads_359 rfl (lv_at hl 0 rfl) ?_
  refine ms_get 29 (v := .int (S.1 8)) fx in_X8_reads (by decide) rfl (by decide +kernel) rfl hK hP dX8_reads_360 ?_
  refine lv_if_le (tgt := 428) hx hb dX8_reads_363 (by decide) (fun c363 => ?_) (fun c363 => ?_)
  · have h := h.1 c363
    refine lv_iload_n hx hb dX8_reads_428 rfl (lv_at hl 1 rfl) ?_
    exact xr_rI fx hK hP hD hS h dX8_reads_429
  · have h := h.2 c363
    refine lv_iload_n hx hb dX8_reads_366 rfl (lv_at hl 2 rfl) ?_
    refine lv_bipush (v := 41) hx hb dX8_reads_367 (by decide) ?_
    refine lv_icmp_ne (tgt := 388) hx hb dX8_reads_369 (by decide) (fun c369 => ?_) (fun c369 => ?_)
    · have h := h.1 c369
      exact kw_X8_reads_388 fx hK hA k9 hP hD hS (lv_sub hl [0, 1, 2] rfl) h
    · have h := h.2 c369
      refine lv_aload_n hx hb dX8_reads_372 rfl (lv_at hl 0 rfl) ?_
      refine ms_get 28 (v := .ref (ad 13)) fx in_X8_reads (by decide) rfl (by decide +kernel) rfl hK hP dX8_reads_373 ?_
      refine lv_aload_n hx hb dX8_reads_376 rfl (lv_at hl 0 rfl) ?_
      refine ms_get 29 (v := .int (S.1 8)) fx in_X8_reads (by decide) rfl (by decide +kernel) rfl hK hP dX8_reads_377 ?_
      refine lv_iconst (v := 1) hx hb dX8_reads_380 (by decide) ?_
      refine lv_isub hx hb dX8_reads_381 ?_
      obtain ⟨hi13, h⟩ := h
      refine ms_iald 12 (by decide) fx hK hP rfl hi13 dX8_reads_382 ?_
      refine lv_bipush (v := 40) hx hb dX8_reads_383 (by decide) ?_
      refine lv_icmp_eq (tgt := 410) hx hb dX8_reads_385 (by decide) (fun c385 => ?_) (fun c385 => ?_)
      · have h := h.1 c385
        exact kw_X8_reads_410 fx hK hA k9 hP hD hS (lv_sub hl [0, 1] rfl) h
      · have h := h.2 c385
        exact kw_X8_reads_388 fx hK hA k9 hP hD hS (lv_sub hl [0, 1, 2] rfl) h
set_option maxHeartbeats 4000000 in
set_option maxRecDepth 100000 in
theorem kw_X8_reads_289 {p : Program} {l : Launch} {e : Env} {s : State} {m : MethodId} {args : Array Value} {below : List Frame} {meth : Method} {c : Code} {D : va_G} {ad : Nat → Nat} {cI cJ cR : ClassId} {A : Nat → Prop} {K9 : ms_T → Int32 → Int32 → Prop} {Q : Int32 → ms_T → Prop} {S : ms_T} {v1 : Int32} {v3 : Int32} (fx : xr_Fx p m c meth cX8_reads 5 s args wsX8_reads RX8 (some .int)) (hK : xr_K D (ms_ty cI cJ cR) s) (hA : ∀ q, s.heap.size ≤ q → A q) (k9 : ∀ (S : ms_T) (v1 : Int32) (v2 : Int32) {H : Heap} {locs : List Loc} {ls : Array Slot}, va_P D vwCl (ms_w ad cI cJ S) H → va_D A (ms_w ad cI cJ S) → va_S A s.heap H locs → lv_has ls 5 [(0, .ref (ad 0)), (1, .int v1), (2, .int v2)] → K9 S v1 v2 → W p l e rm_X8_reads s m args below meth c H locs 0 0 (MQ below (va_Qi Q (xr_B D (ms_ty cI cJ cR) (ms_w ad cI cJ) A) A) args s 0 0 A) (F0 m 9 ls [])) {H : Heap} {locs : List Loc} {ls : Array Slot} (hP : va_P D vwCl (ms_w ad cI cJ S) H) (hD : va_D A (ms_w ad cI cJ S)) (hS : va_S A s.heap H locs) (hl : lv_has ls 5 [(0, .ref (ad 0)), (1, .int v1), (3, .int v3)]) (h : wp_X8_reads_289 K9 Q S v1 v3) : W p l e rm_X8_reads s m args below meth c H locs 0 0 (MQ below (va_Qi Q (xr_B D (ms_ty cI cJ cR) (ms_w ad cI cJ) A) A) args s 0 0 A) (F0 m 289 ls []) := by
  obtain ⟨⟨hx, hb, hml, hown, hts⟩, hrt, hlk⟩ := id fx
  have hf : 0 ≤ rm_X8_reads.cells ∧ 0 ≤ rm_X8_reads.slots := ⟨Nat.zero_le _, Nat.zero_le _⟩
  unfold wp_X8_reads_289 at h
  refine lv_iload_n hx hb dX8_reads_289 rfl (lv_at hl 2 rfl) ?_
  refine lv_bipush (v := 43) hx hb dX8_reads_290 (by decide) ?_
  refine lv_icmp_eq (tgt := 301) hx hb dX8_reads_292 (by decide) (fun c292 => ?_) (fun c292 => ?_)
  · have h := h.1 c292
    exact kw_X8_reads_301 fx hK hA k9 hP hD hS (lv_sub hl [0, 1] rfl) h
  · have h := h.2 c292
    refine lv_iload_n hx hb dX8_reads_295 rfl (lv_at hl 2 rfl) ?_
    refine lv_bipush (v := 45) hx hb dX8_reads_296 (by decide) ?_
    refine lv_icmp_ne (tgt := 309) hx hb dX8_reads_298 (by decide) (fun c298 => ?_) (fun c298 => ?_)
    · have h := h.1 c298
      refine lv_aload_n hx hb dX8_reads_309 rfl (lv_at hl 0 rfl) ?_
      refine ms_get 29 (v := .int (S.1 8)) fx in_X8_reads (by decide) rfl (by decide +kernel) rfl hK hP dX8_reads_310 ?_
      refine lv_if_le (tgt := 359) hx hb dX8_reads_313 (by decide) (fun c313 => ?_) (fun c313 => ?_)
      · have h := h.1 c313
        exact kw_X8_reads_359 fx hK hA k9 hP hD hS (lv_sub hl [0, 1, 2] rfl) h
      · have h := h.2 c313
        refine lv_iload_n hx hb dX8_reads_316 rfl (lv_at hl 2 rfl) ?_
        refine lv_bipush (v := 44) hx hb dX8_reads_317 (by decide) ?_
        refine lv_icmp_ne (tgt := 359) hx hb dX8_reads_319 (by decide) (fun c319 => ?_) (fun c319 => ?_)
        · have h := h.1 c319
          exact kw_X8_reads_359 fx hK hA k9 hP hD hS (lv_sub hl [0, 1, 2] rfl) h
        · have h := h.2 c319
          refine lv_aload_n hx hb dX8_reads_322 rfl (lv_at hl 0 rfl) ?_
          refine ms_get 28 (v := .ref (ad 13)) fx in_X8_reads (by decide) rfl (by decide +kernel) rfl hK hP dX8_reads_323 ?_
          refine lv_aload_n hx hb dX8_reads_326 rfl (lv_at hl 0 rfl) ?_
          refine ms_get 29 (v := .int (S.1 8)) fx in_X8_reads (by decide) rfl (by decide +kernel) rfl hK hP dX8_reads_327 ?_
          refine lv_iconst (v := 1) hx hb dX8_reads_330 (by decide) ?_
          refine lv_isub hx hb dX8_reads_331 ?_
          obtain ⟨hi14, h⟩ := h
          refine ms_iald 12 (by decide) fx hK hP rfl hi14 dX8_reads_332 ?_
          refine lv_bipush (v := 91) hx hb dX8_reads_333 (by decide) ?_
          refine lv_icmp_ne (tgt := 359) hx hb dX8_reads_335 (by decide) (fun c335 => ?_) (fun c335 => ?_)
          · have h := h.1 c335
            exact kw_X8_reads_359 fx hK hA k9 hP hD hS (lv_sub hl [0, 1, 2] rfl) h
          · have h := h.2 c335
            refine lv_aload_n hx hb dX8_reads_338 rfl (lv_at hl 0 rfl) ?_
            refine ms_get 28 (v := .ref (ad 13)) fx in_X8_reads (by decide) rfl (by decide +kernel) rfl hK hP dX8_reads_339 ?_
            refine lv_aload_n hx hb dX8_reads_342 rfl (lv_at hl 0 rfl) ?_
            refine ms_get 29 (v := .int (S.1 8)) fx in_X8_reads (by decide) rfl (by decide +kernel) rfl hK hP dX8_reads_343 ?_
            refine lv_iconst (v := 1) hx hb dX8_reads_346 (by decide) ?_
            refine lv_isub hx hb dX8_reads_347 ?_
            refine lv_bipush (v := 93) hx hb dX8_reads_348 (by decide) ?_
            obtain ⟨hi15, h⟩ := h
            refine ms_iast 12 (by decide) fx hK hP hD hS rfl hi15 dX8_reads_350 (fun H locs hP hD hS => ?_)
            refine lv_iconst (v := 0) hx hb dX8_reads_351 (by decide) ?_
            refine lv_istore_n (lv' := [(2, .int 0), (0, .ref (ad 0)), (1, .int v1), (3, .int v3)]) hx hb dX8_reads_352 rfl hl (by decide) rfl (fun ls hl => ?_)
            obtain ⟨v1_16, ev1_16⟩ : ∃ z : Int32, z = v1 + 1 := ⟨_, rfl⟩
            have h := h v1_16 ev1_16
            refine lv_iinc (v := v1_16) (lv' := [(1, .int v1_16), (2, .int 0), (0, .ref (ad 0)), (3, .int v3)]) hx hb dX8_reads_353 hl (k := 2) rfl (by rw [ev1_16]; rfl) (by decide) rfl (fun ls hl => ?_)
            refine lv_goto (tgt := 430) hx hb dX8_reads_356 (by decide) ?_
            exact kw_X8_reads_430 fx hK hA k9 hP hD hS (lv_sub hl [2, 0, 1] rfl) h
    · have h := h.2 c298
      exact kw_X8_reads_301 fx hK hA k9 hP hD hS (lv_sub hl [0, 1] rfl) h
set_option maxHeartbeats 4000000 in
set_option maxRecDepth 100000 in
theorem kw_X8_reads_226 {p : Program} {l : Launch} {e : Env} {s : State} {m : MethodId} {args : Array Value} {below : List Frame} {meth : Method} {c : Code} {D : va_G} {ad : Nat → Nat} {cI cJ cR : ClassId} {A : Nat → Prop} {K9 : ms_T → Int32 → Int32 → Prop} {Q : Int32 → ms_T → Prop} {S : ms_T} {v1 : Int32} {v2 : Int32} {v3 : Int32} (fx : xr_Fx p m c meth cX8_reads 5 s args wsX8_reads RX8 (some .int)) (hK : xr_K D (ms_ty cI cJ cR) s) (hA : ∀ q, s.heap.size ≤ q → A q) (k9 : ∀ (S : ms_T) (v1 : Int32) (v2 : Int32) {H : Heap} {locs : List Loc} {ls : Array Slot}, va_P D vwCl (ms_w ad cI cJ S) H → va_D A (ms_w ad cI cJ S) → va_S A s.heap H locs → lv_has ls 5 [(0, .ref (ad 0)), (1, .int v1), (2, .int v2)] → K9 S v1 v2 → W p l e rm_X8_reads s m args below meth c H locs 0 0 (MQ below (va_Qi Q (xr_B D (ms_ty cI cJ cR) (ms_w ad cI cJ) A) A) args s 0 0 A) (F0 m 9 ls [])) {H : Heap} {locs : List Loc} {ls : Array Slot} (hP : va_P D vwCl (ms_w ad cI cJ S) H) (hD : va_D A (ms_w ad cI cJ S)) (hS : va_S A s.heap H locs) (hl : lv_has ls 5 [(0, .ref (ad 0)), (1, .int v1), (2, .int v2), (3, .int v3)]) (h : wp_X8_reads_226 K9 Q S v1 v2 v3) : W p l e rm_X8_reads s m args below meth c H locs 0 0 (MQ below (va_Qi Q (xr_B D (ms_ty cI cJ cR) (ms_w ad cI cJ) A) A) args s 0 0 A) (F0 m 226 ls []) := by
  obtain ⟨⟨hx, hb, hml, hown, hts⟩, hrt, hlk⟩ := id fx
  have hf : 0 ≤ rm_X8_reads.cells ∧ 0 ≤ rm_X8_reads.slots := ⟨Nat.zero_le _, Nat.zero_le _⟩
  unfold wp_X8_reads_226 at h
  refine lv_iload_n hx hb dX8_reads_226 rfl (lv_at hl 2 rfl) ?_
  refine lv_if_ne (tgt := 232) hx hb dX8_reads_227 (by decide) (fun c227 => ?_) (fun c227 => ?_)
  · have h := h.1 c227
    refine lv_iload_n hx hb dX8_reads_232 rfl (lv_at hl 2 rfl) ?_
    refine lv_iconst (v := 1) hx hb dX8_reads_233 (by decide) ?_
    refine lv_icmp_ne (tgt := 289) hx hb dX8_reads_234 (by decide) (fun c234 => ?_) (fun c234 => ?_)
    · have h := h.1 c234
      exact kw_X8_reads_289 fx hK hA k9 hP hD hS (lv_sub hl [0, 1, 3] rfl) h
    · have h := h.2 c234
      refine lv_iload_n hx hb dX8_reads_237 rfl (lv_at hl 3 rfl) ?_
      refine lv_bipush (v := 47) hx hb dX8_reads_238 (by decide) ?_
      refine lv_icmp_ne (tgt := 289) hx hb dX8_reads_240 (by decide) (fun c240 => ?_) (fun c240 => ?_)
      · have h := h.1 c240
        exact kw_X8_reads_289 fx hK hA k9 hP hD hS (lv_sub hl [0, 1, 3] rfl) h
      · have h := h.2 c240
        refine lv_aload_n hx hb dX8_reads_243 rfl (lv_at hl 0 rfl) ?_
        refine lv_iload_n hx hb dX8_reads_244 rfl (lv_at hl 1 rfl) ?_
        refine lv_iconst (v := 1) hx hb dX8_reads_245 (by decide) ?_
        refine lv_iadd hx hb dX8_reads_246 ?_
        refine xr_vI (n := 1) (As := [.int (v1 + 1)]) (rest := []) fx (ct_X8_byteAt l D ad cI cJ cR h) gX8_reads_X8_byteAt rfl rfl (by decide +kernel) ⟨Nat.le_of_ble_eq_true rfl, Nat.le_of_ble_eq_true rfl⟩ ⟨rfl, rfl⟩ hf (ms_recv hK hP) hK hP hD hS hA hl.1 rfl (Nat.le_of_ble_eq_true rfl) dX8_reads_247 (fun r18 S17 H locs h hP hD hS => ?_)
        refine lv_bipush (v := 48) hx hb dX8_reads_250 (by decide) ?_
        refine lv_icmp_ne (tgt := 259) hx hb dX8_reads_252 (by decide) (fun c252 => ?_) (fun c252 => ?_)
        · have h := h.1 c252
          refine lv_aload_n hx hb dX8_reads_259 rfl (lv_at hl 0 rfl) ?_
          refine lv_iload_n hx hb dX8_reads_260 rfl (lv_at hl 1 rfl) ?_
          refine lv_iconst (v := 1) hx hb dX8_reads_261 (by decide) ?_
          refine lv_iadd hx hb dX8_reads_262 ?_
          refine xr_vI (n := 1) (As := [.int (v1 + 1)]) (rest := []) fx (ct_X8_digitsFrom l D ad cI cJ cR h) gX8_reads_X8_digitsFrom rfl rfl (by decide +kernel) ⟨Nat.le_of_ble_eq_true rfl, Nat.le_of_ble_eq_true rfl⟩ ⟨rfl, rfl⟩ hf (ms_recv hK hP) hK hP hD hS hA hl.1 rfl (Nat.le_of_ble_eq_true rfl) dX8_reads_263 (fun r20 S19 H locs h hP hD hS => ?_)
          exact kw_X8_reads_266 fx hK hA k9 hP hD hS (lv_sub hl [0, 1] rfl) h
        · have h := h.2 c252
          refine lv_iconst (v := 0) hx hb dX8_reads_255 (by decide) ?_
          refine lv_goto (tgt := 266) hx hb dX8_reads_256 (by decide) ?_
          exact kw_X8_reads_266 fx hK hA k9 hP hD hS (lv_sub hl [0, 1] rfl) h
  · have h := h.2 c227
    refine lv_iload_n hx hb dX8_reads_230 rfl (lv_at hl 1 rfl) ?_
    exact xr_rI fx hK hP hD hS h dX8_reads_231
set_option maxHeartbeats 4000000 in
set_option maxRecDepth 100000 in
theorem kw_X8_reads_21 {p : Program} {l : Launch} {e : Env} {s : State} {m : MethodId} {args : Array Value} {below : List Frame} {meth : Method} {c : Code} {D : va_G} {ad : Nat → Nat} {cI cJ cR : ClassId} {A : Nat → Prop} {K9 : ms_T → Int32 → Int32 → Prop} {Q : Int32 → ms_T → Prop} {S : ms_T} {v1 : Int32} {v2 : Int32} (fx : xr_Fx p m c meth cX8_reads 5 s args wsX8_reads RX8 (some .int)) (hK : xr_K D (ms_ty cI cJ cR) s) (hA : ∀ q, s.heap.size ≤ q → A q) (k9 : ∀ (S : ms_T) (v1 : Int32) (v2 : Int32) {H : Heap} {locs : List Loc} {ls : Array Slot}, va_P D vwCl (ms_w ad cI cJ S) H → va_D A (ms_w ad cI cJ S) → va_S A s.heap H locs → lv_has ls 5 [(0, .ref (ad 0)), (1, .int v1), (2, .int v2)] → K9 S v1 v2 → W p l e rm_X8_reads s m args below meth c H locs 0 0 (MQ below (va_Qi Q (xr_B D (ms_ty cI cJ cR) (ms_w ad cI cJ) A) A) args s 0 0 A) (F0 m 9 ls [])) {H : Heap} {locs : List Loc} {ls : Array Slot} (hP : va_P D vwCl (ms_w ad cI cJ S) H) (hD : va_D A (ms_w ad cI cJ S)) (hS : va_S A s.heap H locs) (hl : lv_has ls 5 [(0, .ref (ad 0)), (1, .int v1), (2, .int v2)]) (h : wp_X8_reads_21 K9 Q S v1 v2) : W p l e rm_X8_reads s m args below meth c H locs 0 0 (MQ below (va_Qi Q (xr_B D (ms_ty cI cJ cR) (ms_w ad cI cJ) A) A) args s 0 0 A) (F0 m 21 ls []) := by
  obtain ⟨⟨hx, hb, hml, hown, hts⟩, hrt, hlk⟩ := id fx
  have hf : 0 ≤ rm_X8_reads.cells ∧ 0 ≤ rm_X8_reads.slots := ⟨Nat.zero_le _, Nat.zero_le _⟩
  unfold wp_X8_reads_21 at h
  refine lv_aload_n hx hb dX8_reads_21 rfl (lv_at hl 0 rfl) ?_
  refine lv_iload_n hx hb dX8_reads_22 rfl (lv_at hl 1 rfl) ?_
  refine xr_vI (n := 1) (As := [.int v1]) (rest := []) fx (ct_X8_byteAt l D ad cI cJ cR h) gX8_reads_X8_byteAt rfl rfl (by decide +kernel) ⟨Nat.le_of_ble_eq_true rfl, Nat.le_of_ble_eq_true rfl⟩ ⟨rfl, rfl⟩ hf (ms_recv hK hP) hK hP hD hS hA hl.1 rfl (Nat.le_of_ble_eq_true rfl) dX8_reads_23 (fun r22 S21 H locs h hP hD hS => ?_)
  refine lv_istore_n (lv' := [(3, .int r22), (0, .ref (ad 0)), (1, .int v1), (2, .int v2)]) hx hb dX8_reads_26 rfl hl (by decide) rfl (fun ls hl => ?_)
  refine lv_iload_n hx hb dX8_reads_27 rfl (lv_at hl 3 rfl) ?_
  refine lv_iconst (v := 2) hx hb dX8_reads_28 (by decide) ?_
  refine lv_icmp_ge (tgt := 226) hx hb dX8_reads_29 (by decide) (fun c29 => ?_) (fun c29 => ?_)
  · have h := h.1 c29
    exact kw_X8_reads_226 fx hK hA k9 hP hD hS (lv_sub hl [1, 2, 3, 0] rfl) h
  · have h := h.2 c29
    refine lv_aload_n hx hb dX8_reads_32 rfl (lv_at hl 1 rfl) ?_
    refine lv_iload_n hx hb dX8_reads_33 rfl (lv_at hl 0 rfl) ?_
    refine xr_vI (n := 1) (As := [.int r22]) (rest := []) fx (ct_X8_begins l D ad cI cJ cR h) gX8_reads_X8_begins rfl rfl (by decide +kernel) ⟨Nat.le_of_ble_eq_true rfl, Nat.le_of_ble_eq_true rfl⟩ ⟨rfl, rfl⟩ hf (ms_recv hK hP) hK hP hD hS hA hl.1 rfl (Nat.le_of_ble_eq_true rfl) dX8_reads_34 (fun r24 S23 H locs h hP hD hS => ?_)
    refine lv_if_eq (tgt := 226) hx hb dX8_reads_37 (by decide) (fun c37 => ?_) (fun c37 => ?_)
    · have h := h.1 c37
      exact kw_X8_reads_226 fx hK hA k9 hP hD hS (lv_sub hl [1, 2, 3, 0] rfl) h
    · have h := h.2 c37
      refine lv_iload_n hx hb dX8_reads_40 rfl (lv_at hl 0 rfl) ?_
      refine lv_bipush (v := 114) hx hb dX8_reads_41 (by decide) ?_
      refine lv_icmp_ne (tgt := 66) hx hb dX8_reads_43 (by decide) (fun c43 => ?_) (fun c43 => ?_)
      · have h := h.1 c43
        exact kw_X8_reads_66 fx hK hA k9 hP hD hS (lv_sub hl [1, 2, 0] rfl) h
      · have h := h.2 c43
        refine lv_aload_n hx hb dX8_reads_46 rfl (lv_at hl 1 rfl) ?_
        refine lv_iload_n hx hb dX8_reads_47 rfl (lv_at hl 2 rfl) ?_
        refine lv_iconst (v := 1) hx hb dX8_reads_48 (by decide) ?_
        refine lv_iadd hx hb dX8_reads_49 ?_
        refine xr_vI (n := 1) (As := [.int (v1 + 1)]) (rest := []) fx (ct_X8_byteAt l D ad cI cJ cR h) gX8_reads_X8_byteAt rfl rfl (by decide +kernel) ⟨Nat.le_of_ble_eq_true rfl, Nat.le_of_ble_eq_true rfl⟩ ⟨rfl, rfl⟩ hf (ms_recv hK hP) hK hP hD hS hA hl.1 rfl (Nat.le_of_ble_eq_true rfl) dX8_reads_50 (fun r26 S25 H locs h hP hD hS => ?_)
        refine lv_i2l hx hb dX8_reads_53 rfl ?_
        refine lv_ldc2 (v := 48) hx hb hown (hts (.constantLong RX8 255 (48)) (by decide +kernel)) dX8_reads_54 ?_
        refine lv_ldc2 (v := 55) hx hb hown (hts (.constantLong RX8 272 (55)) (by decide +kernel)) dX8_reads_57 ?_
        refine xr_sI (n := 3) (As := [.long r26.toInt64, .long 48, .long 55]) (rest := []) fx (ct_X8_in l h) gX8_reads_X8_in rfl rfl (by decide +kernel) ⟨Nat.le_of_ble_eq_true rfl, Nat.le_of_ble_eq_true rfl⟩ ⟨rfl, rfl⟩ hf hl.1 rfl (Nat.le_of_ble_eq_true rfl) dX8_reads_60 (fun r27 h => ?_)
        refine lv_if_eq (tgt := 90) hx hb dX8_reads_63 (by decide) (fun c63 => ?_) (fun c63 => ?_)
        · have h := h.1 c63
          refine lv_iload_n hx hb dX8_reads_90 rfl (lv_at hl 2 rfl) ?_
          refine lv_iconst (v := 1) hx hb dX8_reads_91 (by decide) ?_
          refine lv_iadd hx hb dX8_reads_92 ?_
          exact xr_rI fx hK hP hD hS h dX8_reads_93
        · have h := h.2 c63
          exact kw_X8_reads_66 fx hK hA k9 hP hD hS (lv_sub hl [1, 2, 0] rfl) h
set_option maxHeartbeats 4000000 in
set_option maxRecDepth 100000 in
theorem kb_X8_reads_9 {p : Program} {l : Launch} {e : Env} {s : State} {m : MethodId} {args : Array Value} {below : List Frame} {meth : Method} {c : Code} {D : va_G} {ad : Nat → Nat} {cI cJ cR : ClassId} {A : Nat → Prop}  {K9 : ms_T → Int32 → Int32 → Prop} {Q : Int32 → ms_T → Prop} {S : ms_T} {v1 : Int32} {v2 : Int32} (fx : xr_Fx p m c meth cX8_reads 5 s args wsX8_reads RX8 (some .int)) (hK : xr_K D (ms_ty cI cJ cR) s) (hA : ∀ q, s.heap.size ≤ q → A q)  (k9 : ∀ (S : ms_T) (v1 : Int32) (v2 : Int32) {H : Heap} {locs : List Loc} {ls : Array Slot}, va_P D vwCl (ms_w ad cI cJ S) H → va_D A (ms_w ad cI cJ S) → va_S A s.heap H locs → lv_has ls 5 [(0, .ref (ad 0)), (1, .int v1), (2, .int v2)] → K9 S v1 v2 → W p l e rm_X8_reads s m args below meth c H locs 0 0 (MQ below (va_Qi Q (xr_B D (ms_ty cI cJ cR) (ms_w ad cI cJ) A) A) args s 0 0 A) (F0 m 9 ls [])) {H : Heap} {locs : List Loc} {ls : Array Slot} (hP : va_P D vwCl (ms_w ad cI cJ S) H) (hD : va_D A (ms_w ad cI cJ S)) (hS : va_S A s.heap H locs) (hl : lv_has ls 5 [(0, .ref (ad 0)), (1, .int v1), (2, .int v2)]) (h : wb_X8_reads_9 K9 Q S v1 v2) : W p l e rm_X8_reads s m args below meth c H locs 0 0 (MQ below (va_Qi Q (xr_B D (ms_ty cI cJ cR) (ms_w ad cI cJ) A) A) args s 0 0 A) (F0 m 9 ls []) := by
  obtain ⟨⟨hx, hb, hml, hown, hts⟩, hrt, hlk⟩ := id fx
  have hf : 0 ≤ rm_X8_reads.cells ∧ 0 ≤ rm_X8_reads.slots := ⟨Nat.zero_le _, Nat.zero_le _⟩
  unfold wb_X8_reads_9 at h
  refine lv_iload_n hx hb dX8_reads_9 rfl (lv_at hl 2 rfl) ?_
  refine lv_if_eq (tgt := 21) hx hb dX8_reads_10 (by decide) (fun c10 => ?_) (fun c10 => ?_)
  · have h := h.1 c10
    exact kw_X8_reads_21 fx hK hA k9 hP hD hS (lv_sub hl [0, 1, 2] rfl) h
  · have h := h.2 c10
    refine lv_iload_n hx hb dX8_reads_13 rfl (lv_at hl 1 rfl) ?_
    refine lv_aload_n hx hb dX8_reads_14 rfl (lv_at hl 0 rfl) ?_
    refine ms_get 27 (v := .int (S.1 7)) fx in_X8_reads (by decide) rfl (by decide +kernel) rfl hK hP dX8_reads_15 ?_
    refine lv_icmp_ge (tgt := 433) hx hb dX8_reads_18 (by decide) (fun c18 => ?_) (fun c18 => ?_)
    · have h := h.1 c18
      refine lv_aload_n hx hb dX8_reads_433 rfl (lv_at hl 0 rfl) ?_
      refine ms_get 29 (v := .int (S.1 8)) fx in_X8_reads (by decide) rfl (by decide +kernel) rfl hK hP dX8_reads_434 ?_
      refine lv_if_le (tgt := 447) hx hb dX8_reads_437 (by decide) (fun c437 => ?_) (fun c437 => ?_)
      · have h := h.1 c437
        refine lv_iconst (v := (-1)) hx hb dX8_reads_447 (by decide) ?_
        exact xr_rI fx hK hP hD hS h dX8_reads_448
      · have h := h.2 c437
        refine lv_aload_n hx hb dX8_reads_440 rfl (lv_at hl 0 rfl) ?_
        refine ms_get 27 (v := .int (S.1 7)) fx in_X8_reads (by decide) rfl (by decide +kernel) rfl hK hP dX8_reads_441 ?_
        refine lv_goto (tgt := 448) hx hb dX8_reads_444 (by decide) ?_
        exact xr_rI fx hK hP hD hS h dX8_reads_448
    · have h := h.2 c18
      exact kw_X8_reads_21 fx hK hA k9 hP hD hS (lv_sub hl [0, 1, 2] rfl) h
theorem kw_X8_reads_9 {p : Program} {l : Launch} {e : Env} {s : State} {m : MethodId} {args : Array Value} {below : List Frame} {meth : Method} {c : Code} {D : va_G} {ad : Nat → Nat} {cI cJ cR : ClassId} {A : Nat → Prop}  {Q : Int32 → ms_T → Prop} (fx : xr_Fx p m c meth cX8_reads 5 s args wsX8_reads RX8 (some .int)) (hK : xr_K D (ms_ty cI cJ cR) s) (hA : ∀ q, s.heap.size ≤ q → A q)  : ∀ (n : Nat) (S : ms_T) (v1 : Int32) (v2 : Int32) {H : Heap} {locs : List Loc} {ls : Array Slot}, va_P D vwCl (ms_w ad cI cJ S) H → va_D A (ms_w ad cI cJ S) → va_S A s.heap H locs → lv_has ls 5 [(0, .ref (ad 0)), (1, .int v1), (2, .int v2)] → wp_X8_reads_9 Q n S v1 v2 → W p l e rm_X8_reads s m args below meth c H locs 0 0 (MQ below (va_Qi Q (xr_B D (ms_ty cI cJ cR) (ms_w ad cI cJ) A) A) args s 0 0 A) (F0 m 9 ls []) := by
  intro n
  induction n with
  | zero => intro S v1 v2 H locs ls hP hD hS hl h; exact False.elim h
  | succ n ih => intro S v1 v2 H locs ls hP hD hS hl h; exact kb_X8_reads_9 fx hK hA ih hP hD hS hl h
set_option maxHeartbeats 4000000 in
set_option maxRecDepth 100000 in
theorem ct_X8_reads (l : Launch) (D : va_G) (ad : Nat → Nat) (cI cJ cR : ClassId) {S : ms_T} {Q : Int32 → ms_T → Prop} (h : wp_X8_reads S Q) : xr_I l D (ms_ty cI cJ cR) (ms_w ad cI cJ) yX8_reads wsX8_reads rm_X8_reads [.ref (ad 0)] S Q := by
  refine xr_eI (cc := cX8_reads) (nL := 5) (ret := (some .int)) (own := RX8) (by decide) rfl rfl (Nat.le_of_ble_eq_true rfl) ?_
  intro p e s m args below meth c ls A fx hK hA hP hD hS hl
  have hl : lv_has ls 5 [(0, .ref (ad 0))] := hl
  show W p l e rm_X8_reads s m args below meth c s.heap [] 0 0 _ _
  obtain ⟨⟨hx, hb, hml, hown, hts⟩, hrt, hlk⟩ := id fx
  have hf : 0 ≤ rm_X8_reads.cells ∧ 0 ≤ rm_X8_reads.slots := ⟨Nat.zero_le _, Nat.zero_le _⟩
  unfold wp_X8_reads at h
  refine lv_aload_n hx hb dX8_reads_0 rfl (lv_at hl 0 rfl) ?_
  refine lv_iconst (v := 0) hx hb dX8_reads_1 (by decide) ?_
  refine ms_put 29 8 (ty := .int) fx in_X8_reads (by decide) ms_f29 (by decide +kernel) rfl rfl (by decide +kernel) rfl rfl hK hP hD hS dX8_reads_2 (fun H locs hP hD hS => ?_)
  refine lv_iconst (v := 0) hx hb dX8_reads_5 (by decide) ?_
  refine lv_istore_n (lv' := [(1, .int 0), (0, .ref (ad 0))]) hx hb dX8_reads_6 rfl hl (by decide) rfl (fun ls hl => ?_)
  refine lv_iconst (v := 0) hx hb dX8_reads_7 (by decide) ?_
  refine lv_istore_n (lv' := [(2, .int 0), (1, .int 0), (0, .ref (ad 0))]) hx hb dX8_reads_8 rfl hl (by decide) rfl (fun ls hl => ?_)
  obtain ⟨n, h⟩ := h
  exact kw_X8_reads_9 fx hK hA n _ _ _ hP hD hS (lv_sub hl [2, 1, 0] rfl) h
abbrev rm_X8_slot : Room := { frames := 0, cells := 0, slots := 0, locals := 0 }
set_option maxHeartbeats 4000000 in
set_option maxRecDepth 100000 in
theorem ct_X8_slot (l : Launch) {a0 : Int32} {a1 : Int32} {Q : Int32 → Prop} (h : wp_X8_slot a0 a1 Q) : xr_SI l yX8_slot wsX8_slot rm_X8_slot [.int a0, .int a1] Q := by
  refine xr_eSI (cc := cX8_slot) (nL := 2) (ret := (some .int)) (own := RX8) (by decide) rfl rfl (Nat.le_of_ble_eq_true rfl) ?_
  intro p e s m args below meth c ls fx hl
  have hl : lv_has ls 2 [(0, .int a0), (1, .int a1)] := hl
  show W p l e rm_X8_slot s m args below meth c s.heap [] 0 0 _ _
  obtain ⟨⟨hx, hb, hml, hown, hts⟩, hrt, hlk⟩ := id fx
  have hf : 0 ≤ rm_X8_slot.cells ∧ 0 ≤ rm_X8_slot.slots := ⟨Nat.zero_le _, Nat.zero_le _⟩
  unfold wp_X8_slot at h
  refine lv_bipush (v := 14) hx hb dX8_slot_0 (by decide) ?_
  refine lv_iconst (v := 3) hx hb dX8_slot_2 (by decide) ?_
  refine lv_iload_n hx hb dX8_slot_3 rfl (lv_at hl 0 rfl) ?_
  refine lv_imul hx hb dX8_slot_4 ?_
  refine lv_iadd hx hb dX8_slot_5 ?_
  refine lv_iload_n hx hb dX8_slot_6 rfl (lv_at hl 1 rfl) ?_
  refine lv_iadd hx hb dX8_slot_7 ?_
  exact xr_rSI fx h dX8_slot_8
abbrev rm_X8_opensFrame : Room := { frames := 2, cells := 0, slots := 0, locals := 43 }
theorem in_X8_opensFrame : ∀ w ∈ wsX80, w ∈ wsX8_opensFrame := by decide +kernel
set_option maxHeartbeats 4000000 in
set_option maxRecDepth 100000 in
theorem ct_X8_opensFrame (l : Launch) (D : va_G) (ad : Nat → Nat) (cI cJ cR : ClassId) {S : ms_T} {a1 : Int32} {Q : ms_T → Prop} (h : wp_X8_opensFrame S a1 Q) : xr_V l D (ms_ty cI cJ cR) (ms_w ad cI cJ) yX8_opensFrame wsX8_opensFrame rm_X8_opensFrame [.ref (ad 0), .int a1] S Q := by
  refine xr_eV (cc := cX8_opensFrame) (nL := 2) (ret := none) (own := RX8) (by decide) rfl rfl (Nat.le_of_ble_eq_true rfl) ?_
  intro p e s m args below meth c ls A fx hK hA hP hD hS hl
  have hl : lv_has ls 2 [(0, .ref (ad 0)), (1, .int a1)] := hl
  show W p l e rm_X8_opensFrame s m args below meth c s.heap [] 0 0 _ _
  obtain ⟨⟨hx, hb, hml, hown, hts⟩, hrt, hlk⟩ := id fx
  have hf : 0 ≤ rm_X8_opensFrame.cells ∧ 0 ≤ rm_X8_opensFrame.slots := ⟨Nat.zero_le _, Nat.zero_le _⟩
  unfold wp_X8_opensFrame at h
  refine lv_aload_n hx hb dX8_opensFrame_0 rfl (lv_at hl 0 rfl) ?_
  refine lv_dup hx hb dX8_opensFrame_1 rfl ?_
  refine ms_get 32 (v := .int (S.1 9)) fx in_X8_opensFrame (by decide) rfl (by decide +kernel) rfl hK hP dX8_opensFrame_2 ?_
  refine lv_iconst (v := 1) hx hb dX8_opensFrame_5 (by decide) ?_
  refine lv_iadd hx hb dX8_opensFrame_6 ?_
  refine ms_put 32 9 (ty := .int) fx in_X8_opensFrame (by decide) ms_f32 (by decide +kernel) rfl rfl (by decide +kernel) rfl rfl hK hP hD hS dX8_opensFrame_7 (fun H locs hP hD hS => ?_)
  refine lv_aload_n hx hb dX8_opensFrame_10 rfl (lv_at hl 0 rfl) ?_
  refine ms_get 30 (v := .ref (ad 14)) fx in_X8_opensFrame (by decide) rfl (by decide +kernel) rfl hK hP dX8_opensFrame_11 ?_
  refine lv_aload_n hx hb dX8_opensFrame_14 rfl (lv_at hl 0 rfl) ?_
  refine ms_get 32 (v := .int ((ms_sF S 9 ((S.1 9) + 1)).1 9)) fx in_X8_opensFrame (by decide) rfl (by decide +kernel) rfl hK hP dX8_opensFrame_15 ?_
  refine lv_iload_n hx hb dX8_opensFrame_18 rfl (lv_at hl 1 rfl) ?_
  obtain ⟨hi1, h⟩ := h
  refine ms_iast 13 (by decide) fx hK hP hD hS rfl hi1 dX8_opensFrame_19 (fun H locs hP hD hS => ?_)
  refine lv_aload_n hx hb dX8_opensFrame_20 rfl (lv_at hl 0 rfl) ?_
  refine ms_get 31 (v := .ref (ad 23)) fx in_X8_opensFrame (by decide) rfl (by decide +kernel) rfl hK hP dX8_opensFrame_21 ?_
  refine lv_aload_n hx hb dX8_opensFrame_24 rfl (lv_at hl 0 rfl) ?_
  refine ms_get 32 (v := .int ((ms_sI (ms_sF S 9 ((S.1 9) + 1)) 13 ((ms_sF S 9 ((S.1 9) + 1)).1 9).toNatClampNeg a1).1 9)) fx in_X8_opensFrame (by decide) rfl (by decide +kernel) rfl hK hP dX8_opensFrame_25 ?_
  refine lv_lconst (v := 1) hx hb dX8_opensFrame_28 (by decide) ?_
  obtain ⟨hi2, h⟩ := h
  refine ms_last 8 (by decide) fx hK hP hD hS rfl hi2 dX8_opensFrame_29 (fun H locs hP hD hS => ?_)
  refine lv_aload_n hx hb dX8_opensFrame_30 rfl (lv_at hl 0 rfl) ?_
  refine lv_aload_n hx hb dX8_opensFrame_31 rfl (lv_at hl 0 rfl) ?_
  refine ms_get 32 (v := .int ((ms_sJ (ms_sI (ms_sF S 9 ((S.1 9) + 1)) 13 ((ms_sF S 9 ((S.1 9) + 1)).1 9).toNatClampNeg a1) 8 ((ms_sI (ms_sF S 9 ((S.1 9) + 1)) 13 ((ms_sF S 9 ((S.1 9) + 1)).1 9).toNatClampNeg a1).1 9).toNatClampNeg 1).1 9)) fx in_X8_opensFrame (by decide) rfl (by decide +kernel) rfl hK hP dX8_opensFrame_32 ?_
  refine lv_iconst (v := 0) hx hb dX8_opensFrame_35 (by decide) ?_
  refine xr_sI (n := 2) (As := [.int ((ms_sJ (ms_sI (ms_sF S 9 ((S.1 9) + 1)) 13 ((ms_sF S 9 ((S.1 9) + 1)).1 9).toNatClampNeg a1) 8 ((ms_sI (ms_sF S 9 ((S.1 9) + 1)) 13 ((ms_sF S 9 ((S.1 9) + 1)).1 9).toNatClampNeg a1).1 9).toNatClampNeg 1).1 9), .int 0]) (rest := [.ref (ad 0)]) fx (ct_X8_slot l h) gX8_opensFrame_X8_slot rfl rfl (by decide +kernel) ⟨Nat.le_of_ble_eq_true rfl, Nat.le_of_ble_eq_true rfl⟩ ⟨rfl, rfl⟩ hf hl.1 rfl (Nat.le_of_ble_eq_true rfl) dX8_opensFrame_36 (fun r3 h => ?_)
  refine xr_vV (n := 1) (As := [.int r3]) (rest := []) fx (ct_X8_clears l D ad cI cJ cR h) gX8_opensFrame_X8_clears rfl rfl (by decide +kernel) ⟨Nat.le_of_ble_eq_true rfl, Nat.le_of_ble_eq_true rfl⟩ ⟨rfl, rfl⟩ hf (ms_recv hK hP) hK hP hD hS hA hl.1 rfl (Nat.le_of_ble_eq_true rfl) dX8_opensFrame_39 (fun S4 H locs h hP hD hS => ?_)
  refine lv_aload_n hx hb dX8_opensFrame_42 rfl (lv_at hl 0 rfl) ?_
  refine lv_aload_n hx hb dX8_opensFrame_43 rfl (lv_at hl 0 rfl) ?_
  refine ms_get 32 (v := .int (S4.1 9)) fx in_X8_opensFrame (by decide) rfl (by decide +kernel) rfl hK hP dX8_opensFrame_44 ?_
  refine lv_iconst (v := 1) hx hb dX8_opensFrame_47 (by decide) ?_
  refine xr_sI (n := 2) (As := [.int (S4.1 9), .int 1]) (rest := [.ref (ad 0)]) fx (ct_X8_slot l h) gX8_opensFrame_X8_slot rfl rfl (by decide +kernel) ⟨Nat.le_of_ble_eq_true rfl, Nat.le_of_ble_eq_true rfl⟩ ⟨rfl, rfl⟩ hf hl.1 rfl (Nat.le_of_ble_eq_true rfl) dX8_opensFrame_48 (fun r5 h => ?_)
  refine xr_vV (n := 1) (As := [.int r5]) (rest := []) fx (ct_X8_ones l D ad cI cJ cR h) gX8_opensFrame_X8_ones rfl rfl (by decide +kernel) ⟨Nat.le_of_ble_eq_true rfl, Nat.le_of_ble_eq_true rfl⟩ ⟨rfl, rfl⟩ hf (ms_recv hK hP) hK hP hD hS hA hl.1 rfl (Nat.le_of_ble_eq_true rfl) dX8_opensFrame_51 (fun S6 H locs h hP hD hS => ?_)
  exact xr_rV fx hK hP hD hS h dX8_opensFrame_54
abbrev rm_X8_closesTerm : Room := { frames := 2, cells := 0, slots := 0, locals := 43 }
theorem in_X8_closesTerm : ∀ w ∈ wsX80, w ∈ wsX8_closesTerm := by decide +kernel
set_option maxHeartbeats 4000000 in
set_option maxRecDepth 100000 in
theorem ct_X8_closesTerm (l : Launch) (D : va_G) (ad : Nat → Nat) (cI cJ cR : ClassId) {S : ms_T} {Q : ms_T → Prop} (h : wp_X8_closesTerm S Q) : xr_V l D (ms_ty cI cJ cR) (ms_w ad cI cJ) yX8_closesTerm wsX8_closesTerm rm_X8_closesTerm [.ref (ad 0)] S Q := by
  refine xr_eV (cc := cX8_closesTerm) (nL := 1) (ret := none) (own := RX8) (by decide) rfl rfl (Nat.le_of_ble_eq_true rfl) ?_
  intro p e s m args below meth c ls A fx hK hA hP hD hS hl
  have hl : lv_has ls 1 [(0, .ref (ad 0))] := hl
  show W p l e rm_X8_closesTerm s m args below meth c s.heap [] 0 0 _ _
  obtain ⟨⟨hx, hb, hml, hown, hts⟩, hrt, hlk⟩ := id fx
  have hf : 0 ≤ rm_X8_closesTerm.cells ∧ 0 ≤ rm_X8_closesTerm.slots := ⟨Nat.zero_le _, Nat.zero_le _⟩
  unfold wp_X8_closesTerm at h
  refine lv_aload_n hx hb dX8_closesTerm_0 rfl (lv_at hl 0 rfl) ?_
  refine lv_aload_n hx hb dX8_closesTerm_1 rfl (lv_at hl 0 rfl) ?_
  refine ms_get 32 (v := .int (S.1 9)) fx in_X8_closesTerm (by decide) rfl (by decide +kernel) rfl hK hP dX8_closesTerm_2 ?_
  refine lv_iconst (v := 0) hx hb dX8_closesTerm_5 (by decide) ?_
  refine xr_sI (n := 2) (As := [.int (S.1 9), .int 0]) (rest := [.ref (ad 0)]) fx (ct_X8_slot l h) gX8_closesTerm_X8_slot rfl rfl (by decide +kernel) ⟨Nat.le_of_ble_eq_true rfl, Nat.le_of_ble_eq_true rfl⟩ ⟨rfl, rfl⟩ hf hl.1 rfl (Nat.le_of_ble_eq_true rfl) dX8_closesTerm_6 (fun r1 h => ?_)
  refine lv_aload_n hx hb dX8_closesTerm_9 rfl (lv_at hl 0 rfl) ?_
  refine ms_get 32 (v := .int (S.1 9)) fx in_X8_closesTerm (by decide) rfl (by decide +kernel) rfl hK hP dX8_closesTerm_10 ?_
  refine lv_iconst (v := 1) hx hb dX8_closesTerm_13 (by decide) ?_
  refine xr_sI (n := 2) (As := [.int (S.1 9), .int 1]) (rest := [.int r1, .ref (ad 0)]) fx (ct_X8_slot l h) gX8_closesTerm_X8_slot rfl rfl (by decide +kernel) ⟨Nat.le_of_ble_eq_true rfl, Nat.le_of_ble_eq_true rfl⟩ ⟨rfl, rfl⟩ hf hl.1 rfl (Nat.le_of_ble_eq_true rfl) dX8_closesTerm_14 (fun r2 h => ?_)
  refine lv_aload_n hx hb dX8_closesTerm_17 rfl (lv_at hl 0 rfl) ?_
  refine ms_get 31 (v := .ref (ad 23)) fx in_X8_closesTerm (by decide) rfl (by decide +kernel) rfl hK hP dX8_closesTerm_18 ?_
  refine lv_aload_n hx hb dX8_closesTerm_21 rfl (lv_at hl 0 rfl) ?_
  refine ms_get 32 (v := .int (S.1 9)) fx in_X8_closesTerm (by decide) rfl (by decide +kernel) rfl hK hP dX8_closesTerm_22 ?_
  obtain ⟨hi3, h⟩ := h
  refine ms_lald 8 (by decide) fx hK hP rfl hi3 dX8_closesTerm_25 ?_
  refine xr_vV (n := 3) (As := [.int r1, .int r2, .long (S.2.2 8 (S.1 9).toNatClampNeg)]) (rest := []) fx (ct_X8_adds l D ad cI cJ cR h) gX8_closesTerm_X8_adds rfl rfl (by decide +kernel) ⟨Nat.le_of_ble_eq_true rfl, Nat.le_of_ble_eq_true rfl⟩ ⟨rfl, rfl⟩ hf (ms_recv hK hP) hK hP hD hS hA hl.1 rfl (Nat.le_of_ble_eq_true rfl) dX8_closesTerm_26 (fun S4 H locs h hP hD hS => ?_)
  refine lv_aload_n hx hb dX8_closesTerm_29 rfl (lv_at hl 0 rfl) ?_
  refine lv_aload_n hx hb dX8_closesTerm_30 rfl (lv_at hl 0 rfl) ?_
  refine ms_get 32 (v := .int (S4.1 9)) fx in_X8_closesTerm (by decide) rfl (by decide +kernel) rfl hK hP dX8_closesTerm_31 ?_
  refine lv_iconst (v := 1) hx hb dX8_closesTerm_34 (by decide) ?_
  refine xr_sI (n := 2) (As := [.int (S4.1 9), .int 1]) (rest := [.ref (ad 0)]) fx (ct_X8_slot l h) gX8_closesTerm_X8_slot rfl rfl (by decide +kernel) ⟨Nat.le_of_ble_eq_true rfl, Nat.le_of_ble_eq_true rfl⟩ ⟨rfl, rfl⟩ hf hl.1 rfl (Nat.le_of_ble_eq_true rfl) dX8_closesTerm_35 (fun r5 h => ?_)
  refine xr_vV (n := 1) (As := [.int r5]) (rest := []) fx (ct_X8_ones l D ad cI cJ cR h) gX8_closesTerm_X8_ones rfl rfl (by decide +kernel) ⟨Nat.le_of_ble_eq_true rfl, Nat.le_of_ble_eq_true rfl⟩ ⟨rfl, rfl⟩ hf (ms_recv hK hP) hK hP hD hS hA hl.1 rfl (Nat.le_of_ble_eq_true rfl) dX8_closesTerm_38 (fun S6 H locs h hP hD hS => ?_)
  exact xr_rV fx hK hP hD hS h dX8_closesTerm_41
abbrev rm_X8_factor : Room := { frames := 2, cells := 0, slots := 0, locals := 50 }
theorem in_X8_factor : ∀ w ∈ wsX80, w ∈ wsX8_factor := by decide +kernel
set_option maxHeartbeats 4000000 in
set_option maxRecDepth 100000 in
theorem ct_X8_factor (l : Launch) (D : va_G) (ad : Nat → Nat) (cI cJ cR : ClassId) {S : ms_T} {Q : ms_T → Prop} (h : wp_X8_factor S Q) : xr_V l D (ms_ty cI cJ cR) (ms_w ad cI cJ) yX8_factor wsX8_factor rm_X8_factor [.ref (ad 0)] S Q := by
  refine xr_eV (cc := cX8_factor) (nL := 1) (ret := none) (own := RX8) (by decide) rfl rfl (Nat.le_of_ble_eq_true rfl) ?_
  intro p e s m args below meth c ls A fx hK hA hP hD hS hl
  have hl : lv_has ls 1 [(0, .ref (ad 0))] := hl
  show W p l e rm_X8_factor s m args below meth c s.heap [] 0 0 _ _
  obtain ⟨⟨hx, hb, hml, hown, hts⟩, hrt, hlk⟩ := id fx
  have hf : 0 ≤ rm_X8_factor.cells ∧ 0 ≤ rm_X8_factor.slots := ⟨Nat.zero_le _, Nat.zero_le _⟩
  unfold wp_X8_factor at h
  refine lv_aload_n hx hb dX8_factor_0 rfl (lv_at hl 0 rfl) ?_
  refine lv_bipush (v := 9) hx hb dX8_factor_1 (by decide) ?_
  refine lv_aload_n hx hb dX8_factor_3 rfl (lv_at hl 0 rfl) ?_
  refine ms_get 32 (v := .int (S.1 9)) fx in_X8_factor (by decide) rfl (by decide +kernel) rfl hK hP dX8_factor_4 ?_
  refine lv_iconst (v := 1) hx hb dX8_factor_7 (by decide) ?_
  refine xr_sI (n := 2) (As := [.int (S.1 9), .int 1]) (rest := [.int 9, .ref (ad 0)]) fx (ct_X8_slot l h) gX8_factor_X8_slot rfl rfl (by decide +kernel) ⟨Nat.le_of_ble_eq_true rfl, Nat.le_of_ble_eq_true rfl⟩ ⟨rfl, rfl⟩ hf hl.1 rfl (Nat.le_of_ble_eq_true rfl) dX8_factor_8 (fun r1 h => ?_)
  refine lv_bipush (v := 8) hx hb dX8_factor_11 (by decide) ?_
  refine xr_vV (n := 3) (As := [.int 9, .int r1, .int 8]) (rest := []) fx (ct_X8_multiplies l D ad cI cJ cR h) gX8_factor_X8_multiplies rfl rfl (by decide +kernel) ⟨Nat.le_of_ble_eq_true rfl, Nat.le_of_ble_eq_true rfl⟩ ⟨rfl, rfl⟩ hf (ms_recv hK hP) hK hP hD hS hA hl.1 rfl (Nat.le_of_ble_eq_true rfl) dX8_factor_13 (fun S2 H locs h hP hD hS => ?_)
  refine lv_aload_n hx hb dX8_factor_16 rfl (lv_at hl 0 rfl) ?_
  refine lv_aload_n hx hb dX8_factor_17 rfl (lv_at hl 0 rfl) ?_
  refine ms_get 32 (v := .int (S2.1 9)) fx in_X8_factor (by decide) rfl (by decide +kernel) rfl hK hP dX8_factor_18 ?_
  refine lv_iconst (v := 1) hx hb dX8_factor_21 (by decide) ?_
  refine xr_sI (n := 2) (As := [.int (S2.1 9), .int 1]) (rest := [.ref (ad 0)]) fx (ct_X8_slot l h) gX8_factor_X8_slot rfl rfl (by decide +kernel) ⟨Nat.le_of_ble_eq_true rfl, Nat.le_of_ble_eq_true rfl⟩ ⟨rfl, rfl⟩ hf hl.1 rfl (Nat.le_of_ble_eq_true rfl) dX8_factor_22 (fun r3 h => ?_)
  refine lv_bipush (v := 9) hx hb dX8_factor_25 (by decide) ?_
  refine xr_vV (n := 2) (As := [.int r3, .int 9]) (rest := []) fx (ct_X8_copies l D ad cI cJ cR h) gX8_factor_X8_copies rfl rfl (by decide +kernel) ⟨Nat.le_of_ble_eq_true rfl, Nat.le_of_ble_eq_true rfl⟩ ⟨rfl, rfl⟩ hf (ms_recv hK hP) hK hP hD hS hA hl.1 rfl (Nat.le_of_ble_eq_true rfl) dX8_factor_27 (fun S4 H locs h hP hD hS => ?_)
  exact xr_rV fx hK hP hD hS h dX8_factor_30
abbrev rm_X8_closes : Room := { frames := 3, cells := 0, slots := 0, locals := 76 }
theorem in_X8_closes : ∀ w ∈ wsX80, w ∈ wsX8_closes := by decide +kernel
set_option maxHeartbeats 4000000 in
set_option maxRecDepth 100000 in
theorem kw_X8_closes_168 {p : Program} {l : Launch} {e : Env} {s : State} {m : MethodId} {args : Array Value} {below : List Frame} {meth : Method} {c : Code} {D : va_G} {ad : Nat → Nat} {cI cJ cR : ClassId} {A : Nat → Prop}  {Q : ms_T → Prop} {S : ms_T} (fx : xr_Fx p m c meth cX8_closes 4 s args wsX8_closes RX8 none) (hK : xr_K D (ms_ty cI cJ cR) s) (hA : ∀ q, s.heap.size ≤ q → A q)  {H : Heap} {locs : List Loc} {ls : Array Slot} (hP : va_P D vwCl (ms_w ad cI cJ S) H) (hD : va_D A (ms_w ad cI cJ S)) (hS : va_S A s.heap H locs) (hl : lv_has ls 4 [(0, .ref (ad 0))]) (h : wp_X8_closes_168 Q S) : W p l e rm_X8_closes s m args below meth c H locs 0 0 (MQ below (va_Qv Q (xr_B D (ms_ty cI cJ cR) (ms_w ad cI cJ) A) A) args s 0 0 A) (F0 m 168 ls []) := by
  obtain ⟨⟨hx, hb, hml, hown, hts⟩, hrt, hlk⟩ := id fx
  have hf : 0 ≤ rm_X8_closes.cells ∧ 0 ≤ rm_X8_closes.slots := ⟨Nat.zero_le _, Nat.zero_le _⟩
  unfold wp_X8_closes_168 at h
  refine lv_aload_n hx hb dX8_closes_168 rfl (lv_at hl 0 rfl) ?_
  refine lv_dup hx hb dX8_closes_169 rfl ?_
  refine ms_get 32 (v := .int (S.1 9)) fx in_X8_closes (by decide) rfl (by decide +kernel) rfl hK hP dX8_closes_170 ?_
  refine lv_iconst (v := 1) hx hb dX8_closes_173 (by decide) ?_
  refine lv_isub hx hb dX8_closes_174 ?_
  refine ms_put 32 9 (ty := .int) fx in_X8_closes (by decide) ms_f32 (by decide +kernel) rfl rfl (by decide +kernel) rfl rfl hK hP hD hS dX8_closes_175 (fun H locs hP hD hS => ?_)
  refine lv_aload_n hx hb dX8_closes_178 rfl (lv_at hl 0 rfl) ?_
  refine xr_vV (n := 0) (As := []) (rest := []) fx (ct_X8_factor l D ad cI cJ cR h) gX8_closes_X8_factor rfl rfl (by decide +kernel) ⟨Nat.le_of_ble_eq_true rfl, Nat.le_of_ble_eq_true rfl⟩ ⟨rfl, rfl⟩ hf (ms_recv hK hP) hK hP hD hS hA hl.1 rfl (Nat.le_of_ble_eq_true rfl) dX8_closes_179 (fun S1 H locs h hP hD hS => ?_)
  exact xr_rV fx hK hP hD hS h dX8_closes_182
set_option maxHeartbeats 4000000 in
set_option maxRecDepth 100000 in
theorem kw_X8_closes_141 {p : Program} {l : Launch} {e : Env} {s : State} {m : MethodId} {args : Array Value} {below : List Frame} {meth : Method} {c : Code} {D : va_G} {ad : Nat → Nat} {cI cJ cR : ClassId} {A : Nat → Prop}  {Q : ms_T → Prop} {S : ms_T} {s0 : Int32} {s1 : Int32} {s2 : Int32} (fx : xr_Fx p m c meth cX8_closes 4 s args wsX8_closes RX8 none) (hK : xr_K D (ms_ty cI cJ cR) s) (hA : ∀ q, s.heap.size ≤ q → A q)  {H : Heap} {locs : List Loc} {ls : Array Slot} (hP : va_P D vwCl (ms_w ad cI cJ S) H) (hD : va_D A (ms_w ad cI cJ S)) (hS : va_S A s.heap H locs) (hl : lv_has ls 4 [(0, .ref (ad 0))]) (h : wp_X8_closes_141 Q S s0 s1 s2) : W p l e rm_X8_closes s m args below meth c H locs 0 0 (MQ below (va_Qv Q (xr_B D (ms_ty cI cJ cR) (ms_w ad cI cJ) A) A) args s 0 0 A) (F0 m 141 ls [.int s2, .int s1, .int s0, .ref (ad 0)]) := by
  obtain ⟨⟨hx, hb, hml, hown, hts⟩, hrt, hlk⟩ := id fx
  have hf : 0 ≤ rm_X8_closes.cells ∧ 0 ≤ rm_X8_closes.slots := ⟨Nat.zero_le _, Nat.zero_le _⟩
  unfold wp_X8_closes_141 at h
  refine xr_vV (n := 3) (As := [.int s0, .int s1, .int s2]) (rest := []) fx (ct_X8_series l D ad cI cJ cR h) gX8_closes_X8_series rfl rfl (by decide +kernel) ⟨Nat.le_of_ble_eq_true rfl, Nat.le_of_ble_eq_true rfl⟩ ⟨rfl, rfl⟩ hf (ms_recv hK hP) hK hP hD hS hA hl.1 rfl (Nat.le_of_ble_eq_true rfl) dX8_closes_141 (fun S2 H locs h hP hD hS => ?_)
  refine lv_aload_n hx hb dX8_closes_144 rfl (lv_at hl 0 rfl) ?_
  refine lv_bipush (v := 8) hx hb dX8_closes_145 (by decide) ?_
  refine lv_aload_n hx hb dX8_closes_147 rfl (lv_at hl 0 rfl) ?_
  refine ms_get 32 (v := .int (S2.1 9)) fx in_X8_closes (by decide) rfl (by decide +kernel) rfl hK hP dX8_closes_148 ?_
  refine lv_iconst (v := 1) hx hb dX8_closes_151 (by decide) ?_
  refine xr_sI (n := 2) (As := [.int (S2.1 9), .int 1]) (rest := [.int 8, .ref (ad 0)]) fx (ct_X8_slot l h) gX8_closes_X8_slot rfl rfl (by decide +kernel) ⟨Nat.le_of_ble_eq_true rfl, Nat.le_of_ble_eq_true rfl⟩ ⟨rfl, rfl⟩ hf hl.1 rfl (Nat.le_of_ble_eq_true rfl) dX8_closes_152 (fun r3 h => ?_)
  refine xr_vV (n := 2) (As := [.int 8, .int r3]) (rest := []) fx (ct_X8_copies l D ad cI cJ cR h) gX8_closes_X8_copies rfl rfl (by decide +kernel) ⟨Nat.le_of_ble_eq_true rfl, Nat.le_of_ble_eq_true rfl⟩ ⟨rfl, rfl⟩ hf (ms_recv hK hP) hK hP hD hS hA hl.1 rfl (Nat.le_of_ble_eq_true rfl) dX8_closes_155 (fun S4 H locs h hP hD hS => ?_)
  refine lv_goto (tgt := 168) hx hb dX8_closes_158 (by decide) ?_
  exact kw_X8_closes_168 fx hK hA hP hD hS (lv_sub hl [0] rfl) h
set_option maxHeartbeats 4000000 in
set_option maxRecDepth 100000 in
theorem kw_X8_closes_117 {p : Program} {l : Launch} {e : Env} {s : State} {m : MethodId} {args : Array Value} {below : List Frame} {meth : Method} {c : Code} {D : va_G} {ad : Nat → Nat} {cI cJ cR : ClassId} {A : Nat → Prop}  {Q : ms_T → Prop} {S : ms_T} {v2 : Int32} {v3 : Int32} {s0 : Int32} (fx : xr_Fx p m c meth cX8_closes 4 s args wsX8_closes RX8 none) (hK : xr_K D (ms_ty cI cJ cR) s) (hA : ∀ q, s.heap.size ≤ q → A q)  {H : Heap} {locs : List Loc} {ls : Array Slot} (hP : va_P D vwCl (ms_w ad cI cJ S) H) (hD : va_D A (ms_w ad cI cJ S)) (hS : va_S A s.heap H locs) (hl : lv_has ls 4 [(0, .ref (ad 0)), (2, .int v2), (3, .int v3)]) (h : wp_X8_closes_117 Q S v2 v3 s0) : W p l e rm_X8_closes s m args below meth c H locs 0 0 (MQ below (va_Qv Q (xr_B D (ms_ty cI cJ cR) (ms_w ad cI cJ) A) A) args s 0 0 A) (F0 m 117 ls [.int s0, .ref (ad 0)]) := by
  obtain ⟨⟨hx, hb, hml, hown, hts⟩, hrt, hlk⟩ := id fx
  have hf : 0 ≤ rm_X8_closes.cells ∧ 0 ≤ rm_X8_closes.slots := ⟨Nat.zero_le _, Nat.zero_le _⟩
  unfold wp_X8_closes_117 at h
  obtain ⟨hb5, h⟩ := h
  refine ms_put 33 10 (ty := .boolean) fx in_X8_closes (by decide) ms_f33 (by decide +kernel) rfl rfl (by decide +kernel) (xr_nar hb5) (xr_fit hb5) hK hP hD hS dX8_closes_117 (fun H locs hP hD hS => ?_)
  refine lv_aload_n hx hb dX8_closes_120 rfl (lv_at hl 0 rfl) ?_
  refine lv_aload_n hx hb dX8_closes_121 rfl (lv_at hl 0 rfl) ?_
  refine ms_get 32 (v := .int ((ms_sF S 10 s0).1 9)) fx in_X8_closes (by decide) rfl (by decide +kernel) rfl hK hP dX8_closes_122 ?_
  refine lv_iconst (v := 1) hx hb dX8_closes_125 (by decide) ?_
  refine xr_sI (n := 2) (As := [.int ((ms_sF S 10 s0).1 9), .int 1]) (rest := [.ref (ad 0)]) fx (ct_X8_slot l h) gX8_closes_X8_slot rfl rfl (by decide +kernel) ⟨Nat.le_of_ble_eq_true rfl, Nat.le_of_ble_eq_true rfl⟩ ⟨rfl, rfl⟩ hf hl.1 rfl (Nat.le_of_ble_eq_true rfl) dX8_closes_126 (fun r6 h => ?_)
  refine lv_iload_n hx hb dX8_closes_129 rfl (lv_at hl 1 rfl) ?_
  refine lv_iload_n hx hb dX8_closes_130 rfl (lv_at hl 2 rfl) ?_
  refine lv_bipush (v := 69) hx hb dX8_closes_131 (by decide) ?_
  refine lv_icmp_ne (tgt := 140) hx hb dX8_closes_133 (by decide) (fun c133 => ?_) (fun c133 => ?_)
  · have h := h.1 c133
    refine lv_iconst (v := 1) hx hb dX8_closes_140 (by decide) ?_
    exact kw_X8_closes_141 fx hK hA hP hD hS (lv_sub hl [0] rfl) h
  · have h := h.2 c133
    refine lv_iconst (v := 0) hx hb dX8_closes_136 (by decide) ?_
    refine lv_goto (tgt := 141) hx hb dX8_closes_137 (by decide) ?_
    exact kw_X8_closes_141 fx hK hA hP hD hS (lv_sub hl [0] rfl) h
set_option maxHeartbeats 4000000 in
set_option maxRecDepth 100000 in
theorem kw_X8_closes_112 {p : Program} {l : Launch} {e : Env} {s : State} {m : MethodId} {args : Array Value} {below : List Frame} {meth : Method} {c : Code} {D : va_G} {ad : Nat → Nat} {cI cJ cR : ClassId} {A : Nat → Prop}  {Q : ms_T → Prop} {S : ms_T} {v2 : Int32} {v3 : Int32} (fx : xr_Fx p m c meth cX8_closes 4 s args wsX8_closes RX8 none) (hK : xr_K D (ms_ty cI cJ cR) s) (hA : ∀ q, s.heap.size ≤ q → A q)  {H : Heap} {locs : List Loc} {ls : Array Slot} (hP : va_P D vwCl (ms_w ad cI cJ S) H) (hD : va_D A (ms_w ad cI cJ S)) (hS : va_S A s.heap H locs) (hl : lv_has ls 4 [(0, .ref (ad 0)), (2, .int v2), (3, .int v3)]) (h : wp_X8_closes_112 Q S v2 v3) : W p l e rm_X8_closes s m args below meth c H locs 0 0 (MQ below (va_Qv Q (xr_B D (ms_ty cI cJ cR) (ms_w ad cI cJ) A) A) args s 0 0 A) (F0 m 112 ls [.ref (ad 0)]) := by
  obtain ⟨⟨hx, hb, hml, hown, hts⟩, hrt, hlk⟩ := id fx
  have hf : 0 ≤ rm_X8_closes.cells ∧ 0 ≤ rm_X8_closes.slots := ⟨Nat.zero_le _, Nat.zero_le _⟩
  unfold wp_X8_closes_112 at h
  refine lv_iconst (v := 1) hx hb dX8_closes_112 (by decide) ?_
  refine lv_goto (tgt := 117) hx hb dX8_closes_113 (by decide) ?_
  exact kw_X8_closes_117 fx hK hA hP hD hS (lv_sub hl [0, 1, 2] rfl) h
set_option maxHeartbeats 4000000 in
set_option maxRecDepth 100000 in
theorem kw_X8_closes_108 {p : Program} {l : Launch} {e : Env} {s : State} {m : MethodId} {args : Array Value} {below : List Frame} {meth : Method} {c : Code} {D : va_G} {ad : Nat → Nat} {cI cJ cR : ClassId} {A : Nat → Prop}  {Q : ms_T → Prop} {S : ms_T} {v2 : Int32} {v3 : Int32} {s0 : Int64} {s1 : Int64} (fx : xr_Fx p m c meth cX8_closes 4 s args wsX8_closes RX8 none) (hK : xr_K D (ms_ty cI cJ cR) s) (hA : ∀ q, s.heap.size ≤ q → A q)  {H : Heap} {locs : List Loc} {ls : Array Slot} (hP : va_P D vwCl (ms_w ad cI cJ S) H) (hD : va_D A (ms_w ad cI cJ S)) (hS : va_S A s.heap H locs) (hl : lv_has ls 4 [(0, .ref (ad 0)), (2, .int v2), (3, .int v3)]) (h : wp_X8_closes_108 Q S v2 v3 s0 s1) : W p l e rm_X8_closes s m args below meth c H locs 0 0 (MQ below (va_Qv Q (xr_B D (ms_ty cI cJ cR) (ms_w ad cI cJ) A) A) args s 0 0 A) (F0 m 108 ls [.long s1, .long s0, .ref (ad 0)]) := by
  obtain ⟨⟨hx, hb, hml, hown, hts⟩, hrt, hlk⟩ := id fx
  have hf : 0 ≤ rm_X8_closes.cells ∧ 0 ≤ rm_X8_closes.slots := ⟨Nat.zero_le _, Nat.zero_le _⟩
  unfold wp_X8_closes_108 at h
  refine W.lcmp hx hb dX8_closes_108 ?_
  refine lv_if_eq (tgt := 116) hx hb dX8_closes_109 (by decide) (fun c109 => ?_) (fun c109 => ?_)
  · have h := h.1 ((lg_cmp_eq _ _).mp c109)
    refine lv_iconst (v := 0) hx hb dX8_closes_116 (by decide) ?_
    exact kw_X8_closes_117 fx hK hA hP hD hS (lv_sub hl [0, 1, 2] rfl) h
  · have h := h.2 (fun z => c109 ((lg_cmp_eq _ _).mpr z))
    exact kw_X8_closes_112 fx hK hA hP hD hS (lv_sub hl [0, 1, 2] rfl) h
set_option maxHeartbeats 4000000 in
set_option maxRecDepth 100000 in
theorem kw_X8_closes_79 {p : Program} {l : Launch} {e : Env} {s : State} {m : MethodId} {args : Array Value} {below : List Frame} {meth : Method} {c : Code} {D : va_G} {ad : Nat → Nat} {cI cJ cR : ClassId} {A : Nat → Prop}  {Q : ms_T → Prop} {S : ms_T} {v2 : Int32} {v3 : Int32} (fx : xr_Fx p m c meth cX8_closes 4 s args wsX8_closes RX8 none) (hK : xr_K D (ms_ty cI cJ cR) s) (hA : ∀ q, s.heap.size ≤ q → A q)  {H : Heap} {locs : List Loc} {ls : Array Slot} (hP : va_P D vwCl (ms_w ad cI cJ S) H) (hD : va_D A (ms_w ad cI cJ S)) (hS : va_S A s.heap H locs) (hl : lv_has ls 4 [(0, .ref (ad 0)), (2, .int v2), (3, .int v3)]) (h : wp_X8_closes_79 Q S v2 v3) : W p l e rm_X8_closes s m args below meth c H locs 0 0 (MQ below (va_Qv Q (xr_B D (ms_ty cI cJ cR) (ms_w ad cI cJ) A) A) args s 0 0 A) (F0 m 79 ls []) := by
  obtain ⟨⟨hx, hb, hml, hown, hts⟩, hrt, hlk⟩ := id fx
  have hf : 0 ≤ rm_X8_closes.cells ∧ 0 ≤ rm_X8_closes.slots := ⟨Nat.zero_le _, Nat.zero_le _⟩
  unfold wp_X8_closes_79 at h
  refine lv_aload_n hx hb dX8_closes_79 rfl (lv_at hl 0 rfl) ?_
  refine lv_aload_n hx hb dX8_closes_80 rfl (lv_at hl 0 rfl) ?_
  refine ms_get 33 (v := .int (S.1 10)) fx in_X8_closes (by decide) rfl (by decide +kernel) rfl hK hP dX8_closes_81 ?_
  refine lv_if_ne (tgt := 112) hx hb dX8_closes_84 (by decide) (fun c84 => ?_) (fun c84 => ?_)
  · have h := h.1 c84
    exact kw_X8_closes_112 fx hK hA hP hD hS (lv_sub hl [0, 1, 2] rfl) h
  · have h := h.2 c84
    refine lv_aload_n hx hb dX8_closes_87 rfl (lv_at hl 0 rfl) ?_
    refine ms_get 6 (v := .ref (ad 15)) fx in_X8_closes (by decide) rfl (by decide +kernel) rfl hK hP dX8_closes_88 ?_
    refine lv_sipush (v := 364) hx hb dX8_closes_91 (by decide) ?_
    refine lv_iload_n hx hb dX8_closes_94 rfl (lv_at hl 1 rfl) ?_
    refine lv_imul hx hb dX8_closes_95 ?_
    obtain ⟨hi7, h⟩ := h
    refine ms_lald 0 (by decide) fx hK hP rfl hi7 dX8_closes_96 ?_
    refine lv_iload_n hx hb dX8_closes_97 rfl (lv_at hl 2 rfl) ?_
    refine lv_bipush (v := 69) hx hb dX8_closes_98 (by decide) ?_
    refine lv_icmp_ne (tgt := 107) hx hb dX8_closes_100 (by decide) (fun c100 => ?_) (fun c100 => ?_)
    · have h := h.1 c100
      refine lv_lconst (v := 1) hx hb dX8_closes_107 (by decide) ?_
      exact kw_X8_closes_108 fx hK hA hP hD hS (lv_sub hl [0, 1, 2] rfl) h
    · have h := h.2 c100
      refine lv_lconst (v := 0) hx hb dX8_closes_103 (by decide) ?_
      refine lv_goto (tgt := 108) hx hb dX8_closes_104 (by decide) ?_
      exact kw_X8_closes_108 fx hK hA hP hD hS (lv_sub hl [0, 1, 2] rfl) h
set_option maxHeartbeats 4000000 in
set_option maxRecDepth 100000 in
theorem ct_X8_closes (l : Launch) (D : va_G) (ad : Nat → Nat) (cI cJ cR : ClassId) {S : ms_T} {a1 : Int32} {Q : ms_T → Prop} (h : wp_X8_closes S a1 Q) : xr_V l D (ms_ty cI cJ cR) (ms_w ad cI cJ) yX8_closes wsX8_closes rm_X8_closes [.ref (ad 0), .int a1] S Q := by
  refine xr_eV (cc := cX8_closes) (nL := 4) (ret := none) (own := RX8) (by decide) rfl rfl (Nat.le_of_ble_eq_true rfl) ?_
  intro p e s m args below meth c ls A fx hK hA hP hD hS hl
  have hl : lv_has ls 4 [(0, .ref (ad 0)), (1, .int a1)] := hl
  show W p l e rm_X8_closes s m args below meth c s.heap [] 0 0 _ _
  obtain ⟨⟨hx, hb, hml, hown, hts⟩, hrt, hlk⟩ := id fx
  have hf : 0 ≤ rm_X8_closes.cells ∧ 0 ≤ rm_X8_closes.slots := ⟨Nat.zero_le _, Nat.zero_le _⟩
  unfold wp_X8_closes at h
  refine lv_aload_n hx hb dX8_closes_0 rfl (lv_at hl 0 rfl) ?_
  refine xr_vV (n := 0) (As := []) (rest := []) fx (ct_X8_closesTerm l D ad cI cJ cR h) gX8_closes_X8_closesTerm rfl rfl (by decide +kernel) ⟨Nat.le_of_ble_eq_true rfl, Nat.le_of_ble_eq_true rfl⟩ ⟨rfl, rfl⟩ hf (ms_recv hK hP) hK hP hD hS hA hl.1 rfl (Nat.le_of_ble_eq_true rfl) dX8_closes_1 (fun S8 H locs h hP hD hS => ?_)
  refine lv_aload_n hx hb dX8_closes_4 rfl (lv_at hl 0 rfl) ?_
  refine ms_get 32 (v := .int (S8.1 9)) fx in_X8_closes (by decide) rfl (by decide +kernel) rfl hK hP dX8_closes_5 ?_
  refine lv_iconst (v := 0) hx hb dX8_closes_8 (by decide) ?_
  refine xr_sI (n := 2) (As := [.int (S8.1 9), .int 0]) (rest := []) fx (ct_X8_slot l h) gX8_closes_X8_slot rfl rfl (by decide +kernel) ⟨Nat.le_of_ble_eq_true rfl, Nat.le_of_ble_eq_true rfl⟩ ⟨rfl, rfl⟩ hf hl.1 rfl (Nat.le_of_ble_eq_true rfl) dX8_closes_9 (fun r9 h => ?_)
  refine lv_istore_n (lv' := [(2, .int r9), (0, .ref (ad 0)), (1, .int a1)]) hx hb dX8_closes_12 rfl hl (by decide) rfl (fun ls hl => ?_)
  refine lv_aload_n hx hb dX8_closes_13 rfl (lv_at hl 1 rfl) ?_
  refine ms_get 30 (v := .ref (ad 14)) fx in_X8_closes (by decide) rfl (by decide +kernel) rfl hK hP dX8_closes_14 ?_
  refine lv_aload_n hx hb dX8_closes_17 rfl (lv_at hl 1 rfl) ?_
  refine ms_get 32 (v := .int (S8.1 9)) fx in_X8_closes (by decide) rfl (by decide +kernel) rfl hK hP dX8_closes_18 ?_
  obtain ⟨hi10, h⟩ := h
  refine ms_iald 13 (by decide) fx hK hP rfl hi10 dX8_closes_21 ?_
  refine lv_topi (fun v3_11 ev3_11 => ?_)
  have h := h v3_11 ev3_11
  refine lv_istore_n (lv' := [(3, .int v3_11), (2, .int r9), (0, .ref (ad 0)), (1, .int a1)]) hx hb dX8_closes_22 rfl hl (by decide) rfl (fun ls hl => ?_)
  refine lv_iload_n hx hb dX8_closes_23 rfl (lv_at hl 3 rfl) ?_
  refine lv_bipush (v := 93) hx hb dX8_closes_24 (by decide) ?_
  refine lv_icmp_ne (tgt := 67) hx hb dX8_closes_26 (by decide) (fun c26 => ?_) (fun c26 => ?_)
  · have h := h.1 c26
    refine lv_iload_n hx hb dX8_closes_67 rfl (lv_at hl 0 rfl) ?_
    refine lv_bipush (v := 69) hx hb dX8_closes_68 (by decide) ?_
    refine lv_icmp_eq (tgt := 79) hx hb dX8_closes_70 (by decide) (fun c70 => ?_) (fun c70 => ?_)
    · have h := h.1 c70
      exact kw_X8_closes_79 fx hK hA hP hD hS (lv_sub hl [2, 1, 0] rfl) h
    · have h := h.2 c70
      refine lv_iload_n hx hb dX8_closes_73 rfl (lv_at hl 0 rfl) ?_
      refine lv_bipush (v := 76) hx hb dX8_closes_74 (by decide) ?_
      refine lv_icmp_ne (tgt := 161) hx hb dX8_closes_76 (by decide) (fun c76 => ?_) (fun c76 => ?_)
      · have h := h.1 c76
        refine lv_aload_n hx hb dX8_closes_161 rfl (lv_at hl 2 rfl) ?_
        refine lv_bipush (v := 8) hx hb dX8_closes_162 (by decide) ?_
        refine lv_iload_n hx hb dX8_closes_164 rfl (lv_at hl 1 rfl) ?_
        refine xr_vV (n := 2) (As := [.int 8, .int r9]) (rest := []) fx (ct_X8_copies l D ad cI cJ cR h) gX8_closes_X8_copies rfl rfl (by decide +kernel) ⟨Nat.le_of_ble_eq_true rfl, Nat.le_of_ble_eq_true rfl⟩ ⟨rfl, rfl⟩ hf (ms_recv hK hP) hK hP hD hS hA hl.1 rfl (Nat.le_of_ble_eq_true rfl) dX8_closes_165 (fun S12 H locs h hP hD hS => ?_)
        exact kw_X8_closes_168 fx hK hA hP hD hS (lv_sub hl [2] rfl) h
      · have h := h.2 c76
        exact kw_X8_closes_79 fx hK hA hP hD hS (lv_sub hl [2, 1, 0] rfl) h
  · have h := h.2 c26
    refine lv_aload_n hx hb dX8_closes_29 rfl (lv_at hl 2 rfl) ?_
    refine lv_aload_n hx hb dX8_closes_30 rfl (lv_at hl 2 rfl) ?_
    refine ms_get 32 (v := .int (S8.1 9)) fx in_X8_closes (by decide) rfl (by decide +kernel) rfl hK hP dX8_closes_31 ?_
    refine lv_iconst (v := 1) hx hb dX8_closes_34 (by decide) ?_
    refine xr_sI (n := 2) (As := [.int (S8.1 9), .int 1]) (rest := [.ref (ad 0)]) fx (ct_X8_slot l h) gX8_closes_X8_slot rfl rfl (by decide +kernel) ⟨Nat.le_of_ble_eq_true rfl, Nat.le_of_ble_eq_true rfl⟩ ⟨rfl, rfl⟩ hf hl.1 rfl (Nat.le_of_ble_eq_true rfl) dX8_closes_35 (fun r13 h => ?_)
    refine lv_aload_n hx hb dX8_closes_38 rfl (lv_at hl 2 rfl) ?_
    refine ms_get 32 (v := .int (S8.1 9)) fx in_X8_closes (by decide) rfl (by decide +kernel) rfl hK hP dX8_closes_39 ?_
    refine lv_iconst (v := 2) hx hb dX8_closes_42 (by decide) ?_
    refine xr_sI (n := 2) (As := [.int (S8.1 9), .int 2]) (rest := [.int r13, .ref (ad 0)]) fx (ct_X8_slot l h) gX8_closes_X8_slot rfl rfl (by decide +kernel) ⟨Nat.le_of_ble_eq_true rfl, Nat.le_of_ble_eq_true rfl⟩ ⟨rfl, rfl⟩ hf hl.1 rfl (Nat.le_of_ble_eq_true rfl) dX8_closes_43 (fun r14 h => ?_)
    refine lv_iload_n hx hb dX8_closes_46 rfl (lv_at hl 1 rfl) ?_
    refine xr_vV (n := 3) (As := [.int r13, .int r14, .int r9]) (rest := []) fx (ct_X8_bracketOf l D ad cI cJ cR h) gX8_closes_X8_bracketOf rfl rfl (by decide +kernel) ⟨Nat.le_of_ble_eq_true rfl, Nat.le_of_ble_eq_true rfl⟩ ⟨rfl, rfl⟩ hf (ms_recv hK hP) hK hP hD hS hA hl.1 rfl (Nat.le_of_ble_eq_true rfl) dX8_closes_47 (fun S15 H locs h hP hD hS => ?_)
    refine lv_aload_n hx hb dX8_closes_50 rfl (lv_at hl 2 rfl) ?_
    refine lv_bipush (v := 8) hx hb dX8_closes_51 (by decide) ?_
    refine lv_aload_n hx hb dX8_closes_53 rfl (lv_at hl 2 rfl) ?_
    refine ms_get 32 (v := .int (S15.1 9)) fx in_X8_closes (by decide) rfl (by decide +kernel) rfl hK hP dX8_closes_54 ?_
    refine lv_iconst (v := 1) hx hb dX8_closes_57 (by decide) ?_
    refine xr_sI (n := 2) (As := [.int (S15.1 9), .int 1]) (rest := [.int 8, .ref (ad 0)]) fx (ct_X8_slot l h) gX8_closes_X8_slot rfl rfl (by decide +kernel) ⟨Nat.le_of_ble_eq_true rfl, Nat.le_of_ble_eq_true rfl⟩ ⟨rfl, rfl⟩ hf hl.1 rfl (Nat.le_of_ble_eq_true rfl) dX8_closes_58 (fun r16 h => ?_)
    refine xr_vV (n := 2) (As := [.int 8, .int r16]) (rest := []) fx (ct_X8_copies l D ad cI cJ cR h) gX8_closes_X8_copies rfl rfl (by decide +kernel) ⟨Nat.le_of_ble_eq_true rfl, Nat.le_of_ble_eq_true rfl⟩ ⟨rfl, rfl⟩ hf (ms_recv hK hP) hK hP hD hS hA hl.1 rfl (Nat.le_of_ble_eq_true rfl) dX8_closes_61 (fun S17 H locs h hP hD hS => ?_)
    refine lv_goto (tgt := 168) hx hb dX8_closes_64 (by decide) ?_
    exact kw_X8_closes_168 fx hK hA hP hD hS (lv_sub hl [2] rfl) h
abbrev rm_X8_number : Room := { frames := 1, cells := 0, slots := 0, locals := 21 }
set_option maxHeartbeats 4000000 in
set_option maxRecDepth 100000 in
theorem kb_X8_number_5 {p : Program} {l : Launch} {e : Env} {s : State} {m : MethodId} {args : Array Value} {below : List Frame} {meth : Method} {c : Code} {D : va_G} {ad : Nat → Nat} {cI cJ cR : ClassId} {A : Nat → Prop}  {K5 : ms_T → Int32 → Int32 → Int32 → Int32 → Prop} {Q : Int32 → ms_T → Prop} {S : ms_T} {v1 : Int32} {v2 : Int32} {v3 : Int32} {v4 : Int32} (fx : xr_Fx p m c meth cX8_number 5 s args wsX8_number RX8 (some .int)) (hK : xr_K D (ms_ty cI cJ cR) s) (hA : ∀ q, s.heap.size ≤ q → A q)  (k5 : ∀ (S : ms_T) (v1 : Int32) (v2 : Int32) (v3 : Int32) (v4 : Int32) {H : Heap} {locs : List Loc} {ls : Array Slot}, va_P D vwCl (ms_w ad cI cJ S) H → va_D A (ms_w ad cI cJ S) → va_S A s.heap H locs → lv_has ls 5 [(0, .ref (ad 0)), (1, .int v1), (2, .int v2), (3, .int v3), (4, .int v4)] → K5 S v1 v2 v3 v4 → W p l e rm_X8_number s m args below meth c H locs 0 0 (MQ below (va_Qi Q (xr_B D (ms_ty cI cJ cR) (ms_w ad cI cJ) A) A) args s 0 0 A) (F0 m 5 ls [])) {H : Heap} {locs : List Loc} {ls : Array Slot} (hP : va_P D vwCl (ms_w ad cI cJ S) H) (hD : va_D A (ms_w ad cI cJ S)) (hS : va_S A s.heap H locs) (hl : lv_has ls 5 [(0, .ref (ad 0)), (1, .int v1), (2, .int v2), (3, .int v3), (4, .int v4)]) (h : wb_X8_number_5 K5 Q S v1 v2 v3 v4) : W p l e rm_X8_number s m args below meth c H locs 0 0 (MQ below (va_Qi Q (xr_B D (ms_ty cI cJ cR) (ms_w ad cI cJ) A) A) args s 0 0 A) (F0 m 5 ls []) := by
  obtain ⟨⟨hx, hb, hml, hown, hts⟩, hrt, hlk⟩ := id fx
  have hf : 0 ≤ rm_X8_number.cells ∧ 0 ≤ rm_X8_number.slots := ⟨Nat.zero_le _, Nat.zero_le _⟩
  unfold wb_X8_number_5 at h
  refine lv_iload hx hb dX8_number_5 (lv_at hl 4 rfl) ?_
  refine lv_iload_n hx hb dX8_number_7 rfl (lv_at hl 2 rfl) ?_
  refine lv_icmp_ge (tgt := 34) hx hb dX8_number_8 (by decide) (fun c8 => ?_) (fun c8 => ?_)
  · have h := h.1 c8
    refine lv_iload_n hx hb dX8_number_34 rfl (lv_at hl 3 rfl) ?_
    exact xr_rI fx hK hP hD hS h dX8_number_35
  · have h := h.2 c8
    refine lv_bipush (v := 10) hx hb dX8_number_11 (by decide) ?_
    refine lv_iload_n hx hb dX8_number_13 rfl (lv_at hl 3 rfl) ?_
    refine lv_imul hx hb dX8_number_14 ?_
    refine lv_aload_n hx hb dX8_number_15 rfl (lv_at hl 0 rfl) ?_
    refine lv_iload_n hx hb dX8_number_16 rfl (lv_at hl 1 rfl) ?_
    refine lv_iload hx hb dX8_number_17 (lv_at hl 4 rfl) ?_
    refine lv_iadd hx hb dX8_number_19 ?_
    refine xr_vI (n := 1) (As := [.int (v1 + v4)]) (rest := [.int (10 * v3)]) fx (ct_X8_byteAt l D ad cI cJ cR h) gX8_number_X8_byteAt rfl rfl (by decide +kernel) ⟨Nat.le_of_ble_eq_true rfl, Nat.le_of_ble_eq_true rfl⟩ ⟨rfl, rfl⟩ hf (ms_recv hK hP) hK hP hD hS hA hl.1 rfl (Nat.le_of_ble_eq_true rfl) dX8_number_20 (fun r2 S1 H locs h hP hD hS => ?_)
    refine lv_iadd hx hb dX8_number_23 ?_
    refine lv_bipush (v := 48) hx hb dX8_number_24 (by decide) ?_
    refine lv_isub hx hb dX8_number_26 ?_
    refine lv_topi (fun v3_3 ev3_3 => ?_)
    have h := h v3_3 ev3_3
    refine lv_istore_n (lv' := [(3, .int v3_3), (0, .ref (ad 0)), (1, .int v1), (2, .int v2), (4, .int v4)]) hx hb dX8_number_27 rfl hl (by decide) rfl (fun ls hl => ?_)
    obtain ⟨v4_4, ev4_4⟩ : ∃ z : Int32, z = v4 + 1 := ⟨_, rfl⟩
    have h := h v4_4 ev4_4
    refine lv_iinc (v := v4_4) (lv' := [(4, .int v4_4), (3, .int v3_3), (0, .ref (ad 0)), (1, .int v1), (2, .int v2)]) hx hb dX8_number_28 hl (k := 4) rfl (by rw [ev4_4]; rfl) (by decide) rfl (fun ls hl => ?_)
    refine lv_goto (tgt := 5) hx hb dX8_number_31 (by decide) ?_
    exact k5 _ _ _ _ _ hP hD hS (lv_sub hl [2, 3, 4, 1, 0] rfl) h
theorem kw_X8_number_5 {p : Program} {l : Launch} {e : Env} {s : State} {m : MethodId} {args : Array Value} {below : List Frame} {meth : Method} {c : Code} {D : va_G} {ad : Nat → Nat} {cI cJ cR : ClassId} {A : Nat → Prop}  {Q : Int32 → ms_T → Prop} (fx : xr_Fx p m c meth cX8_number 5 s args wsX8_number RX8 (some .int)) (hK : xr_K D (ms_ty cI cJ cR) s) (hA : ∀ q, s.heap.size ≤ q → A q)  : ∀ (n : Nat) (S : ms_T) (v1 : Int32) (v2 : Int32) (v3 : Int32) (v4 : Int32) {H : Heap} {locs : List Loc} {ls : Array Slot}, va_P D vwCl (ms_w ad cI cJ S) H → va_D A (ms_w ad cI cJ S) → va_S A s.heap H locs → lv_has ls 5 [(0, .ref (ad 0)), (1, .int v1), (2, .int v2), (3, .int v3), (4, .int v4)] → wp_X8_number_5 Q n S v1 v2 v3 v4 → W p l e rm_X8_number s m args below meth c H locs 0 0 (MQ below (va_Qi Q (xr_B D (ms_ty cI cJ cR) (ms_w ad cI cJ) A) A) args s 0 0 A) (F0 m 5 ls []) := by
  intro n
  induction n with
  | zero => intro S v1 v2 v3 v4 H locs ls hP hD hS hl h; exact False.elim h
  | succ n ih => intro S v1 v2 v3 v4 H locs ls hP hD hS hl h; exact kb_X8_number_5 fx hK hA ih hP hD hS hl h
set_option maxHeartbeats 4000000 in
set_option maxRecDepth 100000 in
theorem ct_X8_number (l : Launch) (D : va_G) (ad : Nat → Nat) (cI cJ cR : ClassId) {S : ms_T} {a1 : Int32} {a2 : Int32} {Q : Int32 → ms_T → Prop} (h : wp_X8_number S a1 a2 Q) : xr_I l D (ms_ty cI cJ cR) (ms_w ad cI cJ) yX8_number wsX8_number rm_X8_number [.ref (ad 0), .int a1, .int a2] S Q := by
  refine xr_eI (cc := cX8_number) (nL := 5) (ret := (some .int)) (own := RX8) (by decide) rfl rfl (Nat.le_of_ble_eq_true rfl) ?_
  intro p e s m args below meth c ls A fx hK hA hP hD hS hl
  have hl : lv_has ls 5 [(0, .ref (ad 0)), (1, .int a1), (2, .int a2)] := hl
  show W p l e rm_X8_number s m args below meth c s.heap [] 0 0 _ _
  obtain ⟨⟨hx, hb, hml, hown, hts⟩, hrt, hlk⟩ := id fx
  have hf : 0 ≤ rm_X8_number.cells ∧ 0 ≤ rm_X8_number.slots := ⟨Nat.zero_le _, Nat.zero_le _⟩
  unfold wp_X8_number at h
  refine lv_iconst (v := 0) hx hb dX8_number_0 (by decide) ?_
  refine lv_istore_n (lv' := [(3, .int 0), (0, .ref (ad 0)), (1, .int a1), (2, .int a2)]) hx hb dX8_number_1 rfl hl (by decide) rfl (fun ls hl => ?_)
  refine lv_iconst (v := 0) hx hb dX8_number_2 (by decide) ?_
  refine lv_istore (lv' := [(4, .int 0), (3, .int 0), (0, .ref (ad 0)), (1, .int a1), (2, .int a2)]) hx hb dX8_number_3 hl (by decide) rfl (fun ls hl => ?_)
  obtain ⟨n, h⟩ := h
  exact kw_X8_number_5 fx hK hA n _ _ _ _ _ hP hD hS (lv_sub hl [2, 3, 4, 1, 0] rfl) h
abbrev rm_X8_works : Room := { frames := 4, cells := 0, slots := 0, locals := 99 }
theorem in_X8_works : ∀ w ∈ wsX80, w ∈ wsX8_works := by decide +kernel
set_option maxHeartbeats 4000000 in
set_option maxRecDepth 100000 in
theorem kw_X8_works_353 {p : Program} {l : Launch} {e : Env} {s : State} {m : MethodId} {args : Array Value} {below : List Frame} {meth : Method} {c : Code} {D : va_G} {ad : Nat → Nat} {cI cJ cR : ClassId} {A : Nat → Prop} {K18 : ms_T → Int32 → Prop} {Q : ms_T → Prop} {S : ms_T} {v1 : Int32} {v3 : Int32} (fx : xr_Fx p m c meth cX8_works 4 s args wsX8_works RX8 none) (hK : xr_K D (ms_ty cI cJ cR) s) (hA : ∀ q, s.heap.size ≤ q → A q) (k18 : ∀ (S : ms_T) (v1 : Int32) {H : Heap} {locs : List Loc} {ls : Array Slot}, va_P D vwCl (ms_w ad cI cJ S) H → va_D A (ms_w ad cI cJ S) → va_S A s.heap H locs → lv_has ls 4 [(0, .ref (ad 0)), (1, .int v1)] → K18 S v1 → W p l e rm_X8_works s m args below meth c H locs 0 0 (MQ below (va_Qv Q (xr_B D (ms_ty cI cJ cR) (ms_w ad cI cJ) A) A) args s 0 0 A) (F0 m 18 ls [])) {H : Heap} {locs : List Loc} {ls : Array Slot} (hP : va_P D vwCl (ms_w ad cI cJ S) H) (hD : va_D A (ms_w ad cI cJ S)) (hS : va_S A s.heap H locs) (hl : lv_has ls 4 [(0, .ref (ad 0)), (1, .int v1), (3, .int v3)]) (h : wp_X8_works_353 K18 Q S v1 v3) : W p l e rm_X8_works s m args below meth c H locs 0 0 (MQ below (va_Qv Q (xr_B D (ms_ty cI cJ cR) (ms_w ad cI cJ) A) A) args s 0 0 A) (F0 m 353 ls []) := by
  obtain ⟨⟨hx, hb, hml, hown, hts⟩, hrt, hlk⟩ := id fx
  have hf : 0 ≤ rm_X8_works.cells ∧ 0 ≤ rm_X8_works.slots := ⟨Nat.zero_le _, Nat.zero_le _⟩
  unfold wp_X8_works_353 at h
  refine lv_iload_n hx hb dX8_works_353 rfl (lv_at hl 1 rfl) ?_
  refine lv_iload_n hx hb dX8_works_354 rfl (lv_at hl 2 rfl) ?_
  refine lv_iadd hx hb dX8_works_355 ?_
  refine lv_topi (fun v1_1 ev1_1 => ?_)
  have h := h v1_1 ev1_1
  refine lv_istore_n (lv' := [(1, .int v1_1), (0, .ref (ad 0)), (3, .int v3)]) hx hb dX8_works_356 rfl hl (by decide) rfl (fun ls hl => ?_)
  refine lv_goto (tgt := 18) hx hb dX8_works_357 (by decide) ?_
  exact k18 _ _ hP hD hS (lv_sub hl [1, 0] rfl) h
set_option maxHeartbeats 4000000 in
set_option maxRecDepth 100000 in
theorem kw_X8_works_201 {p : Program} {l : Launch} {e : Env} {s : State} {m : MethodId} {args : Array Value} {below : List Frame} {meth : Method} {c : Code} {D : va_G} {ad : Nat → Nat} {cI cJ cR : ClassId} {A : Nat → Prop} {K18 : ms_T → Int32 → Prop} {Q : ms_T → Prop} {S : ms_T} {v1 : Int32} {v3 : Int32} {s0 : Int32} {s1 : Int64} (fx : xr_Fx p m c meth cX8_works 4 s args wsX8_works RX8 none) (hK : xr_K D (ms_ty cI cJ cR) s) (hA : ∀ q, s.heap.size ≤ q → A q) (k18 : ∀ (S : ms_T) (v1 : Int32) {H : Heap} {locs : List Loc} {ls : Array Slot}, va_P D vwCl (ms_w ad cI cJ S) H → va_D A (ms_w ad cI cJ S) → va_S A s.heap H locs → lv_has ls 4 [(0, .ref (ad 0)), (1, .int v1)] → K18 S v1 → W p l e rm_X8_works s m args below meth c H locs 0 0 (MQ below (va_Qv Q (xr_B D (ms_ty cI cJ cR) (ms_w ad cI cJ) A) A) args s 0 0 A) (F0 m 18 ls [])) {H : Heap} {locs : List Loc} {ls : Array Slot} (hP : va_P D vwCl (ms_w ad cI cJ S) H) (hD : va_D A (ms_w ad cI cJ S)) (hS : va_S A s.heap H locs) (hl : lv_has ls 4 [(0, .ref (ad 0)), (1, .int v1), (3, .int v3)]) (h : wp_X8_works_201 K18 Q S v1 v3 s0 s1) : W p l e rm_X8_works s m args below meth c H locs 0 0 (MQ below (va_Qv Q (xr_B D (ms_ty cI cJ cR) (ms_w ad cI cJ) A) A) args s 0 0 A) (F0 m 201 ls [.long s1, .int s0, .ref (ad 23)]) := by
  obtain ⟨⟨hx, hb, hml, hown, hts⟩, hrt, hlk⟩ := id fx
  have hf : 0 ≤ rm_X8_works.cells ∧ 0 ≤ rm_X8_works.slots := ⟨Nat.zero_le _, Nat.zero_le _⟩
  unfold wp_X8_works_201 at h
  obtain ⟨hi2, h⟩ := h
  refine ms_last 8 (by decide) fx hK hP hD hS rfl hi2 dX8_works_201 (fun H locs hP hD hS => ?_)
  refine lv_goto (tgt := 353) hx hb dX8_works_202 (by decide) ?_
  exact kw_X8_works_353 fx hK hA k18 hP hD hS (lv_sub hl [0, 1, 2] rfl) h
set_option maxHeartbeats 4000000 in
set_option maxRecDepth 100000 in
theorem kw_X8_works_176 {p : Program} {l : Launch} {e : Env} {s : State} {m : MethodId} {args : Array Value} {below : List Frame} {meth : Method} {c : Code} {D : va_G} {ad : Nat → Nat} {cI cJ cR : ClassId} {A : Nat → Prop} {K18 : ms_T → Int32 → Prop} {Q : ms_T → Prop} {S : ms_T} {v1 : Int32} {v2 : Int32} {v3 : Int32} (fx : xr_Fx p m c meth cX8_works 4 s args wsX8_works RX8 none) (hK : xr_K D (ms_ty cI cJ cR) s) (hA : ∀ q, s.heap.size ≤ q → A q) (k18 : ∀ (S : ms_T) (v1 : Int32) {H : Heap} {locs : List Loc} {ls : Array Slot}, va_P D vwCl (ms_w ad cI cJ S) H → va_D A (ms_w ad cI cJ S) → va_S A s.heap H locs → lv_has ls 4 [(0, .ref (ad 0)), (1, .int v1)] → K18 S v1 → W p l e rm_X8_works s m args below meth c H locs 0 0 (MQ below (va_Qv Q (xr_B D (ms_ty cI cJ cR) (ms_w ad cI cJ) A) A) args s 0 0 A) (F0 m 18 ls [])) {H : Heap} {locs : List Loc} {ls : Array Slot} (hP : va_P D vwCl (ms_w ad cI cJ S) H) (hD : va_D A (ms_w ad cI cJ S)) (hS : va_S A s.heap H locs) (hl : lv_has ls 4 [(0, .ref (ad 0)), (1, .int v1), (2, .int v2), (3, .int v3)]) (h : wp_X8_works_176 K18 Q S v1 v2 v3) : W p l e rm_X8_works s m args below meth c H locs 0 0 (MQ below (va_Qv Q (xr_B D (ms_ty cI cJ cR) (ms_w ad cI cJ) A) A) args s 0 0 A) (F0 m 176 ls []) := by
  obtain ⟨⟨hx, hb, hml, hown, hts⟩, hrt, hlk⟩ := id fx
  have hf : 0 ≤ rm_X8_works.cells ∧ 0 ≤ rm_X8_works.slots := ⟨Nat.zero_le _, Nat.zero_le _⟩
  unfold wp_X8_works_176 at h
  refine lv_aload_n hx hb dX8_works_176 rfl (lv_at hl 0 rfl) ?_
  refine xr_vV (n := 0) (As := []) (rest := []) fx (ct_X8_closesTerm l D ad cI cJ cR h) gX8_works_X8_closesTerm rfl rfl (by decide +kernel) ⟨Nat.le_of_ble_eq_true rfl, Nat.le_of_ble_eq_true rfl⟩ ⟨rfl, rfl⟩ hf (ms_recv hK hP) hK hP hD hS hA hl.1 rfl (Nat.le_of_ble_eq_true rfl) dX8_works_177 (fun S3 H locs h hP hD hS => ?_)
  refine lv_aload_n hx hb dX8_works_180 rfl (lv_at hl 0 rfl) ?_
  refine ms_get 31 (v := .ref (ad 23)) fx in_X8_works (by decide) rfl (by decide +kernel) rfl hK hP dX8_works_181 ?_
  refine lv_aload_n hx hb dX8_works_184 rfl (lv_at hl 0 rfl) ?_
  refine ms_get 32 (v := .int (S3.1 9)) fx in_X8_works (by decide) rfl (by decide +kernel) rfl hK hP dX8_works_185 ?_
  refine lv_iload_n hx hb dX8_works_188 rfl (lv_at hl 2 rfl) ?_
  refine lv_bipush (v := 43) hx hb dX8_works_189 (by decide) ?_
  refine lv_icmp_ne (tgt := 198) hx hb dX8_works_191 (by decide) (fun c191 => ?_) (fun c191 => ?_)
  · have h := h.1 c191
    refine lv_ldc2 (v := 2147483646) hx hb hown (hts (.constantLong RX8 175 (2147483646)) (by decide +kernel)) dX8_works_198 ?_
    exact kw_X8_works_201 fx hK hA k18 hP hD hS (lv_sub hl [0, 1, 3] rfl) h
  · have h := h.2 c191
    refine lv_lconst (v := 1) hx hb dX8_works_194 (by decide) ?_
    refine lv_goto (tgt := 201) hx hb dX8_works_195 (by decide) ?_
    exact kw_X8_works_201 fx hK hA k18 hP hD hS (lv_sub hl [0, 1, 3] rfl) h
set_option maxHeartbeats 4000000 in
set_option maxRecDepth 100000 in
theorem kw_X8_works_272 {p : Program} {l : Launch} {e : Env} {s : State} {m : MethodId} {args : Array Value} {below : List Frame} {meth : Method} {c : Code} {D : va_G} {ad : Nat → Nat} {cI cJ cR : ClassId} {A : Nat → Prop} {K18 : ms_T → Int32 → Prop} {Q : ms_T → Prop} {S : ms_T} {v1 : Int32} {v2 : Int32} {v3 : Int32} (fx : xr_Fx p m c meth cX8_works 4 s args wsX8_works RX8 none) (hK : xr_K D (ms_ty cI cJ cR) s) (hA : ∀ q, s.heap.size ≤ q → A q) (k18 : ∀ (S : ms_T) (v1 : Int32) {H : Heap} {locs : List Loc} {ls : Array Slot}, va_P D vwCl (ms_w ad cI cJ S) H → va_D A (ms_w ad cI cJ S) → va_S A s.heap H locs → lv_has ls 4 [(0, .ref (ad 0)), (1, .int v1)] → K18 S v1 → W p l e rm_X8_works s m args below meth c H locs 0 0 (MQ below (va_Qv Q (xr_B D (ms_ty cI cJ cR) (ms_w ad cI cJ) A) A) args s 0 0 A) (F0 m 18 ls [])) {H : Heap} {locs : List Loc} {ls : Array Slot} (hP : va_P D vwCl (ms_w ad cI cJ S) H) (hD : va_D A (ms_w ad cI cJ S)) (hS : va_S A s.heap H locs) (hl : lv_has ls 4 [(0, .ref (ad 0)), (1, .int v1), (2, .int v2), (3, .int v3)]) (h : wp_X8_works_272 K18 Q S v1 v2 v3) : W p l e rm_X8_works s m args below meth c H locs 0 0 (MQ below (va_Qv Q (xr_B D (ms_ty cI cJ cR) (ms_w ad cI cJ) A) A) args s 0 0 A) (F0 m 272 ls []) := by
  obtain ⟨⟨hx, hb, hml, hown, hts⟩, hrt, hlk⟩ := id fx
  have hf : 0 ≤ rm_X8_works.cells ∧ 0 ≤ rm_X8_works.slots := ⟨Nat.zero_le _, Nat.zero_le _⟩
  unfold wp_X8_works_272 at h
  refine lv_aload_n hx hb dX8_works_272 rfl (lv_at hl 0 rfl) ?_
  refine lv_iload_n hx hb dX8_works_273 rfl (lv_at hl 2 rfl) ?_
  refine xr_vV (n := 1) (As := [.int v2]) (rest := []) fx (ct_X8_closes l D ad cI cJ cR h) gX8_works_X8_closes rfl rfl (by decide +kernel) ⟨Nat.le_of_ble_eq_true rfl, Nat.le_of_ble_eq_true rfl⟩ ⟨rfl, rfl⟩ hf (ms_recv hK hP) hK hP hD hS hA hl.1 rfl (Nat.le_of_ble_eq_true rfl) dX8_works_274 (fun S4 H locs h hP hD hS => ?_)
  refine lv_goto (tgt := 353) hx hb dX8_works_277 (by decide) ?_
  exact kw_X8_works_353 fx hK hA k18 hP hD hS (lv_sub hl [0, 1, 3] rfl) h
set_option maxHeartbeats 4000000 in
set_option maxRecDepth 100000 in
theorem kw_X8_works_292 {p : Program} {l : Launch} {e : Env} {s : State} {m : MethodId} {args : Array Value} {below : List Frame} {meth : Method} {c : Code} {D : va_G} {ad : Nat → Nat} {cI cJ cR : ClassId} {A : Nat → Prop} {K18 : ms_T → Int32 → Prop} {Q : ms_T → Prop} {S : ms_T} {v1 : Int32} {v2 : Int32} {v3 : Int32} (fx : xr_Fx p m c meth cX8_works 4 s args wsX8_works RX8 none) (hK : xr_K D (ms_ty cI cJ cR) s) (hA : ∀ q, s.heap.size ≤ q → A q) (k18 : ∀ (S : ms_T) (v1 : Int32) {H : Heap} {locs : List Loc} {ls : Array Slot}, va_P D vwCl (ms_w ad cI cJ S) H → va_D A (ms_w ad cI cJ S) → va_S A s.heap H locs → lv_has ls 4 [(0, .ref (ad 0)), (1, .int v1)] → K18 S v1 → W p l e rm_X8_works s m args below meth c H locs 0 0 (MQ below (va_Qv Q (xr_B D (ms_ty cI cJ cR) (ms_w ad cI cJ) A) A) args s 0 0 A) (F0 m 18 ls [])) {H : Heap} {locs : List Loc} {ls : Array Slot} (hP : va_P D vwCl (ms_w ad cI cJ S) H) (hD : va_D A (ms_w ad cI cJ S)) (hS : va_S A s.heap H locs) (hl : lv_has ls 4 [(0, .ref (ad 0)), (1, .int v1), (2, .int v2), (3, .int v3)]) (h : wp_X8_works_292 K18 Q S v1 v2 v3) : W p l e rm_X8_works s m args below meth c H locs 0 0 (MQ below (va_Qv Q (xr_B D (ms_ty cI cJ cR) (ms_w ad cI cJ) A) A) args s 0 0 A) (F0 m 292 ls []) := by
  obtain ⟨⟨hx, hb, hml, hown, hts⟩, hrt, hlk⟩ := id fx
  have hf : 0 ≤ rm_X8_works.cells ∧ 0 ≤ rm_X8_works.slots := ⟨Nat.zero_le _, Nat.zero_le _⟩
  unfold wp_X8_works_292 at h
  refine lv_aload_n hx hb dX8_works_292 rfl (lv_at hl 0 rfl) ?_
  refine lv_iload_n hx hb dX8_works_293 rfl (lv_at hl 2 rfl) ?_
  refine xr_vV (n := 1) (As := [.int v2]) (rest := []) fx (ct_X8_opensFrame l D ad cI cJ cR h) gX8_works_X8_opensFrame rfl rfl (by decide +kernel) ⟨Nat.le_of_ble_eq_true rfl, Nat.le_of_ble_eq_true rfl⟩ ⟨rfl, rfl⟩ hf (ms_recv hK hP) hK hP hD hS hA hl.1 rfl (Nat.le_of_ble_eq_true rfl) dX8_works_294 (fun S5 H locs h hP hD hS => ?_)
  refine lv_goto (tgt := 353) hx hb dX8_works_297 (by decide) ?_
  exact kw_X8_works_353 fx hK hA k18 hP hD hS (lv_sub hl [0, 1, 3] rfl) h
set_option maxHeartbeats 4000000 in
set_option maxRecDepth 100000 in
theorem kw_X8_works_312 {p : Program} {l : Launch} {e : Env} {s : State} {m : MethodId} {args : Array Value} {below : List Frame} {meth : Method} {c : Code} {D : va_G} {ad : Nat → Nat} {cI cJ cR : ClassId} {A : Nat → Prop} {K18 : ms_T → Int32 → Prop} {Q : ms_T → Prop} {S : ms_T} {v1 : Int32} {v2 : Int32} (fx : xr_Fx p m c meth cX8_works 4 s args wsX8_works RX8 none) (hK : xr_K D (ms_ty cI cJ cR) s) (hA : ∀ q, s.heap.size ≤ q → A q) (k18 : ∀ (S : ms_T) (v1 : Int32) {H : Heap} {locs : List Loc} {ls : Array Slot}, va_P D vwCl (ms_w ad cI cJ S) H → va_D A (ms_w ad cI cJ S) → va_S A s.heap H locs → lv_has ls 4 [(0, .ref (ad 0)), (1, .int v1)] → K18 S v1 → W p l e rm_X8_works s m args below meth c H locs 0 0 (MQ below (va_Qv Q (xr_B D (ms_ty cI cJ cR) (ms_w ad cI cJ) A) A) args s 0 0 A) (F0 m 18 ls [])) {H : Heap} {locs : List Loc} {ls : Array Slot} (hP : va_P D vwCl (ms_w ad cI cJ S) H) (hD : va_D A (ms_w ad cI cJ S)) (hS : va_S A s.heap H locs) (hl : lv_has ls 4 [(0, .ref (ad 0)), (1, .int v1), (2, .int v2)]) (h : wp_X8_works_312 K18 Q S v1 v2) : W p l e rm_X8_works s m args below meth c H locs 0 0 (MQ below (va_Qv Q (xr_B D (ms_ty cI cJ cR) (ms_w ad cI cJ) A) A) args s 0 0 A) (F0 m 312 ls []) := by
  obtain ⟨⟨hx, hb, hml, hown, hts⟩, hrt, hlk⟩ := id fx
  have hf : 0 ≤ rm_X8_works.cells ∧ 0 ≤ rm_X8_works.slots := ⟨Nat.zero_le _, Nat.zero_le _⟩
  unfold wp_X8_works_312 at h
  refine lv_aload_n hx hb dX8_works_312 rfl (lv_at hl 0 rfl) ?_
  refine lv_iload_n hx hb dX8_works_313 rfl (lv_at hl 2 rfl) ?_
  refine xr_vV (n := 1) (As := [.int v2]) (rest := []) fx (ct_X8_opensFrame l D ad cI cJ cR h) gX8_works_X8_opensFrame rfl rfl (by decide +kernel) ⟨Nat.le_of_ble_eq_true rfl, Nat.le_of_ble_eq_true rfl⟩ ⟨rfl, rfl⟩ hf (ms_recv hK hP) hK hP hD hS hA hl.1 rfl (Nat.le_of_ble_eq_true rfl) dX8_works_314 (fun S6 H locs h hP hD hS => ?_)
  refine lv_iconst (v := 2) hx hb dX8_works_317 (by decide) ?_
  refine lv_istore_n (lv' := [(3, .int 2), (0, .ref (ad 0)), (1, .int v1), (2, .int v2)]) hx hb dX8_works_318 rfl hl (by decide) rfl (fun ls hl => ?_)
  refine lv_goto (tgt := 353) hx hb dX8_works_319 (by decide) ?_
  exact kw_X8_works_353 fx hK hA k18 hP hD hS (lv_sub hl [1, 2, 0] rfl) h
set_option maxHeartbeats 4000000 in
set_option maxRecDepth 100000 in
theorem kb_X8_works_18 {p : Program} {l : Launch} {e : Env} {s : State} {m : MethodId} {args : Array Value} {below : List Frame} {meth : Method} {c : Code} {D : va_G} {ad : Nat → Nat} {cI cJ cR : ClassId} {A : Nat → Prop}  {K18 : ms_T → Int32 → Prop} {Q : ms_T → Prop} {S : ms_T} {v1 : Int32} (fx : xr_Fx p m c meth cX8_works 4 s args wsX8_works RX8 none) (hK : xr_K D (ms_ty cI cJ cR) s) (hA : ∀ q, s.heap.size ≤ q → A q)  (k18 : ∀ (S : ms_T) (v1 : Int32) {H : Heap} {locs : List Loc} {ls : Array Slot}, va_P D vwCl (ms_w ad cI cJ S) H → va_D A (ms_w ad cI cJ S) → va_S A s.heap H locs → lv_has ls 4 [(0, .ref (ad 0)), (1, .int v1)] → K18 S v1 → W p l e rm_X8_works s m args below meth c H locs 0 0 (MQ below (va_Qv Q (xr_B D (ms_ty cI cJ cR) (ms_w ad cI cJ) A) A) args s 0 0 A) (F0 m 18 ls [])) {H : Heap} {locs : List Loc} {ls : Array Slot} (hP : va_P D vwCl (ms_w ad cI cJ S) H) (hD : va_D A (ms_w ad cI cJ S)) (hS : va_S A s.heap H locs) (hl : lv_has ls 4 [(0, .ref (ad 0)), (1, .int v1)]) (h : wb_X8_works_18 K18 Q S v1) : W p l e rm_X8_works s m args below meth c H locs 0 0 (MQ below (va_Qv Q (xr_B D (ms_ty cI cJ cR) (ms_w ad cI cJ) A) A) args s 0 0 A) (F0 m 18 ls []) := by
  obtain ⟨⟨hx, hb, hml, hown, hts⟩, hrt, hlk⟩ := id fx
  have hf : 0 ≤ rm_X8_works.cells ∧ 0 ≤ rm_X8_works.slots := ⟨Nat.zero_le _, Nat.zero_le _⟩
  unfold wb_X8_works_18 at h
  refine lv_iload_n hx hb dX8_works_18 rfl (lv_at hl 1 rfl) ?_
  refine lv_aload_n hx hb dX8_works_19 rfl (lv_at hl 0 rfl) ?_
  refine ms_get 27 (v := .int (S.1 7)) fx in_X8_works (by decide) rfl (by decide +kernel) rfl hK hP dX8_works_20 ?_
  refine lv_icmp_ge (tgt := 360) hx hb dX8_works_23 (by decide) (fun c23 => ?_) (fun c23 => ?_)
  · have h := h.1 c23
    refine lv_aload_n hx hb dX8_works_360 rfl (lv_at hl 0 rfl) ?_
    refine xr_vV (n := 0) (As := []) (rest := []) fx (ct_X8_closesTerm l D ad cI cJ cR h) gX8_works_X8_closesTerm rfl rfl (by decide +kernel) ⟨Nat.le_of_ble_eq_true rfl, Nat.le_of_ble_eq_true rfl⟩ ⟨rfl, rfl⟩ hf (ms_recv hK hP) hK hP hD hS hA hl.1 rfl (Nat.le_of_ble_eq_true rfl) dX8_works_361 (fun S7 H locs h hP hD hS => ?_)
    exact xr_rV fx hK hP hD hS h dX8_works_364
  · have h := h.2 c23
    refine lv_aload_n hx hb dX8_works_26 rfl (lv_at hl 0 rfl) ?_
    refine ms_get 33 (v := .int (S.1 10)) fx in_X8_works (by decide) rfl (by decide +kernel) rfl hK hP dX8_works_27 ?_
    refine lv_if_ne (tgt := 360) hx hb dX8_works_30 (by decide) (fun c30 => ?_) (fun c30 => ?_)
    · have h := h.1 c30
      refine lv_aload_n hx hb dX8_works_360 rfl (lv_at hl 0 rfl) ?_
      refine xr_vV (n := 0) (As := []) (rest := []) fx (ct_X8_closesTerm l D ad cI cJ cR h) gX8_works_X8_closesTerm rfl rfl (by decide +kernel) ⟨Nat.le_of_ble_eq_true rfl, Nat.le_of_ble_eq_true rfl⟩ ⟨rfl, rfl⟩ hf (ms_recv hK hP) hK hP hD hS hA hl.1 rfl (Nat.le_of_ble_eq_true rfl) dX8_works_361 (fun S8 H locs h hP hD hS => ?_)
      exact xr_rV fx hK hP hD hS h dX8_works_364
    · have h := h.2 c30
      refine lv_aload_n hx hb dX8_works_33 rfl (lv_at hl 0 rfl) ?_
      refine lv_iload_n hx hb dX8_works_34 rfl (lv_at hl 1 rfl) ?_
      refine xr_vI (n := 1) (As := [.int v1]) (rest := []) fx (ct_X8_byteAt l D ad cI cJ cR h) gX8_works_X8_byteAt rfl rfl (by decide +kernel) ⟨Nat.le_of_ble_eq_true rfl, Nat.le_of_ble_eq_true rfl⟩ ⟨rfl, rfl⟩ hf (ms_recv hK hP) hK hP hD hS hA hl.1 rfl (Nat.le_of_ble_eq_true rfl) dX8_works_35 (fun r10 S9 H locs h hP hD hS => ?_)
      refine lv_istore_n (lv' := [(2, .int r10), (0, .ref (ad 0)), (1, .int v1)]) hx hb dX8_works_38 rfl hl (by decide) rfl (fun ls hl => ?_)
      refine lv_iconst (v := 1) hx hb dX8_works_39 (by decide) ?_
      refine lv_istore_n (lv' := [(3, .int 1), (2, .int r10), (0, .ref (ad 0)), (1, .int v1)]) hx hb dX8_works_40 rfl hl (by decide) rfl (fun ls hl => ?_)
      refine lv_iload_n hx hb dX8_works_41 rfl (lv_at hl 1 rfl) ?_
      refine xr_sI (n := 1) (As := [.int r10]) (rest := []) fx (ct_X8_isDigit l h) gX8_works_X8_isDigit rfl rfl (by decide +kernel) ⟨Nat.le_of_ble_eq_true rfl, Nat.le_of_ble_eq_true rfl⟩ ⟨rfl, rfl⟩ hf hl.1 rfl (Nat.le_of_ble_eq_true rfl) dX8_works_42 (fun r11 h => ?_)
      refine lv_if_eq (tgt := 82) hx hb dX8_works_45 (by decide) (fun c45 => ?_) (fun c45 => ?_)
      · have h := h.1 c45
        refine lv_iload_n hx hb dX8_works_82 rfl (lv_at hl 1 rfl) ?_
        refine lv_bipush (v := 114) hx hb dX8_works_83 (by decide) ?_
        refine lv_icmp_ne (tgt := 113) hx hb dX8_works_85 (by decide) (fun c85 => ?_) (fun c85 => ?_)
        · have h := h.1 c85
          refine lv_iload_n hx hb dX8_works_113 rfl (lv_at hl 1 rfl) ?_
          refine lv_bipush (v := 47) hx hb dX8_works_114 (by decide) ?_
          refine lv_icmp_ne (tgt := 164) hx hb dX8_works_116 (by decide) (fun c116 => ?_) (fun c116 => ?_)
          · have h := h.1 c116
            refine lv_iload_n hx hb dX8_works_164 rfl (lv_at hl 1 rfl) ?_
            refine lv_bipush (v := 43) hx hb dX8_works_165 (by decide) ?_
            refine lv_icmp_eq (tgt := 176) hx hb dX8_works_167 (by decide) (fun c167 => ?_) (fun c167 => ?_)
            · have h := h.1 c167
              exact kw_X8_works_176 fx hK hA k18 hP hD hS (lv_sub hl [2, 3, 1, 0] rfl) h
            · have h := h.2 c167
              refine lv_iload_n hx hb dX8_works_170 rfl (lv_at hl 1 rfl) ?_
              refine lv_bipush (v := 45) hx hb dX8_works_171 (by decide) ?_
              refine lv_icmp_ne (tgt := 205) hx hb dX8_works_173 (by decide) (fun c173 => ?_) (fun c173 => ?_)
              · have h := h.1 c173
                refine lv_iload_n hx hb dX8_works_205 rfl (lv_at hl 1 rfl) ?_
                refine lv_bipush (v := 44) hx hb dX8_works_206 (by decide) ?_
                refine lv_icmp_ne (tgt := 260) hx hb dX8_works_208 (by decide) (fun c208 => ?_) (fun c208 => ?_)
                · have h := h.1 c208
                  refine lv_iload_n hx hb dX8_works_260 rfl (lv_at hl 1 rfl) ?_
                  refine lv_bipush (v := 41) hx hb dX8_works_261 (by decide) ?_
                  refine lv_icmp_eq (tgt := 272) hx hb dX8_works_263 (by decide) (fun c263 => ?_) (fun c263 => ?_)
                  · have h := h.1 c263
                    exact kw_X8_works_272 fx hK hA k18 hP hD hS (lv_sub hl [2, 3, 1, 0] rfl) h
                  · have h := h.2 c263
                    refine lv_iload_n hx hb dX8_works_266 rfl (lv_at hl 1 rfl) ?_
                    refine lv_bipush (v := 93) hx hb dX8_works_267 (by decide) ?_
                    refine lv_icmp_ne (tgt := 280) hx hb dX8_works_269 (by decide) (fun c269 => ?_) (fun c269 => ?_)
                    · have h := h.1 c269
                      refine lv_iload_n hx hb dX8_works_280 rfl (lv_at hl 1 rfl) ?_
                      refine lv_bipush (v := 91) hx hb dX8_works_281 (by decide) ?_
                      refine lv_icmp_eq (tgt := 292) hx hb dX8_works_283 (by decide) (fun c283 => ?_) (fun c283 => ?_)
                      · have h := h.1 c283
                        exact kw_X8_works_292 fx hK hA k18 hP hD hS (lv_sub hl [2, 3, 1, 0] rfl) h
                      · have h := h.2 c283
                        refine lv_iload_n hx hb dX8_works_286 rfl (lv_at hl 1 rfl) ?_
                        refine lv_bipush (v := 40) hx hb dX8_works_287 (by decide) ?_
                        refine lv_icmp_ne (tgt := 300) hx hb dX8_works_289 (by decide) (fun c289 => ?_) (fun c289 => ?_)
                        · have h := h.1 c289
                          refine lv_iload_n hx hb dX8_works_300 rfl (lv_at hl 1 rfl) ?_
                          refine lv_bipush (v := 69) hx hb dX8_works_301 (by decide) ?_
                          refine lv_icmp_eq (tgt := 312) hx hb dX8_works_303 (by decide) (fun c303 => ?_) (fun c303 => ?_)
                          · have h := h.1 c303
                            exact kw_X8_works_312 fx hK hA k18 hP hD hS (lv_sub hl [2, 3, 1] rfl) h
                          · have h := h.2 c303
                            refine lv_iload_n hx hb dX8_works_306 rfl (lv_at hl 1 rfl) ?_
                            refine lv_bipush (v := 76) hx hb dX8_works_307 (by decide) ?_
                            refine lv_icmp_ne (tgt := 322) hx hb dX8_works_309 (by decide) (fun c309 => ?_) (fun c309 => ?_)
                            · have h := h.1 c309
                              refine lv_aload_n hx hb dX8_works_322 rfl (lv_at hl 2 rfl) ?_
                              refine lv_bipush (v := 8) hx hb dX8_works_323 (by decide) ?_
                              refine xr_vV (n := 1) (As := [.int 8]) (rest := []) fx (ct_X8_clears l D ad cI cJ cR h) gX8_works_X8_clears rfl rfl (by decide +kernel) ⟨Nat.le_of_ble_eq_true rfl, Nat.le_of_ble_eq_true rfl⟩ ⟨rfl, rfl⟩ hf (ms_recv hK hP) hK hP hD hS hA hl.1 rfl (Nat.le_of_ble_eq_true rfl) dX8_works_325 (fun S12 H locs h hP hD hS => ?_)
                              refine lv_aload_n hx hb dX8_works_328 rfl (lv_at hl 2 rfl) ?_
                              refine ms_get 6 (v := .ref (ad 15)) fx in_X8_works (by decide) rfl (by decide +kernel) rfl hK hP dX8_works_329 ?_
                              refine lv_sipush (v := 2912) hx hb dX8_works_332 (by decide) ?_
                              refine lv_aload_n hx hb dX8_works_335 rfl (lv_at hl 2 rfl) ?_
                              refine ms_get 4 (v := .ref (ad 2)) fx in_X8_works (by decide) rfl (by decide +kernel) rfl hK hP dX8_works_336 ?_
                              refine lv_iconst (v := 1) hx hb dX8_works_339 (by decide) ?_
                              obtain ⟨hi13, h⟩ := h
                              refine ms_iald 1 (by decide) fx hK hP rfl hi13 dX8_works_340 ?_
                              refine lv_iadd hx hb dX8_works_341 ?_
                              refine lv_iload_n hx hb dX8_works_342 rfl (lv_at hl 1 rfl) ?_
                              refine lv_iadd hx hb dX8_works_343 ?_
                              refine lv_bipush (v := 97) hx hb dX8_works_344 (by decide) ?_
                              refine lv_isub hx hb dX8_works_346 ?_
                              refine lv_lconst (v := 1) hx hb dX8_works_347 (by decide) ?_
                              obtain ⟨hi14, h⟩ := h
                              refine ms_last 0 (by decide) fx hK hP hD hS rfl hi14 dX8_works_348 (fun H locs hP hD hS => ?_)
                              refine lv_aload_n hx hb dX8_works_349 rfl (lv_at hl 2 rfl) ?_
                              refine xr_vV (n := 0) (As := []) (rest := []) fx (ct_X8_factor l D ad cI cJ cR h) gX8_works_X8_factor rfl rfl (by decide +kernel) ⟨Nat.le_of_ble_eq_true rfl, Nat.le_of_ble_eq_true rfl⟩ ⟨rfl, rfl⟩ hf (ms_recv hK hP) hK hP hD hS hA hl.1 rfl (Nat.le_of_ble_eq_true rfl) dX8_works_350 (fun S15 H locs h hP hD hS => ?_)
                              exact kw_X8_works_353 fx hK hA k18 hP hD hS (lv_sub hl [2, 3, 0] rfl) h
                            · have h := h.2 c309
                              exact kw_X8_works_312 fx hK hA k18 hP hD hS (lv_sub hl [2, 3, 1] rfl) h
                        · have h := h.2 c289
                          exact kw_X8_works_292 fx hK hA k18 hP hD hS (lv_sub hl [2, 3, 1, 0] rfl) h
                    · have h := h.2 c269
                      exact kw_X8_works_272 fx hK hA k18 hP hD hS (lv_sub hl [2, 3, 1, 0] rfl) h
                · have h := h.2 c208
                  refine lv_aload_n hx hb dX8_works_211 rfl (lv_at hl 2 rfl) ?_
                  refine xr_vV (n := 0) (As := []) (rest := []) fx (ct_X8_closesTerm l D ad cI cJ cR h) gX8_works_X8_closesTerm rfl rfl (by decide +kernel) ⟨Nat.le_of_ble_eq_true rfl, Nat.le_of_ble_eq_true rfl⟩ ⟨rfl, rfl⟩ hf (ms_recv hK hP) hK hP hD hS hA hl.1 rfl (Nat.le_of_ble_eq_true rfl) dX8_works_212 (fun S16 H locs h hP hD hS => ?_)
                  refine lv_aload_n hx hb dX8_works_215 rfl (lv_at hl 2 rfl) ?_
                  refine lv_aload_n hx hb dX8_works_216 rfl (lv_at hl 2 rfl) ?_
                  refine ms_get 32 (v := .int (S16.1 9)) fx in_X8_works (by decide) rfl (by decide +kernel) rfl hK hP dX8_works_217 ?_
                  refine lv_iconst (v := 2) hx hb dX8_works_220 (by decide) ?_
                  refine xr_sI (n := 2) (As := [.int (S16.1 9), .int 2]) (rest := [.ref (ad 0)]) fx (ct_X8_slot l h) gX8_works_X8_slot rfl rfl (by decide +kernel) ⟨Nat.le_of_ble_eq_true rfl, Nat.le_of_ble_eq_true rfl⟩ ⟨rfl, rfl⟩ hf hl.1 rfl (Nat.le_of_ble_eq_true rfl) dX8_works_221 (fun r17 h => ?_)
                  refine lv_aload_n hx hb dX8_works_224 rfl (lv_at hl 2 rfl) ?_
                  refine ms_get 32 (v := .int (S16.1 9)) fx in_X8_works (by decide) rfl (by decide +kernel) rfl hK hP dX8_works_225 ?_
                  refine lv_iconst (v := 0) hx hb dX8_works_228 (by decide) ?_
                  refine xr_sI (n := 2) (As := [.int (S16.1 9), .int 0]) (rest := [.int r17, .ref (ad 0)]) fx (ct_X8_slot l h) gX8_works_X8_slot rfl rfl (by decide +kernel) ⟨Nat.le_of_ble_eq_true rfl, Nat.le_of_ble_eq_true rfl⟩ ⟨rfl, rfl⟩ hf hl.1 rfl (Nat.le_of_ble_eq_true rfl) dX8_works_229 (fun r18 h => ?_)
                  refine xr_vV (n := 2) (As := [.int r17, .int r18]) (rest := []) fx (ct_X8_copies l D ad cI cJ cR h) gX8_works_X8_copies rfl rfl (by decide +kernel) ⟨Nat.le_of_ble_eq_true rfl, Nat.le_of_ble_eq_true rfl⟩ ⟨rfl, rfl⟩ hf (ms_recv hK hP) hK hP hD hS hA hl.1 rfl (Nat.le_of_ble_eq_true rfl) dX8_works_232 (fun S19 H locs h hP hD hS => ?_)
                  refine lv_aload_n hx hb dX8_works_235 rfl (lv_at hl 2 rfl) ?_
                  refine lv_aload_n hx hb dX8_works_236 rfl (lv_at hl 2 rfl) ?_
                  refine ms_get 32 (v := .int (S19.1 9)) fx in_X8_works (by decide) rfl (by decide +kernel) rfl hK hP dX8_works_237 ?_
                  refine lv_iconst (v := 0) hx hb dX8_works_240 (by decide) ?_
                  refine xr_sI (n := 2) (As := [.int (S19.1 9), .int 0]) (rest := [.ref (ad 0)]) fx (ct_X8_slot l h) gX8_works_X8_slot rfl rfl (by decide +kernel) ⟨Nat.le_of_ble_eq_true rfl, Nat.le_of_ble_eq_true rfl⟩ ⟨rfl, rfl⟩ hf hl.1 rfl (Nat.le_of_ble_eq_true rfl) dX8_works_241 (fun r20 h => ?_)
                  refine xr_vV (n := 1) (As := [.int r20]) (rest := []) fx (ct_X8_clears l D ad cI cJ cR h) gX8_works_X8_clears rfl rfl (by decide +kernel) ⟨Nat.le_of_ble_eq_true rfl, Nat.le_of_ble_eq_true rfl⟩ ⟨rfl, rfl⟩ hf (ms_recv hK hP) hK hP hD hS hA hl.1 rfl (Nat.le_of_ble_eq_true rfl) dX8_works_244 (fun S21 H locs h hP hD hS => ?_)
                  refine lv_aload_n hx hb dX8_works_247 rfl (lv_at hl 2 rfl) ?_
                  refine ms_get 31 (v := .ref (ad 23)) fx in_X8_works (by decide) rfl (by decide +kernel) rfl hK hP dX8_works_248 ?_
                  refine lv_aload_n hx hb dX8_works_251 rfl (lv_at hl 2 rfl) ?_
                  refine ms_get 32 (v := .int (S21.1 9)) fx in_X8_works (by decide) rfl (by decide +kernel) rfl hK hP dX8_works_252 ?_
                  refine lv_lconst (v := 1) hx hb dX8_works_255 (by decide) ?_
                  obtain ⟨hi22, h⟩ := h
                  refine ms_last 8 (by decide) fx hK hP hD hS rfl hi22 dX8_works_256 (fun H locs hP hD hS => ?_)
                  refine lv_goto (tgt := 353) hx hb dX8_works_257 (by decide) ?_
                  exact kw_X8_works_353 fx hK hA k18 hP hD hS (lv_sub hl [2, 3, 0] rfl) h
              · have h := h.2 c173
                exact kw_X8_works_176 fx hK hA k18 hP hD hS (lv_sub hl [2, 3, 1, 0] rfl) h
          · have h := h.2 c116
            refine lv_iconst (v := 1) hx hb dX8_works_119 (by decide) ?_
            refine lv_aload_n hx hb dX8_works_120 rfl (lv_at hl 2 rfl) ?_
            refine lv_iload_n hx hb dX8_works_121 rfl (lv_at hl 3 rfl) ?_
            refine lv_iconst (v := 1) hx hb dX8_works_122 (by decide) ?_
            refine lv_iadd hx hb dX8_works_123 ?_
            refine xr_vI (n := 1) (As := [.int (v1 + 1)]) (rest := [.int 1]) fx (ct_X8_digitsFrom l D ad cI cJ cR h) gX8_works_X8_digitsFrom rfl rfl (by decide +kernel) ⟨Nat.le_of_ble_eq_true rfl, Nat.le_of_ble_eq_true rfl⟩ ⟨rfl, rfl⟩ hf (ms_recv hK hP) hK hP hD hS hA hl.1 rfl (Nat.le_of_ble_eq_true rfl) dX8_works_124 (fun r24 S23 H locs h hP hD hS => ?_)
            refine lv_iadd hx hb dX8_works_127 ?_
            refine lv_topi (fun v3_25 ev3_25 => ?_)
            have h := h v3_25 ev3_25
            refine lv_istore_n (lv' := [(3, .int v3_25), (2, .int r10), (0, .ref (ad 0)), (1, .int v1)]) hx hb dX8_works_128 rfl hl (by decide) rfl (fun ls hl => ?_)
            refine lv_aload_n hx hb dX8_works_129 rfl (lv_at hl 2 rfl) ?_
            refine lv_bipush (v := 8) hx hb dX8_works_130 (by decide) ?_
            refine xr_vV (n := 1) (As := [.int 8]) (rest := []) fx (ct_X8_clears l D ad cI cJ cR h) gX8_works_X8_clears rfl rfl (by decide +kernel) ⟨Nat.le_of_ble_eq_true rfl, Nat.le_of_ble_eq_true rfl⟩ ⟨rfl, rfl⟩ hf (ms_recv hK hP) hK hP hD hS hA hl.1 rfl (Nat.le_of_ble_eq_true rfl) dX8_works_132 (fun S26 H locs h hP hD hS => ?_)
            refine lv_aload_n hx hb dX8_works_135 rfl (lv_at hl 2 rfl) ?_
            refine ms_get 6 (v := .ref (ad 15)) fx in_X8_works (by decide) rfl (by decide +kernel) rfl hK hP dX8_works_136 ?_
            refine lv_sipush (v := 2912) hx hb dX8_works_139 (by decide) ?_
            refine lv_aload_n hx hb dX8_works_142 rfl (lv_at hl 2 rfl) ?_
            refine lv_iload_n hx hb dX8_works_143 rfl (lv_at hl 3 rfl) ?_
            refine lv_iconst (v := 1) hx hb dX8_works_144 (by decide) ?_
            refine lv_iadd hx hb dX8_works_145 ?_
            refine lv_iload_n hx hb dX8_works_146 rfl (lv_at hl 0 rfl) ?_
            refine lv_iconst (v := 1) hx hb dX8_works_147 (by decide) ?_
            refine lv_isub hx hb dX8_works_148 ?_
            refine xr_vI (n := 2) (As := [.int (v1 + 1), .int (v3_25 - 1)]) (rest := [.int 2912, .ref (ad 15)]) fx (ct_X8_number l D ad cI cJ cR h) gX8_works_X8_number rfl rfl (by decide +kernel) ⟨Nat.le_of_ble_eq_true rfl, Nat.le_of_ble_eq_true rfl⟩ ⟨rfl, rfl⟩ hf (ms_recv hK hP) hK hP hD hS hA hl.1 rfl (Nat.le_of_ble_eq_true rfl) dX8_works_149 (fun r28 S27 H locs h hP hD hS => ?_)
            refine lv_i2l hx hb dX8_works_152 rfl ?_
            refine xr_sL (n := 1) (As := [.long r28.toInt64]) (rest := [.int 2912, .ref (ad 15)]) fx (ct_X8_inverted l h) gX8_works_X8_inverted rfl rfl (by decide +kernel) ⟨Nat.le_of_ble_eq_true rfl, Nat.le_of_ble_eq_true rfl⟩ ⟨rfl, rfl⟩ hf hl.1 rfl (Nat.le_of_ble_eq_true rfl) dX8_works_153 (fun r29 h => ?_)
            obtain ⟨hi30, h⟩ := h
            refine ms_last 0 (by decide) fx hK hP hD hS rfl hi30 dX8_works_156 (fun H locs hP hD hS => ?_)
            refine lv_aload_n hx hb dX8_works_157 rfl (lv_at hl 2 rfl) ?_
            refine xr_vV (n := 0) (As := []) (rest := []) fx (ct_X8_factor l D ad cI cJ cR h) gX8_works_X8_factor rfl rfl (by decide +kernel) ⟨Nat.le_of_ble_eq_true rfl, Nat.le_of_ble_eq_true rfl⟩ ⟨rfl, rfl⟩ hf (ms_recv hK hP) hK hP hD hS hA hl.1 rfl (Nat.le_of_ble_eq_true rfl) dX8_works_158 (fun S31 H locs h hP hD hS => ?_)
            refine lv_goto (tgt := 353) hx hb dX8_works_161 (by decide) ?_
            exact kw_X8_works_353 fx hK hA k18 hP hD hS (lv_sub hl [2, 3, 0] rfl) h
        · have h := h.2 c85
          refine lv_aload_n hx hb dX8_works_88 rfl (lv_at hl 2 rfl) ?_
          refine lv_bipush (v := 8) hx hb dX8_works_89 (by decide) ?_
          refine lv_aload_n hx hb dX8_works_91 rfl (lv_at hl 2 rfl) ?_
          refine lv_iload_n hx hb dX8_works_92 rfl (lv_at hl 3 rfl) ?_
          refine lv_iconst (v := 1) hx hb dX8_works_93 (by decide) ?_
          refine lv_iadd hx hb dX8_works_94 ?_
          refine xr_vI (n := 1) (As := [.int (v1 + 1)]) (rest := [.int 8, .ref (ad 0)]) fx (ct_X8_byteAt l D ad cI cJ cR h) gX8_works_X8_byteAt rfl rfl (by decide +kernel) ⟨Nat.le_of_ble_eq_true rfl, Nat.le_of_ble_eq_true rfl⟩ ⟨rfl, rfl⟩ hf (ms_recv hK hP) hK hP hD hS hA hl.1 rfl (Nat.le_of_ble_eq_true rfl) dX8_works_95 (fun r33 S32 H locs h hP hD hS => ?_)
          refine lv_bipush (v := 48) hx hb dX8_works_98 (by decide) ?_
          refine lv_isub hx hb dX8_works_100 ?_
          refine xr_vV (n := 2) (As := [.int 8, .int (r33 - 48)]) (rest := []) fx (ct_X8_copies l D ad cI cJ cR h) gX8_works_X8_copies rfl rfl (by decide +kernel) ⟨Nat.le_of_ble_eq_true rfl, Nat.le_of_ble_eq_true rfl⟩ ⟨rfl, rfl⟩ hf (ms_recv hK hP) hK hP hD hS hA hl.1 rfl (Nat.le_of_ble_eq_true rfl) dX8_works_101 (fun S34 H locs h hP hD hS => ?_)
          refine lv_aload_n hx hb dX8_works_104 rfl (lv_at hl 2 rfl) ?_
          refine xr_vV (n := 0) (As := []) (rest := []) fx (ct_X8_factor l D ad cI cJ cR h) gX8_works_X8_factor rfl rfl (by decide +kernel) ⟨Nat.le_of_ble_eq_true rfl, Nat.le_of_ble_eq_true rfl⟩ ⟨rfl, rfl⟩ hf (ms_recv hK hP) hK hP hD hS hA hl.1 rfl (Nat.le_of_ble_eq_true rfl) dX8_works_105 (fun S35 H locs h hP hD hS => ?_)
          refine lv_iconst (v := 2) hx hb dX8_works_108 (by decide) ?_
          refine lv_istore_n (lv' := [(3, .int 2), (2, .int r10), (0, .ref (ad 0)), (1, .int v1)]) hx hb dX8_works_109 rfl hl (by decide) rfl (fun ls hl => ?_)
          refine lv_goto (tgt := 353) hx hb dX8_works_110 (by decide) ?_
          exact kw_X8_works_353 fx hK hA k18 hP hD hS (lv_sub hl [2, 3, 0] rfl) h
      · have h := h.2 c45
        refine lv_aload_n hx hb dX8_works_48 rfl (lv_at hl 2 rfl) ?_
        refine lv_iload_n hx hb dX8_works_49 rfl (lv_at hl 3 rfl) ?_
        refine xr_vI (n := 1) (As := [.int v1]) (rest := []) fx (ct_X8_digitsFrom l D ad cI cJ cR h) gX8_works_X8_digitsFrom rfl rfl (by decide +kernel) ⟨Nat.le_of_ble_eq_true rfl, Nat.le_of_ble_eq_true rfl⟩ ⟨rfl, rfl⟩ hf (ms_recv hK hP) hK hP hD hS hA hl.1 rfl (Nat.le_of_ble_eq_true rfl) dX8_works_50 (fun r37 S36 H locs h hP hD hS => ?_)
        refine lv_istore_n (lv' := [(3, .int r37), (2, .int r10), (0, .ref (ad 0)), (1, .int v1)]) hx hb dX8_works_53 rfl hl (by decide) rfl (fun ls hl => ?_)
        refine lv_aload_n hx hb dX8_works_54 rfl (lv_at hl 2 rfl) ?_
        refine lv_bipush (v := 8) hx hb dX8_works_55 (by decide) ?_
        refine xr_vV (n := 1) (As := [.int 8]) (rest := []) fx (ct_X8_clears l D ad cI cJ cR h) gX8_works_X8_clears rfl rfl (by decide +kernel) ⟨Nat.le_of_ble_eq_true rfl, Nat.le_of_ble_eq_true rfl⟩ ⟨rfl, rfl⟩ hf (ms_recv hK hP) hK hP hD hS hA hl.1 rfl (Nat.le_of_ble_eq_true rfl) dX8_works_57 (fun S38 H locs h hP hD hS => ?_)
        refine lv_aload_n hx hb dX8_works_60 rfl (lv_at hl 2 rfl) ?_
        refine ms_get 6 (v := .ref (ad 15)) fx in_X8_works (by decide) rfl (by decide +kernel) rfl hK hP dX8_works_61 ?_
        refine lv_sipush (v := 2912) hx hb dX8_works_64 (by decide) ?_
        refine lv_aload_n hx hb dX8_works_67 rfl (lv_at hl 2 rfl) ?_
        refine lv_iload_n hx hb dX8_works_68 rfl (lv_at hl 3 rfl) ?_
        refine lv_iload_n hx hb dX8_works_69 rfl (lv_at hl 0 rfl) ?_
        refine xr_vI (n := 2) (As := [.int v1, .int r37]) (rest := [.int 2912, .ref (ad 15)]) fx (ct_X8_number l D ad cI cJ cR h) gX8_works_X8_number rfl rfl (by decide +kernel) ⟨Nat.le_of_ble_eq_true rfl, Nat.le_of_ble_eq_true rfl⟩ ⟨rfl, rfl⟩ hf (ms_recv hK hP) hK hP hD hS hA hl.1 rfl (Nat.le_of_ble_eq_true rfl) dX8_works_70 (fun r40 S39 H locs h hP hD hS => ?_)
        refine lv_i2l hx hb dX8_works_73 rfl ?_
        obtain ⟨hi41, h⟩ := h
        refine ms_last 0 (by decide) fx hK hP hD hS rfl hi41 dX8_works_74 (fun H locs hP hD hS => ?_)
        refine lv_aload_n hx hb dX8_works_75 rfl (lv_at hl 2 rfl) ?_
        refine xr_vV (n := 0) (As := []) (rest := []) fx (ct_X8_factor l D ad cI cJ cR h) gX8_works_X8_factor rfl rfl (by decide +kernel) ⟨Nat.le_of_ble_eq_true rfl, Nat.le_of_ble_eq_true rfl⟩ ⟨rfl, rfl⟩ hf (ms_recv hK hP) hK hP hD hS hA hl.1 rfl (Nat.le_of_ble_eq_true rfl) dX8_works_76 (fun S42 H locs h hP hD hS => ?_)
        refine lv_goto (tgt := 353) hx hb dX8_works_79 (by decide) ?_
        exact kw_X8_works_353 fx hK hA k18 hP hD hS (lv_sub hl [2, 3, 0] rfl) h
theorem kw_X8_works_18 {p : Program} {l : Launch} {e : Env} {s : State} {m : MethodId} {args : Array Value} {below : List Frame} {meth : Method} {c : Code} {D : va_G} {ad : Nat → Nat} {cI cJ cR : ClassId} {A : Nat → Prop}  {Q : ms_T → Prop} (fx : xr_Fx p m c meth cX8_works 4 s args wsX8_works RX8 none) (hK : xr_K D (ms_ty cI cJ cR) s) (hA : ∀ q, s.heap.size ≤ q → A q)  : ∀ (n : Nat) (S : ms_T) (v1 : Int32) {H : Heap} {locs : List Loc} {ls : Array Slot}, va_P D vwCl (ms_w ad cI cJ S) H → va_D A (ms_w ad cI cJ S) → va_S A s.heap H locs → lv_has ls 4 [(0, .ref (ad 0)), (1, .int v1)] → wp_X8_works_18 Q n S v1 → W p l e rm_X8_works s m args below meth c H locs 0 0 (MQ below (va_Qv Q (xr_B D (ms_ty cI cJ cR) (ms_w ad cI cJ) A) A) args s 0 0 A) (F0 m 18 ls []) := by
  intro n
  induction n with
  | zero => intro S v1 H locs ls hP hD hS hl h; exact False.elim h
  | succ n ih => intro S v1 H locs ls hP hD hS hl h; exact kb_X8_works_18 fx hK hA ih hP hD hS hl h
set_option maxHeartbeats 4000000 in
set_option maxRecDepth 100000 in
theorem ct_X8_works (l : Launch) (D : va_G) (ad : Nat → Nat) (cI cJ cR : ClassId) {S : ms_T} {Q : ms_T → Prop} (h : wp_X8_works S Q) : xr_V l D (ms_ty cI cJ cR) (ms_w ad cI cJ) yX8_works wsX8_works rm_X8_works [.ref (ad 0)] S Q := by
  refine xr_eV (cc := cX8_works) (nL := 4) (ret := none) (own := RX8) (by decide) rfl rfl (Nat.le_of_ble_eq_true rfl) ?_
  intro p e s m args below meth c ls A fx hK hA hP hD hS hl
  have hl : lv_has ls 4 [(0, .ref (ad 0))] := hl
  show W p l e rm_X8_works s m args below meth c s.heap [] 0 0 _ _
  obtain ⟨⟨hx, hb, hml, hown, hts⟩, hrt, hlk⟩ := id fx
  have hf : 0 ≤ rm_X8_works.cells ∧ 0 ≤ rm_X8_works.slots := ⟨Nat.zero_le _, Nat.zero_le _⟩
  unfold wp_X8_works at h
  refine lv_aload_n hx hb dX8_works_0 rfl (lv_at hl 0 rfl) ?_
  refine lv_iconst (v := (-1)) hx hb dX8_works_1 (by decide) ?_
  refine ms_put 32 9 (ty := .int) fx in_X8_works (by decide) ms_f32 (by decide +kernel) rfl rfl (by decide +kernel) rfl rfl hK hP hD hS dX8_works_2 (fun H locs hP hD hS => ?_)
  refine lv_aload_n hx hb dX8_works_5 rfl (lv_at hl 0 rfl) ?_
  refine lv_iconst (v := 0) hx hb dX8_works_6 (by decide) ?_
  refine ms_put 33 10 (ty := .boolean) fx in_X8_works (by decide) ms_f33 (by decide +kernel) rfl rfl (by decide +kernel) rfl rfl hK hP hD hS dX8_works_7 (fun H locs hP hD hS => ?_)
  refine lv_aload_n hx hb dX8_works_10 rfl (lv_at hl 0 rfl) ?_
  refine lv_bipush (v := 40) hx hb dX8_works_11 (by decide) ?_
  refine xr_vV (n := 1) (As := [.int 40]) (rest := []) fx (ct_X8_opensFrame l D ad cI cJ cR h) gX8_works_X8_opensFrame rfl rfl (by decide +kernel) ⟨Nat.le_of_ble_eq_true rfl, Nat.le_of_ble_eq_true rfl⟩ ⟨rfl, rfl⟩ hf (ms_recv hK hP) hK hP hD hS hA hl.1 rfl (Nat.le_of_ble_eq_true rfl) dX8_works_13 (fun S43 H locs h hP hD hS => ?_)
  refine lv_iconst (v := 0) hx hb dX8_works_16 (by decide) ?_
  refine lv_istore_n (lv' := [(1, .int 0), (0, .ref (ad 0))]) hx hb dX8_works_17 rfl hl (by decide) rfl (fun ls hl => ?_)
  obtain ⟨n, h⟩ := h
  exact kw_X8_works_18 fx hK hA n _ _ hP hD hS (lv_sub hl [1, 0] rfl) h
abbrev rm_X8_read : Room := { frames := 5, cells := 0, slots := 0, locals := 122 }
theorem in_X8_read : ∀ w ∈ wsX80, w ∈ wsX8_read := by decide +kernel
set_option maxHeartbeats 4000000 in
set_option maxRecDepth 100000 in
theorem ct_X8_read (l : Launch) (D : va_G) (ad : Nat → Nat) (cI cJ cR : ClassId) {S : ms_T} {a1 : Int32} {Q : Int32 → ms_T → Prop} (h : wp_X8_read S a1 Q) : xr_I l D (ms_ty cI cJ cR) (ms_w ad cI cJ) yX8_read wsX8_read rm_X8_read [.ref (ad 0), .int a1] S Q := by
  refine xr_eI (cc := cX8_read) (nL := 3) (ret := (some .int)) (own := RX8) (by decide) rfl rfl (Nat.le_of_ble_eq_true rfl) ?_
  intro p e s m args below meth c ls A fx hK hA hP hD hS hl
  have hl : lv_has ls 3 [(0, .ref (ad 0)), (1, .int a1)] := hl
  show W p l e rm_X8_read s m args below meth c s.heap [] 0 0 _ _
  obtain ⟨⟨hx, hb, hml, hown, hts⟩, hrt, hlk⟩ := id fx
  have hf : 0 ≤ rm_X8_read.cells ∧ 0 ≤ rm_X8_read.slots := ⟨Nat.zero_le _, Nat.zero_le _⟩
  unfold wp_X8_read at h
  refine lv_iload_n hx hb dX8_read_0 rfl (lv_at hl 1 rfl) ?_
  refine xr_sI (n := 1) (As := [.int a1]) (rest := []) fx (ct_X8_isSum l h) gX8_read_X8_isSum rfl rfl (by decide +kernel) ⟨Nat.le_of_ble_eq_true rfl, Nat.le_of_ble_eq_true rfl⟩ ⟨rfl, rfl⟩ hf hl.1 rfl (Nat.le_of_ble_eq_true rfl) dX8_read_1 (fun r1 h => ?_)
  refine lv_if_ne (tgt := 9) hx hb dX8_read_4 (by decide) (fun c4 => ?_) (fun c4 => ?_)
  · have h := h.1 c4
    refine lv_aload_n hx hb dX8_read_9 rfl (lv_at hl 0 rfl) ?_
    refine xr_vI (n := 0) (As := []) (rest := []) fx (ct_X8_reads l D ad cI cJ cR h) gX8_read_X8_reads rfl rfl (by decide +kernel) ⟨Nat.le_of_ble_eq_true rfl, Nat.le_of_ble_eq_true rfl⟩ ⟨rfl, rfl⟩ hf (ms_recv hK hP) hK hP hD hS hA hl.1 rfl (Nat.le_of_ble_eq_true rfl) dX8_read_10 (fun r3 S2 H locs h hP hD hS => ?_)
    refine lv_istore_n (lv' := [(2, .int r3), (0, .ref (ad 0)), (1, .int a1)]) hx hb dX8_read_13 rfl hl (by decide) rfl (fun ls hl => ?_)
    refine lv_iload_n hx hb dX8_read_14 rfl (lv_at hl 0 rfl) ?_
    refine lv_iconst (v := (-1)) hx hb dX8_read_15 (by decide) ?_
    refine lv_icmp_eq (tgt := 29) hx hb dX8_read_16 (by decide) (fun c16 => ?_) (fun c16 => ?_)
    · have h := h.1 c16
      refine lv_aload_n hx hb dX8_read_29 rfl (lv_at hl 1 rfl) ?_
      refine xr_vV (n := 0) (As := []) (rest := []) fx (ct_X8_works l D ad cI cJ cR h) gX8_read_X8_works rfl rfl (by decide +kernel) ⟨Nat.le_of_ble_eq_true rfl, Nat.le_of_ble_eq_true rfl⟩ ⟨rfl, rfl⟩ hf (ms_recv hK hP) hK hP hD hS hA hl.1 rfl (Nat.le_of_ble_eq_true rfl) dX8_read_30 (fun S4 H locs h hP hD hS => ?_)
      refine lv_aload_n hx hb dX8_read_33 rfl (lv_at hl 1 rfl) ?_
      refine lv_iconst (v := 0) hx hb dX8_read_34 (by decide) ?_
      refine ms_put 27 7 (ty := .int) fx in_X8_read (by decide) ms_f27 (by decide +kernel) rfl rfl (by decide +kernel) rfl rfl hK hP hD hS dX8_read_35 (fun H locs hP hD hS => ?_)
      refine lv_aload_n hx hb dX8_read_38 rfl (lv_at hl 1 rfl) ?_
      refine ms_get 33 (v := .int ((ms_sF S4 7 0).1 10)) fx in_X8_read (by decide) rfl (by decide +kernel) rfl hK hP dX8_read_39 ?_
      refine lv_if_eq (tgt := 48) hx hb dX8_read_42 (by decide) (fun c42 => ?_) (fun c42 => ?_)
      · have h := h.1 c42
        refine lv_aload_n hx hb dX8_read_48 rfl (lv_at hl 1 rfl) ?_
        refine lv_iload_n hx hb dX8_read_49 rfl (lv_at hl 2 rfl) ?_
        refine lv_iconst (v := 0) hx hb dX8_read_50 (by decide) ?_
        refine lv_iconst (v := 0) hx hb dX8_read_51 (by decide) ?_
        refine xr_sI (n := 2) (As := [.int 0, .int 0]) (rest := [.int a1, .ref (ad 0)]) fx (ct_X8_slot l h) gX8_read_X8_slot rfl rfl (by decide +kernel) ⟨Nat.le_of_ble_eq_true rfl, Nat.le_of_ble_eq_true rfl⟩ ⟨rfl, rfl⟩ hf hl.1 rfl (Nat.le_of_ble_eq_true rfl) dX8_read_52 (fun r5 h => ?_)
        refine xr_vV (n := 2) (As := [.int a1, .int r5]) (rest := []) fx (ct_X8_copies l D ad cI cJ cR h) gX8_read_X8_copies rfl rfl (by decide +kernel) ⟨Nat.le_of_ble_eq_true rfl, Nat.le_of_ble_eq_true rfl⟩ ⟨rfl, rfl⟩ hf (ms_recv hK hP) hK hP hD hS hA hl.1 rfl (Nat.le_of_ble_eq_true rfl) dX8_read_55 (fun S6 H locs h hP hD hS => ?_)
        refine lv_iconst (v := 0) hx hb dX8_read_58 (by decide) ?_
        exact xr_rI fx hK hP hD hS h dX8_read_59
      · have h := h.2 c42
        refine lv_bipush (v := (-9)) hx hb dX8_read_45 (by decide) ?_
        exact xr_rI fx hK hP hD hS h dX8_read_47
    · have h := h.2 c16
      refine lv_aload_n hx hb dX8_read_19 rfl (lv_at hl 1 rfl) ?_
      refine lv_iconst (v := 0) hx hb dX8_read_20 (by decide) ?_
      refine ms_put 27 7 (ty := .int) fx in_X8_read (by decide) ms_f27 (by decide +kernel) rfl rfl (by decide +kernel) rfl rfl hK hP hD hS dX8_read_21 (fun H locs hP hD hS => ?_)
      refine lv_bipush (v := (-10)) hx hb dX8_read_24 (by decide) ?_
      refine lv_iload_n hx hb dX8_read_26 rfl (lv_at hl 0 rfl) ?_
      refine lv_isub hx hb dX8_read_27 ?_
      exact xr_rI fx hK hP hD hS h dX8_read_28
  · have h := h.2 c4
    refine lv_iconst (v := (-1)) hx hb dX8_read_7 (by decide) ?_
    exact xr_rI fx hK hP hD hS h dX8_read_8
abbrev rm_X8_count : Room := { frames := 0, cells := 0, slots := 0, locals := 0 }
theorem in_X8_count : ∀ w ∈ wsX80, w ∈ wsX8_count := by decide +kernel
set_option maxHeartbeats 4000000 in
set_option maxRecDepth 100000 in
theorem ct_X8_count (l : Launch) (D : va_G) (ad : Nat → Nat) (cI cJ cR : ClassId) {S : ms_T} {a1 : Int32} {Q : Int32 → ms_T → Prop} (h : wp_X8_count S a1 Q) : xr_I l D (ms_ty cI cJ cR) (ms_w ad cI cJ) yX8_count wsX8_count rm_X8_count [.ref (ad 0), .int a1] S Q := by
  refine xr_eI (cc := cX8_count) (nL := 2) (ret := (some .int)) (own := RX8) (by decide) rfl rfl (Nat.le_of_ble_eq_true rfl) ?_
  intro p e s m args below meth c ls A fx hK hA hP hD hS hl
  have hl : lv_has ls 2 [(0, .ref (ad 0)), (1, .int a1)] := hl
  show W p l e rm_X8_count s m args below meth c s.heap [] 0 0 _ _
  obtain ⟨⟨hx, hb, hml, hown, hts⟩, hrt, hlk⟩ := id fx
  have hf : 0 ≤ rm_X8_count.cells ∧ 0 ≤ rm_X8_count.slots := ⟨Nat.zero_le _, Nat.zero_le _⟩
  unfold wp_X8_count at h
  refine lv_iload_n hx hb dX8_count_0 rfl (lv_at hl 1 rfl) ?_
  by_cases c1_0 : a1 = 0
  · have h := h.1 c1_0
    refine lv_tableIn (off := 43) (tgt := 44) hx hb dX8_count_1 (by rw [c1_0]; decide) (by rw [c1_0]; decide) (by rw [c1_0]; decide) (by decide) ?_
    refine lv_aload_n hx hb dX8_count_44 rfl (lv_at hl 0 rfl) ?_
    refine ms_get 0 (v := .int (S.1 0)) fx in_X8_count (by decide) rfl (by decide +kernel) rfl hK hP dX8_count_45 ?_
    exact xr_rI fx hK hP hD hS h dX8_count_48
  have h := h.2
  by_cases c1_1 : a1 = 1
  · have h := h.1 c1_1
    refine lv_tableIn (off := 48) (tgt := 49) hx hb dX8_count_1 (by rw [c1_1]; decide) (by rw [c1_1]; decide) (by rw [c1_1]; decide) (by decide) ?_
    refine lv_aload_n hx hb dX8_count_49 rfl (lv_at hl 0 rfl) ?_
    refine ms_get 1 (v := .int (S.1 1)) fx in_X8_count (by decide) rfl (by decide +kernel) rfl hK hP dX8_count_50 ?_
    exact xr_rI fx hK hP hD hS h dX8_count_53
  have h := h.2
  by_cases c1_2 : a1 = 2
  · have h := h.1 c1_2
    refine lv_tableIn (off := 53) (tgt := 54) hx hb dX8_count_1 (by rw [c1_2]; decide) (by rw [c1_2]; decide) (by rw [c1_2]; decide) (by decide) ?_
    refine lv_aload_n hx hb dX8_count_54 rfl (lv_at hl 0 rfl) ?_
    refine ms_get 2 (v := .int (S.1 2)) fx in_X8_count (by decide) rfl (by decide +kernel) rfl hK hP dX8_count_55 ?_
    exact xr_rI fx hK hP hD hS h dX8_count_58
  have h := h.2
  by_cases c1_3 : a1 = 3
  · have h := h.1 c1_3
    refine lv_tableIn (off := 58) (tgt := 59) hx hb dX8_count_1 (by rw [c1_3]; decide) (by rw [c1_3]; decide) (by rw [c1_3]; decide) (by decide) ?_
    refine lv_aload_n hx hb dX8_count_59 rfl (lv_at hl 0 rfl) ?_
    refine ms_get 7 (v := .int (S.1 3)) fx in_X8_count (by decide) rfl (by decide +kernel) rfl hK hP dX8_count_60 ?_
    exact xr_rI fx hK hP hD hS h dX8_count_63
  have h := h.2
  by_cases c1_4 : a1 = 4
  · have h := h.1 c1_4
    refine lv_tableIn (off := 63) (tgt := 64) hx hb dX8_count_1 (by rw [c1_4]; decide) (by rw [c1_4]; decide) (by rw [c1_4]; decide) (by decide) ?_
    refine lv_aload_n hx hb dX8_count_64 rfl (lv_at hl 0 rfl) ?_
    refine ms_get 16 (v := .int (S.1 4)) fx in_X8_count (by decide) rfl (by decide +kernel) rfl hK hP dX8_count_65 ?_
    exact xr_rI fx hK hP hD hS h dX8_count_68
  have h := h.2
  by_cases c1_5 : a1 = 5
  · have h := h.1 c1_5
    refine lv_tableIn (off := 68) (tgt := 69) hx hb dX8_count_1 (by rw [c1_5]; decide) (by rw [c1_5]; decide) (by rw [c1_5]; decide) (by decide) ?_
    refine lv_aload_n hx hb dX8_count_69 rfl (lv_at hl 0 rfl) ?_
    refine ms_get 19 (v := .int (S.1 5)) fx in_X8_count (by decide) rfl (by decide +kernel) rfl hK hP dX8_count_70 ?_
    exact xr_rI fx hK hP hD hS h dX8_count_73
  have h := h.2
  by_cases c1_6 : a1 = 6
  · have h := h.1 c1_6
    refine lv_tableIn (off := 73) (tgt := 74) hx hb dX8_count_1 (by rw [c1_6]; decide) (by rw [c1_6]; decide) (by rw [c1_6]; decide) (by decide) ?_
    refine lv_aload_n hx hb dX8_count_74 rfl (lv_at hl 0 rfl) ?_
    refine ms_get 27 (v := .int (S.1 7)) fx in_X8_count (by decide) rfl (by decide +kernel) rfl hK hP dX8_count_75 ?_
    exact xr_rI fx hK hP hD hS h dX8_count_78
  have h := h.2
  have h := h ⟨c1_0, c1_1, c1_2, c1_3, c1_4, c1_5, c1_6⟩
  have c1_0 := xr_ne c1_0
  have c1_1 := xr_ne c1_1
  have c1_2 := xr_ne c1_2
  have c1_3 := xr_ne c1_3
  have c1_4 := xr_ne c1_4
  have c1_5 := xr_ne c1_5
  have c1_6 := xr_ne c1_6
  refine lv_tableOut (tgt := 79) hx hb dX8_count_1 (by rw [show (0 : Int32).toInt = 0 from by decide] at c1_0; rw [show (1 : Int32).toInt = 1 from by decide] at c1_1; rw [show (2 : Int32).toInt = 2 from by decide] at c1_2; rw [show (3 : Int32).toInt = 3 from by decide] at c1_3; rw [show (4 : Int32).toInt = 4 from by decide] at c1_4; rw [show (5 : Int32).toInt = 5 from by decide] at c1_5; rw [show (6 : Int32).toInt = 6 from by decide] at c1_6; omega) (by decide) ?_
  refine lv_iconst (v := (-1)) hx hb dX8_count_79 (by decide) ?_
  exact xr_rI fx hK hP hD hS h dX8_count_80
