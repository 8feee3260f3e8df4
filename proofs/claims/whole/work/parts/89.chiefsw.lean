/-! methods that the constructors call, over the part of the world that is there: ca (chiefs without sides), cb (with sides) -/
def ca_w (ad : Nat → Nat) (vx : Nat → Value) (cI cR : ClassId) (Ln : Nat → Nat) (S : cs_T) : va_W := [(ad 1, .inr (5, cs_o1 ad S.1)), (ad 3, .inr (1, [vx 0, vx 1, vx 2, .ref (ad (9 + 36)), .ref (ad 1), vx 5, vx 6, .ref (ad (9 + 37))])), (ad (9 + 0), .inl (cI, Ln 0, .inl (S.2.1 0))), (ad (9 + 1), .inl (cI, Ln 1, .inl (S.2.1 1))), (ad (9 + 36), .inl (cI, Ln 36, .inl (S.2.1 36))), (ad (9 + 37), .inl (cI, Ln 37, .inl (S.2.1 37))), (ad (9 + 45), .inl (cI, Ln 45, .inl (S.2.1 45))), (ad (9 + 46), .inl (cI, Ln 46, .inl (S.2.1 46)))]
def ca_p (o : Nat) : Nat := if o = 1 then 0 else 1
def ca_in (k : Nat) : Prop := k = 0 ∨ k = 1 ∨ k = 36 ∨ k = 37 ∨ k = 45 ∨ k = 46
theorem ca_dec (k : Nat) (h : ([0, 1, 36, 37, 45, 46] : List Nat).contains k = true) : ca_in k := by
  simp only [List.contains_cons, List.contains_nil, Bool.or_false, Bool.or_eq_true, beq_iff_eq] at h
  exact h
def ca_q (k : Nat) : Nat := if k = 0 then 2 else if k = 1 then 3 else if k = 36 then 4 else if k = 37 then 5 else if k = 45 then 6 else if k = 46 then 7 else 0
theorem ca_gA {ad : Nat → Nat} {vx : Nat → Value} {cI cR : ClassId} {Ln : Nat → Nat} {S : cs_T} {k : Nat} (hk : ca_in k) : (ca_w ad vx cI cR Ln S)[ca_q k]? = some (ad (9 + k), .inl (cI, Ln k, .inl (S.2.1 k))) := by
  rcases hk with rfl | rfl | rfl | rfl | rfl | rfl <;> rfl
theorem ca_uA {ad : Nat → Nat} {vx : Nat → Value} {cI cR : ClassId} {Ln : Nat → Nat} {S : cs_T} {k i : Nat} {v : Int32} (hk : ca_in k) : (ca_w ad vx cI cR Ln S).set (ca_q k) (ad (9 + k), .inl (cI, Ln k, .inl (upd (S.2.1 k) i v))) = ca_w ad vx cI cR Ln (cs_sI S k i v) := by
  rcases hk with rfl | rfl | rfl | rfl | rfl | rfl <;> rfl
section
variable {p : Program} {l : Launch} {e : Env} {R : Room} {s : State} {m : MethodId} {args : Array Value} {below : List Frame} {meth : Method} {c : Code} {H : Heap} {locs : List Loc} {cells slots : Nat} {Q : State → Prop}
variable {cc : ByteArray} {pc : Nat} {ls : Array Slot} {rest : List Value} {D : va_G} {A : Nat → Prop} {nL : Nat} {Ts : List Cond} {own : String} {ret : Option FieldType} {ad : Nat → Nat} {vx : Nat → Value} {cI cJ cR : ClassId} {Ln : Nat → Nat} {S : cs_T}
theorem ca_recv (o ci : Nat) {q : vw_C} {fs : List Value} (_ho : o < 9) (hh : (ca_w ad vx cI cR Ln S)[ca_p o]? = some (ad o, .inr (ci, fs))) (hc : vwCl[ci]? = some q) (hK : xr_K D (cs_ty cI cJ cR) s) (hP : va_P D vwCl (ca_w ad vx cI cR Ln S) H) : ∃ cell : Cell, H[ad o]? = some cell ∧ cell.vm.isStatics = false ∧ s.vm.findClass q.1 = some cell.cls := va_recv hK.1 hP (ci := ci) (q0 := ca_p o) hc hh
theorem ca_get (o ci j : Nat) {v : Value} {fs : List Value} {index N : Nat} {C ref : String} {T : u_T} (fx : xr_Fx p m c meth cc nL s args Ts own ret) (_ho : o < 9) (hh : (ca_w ad vx cI cR Ln S)[ca_p o]? = some (ad o, .inr (ci, fs))) (hc : vwCl[ci]? = some (C, T, N)) (hin : ∀ w ∈ u_ws C T N, w ∈ Ts) (hj : j < N) (hv : fs[j]? = some v) (hlink : Cond.fieldLink own index ref (T j).2.1 (T j).2.2.1 ∈ Ts) (hcl : (T j).1 = ref) (hK : xr_K D (cs_ty cI cJ cR) s) (hP : va_P D vwCl (ca_w ad vx cI cR Ln S) H) (hdg : decode cc pc = .ok (.getfield index, 3))
    (kk : W p l e R s m args below meth c H locs cells slots Q (F0 m (pc + 3) ls (v :: rest))) : W p l e R s m args below meth c H locs cells slots Q (F0 m pc ls (.ref (ad o) :: rest)) := by
  obtain ⟨⟨hx, hb, hml, hown, hts⟩, -, -⟩ := fx
  exact va_get (D := D) (ci := ci) (v := v) (C := C) (T := T) (N := N) hx hb hts hin hown hK.1 hP (ca_p o) hh hc j hj (hts _ hlink) (fun x h => by rw [← hcl]; exact h) hv hdg kk
theorem ca_iald (k : Nat) (hk : ([0, 1, 36, 37, 45, 46] : List Nat).contains k = true) {i : Int32} (fx : xr_Fx p m c meth cc nL s args Ts own ret) (hK : xr_K D (cs_ty cI cJ cR) s) (hP : va_P D vwCl (ca_w ad vx cI cR Ln S) H) (hi : vp_in i (Ln k)) (hdg : decode cc pc = .ok (.iaload, 1))
    (kk : W p l e R s m args below meth c H locs cells slots Q (F0 m (pc + 1) ls (.int (S.2.1 k i.toNatClampNeg) :: rest))) : W p l e R s m args below meth c H locs cells slots Q (F0 m pc ls (.int i :: .ref (ad (9 + k)) :: rest)) := by
  obtain ⟨⟨hx, hb, hml, hown, hts⟩, -, -⟩ := fx
  exact va_iald hx hb hK.1 hP (ca_q k) 0 (ca_gA (ca_dec k hk)) rfl hi hdg kk
theorem ca_iast (k : Nat) (hk : ([0, 1, 36, 37, 45, 46] : List Nat).contains k = true) {i v : Int32} (fx : xr_Fx p m c meth cc nL s args Ts own ret) (hK : xr_K D (cs_ty cI cJ cR) s) (hP : va_P D vwCl (ca_w ad vx cI cR Ln S) H) (hD : va_D A (ca_w ad vx cI cR Ln S)) (hS : va_S A s.heap H locs) (hi : vp_in i (Ln k)) (hdg : decode cc pc = .ok (.iastore, 1))
    (kk : ∀ (H1 : Heap) (locs1 : List Loc), va_P D vwCl (ca_w ad vx cI cR Ln (cs_sI S k i.toNatClampNeg v)) H1 → va_D A (ca_w ad vx cI cR Ln (cs_sI S k i.toNatClampNeg v)) → va_S A s.heap H1 locs1 → W p l e R s m args below meth c H1 locs1 cells slots Q (F0 m (pc + 1) ls rest)) : W p l e R s m args below meth c H locs cells slots Q (F0 m pc ls (.int v :: .int i :: .ref (ad (9 + k)) :: rest)) := by
  obtain ⟨⟨hx, hb, hml, hown, hts⟩, -, -⟩ := fx
  refine va_iast hx hb hK.1 hP hD hS (ca_q k) 0 (ca_gA (ca_dec k hk)) rfl hi hdg (fun H1 locs1 hP1 hD1 hS1 => ?_)
  rw [ca_uA (ca_dec k hk)] at hP1 hD1
  exact kk H1 locs1 hP1 hD1 hS1
end
set_option maxHeartbeats 4000000 in
set_option maxRecDepth 100000 in
theorem cakb_X1_spell_17 {p : Program} {l : Launch} {e : Env} {s : State} {m : MethodId} {args : Array Value} {below : List Frame} {meth : Method} {c : Code} {D : va_G} {ad : Nat → Nat} {vx : Nat → Value} {cI cJ cR : ClassId} {Ln : Nat → Nat} {A : Nat → Prop}  {K17 : cs_T → Int32 → Int32 → Prop} {Q : cs_T → Prop} {S : cs_T} {v3 : Int32} {v4 : Int32} (fx : xr_Fx p m c meth cX1_spell 5 s args wsX1_spell RX1 none) (hK : xr_K D (cs_ty cI cJ cR) s) (hA : ∀ q, s.heap.size ≤ q → A q)   (k17 : ∀ (S : cs_T) (v3 : Int32) (v4 : Int32) {H : Heap} {locs : List Loc} {ls : Array Slot}, va_P D vwCl (ca_w ad vx cI cR Ln S) H → va_D A (ca_w ad vx cI cR Ln S) → va_S A s.heap H locs → lv_has ls 5 [(0, .ref (ad 3)), (3, .int v3), (4, .int v4)] → K17 S v3 v4 → W p l e rm_X1_spell s m args below meth c H locs 0 0 (MQ below (va_Qv Q (xr_B D (cs_ty cI cJ cR) (ca_w ad vx cI cR Ln) A) A) args s 0 0 A) (F0 m 17 ls [])) {H : Heap} {locs : List Loc} {ls : Array Slot} (hP : va_P D vwCl (ca_w ad vx cI cR Ln S) H) (hD : va_D A (ca_w ad vx cI cR Ln S)) (hS : va_S A s.heap H locs) (hl : lv_has ls 5 [(0, .ref (ad 3)), (3, .int v3), (4, .int v4)]) (h : wb_X1_spell_17 Ln K17 Q S v3 v4) : W p l e rm_X1_spell s m args below meth c H locs 0 0 (MQ below (va_Qv Q (xr_B D (cs_ty cI cJ cR) (ca_w ad vx cI cR Ln) A) A) args s 0 0 A) (F0 m 17 ls []) := by
  obtain ⟨⟨hx, hb, hml, hown, hts⟩, hrt, hlk⟩ := id fx
  have hf : 0 ≤ rm_X1_spell.cells ∧ 0 ≤ rm_X1_spell.slots := ⟨Nat.zero_le _, Nat.zero_le _⟩
  unfold wb_X1_spell_17 at h
  refine lv_iload hx hb dX1_spell_17 (lv_at hl 2 rfl) ?_
  refine lv_if_lt (tgt := 54) hx hb dX1_spell_19 (by decide) (fun c19 => ?_) (fun c19 => ?_)
  · have h := h.1 c19
    exact xr_rV fx hK hP hD hS h dX1_spell_54
  · have h := h.2 c19
    refine lv_aload_n hx hb dX1_spell_22 rfl (lv_at hl 0 rfl) ?_
    refine ca_get 3 1 7 (v := .ref (ad (9 + 37))) (ref := "BracketLetters$Chiefs") fx (by decide) rfl rfl in_X1_spell_X1 (by decide) rfl (by decide +kernel) rfl hK hP dX1_spell_23 ?_
    refine lv_iload hx hb dX1_spell_26 (lv_at hl 2 rfl) ?_
    refine lv_iload_n hx hb dX1_spell_28 rfl (lv_at hl 1 rfl) ?_
    refine lv_aload_n hx hb dX1_spell_29 rfl (lv_at hl 0 rfl) ?_
    refine ca_get 3 1 4 (v := .ref (ad 1)) (ref := "BracketLetters$Chiefs") fx (by decide) rfl rfl in_X1_spell_X1 (by decide) rfl (by decide +kernel) rfl hK hP dX1_spell_30 ?_
    refine ca_get 1 5 0 (v := .int (S.1 2)) (ref := "BracketLetters$Words") fx (by decide) rfl rfl in_X1_spell_X6 (by decide) rfl (by decide +kernel) rfl hK hP dX1_spell_33 ?_
    obtain ⟨hz1, h⟩ := h
    refine lv_irem hx hb dX1_spell_36 hz1 ?_
    obtain ⟨hi2, h⟩ := h
    refine ca_iast 37 (by decide) fx hK hP hD hS hi2 dX1_spell_37 (fun H locs hP hD hS => ?_)
    refine lv_iload_n hx hb dX1_spell_38 rfl (lv_at hl 1 rfl) ?_
    refine lv_aload_n hx hb dX1_spell_39 rfl (lv_at hl 0 rfl) ?_
    refine ca_get 3 1 4 (v := .ref (ad 1)) (ref := "BracketLetters$Chiefs") fx (by decide) rfl rfl in_X1_spell_X1 (by decide) rfl (by decide +kernel) rfl hK hP dX1_spell_40 ?_
    refine ca_get 1 5 0 (v := .int ((cs_sI S 37 v4.toNatClampNeg (xr_remI v3 (S.1 2))).1 2)) (ref := "BracketLetters$Words") fx (by decide) rfl rfl in_X1_spell_X6 (by decide) rfl (by decide +kernel) rfl hK hP dX1_spell_43 ?_
    obtain ⟨hz3, h⟩ := h
    refine lv_idiv hx hb dX1_spell_46 hz3 ?_
    refine lv_topi (fun v3_4 ev3_4 => ?_)
    have h := h v3_4 ev3_4
    refine lv_istore_n (lv' := [(3, .int v3_4), (0, .ref (ad 3)), (4, .int v4)]) hx hb dX1_spell_47 rfl hl (by decide) rfl (fun ls hl => ?_)
    obtain ⟨v4_5, ev4_5⟩ : ∃ z : Int32, z = v4 + (-1) := ⟨_, rfl⟩
    have h := h v4_5 ev4_5
    refine lv_iinc (v := v4_5) (lv' := [(4, .int v4_5), (3, .int v3_4), (0, .ref (ad 3))]) hx hb dX1_spell_48 hl (k := 2) rfl (by rw [ev4_5]; rfl) (by decide) rfl (fun ls hl => ?_)
    refine lv_goto (tgt := 17) hx hb dX1_spell_51 (by decide) ?_
    exact k17 _ _ _ hP hD hS (lv_sub hl [2, 1, 0] rfl) h
theorem cakw_X1_spell_17 {p : Program} {l : Launch} {e : Env} {s : State} {m : MethodId} {args : Array Value} {below : List Frame} {meth : Method} {c : Code} {D : va_G} {ad : Nat → Nat} {vx : Nat → Value} {cI cJ cR : ClassId} {Ln : Nat → Nat} {A : Nat → Prop}  {Q : cs_T → Prop} (fx : xr_Fx p m c meth cX1_spell 5 s args wsX1_spell RX1 none) (hK : xr_K D (cs_ty cI cJ cR) s) (hA : ∀ q, s.heap.size ≤ q → A q)   : ∀ (n : Nat) (S : cs_T) (v3 : Int32) (v4 : Int32) {H : Heap} {locs : List Loc} {ls : Array Slot}, va_P D vwCl (ca_w ad vx cI cR Ln S) H → va_D A (ca_w ad vx cI cR Ln S) → va_S A s.heap H locs → lv_has ls 5 [(0, .ref (ad 3)), (3, .int v3), (4, .int v4)] → wp_X1_spell_17 Ln Q n S v3 v4 → W p l e rm_X1_spell s m args below meth c H locs 0 0 (MQ below (va_Qv Q (xr_B D (cs_ty cI cJ cR) (ca_w ad vx cI cR Ln) A) A) args s 0 0 A) (F0 m 17 ls []) := by
  intro n
  induction n with
  | zero => intro S v3 v4 H locs ls hP hD hS hl h; exact False.elim h
  | succ n ih => intro S v3 v4 H locs ls hP hD hS hl h; exact cakb_X1_spell_17 fx hK hA ih hP hD hS hl h
set_option maxHeartbeats 4000000 in
set_option maxRecDepth 100000 in
theorem cact_X1_spell (l : Launch) (D : va_G) (ad : Nat → Nat) (vx : Nat → Value) (cI cJ cR : ClassId) (Ln : Nat → Nat) {S : cs_T} {a1 : Int32} {a2 : Int32} {Q : cs_T → Prop} (h : wp_X1_spell Ln S a1 a2 Q) : xr_V l D (cs_ty cI cJ cR) (ca_w ad vx cI cR Ln) yX1_spell wsX1_spell rm_X1_spell [.ref (ad 3), .int a1, .int a2] S Q := by
  refine xr_eV (cc := cX1_spell) (nL := 5) (ret := none) (own := RX1) (by decide) rfl rfl (Nat.le_of_ble_eq_true rfl) ?_
  intro p e s m args below meth c ls A fx hK hA hP hD hS hl
  have hl : lv_has ls 5 [(0, .ref (ad 3)), (1, .int a1), (2, .int a2)] := hl
  show W p l e rm_X1_spell s m args below meth c s.heap [] 0 0 _ _
  obtain ⟨⟨hx, hb, hml, hown, hts⟩, hrt, hlk⟩ := id fx
  have hf : 0 ≤ rm_X1_spell.cells ∧ 0 ≤ rm_X1_spell.slots := ⟨Nat.zero_le _, Nat.zero_le _⟩
  unfold wp_X1_spell at h
  refine lv_iload_n hx hb dX1_spell_0 rfl (lv_at hl 1 rfl) ?_
  refine lv_aload_n hx hb dX1_spell_1 rfl (lv_at hl 0 rfl) ?_
  refine ca_get 3 1 4 (v := .ref (ad 1)) (ref := "BracketLetters$Chiefs") fx (by decide) rfl rfl in_X1_spell_X1 (by decide) rfl (by decide +kernel) rfl hK hP dX1_spell_2 ?_
  refine ca_get 1 5 3 (v := .ref (ad (9 + 1))) (ref := "BracketLetters$Words") fx (by decide) rfl rfl in_X1_spell_X6 (by decide) rfl (by decide +kernel) rfl hK hP dX1_spell_5 ?_
  refine lv_iload_n hx hb dX1_spell_8 rfl (lv_at hl 2 rfl) ?_
  obtain ⟨hi6, h⟩ := h
  refine ca_iald 1 (by decide) fx hK hP hi6 dX1_spell_9 ?_
  refine lv_isub hx hb dX1_spell_10 ?_
  refine lv_topi (fun v3_7 ev3_7 => ?_)
  have h := h v3_7 ev3_7
  refine lv_istore_n (lv' := [(3, .int v3_7), (0, .ref (ad 3)), (1, .int a1), (2, .int a2)]) hx hb dX1_spell_11 rfl hl (by decide) rfl (fun ls hl => ?_)
  refine lv_iload_n hx hb dX1_spell_12 rfl (lv_at hl 3 rfl) ?_
  refine lv_iconst (v := 1) hx hb dX1_spell_13 (by decide) ?_
  refine lv_isub hx hb dX1_spell_14 ?_
  refine lv_topi (fun v4_8 ev4_8 => ?_)
  have h := h v4_8 ev4_8
  refine lv_istore (lv' := [(4, .int v4_8), (3, .int v3_7), (0, .ref (ad 3)), (1, .int a1), (2, .int a2)]) hx hb dX1_spell_15 hl (by decide) rfl (fun ls hl => ?_)
  obtain ⟨n, h⟩ := h
  exact cakw_X1_spell_17 fx hK hA n _ _ _ hP hD hS (lv_sub hl [2, 1, 0] rfl) h
set_option maxHeartbeats 4000000 in
set_option maxRecDepth 100000 in
theorem cakw_X1_headLength_52 {p : Program} {l : Launch} {e : Env} {s : State} {m : MethodId} {args : Array Value} {below : List Frame} {meth : Method} {c : Code} {D : va_G} {ad : Nat → Nat} {vx : Nat → Value} {cI cJ cR : ClassId} {Ln : Nat → Nat} {A : Nat → Prop} {K7 : cs_T → Int32 → Int32 → Int32 → Int32 → Prop} {Q : Int32 → cs_T → Prop} {S : cs_T} {v1 : Int32} {v2 : Int32} {v4 : Int32} {s0 : Int32} (fx : xr_Fx p m c meth cX1_headLength 5 s args wsX1_headLength RX1 (some .int)) (hK : xr_K D (cs_ty cI cJ cR) s) (hA : ∀ q, s.heap.size ≤ q → A q)  (k7 : ∀ (S : cs_T) (v1 : Int32) (v2 : Int32) (v3 : Int32) (v4 : Int32) {H : Heap} {locs : List Loc} {ls : Array Slot}, va_P D vwCl (ca_w ad vx cI cR Ln S) H → va_D A (ca_w ad vx cI cR Ln S) → va_S A s.heap H locs → lv_has ls 5 [(0, .ref (ad 3)), (1, .int v1), (2, .int v2), (3, .int v3), (4, .int v4)] → K7 S v1 v2 v3 v4 → W p l e rm_X1_headLength s m args below meth c H locs 0 0 (MQ below (va_Qi Q (xr_B D (cs_ty cI cJ cR) (ca_w ad vx cI cR Ln) A) A) args s 0 0 A) (F0 m 7 ls [])) {H : Heap} {locs : List Loc} {ls : Array Slot} (hP : va_P D vwCl (ca_w ad vx cI cR Ln S) H) (hD : va_D A (ca_w ad vx cI cR Ln S)) (hS : va_S A s.heap H locs) (hl : lv_has ls 5 [(0, .ref (ad 3)), (1, .int v1), (2, .int v2), (4, .int v4)]) (h : wp_X1_headLength_52 Ln K7 Q S v1 v2 v4 s0) : W p l e rm_X1_headLength s m args below meth c H locs 0 0 (MQ below (va_Qi Q (xr_B D (cs_ty cI cJ cR) (ca_w ad vx cI cR Ln) A) A) args s 0 0 A) (F0 m 52 ls [.int s0]) := by
  obtain ⟨⟨hx, hb, hml, hown, hts⟩, hrt, hlk⟩ := id fx
  have hf : 0 ≤ rm_X1_headLength.cells ∧ 0 ≤ rm_X1_headLength.slots := ⟨Nat.zero_le _, Nat.zero_le _⟩
  unfold wp_X1_headLength_52 at h
  refine lv_istore_n (lv' := [(3, .int s0), (0, .ref (ad 3)), (1, .int v1), (2, .int v2), (4, .int v4)]) hx hb dX1_headLength_52 rfl hl (by decide) rfl (fun ls hl => ?_)
  obtain ⟨v4_1, ev4_1⟩ : ∃ z : Int32, z = v4 + 1 := ⟨_, rfl⟩
  have h := h v4_1 ev4_1
  refine lv_iinc (v := v4_1) (lv' := [(4, .int v4_1), (3, .int s0), (0, .ref (ad 3)), (1, .int v1), (2, .int v2)]) hx hb dX1_headLength_53 hl (k := 4) rfl (by rw [ev4_1]; rfl) (by decide) rfl (fun ls hl => ?_)
  refine lv_goto (tgt := 7) hx hb dX1_headLength_56 (by decide) ?_
  exact k7 _ _ _ _ _ hP hD hS (lv_sub hl [2, 3, 4, 1, 0] rfl) h
set_option maxHeartbeats 4000000 in
set_option maxRecDepth 100000 in
theorem cakb_X1_headLength_7 {p : Program} {l : Launch} {e : Env} {s : State} {m : MethodId} {args : Array Value} {below : List Frame} {meth : Method} {c : Code} {D : va_G} {ad : Nat → Nat} {vx : Nat → Value} {cI cJ cR : ClassId} {Ln : Nat → Nat} {A : Nat → Prop}  {K7 : cs_T → Int32 → Int32 → Int32 → Int32 → Prop} {Q : Int32 → cs_T → Prop} {S : cs_T} {v1 : Int32} {v2 : Int32} {v3 : Int32} {v4 : Int32} (fx : xr_Fx p m c meth cX1_headLength 5 s args wsX1_headLength RX1 (some .int)) (hK : xr_K D (cs_ty cI cJ cR) s) (hA : ∀ q, s.heap.size ≤ q → A q)   (k7 : ∀ (S : cs_T) (v1 : Int32) (v2 : Int32) (v3 : Int32) (v4 : Int32) {H : Heap} {locs : List Loc} {ls : Array Slot}, va_P D vwCl (ca_w ad vx cI cR Ln S) H → va_D A (ca_w ad vx cI cR Ln S) → va_S A s.heap H locs → lv_has ls 5 [(0, .ref (ad 3)), (1, .int v1), (2, .int v2), (3, .int v3), (4, .int v4)] → K7 S v1 v2 v3 v4 → W p l e rm_X1_headLength s m args below meth c H locs 0 0 (MQ below (va_Qi Q (xr_B D (cs_ty cI cJ cR) (ca_w ad vx cI cR Ln) A) A) args s 0 0 A) (F0 m 7 ls [])) {H : Heap} {locs : List Loc} {ls : Array Slot} (hP : va_P D vwCl (ca_w ad vx cI cR Ln S) H) (hD : va_D A (ca_w ad vx cI cR Ln S)) (hS : va_S A s.heap H locs) (hl : lv_has ls 5 [(0, .ref (ad 3)), (1, .int v1), (2, .int v2), (3, .int v3), (4, .int v4)]) (h : wb_X1_headLength_7 Ln K7 Q S v1 v2 v3 v4) : W p l e rm_X1_headLength s m args below meth c H locs 0 0 (MQ below (va_Qi Q (xr_B D (cs_ty cI cJ cR) (ca_w ad vx cI cR Ln) A) A) args s 0 0 A) (F0 m 7 ls []) := by
  obtain ⟨⟨hx, hb, hml, hown, hts⟩, hrt, hlk⟩ := id fx
  have hf : 0 ≤ rm_X1_headLength.cells ∧ 0 ≤ rm_X1_headLength.slots := ⟨Nat.zero_le _, Nat.zero_le _⟩
  unfold wb_X1_headLength_7 at h
  refine lv_iload hx hb dX1_headLength_7 (lv_at hl 4 rfl) ?_
  refine lv_iload_n hx hb dX1_headLength_9 rfl (lv_at hl 2 rfl) ?_
  refine lv_icmp_ge (tgt := 59) hx hb dX1_headLength_10 (by decide) (fun c10 => ?_) (fun c10 => ?_)
  · have h := h.1 c10
    refine lv_iload hx hb dX1_headLength_59 (lv_at hl 4 rfl) ?_
    refine lv_iload_n hx hb dX1_headLength_61 rfl (lv_at hl 3 rfl) ?_
    refine lv_isub hx hb dX1_headLength_62 ?_
    exact xr_rI fx hK hP hD hS h dX1_headLength_63
  · have h := h.2 c10
    refine lv_aload_n hx hb dX1_headLength_13 rfl (lv_at hl 0 rfl) ?_
    refine ca_get 3 1 7 (v := .ref (ad (9 + 37))) (ref := "BracketLetters$Chiefs") fx (by decide) rfl rfl in_X1_headLength_X1 (by decide) rfl (by decide +kernel) rfl hK hP dX1_headLength_14 ?_
    refine lv_iload_n hx hb dX1_headLength_17 rfl (lv_at hl 3 rfl) ?_
    obtain ⟨hi2, h⟩ := h
    refine ca_iald 37 (by decide) fx hK hP hi2 dX1_headLength_18 ?_
    refine lv_aload_n hx hb dX1_headLength_19 rfl (lv_at hl 0 rfl) ?_
    refine ca_get 3 1 7 (v := .ref (ad (9 + 37))) (ref := "BracketLetters$Chiefs") fx (by decide) rfl rfl in_X1_headLength_X1 (by decide) rfl (by decide +kernel) rfl hK hP dX1_headLength_20 ?_
    refine lv_iload hx hb dX1_headLength_23 (lv_at hl 4 rfl) ?_
    obtain ⟨hi3, h⟩ := h
    refine ca_iald 37 (by decide) fx hK hP hi3 dX1_headLength_25 ?_
    refine lv_icmp_gt (tgt := 59) hx hb dX1_headLength_26 (by decide) (fun c26 => ?_) (fun c26 => ?_)
    · have h := h.1 c26
      refine lv_iload hx hb dX1_headLength_59 (lv_at hl 4 rfl) ?_
      refine lv_iload_n hx hb dX1_headLength_61 rfl (lv_at hl 3 rfl) ?_
      refine lv_isub hx hb dX1_headLength_62 ?_
      exact xr_rI fx hK hP hD hS h dX1_headLength_63
    · have h := h.2 c26
      refine lv_aload_n hx hb dX1_headLength_29 rfl (lv_at hl 0 rfl) ?_
      refine ca_get 3 1 7 (v := .ref (ad (9 + 37))) (ref := "BracketLetters$Chiefs") fx (by decide) rfl rfl in_X1_headLength_X1 (by decide) rfl (by decide +kernel) rfl hK hP dX1_headLength_30 ?_
      refine lv_iload_n hx hb dX1_headLength_33 rfl (lv_at hl 3 rfl) ?_
      obtain ⟨hi4, h⟩ := h
      refine ca_iald 37 (by decide) fx hK hP hi4 dX1_headLength_34 ?_
      refine lv_aload_n hx hb dX1_headLength_35 rfl (lv_at hl 0 rfl) ?_
      refine ca_get 3 1 7 (v := .ref (ad (9 + 37))) (ref := "BracketLetters$Chiefs") fx (by decide) rfl rfl in_X1_headLength_X1 (by decide) rfl (by decide +kernel) rfl hK hP dX1_headLength_36 ?_
      refine lv_iload hx hb dX1_headLength_39 (lv_at hl 4 rfl) ?_
      obtain ⟨hi5, h⟩ := h
      refine ca_iald 37 (by decide) fx hK hP hi5 dX1_headLength_41 ?_
      refine lv_icmp_ge (tgt := 49) hx hb dX1_headLength_42 (by decide) (fun c42 => ?_) (fun c42 => ?_)
      · have h := h.1 c42
        refine lv_iload_n hx hb dX1_headLength_49 rfl (lv_at hl 3 rfl) ?_
        refine lv_iconst (v := 1) hx hb dX1_headLength_50 (by decide) ?_
        refine lv_iadd hx hb dX1_headLength_51 ?_
        exact cakw_X1_headLength_52 fx hK hA k7 hP hD hS (lv_sub hl [0, 1, 2, 4] rfl) h
      · have h := h.2 c42
        refine lv_iload_n hx hb dX1_headLength_45 rfl (lv_at hl 1 rfl) ?_
        refine lv_goto (tgt := 52) hx hb dX1_headLength_46 (by decide) ?_
        exact cakw_X1_headLength_52 fx hK hA k7 hP hD hS (lv_sub hl [0, 1, 2, 4] rfl) h
theorem cakw_X1_headLength_7 {p : Program} {l : Launch} {e : Env} {s : State} {m : MethodId} {args : Array Value} {below : List Frame} {meth : Method} {c : Code} {D : va_G} {ad : Nat → Nat} {vx : Nat → Value} {cI cJ cR : ClassId} {Ln : Nat → Nat} {A : Nat → Prop}  {Q : Int32 → cs_T → Prop} (fx : xr_Fx p m c meth cX1_headLength 5 s args wsX1_headLength RX1 (some .int)) (hK : xr_K D (cs_ty cI cJ cR) s) (hA : ∀ q, s.heap.size ≤ q → A q)   : ∀ (n : Nat) (S : cs_T) (v1 : Int32) (v2 : Int32) (v3 : Int32) (v4 : Int32) {H : Heap} {locs : List Loc} {ls : Array Slot}, va_P D vwCl (ca_w ad vx cI cR Ln S) H → va_D A (ca_w ad vx cI cR Ln S) → va_S A s.heap H locs → lv_has ls 5 [(0, .ref (ad 3)), (1, .int v1), (2, .int v2), (3, .int v3), (4, .int v4)] → wp_X1_headLength_7 Ln Q n S v1 v2 v3 v4 → W p l e rm_X1_headLength s m args below meth c H locs 0 0 (MQ below (va_Qi Q (xr_B D (cs_ty cI cJ cR) (ca_w ad vx cI cR Ln) A) A) args s 0 0 A) (F0 m 7 ls []) := by
  intro n
  induction n with
  | zero => intro S v1 v2 v3 v4 H locs ls hP hD hS hl h; exact False.elim h
  | succ n ih => intro S v1 v2 v3 v4 H locs ls hP hD hS hl h; exact cakb_X1_headLength_7 fx hK hA ih hP hD hS hl h
set_option maxHeartbeats 4000000 in
set_option maxRecDepth 100000 in
theorem cact_X1_headLength (l : Launch) (D : va_G) (ad : Nat → Nat) (vx : Nat → Value) (cI cJ cR : ClassId) (Ln : Nat → Nat) {S : cs_T} {a1 : Int32} {a2 : Int32} {Q : Int32 → cs_T → Prop} (h : wp_X1_headLength Ln S a1 a2 Q) : xr_I l D (cs_ty cI cJ cR) (ca_w ad vx cI cR Ln) yX1_headLength wsX1_headLength rm_X1_headLength [.ref (ad 3), .int a1, .int a2] S Q := by
  refine xr_eI (cc := cX1_headLength) (nL := 5) (ret := (some .int)) (own := RX1) (by decide) rfl rfl (Nat.le_of_ble_eq_true rfl) ?_
  intro p e s m args below meth c ls A fx hK hA hP hD hS hl
  have hl : lv_has ls 5 [(0, .ref (ad 3)), (1, .int a1), (2, .int a2)] := hl
  show W p l e rm_X1_headLength s m args below meth c s.heap [] 0 0 _ _
  obtain ⟨⟨hx, hb, hml, hown, hts⟩, hrt, hlk⟩ := id fx
  have hf : 0 ≤ rm_X1_headLength.cells ∧ 0 ≤ rm_X1_headLength.slots := ⟨Nat.zero_le _, Nat.zero_le _⟩
  unfold wp_X1_headLength at h
  refine lv_iload_n hx hb dX1_headLength_0 rfl (lv_at hl 1 rfl) ?_
  refine lv_istore_n (lv' := [(3, .int a1), (0, .ref (ad 3)), (1, .int a1), (2, .int a2)]) hx hb dX1_headLength_1 rfl hl (by decide) rfl (fun ls hl => ?_)
  refine lv_iload_n hx hb dX1_headLength_2 rfl (lv_at hl 2 rfl) ?_
  refine lv_iconst (v := 1) hx hb dX1_headLength_3 (by decide) ?_
  refine lv_iadd hx hb dX1_headLength_4 ?_
  refine lv_topi (fun v4_6 ev4_6 => ?_)
  have h := h v4_6 ev4_6
  refine lv_istore (lv' := [(4, .int v4_6), (3, .int a1), (0, .ref (ad 3)), (1, .int a1), (2, .int a2)]) hx hb dX1_headLength_5 hl (by decide) rfl (fun ls hl => ?_)
  obtain ⟨n, h⟩ := h
  exact cakw_X1_headLength_7 fx hK hA n _ _ _ _ _ hP hD hS (lv_sub hl [2, 3, 4, 1, 0] rfl) h
def wi_X1_findChiefs_96 (Ln : Nat → Nat) (K9 : cs_T → Int32 → Int32 → Prop) (K41 : cs_T → Int32 → Int32 → Int32 → Prop) (Q : Int32 → cs_T → Prop) (S : cs_T) (v3 : Int32) (v4 : Int32) (v5 : Int32) : Prop :=
  ∀ v5_1 : Int32, v5_1 = v5 + 1 → K41 S v3 v4 v5_1
def wj_X1_findChiefs_41 (Ln : Nat → Nat) (K9 : cs_T → Int32 → Int32 → Prop) (K41 : cs_T → Int32 → Int32 → Int32 → Prop) (Q : Int32 → cs_T → Prop) (S : cs_T) (v3 : Int32) (v4 : Int32) (v5 : Int32) : Prop :=
  vp_in (v4 + 1) (Ln 1) ∧ (((S.2.1 1 (v4 + 1).toNatClampNeg) ≤ v5 → ∀ v4_3 : Int32, v4_3 = v4 + 1 → K9 S v3 v4_3) ∧ (¬ (S.2.1 1 (v4 + 1).toNatClampNeg) ≤ v5 → wp_X1_spell Ln S v5 v4 (fun (S4 : cs_T) => vp_in v5 (Ln 46) ∧ wp_X1_headLength Ln (cs_sI S4 46 v5.toNatClampNeg ((-1))) 0 v4 (fun (r7 : Int32) (S6 : cs_T) => ((¬ r7 = v4 → wi_X1_findChiefs_96 Ln K9 K41 Q S6 v3 v4 v5) ∧ (r7 = v4 → vp_in v3 (Ln 45) ∧ vp_in v5 (Ln 46) ∧ ∀ v3_10 : Int32, v3_10 = v3 + 1 → wi_X1_findChiefs_96 Ln K9 K41 Q (cs_sI (cs_sI S6 45 v3.toNatClampNeg v5) 46 v5.toNatClampNeg v3) v3_10 v4 v5))))))
def wi_X1_findChiefs_41 (Ln : Nat → Nat) (K9 : cs_T → Int32 → Int32 → Prop) (Q : Int32 → cs_T → Prop) : Nat → cs_T → Int32 → Int32 → Int32 → Prop
  | 0 => fun _ _ _ _ => False
  | n + 1 => fun S v3 v4 v5 => wj_X1_findChiefs_41 Ln K9 (wi_X1_findChiefs_41 Ln K9 Q n) Q S v3 v4 v5
def wj_X1_findChiefs_9 (Ln : Nat → Nat)  (K9 : cs_T → Int32 → Int32 → Prop) (Q : Int32 → cs_T → Prop) (S : cs_T) (v3 : Int32) (v4 : Int32) : Prop :=
  (((S.1 3) < v4 → vp_in ((S.1 3) + 1) (Ln 36) ∧ Q v3 (cs_sI S 36 ((S.1 3) + 1).toNatClampNeg v3)) ∧ (¬ (S.1 3) < v4 → vp_in v4 (Ln 36) ∧ vp_in v4 (Ln 1) ∧ ∀ v5_14 : Int32, v5_14 = (cs_sI S 36 v4.toNatClampNeg v3).2.1 1 v4.toNatClampNeg → ∃ n : Nat, wi_X1_findChiefs_41 Ln K9 Q n (cs_sI S 36 v4.toNatClampNeg v3) v3 v4 v5_14))
def wi_X1_findChiefs_9 (Ln : Nat → Nat)  (Q : Int32 → cs_T → Prop) : Nat → cs_T → Int32 → Int32 → Prop
  | 0 => fun _ _ _ => False
  | n + 1 => fun S v3 v4 => wj_X1_findChiefs_9 Ln (wi_X1_findChiefs_9 Ln Q n) Q S v3 v4
def wi_X1_findChiefs (Ln : Nat → Nat) (S : cs_T) (Q : Int32 → cs_T → Prop) : Prop :=
  vp_in ((0 : Int32)) (Ln 46) ∧ ∃ n : Nat, wi_X1_findChiefs_9 Ln Q n (cs_sI S 46 ((0 : Int32)).toNatClampNeg ((-1))) 0 1
set_option maxHeartbeats 4000000 in
set_option maxRecDepth 100000 in
theorem cakw_X1_findChiefs_96 {p : Program} {l : Launch} {e : Env} {s : State} {m : MethodId} {args : Array Value} {below : List Frame} {meth : Method} {c : Code} {D : va_G} {ad : Nat → Nat} {vx : Nat → Value} {cI cJ cR : ClassId} {Ln : Nat → Nat} {A : Nat → Prop} {K9 : cs_T → Int32 → Int32 → Prop} {K41 : cs_T → Int32 → Int32 → Int32 → Prop} {Q : Int32 → cs_T → Prop} {S : cs_T} {v3 : Int32} {v4 : Int32} {v5 : Int32} (fx : xr_Fx p m c meth cX1_findChiefs 6 s args wsX1_findChiefs RX1 (some .int)) (hK : xr_K D (cs_ty cI cJ cR) s) (hA : ∀ q, s.heap.size ≤ q → A q)  (k9 : ∀ (S : cs_T) (v3 : Int32) (v4 : Int32) {H : Heap} {locs : List Loc} {ls : Array Slot}, va_P D vwCl (ca_w ad vx cI cR Ln S) H → va_D A (ca_w ad vx cI cR Ln S) → va_S A s.heap H locs → lv_has ls 6 [(0, .ref (ad 3)), (1, .ref (ad (9 + 45))), (2, .ref (ad (9 + 46))), (3, .int v3), (4, .int v4)] → K9 S v3 v4 → W p l e rm_X1_findChiefs s m args below meth c H locs 0 0 (MQ below (va_Qi Q (xr_B D (cs_ty cI cJ cR) (ca_w ad vx cI cR Ln) A) A) args s 0 0 A) (F0 m 9 ls [])) (k41 : ∀ (S : cs_T) (v3 : Int32) (v4 : Int32) (v5 : Int32) {H : Heap} {locs : List Loc} {ls : Array Slot}, va_P D vwCl (ca_w ad vx cI cR Ln S) H → va_D A (ca_w ad vx cI cR Ln S) → va_S A s.heap H locs → lv_has ls 6 [(0, .ref (ad 3)), (1, .ref (ad (9 + 45))), (2, .ref (ad (9 + 46))), (3, .int v3), (4, .int v4), (5, .int v5)] → K41 S v3 v4 v5 → W p l e rm_X1_findChiefs s m args below meth c H locs 0 0 (MQ below (va_Qi Q (xr_B D (cs_ty cI cJ cR) (ca_w ad vx cI cR Ln) A) A) args s 0 0 A) (F0 m 41 ls [])) {H : Heap} {locs : List Loc} {ls : Array Slot} (hP : va_P D vwCl (ca_w ad vx cI cR Ln S) H) (hD : va_D A (ca_w ad vx cI cR Ln S)) (hS : va_S A s.heap H locs) (hl : lv_has ls 6 [(0, .ref (ad 3)), (1, .ref (ad (9 + 45))), (2, .ref (ad (9 + 46))), (3, .int v3), (4, .int v4), (5, .int v5)]) (h : wi_X1_findChiefs_96 Ln K9 K41 Q S v3 v4 v5) : W p l e rm_X1_findChiefs s m args below meth c H locs 0 0 (MQ below (va_Qi Q (xr_B D (cs_ty cI cJ cR) (ca_w ad vx cI cR Ln) A) A) args s 0 0 A) (F0 m 96 ls []) := by
  obtain ⟨⟨hx, hb, hml, hown, hts⟩, hrt, hlk⟩ := id fx
  have hf : 0 ≤ rm_X1_findChiefs.cells ∧ 0 ≤ rm_X1_findChiefs.slots := ⟨Nat.zero_le _, Nat.zero_le _⟩
  unfold wi_X1_findChiefs_96 at h
  obtain ⟨v5_1, ev5_1⟩ : ∃ z : Int32, z = v5 + 1 := ⟨_, rfl⟩
  have h := h v5_1 ev5_1
  refine lv_iinc (v := v5_1) (lv' := [(5, .int v5_1), (0, .ref (ad 3)), (1, .ref (ad (9 + 45))), (2, .ref (ad (9 + 46))), (3, .int v3), (4, .int v4)]) hx hb dX1_findChiefs_96 hl (k := 5) rfl (by rw [ev5_1]; rfl) (by decide) rfl (fun ls hl => ?_)
  refine lv_goto (tgt := 41) hx hb dX1_findChiefs_99 (by decide) ?_
  exact k41 _ _ _ _ hP hD hS (lv_sub hl [1, 2, 3, 4, 5, 0] rfl) h
set_option maxHeartbeats 4000000 in
set_option maxRecDepth 100000 in
theorem cakb_X1_findChiefs_41 {p : Program} {l : Launch} {e : Env} {s : State} {m : MethodId} {args : Array Value} {below : List Frame} {meth : Method} {c : Code} {D : va_G} {ad : Nat → Nat} {vx : Nat → Value} {cI cJ cR : ClassId} {Ln : Nat → Nat} {A : Nat → Prop} {K9 : cs_T → Int32 → Int32 → Prop} {K41 : cs_T → Int32 → Int32 → Int32 → Prop} {Q : Int32 → cs_T → Prop} {S : cs_T} {v3 : Int32} {v4 : Int32} {v5 : Int32} (fx : xr_Fx p m c meth cX1_findChiefs 6 s args wsX1_findChiefs RX1 (some .int)) (hK : xr_K D (cs_ty cI cJ cR) s) (hA : ∀ q, s.heap.size ≤ q → A q)  (k9 : ∀ (S : cs_T) (v3 : Int32) (v4 : Int32) {H : Heap} {locs : List Loc} {ls : Array Slot}, va_P D vwCl (ca_w ad vx cI cR Ln S) H → va_D A (ca_w ad vx cI cR Ln S) → va_S A s.heap H locs → lv_has ls 6 [(0, .ref (ad 3)), (1, .ref (ad (9 + 45))), (2, .ref (ad (9 + 46))), (3, .int v3), (4, .int v4)] → K9 S v3 v4 → W p l e rm_X1_findChiefs s m args below meth c H locs 0 0 (MQ below (va_Qi Q (xr_B D (cs_ty cI cJ cR) (ca_w ad vx cI cR Ln) A) A) args s 0 0 A) (F0 m 9 ls [])) (k41 : ∀ (S : cs_T) (v3 : Int32) (v4 : Int32) (v5 : Int32) {H : Heap} {locs : List Loc} {ls : Array Slot}, va_P D vwCl (ca_w ad vx cI cR Ln S) H → va_D A (ca_w ad vx cI cR Ln S) → va_S A s.heap H locs → lv_has ls 6 [(0, .ref (ad 3)), (1, .ref (ad (9 + 45))), (2, .ref (ad (9 + 46))), (3, .int v3), (4, .int v4), (5, .int v5)] → K41 S v3 v4 v5 → W p l e rm_X1_findChiefs s m args below meth c H locs 0 0 (MQ below (va_Qi Q (xr_B D (cs_ty cI cJ cR) (ca_w ad vx cI cR Ln) A) A) args s 0 0 A) (F0 m 41 ls [])) {H : Heap} {locs : List Loc} {ls : Array Slot} (hP : va_P D vwCl (ca_w ad vx cI cR Ln S) H) (hD : va_D A (ca_w ad vx cI cR Ln S)) (hS : va_S A s.heap H locs) (hl : lv_has ls 6 [(0, .ref (ad 3)), (1, .ref (ad (9 + 45))), (2, .ref (ad (9 + 46))), (3, .int v3), (4, .int v4), (5, .int v5)]) (h : wj_X1_findChiefs_41 Ln K9 K41 Q S v3 v4 v5) : W p l e rm_X1_findChiefs s m args below meth c H locs 0 0 (MQ below (va_Qi Q (xr_B D (cs_ty cI cJ cR) (ca_w ad vx cI cR Ln) A) A) args s 0 0 A) (F0 m 41 ls []) := by
  obtain ⟨⟨hx, hb, hml, hown, hts⟩, hrt, hlk⟩ := id fx
  have hf : 0 ≤ rm_X1_findChiefs.cells ∧ 0 ≤ rm_X1_findChiefs.slots := ⟨Nat.zero_le _, Nat.zero_le _⟩
  unfold wj_X1_findChiefs_41 at h
  refine lv_iload hx hb dX1_findChiefs_41 (lv_at hl 5 rfl) ?_
  refine lv_aload_n hx hb dX1_findChiefs_43 rfl (lv_at hl 0 rfl) ?_
  refine ca_get 3 1 4 (v := .ref (ad 1)) (ref := "BracketLetters$Chiefs") fx (by decide) rfl rfl in_X1_findChiefs_X1 (by decide) rfl (by decide +kernel) rfl hK hP dX1_findChiefs_44 ?_
  refine ca_get 1 5 3 (v := .ref (ad (9 + 1))) (ref := "BracketLetters$Words") fx (by decide) rfl rfl in_X1_findChiefs_X6 (by decide) rfl (by decide +kernel) rfl hK hP dX1_findChiefs_47 ?_
  refine lv_iload hx hb dX1_findChiefs_50 (lv_at hl 4 rfl) ?_
  refine lv_iconst (v := 1) hx hb dX1_findChiefs_52 (by decide) ?_
  refine lv_iadd hx hb dX1_findChiefs_53 ?_
  obtain ⟨hi2, h⟩ := h
  refine ca_iald 1 (by decide) fx hK hP hi2 dX1_findChiefs_54 ?_
  refine lv_icmp_ge (tgt := 102) hx hb dX1_findChiefs_55 (by decide) (fun c55 => ?_) (fun c55 => ?_)
  · have h := h.1 c55
    obtain ⟨v4_3, ev4_3⟩ : ∃ z : Int32, z = v4 + 1 := ⟨_, rfl⟩
    have h := h v4_3 ev4_3
    refine lv_iinc (v := v4_3) (lv' := [(4, .int v4_3), (0, .ref (ad 3)), (1, .ref (ad (9 + 45))), (2, .ref (ad (9 + 46))), (3, .int v3), (5, .int v5)]) hx hb dX1_findChiefs_102 hl (k := 4) rfl (by rw [ev4_3]; rfl) (by decide) rfl (fun ls hl => ?_)
    refine lv_goto (tgt := 9) hx hb dX1_findChiefs_105 (by decide) ?_
    exact k9 _ _ _ hP hD hS (lv_sub hl [1, 2, 3, 4, 0] rfl) h
  · have h := h.2 c55
    refine lv_aload_n hx hb dX1_findChiefs_58 rfl (lv_at hl 0 rfl) ?_
    refine lv_iload hx hb dX1_findChiefs_59 (lv_at hl 5 rfl) ?_
    refine lv_iload hx hb dX1_findChiefs_61 (lv_at hl 4 rfl) ?_
    refine xr_vV (n := 2) (As := [.int v5, .int v4]) (rest := []) fx (cact_X1_spell l D ad vx cI cJ cR Ln h) gX1_findChiefs_X1_spell rfl rfl (by decide +kernel) ⟨Nat.le_of_ble_eq_true rfl, Nat.le_of_ble_eq_true rfl⟩ ⟨rfl, rfl⟩ hf (ca_recv 3 1 (by decide) rfl rfl hK hP) hK hP hD hS hA hl.1 rfl (Nat.le_of_ble_eq_true rfl) dX1_findChiefs_63 (fun S4 H locs h hP hD hS => ?_)
    refine lv_aload_n hx hb dX1_findChiefs_66 rfl (lv_at hl 2 rfl) ?_
    refine lv_iload hx hb dX1_findChiefs_67 (lv_at hl 5 rfl) ?_
    refine lv_iconst (v := (-1)) hx hb dX1_findChiefs_69 (by decide) ?_
    obtain ⟨hi5, h⟩ := h
    refine ca_iast 46 (by decide) fx hK hP hD hS hi5 dX1_findChiefs_70 (fun H locs hP hD hS => ?_)
    refine lv_aload_n hx hb dX1_findChiefs_71 rfl (lv_at hl 0 rfl) ?_
    refine lv_iconst (v := 0) hx hb dX1_findChiefs_72 (by decide) ?_
    refine lv_iload hx hb dX1_findChiefs_73 (lv_at hl 4 rfl) ?_
    refine xr_vI (n := 2) (As := [.int 0, .int v4]) (rest := []) fx (cact_X1_headLength l D ad vx cI cJ cR Ln h) gX1_findChiefs_X1_headLength rfl rfl (by decide +kernel) ⟨Nat.le_of_ble_eq_true rfl, Nat.le_of_ble_eq_true rfl⟩ ⟨rfl, rfl⟩ hf (ca_recv 3 1 (by decide) rfl rfl hK hP) hK hP hD hS hA hl.1 rfl (Nat.le_of_ble_eq_true rfl) dX1_findChiefs_75 (fun r7 S6 H locs h hP hD hS => ?_)
    refine lv_iload hx hb dX1_findChiefs_78 (lv_at hl 4 rfl) ?_
    refine lv_icmp_ne (tgt := 96) hx hb dX1_findChiefs_80 (by decide) (fun c80 => ?_) (fun c80 => ?_)
    · have h := h.1 c80
      exact cakw_X1_findChiefs_96 fx hK hA k9 k41 hP hD hS (lv_sub hl [0, 1, 2, 3, 4, 5] rfl) h
    · have h := h.2 c80
      refine lv_aload_n hx hb dX1_findChiefs_83 rfl (lv_at hl 1 rfl) ?_
      refine lv_iload_n hx hb dX1_findChiefs_84 rfl (lv_at hl 3 rfl) ?_
      refine lv_iload hx hb dX1_findChiefs_85 (lv_at hl 5 rfl) ?_
      obtain ⟨hi8, h⟩ := h
      refine ca_iast 45 (by decide) fx hK hP hD hS hi8 dX1_findChiefs_87 (fun H locs hP hD hS => ?_)
      refine lv_aload_n hx hb dX1_findChiefs_88 rfl (lv_at hl 2 rfl) ?_
      refine lv_iload hx hb dX1_findChiefs_89 (lv_at hl 5 rfl) ?_
      refine lv_iload_n hx hb dX1_findChiefs_91 rfl (lv_at hl 3 rfl) ?_
      obtain ⟨hi9, h⟩ := h
      refine ca_iast 46 (by decide) fx hK hP hD hS hi9 dX1_findChiefs_92 (fun H locs hP hD hS => ?_)
      obtain ⟨v3_10, ev3_10⟩ : ∃ z : Int32, z = v3 + 1 := ⟨_, rfl⟩
      have h := h v3_10 ev3_10
      refine lv_iinc (v := v3_10) (lv' := [(3, .int v3_10), (0, .ref (ad 3)), (1, .ref (ad (9 + 45))), (2, .ref (ad (9 + 46))), (4, .int v4), (5, .int v5)]) hx hb dX1_findChiefs_93 hl (k := 3) rfl (by rw [ev3_10]; rfl) (by decide) rfl (fun ls hl => ?_)
      exact cakw_X1_findChiefs_96 fx hK hA k9 k41 hP hD hS (lv_sub hl [1, 2, 3, 0, 4, 5] rfl) h
theorem cakw_X1_findChiefs_41 {p : Program} {l : Launch} {e : Env} {s : State} {m : MethodId} {args : Array Value} {below : List Frame} {meth : Method} {c : Code} {D : va_G} {ad : Nat → Nat} {vx : Nat → Value} {cI cJ cR : ClassId} {Ln : Nat → Nat} {A : Nat → Prop} {K9 : cs_T → Int32 → Int32 → Prop} {Q : Int32 → cs_T → Prop} (fx : xr_Fx p m c meth cX1_findChiefs 6 s args wsX1_findChiefs RX1 (some .int)) (hK : xr_K D (cs_ty cI cJ cR) s) (hA : ∀ q, s.heap.size ≤ q → A q)  (k9 : ∀ (S : cs_T) (v3 : Int32) (v4 : Int32) {H : Heap} {locs : List Loc} {ls : Array Slot}, va_P D vwCl (ca_w ad vx cI cR Ln S) H → va_D A (ca_w ad vx cI cR Ln S) → va_S A s.heap H locs → lv_has ls 6 [(0, .ref (ad 3)), (1, .ref (ad (9 + 45))), (2, .ref (ad (9 + 46))), (3, .int v3), (4, .int v4)] → K9 S v3 v4 → W p l e rm_X1_findChiefs s m args below meth c H locs 0 0 (MQ below (va_Qi Q (xr_B D (cs_ty cI cJ cR) (ca_w ad vx cI cR Ln) A) A) args s 0 0 A) (F0 m 9 ls [])) : ∀ (n : Nat) (S : cs_T) (v3 : Int32) (v4 : Int32) (v5 : Int32) {H : Heap} {locs : List Loc} {ls : Array Slot}, va_P D vwCl (ca_w ad vx cI cR Ln S) H → va_D A (ca_w ad vx cI cR Ln S) → va_S A s.heap H locs → lv_has ls 6 [(0, .ref (ad 3)), (1, .ref (ad (9 + 45))), (2, .ref (ad (9 + 46))), (3, .int v3), (4, .int v4), (5, .int v5)] → wi_X1_findChiefs_41 Ln K9 Q n S v3 v4 v5 → W p l e rm_X1_findChiefs s m args below meth c H locs 0 0 (MQ below (va_Qi Q (xr_B D (cs_ty cI cJ cR) (ca_w ad vx cI cR Ln) A) A) args s 0 0 A) (F0 m 41 ls []) := by
  intro n
  induction n with
  | zero => intro S v3 v4 v5 H locs ls hP hD hS hl h; exact False.elim h
  | succ n ih => intro S v3 v4 v5 H locs ls hP hD hS hl h; exact cakb_X1_findChiefs_41 fx hK hA k9 ih hP hD hS hl h
set_option maxHeartbeats 4000000 in
set_option maxRecDepth 100000 in
theorem cakb_X1_findChiefs_9 {p : Program} {l : Launch} {e : Env} {s : State} {m : MethodId} {args : Array Value} {below : List Frame} {meth : Method} {c : Code} {D : va_G} {ad : Nat → Nat} {vx : Nat → Value} {cI cJ cR : ClassId} {Ln : Nat → Nat} {A : Nat → Prop}  {K9 : cs_T → Int32 → Int32 → Prop} {Q : Int32 → cs_T → Prop} {S : cs_T} {v3 : Int32} {v4 : Int32} (fx : xr_Fx p m c meth cX1_findChiefs 6 s args wsX1_findChiefs RX1 (some .int)) (hK : xr_K D (cs_ty cI cJ cR) s) (hA : ∀ q, s.heap.size ≤ q → A q)   (k9 : ∀ (S : cs_T) (v3 : Int32) (v4 : Int32) {H : Heap} {locs : List Loc} {ls : Array Slot}, va_P D vwCl (ca_w ad vx cI cR Ln S) H → va_D A (ca_w ad vx cI cR Ln S) → va_S A s.heap H locs → lv_has ls 6 [(0, .ref (ad 3)), (1, .ref (ad (9 + 45))), (2, .ref (ad (9 + 46))), (3, .int v3), (4, .int v4)] → K9 S v3 v4 → W p l e rm_X1_findChiefs s m args below meth c H locs 0 0 (MQ below (va_Qi Q (xr_B D (cs_ty cI cJ cR) (ca_w ad vx cI cR Ln) A) A) args s 0 0 A) (F0 m 9 ls [])) {H : Heap} {locs : List Loc} {ls : Array Slot} (hP : va_P D vwCl (ca_w ad vx cI cR Ln S) H) (hD : va_D A (ca_w ad vx cI cR Ln S)) (hS : va_S A s.heap H locs) (hl : lv_has ls 6 [(0, .ref (ad 3)), (1, .ref (ad (9 + 45))), (2, .ref (ad (9 + 46))), (3, .int v3), (4, .int v4)]) (h : wj_X1_findChiefs_9 Ln K9 Q S v3 v4) : W p l e rm_X1_findChiefs s m args below meth c H locs 0 0 (MQ below (va_Qi Q (xr_B D (cs_ty cI cJ cR) (ca_w ad vx cI cR Ln) A) A) args s 0 0 A) (F0 m 9 ls []) := by
  obtain ⟨⟨hx, hb, hml, hown, hts⟩, hrt, hlk⟩ := id fx
  have hf : 0 ≤ rm_X1_findChiefs.cells ∧ 0 ≤ rm_X1_findChiefs.slots := ⟨Nat.zero_le _, Nat.zero_le _⟩
  unfold wj_X1_findChiefs_9 at h
  refine lv_iload hx hb dX1_findChiefs_9 (lv_at hl 4 rfl) ?_
  refine lv_aload_n hx hb dX1_findChiefs_11 rfl (lv_at hl 0 rfl) ?_
  refine ca_get 3 1 4 (v := .ref (ad 1)) (ref := "BracketLetters$Chiefs") fx (by decide) rfl rfl in_X1_findChiefs_X1 (by decide) rfl (by decide +kernel) rfl hK hP dX1_findChiefs_12 ?_
  refine ca_get 1 5 1 (v := .int (S.1 3)) (ref := "BracketLetters$Words") fx (by decide) rfl rfl in_X1_findChiefs_X6 (by decide) rfl (by decide +kernel) rfl hK hP dX1_findChiefs_15 ?_
  refine lv_icmp_gt (tgt := 108) hx hb dX1_findChiefs_18 (by decide) (fun c18 => ?_) (fun c18 => ?_)
  · have h := h.1 c18
    refine lv_aload_n hx hb dX1_findChiefs_108 rfl (lv_at hl 0 rfl) ?_
    refine ca_get 3 1 3 (v := .ref (ad (9 + 36))) (ref := "BracketLetters$Chiefs") fx (by decide) rfl rfl in_X1_findChiefs_X1 (by decide) rfl (by decide +kernel) rfl hK hP dX1_findChiefs_109 ?_
    refine lv_aload_n hx hb dX1_findChiefs_112 rfl (lv_at hl 0 rfl) ?_
    refine ca_get 3 1 4 (v := .ref (ad 1)) (ref := "BracketLetters$Chiefs") fx (by decide) rfl rfl in_X1_findChiefs_X1 (by decide) rfl (by decide +kernel) rfl hK hP dX1_findChiefs_113 ?_
    refine ca_get 1 5 1 (v := .int (S.1 3)) (ref := "BracketLetters$Words") fx (by decide) rfl rfl in_X1_findChiefs_X6 (by decide) rfl (by decide +kernel) rfl hK hP dX1_findChiefs_116 ?_
    refine lv_iconst (v := 1) hx hb dX1_findChiefs_119 (by decide) ?_
    refine lv_iadd hx hb dX1_findChiefs_120 ?_
    refine lv_iload_n hx hb dX1_findChiefs_121 rfl (lv_at hl 3 rfl) ?_
    obtain ⟨hi11, h⟩ := h
    refine ca_iast 36 (by decide) fx hK hP hD hS hi11 dX1_findChiefs_122 (fun H locs hP hD hS => ?_)
    refine lv_iload_n hx hb dX1_findChiefs_123 rfl (lv_at hl 3 rfl) ?_
    exact xr_rI fx hK hP hD hS h dX1_findChiefs_124
  · have h := h.2 c18
    refine lv_aload_n hx hb dX1_findChiefs_21 rfl (lv_at hl 0 rfl) ?_
    refine ca_get 3 1 3 (v := .ref (ad (9 + 36))) (ref := "BracketLetters$Chiefs") fx (by decide) rfl rfl in_X1_findChiefs_X1 (by decide) rfl (by decide +kernel) rfl hK hP dX1_findChiefs_22 ?_
    refine lv_iload hx hb dX1_findChiefs_25 (lv_at hl 4 rfl) ?_
    refine lv_iload_n hx hb dX1_findChiefs_27 rfl (lv_at hl 3 rfl) ?_
    obtain ⟨hi12, h⟩ := h
    refine ca_iast 36 (by decide) fx hK hP hD hS hi12 dX1_findChiefs_28 (fun H locs hP hD hS => ?_)
    refine lv_aload_n hx hb dX1_findChiefs_29 rfl (lv_at hl 0 rfl) ?_
    refine ca_get 3 1 4 (v := .ref (ad 1)) (ref := "BracketLetters$Chiefs") fx (by decide) rfl rfl in_X1_findChiefs_X1 (by decide) rfl (by decide +kernel) rfl hK hP dX1_findChiefs_30 ?_
    refine ca_get 1 5 3 (v := .ref (ad (9 + 1))) (ref := "BracketLetters$Words") fx (by decide) rfl rfl in_X1_findChiefs_X6 (by decide) rfl (by decide +kernel) rfl hK hP dX1_findChiefs_33 ?_
    refine lv_iload hx hb dX1_findChiefs_36 (lv_at hl 4 rfl) ?_
    obtain ⟨hi13, h⟩ := h
    refine ca_iald 1 (by decide) fx hK hP hi13 dX1_findChiefs_38 ?_
    refine lv_topi (fun v5_14 ev5_14 => ?_)
    have h := h v5_14 ev5_14
    refine lv_istore (lv' := [(5, .int v5_14), (0, .ref (ad 3)), (1, .ref (ad (9 + 45))), (2, .ref (ad (9 + 46))), (3, .int v3), (4, .int v4)]) hx hb dX1_findChiefs_39 hl (by decide) rfl (fun ls hl => ?_)
    obtain ⟨n, h⟩ := h
    exact cakw_X1_findChiefs_41 fx hK hA k9 n _ _ _ _ hP hD hS (lv_sub hl [1, 2, 3, 4, 5, 0] rfl) h
theorem cakw_X1_findChiefs_9 {p : Program} {l : Launch} {e : Env} {s : State} {m : MethodId} {args : Array Value} {below : List Frame} {meth : Method} {c : Code} {D : va_G} {ad : Nat → Nat} {vx : Nat → Value} {cI cJ cR : ClassId} {Ln : Nat → Nat} {A : Nat → Prop}  {Q : Int32 → cs_T → Prop} (fx : xr_Fx p m c meth cX1_findChiefs 6 s args wsX1_findChiefs RX1 (some .int)) (hK : xr_K D (cs_ty cI cJ cR) s) (hA : ∀ q, s.heap.size ≤ q → A q)   : ∀ (n : Nat) (S : cs_T) (v3 : Int32) (v4 : Int32) {H : Heap} {locs : List Loc} {ls : Array Slot}, va_P D vwCl (ca_w ad vx cI cR Ln S) H → va_D A (ca_w ad vx cI cR Ln S) → va_S A s.heap H locs → lv_has ls 6 [(0, .ref (ad 3)), (1, .ref (ad (9 + 45))), (2, .ref (ad (9 + 46))), (3, .int v3), (4, .int v4)] → wi_X1_findChiefs_9 Ln Q n S v3 v4 → W p l e rm_X1_findChiefs s m args below meth c H locs 0 0 (MQ below (va_Qi Q (xr_B D (cs_ty cI cJ cR) (ca_w ad vx cI cR Ln) A) A) args s 0 0 A) (F0 m 9 ls []) := by
  intro n
  induction n with
  | zero => intro S v3 v4 H locs ls hP hD hS hl h; exact False.elim h
  | succ n ih => intro S v3 v4 H locs ls hP hD hS hl h; exact cakb_X1_findChiefs_9 fx hK hA ih hP hD hS hl h
set_option maxHeartbeats 4000000 in
set_option maxRecDepth 100000 in
theorem cact_X1_findChiefs (l : Launch) (D : va_G) (ad : Nat → Nat) (vx : Nat → Value) (cI cJ cR : ClassId) (Ln : Nat → Nat) {S : cs_T} {Q : Int32 → cs_T → Prop} (h : wi_X1_findChiefs Ln S Q) : xr_I l D (cs_ty cI cJ cR) (ca_w ad vx cI cR Ln) yX1_findChiefs wsX1_findChiefs rm_X1_findChiefs [.ref (ad 3), .ref (ad (9 + 45)), .ref (ad (9 + 46))] S Q := by
  refine xr_eI (cc := cX1_findChiefs) (nL := 6) (ret := (some .int)) (own := RX1) (by decide) rfl rfl (Nat.le_of_ble_eq_true rfl) ?_
  intro p e s m args below meth c ls A fx hK hA hP hD hS hl
  have hl : lv_has ls 6 [(0, .ref (ad 3)), (1, .ref (ad (9 + 45))), (2, .ref (ad (9 + 46)))] := hl
  show W p l e rm_X1_findChiefs s m args below meth c s.heap [] 0 0 _ _
  obtain ⟨⟨hx, hb, hml, hown, hts⟩, hrt, hlk⟩ := id fx
  have hf : 0 ≤ rm_X1_findChiefs.cells ∧ 0 ≤ rm_X1_findChiefs.slots := ⟨Nat.zero_le _, Nat.zero_le _⟩
  unfold wi_X1_findChiefs at h
  refine lv_iconst (v := 0) hx hb dX1_findChiefs_0 (by decide) ?_
  refine lv_istore_n (lv' := [(3, .int 0), (0, .ref (ad 3)), (1, .ref (ad (9 + 45))), (2, .ref (ad (9 + 46)))]) hx hb dX1_findChiefs_1 rfl hl (by decide) rfl (fun ls hl => ?_)
  refine lv_aload_n hx hb dX1_findChiefs_2 rfl (lv_at hl 3 rfl) ?_
  refine lv_iconst (v := 0) hx hb dX1_findChiefs_3 (by decide) ?_
  refine lv_iconst (v := (-1)) hx hb dX1_findChiefs_4 (by decide) ?_
  obtain ⟨hi15, h⟩ := h
  refine ca_iast 46 (by decide) fx hK hP hD hS hi15 dX1_findChiefs_5 (fun H locs hP hD hS => ?_)
  refine lv_iconst (v := 1) hx hb dX1_findChiefs_6 (by decide) ?_
  refine lv_istore (lv' := [(4, .int 1), (3, .int 0), (0, .ref (ad 3)), (1, .ref (ad (9 + 45))), (2, .ref (ad (9 + 46)))]) hx hb dX1_findChiefs_7 hl (by decide) rfl (fun ls hl => ?_)
  obtain ⟨n, h⟩ := h
  exact cakw_X1_findChiefs_9 fx hK hA n _ _ _ hP hD hS (lv_sub hl [2, 3, 4, 1, 0] rfl) h
set_option maxHeartbeats 4000000 in
set_option maxRecDepth 100000 in
theorem cact_X1_ofLength (l : Launch) (D : va_G) (ad : Nat → Nat) (vx : Nat → Value) (cI cJ cR : ClassId) (Ln : Nat → Nat) {S : cs_T} {a1 : Int32} {Q : Int32 → cs_T → Prop} (h : wp_X1_ofLength Ln S a1 Q) : xr_I l D (cs_ty cI cJ cR) (ca_w ad vx cI cR Ln) yX1_ofLength wsX1_ofLength rm_X1_ofLength [.ref (ad 3), .int a1] S Q := by
  refine xr_eI (cc := cX1_ofLength) (nL := 2) (ret := (some .int)) (own := RX1) (by decide) rfl rfl (Nat.le_of_ble_eq_true rfl) ?_
  intro p e s m args below meth c ls A fx hK hA hP hD hS hl
  have hl : lv_has ls 2 [(0, .ref (ad 3)), (1, .int a1)] := hl
  show W p l e rm_X1_ofLength s m args below meth c s.heap [] 0 0 _ _
  obtain ⟨⟨hx, hb, hml, hown, hts⟩, hrt, hlk⟩ := id fx
  have hf : 0 ≤ rm_X1_ofLength.cells ∧ 0 ≤ rm_X1_ofLength.slots := ⟨Nat.zero_le _, Nat.zero_le _⟩
  unfold wp_X1_ofLength at h
  refine lv_aload_n hx hb dX1_ofLength_0 rfl (lv_at hl 0 rfl) ?_
  refine ca_get 3 1 3 (v := .ref (ad (9 + 36))) (ref := "BracketLetters$Chiefs") fx (by decide) rfl rfl in_X1_ofLength_X1 (by decide) rfl (by decide +kernel) rfl hK hP dX1_ofLength_1 ?_
  refine lv_iload_n hx hb dX1_ofLength_4 rfl (lv_at hl 1 rfl) ?_
  refine lv_iconst (v := 1) hx hb dX1_ofLength_5 (by decide) ?_
  refine lv_iadd hx hb dX1_ofLength_6 ?_
  obtain ⟨hi1, h⟩ := h
  refine ca_iald 36 (by decide) fx hK hP hi1 dX1_ofLength_7 ?_
  refine lv_aload_n hx hb dX1_ofLength_8 rfl (lv_at hl 0 rfl) ?_
  refine ca_get 3 1 3 (v := .ref (ad (9 + 36))) (ref := "BracketLetters$Chiefs") fx (by decide) rfl rfl in_X1_ofLength_X1 (by decide) rfl (by decide +kernel) rfl hK hP dX1_ofLength_9 ?_
  refine lv_iload_n hx hb dX1_ofLength_12 rfl (lv_at hl 1 rfl) ?_
  obtain ⟨hi2, h⟩ := h
  refine ca_iald 36 (by decide) fx hK hP hi2 dX1_ofLength_13 ?_
  refine lv_isub hx hb dX1_ofLength_14 ?_
  exact xr_rI fx hK hP hD hS h dX1_ofLength_15
set_option maxHeartbeats 4000000 in
set_option maxRecDepth 100000 in
theorem cact_X1_all (l : Launch) (D : va_G) (ad : Nat → Nat) (vx : Nat → Value) (cI cJ cR : ClassId) (Ln : Nat → Nat) {S : cs_T} {Q : Int32 → cs_T → Prop} (h : wp_X1_all Ln S Q) : xr_I l D (cs_ty cI cJ cR) (ca_w ad vx cI cR Ln) yX1_all wsX1_all rm_X1_all [.ref (ad 3)] S Q := by
  refine xr_eI (cc := cX1_all) (nL := 1) (ret := (some .int)) (own := RX1) (by decide) rfl rfl (Nat.le_of_ble_eq_true rfl) ?_
  intro p e s m args below meth c ls A fx hK hA hP hD hS hl
  have hl : lv_has ls 1 [(0, .ref (ad 3))] := hl
  show W p l e rm_X1_all s m args below meth c s.heap [] 0 0 _ _
  obtain ⟨⟨hx, hb, hml, hown, hts⟩, hrt, hlk⟩ := id fx
  have hf : 0 ≤ rm_X1_all.cells ∧ 0 ≤ rm_X1_all.slots := ⟨Nat.zero_le _, Nat.zero_le _⟩
  unfold wp_X1_all at h
  refine lv_aload_n hx hb dX1_all_0 rfl (lv_at hl 0 rfl) ?_
  refine ca_get 3 1 3 (v := .ref (ad (9 + 36))) (ref := "BracketLetters$Chiefs") fx (by decide) rfl rfl in_X1_all_X1 (by decide) rfl (by decide +kernel) rfl hK hP dX1_all_1 ?_
  refine lv_aload_n hx hb dX1_all_4 rfl (lv_at hl 0 rfl) ?_
  refine ca_get 3 1 4 (v := .ref (ad 1)) (ref := "BracketLetters$Chiefs") fx (by decide) rfl rfl in_X1_all_X1 (by decide) rfl (by decide +kernel) rfl hK hP dX1_all_5 ?_
  refine ca_get 1 5 1 (v := .int (S.1 3)) (ref := "BracketLetters$Words") fx (by decide) rfl rfl in_X1_all_X6 (by decide) rfl (by decide +kernel) rfl hK hP dX1_all_8 ?_
  refine lv_iconst (v := 1) hx hb dX1_all_11 (by decide) ?_
  refine lv_iadd hx hb dX1_all_12 ?_
  obtain ⟨hi1, h⟩ := h
  refine ca_iald 36 (by decide) fx hK hP hi1 dX1_all_13 ?_
  exact xr_rI fx hK hP hD hS h dX1_all_14
def cb_w (ad : Nat → Nat) (vx : Nat → Value) (cI cR : ClassId) (Ln : Nat → Nat) (S : cs_T) : va_W := [(ad 1, .inr (5, cs_o1 ad S.1)), (ad 3, .inr (1, [.ref (ad (9 + 33)), .ref (ad (9 + 34)), .ref (ad (9 + 35)), vx 3, .ref (ad 1), vx 5, vx 6, vx 7])), (ad (9 + 0), .inl (cI, Ln 0, .inl (S.2.1 0))), (ad (9 + 1), .inl (cI, Ln 1, .inl (S.2.1 1))), (ad (9 + 33), .inl (cI, Ln 33, .inl (S.2.1 33))), (ad (9 + 34), .inl (cI, Ln 34, .inl (S.2.1 34))), (ad (9 + 35), .inl (cI, Ln 35, .inl (S.2.1 35))), (ad (9 + 46), .inl (cI, Ln 46, .inl (S.2.1 46)))]
def cb_p (o : Nat) : Nat := if o = 1 then 0 else 1
def cb_in (k : Nat) : Prop := k = 0 ∨ k = 1 ∨ k = 33 ∨ k = 34 ∨ k = 35 ∨ k = 46
theorem cb_dec (k : Nat) (h : ([0, 1, 33, 34, 35, 46] : List Nat).contains k = true) : cb_in k := by
  simp only [List.contains_cons, List.contains_nil, Bool.or_false, Bool.or_eq_true, beq_iff_eq] at h
  exact h
def cb_q (k : Nat) : Nat := if k = 0 then 2 else if k = 1 then 3 else if k = 33 then 4 else if k = 34 then 5 else if k = 35 then 6 else if k = 46 then 7 else 0
theorem cb_gA {ad : Nat → Nat} {vx : Nat → Value} {cI cR : ClassId} {Ln : Nat → Nat} {S : cs_T} {k : Nat} (hk : cb_in k) : (cb_w ad vx cI cR Ln S)[cb_q k]? = some (ad (9 + k), .inl (cI, Ln k, .inl (S.2.1 k))) := by
  rcases hk with rfl | rfl | rfl | rfl | rfl | rfl <;> rfl
theorem cb_uA {ad : Nat → Nat} {vx : Nat → Value} {cI cR : ClassId} {Ln : Nat → Nat} {S : cs_T} {k i : Nat} {v : Int32} (hk : cb_in k) : (cb_w ad vx cI cR Ln S).set (cb_q k) (ad (9 + k), .inl (cI, Ln k, .inl (upd (S.2.1 k) i v))) = cb_w ad vx cI cR Ln (cs_sI S k i v) := by
  rcases hk with rfl | rfl | rfl | rfl | rfl | rfl <;> rfl
section
variable {p : Program} {l : Launch} {e : Env} {R : Room} {s : State} {m : MethodId} {args : Array Value} {below : List Frame} {meth : Method} {c : Code} {H : Heap} {locs : List Loc} {cells slots : Nat} {Q : State → Prop}
variable {cc : ByteArray} {pc : Nat} {ls : Array Slot} {rest : List Value} {D : va_G} {A : Nat → Prop} {nL : Nat} {Ts : List Cond} {own : String} {ret : Option FieldType} {ad : Nat → Nat} {vx : Nat → Value} {cI cJ cR : ClassId} {Ln : Nat → Nat} {S : cs_T}
theorem cb_recv (o ci : Nat) {q : vw_C} {fs : List Value} (_ho : o < 9) (hh : (cb_w ad vx cI cR Ln S)[cb_p o]? = some (ad o, .inr (ci, fs))) (hc : vwCl[ci]? = some q) (hK : xr_K D (cs_ty cI cJ cR) s) (hP : va_P D vwCl (cb_w ad vx cI cR Ln S) H) : ∃ cell : Cell, H[ad o]? = some cell ∧ cell.vm.isStatics = false ∧ s.vm.findClass q.1 = some cell.cls := va_recv hK.1 hP (ci := ci) (q0 := cb_p o) hc hh
theorem cb_get (o ci j : Nat) {v : Value} {fs : List Value} {index N : Nat} {C ref : String} {T : u_T} (fx : xr_Fx p m c meth cc nL s args Ts own ret) (_ho : o < 9) (hh : (cb_w ad vx cI cR Ln S)[cb_p o]? = some (ad o, .inr (ci, fs))) (hc : vwCl[ci]? = some (C, T, N)) (hin : ∀ w ∈ u_ws C T N, w ∈ Ts) (hj : j < N) (hv : fs[j]? = some v) (hlink : Cond.fieldLink own index ref (T j).2.1 (T j).2.2.1 ∈ Ts) (hcl : (T j).1 = ref) (hK : xr_K D (cs_ty cI cJ cR) s) (hP : va_P D vwCl (cb_w ad vx cI cR Ln S) H) (hdg : decode cc pc = .ok (.getfield index, 3))
    (kk : W p l e R s m args below meth c H locs cells slots Q (F0 m (pc + 3) ls (v :: rest))) : W p l e R s m args below meth c H locs cells slots Q (F0 m pc ls (.ref (ad o) :: rest)) := by
  obtain ⟨⟨hx, hb, hml, hown, hts⟩, -, -⟩ := fx
  exact va_get (D := D) (ci := ci) (v := v) (C := C) (T := T) (N := N) hx hb hts hin hown hK.1 hP (cb_p o) hh hc j hj (hts _ hlink) (fun x h => by rw [← hcl]; exact h) hv hdg kk
theorem cb_iald (k : Nat) (hk : ([0, 1, 33, 34, 35, 46] : List Nat).contains k = true) {i : Int32} (fx : xr_Fx p m c meth cc nL s args Ts own ret) (hK : xr_K D (cs_ty cI cJ cR) s) (hP : va_P D vwCl (cb_w ad vx cI cR Ln S) H) (hi : vp_in i (Ln k)) (hdg : decode cc pc = .ok (.iaload, 1))
    (kk : W p l e R s m args below meth c H locs cells slots Q (F0 m (pc + 1) ls (.int (S.2.1 k i.toNatClampNeg) :: rest))) : W p l e R s m args below meth c H locs cells slots Q (F0 m pc ls (.int i :: .ref (ad (9 + k)) :: rest)) := by
  obtain ⟨⟨hx, hb, hml, hown, hts⟩, -, -⟩ := fx
  exact va_iald hx hb hK.1 hP (cb_q k) 0 (cb_gA (cb_dec k hk)) rfl hi hdg kk
theorem cb_iast (k : Nat) (hk : ([0, 1, 33, 34, 35, 46] : List Nat).contains k = true) {i v : Int32} (fx : xr_Fx p m c meth cc nL s args Ts own ret) (hK : xr_K D (cs_ty cI cJ cR) s) (hP : va_P D vwCl (cb_w ad vx cI cR Ln S) H) (hD : va_D A (cb_w ad vx cI cR Ln S)) (hS : va_S A s.heap H locs) (hi : vp_in i (Ln k)) (hdg : decode cc pc = .ok (.iastore, 1))
    (kk : ∀ (H1 : Heap) (locs1 : List Loc), va_P D vwCl (cb_w ad vx cI cR Ln (cs_sI S k i.toNatClampNeg v)) H1 → va_D A (cb_w ad vx cI cR Ln (cs_sI S k i.toNatClampNeg v)) → va_S A s.heap H1 locs1 → W p l e R s m args below meth c H1 locs1 cells slots Q (F0 m (pc + 1) ls rest)) : W p l e R s m args below meth c H locs cells slots Q (F0 m pc ls (.int v :: .int i :: .ref (ad (9 + k)) :: rest)) := by
  obtain ⟨⟨hx, hb, hml, hown, hts⟩, -, -⟩ := fx
  refine va_iast hx hb hK.1 hP hD hS (cb_q k) 0 (cb_gA (cb_dec k hk)) rfl hi hdg (fun H1 locs1 hP1 hD1 hS1 => ?_)
  rw [cb_uA (cb_dec k hk)] at hP1 hD1
  exact kk H1 locs1 hP1 hD1 hS1
end
set_option maxHeartbeats 4000000 in
set_option maxRecDepth 100000 in
theorem cbkw_X6_lengthOf_24 {p : Program} {l : Launch} {e : Env} {s : State} {m : MethodId} {args : Array Value} {below : List Frame} {meth : Method} {c : Code} {D : va_G} {ad : Nat → Nat} {vx : Nat → Value} {cI cJ cR : ClassId} {Ln : Nat → Nat} {A : Nat → Prop} {K4 : cs_T → Int32 → Int32 → Int32 → Prop} {Q : Int32 → cs_T → Prop} {S : cs_T} {v1 : Int32} {v2 : Int32} {v3 : Int32} (fx : xr_Fx p m c meth cX6_lengthOf 4 s args wsX6_lengthOf RX6 (some .int)) (hK : xr_K D (cs_ty cI cJ cR) s) (hA : ∀ q, s.heap.size ≤ q → A q)  (k4 : ∀ (S : cs_T) (v1 : Int32) (v2 : Int32) (v3 : Int32) {H : Heap} {locs : List Loc} {ls : Array Slot}, va_P D vwCl (cb_w ad vx cI cR Ln S) H → va_D A (cb_w ad vx cI cR Ln S) → va_S A s.heap H locs → lv_has ls 4 [(0, .ref (ad 1)), (1, .int v1), (2, .int v2), (3, .int v3)] → K4 S v1 v2 v3 → W p l e rm_X6_lengthOf s m args below meth c H locs 0 0 (MQ below (va_Qi Q (xr_B D (cs_ty cI cJ cR) (cb_w ad vx cI cR Ln) A) A) args s 0 0 A) (F0 m 4 ls [])) {H : Heap} {locs : List Loc} {ls : Array Slot} (hP : va_P D vwCl (cb_w ad vx cI cR Ln S) H) (hD : va_D A (cb_w ad vx cI cR Ln S)) (hS : va_S A s.heap H locs) (hl : lv_has ls 4 [(0, .ref (ad 1)), (1, .int v1), (2, .int v2), (3, .int v3)]) (h : wp_X6_lengthOf_24 Ln K4 Q S v1 v2 v3) : W p l e rm_X6_lengthOf s m args below meth c H locs 0 0 (MQ below (va_Qi Q (xr_B D (cs_ty cI cJ cR) (cb_w ad vx cI cR Ln) A) A) args s 0 0 A) (F0 m 24 ls []) := by
  obtain ⟨⟨hx, hb, hml, hown, hts⟩, hrt, hlk⟩ := id fx
  have hf : 0 ≤ rm_X6_lengthOf.cells ∧ 0 ≤ rm_X6_lengthOf.slots := ⟨Nat.zero_le _, Nat.zero_le _⟩
  unfold wp_X6_lengthOf_24 at h
  obtain ⟨v3_1, ev3_1⟩ : ∃ z : Int32, z = v3 + 1 := ⟨_, rfl⟩
  have h := h v3_1 ev3_1
  refine lv_iinc (v := v3_1) (lv' := [(3, .int v3_1), (0, .ref (ad 1)), (1, .int v1), (2, .int v2)]) hx hb dX6_lengthOf_24 hl (k := 3) rfl (by rw [ev3_1]; rfl) (by decide) rfl (fun ls hl => ?_)
  refine lv_goto (tgt := 4) hx hb dX6_lengthOf_27 (by decide) ?_
  exact k4 _ _ _ _ hP hD hS (lv_sub hl [1, 2, 3, 0] rfl) h
set_option maxHeartbeats 4000000 in
set_option maxRecDepth 100000 in
theorem cbkb_X6_lengthOf_4 {p : Program} {l : Launch} {e : Env} {s : State} {m : MethodId} {args : Array Value} {below : List Frame} {meth : Method} {c : Code} {D : va_G} {ad : Nat → Nat} {vx : Nat → Value} {cI cJ cR : ClassId} {Ln : Nat → Nat} {A : Nat → Prop}  {K4 : cs_T → Int32 → Int32 → Int32 → Prop} {Q : Int32 → cs_T → Prop} {S : cs_T} {v1 : Int32} {v2 : Int32} {v3 : Int32} (fx : xr_Fx p m c meth cX6_lengthOf 4 s args wsX6_lengthOf RX6 (some .int)) (hK : xr_K D (cs_ty cI cJ cR) s) (hA : ∀ q, s.heap.size ≤ q → A q)   (k4 : ∀ (S : cs_T) (v1 : Int32) (v2 : Int32) (v3 : Int32) {H : Heap} {locs : List Loc} {ls : Array Slot}, va_P D vwCl (cb_w ad vx cI cR Ln S) H → va_D A (cb_w ad vx cI cR Ln S) → va_S A s.heap H locs → lv_has ls 4 [(0, .ref (ad 1)), (1, .int v1), (2, .int v2), (3, .int v3)] → K4 S v1 v2 v3 → W p l e rm_X6_lengthOf s m args below meth c H locs 0 0 (MQ below (va_Qi Q (xr_B D (cs_ty cI cJ cR) (cb_w ad vx cI cR Ln) A) A) args s 0 0 A) (F0 m 4 ls [])) {H : Heap} {locs : List Loc} {ls : Array Slot} (hP : va_P D vwCl (cb_w ad vx cI cR Ln S) H) (hD : va_D A (cb_w ad vx cI cR Ln S)) (hS : va_S A s.heap H locs) (hl : lv_has ls 4 [(0, .ref (ad 1)), (1, .int v1), (2, .int v2), (3, .int v3)]) (h : wb_X6_lengthOf_4 Ln K4 Q S v1 v2 v3) : W p l e rm_X6_lengthOf s m args below meth c H locs 0 0 (MQ below (va_Qi Q (xr_B D (cs_ty cI cJ cR) (cb_w ad vx cI cR Ln) A) A) args s 0 0 A) (F0 m 4 ls []) := by
  obtain ⟨⟨hx, hb, hml, hown, hts⟩, hrt, hlk⟩ := id fx
  have hf : 0 ≤ rm_X6_lengthOf.cells ∧ 0 ≤ rm_X6_lengthOf.slots := ⟨Nat.zero_le _, Nat.zero_le _⟩
  unfold wb_X6_lengthOf_4 at h
  refine lv_iload_n hx hb dX6_lengthOf_4 rfl (lv_at hl 3 rfl) ?_
  refine lv_aload_n hx hb dX6_lengthOf_5 rfl (lv_at hl 0 rfl) ?_
  refine cb_get 1 5 1 (v := .int (S.1 3)) (ref := "BracketLetters$Words") fx (by decide) rfl rfl in_X6_lengthOf_X6 (by decide) rfl (by decide +kernel) rfl hK hP dX6_lengthOf_6 ?_
  refine lv_icmp_gt (tgt := 30) hx hb dX6_lengthOf_9 (by decide) (fun c9 => ?_) (fun c9 => ?_)
  · have h := h.1 c9
    refine lv_iload_n hx hb dX6_lengthOf_30 rfl (lv_at hl 2 rfl) ?_
    exact xr_rI fx hK hP hD hS h dX6_lengthOf_31
  · have h := h.2 c9
    refine lv_iload_n hx hb dX6_lengthOf_12 rfl (lv_at hl 1 rfl) ?_
    refine lv_aload_n hx hb dX6_lengthOf_13 rfl (lv_at hl 0 rfl) ?_
    refine cb_get 1 5 3 (v := .ref (ad (9 + 1))) (ref := "BracketLetters$Words") fx (by decide) rfl rfl in_X6_lengthOf_X6 (by decide) rfl (by decide +kernel) rfl hK hP dX6_lengthOf_14 ?_
    refine lv_iload_n hx hb dX6_lengthOf_17 rfl (lv_at hl 3 rfl) ?_
    obtain ⟨hi2, h⟩ := h
    refine cb_iald 1 (by decide) fx hK hP hi2 dX6_lengthOf_18 ?_
    refine lv_icmp_lt (tgt := 24) hx hb dX6_lengthOf_19 (by decide) (fun c19 => ?_) (fun c19 => ?_)
    · have h := h.1 c19
      exact cbkw_X6_lengthOf_24 fx hK hA k4 hP hD hS (lv_sub hl [0, 1, 2, 3] rfl) h
    · have h := h.2 c19
      refine lv_iload_n hx hb dX6_lengthOf_22 rfl (lv_at hl 3 rfl) ?_
      refine lv_istore_n (lv' := [(2, .int v3), (0, .ref (ad 1)), (1, .int v1), (3, .int v3)]) hx hb dX6_lengthOf_23 rfl hl (by decide) rfl (fun ls hl => ?_)
      exact cbkw_X6_lengthOf_24 fx hK hA k4 hP hD hS (lv_sub hl [1, 2, 0, 3] rfl) h
theorem cbkw_X6_lengthOf_4 {p : Program} {l : Launch} {e : Env} {s : State} {m : MethodId} {args : Array Value} {below : List Frame} {meth : Method} {c : Code} {D : va_G} {ad : Nat → Nat} {vx : Nat → Value} {cI cJ cR : ClassId} {Ln : Nat → Nat} {A : Nat → Prop}  {Q : Int32 → cs_T → Prop} (fx : xr_Fx p m c meth cX6_lengthOf 4 s args wsX6_lengthOf RX6 (some .int)) (hK : xr_K D (cs_ty cI cJ cR) s) (hA : ∀ q, s.heap.size ≤ q → A q)   : ∀ (n : Nat) (S : cs_T) (v1 : Int32) (v2 : Int32) (v3 : Int32) {H : Heap} {locs : List Loc} {ls : Array Slot}, va_P D vwCl (cb_w ad vx cI cR Ln S) H → va_D A (cb_w ad vx cI cR Ln S) → va_S A s.heap H locs → lv_has ls 4 [(0, .ref (ad 1)), (1, .int v1), (2, .int v2), (3, .int v3)] → wp_X6_lengthOf_4 Ln Q n S v1 v2 v3 → W p l e rm_X6_lengthOf s m args below meth c H locs 0 0 (MQ below (va_Qi Q (xr_B D (cs_ty cI cJ cR) (cb_w ad vx cI cR Ln) A) A) args s 0 0 A) (F0 m 4 ls []) := by
  intro n
  induction n with
  | zero => intro S v1 v2 v3 H locs ls hP hD hS hl h; exact False.elim h
  | succ n ih => intro S v1 v2 v3 H locs ls hP hD hS hl h; exact cbkb_X6_lengthOf_4 fx hK hA ih hP hD hS hl h
set_option maxHeartbeats 4000000 in
set_option maxRecDepth 100000 in
theorem cbct_X6_lengthOf (l : Launch) (D : va_G) (ad : Nat → Nat) (vx : Nat → Value) (cI cJ cR : ClassId) (Ln : Nat → Nat) {S : cs_T} {a1 : Int32} {Q : Int32 → cs_T → Prop} (h : wp_X6_lengthOf Ln S a1 Q) : xr_I l D (cs_ty cI cJ cR) (cb_w ad vx cI cR Ln) yX6_lengthOf wsX6_lengthOf rm_X6_lengthOf [.ref (ad 1), .int a1] S Q := by
  refine xr_eI (cc := cX6_lengthOf) (nL := 4) (ret := (some .int)) (own := RX6) (by decide) rfl rfl (Nat.le_of_ble_eq_true rfl) ?_
  intro p e s m args below meth c ls A fx hK hA hP hD hS hl
  have hl : lv_has ls 4 [(0, .ref (ad 1)), (1, .int a1)] := hl
  show W p l e rm_X6_lengthOf s m args below meth c s.heap [] 0 0 _ _
  obtain ⟨⟨hx, hb, hml, hown, hts⟩, hrt, hlk⟩ := id fx
  have hf : 0 ≤ rm_X6_lengthOf.cells ∧ 0 ≤ rm_X6_lengthOf.slots := ⟨Nat.zero_le _, Nat.zero_le _⟩
  unfold wp_X6_lengthOf at h
  refine lv_iconst (v := 0) hx hb dX6_lengthOf_0 (by decide) ?_
  refine lv_istore_n (lv' := [(2, .int 0), (0, .ref (ad 1)), (1, .int a1)]) hx hb dX6_lengthOf_1 rfl hl (by decide) rfl (fun ls hl => ?_)
  refine lv_iconst (v := 1) hx hb dX6_lengthOf_2 (by decide) ?_
  refine lv_istore_n (lv' := [(3, .int 1), (2, .int 0), (0, .ref (ad 1)), (1, .int a1)]) hx hb dX6_lengthOf_3 rfl hl (by decide) rfl (fun ls hl => ?_)
  obtain ⟨n, h⟩ := h
  exact cbkw_X6_lengthOf_4 fx hK hA n _ _ _ _ hP hD hS (lv_sub hl [2, 3, 1, 0] rfl) h
def wi_X1_findSides_143 (Ln : Nat → Nat) (K51 : cs_T → Int32 → Int32 → Int32 → Int32 → Prop) (Q : cs_T → Prop) (S : cs_T) (v1 : Int32) (v3 : Int32) (v4 : Int32) (v5 : Int32) : Prop :=
  ∀ v5_1 : Int32, v5_1 = v5 + (-1) → K51 S v1 v3 v4 v5_1
def wj_X1_findSides_51 (Ln : Nat → Nat)  (K51 : cs_T → Int32 → Int32 → Int32 → Int32 → Prop) (Q : cs_T → Prop) (S : cs_T) (v1 : Int32) (v3 : Int32) (v4 : Int32) (v5 : Int32) : Prop :=
  ((v5 < 1 → Q S) ∧ (¬ v5 < 1 → vp_in v1 (Ln 35) ∧ ((¬ (S.2.1 35 v1.toNatClampNeg) = ((-1)) → Q S) ∧ ((S.2.1 35 v1.toNatClampNeg) = ((-1)) → vp_in v5 (Ln 1) ∧ vp_in v5 (Ln 0) ∧ ¬ (S.2.1 0 v5.toNatClampNeg) = 0 ∧ vp_in ((S.2.1 1 v5.toNatClampNeg) + (xr_remI v4 (S.2.1 0 v5.toNatClampNeg))) (Ln 46) ∧ ∀ v6_7 : Int32, v6_7 = S.2.1 46 ((S.2.1 1 v5.toNatClampNeg) + (xr_remI v4 (S.2.1 0 v5.toNatClampNeg))).toNatClampNeg → ((v6_7 = ((-1)) → wi_X1_findSides_143 Ln K51 Q S v1 v3 v4 v5) ∧ (¬ v6_7 = ((-1)) → vp_in v1 (Ln 35) ∧ vp_in (v3 - v5) (Ln 1) ∧ vp_in v5 (Ln 0) ∧ ¬ ((cs_sI S 35 v1.toNatClampNeg v6_7).2.1 0 v5.toNatClampNeg) = 0 ∧ vp_in (((cs_sI S 35 v1.toNatClampNeg v6_7).2.1 1 (v3 - v5).toNatClampNeg) + (v4 / ((cs_sI S 35 v1.toNatClampNeg v6_7).2.1 0 v5.toNatClampNeg))) (Ln 46) ∧ vp_in v1 (Ln 34) ∧ wi_X1_findSides_143 Ln K51 Q (cs_sI (cs_sI S 35 v1.toNatClampNeg v6_7) 34 v1.toNatClampNeg ((cs_sI S 35 v1.toNatClampNeg v6_7).2.1 46 (((cs_sI S 35 v1.toNatClampNeg v6_7).2.1 1 (v3 - v5).toNatClampNeg) + (v4 / ((cs_sI S 35 v1.toNatClampNeg v6_7).2.1 0 v5.toNatClampNeg))).toNatClampNeg)) v1 v3 v4 v5))))))
def wi_X1_findSides_51 (Ln : Nat → Nat)  (Q : cs_T → Prop) : Nat → cs_T → Int32 → Int32 → Int32 → Int32 → Prop
  | 0 => fun _ _ _ _ _ => False
  | n + 1 => fun S v1 v3 v4 v5 => wj_X1_findSides_51 Ln (wi_X1_findSides_51 Ln Q n) Q S v1 v3 v4 v5
def wi_X1_findSides (Ln : Nat → Nat) (S : cs_T) (a1 : Int32) (Q : cs_T → Prop) : Prop :=
  vp_in a1 (Ln 34) ∧ vp_in a1 (Ln 35) ∧ vp_in a1 (Ln 33) ∧ wp_X6_lengthOf Ln (cs_sI (cs_sI S 34 a1.toNatClampNeg ((-1))) 35 a1.toNatClampNeg ((-1))) ((cs_sI (cs_sI S 34 a1.toNatClampNeg ((-1))) 35 a1.toNatClampNeg ((-1))).2.1 33 a1.toNatClampNeg) (fun (r18 : Int32) (S17 : cs_T) => vp_in a1 (Ln 33) ∧ vp_in r18 (Ln 1) ∧ ∀ v4_21 : Int32, v4_21 = (S17.2.1 33 a1.toNatClampNeg) - (S17.2.1 1 r18.toNatClampNeg) → ∀ v5_22 : Int32, v5_22 = r18 - 1 → ∃ n : Nat, wi_X1_findSides_51 Ln Q n S17 a1 r18 v4_21 v5_22)
set_option maxHeartbeats 4000000 in
set_option maxRecDepth 100000 in
theorem cbkw_X1_findSides_143 {p : Program} {l : Launch} {e : Env} {s : State} {m : MethodId} {args : Array Value} {below : List Frame} {meth : Method} {c : Code} {D : va_G} {ad : Nat → Nat} {vx : Nat → Value} {cI cJ cR : ClassId} {Ln : Nat → Nat} {A : Nat → Prop} {K51 : cs_T → Int32 → Int32 → Int32 → Int32 → Prop} {Q : cs_T → Prop} {S : cs_T} {v1 : Int32} {v3 : Int32} {v4 : Int32} {v5 : Int32} (fx : xr_Fx p m c meth cX1_findSides 7 s args wsX1_findSides RX1 none) (hK : xr_K D (cs_ty cI cJ cR) s) (hA : ∀ q, s.heap.size ≤ q → A q)  (k51 : ∀ (S : cs_T) (v1 : Int32) (v3 : Int32) (v4 : Int32) (v5 : Int32) {H : Heap} {locs : List Loc} {ls : Array Slot}, va_P D vwCl (cb_w ad vx cI cR Ln S) H → va_D A (cb_w ad vx cI cR Ln S) → va_S A s.heap H locs → lv_has ls 7 [(0, .ref (ad 3)), (1, .int v1), (2, .ref (ad (9 + 46))), (3, .int v3), (4, .int v4), (5, .int v5)] → K51 S v1 v3 v4 v5 → W p l e rm_X1_findSides s m args below meth c H locs 0 0 (MQ below (va_Qv Q (xr_B D (cs_ty cI cJ cR) (cb_w ad vx cI cR Ln) A) A) args s 0 0 A) (F0 m 51 ls [])) {H : Heap} {locs : List Loc} {ls : Array Slot} (hP : va_P D vwCl (cb_w ad vx cI cR Ln S) H) (hD : va_D A (cb_w ad vx cI cR Ln S)) (hS : va_S A s.heap H locs) (hl : lv_has ls 7 [(0, .ref (ad 3)), (1, .int v1), (2, .ref (ad (9 + 46))), (3, .int v3), (4, .int v4), (5, .int v5)]) (h : wi_X1_findSides_143 Ln K51 Q S v1 v3 v4 v5) : W p l e rm_X1_findSides s m args below meth c H locs 0 0 (MQ below (va_Qv Q (xr_B D (cs_ty cI cJ cR) (cb_w ad vx cI cR Ln) A) A) args s 0 0 A) (F0 m 143 ls []) := by
  obtain ⟨⟨hx, hb, hml, hown, hts⟩, hrt, hlk⟩ := id fx
  have hf : 0 ≤ rm_X1_findSides.cells ∧ 0 ≤ rm_X1_findSides.slots := ⟨Nat.zero_le _, Nat.zero_le _⟩
  unfold wi_X1_findSides_143 at h
  obtain ⟨v5_1, ev5_1⟩ : ∃ z : Int32, z = v5 + (-1) := ⟨_, rfl⟩
  have h := h v5_1 ev5_1
  refine lv_iinc (v := v5_1) (lv' := [(5, .int v5_1), (0, .ref (ad 3)), (1, .int v1), (2, .ref (ad (9 + 46))), (3, .int v3), (4, .int v4)]) hx hb dX1_findSides_143 hl (k := 5) rfl (by rw [ev5_1]; rfl) (by decide) rfl (fun ls hl => ?_)
  refine lv_goto (tgt := 51) hx hb dX1_findSides_146 (by decide) ?_
  exact k51 _ _ _ _ _ hP hD hS (lv_sub hl [1, 2, 3, 4, 5, 0] rfl) h
set_option maxHeartbeats 4000000 in
set_option maxRecDepth 100000 in
theorem cbkb_X1_findSides_51 {p : Program} {l : Launch} {e : Env} {s : State} {m : MethodId} {args : Array Value} {below : List Frame} {meth : Method} {c : Code} {D : va_G} {ad : Nat → Nat} {vx : Nat → Value} {cI cJ cR : ClassId} {Ln : Nat → Nat} {A : Nat → Prop}  {K51 : cs_T → Int32 → Int32 → Int32 → Int32 → Prop} {Q : cs_T → Prop} {S : cs_T} {v1 : Int32} {v3 : Int32} {v4 : Int32} {v5 : Int32} (fx : xr_Fx p m c meth cX1_findSides 7 s args wsX1_findSides RX1 none) (hK : xr_K D (cs_ty cI cJ cR) s) (hA : ∀ q, s.heap.size ≤ q → A q)   (k51 : ∀ (S : cs_T) (v1 : Int32) (v3 : Int32) (v4 : Int32) (v5 : Int32) {H : Heap} {locs : List Loc} {ls : Array Slot}, va_P D vwCl (cb_w ad vx cI cR Ln S) H → va_D A (cb_w ad vx cI cR Ln S) → va_S A s.heap H locs → lv_has ls 7 [(0, .ref (ad 3)), (1, .int v1), (2, .ref (ad (9 + 46))), (3, .int v3), (4, .int v4), (5, .int v5)] → K51 S v1 v3 v4 v5 → W p l e rm_X1_findSides s m args below meth c H locs 0 0 (MQ below (va_Qv Q (xr_B D (cs_ty cI cJ cR) (cb_w ad vx cI cR Ln) A) A) args s 0 0 A) (F0 m 51 ls [])) {H : Heap} {locs : List Loc} {ls : Array Slot} (hP : va_P D vwCl (cb_w ad vx cI cR Ln S) H) (hD : va_D A (cb_w ad vx cI cR Ln S)) (hS : va_S A s.heap H locs) (hl : lv_has ls 7 [(0, .ref (ad 3)), (1, .int v1), (2, .ref (ad (9 + 46))), (3, .int v3), (4, .int v4), (5, .int v5)]) (h : wj_X1_findSides_51 Ln K51 Q S v1 v3 v4 v5) : W p l e rm_X1_findSides s m args below meth c H locs 0 0 (MQ below (va_Qv Q (xr_B D (cs_ty cI cJ cR) (cb_w ad vx cI cR Ln) A) A) args s 0 0 A) (F0 m 51 ls []) := by
  obtain ⟨⟨hx, hb, hml, hown, hts⟩, hrt, hlk⟩ := id fx
  have hf : 0 ≤ rm_X1_findSides.cells ∧ 0 ≤ rm_X1_findSides.slots := ⟨Nat.zero_le _, Nat.zero_le _⟩
  unfold wj_X1_findSides_51 at h
  refine lv_iload hx hb dX1_findSides_51 (lv_at hl 5 rfl) ?_
  refine lv_iconst (v := 1) hx hb dX1_findSides_53 (by decide) ?_
  refine lv_icmp_lt (tgt := 149) hx hb dX1_findSides_54 (by decide) (fun c54 => ?_) (fun c54 => ?_)
  · have h := h.1 c54
    exact xr_rV fx hK hP hD hS h dX1_findSides_149
  · have h := h.2 c54
    refine lv_aload_n hx hb dX1_findSides_57 rfl (lv_at hl 0 rfl) ?_
    refine cb_get 3 1 2 (v := .ref (ad (9 + 35))) (ref := "BracketLetters$Chiefs") fx (by decide) rfl rfl in_X1_findSides_X1 (by decide) rfl (by decide +kernel) rfl hK hP dX1_findSides_58 ?_
    refine lv_iload_n hx hb dX1_findSides_61 rfl (lv_at hl 1 rfl) ?_
    obtain ⟨hi2, h⟩ := h
    refine cb_iald 35 (by decide) fx hK hP hi2 dX1_findSides_62 ?_
    refine lv_iconst (v := (-1)) hx hb dX1_findSides_63 (by decide) ?_
    refine lv_icmp_ne (tgt := 149) hx hb dX1_findSides_64 (by decide) (fun c64 => ?_) (fun c64 => ?_)
    · have h := h.1 c64
      exact xr_rV fx hK hP hD hS h dX1_findSides_149
    · have h := h.2 c64
      refine lv_aload_n hx hb dX1_findSides_67 rfl (lv_at hl 2 rfl) ?_
      refine lv_aload_n hx hb dX1_findSides_68 rfl (lv_at hl 0 rfl) ?_
      refine cb_get 3 1 4 (v := .ref (ad 1)) (ref := "BracketLetters$Chiefs") fx (by decide) rfl rfl in_X1_findSides_X1 (by decide) rfl (by decide +kernel) rfl hK hP dX1_findSides_69 ?_
      refine cb_get 1 5 3 (v := .ref (ad (9 + 1))) (ref := "BracketLetters$Words") fx (by decide) rfl rfl in_X1_findSides_X6 (by decide) rfl (by decide +kernel) rfl hK hP dX1_findSides_72 ?_
      refine lv_iload hx hb dX1_findSides_75 (lv_at hl 5 rfl) ?_
      obtain ⟨hi3, h⟩ := h
      refine cb_iald 1 (by decide) fx hK hP hi3 dX1_findSides_77 ?_
      refine lv_iload hx hb dX1_findSides_78 (lv_at hl 4 rfl) ?_
      refine lv_aload_n hx hb dX1_findSides_80 rfl (lv_at hl 0 rfl) ?_
      refine cb_get 3 1 4 (v := .ref (ad 1)) (ref := "BracketLetters$Chiefs") fx (by decide) rfl rfl in_X1_findSides_X1 (by decide) rfl (by decide +kernel) rfl hK hP dX1_findSides_81 ?_
      refine cb_get 1 5 2 (v := .ref (ad (9 + 0))) (ref := "BracketLetters$Words") fx (by decide) rfl rfl in_X1_findSides_X6 (by decide) rfl (by decide +kernel) rfl hK hP dX1_findSides_84 ?_
      refine lv_iload hx hb dX1_findSides_87 (lv_at hl 5 rfl) ?_
      obtain ⟨hi4, h⟩ := h
      refine cb_iald 0 (by decide) fx hK hP hi4 dX1_findSides_89 ?_
      obtain ⟨hz5, h⟩ := h
      refine lv_irem hx hb dX1_findSides_90 hz5 ?_
      refine lv_iadd hx hb dX1_findSides_91 ?_
      obtain ⟨hi6, h⟩ := h
      refine cb_iald 46 (by decide) fx hK hP hi6 dX1_findSides_92 ?_
      refine lv_topi (fun v6_7 ev6_7 => ?_)
      have h := h v6_7 ev6_7
      refine lv_istore (lv' := [(6, .int v6_7), (0, .ref (ad 3)), (1, .int v1), (2, .ref (ad (9 + 46))), (3, .int v3), (4, .int v4), (5, .int v5)]) hx hb dX1_findSides_93 hl (by decide) rfl (fun ls hl => ?_)
      refine lv_iload hx hb dX1_findSides_95 (lv_at hl 0 rfl) ?_
      refine lv_iconst (v := (-1)) hx hb dX1_findSides_97 (by decide) ?_
      refine lv_icmp_eq (tgt := 143) hx hb dX1_findSides_98 (by decide) (fun c98 => ?_) (fun c98 => ?_)
      · have h := h.1 c98
        exact cbkw_X1_findSides_143 fx hK hA k51 hP hD hS (lv_sub hl [1, 2, 3, 4, 5, 6] rfl) h
      · have h := h.2 c98
        refine lv_aload_n hx hb dX1_findSides_101 rfl (lv_at hl 1 rfl) ?_
        refine cb_get 3 1 2 (v := .ref (ad (9 + 35))) (ref := "BracketLetters$Chiefs") fx (by decide) rfl rfl in_X1_findSides_X1 (by decide) rfl (by decide +kernel) rfl hK hP dX1_findSides_102 ?_
        refine lv_iload_n hx hb dX1_findSides_105 rfl (lv_at hl 2 rfl) ?_
        refine lv_iload hx hb dX1_findSides_106 (lv_at hl 0 rfl) ?_
        obtain ⟨hi8, h⟩ := h
        refine cb_iast 35 (by decide) fx hK hP hD hS hi8 dX1_findSides_108 (fun H locs hP hD hS => ?_)
        refine lv_aload_n hx hb dX1_findSides_109 rfl (lv_at hl 1 rfl) ?_
        refine cb_get 3 1 1 (v := .ref (ad (9 + 34))) (ref := "BracketLetters$Chiefs") fx (by decide) rfl rfl in_X1_findSides_X1 (by decide) rfl (by decide +kernel) rfl hK hP dX1_findSides_110 ?_
        refine lv_iload_n hx hb dX1_findSides_113 rfl (lv_at hl 2 rfl) ?_
        refine lv_aload_n hx hb dX1_findSides_114 rfl (lv_at hl 3 rfl) ?_
        refine lv_aload_n hx hb dX1_findSides_115 rfl (lv_at hl 1 rfl) ?_
        refine cb_get 3 1 4 (v := .ref (ad 1)) (ref := "BracketLetters$Chiefs") fx (by decide) rfl rfl in_X1_findSides_X1 (by decide) rfl (by decide +kernel) rfl hK hP dX1_findSides_116 ?_
        refine cb_get 1 5 3 (v := .ref (ad (9 + 1))) (ref := "BracketLetters$Words") fx (by decide) rfl rfl in_X1_findSides_X6 (by decide) rfl (by decide +kernel) rfl hK hP dX1_findSides_119 ?_
        refine lv_iload_n hx hb dX1_findSides_122 rfl (lv_at hl 4 rfl) ?_
        refine lv_iload hx hb dX1_findSides_123 (lv_at hl 6 rfl) ?_
        refine lv_isub hx hb dX1_findSides_125 ?_
        obtain ⟨hi9, h⟩ := h
        refine cb_iald 1 (by decide) fx hK hP hi9 dX1_findSides_126 ?_
        refine lv_iload hx hb dX1_findSides_127 (lv_at hl 5 rfl) ?_
        refine lv_aload_n hx hb dX1_findSides_129 rfl (lv_at hl 1 rfl) ?_
        refine cb_get 3 1 4 (v := .ref (ad 1)) (ref := "BracketLetters$Chiefs") fx (by decide) rfl rfl in_X1_findSides_X1 (by decide) rfl (by decide +kernel) rfl hK hP dX1_findSides_130 ?_
        refine cb_get 1 5 2 (v := .ref (ad (9 + 0))) (ref := "BracketLetters$Words") fx (by decide) rfl rfl in_X1_findSides_X6 (by decide) rfl (by decide +kernel) rfl hK hP dX1_findSides_133 ?_
        refine lv_iload hx hb dX1_findSides_136 (lv_at hl 6 rfl) ?_
        obtain ⟨hi10, h⟩ := h
        refine cb_iald 0 (by decide) fx hK hP hi10 dX1_findSides_138 ?_
        obtain ⟨hz11, h⟩ := h
        refine lv_idiv hx hb dX1_findSides_139 hz11 ?_
        refine lv_iadd hx hb dX1_findSides_140 ?_
        obtain ⟨hi12, h⟩ := h
        refine cb_iald 46 (by decide) fx hK hP hi12 dX1_findSides_141 ?_
        obtain ⟨hi13, h⟩ := h
        refine cb_iast 34 (by decide) fx hK hP hD hS hi13 dX1_findSides_142 (fun H locs hP hD hS => ?_)
        exact cbkw_X1_findSides_143 fx hK hA k51 hP hD hS (lv_sub hl [1, 2, 3, 4, 5, 6] rfl) h
theorem cbkw_X1_findSides_51 {p : Program} {l : Launch} {e : Env} {s : State} {m : MethodId} {args : Array Value} {below : List Frame} {meth : Method} {c : Code} {D : va_G} {ad : Nat → Nat} {vx : Nat → Value} {cI cJ cR : ClassId} {Ln : Nat → Nat} {A : Nat → Prop}  {Q : cs_T → Prop} (fx : xr_Fx p m c meth cX1_findSides 7 s args wsX1_findSides RX1 none) (hK : xr_K D (cs_ty cI cJ cR) s) (hA : ∀ q, s.heap.size ≤ q → A q)   : ∀ (n : Nat) (S : cs_T) (v1 : Int32) (v3 : Int32) (v4 : Int32) (v5 : Int32) {H : Heap} {locs : List Loc} {ls : Array Slot}, va_P D vwCl (cb_w ad vx cI cR Ln S) H → va_D A (cb_w ad vx cI cR Ln S) → va_S A s.heap H locs → lv_has ls 7 [(0, .ref (ad 3)), (1, .int v1), (2, .ref (ad (9 + 46))), (3, .int v3), (4, .int v4), (5, .int v5)] → wi_X1_findSides_51 Ln Q n S v1 v3 v4 v5 → W p l e rm_X1_findSides s m args below meth c H locs 0 0 (MQ below (va_Qv Q (xr_B D (cs_ty cI cJ cR) (cb_w ad vx cI cR Ln) A) A) args s 0 0 A) (F0 m 51 ls []) := by
  intro n
  induction n with
  | zero => intro S v1 v3 v4 v5 H locs ls hP hD hS hl h; exact False.elim h
  | succ n ih => intro S v1 v3 v4 v5 H locs ls hP hD hS hl h; exact cbkb_X1_findSides_51 fx hK hA ih hP hD hS hl h
set_option maxHeartbeats 4000000 in
set_option maxRecDepth 100000 in
theorem cbct_X1_findSides (l : Launch) (D : va_G) (ad : Nat → Nat) (vx : Nat → Value) (cI cJ cR : ClassId) (Ln : Nat → Nat) {S : cs_T} {a1 : Int32} {Q : cs_T → Prop} (h : wi_X1_findSides Ln S a1 Q) : xr_V l D (cs_ty cI cJ cR) (cb_w ad vx cI cR Ln) yX1_findSides wsX1_findSides rm_X1_findSides [.ref (ad 3), .int a1, .ref (ad (9 + 46))] S Q := by
  refine xr_eV (cc := cX1_findSides) (nL := 7) (ret := none) (own := RX1) (by decide) rfl rfl (Nat.le_of_ble_eq_true rfl) ?_
  intro p e s m args below meth c ls A fx hK hA hP hD hS hl
  have hl : lv_has ls 7 [(0, .ref (ad 3)), (1, .int a1), (2, .ref (ad (9 + 46)))] := hl
  show W p l e rm_X1_findSides s m args below meth c s.heap [] 0 0 _ _
  obtain ⟨⟨hx, hb, hml, hown, hts⟩, hrt, hlk⟩ := id fx
  have hf : 0 ≤ rm_X1_findSides.cells ∧ 0 ≤ rm_X1_findSides.slots := ⟨Nat.zero_le _, Nat.zero_le _⟩
  unfold wi_X1_findSides at h
  refine lv_aload_n hx hb dX1_findSides_0 rfl (lv_at hl 0 rfl) ?_
  refine cb_get 3 1 1 (v := .ref (ad (9 + 34))) (ref := "BracketLetters$Chiefs") fx (by decide) rfl rfl in_X1_findSides_X1 (by decide) rfl (by decide +kernel) rfl hK hP dX1_findSides_1 ?_
  refine lv_iload_n hx hb dX1_findSides_4 rfl (lv_at hl 1 rfl) ?_
  refine lv_iconst (v := (-1)) hx hb dX1_findSides_5 (by decide) ?_
  obtain ⟨hi14, h⟩ := h
  refine cb_iast 34 (by decide) fx hK hP hD hS hi14 dX1_findSides_6 (fun H locs hP hD hS => ?_)
  refine lv_aload_n hx hb dX1_findSides_7 rfl (lv_at hl 0 rfl) ?_
  refine cb_get 3 1 2 (v := .ref (ad (9 + 35))) (ref := "BracketLetters$Chiefs") fx (by decide) rfl rfl in_X1_findSides_X1 (by decide) rfl (by decide +kernel) rfl hK hP dX1_findSides_8 ?_
  refine lv_iload_n hx hb dX1_findSides_11 rfl (lv_at hl 1 rfl) ?_
  refine lv_iconst (v := (-1)) hx hb dX1_findSides_12 (by decide) ?_
  obtain ⟨hi15, h⟩ := h
  refine cb_iast 35 (by decide) fx hK hP hD hS hi15 dX1_findSides_13 (fun H locs hP hD hS => ?_)
  refine lv_aload_n hx hb dX1_findSides_14 rfl (lv_at hl 0 rfl) ?_
  refine cb_get 3 1 4 (v := .ref (ad 1)) (ref := "BracketLetters$Chiefs") fx (by decide) rfl rfl in_X1_findSides_X1 (by decide) rfl (by decide +kernel) rfl hK hP dX1_findSides_15 ?_
  refine lv_aload_n hx hb dX1_findSides_18 rfl (lv_at hl 0 rfl) ?_
  refine cb_get 3 1 0 (v := .ref (ad (9 + 33))) (ref := "BracketLetters$Chiefs") fx (by decide) rfl rfl in_X1_findSides_X1 (by decide) rfl (by decide +kernel) rfl hK hP dX1_findSides_19 ?_
  refine lv_iload_n hx hb dX1_findSides_22 rfl (lv_at hl 1 rfl) ?_
  obtain ⟨hi16, h⟩ := h
  refine cb_iald 33 (by decide) fx hK hP hi16 dX1_findSides_23 ?_
  refine xr_vI (n := 1) (As := [.int ((cs_sI (cs_sI S 34 a1.toNatClampNeg ((-1))) 35 a1.toNatClampNeg ((-1))).2.1 33 a1.toNatClampNeg)]) (rest := []) fx (cbct_X6_lengthOf l D ad vx cI cJ cR Ln h) gX1_findSides_X6_lengthOf rfl rfl (by decide +kernel) ⟨Nat.le_of_ble_eq_true rfl, Nat.le_of_ble_eq_true rfl⟩ ⟨rfl, rfl⟩ hf (cb_recv 1 5 (by decide) rfl rfl hK hP) hK hP hD hS hA hl.1 rfl (Nat.le_of_ble_eq_true rfl) dX1_findSides_24 (fun r18 S17 H locs h hP hD hS => ?_)
  refine lv_istore_n (lv' := [(3, .int r18), (0, .ref (ad 3)), (1, .int a1), (2, .ref (ad (9 + 46)))]) hx hb dX1_findSides_27 rfl hl (by decide) rfl (fun ls hl => ?_)
  refine lv_aload_n hx hb dX1_findSides_28 rfl (lv_at hl 1 rfl) ?_
  refine cb_get 3 1 0 (v := .ref (ad (9 + 33))) (ref := "BracketLetters$Chiefs") fx (by decide) rfl rfl in_X1_findSides_X1 (by decide) rfl (by decide +kernel) rfl hK hP dX1_findSides_29 ?_
  refine lv_iload_n hx hb dX1_findSides_32 rfl (lv_at hl 2 rfl) ?_
  obtain ⟨hi19, h⟩ := h
  refine cb_iald 33 (by decide) fx hK hP hi19 dX1_findSides_33 ?_
  refine lv_aload_n hx hb dX1_findSides_34 rfl (lv_at hl 1 rfl) ?_
  refine cb_get 3 1 4 (v := .ref (ad 1)) (ref := "BracketLetters$Chiefs") fx (by decide) rfl rfl in_X1_findSides_X1 (by decide) rfl (by decide +kernel) rfl hK hP dX1_findSides_35 ?_
  refine cb_get 1 5 3 (v := .ref (ad (9 + 1))) (ref := "BracketLetters$Words") fx (by decide) rfl rfl in_X1_findSides_X6 (by decide) rfl (by decide +kernel) rfl hK hP dX1_findSides_38 ?_
  refine lv_iload_n hx hb dX1_findSides_41 rfl (lv_at hl 0 rfl) ?_
  obtain ⟨hi20, h⟩ := h
  refine cb_iald 1 (by decide) fx hK hP hi20 dX1_findSides_42 ?_
  refine lv_isub hx hb dX1_findSides_43 ?_
  refine lv_topi (fun v4_21 ev4_21 => ?_)
  have h := h v4_21 ev4_21
  refine lv_istore (lv' := [(4, .int v4_21), (3, .int r18), (0, .ref (ad 3)), (1, .int a1), (2, .ref (ad (9 + 46)))]) hx hb dX1_findSides_44 hl (by decide) rfl (fun ls hl => ?_)
  refine lv_iload_n hx hb dX1_findSides_46 rfl (lv_at hl 1 rfl) ?_
  refine lv_iconst (v := 1) hx hb dX1_findSides_47 (by decide) ?_
  refine lv_isub hx hb dX1_findSides_48 ?_
  refine lv_topi (fun v5_22 ev5_22 => ?_)
  have h := h v5_22 ev5_22
  refine lv_istore (lv' := [(5, .int v5_22), (4, .int v4_21), (3, .int r18), (0, .ref (ad 3)), (1, .int a1), (2, .ref (ad (9 + 46)))]) hx hb dX1_findSides_49 hl (by decide) rfl (fun ls hl => ?_)
  obtain ⟨n, h⟩ := h
  exact cbkw_X1_findSides_51 fx hK hA n _ _ _ _ _ hP hD hS (lv_sub hl [3, 4, 5, 2, 1, 0] rfl) h
