/-! the class's world: 7 objects, 2 grids, 47 int arrays by index, and rows (if it has been made); more rows for calls -/
abbrev cs_T : Type := (Nat → Int32) × (Nat → Nat → Int32) × Option Nat
def cs_o0 (ad : Nat → Nat) : List Value := [.ref (ad 1), .ref (ad 7), .ref (ad 2), .ref (ad 3), .ref (ad 4), .ref (ad 5), .ref (ad 6)]
def cs_o1 (ad : Nat → Nat) (F : Nat → Int32) : List Value := [.int (F 2), .int (F 3), .ref (ad (9 + 0)), .ref (ad (9 + 1))]
def cs_o2 (ad : Nat → Nat) (F : Nat → Int32) : List Value := [.ref (ad 8), .ref (ad 1), .int (F 0), .int (F 1), .ref (ad (9 + 0)), .ref (ad (9 + 1)), .ref (ad (9 + 2)), .ref (ad (9 + 3)), .ref (ad (9 + 4)), .ref (ad (9 + 5)), .ref (ad (9 + 6))]
def cs_o3 (ad : Nat → Nat) : List Value := [.ref (ad (9 + 33)), .ref (ad (9 + 34)), .ref (ad (9 + 35)), .ref (ad (9 + 36)), .ref (ad 1), .ref (ad 2), .ref (ad 8), .ref (ad (9 + 37))]
def cs_o4 (ad : Nat → Nat) (F : Nat → Int32) : List Value := [.int (F 9), .ref (ad 1), .ref (ad 2), .ref (ad (9 + 38)), .ref (ad (9 + 39))]
def cs_o5 (ad : Nat → Nat) (F : Nat → Int32) (r : Option Nat) : List Value := [.int (F 4), .ref (ad (9 + 40)), .ref (ad 1), .ref (ad 3), .ref (ad (9 + 41)), .ref (ad (9 + 42)), .ref (ad (9 + 43)), .ref (ad (9 + 44)), .ref (ad (9 + 45)), va_rf r]
def cs_o6 (ad : Nat → Nat) (F : Nat → Int32) : List Value := [.int (F 5), .ref (ad 1), .ref (ad 2), .ref (ad 7), .ref (ad 8), .ref (ad (9 + 46)), .int (F 6), .int (F 7), .int (F 8)]
def cs_gr (ad : Nat → Nat) (b : Nat) : Nat → Option Nat := fun i => some (ad (9 + (b + i)))
def cs_hd (ad : Nat → Nat) (cR : ClassId) (F : Nat → Int32) (r : Option Nat) : va_W := [(ad 0, .inr (6, cs_o0 ad)), (ad 1, .inr (5, cs_o1 ad F)), (ad 2, .inr (0, cs_o2 ad F)), (ad 3, .inr (1, cs_o3 ad)), (ad 4, .inr (4, cs_o4 ad F)), (ad 5, .inr (2, cs_o5 ad F r)), (ad 6, .inr (3, cs_o6 ad F)), (ad 7, .inl (cR, 8, .inr (.inr (.inr (.inr (cs_gr ad 7)))))), (ad 8, .inl (cR, 18, .inr (.inr (.inr (.inr (cs_gr ad 15))))))]
def cs_md (ad : Nat → Nat) (cI : ClassId) (Ln : Nat → Nat) (I : Nat → Nat → Int32) : va_W := (List.range 47).map (fun k => (ad (9 + k), .inl (cI, Ln k, .inl (I k))))
def cs_tl (cI : ClassId) (Ln : Nat → Nat) (f : Nat → Int32) (r : Option Nat) : va_W := match r with
  | none => []
  | some q => [(q, .inl (cI, Ln 47, .inl f))]
def cs_w (ad : Nat → Nat) (cI cR : ClassId) (Ln : Nat → Nat) (S : cs_T) : va_W := (cs_hd ad cR S.1 S.2.2 ++ cs_md ad cI Ln S.2.1) ++ cs_tl cI Ln (S.2.1 47) S.2.2
def cs_sF (S : cs_T) (k : Nat) (v : Int32) : cs_T := (va_up S.1 k v, S.2.1, S.2.2)
def cs_sI (S : cs_T) (k i : Nat) (v : Int32) : cs_T := (S.1, va_up S.2.1 k (upd (S.2.1 k) i v), S.2.2)
def cs_sA (S : cs_T) (k : Nat) (f : Nat → Int32) : cs_T := (S.1, va_up S.2.1 k f, S.2.2)
theorem cs_hdl {ad : Nat → Nat} {cR : ClassId} {F : Nat → Int32} {r : Option Nat} : (cs_hd ad cR F r).length = 9 := rfl
theorem cs_mdl {ad : Nat → Nat} {cI : ClassId} {Ln : Nat → Nat} {I : Nat → Nat → Int32} : (cs_md ad cI Ln I).length = 47 := by simp [cs_md]
theorem cs_gH {ad : Nat → Nat} {cI cR : ClassId} {Ln : Nat → Nat} {S : cs_T} {o : Nat} (ho : o < 9) : (cs_w ad cI cR Ln S)[o]? = (cs_hd ad cR S.1 S.2.2)[o]? := by
  unfold cs_w
  rw [List.getElem?_append_left (by rw [List.length_append, cs_hdl]; omega), List.getElem?_append_left (by rw [cs_hdl]; omega)]
theorem cs_gA {ad : Nat → Nat} {cI cR : ClassId} {Ln : Nat → Nat} {S : cs_T} {k : Nat} (hk : k < 47) : (cs_w ad cI cR Ln S)[9 + k]? = some (ad (9 + k), .inl (cI, Ln k, .inl (S.2.1 k))) := by
  unfold cs_w
  rw [List.getElem?_append_left (by rw [List.length_append, cs_hdl, cs_mdl]; omega), List.getElem?_append_right (by rw [cs_hdl]; omega), cs_hdl, Nat.add_sub_cancel_left]
  simp [cs_md, hk]
theorem cs_gR {ad : Nat → Nat} {cI cR : ClassId} {Ln : Nat → Nat} {S : cs_T} {q : Nat} (hq : S.2.2 = some q) : (cs_w ad cI cR Ln S)[56]? = some (q, .inl (cI, Ln 47, .inl (S.2.1 47))) := by
  unfold cs_w
  rw [List.getElem?_append_right (by rw [List.length_append, cs_hdl, cs_mdl]; omega), List.length_append, cs_hdl, cs_mdl, hq]
  rfl
theorem cs_uA {ad : Nat → Nat} {cI cR : ClassId} {Ln : Nat → Nat} {S : cs_T} {k : Nat} {f : Nat → Int32} (hk : k < 47) : (cs_w ad cI cR Ln S).set (9 + k) (ad (9 + k), .inl (cI, Ln k, .inl f)) = cs_w ad cI cR Ln (cs_sA S k f) := by
  unfold cs_w
  rw [List.set_append_left _ _ (by rw [List.length_append, cs_hdl, cs_mdl]; omega), List.set_append_right _ _ (by rw [cs_hdl]; omega), cs_hdl, Nat.add_sub_cancel_left]
  have h1 : (cs_md ad cI Ln S.2.1).set k (ad (9 + k), .inl (cI, Ln k, .inl f)) = cs_md ad cI Ln (va_up S.2.1 k f) := by
    apply List.ext_getElem?
    intro j
    by_cases hj : j = k
    · subst hj
      rw [List.getElem?_set_self (by rw [cs_mdl]; omega)]
      simp [cs_md, hk, va_up]
    · rw [List.getElem?_set_ne (Ne.symm hj)]
      by_cases h47 : j < 47
      · simp [cs_md, h47, va_up, hj]
      · simp [cs_md, h47]
  rw [h1]
  show _ ++ cs_tl cI Ln (S.2.1 47) S.2.2 = _ ++ cs_tl cI Ln (va_up S.2.1 k f 47) S.2.2
  rw [va_up_ne _ _ (show 47 ≠ k by omega)]
  rfl
theorem cs_uR {ad : Nat → Nat} {cI cR : ClassId} {Ln : Nat → Nat} {S : cs_T} {q : Nat} {f : Nat → Int32} (hq : S.2.2 = some q) : (cs_w ad cI cR Ln S).set 56 (q, .inl (cI, Ln 47, .inl f)) = cs_w ad cI cR Ln (cs_sA S 47 f) := by
  unfold cs_w
  rw [List.set_append_right _ _ (by rw [List.length_append, cs_hdl, cs_mdl]; omega), List.length_append, cs_hdl, cs_mdl]
  have h1 : cs_md ad cI Ln (cs_sA S 47 f).2.1 = cs_md ad cI Ln S.2.1 := by
    unfold cs_md
    apply List.map_congr_left
    intro k hk
    have : k < 47 := List.mem_range.mp hk
    show (ad (9 + k), Sum.inl (cI, Ln k, Sum.inl (va_up S.2.1 47 f k))) = _
    rw [va_up_ne _ _ (show k ≠ 47 by omega)]
  rw [h1]
  show (cs_hd ad cR S.1 S.2.2 ++ cs_md ad cI Ln S.2.1) ++ (cs_tl cI Ln (S.2.1 47) S.2.2).set (56 - (9 + 47)) _ = (cs_hd ad cR S.1 S.2.2 ++ cs_md ad cI Ln S.2.1) ++ cs_tl cI Ln (va_up S.2.1 47 f 47) S.2.2
  rw [hq, va_up_self]
  rfl
theorem cs_uH {ad : Nat → Nat} {cI cR : ClassId} {Ln : Nat → Nat} {S : cs_T} {o k : Nat} {v : Int32} {x : Nat × va_E} (ho : o < 9) (h : (cs_hd ad cR S.1 S.2.2).set o x = cs_hd ad cR (va_up S.1 k v) S.2.2) : (cs_w ad cI cR Ln S).set o x = cs_w ad cI cR Ln (cs_sF S k v) := by
  unfold cs_w
  rw [List.set_append_left _ _ (by rw [List.length_append, cs_hdl]; omega), List.set_append_left _ _ (by rw [cs_hdl]; omega), h]
  rfl
theorem cs_f5_0 {ad : Nat → Nat} {cR : ClassId} {F : Nat → Int32} {r : Option Nat} {v : Int32} : (cs_hd ad cR F r).set 5 (ad 5, .inr (2, (cs_o5 ad F r).set 0 (.int v))) = cs_hd ad cR (va_up F 4 v) r := by simp [cs_hd, cs_o0, cs_o1, cs_o2, cs_o3, cs_o4, cs_o5, cs_o6, va_up]
theorem cs_f6_0 {ad : Nat → Nat} {cR : ClassId} {F : Nat → Int32} {r : Option Nat} {v : Int32} : (cs_hd ad cR F r).set 6 (ad 6, .inr (3, (cs_o6 ad F).set 0 (.int v))) = cs_hd ad cR (va_up F 5 v) r := by simp [cs_hd, cs_o0, cs_o1, cs_o2, cs_o3, cs_o4, cs_o5, cs_o6, va_up]
theorem cs_f6_6 {ad : Nat → Nat} {cR : ClassId} {F : Nat → Int32} {r : Option Nat} {v : Int32} : (cs_hd ad cR F r).set 6 (ad 6, .inr (3, (cs_o6 ad F).set 6 (.int v))) = cs_hd ad cR (va_up F 6 v) r := by simp [cs_hd, cs_o0, cs_o1, cs_o2, cs_o3, cs_o4, cs_o5, cs_o6, va_up]
theorem cs_f6_7 {ad : Nat → Nat} {cR : ClassId} {F : Nat → Int32} {r : Option Nat} {v : Int32} : (cs_hd ad cR F r).set 6 (ad 6, .inr (3, (cs_o6 ad F).set 7 (.int v))) = cs_hd ad cR (va_up F 7 v) r := by simp [cs_hd, cs_o0, cs_o1, cs_o2, cs_o3, cs_o4, cs_o5, cs_o6, va_up]
theorem cs_f6_8 {ad : Nat → Nat} {cR : ClassId} {F : Nat → Int32} {r : Option Nat} {v : Int32} : (cs_hd ad cR F r).set 6 (ad 6, .inr (3, (cs_o6 ad F).set 8 (.int v))) = cs_hd ad cR (va_up F 8 v) r := by simp [cs_hd, cs_o0, cs_o1, cs_o2, cs_o3, cs_o4, cs_o5, cs_o6, va_up]
theorem cs_f4_0 {ad : Nat → Nat} {cR : ClassId} {F : Nat → Int32} {r : Option Nat} {v : Int32} : (cs_hd ad cR F r).set 4 (ad 4, .inr (4, (cs_o4 ad F).set 0 (.int v))) = cs_hd ad cR (va_up F 9 v) r := by simp [cs_hd, cs_o0, cs_o1, cs_o2, cs_o3, cs_o4, cs_o5, cs_o6, va_up]
abbrev cs_ty (cI cJ cR : ClassId) : List (ClassId × FieldType) := [(cI, .int), (cJ, .long), (cR, .array .int)]
section CS
variable {p : Program} {l : Launch} {e : Env} {R : Room} {s : State} {m : MethodId} {args : Array Value} {below : List Frame} {meth : Method} {c : Code} {H : Heap} {locs : List Loc} {cells slots : Nat} {Q : State → Prop}
variable {cc : ByteArray} {pc : Nat} {ls : Array Slot} {rest : List Value} {D : va_G} {A : Nat → Prop} {nL : Nat} {Ts : List Cond} {own : String} {ret : Option FieldType} {ad : Nat → Nat} {cI cJ cR : ClassId} {Ln : Nat → Nat} {S : cs_T}
theorem cs_recv (o ci : Nat) {q : vw_C} {fs : List Value} (ho : o < 9) (hh : (cs_hd ad cR S.1 S.2.2)[o]? = some (ad o, .inr (ci, fs))) (hc : vwCl[ci]? = some q) (hK : xr_K D (cs_ty cI cJ cR) s) (hP : va_P D vwCl (cs_w ad cI cR Ln S) H) : ∃ cell : Cell, H[ad o]? = some cell ∧ cell.vm.isStatics = false ∧ s.vm.findClass q.1 = some cell.cls := va_recv hK.1 hP (ci := ci) (q0 := o) hc ((cs_gH ho).trans hh)
theorem cs_get (o ci j : Nat) {v : Value} {fs : List Value} {index N : Nat} {C ref : String} {T : u_T} (fx : xr_Fx p m c meth cc nL s args Ts own ret) (ho : o < 9) (hh : (cs_hd ad cR S.1 S.2.2)[o]? = some (ad o, .inr (ci, fs))) (hc : vwCl[ci]? = some (C, T, N)) (hin : ∀ w ∈ u_ws C T N, w ∈ Ts) (hj : j < N) (hv : fs[j]? = some v) (hlink : Cond.fieldLink own index ref (T j).2.1 (T j).2.2.1 ∈ Ts) (hcl : (T j).1 = ref) (hK : xr_K D (cs_ty cI cJ cR) s) (hP : va_P D vwCl (cs_w ad cI cR Ln S) H) (hdg : decode cc pc = .ok (.getfield index, 3))
    (kk : W p l e R s m args below meth c H locs cells slots Q (F0 m (pc + 3) ls (v :: rest))) : W p l e R s m args below meth c H locs cells slots Q (F0 m pc ls (.ref (ad o) :: rest)) := by
  obtain ⟨⟨hx, hb, hml, hown, hts⟩, -, -⟩ := fx
  exact va_get (D := D) (ci := ci) (v := v) (C := C) (T := T) (N := N) hx hb hts hin hown hK.1 hP o ((cs_gH ho).trans hh) hc j hj (hts _ hlink) (fun x h => by rw [← hcl]; exact h) hv hdg kk
theorem cs_put (o ci j k : Nat) {v : Int32} {fs : List Value} {index N : Nat} {C ref : String} {T : u_T} {ty : FieldType} (ty0 : Nat → FieldType) (hty : ∀ k, k < N → parseFieldDescriptor (T k).2.2.1 = some (ty0 k)) (hnm : ∀ a, a < N → ∀ b, b < N → a ≠ b → (T a).2.1 ≠ (T b).2.1) (fx : xr_Fx p m c meth cc nL s args Ts own ret) (ho : o < 9) (hh : (cs_hd ad cR S.1 S.2.2)[o]? = some (ad o, .inr (ci, fs))) (hc : vwCl[ci]? = some (C, T, N)) (hin : ∀ w ∈ u_ws C T N, w ∈ Ts) (hj : j < N) (hl : j < fs.length) (hu : (cs_hd ad cR S.1 S.2.2).set o (ad o, .inr (ci, fs.set j (.int v))) = cs_hd ad cR (va_up S.1 k v) S.2.2) (hlink : Cond.fieldLink own index ref (T j).2.1 (T j).2.2.1 ∈ Ts) (hcl : (T j).1 = ref) (hfin : (T j).2.2.2 = false) (hd : parseFieldDescriptor (T j).2.2.1 = some ty) (hn : narrow ty (.int v) = .int v) (hfit : fits ty (.int v) = true) (hK : xr_K D (cs_ty cI cJ cR) s) (hP : va_P D vwCl (cs_w ad cI cR Ln S) H) (hD : va_D A (cs_w ad cI cR Ln S)) (hS : va_S A s.heap H locs) (hdg : decode cc pc = .ok (.putfield index, 3))
    (kk : ∀ (H1 : Heap) (locs1 : List Loc), va_P D vwCl (cs_w ad cI cR Ln (cs_sF S k v)) H1 → va_D A (cs_w ad cI cR Ln (cs_sF S k v)) → va_S A s.heap H1 locs1 → W p l e R s m args below meth c H1 locs1 cells slots Q (F0 m (pc + 3) ls rest)) : W p l e R s m args below meth c H locs cells slots Q (F0 m pc ls (.int v :: .ref (ad o) :: rest)) := by
  obtain ⟨⟨hx, hb, hml, hown, hts⟩, -, -⟩ := fx
  refine va_put (D := D) (ci := ci) (v := .int v) (ty := ty) (C := C) (T := T) (N := N) hx hb hts hin ty0 hty hnm hown hK.1 hP hD hS o ((cs_gH ho).trans hh) hc j hj (hts _ hlink) (fun x h => by rw [← hcl]; exact h) hfin hd hn hfit hl hdg (fun H1 locs1 hP1 hD1 hS1 => ?_)
  rw [cs_uH ho hu] at hP1 hD1
  exact kk H1 locs1 hP1 hD1 hS1
theorem cs_iald (k : Nat) (hk : k < 47) {i : Int32} (fx : xr_Fx p m c meth cc nL s args Ts own ret) (hK : xr_K D (cs_ty cI cJ cR) s) (hP : va_P D vwCl (cs_w ad cI cR Ln S) H) (hi : vp_in i (Ln k)) (hdg : decode cc pc = .ok (.iaload, 1))
    (kk : W p l e R s m args below meth c H locs cells slots Q (F0 m (pc + 1) ls (.int (S.2.1 k i.toNatClampNeg) :: rest))) : W p l e R s m args below meth c H locs cells slots Q (F0 m pc ls (.int i :: .ref (ad (9 + k)) :: rest)) := by
  obtain ⟨⟨hx, hb, hml, hown, hts⟩, -, -⟩ := fx
  exact va_iald hx hb hK.1 hP (9 + k) 0 (cs_gA hk) rfl hi hdg kk
theorem cs_ialdR {q : Nat} (hq : S.2.2 = some q) {i : Int32} (fx : xr_Fx p m c meth cc nL s args Ts own ret) (hK : xr_K D (cs_ty cI cJ cR) s) (hP : va_P D vwCl (cs_w ad cI cR Ln S) H) (hi : vp_in i (Ln 47)) (hdg : decode cc pc = .ok (.iaload, 1))
    (kk : W p l e R s m args below meth c H locs cells slots Q (F0 m (pc + 1) ls (.int (S.2.1 47 i.toNatClampNeg) :: rest))) : W p l e R s m args below meth c H locs cells slots Q (F0 m pc ls (.int i :: .ref q :: rest)) := by
  obtain ⟨⟨hx, hb, hml, hown, hts⟩, -, -⟩ := fx
  exact va_iald hx hb hK.1 hP 56 0 (cs_gR hq) rfl hi hdg kk
theorem cs_iast (k : Nat) (hk : k < 47) {i v : Int32} (fx : xr_Fx p m c meth cc nL s args Ts own ret) (hK : xr_K D (cs_ty cI cJ cR) s) (hP : va_P D vwCl (cs_w ad cI cR Ln S) H) (hD : va_D A (cs_w ad cI cR Ln S)) (hS : va_S A s.heap H locs) (hi : vp_in i (Ln k)) (hdg : decode cc pc = .ok (.iastore, 1))
    (kk : ∀ (H1 : Heap) (locs1 : List Loc), va_P D vwCl (cs_w ad cI cR Ln (cs_sI S k i.toNatClampNeg v)) H1 → va_D A (cs_w ad cI cR Ln (cs_sI S k i.toNatClampNeg v)) → va_S A s.heap H1 locs1 → W p l e R s m args below meth c H1 locs1 cells slots Q (F0 m (pc + 1) ls rest)) : W p l e R s m args below meth c H locs cells slots Q (F0 m pc ls (.int v :: .int i :: .ref (ad (9 + k)) :: rest)) := by
  obtain ⟨⟨hx, hb, hml, hown, hts⟩, -, -⟩ := fx
  refine va_iast hx hb hK.1 hP hD hS (9 + k) 0 (cs_gA hk) rfl hi hdg (fun H1 locs1 hP1 hD1 hS1 => ?_)
  rw [cs_uA hk] at hP1 hD1
  exact kk H1 locs1 hP1 hD1 hS1
theorem cs_iastR {q : Nat} (hq : S.2.2 = some q) {i v : Int32} (fx : xr_Fx p m c meth cc nL s args Ts own ret) (hK : xr_K D (cs_ty cI cJ cR) s) (hP : va_P D vwCl (cs_w ad cI cR Ln S) H) (hD : va_D A (cs_w ad cI cR Ln S)) (hS : va_S A s.heap H locs) (hi : vp_in i (Ln 47)) (hdg : decode cc pc = .ok (.iastore, 1))
    (kk : ∀ (H1 : Heap) (locs1 : List Loc), va_P D vwCl (cs_w ad cI cR Ln (cs_sI S 47 i.toNatClampNeg v)) H1 → va_D A (cs_w ad cI cR Ln (cs_sI S 47 i.toNatClampNeg v)) → va_S A s.heap H1 locs1 → W p l e R s m args below meth c H1 locs1 cells slots Q (F0 m (pc + 1) ls rest)) : W p l e R s m args below meth c H locs cells slots Q (F0 m pc ls (.int v :: .int i :: .ref q :: rest)) := by
  obtain ⟨⟨hx, hb, hml, hown, hts⟩, -, -⟩ := fx
  refine va_iast hx hb hK.1 hP hD hS 56 0 (cs_gR hq) rfl hi hdg (fun H1 locs1 hP1 hD1 hS1 => ?_)
  rw [cs_uR hq] at hP1 hD1
  exact kk H1 locs1 hP1 hD1 hS1
theorem cs_alen (k : Nat) (hk : k < 47) (fx : xr_Fx p m c meth cc nL s args Ts own ret) (hK : xr_K D (cs_ty cI cJ cR) s) (hP : va_P D vwCl (cs_w ad cI cR Ln S) H) (hdg : decode cc pc = .ok (.arraylength, 1))
    (kk : W p l e R s m args below meth c H locs cells slots Q (F0 m (pc + 1) ls (.int (nI (Ln k)) :: rest))) : W p l e R s m args below meth c H locs cells slots Q (F0 m pc ls (.ref (ad (9 + k)) :: rest)) := by
  obtain ⟨⟨hx, hb, hml, hown, hts⟩, -, -⟩ := fx
  exact va_alen hx hb hK.1 hP (9 + k) 0 (cs_gA hk) rfl rfl hdg kk
/-- the length of the grid 'stack' -/
theorem cs_glen (o n b : Nat) (fx : xr_Fx p m c meth cc nL s args Ts own ret) (ho : o < 9) (hh : (cs_hd ad cR S.1 S.2.2)[o]? = some (ad o, .inl (cR, n, .inr (.inr (.inr (.inr (cs_gr ad b))))))) (hK : xr_K D (cs_ty cI cJ cR) s) (hP : va_P D vwCl (cs_w ad cI cR Ln S) H) (hdg : decode cc pc = .ok (.arraylength, 1))
    (kk : W p l e R s m args below meth c H locs cells slots Q (F0 m (pc + 1) ls (.int (nI n) :: rest))) : W p l e R s m args below meth c H locs cells slots Q (F0 m pc ls (.ref (ad o) :: rest)) := by
  obtain ⟨⟨hx, hb, hml, hown, hts⟩, -, -⟩ := fx
  exact va_alen hx hb hK.1 hP o 2 ((cs_gH ho).trans hh) rfl rfl hdg kk
theorem cs_aald (o n b : Nat) {i : Int32} (fx : xr_Fx p m c meth cc nL s args Ts own ret) (ho : o < 9) (hh : (cs_hd ad cR S.1 S.2.2)[o]? = some (ad o, .inl (cR, n, .inr (.inr (.inr (.inr (cs_gr ad b))))))) (hK : xr_K D (cs_ty cI cJ cR) s) (hP : va_P D vwCl (cs_w ad cI cR Ln S) H) (hin : vp_in i n) (hdg : decode cc pc = .ok (.aaload, 1))
    (kk : W p l e R s m args below meth c H locs cells slots Q (F0 m (pc + 1) ls (.ref (ad (9 + (b + i.toNatClampNeg))) :: rest))) : W p l e R s m args below meth c H locs cells slots Q (F0 m pc ls (.int i :: .ref (ad o) :: rest)) := by
  obtain ⟨⟨hx, hb, hml, hown, hts⟩, -, -⟩ := fx
  have hlt : i.toNatClampNeg < n := Nat.not_le.mp fun q => hin (Or.inr q)
  exact W.aald (v := va_rf (cs_gr ad b i.toNatClampNeg)) (ty := .array .int) hx hb (hP o _ ((cs_gH ho).trans hh)) ((hK.1.2 2 _ rfl).1 n (fun j => va_rf (cs_gr ad b j))) rfl (fun q => by cases q) (by show ¬ (i < 0 ∨ (arrV _ _ _).slots.size ≤ _); rw [arrV_size]; exact hin) (by show (arrV _ _ _).slots[_]? = _; rw [arrV_read _ _ hlt]) rfl rfl hdg kk
/-- System.arraycopy of one int array into another (or the same) -/
theorem cs_copy (k0 k1 : Nat) (h0 : k0 < 47) (hk1 : k1 < 47) {index : Nat} {sp dp n : Int32} (fx : xr_Fx p m c meth cc nL s args Ts own ret) (hlink : Cond.methodLink own index arraycopyName ∈ Ts) (hnat : Cond.native arraycopyName ∈ Ts) (hstat : Cond.static arraycopyName ∈ Ts) (hini : Cond.initialized "java/lang/System" ∈ Ts) (hls : ls.size = nL) (hK : xr_K D (cs_ty cI cJ cR) s) (hP : va_P D vwCl (cs_w ad cI cR Ln S) H) (hD : va_D A (cs_w ad cI cR Ln S)) (hS : va_S A s.heap H locs)
    (h1 : ¬ sp < 0) (h2 : ¬ dp < 0) (h3 : ¬ n < 0) (h4 : sp.toNatClampNeg + n.toNatClampNeg ≤ Ln k0) (h5 : dp.toNatClampNeg + n.toNatClampNeg ≤ Ln k1) (hframes : 1 ≤ R.frames) (hlocals : (rest.map fun v => v.category).sum + (nativeFrameWords "java/lang/System" "arraycopy" 5 + 11) ≤ R.locals) (hdg : decode cc pc = .ok (.invokestatic index, 3))
    (kk : ∀ (H1 : Heap) (locs1 : List Loc), va_P D vwCl (cs_w ad cI cR Ln (cs_sA S k1 (va_cpy (S.2.1 k0) (S.2.1 k1) sp.toNatClampNeg dp.toNatClampNeg n.toNatClampNeg))) H1 → va_D A (cs_w ad cI cR Ln (cs_sA S k1 (va_cpy (S.2.1 k0) (S.2.1 k1) sp.toNatClampNeg dp.toNatClampNeg n.toNatClampNeg))) → va_S A s.heap H1 locs1 → W p l e R s m args below meth c H1 locs1 cells slots Q (F0 m (pc + 3) ls rest)) : W p l e R s m args below meth c H locs cells slots Q (F0 m pc ls (.int n :: .int dp :: .ref (ad (9 + k1)) :: .int sp :: .ref (ad (9 + k0)) :: rest)) := by
  obtain ⟨⟨hx, hb, hml, hown, hts⟩, -, -⟩ := fx
  refine va_copyi hx hb (hml.trans hls.symm) hown (hts _ hlink) (hts _ hnat) (hts _ hstat) (hts _ hini) hK.1 hP hD hS (9 + k0) (9 + k1) 0 0 (cs_gA h0) (cs_gA hk1) rfl rfl rfl h1 h2 h3 h4 h5 (fun i _ => rfl) hframes hlocals hdg (fun H1 locs1 hP1 hD1 hS1 => ?_)
  rw [cs_uA hk1] at hP1 hD1
  exact kk H1 locs1 hP1 hD1 hS1
end CS
