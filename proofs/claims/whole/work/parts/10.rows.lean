/-! my own rows over the kit: worlds that are functions of a pure state, contracts over the whole world, calls in one row -/
abbrev xr_remI (x y : Int32) : Int32 := x - x / y * y
abbrev xr_remL (x y : Int64) : Int64 := x - x / y * y
def xr_01 (v : Int32) : Prop := v = 0 ∨ v = 1
theorem xr_nar {v : Int32} (h : xr_01 v) : narrow .boolean (.int v) = .int v := by rcases h with rfl | rfl <;> rfl
theorem xr_fit {v : Int32} (h : xr_01 v) : fits .boolean (.int v) = true := by rcases h with rfl | rfl <;> rfl
/-- private members of another class of the nest that are called -/
def xr_nw : List Cond := [.methodLinkNest RX4 130 yX7_noSum RX7]
/-- the classes and array classes, and the links within the nest -/
def xr_K (D : va_G) (tys : List (ClassId × FieldType)) (U : State) : Prop := va_K D vwCl tys U ∧ ∀ w ∈ xr_nw, va_Nw w U
theorem xr_K.same {D : va_G} {tys : List (ClassId × FieldType)} {u U : State} (hvm : u.vm = U.vm) (h : xr_K D tys u) : xr_K D tys U := ⟨va_K.moved (by rw [← hvm]; exact Vm.Alike.refl u.vm) h.1, fun w hw => by
  have h1 := h.2 w hw
  simp only [xr_nw, List.mem_cons, List.not_mem_nil, or_false] at hw
  subst hw
  exact va_Nw.same rfl hvm h1⟩
theorem xr_K.warm {D : va_G} {tys : List (ClassId × FieldType)} {u U : State} (hW : u.WarmedH U.vm) (h : xr_K D tys u) : xr_K D tys U := ⟨va_K.moved hW.alike h.1, fun w hw => by
  have h1 := h.2 w hw
  simp only [xr_nw, List.mem_cons, List.not_mem_nil, or_false] at hw
  subst hw
  exact va_Nw.warmM hW h1⟩
section XR
variable {p : Program} {l : Launch} {e : Env} {R : Room} {s : State} {m : MethodId} {args : Array Value} {below : List Frame} {meth : Method} {c : Code} {H : Heap} {locs : List Loc} {cells slots : Nat} {Q : State → Prop}
variable {cc : ByteArray} {pc : Nat} {ls : Array Slot} {rest : List Value} {D : va_G} {cl : List vw_C} {A : Nat → Prop} {a : Nat} {tys : List (ClassId × FieldType)} {ws : va_W} {nL : Nat} {Ts : List Cond} {own : String} {ret : Option FieldType}
/-- what a walk knows of its method all the time -/
def xr_Fx (p : Program) (m : MethodId) (c : Code) (meth : Method) (cc : ByteArray) (nL : Nat) (s : State) (args : Array Value) (Ts : List Cond) (own : String) (ret : Option FieldType) : Prop := CallFix p m c cc nL s args Ts own ∧ meth.sig.returnType = ret ∧ meth.locks = false
/-- the world behind a call -/
def xr_B {σ : Type} (D : va_G) (tys : List (ClassId × FieldType)) (wf : σ → va_W) (A : Nat → Prop) : σ → State → Prop := fun S t => va_P D vwCl (wf S) t.heap ∧ xr_K D tys t ∧ va_D A (wf S)
def xr_P {σ : Type} (D : va_G) (tys : List (ClassId × FieldType)) (wf : σ → va_W) (S : σ) (sz : Nat) (av : List Value) : Array Value → State → Prop := va_Pc av (fun U => U.heap.size = sz ∧ va_P D vwCl (wf S) U.heap ∧ xr_K D tys U ∧ va_D (fun _ => True) (wf S))
/-- contracts over a whole world: the answer an int, a long, none -/
def xr_I {σ : Type} (l : Launch) (D : va_G) (tys : List (ClassId × FieldType)) (wf : σ → va_W) (y : MethodName) (wy : List Cond) (rm : Room) (av : List Value) (S : σ) (post : Int32 → σ → Prop) : Prop := ∀ sz : Nat, Met l y wy rm (xr_P D tys wf S sz av) (va_Qi post (xr_B D tys wf (va_A (wf S) sz)) (va_A (wf S) sz)) 0 0 (va_A (wf S) sz)
def xr_L {σ : Type} (l : Launch) (D : va_G) (tys : List (ClassId × FieldType)) (wf : σ → va_W) (y : MethodName) (wy : List Cond) (rm : Room) (av : List Value) (S : σ) (post : Int64 → σ → Prop) : Prop := ∀ sz : Nat, Met l y wy rm (xr_P D tys wf S sz av) (va_Ql post (xr_B D tys wf (va_A (wf S) sz)) (va_A (wf S) sz)) 0 0 (va_A (wf S) sz)
def xr_V {σ : Type} (l : Launch) (D : va_G) (tys : List (ClassId × FieldType)) (wf : σ → va_W) (y : MethodName) (wy : List Cond) (rm : Room) (av : List Value) (S : σ) (post : σ → Prop) : Prop := ∀ sz : Nat, Met l y wy rm (xr_P D tys wf S sz av) (va_Qv post (xr_B D tys wf (va_A (wf S) sz)) (va_A (wf S) sz)) 0 0 (va_A (wf S) sz)
/-- contracts of static methods that touch no heap -/
def xr_SI (l : Launch) (y : MethodName) (wy : List Cond) (rm : Room) (av : List Value) (post : Int32 → Prop) : Prop := Met l y wy rm (va_Pc av (fun _ => True)) (vp_Si post) 0 0 (fun _ => False)
def xr_SL (l : Launch) (y : MethodName) (wy : List Cond) (rm : Room) (av : List Value) (post : Int64 → Prop) : Prop := Met l y wy rm (va_Pc av (fun _ => True)) (vp_Sl post) 0 0 (fun _ => False)
theorem xr_free {H0 : Heap} (hD : va_D A ws) (hS : va_S A H0 H locs) (hA : ∀ q, H0.size ≤ q → A q) : ∀ q, va_A ws H.size q → A q := fun q h => by
  rcases h with ⟨k, e, hk⟩ | h
  · exact hD.2 k _ hk
  · exact hA q (Nat.le_trans hS.1 h)
theorem xr_blind {σ : Type} {wf : σ → va_W} {S : σ} {sz : Nat} {av : List Value} : FrameBlind (xr_P D tys wf S sz av) := fun a U g mk q => by
  obtain ⟨q0, q1, qP, qK, qD⟩ := q
  exact ⟨q0, q1, qP, xr_K.same (u := U) (U := U.calling g mk a) rfl qK, qD⟩
theorem xr_pre {σ : Type} {wf : σ → va_W} {S : σ} {av : List Value} (hK : xr_K D tys s) (hP : va_P D vwCl (wf S) H) (hD : va_D A (wf S)) : ∀ U : State, U.heap = H → s.WarmedH U.vm → xr_P D tys wf S H.size av av.toArray U := fun U hU hW => ⟨rfl, by rw [hU], by rw [hU]; exact hP, xr_K.warm hW hK, hD.weaken (fun _ _ _ _ => trivial)⟩
variable {σ : Type} {wf : σ → va_W} {S : σ}
variable {y : MethodName} {bytes : ByteArray} {maxL n index : Nat} {rt : Option FieldType} {wy wy' : List Cond} {rm : Room} {C : String} {b : Addr} {As : List Value} {H0 : Heap}
/-- a call of an instance method that takes the whole world: invokevirtual -/
theorem xr_vI {post : Int32 → σ → Prop} (fx : xr_Fx p m c meth cc nL s args Ts own ret) (hM : xr_I l D tys wf y wy rm (.ref b :: As) S post) (hG : GoodIn Ts (wsV own index C y wy)) (hw : wy = Cond.code y bytes maxL rt :: wy') (hn : As.length = n) (hd : y.cls = C ∧ y.cls ≠ "java/lang/invoke/MethodHandle" ∧ y.cls ≠ "java/lang/invoke/VarHandle" ∧ (parseMethodDescriptor y.desc).map (fun d => d.parameters.length) = some n) (hR : rm.frames + 1 ≤ R.frames ∧ 8 + (maxL + 11) + rm.locals ≤ R.locals) (hrc : rm.cells = 0 ∧ rm.slots = 0) (hf : cells ≤ R.cells ∧ slots ≤ R.slots)
    (hrv : ∃ cell : Cell, H[b]? = some cell ∧ cell.vm.isStatics = false ∧ s.vm.findClass C = some cell.cls) (hK : xr_K D tys s) (hP : va_P D vwCl (wf S) H) (hD : va_D A (wf S)) (hS : va_S A s.heap H locs) (hA : ∀ q, s.heap.size ≤ q → A q) (hl : ls.size = nL) {st0 : List Value} (hst : st0 = As.reverse ++ .ref b :: rest) (hrm : (rest.map fun v => v.category).sum ≤ 8) (hdg : decode cc pc = .ok (.invokevirtual index, 3))
    (kk : ∀ (r : Int32) (S1 : σ) (H1 : Heap) (locs1 : List Loc), post r S1 → va_P D vwCl (wf S1) H1 → va_D A (wf S1) → va_S A s.heap H1 locs1 → W p l e R s m args below meth c H1 locs1 cells slots Q (F0 m (pc + 3) ls (.int r :: rest))) : W p l e R s m args below meth c H locs cells slots Q (F0 m pc ls st0) := by
  obtain ⟨⟨hx, hb, hml, hown, hts⟩, -, -⟩ := fx
  have hFc := xr_free hD hS hA
  refine va_calli (va_runV (As := As) (rest := rest) ⟨hx, hb, hml, hown, hts⟩ (hM H.size) (cwV n hts hG hw hrc.1 hrc.2 hd hR) ⟨xr_blind, hrv, xr_pre hK hP hD⟩ rfl hn hl hst (lv_room hrm) hdg hf) hS (fun q _ h => hFc q h) hFc (fun r u t H1 locs1 ht hvm hw1 hB hz1 hk1 hS1 => ?_)
  obtain ⟨hP1, hK1, hD1⟩ := hB
  rw [ht] at hP1
  exact kk r u H1 locs1 hw1 hP1 (hD1.weaken (fun _ q _ h => hFc q.1 h)) hS1
theorem xr_vL {post : Int64 → σ → Prop} (fx : xr_Fx p m c meth cc nL s args Ts own ret) (hM : xr_L l D tys wf y wy rm (.ref b :: As) S post) (hG : GoodIn Ts (wsV own index C y wy)) (hw : wy = Cond.code y bytes maxL rt :: wy') (hn : As.length = n) (hd : y.cls = C ∧ y.cls ≠ "java/lang/invoke/MethodHandle" ∧ y.cls ≠ "java/lang/invoke/VarHandle" ∧ (parseMethodDescriptor y.desc).map (fun d => d.parameters.length) = some n) (hR : rm.frames + 1 ≤ R.frames ∧ 8 + (maxL + 11) + rm.locals ≤ R.locals) (hrc : rm.cells = 0 ∧ rm.slots = 0) (hf : cells ≤ R.cells ∧ slots ≤ R.slots)
    (hrv : ∃ cell : Cell, H[b]? = some cell ∧ cell.vm.isStatics = false ∧ s.vm.findClass C = some cell.cls) (hK : xr_K D tys s) (hP : va_P D vwCl (wf S) H) (hD : va_D A (wf S)) (hS : va_S A s.heap H locs) (hA : ∀ q, s.heap.size ≤ q → A q) (hl : ls.size = nL) {st0 : List Value} (hst : st0 = As.reverse ++ .ref b :: rest) (hrm : (rest.map fun v => v.category).sum ≤ 8) (hdg : decode cc pc = .ok (.invokevirtual index, 3))
    (kk : ∀ (r : Int64) (S1 : σ) (H1 : Heap) (locs1 : List Loc), post r S1 → va_P D vwCl (wf S1) H1 → va_D A (wf S1) → va_S A s.heap H1 locs1 → W p l e R s m args below meth c H1 locs1 cells slots Q (F0 m (pc + 3) ls (.long r :: rest))) : W p l e R s m args below meth c H locs cells slots Q (F0 m pc ls st0) := by
  obtain ⟨⟨hx, hb, hml, hown, hts⟩, -, -⟩ := fx
  have hFc := xr_free hD hS hA
  refine va_calll (va_runV (As := As) (rest := rest) ⟨hx, hb, hml, hown, hts⟩ (hM H.size) (cwV n hts hG hw hrc.1 hrc.2 hd hR) ⟨xr_blind, hrv, xr_pre hK hP hD⟩ rfl hn hl hst (lv_room hrm) hdg hf) hS (fun q _ h => hFc q h) hFc (fun r u t H1 locs1 ht hvm hw1 hB hz1 hk1 hS1 => ?_)
  obtain ⟨hP1, hK1, hD1⟩ := hB
  rw [ht] at hP1
  exact kk r u H1 locs1 hw1 hP1 (hD1.weaken (fun _ q _ h => hFc q.1 h)) hS1
theorem xr_vV {post : σ → Prop} (fx : xr_Fx p m c meth cc nL s args Ts own ret) (hM : xr_V l D tys wf y wy rm (.ref b :: As) S post) (hG : GoodIn Ts (wsV own index C y wy)) (hw : wy = Cond.code y bytes maxL rt :: wy') (hn : As.length = n) (hd : y.cls = C ∧ y.cls ≠ "java/lang/invoke/MethodHandle" ∧ y.cls ≠ "java/lang/invoke/VarHandle" ∧ (parseMethodDescriptor y.desc).map (fun d => d.parameters.length) = some n) (hR : rm.frames + 1 ≤ R.frames ∧ 8 + (maxL + 11) + rm.locals ≤ R.locals) (hrc : rm.cells = 0 ∧ rm.slots = 0) (hf : cells ≤ R.cells ∧ slots ≤ R.slots)
    (hrv : ∃ cell : Cell, H[b]? = some cell ∧ cell.vm.isStatics = false ∧ s.vm.findClass C = some cell.cls) (hK : xr_K D tys s) (hP : va_P D vwCl (wf S) H) (hD : va_D A (wf S)) (hS : va_S A s.heap H locs) (hA : ∀ q, s.heap.size ≤ q → A q) (hl : ls.size = nL) {st0 : List Value} (hst : st0 = As.reverse ++ .ref b :: rest) (hrm : (rest.map fun v => v.category).sum ≤ 8) (hdg : decode cc pc = .ok (.invokevirtual index, 3))
    (kk : ∀ (S1 : σ) (H1 : Heap) (locs1 : List Loc), post S1 → va_P D vwCl (wf S1) H1 → va_D A (wf S1) → va_S A s.heap H1 locs1 → W p l e R s m args below meth c H1 locs1 cells slots Q (F0 m (pc + 3) ls rest)) : W p l e R s m args below meth c H locs cells slots Q (F0 m pc ls st0) := by
  obtain ⟨⟨hx, hb, hml, hown, hts⟩, -, -⟩ := fx
  have hFc := xr_free hD hS hA
  refine va_callv (va_runV (As := As) (rest := rest) ⟨hx, hb, hml, hown, hts⟩ (hM H.size) (cwV n hts hG hw hrc.1 hrc.2 hd hR) ⟨xr_blind, hrv, xr_pre hK hP hD⟩ rfl hn hl hst (lv_room hrm) hdg hf) hS (fun q _ h => hFc q h) hFc (fun u t H1 locs1 ht hvm hw1 hB hz1 hk1 hS1 => ?_)
  obtain ⟨hP1, hK1, hD1⟩ := hB
  rw [ht] at hP1
  exact kk u H1 locs1 hw1 hP1 (hD1.weaken (fun _ q _ h => hFc q.1 h)) hS1
/-- a call of a static method that touches no heap -/
theorem xr_sI {post : Int32 → Prop} (fx : xr_Fx p m c meth cc nL s args Ts own ret) (hM : xr_SI l y wy rm As post) (hG : GoodIn Ts (va_wsS own index y wy)) (hw : wy = Cond.code y bytes maxL rt :: wy') (hn : As.length = n) (hd : y.cls ≠ "java/lang/invoke/MethodHandle" ∧ y.cls ≠ "java/lang/invoke/VarHandle" ∧ (parseMethodDescriptor y.desc).map (fun d => d.parameters.length) = some n) (hR : rm.frames + 1 ≤ R.frames ∧ 8 + (maxL + 11) + rm.locals ≤ R.locals) (hrc : rm.cells = 0 ∧ rm.slots = 0) (hf : cells ≤ R.cells ∧ slots ≤ R.slots)
    (hl : ls.size = nL) {st0 : List Value} (hst : st0 = As.reverse ++ rest) (hrm : (rest.map fun v => v.category).sum ≤ 8) (hdg : decode cc pc = .ok (.invokestatic index, 3))
    (kk : ∀ r : Int32, post r → W p l e R s m args below meth c H locs cells slots Q (F0 m (pc + 3) ls (.int r :: rest))) : W p l e R s m args below meth c H locs cells slots Q (F0 m pc ls st0) := by
  obtain ⟨⟨hx, hb, hml, hown, hts⟩, -, -⟩ := fx
  have ok : ∀ w ∈ va_wsS own index y wy, w.before args s = true := fun w h => hts w (hG w h).1
  exact vp_callSi (W.runS (As := As) (rest := rest) ⟨hx, hb, hml, hown, hts⟩ hM ⟨callB_of n hts (fun w h => hG w (by unfold va_wsS; exact List.mem_append_right _ h)) hw hrc.1 hrc.2 (ok _ (by simp [va_wsS])) (ok _ (by simp [va_wsS])) hd hR, ok _ (by simp [va_wsS])⟩ ⟨fun a U g mk q => ⟨q.1, trivial⟩, fun U hU hW => ⟨rfl, trivial⟩⟩ rfl hn hl hst (lv_room hrm) hdg hf) kk
theorem xr_sL {post : Int64 → Prop} (fx : xr_Fx p m c meth cc nL s args Ts own ret) (hM : xr_SL l y wy rm As post) (hG : GoodIn Ts (va_wsS own index y wy)) (hw : wy = Cond.code y bytes maxL rt :: wy') (hn : As.length = n) (hd : y.cls ≠ "java/lang/invoke/MethodHandle" ∧ y.cls ≠ "java/lang/invoke/VarHandle" ∧ (parseMethodDescriptor y.desc).map (fun d => d.parameters.length) = some n) (hR : rm.frames + 1 ≤ R.frames ∧ 8 + (maxL + 11) + rm.locals ≤ R.locals) (hrc : rm.cells = 0 ∧ rm.slots = 0) (hf : cells ≤ R.cells ∧ slots ≤ R.slots)
    (hl : ls.size = nL) {st0 : List Value} (hst : st0 = As.reverse ++ rest) (hrm : (rest.map fun v => v.category).sum ≤ 8) (hdg : decode cc pc = .ok (.invokestatic index, 3))
    (kk : ∀ r : Int64, post r → W p l e R s m args below meth c H locs cells slots Q (F0 m (pc + 3) ls (.long r :: rest))) : W p l e R s m args below meth c H locs cells slots Q (F0 m pc ls st0) := by
  obtain ⟨⟨hx, hb, hml, hown, hts⟩, -, -⟩ := fx
  have ok : ∀ w ∈ va_wsS own index y wy, w.before args s = true := fun w h => hts w (hG w h).1
  exact vp_callSl (W.runS (As := As) (rest := rest) ⟨hx, hb, hml, hown, hts⟩ hM ⟨callB_of n hts (fun w h => hG w (by unfold va_wsS; exact List.mem_append_right _ h)) hw hrc.1 hrc.2 (ok _ (by simp [va_wsS])) (ok _ (by simp [va_wsS])) hd hR, ok _ (by simp [va_wsS])⟩ ⟨fun a U g mk q => ⟨q.1, trivial⟩, fun U hU hW => ⟨rfl, trivial⟩⟩ rfl hn hl hst (lv_room hrm) hdg hf) kk
/-- returns -/
theorem xr_rI {post : Int32 → σ → Prop} {v : Int32} (fx : xr_Fx p m c meth cc nL s args Ts own (some .int)) (hK : xr_K D tys s) (hP : va_P D vwCl (wf S) H) (hD : va_D A (wf S)) (hS : va_S A s.heap H locs) (hq : post v S) (hdg : decode cc pc = .ok (.ireturn, 1)) : W p l e R s m args below meth c H locs cells slots (MQ below (va_Qi post (xr_B D tys wf A) A) args s cells slots A) (F0 m pc ls [.int v]) := by
  obtain ⟨⟨hx, hb, hml, hown, hts⟩, hr, hlk⟩ := fx
  exact W.iret hx hb hr (fun t ht hW => ⟨⟨v, S, rfl, hq, by rw [ht]; exact hP, xr_K.warm hW hK, hD⟩, hS.F ht⟩) hS.2.2 hdg hlk
theorem xr_rZ {post : Int32 → σ → Prop} {v : Int32} (fx : xr_Fx p m c meth cc nL s args Ts own (some .boolean)) (hn : narrow .boolean (.int v) = .int v) (hK : xr_K D tys s) (hP : va_P D vwCl (wf S) H) (hD : va_D A (wf S)) (hS : va_S A s.heap H locs) (hq : post v S) (hdg : decode cc pc = .ok (.ireturn, 1)) : W p l e R s m args below meth c H locs cells slots (MQ below (va_Qi post (xr_B D tys wf A) A) args s cells slots A) (F0 m pc ls [.int v]) := by
  obtain ⟨⟨hx, hb, hml, hown, hts⟩, hr, hlk⟩ := fx
  exact W.zret hx hb hr hn (fun t ht hW => ⟨⟨v, S, rfl, hq, by rw [ht]; exact hP, xr_K.warm hW hK, hD⟩, hS.F ht⟩) hS.2.2 hdg hlk
theorem xr_rL {post : Int64 → σ → Prop} {v : Int64} (fx : xr_Fx p m c meth cc nL s args Ts own (some .long)) (hK : xr_K D tys s) (hP : va_P D vwCl (wf S) H) (hD : va_D A (wf S)) (hS : va_S A s.heap H locs) (hq : post v S) (hdg : decode cc pc = .ok (.lreturn, 1)) : W p l e R s m args below meth c H locs cells slots (MQ below (va_Ql post (xr_B D tys wf A) A) args s cells slots A) (F0 m pc ls [.long v]) := by
  obtain ⟨⟨hx, hb, hml, hown, hts⟩, hr, hlk⟩ := fx
  exact W.lret hx hb hr (fun t ht hW => ⟨⟨v, S, rfl, hq, by rw [ht]; exact hP, xr_K.warm hW hK, hD⟩, hS.F ht⟩) hS.2.2 hdg hlk
theorem xr_rV {post : σ → Prop} (fx : xr_Fx p m c meth cc nL s args Ts own none) (hK : xr_K D tys s) (hP : va_P D vwCl (wf S) H) (hD : va_D A (wf S)) (hS : va_S A s.heap H locs) (hq : post S) (hdg : decode cc pc = .ok (.return_, 1)) : W p l e R s m args below meth c H locs cells slots (MQ below (va_Qv post (xr_B D tys wf A) A) args s cells slots A) (F0 m pc ls []) := by
  obtain ⟨⟨hx, hb, hml, hown, hts⟩, hr, hlk⟩ := fx
  exact W.vret hx hb hr (fun t ht hW => ⟨⟨S, rfl, hq, by rw [ht]; exact hP, xr_K.warm hW hK, hD⟩, hS.F ht⟩) hS.2.2 hdg hlk
theorem xr_rSI {post : Int32 → Prop} {v : Int32} (fx : xr_Fx p m c meth cc nL s args Ts own (some .int)) (hq : post v) (hdg : decode cc pc = .ok (.ireturn, 1)) : W p l e R s m args below meth c s.heap [] cells slots (MQ below (vp_Si post) args s cells slots (fun _ => False)) (F0 m pc ls [.int v]) := by
  obtain ⟨⟨hx, hb, hml, hown, hts⟩, hr, hlk⟩ := fx
  exact W.iret hx hb hr (fun t ht hW => ⟨v, rfl, hq, ht⟩) (fun q h => absurd h List.not_mem_nil) hdg hlk
theorem xr_rSZ {post : Int32 → Prop} {v : Int32} (fx : xr_Fx p m c meth cc nL s args Ts own (some .boolean)) (hn : narrow .boolean (.int v) = .int v) (hq : post v) (hdg : decode cc pc = .ok (.ireturn, 1)) : W p l e R s m args below meth c s.heap [] cells slots (MQ below (vp_Si post) args s cells slots (fun _ => False)) (F0 m pc ls [.int v]) := by
  obtain ⟨⟨hx, hb, hml, hown, hts⟩, hr, hlk⟩ := fx
  exact W.zret hx hb hr hn (fun t ht hW => ⟨v, rfl, hq, ht⟩) (fun q h => absurd h List.not_mem_nil) hdg hlk
theorem xr_rSL {post : Int64 → Prop} {v : Int64} (fx : xr_Fx p m c meth cc nL s args Ts own (some .long)) (hq : post v) (hdg : decode cc pc = .ok (.lreturn, 1)) : W p l e R s m args below meth c s.heap [] cells slots (MQ below (vp_Sl post) args s cells slots (fun _ => False)) (F0 m pc ls [.long v]) := by
  obtain ⟨⟨hx, hb, hml, hown, hts⟩, hr, hlk⟩ := fx
  exact W.lret hx hb hr (fun t ht hW => ⟨v, rfl, hq, ht⟩) (fun q h => absurd h List.not_mem_nil) hdg hlk
end XR
/-- entries -/
theorem xr_eSI {l : Launch} {y : MethodName} {wy wy' : List Cond} {rm : Room} {av : List Value} {post : Int32 → Prop} {cc : ByteArray} {nL : Nat} {ret : Option FieldType} {own : String} (hy : plainName y.cls = true) (ho : y.cls = own) (hw : wy = Cond.code y cc nL ret :: wy') (hn : (lg_sl av).length ≤ nL)
    (body : ∀ (p : Program) (e : Env) (s : State) (m : MethodId) (args : Array Value) (below : List Frame) (meth : Method) (c : Code) (ls : Array Slot), xr_Fx p m c meth cc nL s args wy own ret → lv_has ls nL (lv_args 0 av) → W p l e (headSpec wy rm).room s m args below meth c s.heap [] 0 0 (MQ below (vp_Si post) args s 0 0 (fun _ => False)) (F0 m 0 ls [])) : xr_SI l y wy rm av post := by
  refine Met.ofW (cc := cc) (maxL := nL) (ret := ret) hy hw ?_
  intro p e s m args below meth c s₁ B hml hv
  obtain ⟨rfl, -⟩ := hv
  have hl := lv_entry av (n := nL) hn
  rw [lg_entry_eq]
  subst ho
  exact body p e s m _ below meth c _ ⟨⟨B.exec, B.bytes, hml, findClass_of_methodNamed B.named, atoms_spec (ws := wy) B.pre⟩, B.returns, B.notSynchronized⟩ hl
theorem xr_eSL {l : Launch} {y : MethodName} {wy wy' : List Cond} {rm : Room} {av : List Value} {post : Int64 → Prop} {cc : ByteArray} {nL : Nat} {ret : Option FieldType} {own : String} (hy : plainName y.cls = true) (ho : y.cls = own) (hw : wy = Cond.code y cc nL ret :: wy') (hn : (lg_sl av).length ≤ nL)
    (body : ∀ (p : Program) (e : Env) (s : State) (m : MethodId) (args : Array Value) (below : List Frame) (meth : Method) (c : Code) (ls : Array Slot), xr_Fx p m c meth cc nL s args wy own ret → lv_has ls nL (lv_args 0 av) → W p l e (headSpec wy rm).room s m args below meth c s.heap [] 0 0 (MQ below (vp_Sl post) args s 0 0 (fun _ => False)) (F0 m 0 ls [])) : xr_SL l y wy rm av post := by
  refine Met.ofW (cc := cc) (maxL := nL) (ret := ret) hy hw ?_
  intro p e s m args below meth c s₁ B hml hv
  obtain ⟨rfl, -⟩ := hv
  have hl := lv_entry av (n := nL) hn
  rw [lg_entry_eq]
  subst ho
  exact body p e s m _ below meth c _ ⟨⟨B.exec, B.bytes, hml, findClass_of_methodNamed B.named, atoms_spec (ws := wy) B.pre⟩, B.returns, B.notSynchronized⟩ hl
theorem xr_eI {σ : Type} {wf : σ → va_W} {S : σ} {D : va_G} {tys : List (ClassId × FieldType)} {l : Launch} {y : MethodName} {wy wy' : List Cond} {rm : Room} {av : List Value} {post : Int32 → σ → Prop} {cc : ByteArray} {nL : Nat} {ret : Option FieldType} {own : String} (hy : plainName y.cls = true) (ho : y.cls = own) (hw : wy = Cond.code y cc nL ret :: wy') (hn : (lg_sl av).length ≤ nL)
    (body : ∀ (p : Program) (e : Env) (s : State) (m : MethodId) (args : Array Value) (below : List Frame) (meth : Method) (c : Code) (ls : Array Slot) (A : Nat → Prop), xr_Fx p m c meth cc nL s args wy own ret → xr_K D tys s → (∀ q, s.heap.size ≤ q → A q) → va_P D vwCl (wf S) s.heap → va_D A (wf S) → va_S A s.heap s.heap [] → lv_has ls nL (lv_args 0 av) → W p l e (headSpec wy rm).room s m args below meth c s.heap [] 0 0 (MQ below (va_Qi post (xr_B D tys wf A) A) args s 0 0 A) (F0 m 0 ls [])) : xr_I l D tys wf y wy rm av S post := by
  intro sz
  refine Met.ofW (cc := cc) (maxL := nL) (ret := ret) hy hw ?_
  intro p e s m args below meth c s₁ B hml hv
  obtain ⟨rfl, hsz, hP, hK, hD0⟩ := hv
  subst hsz
  have hl := lv_entry av (n := nL) hn
  rw [lg_entry_eq]
  subst ho
  exact body p e s m _ below meth c _ _ ⟨⟨B.exec, B.bytes, hml, findClass_of_methodNamed B.named, atoms_spec (ws := wy) B.pre⟩, B.returns, B.notSynchronized⟩ hK (fun q h => Or.inr h) hP hD0.self va_S.rf hl
theorem xr_eL {σ : Type} {wf : σ → va_W} {S : σ} {D : va_G} {tys : List (ClassId × FieldType)} {l : Launch} {y : MethodName} {wy wy' : List Cond} {rm : Room} {av : List Value} {post : Int64 → σ → Prop} {cc : ByteArray} {nL : Nat} {ret : Option FieldType} {own : String} (hy : plainName y.cls = true) (ho : y.cls = own) (hw : wy = Cond.code y cc nL ret :: wy') (hn : (lg_sl av).length ≤ nL)
    (body : ∀ (p : Program) (e : Env) (s : State) (m : MethodId) (args : Array Value) (below : List Frame) (meth : Method) (c : Code) (ls : Array Slot) (A : Nat → Prop), xr_Fx p m c meth cc nL s args wy own ret → xr_K D tys s → (∀ q, s.heap.size ≤ q → A q) → va_P D vwCl (wf S) s.heap → va_D A (wf S) → va_S A s.heap s.heap [] → lv_has ls nL (lv_args 0 av) → W p l e (headSpec wy rm).room s m args below meth c s.heap [] 0 0 (MQ below (va_Ql post (xr_B D tys wf A) A) args s 0 0 A) (F0 m 0 ls [])) : xr_L l D tys wf y wy rm av S post := by
  intro sz
  refine Met.ofW (cc := cc) (maxL := nL) (ret := ret) hy hw ?_
  intro p e s m args below meth c s₁ B hml hv
  obtain ⟨rfl, hsz, hP, hK, hD0⟩ := hv
  subst hsz
  have hl := lv_entry av (n := nL) hn
  rw [lg_entry_eq]
  subst ho
  exact body p e s m _ below meth c _ _ ⟨⟨B.exec, B.bytes, hml, findClass_of_methodNamed B.named, atoms_spec (ws := wy) B.pre⟩, B.returns, B.notSynchronized⟩ hK (fun q h => Or.inr h) hP hD0.self va_S.rf hl
theorem xr_eV {σ : Type} {wf : σ → va_W} {S : σ} {D : va_G} {tys : List (ClassId × FieldType)} {l : Launch} {y : MethodName} {wy wy' : List Cond} {rm : Room} {av : List Value} {post : σ → Prop} {cc : ByteArray} {nL : Nat} {ret : Option FieldType} {own : String} (hy : plainName y.cls = true) (ho : y.cls = own) (hw : wy = Cond.code y cc nL ret :: wy') (hn : (lg_sl av).length ≤ nL)
    (body : ∀ (p : Program) (e : Env) (s : State) (m : MethodId) (args : Array Value) (below : List Frame) (meth : Method) (c : Code) (ls : Array Slot) (A : Nat → Prop), xr_Fx p m c meth cc nL s args wy own ret → xr_K D tys s → (∀ q, s.heap.size ≤ q → A q) → va_P D vwCl (wf S) s.heap → va_D A (wf S) → va_S A s.heap s.heap [] → lv_has ls nL (lv_args 0 av) → W p l e (headSpec wy rm).room s m args below meth c s.heap [] 0 0 (MQ below (va_Qv post (xr_B D tys wf A) A) args s 0 0 A) (F0 m 0 ls [])) : xr_V l D tys wf y wy rm av S post := by
  intro sz
  refine Met.ofW (cc := cc) (maxL := nL) (ret := ret) hy hw ?_
  intro p e s m args below meth c s₁ B hml hv
  obtain ⟨rfl, hsz, hP, hK, hD0⟩ := hv
  subst hsz
  have hl := lv_entry av (n := nL) hn
  rw [lg_entry_eq]
  subst ho
  exact body p e s m _ below meth c _ _ ⟨⟨B.exec, B.bytes, hml, findClass_of_methodNamed B.named, atoms_spec (ws := wy) B.pre⟩, B.returns, B.notSynchronized⟩ hK (fun q h => Or.inr h) hP hD0.self va_S.rf hl
