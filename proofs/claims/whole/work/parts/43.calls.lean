/-! more rows for calls: answers that are int arrays (told by their index), static methods with the world, static void ones without -/
def xr_BR (D : va_G) (tys : List (ClassId × FieldType)) (wf : cs_T → va_W) (ad : Nat → Nat) (A : Nat → Prop) : cs_T × Nat → Nat → State → Prop := fun u a t => a = ad (9 + u.2) ∧ xr_B D tys wf A u.1 t
def xr_R (l : Launch) (D : va_G) (tys : List (ClassId × FieldType)) (wf : cs_T → va_W) (ad : Nat → Nat) (y : MethodName) (wy : List Cond) (rm : Room) (av : List Value) (S : cs_T) (post : Nat → cs_T → Prop) : Prop := ∀ sz : Nat, Met l y wy rm (xr_P D tys wf S sz av) (va_Qr (fun u : cs_T × Nat => post u.2 u.1) (xr_BR D tys wf ad (va_A (wf S) sz)) (va_A (wf S) sz)) 0 0 (va_A (wf S) sz)
def xr_SV (l : Launch) (y : MethodName) (wy : List Cond) (rm : Room) (av : List Value) (post : Prop) : Prop := Met l y wy rm (va_Pc av (fun _ => True)) (va_Sv (fun _ => post)) 0 0 (fun _ => False)
section XS
variable {p : Program} {l : Launch} {e : Env} {R : Room} {s : State} {m : MethodId} {args : Array Value} {below : List Frame} {meth : Method} {c : Code} {H : Heap} {locs : List Loc} {cells slots : Nat} {Q : State → Prop}
variable {cc : ByteArray} {pc : Nat} {ls : Array Slot} {rest : List Value} {D : va_G} {A : Nat → Prop} {tys : List (ClassId × FieldType)} {nL : Nat} {Ts : List Cond} {own : String} {ret : Option FieldType}
variable {y : MethodName} {bytes : ByteArray} {maxL n index : Nat} {rt : Option FieldType} {wy wy' : List Cond} {rm : Room} {C : String} {b : Addr} {As : List Value}
theorem xr_vR {wf : cs_T → va_W} {S : cs_T} {ad : Nat → Nat} {post : Nat → cs_T → Prop} (fx : xr_Fx p m c meth cc nL s args Ts own ret) (hM : xr_R l D tys wf ad y wy rm (.ref b :: As) S post) (hG : GoodIn Ts (wsV own index C y wy)) (hw : wy = Cond.code y bytes maxL rt :: wy') (hn : As.length = n) (hd : y.cls = C ∧ y.cls ≠ "java/lang/invoke/MethodHandle" ∧ y.cls ≠ "java/lang/invoke/VarHandle" ∧ (parseMethodDescriptor y.desc).map (fun d => d.parameters.length) = some n) (hR : rm.frames + 1 ≤ R.frames ∧ 8 + (maxL + 11) + rm.locals ≤ R.locals) (hrc : rm.cells = 0 ∧ rm.slots = 0) (hf : cells ≤ R.cells ∧ slots ≤ R.slots)
    (hrv : ∃ cell : Cell, H[b]? = some cell ∧ cell.vm.isStatics = false ∧ s.vm.findClass C = some cell.cls) (hK : xr_K D tys s) (hP : va_P D vwCl (wf S) H) (hD : va_D A (wf S)) (hS : va_S A s.heap H locs) (hA : ∀ q, s.heap.size ≤ q → A q) (hl : ls.size = nL) {st0 : List Value} (hst : st0 = As.reverse ++ .ref b :: rest) (hrm : (rest.map fun v => v.category).sum ≤ 8) (hdg : decode cc pc = .ok (.invokevirtual index, 3))
    (kk : ∀ (k : Nat) (S1 : cs_T) (H1 : Heap) (locs1 : List Loc), post k S1 → va_P D vwCl (wf S1) H1 → va_D A (wf S1) → va_S A s.heap H1 locs1 → W p l e R s m args below meth c H1 locs1 cells slots Q (F0 m (pc + 3) ls (.ref (ad (9 + k)) :: rest))) : W p l e R s m args below meth c H locs cells slots Q (F0 m pc ls st0) := by
  obtain ⟨⟨hx, hb, hml, hown, hts⟩, -, -⟩ := fx
  have hFc := xr_free hD hS hA
  refine va_callr (va_runV (As := As) (rest := rest) ⟨hx, hb, hml, hown, hts⟩ (hM H.size) (cwV n hts hG hw hrc.1 hrc.2 hd hR) ⟨xr_blind, hrv, xr_pre hK hP hD⟩ rfl hn hl hst (lv_room hrm) hdg hf) hS (fun q _ h => hFc q h) hFc (fun u ra t H1 locs1 ht hvm hw1 hB hz1 hk1 hS1 => ?_)
  obtain ⟨rfl, hP1, hK1, hD1⟩ := hB
  rw [ht] at hP1
  exact kk u.2 u.1 H1 locs1 hw1 hP1 (hD1.weaken (fun _ q _ h => hFc q.1 h)) hS1
theorem xr_rR {wf : cs_T → va_W} {S : cs_T} {ad : Nat → Nat} {k : Nat} {post : Nat → cs_T → Prop} (fx : xr_Fx p m c meth cc nL s args Ts own (some (.array .int))) (hK : xr_K D tys s) (hP : va_P D vwCl (wf S) H) (hD : va_D A (wf S)) (hS : va_S A s.heap H locs) (hq : post k S) (hdg : decode cc pc = .ok (.areturn, 1)) : W p l e R s m args below meth c H locs cells slots (MQ below (va_Qr (fun u : cs_T × Nat => post u.2 u.1) (xr_BR D tys wf ad A) A) args s cells slots A) (F0 m pc ls [.ref (ad (9 + k))]) := by
  obtain ⟨⟨hx, hb, hml, hown, hts⟩, hr, hlk⟩ := fx
  exact W.aret hx hb hr (Or.inr ⟨_, rfl⟩) (Or.inr ⟨_, rfl⟩) (fun t ht hW => ⟨⟨(S, k), ad (9 + k), rfl, hq, rfl, by rw [ht]; exact hP, xr_K.warm hW hK, hD⟩, hS.F ht⟩) hS.2.2 hdg hlk
theorem xr_wV {σ : Type} {wf : σ → va_W} {S : σ} {post : σ → Prop} (fx : xr_Fx p m c meth cc nL s args Ts own ret) (hM : xr_V l D tys wf y wy rm As S post) (hG : GoodIn Ts (va_wsS own index y wy)) (hw : wy = Cond.code y bytes maxL rt :: wy') (hn : As.length = n) (hd : y.cls ≠ "java/lang/invoke/MethodHandle" ∧ y.cls ≠ "java/lang/invoke/VarHandle" ∧ (parseMethodDescriptor y.desc).map (fun d => d.parameters.length) = some n) (hR : rm.frames + 1 ≤ R.frames ∧ 8 + (maxL + 11) + rm.locals ≤ R.locals) (hrc : rm.cells = 0 ∧ rm.slots = 0) (hf : cells ≤ R.cells ∧ slots ≤ R.slots)
    (hK : xr_K D tys s) (hP : va_P D vwCl (wf S) H) (hD : va_D A (wf S)) (hS : va_S A s.heap H locs) (hA : ∀ q, s.heap.size ≤ q → A q) (hl : ls.size = nL) {st0 : List Value} (hst : st0 = As.reverse ++ rest) (hrm : (rest.map fun v => v.category).sum ≤ 8) (hdg : decode cc pc = .ok (.invokestatic index, 3))
    (kk : ∀ (S1 : σ) (H1 : Heap) (locs1 : List Loc), post S1 → va_P D vwCl (wf S1) H1 → va_D A (wf S1) → va_S A s.heap H1 locs1 → W p l e R s m args below meth c H1 locs1 cells slots Q (F0 m (pc + 3) ls rest)) : W p l e R s m args below meth c H locs cells slots Q (F0 m pc ls st0) := by
  obtain ⟨⟨hx, hb, hml, hown, hts⟩, -, -⟩ := fx
  have hFc := xr_free hD hS hA
  have ok : ∀ w ∈ va_wsS own index y wy, w.before args s = true := fun w h => hts w (hG w h).1
  refine va_callv (va_runS (As := As) (rest := rest) ⟨hx, hb, hml, hown, hts⟩ (hM H.size) ⟨callB_of n hts (fun w h => hG w (by unfold va_wsS; exact List.mem_append_right _ h)) hw hrc.1 hrc.2 (ok _ (by simp [va_wsS])) (ok _ (by simp [va_wsS])) hd hR, ok _ (by simp [va_wsS])⟩ ⟨xr_blind, xr_pre hK hP hD⟩ rfl hn hl hst (lv_room hrm) hdg hf) hS (fun q _ h => hFc q h) hFc (fun u t H1 locs1 ht hvm hw1 hB hz1 hk1 hS1 => ?_)
  obtain ⟨hP1, hK1, hD1⟩ := hB
  rw [ht] at hP1
  exact kk u H1 locs1 hw1 hP1 (hD1.weaken (fun _ q _ h => hFc q.1 h)) hS1
theorem xr_sV {post : Prop} (fx : xr_Fx p m c meth cc nL s args Ts own ret) (hM : xr_SV l y wy rm As post) (hG : GoodIn Ts (va_wsS own index y wy)) (hw : wy = Cond.code y bytes maxL rt :: wy') (hn : As.length = n) (hd : y.cls ≠ "java/lang/invoke/MethodHandle" ∧ y.cls ≠ "java/lang/invoke/VarHandle" ∧ (parseMethodDescriptor y.desc).map (fun d => d.parameters.length) = some n) (hR : rm.frames + 1 ≤ R.frames ∧ 8 + (maxL + 11) + rm.locals ≤ R.locals) (hrc : rm.cells = 0 ∧ rm.slots = 0) (hf : cells ≤ R.cells ∧ slots ≤ R.slots)
    (hl : ls.size = nL) {st0 : List Value} (hst : st0 = As.reverse ++ rest) (hrm : (rest.map fun v => v.category).sum ≤ 8) (hdg : decode cc pc = .ok (.invokestatic index, 3))
    (kk : post → W p l e R s m args below meth c H locs cells slots Q (F0 m (pc + 3) ls rest)) : W p l e R s m args below meth c H locs cells slots Q (F0 m pc ls st0) := by
  obtain ⟨⟨hx, hb, hml, hown, hts⟩, -, -⟩ := fx
  have ok : ∀ w ∈ va_wsS own index y wy, w.before args s = true := fun w h => hts w (hG w h).1
  exact va_csv (W.runS (As := As) (rest := rest) ⟨hx, hb, hml, hown, hts⟩ hM ⟨callB_of n hts (fun w h => hG w (by unfold va_wsS; exact List.mem_append_right _ h)) hw hrc.1 hrc.2 (ok _ (by simp [va_wsS])) (ok _ (by simp [va_wsS])) hd hR, ok _ (by simp [va_wsS])⟩ ⟨fun a U g mk q => ⟨q.1, trivial⟩, fun U hU hW => ⟨rfl, trivial⟩⟩ rfl hn hl hst (lv_room hrm) hdg hf) kk
/-- a static method of another class of the nest, private there -/
theorem xr_nI {post : Int32 → Prop} {host : String} (fx : xr_Fx p m c meth cc nL s args Ts own ret) (hM : xr_SI l y wy rm As post) (hG : GoodIn Ts wy) (hst1 : Cond.static y ∈ Ts) (hini : Cond.initialized y.cls ∈ Ts) (hnl : va_Nw (.methodLinkNest own index y host) s) (hw : wy = Cond.code y bytes maxL rt :: wy') (hn : As.length = n) (hd : y.cls ≠ "java/lang/invoke/MethodHandle" ∧ y.cls ≠ "java/lang/invoke/VarHandle" ∧ (parseMethodDescriptor y.desc).map (fun d => d.parameters.length) = some n) (hR : rm.frames + 1 ≤ R.frames ∧ 8 + (maxL + 11) + rm.locals ≤ R.locals) (hrc : rm.cells = 0 ∧ rm.slots = 0) (hf : cells ≤ R.cells ∧ slots ≤ R.slots)
    (hl : ls.size = nL) {st0 : List Value} (hst : st0 = As.reverse ++ rest) (hrm : (rest.map fun v => v.category).sum ≤ 8) (hdg : decode cc pc = .ok (.invokestatic index, 3))
    (kk : ∀ r : Int32, post r → W p l e R s m args below meth c H locs cells slots Q (F0 m (pc + 3) ls (.int r :: rest))) : W p l e R s m args below meth c H locs cells slots Q (F0 m pc ls st0) := by
  obtain ⟨⟨hx, hb, hml, hown, hts⟩, -, -⟩ := fx
  have hrun := va_runSN (As := As) (rest := rest) (R := R) (cells := cells) (slots := slots) (H := H) (locs := locs) (g := F0 m pc ls st0) (e := e) (below := below) (meth := meth) ⟨hx, hb, hml, hown, hts⟩ hM ⟨va_cnB n hts hG hw hrc.1 hrc.2 hnl (hts _ hini) hd hR, hts _ hst1, trivial⟩ ⟨fun a U g mk q => ⟨q.1, trivial⟩, fun U hU hW => ⟨rfl, trivial⟩⟩ rfl hn hl hst (lv_room hrm) hdg hf
  intro T hT X
  obtain ⟨v, st₀, t, T', L, h0, X', hL, e1, -, ⟨r, hv, hp, hh⟩, st⟩ := hrun T hT X
  cases hv
  obtain ⟨t2, a1, b1⟩ := kk r hp T' (by rw [e1, hh, h0]) (Stand.forget X' (fun q h => (hL q h).elim))
  exact ⟨t2, st t2 a1, b1⟩
theorem xr_rSV {post : Prop} (fx : xr_Fx p m c meth cc nL s args Ts own none) (hq : post) (hdg : decode cc pc = .ok (.return_, 1)) : W p l e R s m args below meth c s.heap [] cells slots (MQ below (va_Sv (fun _ => post)) args s cells slots (fun _ => False)) (F0 m pc ls []) := by
  obtain ⟨⟨hx, hb, hml, hown, hts⟩, hr, hlk⟩ := fx
  exact W.vret hx hb hr (fun t ht hW => ⟨rfl, hq, ht⟩) (fun q h => absurd h List.not_mem_nil) hdg hlk
end XS
theorem xr_eSV {l : Launch} {y : MethodName} {wy wy' : List Cond} {rm : Room} {av : List Value} {post : Prop} {cc : ByteArray} {nL : Nat} {ret : Option FieldType} {own : String} (hy : plainName y.cls = true) (ho : y.cls = own) (hw : wy = Cond.code y cc nL ret :: wy') (hn : (lg_sl av).length ≤ nL)
    (body : ∀ (p : Program) (e : Env) (s : State) (m : MethodId) (args : Array Value) (below : List Frame) (meth : Method) (c : Code) (ls : Array Slot), xr_Fx p m c meth cc nL s args wy own ret → lv_has ls nL (lv_args 0 av) → W p l e (headSpec wy rm).room s m args below meth c s.heap [] 0 0 (MQ below (va_Sv (fun _ => post)) args s 0 0 (fun _ => False)) (F0 m 0 ls [])) : xr_SV l y wy rm av post := by
  refine Met.ofW (cc := cc) (maxL := nL) (ret := ret) hy hw ?_
  intro p e s m args below meth c s₁ B hml hv
  obtain ⟨rfl, -⟩ := hv
  have hl := lv_entry av (n := nL) hn
  rw [lg_entry_eq]
  subst ho
  exact body p e s m _ below meth c _ ⟨⟨B.exec, B.bytes, hml, findClass_of_methodNamed B.named, atoms_spec (ws := wy) B.pre⟩, B.returns, B.notSynchronized⟩ hl
theorem xr_eR {wf : cs_T → va_W} {S : cs_T} {ad : Nat → Nat} {D : va_G} {tys : List (ClassId × FieldType)} {l : Launch} {y : MethodName} {wy wy' : List Cond} {rm : Room} {av : List Value} {post : Nat → cs_T → Prop} {cc : ByteArray} {nL : Nat} {ret : Option FieldType} {own : String} (hy : plainName y.cls = true) (ho : y.cls = own) (hw : wy = Cond.code y cc nL ret :: wy') (hn : (lg_sl av).length ≤ nL)
    (body : ∀ (p : Program) (e : Env) (s : State) (m : MethodId) (args : Array Value) (below : List Frame) (meth : Method) (c : Code) (ls : Array Slot) (A : Nat → Prop), xr_Fx p m c meth cc nL s args wy own ret → xr_K D tys s → (∀ q, s.heap.size ≤ q → A q) → va_P D vwCl (wf S) s.heap → va_D A (wf S) → va_S A s.heap s.heap [] → lv_has ls nL (lv_args 0 av) → W p l e (headSpec wy rm).room s m args below meth c s.heap [] 0 0 (MQ below (va_Qr (fun u : cs_T × Nat => post u.2 u.1) (xr_BR D tys wf ad A) A) args s 0 0 A) (F0 m 0 ls [])) : xr_R l D tys wf ad y wy rm av S post := by
  intro sz
  refine Met.ofW (cc := cc) (maxL := nL) (ret := ret) hy hw ?_
  intro p e s m args below meth c s₁ B hml hv
  obtain ⟨rfl, hsz, hP, hK, hD0⟩ := hv
  subst hsz
  have hl := lv_entry av (n := nL) hn
  rw [lg_entry_eq]
  subst ho
  exact body p e s m _ below meth c _ _ ⟨⟨B.exec, B.bytes, hml, findClass_of_methodNamed B.named, atoms_spec (ws := wy) B.pre⟩, B.returns, B.notSynchronized⟩ hK (fun q h => Or.inr h) hP hD0.self va_S.rf hl
/-- entries of methods of classes like java/lang/Math, of which some methods are run by the machine itself -/
theorem xr_ofWF {l : Launch} {y : MethodName} {ws ws' : List Cond} {rm : Room} {Pc : Array Value → State → Prop} {Qc : Array Value → State → Outcome → State → Prop} {mc ms : Nat} {free : Addr → Prop} {cc : ByteArray} {maxL : Nat} {ret : Option FieldType}
    (hy : plainFor y = true) (hw : ws = Cond.code y cc maxL ret :: ws')
    (body : ∀ p e s m args below meth c s₁, BodyLoose p l y (headSpec ws rm) cc maxL ret e s m args below meth c s₁ → c.maxLocals = maxL → Pc args s →
      W p l e (headSpec ws rm).room s m args below meth c s.heap [] 0 0 (MQ below Qc args s mc ms free) (entryFrame m args maxL)) : Met l y ws rm Pc Qc mc ms free := by
  refine MetFree.of_bodySF (code := cc) (maxLocals := maxL) (ret := ret) hy ?_ ?_
  · intro args s m h hn
    obtain ⟨meth, c, h1, h2, h3, h4, h5, h6, -, -⟩ := Cond.code_spec hn (atoms_spec (ws := ws) h _ (by rw [hw]; exact List.mem_cons_self))
    exact ⟨meth, c, h1, h2, h3, h4, h5, h6⟩
  · intro p e s m args below meth c s₁ B hml hP _
    have hh0 : s₁.heap = s.heap := by rw [B.state]; rfl
    obtain ⟨t, a1, o, b1, b2, b3⟩ := body p e s m args below meth c s₁ B hml hP s₁ hh0 (Stand.of_body B)
    exact ⟨t, o, a1, b1, b2, ⟨b3.1, b3.2⟩⟩
theorem xr_eSIF {l : Launch} {y : MethodName} {wy wy' : List Cond} {rm : Room} {av : List Value} {post : Int32 → Prop} {cc : ByteArray} {nL : Nat} {ret : Option FieldType} {own : String} (hy : plainFor y = true) (ho : y.cls = own) (hw : wy = Cond.code y cc nL ret :: wy') (hn : (lg_sl av).length ≤ nL)
    (body : ∀ (p : Program) (e : Env) (s : State) (m : MethodId) (args : Array Value) (below : List Frame) (meth : Method) (c : Code) (ls : Array Slot), xr_Fx p m c meth cc nL s args wy own ret → lv_has ls nL (lv_args 0 av) → W p l e (headSpec wy rm).room s m args below meth c s.heap [] 0 0 (MQ below (vp_Si post) args s 0 0 (fun _ => False)) (F0 m 0 ls [])) : xr_SI l y wy rm av post := by
  refine xr_ofWF (cc := cc) (maxL := nL) (ret := ret) hy hw ?_
  intro p e s m args below meth c s₁ B hml hv
  obtain ⟨rfl, -⟩ := hv
  have hl := lv_entry av (n := nL) hn
  rw [lg_entry_eq]
  subst ho
  exact body p e s m _ below meth c _ ⟨⟨B.exec, B.bytes, hml, findClass_of_methodNamed B.named, atoms_spec (ws := wy) B.pre⟩, B.returns, B.notSynchronized⟩ hl
