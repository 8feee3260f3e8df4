/-! constructors that make arrays of rows -/
theorem va_AOA.moved {ty : FieldType} {u U : State} (hvm : u.vm.Alike U.vm) (h : va_AOA ty u) : va_AOA ty U := by
  have h2 : (Cond.arrayOver (.array ty)).before #[] (u.setVm U.vm) = true := by rw [Cond.arrayOver_setVmC hvm]; exact h
  exact h2
def xr_PA (D : va_G) (tys : List (ClassId × FieldType)) (w1 : va_W) (sz : Nat) (av : List Value) : Array Value → State → Prop := fun a U => xr_P D tys (fun _ : Unit => w1) () sz av a U ∧ va_AOA .int U
section FA
variable {p : Program} {l : Launch} {e : Env} {R : Room} {s : State} {m : MethodId} {args : Array Value} {below : List Frame} {meth : Method} {c : Code} {H : Heap} {locs : List Loc} {cells slots : Nat} {Q : State → Prop}
variable {cc : ByteArray} {pc : Nat} {ls : Array Slot} {rest : List Value} {D : va_G} {A : Nat → Prop} {tys : List (ClassId × FieldType)} {nL : Nat} {Ts : List Cond} {own : String} {ret : Option FieldType}
variable {y : MethodName} {bytes : ByteArray} {maxL n index : Nat} {rt : Option FieldType} {wy wy' : List Cond} {rm : Room} {C : String} {b : Addr} {As : List Value}
theorem xr_ctorA {σ : Type} {wf : σ → va_W} {w1 w2 : va_W} {post : σ → Prop} {mc ms : Nat} (fx : xr_Fx p m c meth cc nL s args Ts own ret) (hAO : va_AOA .int s) (hM : ∀ sz, Met l y wy rm (xr_PA D tys w1 sz (.ref b :: As)) (va_Qv post (xr_B D tys wf (va_A w1 sz)) (va_A w1 sz)) mc ms (va_A w1 sz)) (hG : GoodIn Ts wy) (hw : wy = Cond.code y bytes maxL none :: wy') (hn : As.length = n) (hini : Cond.initialized y.cls ∈ Ts) (hlk : Cond.methodLink own index y ∈ Ts) (hin : Cond.instanceMethod y ∈ Ts) (hy1 : y.name = "<init>")
    (hd : y.cls ≠ "java/lang/invoke/MethodHandle" ∧ y.cls ≠ "java/lang/invoke/VarHandle" ∧ (parseMethodDescriptor y.desc).map (fun d => d.parameters.length) = some n) (hR : rm.frames + 1 ≤ R.frames ∧ 8 + (maxL + 11) + rm.locals ≤ R.locals) (hrc : rm.cells = mc ∧ rm.slots = ms) (hf : cells + mc ≤ R.cells ∧ slots + ms ≤ R.slots)
    (hK : xr_K D tys s) (hP : va_P D vwCl (w1 ++ w2) H) (hD : va_D A (w1 ++ w2)) (hS : va_S A s.heap H locs) (hA : ∀ q, s.heap.size ≤ q → A q) (hl : ls.size = nL) {st0 : List Value} (hst : st0 = As.reverse ++ .ref b :: rest) (hrm : (rest.map fun v => v.category).sum ≤ 8) (hdg : decode cc pc = .ok (.invokespecial index, 3))
    (kk : ∀ (u : σ) (H1 : Heap) (locs1 : List Loc), post u → va_P D vwCl (wf u ++ w2) H1 → va_D A (wf u ++ w2) → va_S A s.heap H1 locs1 → W p l e R s m args below meth c H1 locs1 (cells + mc) (slots + ms) Q (F0 m (pc + 3) ls rest)) : W p l e R s m args below meth c H locs cells slots Q (F0 m pc ls st0) := by
  obtain ⟨⟨hx, hb, hml, hown, hts⟩, -, -⟩ := fx
  have hFc := xr_free hD.l hS hA
  refine va_callv (va_runI (As := As) (rest := rest) ⟨hx, hb, hml, hown, hts⟩ (hM H.size) (cwI n hts hG hw hrc.1 hrc.2 (hts _ hini) (hts _ hlk) (hts _ hin) hy1 hd hR) ⟨fun a U g mk q => ⟨xr_blind a U g mk q.1, q.2⟩, fun U hU hW => ⟨xr_pre (S := ()) hK hP.l hD.l U hU hW, va_AOA.moved hW.alike hAO⟩⟩ rfl hn hl hst (lv_room hrm) hdg hf) hS (fun q _ h => hFc q h) hFc (fun u t H1 locs1 ht hvm hw1 hB hz1 hk1 hS1 => ?_)
  obtain ⟨hP1, hK1, hD1⟩ := hB
  rw [ht] at hP1
  obtain ⟨a1, a2⟩ := xr_frame hP.r hD hP1 hD1 hk1 hFc
  exact kk u H1 locs1 hw1 a1 a2 hS1
end FA
theorem xr_eCA {σ : Type} {wf : σ → va_W} {w1 : va_W} {D : va_G} {tys : List (ClassId × FieldType)} {l : Launch} {y : MethodName} {wy wy' : List Cond} {rm : Room} {av : List Value} {post : σ → Prop} {cc : ByteArray} {nL mc ms : Nat} {own : String} (hy : plainName y.cls = true) (ho : y.cls = own) (hi : y.name = "<init>") (hw : wy = Cond.code y cc nL none :: wy') (hn : (lg_sl av).length ≤ nL)
    (body : ∀ (p : Program) (e : Env) (s : State) (m : MethodId) (args : Array Value) (below : List Frame) (meth : Method) (c : Code) (ls : Array Slot) (A : Nat → Prop), xr_Fx p m c meth cc nL s args wy own none → meth.name = "<init>" → va_AOA .int s → xr_K D tys s → (∀ q, s.heap.size ≤ q → A q) → va_P D vwCl w1 s.heap → va_D A w1 → va_S A s.heap s.heap [] → lv_has ls nL (lv_args 0 av) → W p l e (headSpec wy rm).room s m args below meth c s.heap [] 0 0 (MQ below (va_Qv post (xr_B D tys wf A) A) args s mc ms A) (F0 m 0 ls [])) : ∀ sz, Met l y wy rm (xr_PA D tys w1 sz av) (va_Qv post (xr_B D tys wf (va_A w1 sz)) (va_A w1 sz)) mc ms (va_A w1 sz) := by
  intro sz
  refine Met.ofW (cc := cc) (maxL := nL) (ret := none) hy hw ?_
  intro p e s m args below meth c s₁ B hml hv
  obtain ⟨⟨rfl, hsz, hP, hK, hD0⟩, hAO⟩ := hv
  subst hsz
  have hl := lv_entry av (n := nL) hn
  rw [lg_entry_eq]
  subst ho
  have hnm : meth.name = "<init>" := by rw [← hi]; exact (name_of_methodNamed B.named B.method).1
  exact body p e s m _ below meth c _ _ ⟨⟨B.exec, B.bytes, hml, findClass_of_methodNamed B.named, atoms_spec (ws := wy) B.pre⟩, B.returns, B.notSynchronized⟩ hnm hAO hK (fun q h => Or.inr h) hP hD0.self va_S.rf hl
/-- new int[n][k]: the grid, then its rows -/
theorem xr_rows {D : va_G} {H : Heap} {X : va_W} {r : Nat → Nat} {N : Nat} {f : Nat → va_E} {e : va_E} (hP : va_P D vwCl (X ++ va_pl ([] ++ (List.range N).map r) (vr_up f ((List.range N).map r) e)) H) : va_P D vwCl (X ++ ((List.range N).map r).map (fun a => (a, e))) H := by
  have h := vr_rows (L := []) (l := (List.range N).map r) (f := f) (e := e) (fun _ _ => List.not_mem_nil)
  rw [← h] at hP
  exact hP
theorem xr_rowsD {A : Nat → Prop} {X : va_W} {r : Nat → Nat} {N : Nat} {f : Nat → va_E} {e : va_E} (hD : va_D A (X ++ va_pl ([] ++ (List.range N).map r) (vr_up f ((List.range N).map r) e))) : va_D A (X ++ ((List.range N).map r).map (fun a => (a, e))) := by
  have h := vr_rows (L := []) (l := (List.range N).map r) (f := f) (e := e) (fun _ _ => List.not_mem_nil)
  rw [← h] at hD
  exact hD
