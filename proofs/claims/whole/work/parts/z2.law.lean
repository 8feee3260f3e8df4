/-! the law: its state -/
theorem sw_P {D : va_G} {cl : List vw_C} {w1 w2 : va_W} {H : Heap} (h : va_P D cl (w1 ++ w2) H) : va_P D cl (w2 ++ w1) H := h.r.app h.l
theorem sw_D {A : Nat → Prop} {w1 w2 : va_W} (h : va_D A (w1 ++ w2)) : va_D A (w2 ++ w1) := h.r.app h.l (fun i j p q hi hj e => h.x hj hi e.symm)
section FA
variable {p : Program} {l : Launch} {e : Env} {R : Room} {s : State} {m : MethodId} {args : Array Value} {below : List Frame} {meth : Method} {c : Code} {H : Heap} {locs : List Loc} {cells slots : Nat} {Q : State → Prop}
variable {cc : ByteArray} {pc : Nat} {ls : Array Slot} {rest : List Value} {D : va_G} {A : Nat → Prop} {tys : List (ClassId × FieldType)} {nL : Nat} {Ts : List Cond} {own : String} {ret : Option FieldType}
variable {y : MethodName} {bytes : ByteArray} {maxL n index : Nat} {rt : Option FieldType} {wy wy' : List Cond} {rm : Room} {C : String} {b : Addr} {As : List Value}
/-- an instance method over a part of the world that makes cells, its answer an int -/
theorem xr_uIA {σ : Type} {wf : σ → va_W} {S : σ} {w2 : va_W} {post : Int32 → σ → Prop} {mc ms : Nat} (fx : xr_Fx p m c meth cc nL s args Ts own ret) (hM : xr_IA l D tys wf y wy rm (.ref b :: As) S post mc ms) (hG : GoodIn Ts (wsV own index C y wy)) (hw : wy = Cond.code y bytes maxL rt :: wy') (hn : As.length = n) (hd : y.cls = C ∧ y.cls ≠ "java/lang/invoke/MethodHandle" ∧ y.cls ≠ "java/lang/invoke/VarHandle" ∧ (parseMethodDescriptor y.desc).map (fun d => d.parameters.length) = some n) (hR : rm.frames + 1 ≤ R.frames ∧ 8 + (maxL + 11) + rm.locals ≤ R.locals) (hrc : rm.cells = mc ∧ rm.slots = ms) (hf : cells + mc ≤ R.cells ∧ slots + ms ≤ R.slots)
    (hrv : ∃ cell : Cell, H[b]? = some cell ∧ cell.vm.isStatics = false ∧ s.vm.findClass C = some cell.cls) (hK : xr_K D tys s) (hP : va_P D vwCl (wf S ++ w2) H) (hD : va_D A (wf S ++ w2)) (hS : va_S A s.heap H locs) (hA : ∀ q, s.heap.size ≤ q → A q) (hl : ls.size = nL) {st0 : List Value} (hst : st0 = As.reverse ++ .ref b :: rest) (hrm : (rest.map fun v => v.category).sum ≤ 8) (hdg : decode cc pc = .ok (.invokevirtual index, 3))
    (kk : ∀ (r : Int32) (S1 : σ) (H1 : Heap) (locs1 : List Loc), post r S1 → va_P D vwCl (wf S1 ++ w2) H1 → va_D A (wf S1 ++ w2) → va_S A s.heap H1 locs1 → W p l e R s m args below meth c H1 locs1 (cells + mc) (slots + ms) Q (F0 m (pc + 3) ls (.int r :: rest))) : W p l e R s m args below meth c H locs cells slots Q (F0 m pc ls st0) := by
  obtain ⟨⟨hx, hb, hml, hown, hts⟩, -, -⟩ := fx
  have hFc := xr_free hD.l hS hA
  refine va_calli (va_runV (As := As) (rest := rest) ⟨hx, hb, hml, hown, hts⟩ (hM H.size) (cwV n hts hG hw hrc.1 hrc.2 hd hR) ⟨xr_blind, hrv, xr_pre hK hP.l hD.l⟩ rfl hn hl hst (lv_room hrm) hdg hf) hS (fun q _ h => hFc q h) hFc (fun r u t H1 locs1 ht hvm hw1 hB hz1 hk1 hS1 => ?_)
  obtain ⟨hP1, hK1, hD1⟩ := hB
  rw [ht] at hP1
  obtain ⟨a1, a2⟩ := xr_frame hP.r hD hP1 hD1 hk1 hFc
  exact kk r u H1 locs1 hw1 a1 a2 hS1
end FA
/-- what the law knows all the time -/
def lw_Fx (p : Program) (s : State) (m : MethodId) (meth : Method) (c : Code) (b N : Nat) (xs : Nat → Int32) (D : va_G) (cI cJ cR : ClassId) : Prop := xr_Fx p m c meth cL_law 4 s #[Value.ref b] wsL_law RL ret ∧ va_X b N xs s s.heap ∧ b < s.heap.size ∧ xr_K D (cs_ty cI cJ cR) s
/-- the law's state: both worlds, and the one state that both stand for -/
def lw_St (La d : Nat) (D : va_G) (cI cJ cR : ClassId) (s : State) (A : AS) (adx adm : Nat → Nat) (H : Heap) (locs : List Loc) (cells slots : Nat) (Sc : cs_T) (Sm : ms_T) : Prop :=
  va_P D vwCl (cs_w adx cI cR (csLn La d) Sc ++ ms_w adm cI cJ Sm) H ∧ va_D (fun q : Nat => s.heap.size ≤ q) (cs_w adx cI cR (csLn La d) Sc ++ ms_w adm cI cJ Sm) ∧ va_S (fun q : Nat => s.heap.size ≤ q) s.heap H locs ∧ CR La d (csLn La d) A Sc ∧ MR La d A Sm ∧ cells + mcA A.2.2.1.1 ≤ 100 ∧ slots + msA (csLn La d) A.2.2.1.1 ≤ 200000
theorem room_ok {k n : Nat} (h1 : k ≤ 100) (h2 : n ≤ 200000) : k ≤ room_1.cells ∧ n ≤ room_1.slots := ⟨Nat.le_trans h1 (Nat.le_of_ble_eq_true rfl), Nat.le_trans h2 (Nat.le_of_ble_eq_true rfl)⟩
