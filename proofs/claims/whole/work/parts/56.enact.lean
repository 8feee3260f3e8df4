/-! contracts of methods that may make the row 'rows'; enact's entry -/
def xr_IA {σ : Type} (l : Launch) (D : va_G) (tys : List (ClassId × FieldType)) (wf : σ → va_W) (y : MethodName) (wy : List Cond) (rm : Room) (av : List Value) (S : σ) (post : Int32 → σ → Prop) (mc ms : Nat) : Prop := ∀ sz : Nat, Met l y wy rm (xr_P D tys wf S sz av) (va_Qi post (xr_B D tys wf (va_A (wf S) sz)) (va_A (wf S) sz)) mc ms (va_A (wf S) sz)
theorem xr_eIA {σ : Type} {wf : σ → va_W} {S : σ} {D : va_G} {tys : List (ClassId × FieldType)} {l : Launch} {y : MethodName} {wy wy' : List Cond} {rm : Room} {av : List Value} {post : Int32 → σ → Prop} {cc : ByteArray} {nL mc ms : Nat} {ret : Option FieldType} {own : String} (hy : plainName y.cls = true) (ho : y.cls = own) (hw : wy = Cond.code y cc nL ret :: wy') (hn : (lg_sl av).length ≤ nL)
    (body : ∀ (p : Program) (e : Env) (s : State) (m : MethodId) (args : Array Value) (below : List Frame) (meth : Method) (c : Code) (ls : Array Slot) (A : Nat → Prop), xr_Fx p m c meth cc nL s args wy own ret → xr_K D tys s → (∀ q, s.heap.size ≤ q → A q) → va_P D vwCl (wf S) s.heap → va_D A (wf S) → va_S A s.heap s.heap [] → lv_has ls nL (lv_args 0 av) → W p l e (headSpec wy rm).room s m args below meth c s.heap [] 0 0 (MQ below (va_Qi post (xr_B D tys wf A) A) args s mc ms A) (F0 m 0 ls [])) : xr_IA l D tys wf y wy rm av S post mc ms := by
  intro sz
  refine Met.ofW (cc := cc) (maxL := nL) (ret := ret) hy hw ?_
  intro p e s m args below meth c s₁ B hml hv
  obtain ⟨rfl, hsz, hP, hK, hD0⟩ := hv
  subst hsz
  have hl := lv_entry av (n := nL) hn
  rw [lg_entry_eq]
  subst ho
  exact body p e s m _ below meth c _ _ ⟨⟨B.exec, B.bytes, hml, findClass_of_methodNamed B.named, atoms_spec (ws := wy) B.pre⟩, B.returns, B.notSynchronized⟩ hK (fun q h => Or.inr h) hP hD0.self va_S.rf hl
section XA
variable {p : Program} {l : Launch} {e : Env} {R : Room} {s : State} {m : MethodId} {args : Array Value} {below : List Frame} {meth : Method} {c : Code} {H : Heap} {locs : List Loc} {cells slots : Nat} {Q : State → Prop}
variable {cc : ByteArray} {pc : Nat} {ls : Array Slot} {rest : List Value} {D : va_G} {A : Nat → Prop} {tys : List (ClassId × FieldType)} {nL : Nat} {Ts : List Cond} {own : String} {ret : Option FieldType}
variable {y : MethodName} {bytes : ByteArray} {maxL n index : Nat} {rt : Option FieldType} {wy wy' : List Cond} {rm : Room} {C : String} {b : Addr} {As : List Value}
theorem xr_vIA {σ : Type} {wf : σ → va_W} {S : σ} {mc ms : Nat} {post : Int32 → σ → Prop} (fx : xr_Fx p m c meth cc nL s args Ts own ret) (hM : xr_IA l D tys wf y wy rm (.ref b :: As) S post mc ms) (hG : GoodIn Ts (wsV own index C y wy)) (hw : wy = Cond.code y bytes maxL rt :: wy') (hn : As.length = n) (hd : y.cls = C ∧ y.cls ≠ "java/lang/invoke/MethodHandle" ∧ y.cls ≠ "java/lang/invoke/VarHandle" ∧ (parseMethodDescriptor y.desc).map (fun d => d.parameters.length) = some n) (hR : rm.frames + 1 ≤ R.frames ∧ 8 + (maxL + 11) + rm.locals ≤ R.locals) (hrc : rm.cells = mc ∧ rm.slots = ms) (hf : cells + mc ≤ R.cells ∧ slots + ms ≤ R.slots)
    (hrv : ∃ cell : Cell, H[b]? = some cell ∧ cell.vm.isStatics = false ∧ s.vm.findClass C = some cell.cls) (hK : xr_K D tys s) (hP : va_P D vwCl (wf S) H) (hD : va_D A (wf S)) (hS : va_S A s.heap H locs) (hA : ∀ q, s.heap.size ≤ q → A q) (hl : ls.size = nL) {st0 : List Value} (hst : st0 = As.reverse ++ .ref b :: rest) (hrm : (rest.map fun v => v.category).sum ≤ 8) (hdg : decode cc pc = .ok (.invokevirtual index, 3))
    (kk : ∀ (r : Int32) (S1 : σ) (H1 : Heap) (locs1 : List Loc), post r S1 → va_P D vwCl (wf S1) H1 → va_D A (wf S1) → va_S A s.heap H1 locs1 → W p l e R s m args below meth c H1 locs1 (cells + mc) (slots + ms) Q (F0 m (pc + 3) ls (.int r :: rest))) : W p l e R s m args below meth c H locs cells slots Q (F0 m pc ls st0) := by
  obtain ⟨⟨hx, hb, hml, hown, hts⟩, -, -⟩ := fx
  have hFc := xr_free hD hS hA
  refine va_calli (va_runV (As := As) (rest := rest) ⟨hx, hb, hml, hown, hts⟩ (hM H.size) (cwV n hts hG hw hrc.1 hrc.2 hd hR) ⟨xr_blind, hrv, xr_pre hK hP hD⟩ rfl hn hl hst (lv_room hrm) hdg hf) hS (fun q _ h => hFc q h) hFc (fun r u t H1 locs1 ht hvm hw1 hB hz1 hk1 hS1 => ?_)
  obtain ⟨hP1, hK1, hD1⟩ := hB
  rw [ht] at hP1
  exact kk r u H1 locs1 hw1 hP1 (hD1.weaken (fun _ q _ h => hFc q.1 h)) hS1
end XA
/-- the world when rows has been made -/
theorem cs_made {ad : Nat → Nat} {cI cR : ClassId} {Ln : Nat → Nat} {S : cs_T} {q : Nat} (hS : S.2.2 = none) : (cs_w ad cI cR Ln S ++ ([(q, .inl (cI, Ln 47, .inl (fun _ => 0)))] : va_W)).set 5 (ad 5, .inr (2, (cs_o5 ad S.1 S.2.2).set 9 (.ref q))) = cs_w ad cI cR Ln (S.1, va_up S.2.1 47 (fun _ => 0), some q) := by
  unfold cs_w
  rw [hS]
  show (((cs_hd ad cR S.1 none ++ cs_md ad cI Ln S.2.1) ++ []) ++ [(q, Sum.inl (cI, Ln 47, Sum.inl (fun _ => 0)))]).set 5 _ = (cs_hd ad cR S.1 (some q) ++ cs_md ad cI Ln (va_up S.2.1 47 (fun _ => 0))) ++ [(q, Sum.inl (cI, Ln 47, Sum.inl (va_up S.2.1 47 (fun _ => 0) 47)))]
  rw [va_up_self, List.append_nil]
  have h1 : cs_md ad cI Ln (va_up S.2.1 47 (fun _ => 0)) = cs_md ad cI Ln S.2.1 := by
    unfold cs_md
    apply List.map_congr_left
    intro k hk
    have : k < 47 := List.mem_range.mp hk
    rw [va_up_ne _ _ (show k ≠ 47 by omega)]
  rw [h1, List.set_append_left _ _ (by rw [List.length_append, cs_hdl]; omega), List.set_append_left _ _ (by rw [cs_hdl]; omega)]
  rfl
set_option maxHeartbeats 4000000 in
set_option maxRecDepth 100000 in
theorem ct_X2_enact (l : Launch) (D : va_G) (ad : Nat → Nat) (cI cJ cR : ClassId) (Ln : Nat → Nat) {S : cs_T} {a1 : Nat} {a2 : Int32} {Q : Int32 → cs_T → Prop} (h : wp_X2_enact Ln S a1 a2 Q) : xr_IA l D (cs_ty cI cJ cR) (cs_w ad cI cR Ln) yX2_enact wsX2_enact (rm_X2_enact (cs_mc S) (cs_ms Ln S)) [.ref (ad 5), .ref (ad (9 + a1)), .int a2] S Q (cs_mc S) (cs_ms Ln S) := by
  refine xr_eIA (cc := cX2_enact) (nL := 6) (ret := (some .int)) (own := RX2) (by decide) rfl rfl (Nat.le_of_ble_eq_true rfl) ?_
  intro p e s m args below meth c ls A fx hK hA hP hD hS hl
  have hl : lv_has ls 6 [(0, .ref (ad 5)), (1, .ref (ad (9 + a1))), (2, .int a2)] := hl
  show W p l e (rm_X2_enact (cs_mc S) (cs_ms Ln S)) s m args below meth c s.heap [] 0 0 _ _
  obtain ⟨⟨hx, hb, hml, hown, hts⟩, hrt, hlk⟩ := id fx
  refine lv_aload_n hx hb dX2_enact_0 rfl (lv_at hl 0 rfl) ?_
  rcases hq : S.2.2 with _ | q
  · obtain ⟨hi1, hi2, hi3, hi4, h⟩ := h.2 hq
    have hmc : cs_mc S = 1 := by unfold cs_mc; rw [hq]
    have hms : cs_ms Ln S = Ln 47 := by unfold cs_ms; rw [hq]
    rw [hmc, hms]
    refine cs_get 5 2 9 (v := .null) (ref := "BracketLetters$Laws") fx (by decide) rfl rfl in_X2_enact_X2 (by decide) (by show some (va_rf _) = some .null; rw [hq]; rfl) (by decide +kernel) rfl hK hP dX2_enact_1 ?_
    refine lv_ifnonnullN hx hb dX2_enact_4 ?_
    refine lv_aload_n hx hb dX2_enact_7 rfl (lv_at hl 0 rfl) ?_
    refine lv_aload_n hx hb dX2_enact_8 rfl (lv_at hl 0 rfl) ?_
    refine cs_get 5 2 5 (v := .ref (ad (9 + 42))) (ref := "BracketLetters$Laws") fx (by decide) rfl rfl in_X2_enact_X2 (by decide) rfl (by decide +kernel) rfl hK hP dX2_enact_9 ?_
    refine lv_aload_n hx hb dX2_enact_12 rfl (lv_at hl 0 rfl) ?_
    refine cs_get 5 2 2 (v := .ref (ad 1)) (ref := "BracketLetters$Laws") fx (by decide) rfl rfl in_X2_enact_X2 (by decide) rfl (by decide +kernel) rfl hK hP dX2_enact_13 ?_
    refine cs_get 1 5 1 (v := .int (S.1 3)) (ref := "BracketLetters$Words") fx (by decide) rfl rfl in_X2_enact_X6 (by decide) rfl (by decide +kernel) rfl hK hP dX2_enact_16 ?_
    refine lv_iconst (v := 1) hx hb dX2_enact_19 (by decide) ?_
    refine lv_iadd hx hb dX2_enact_20 ?_
    refine cs_iald 42 (by decide) fx hK hP hi1 dX2_enact_21 ?_
    have harr : (Cond.arrayClass (newarray.typeOf .int)).before args s = true := hts (.arrayClass .int) (by decide +kernel)
    refine va_newa (atype := .int) (ty := .int) (N' := Ln 47) (a0 := (Ln 47, .inl (fun _ => 0))) hx hb harr rfl hK.1 hP hD hS hA (fun cA => rfl) hi2 hi3 hi4 (by show 0 + 1 ≤ 1; omega) (by show 0 + Ln 47 ≤ Ln 47; omega) dX2_enact_22 (fun q cA H1 hK2 hP hD hS => ?_)
    have hcA : cA = cI := by
      have e1 : s.vm.findClass ("[" ++ FieldType.int.toString) = some cA := (hK2.2 3 (cA, .int) rfl).2
      have e2 : s.vm.findClass ("[" ++ FieldType.int.toString) = some cI := (hK.1.2 0 (cI, .int) rfl).2
      exact Option.some.inj (e1.symm.trans e2)
    subst hcA
    refine va_put (D := D) (ci := 2) (v := .ref q) (ty := .array .int) (C := RX2) (T := TX2) (N := 10) hx hb hts in_X2_enact_X2 tyX2 tyX2_ok nmX2 hown hK.1 hP hD hS 5 (fs := cs_o5 ad S.1 S.2.2) (by rw [List.getElem?_append_left (by unfold cs_w; rw [List.length_append, List.length_append, cs_hdl]; omega), cs_gH (by decide)]; rfl) rfl 9 (by decide) (hts (.fieldLink RX2 55 "BracketLetters$Laws" "rows" "[I") (by decide +kernel)) (fun _ h9 => h9) rfl (by decide +kernel) rfl rfl (Nat.le_of_ble_eq_true rfl) dX2_enact_24 (fun H locs hP hD hS => ?_)
    rw [cs_made hq] at hP hD
    refine W.widen (k := 1) (n := Ln 47) (by omega) (by omega) ?_
    exact kw_X2_enact_27 fx hK hA hP hD hS (lv_sub hl [0, 1, 2] rfl) (h q)
  · have h := h.1 q hq
    have hmc : cs_mc S = 0 := by unfold cs_mc; rw [hq]
    have hms : cs_ms Ln S = 0 := by unfold cs_ms; rw [hq]
    rw [hmc, hms]
    refine cs_get 5 2 9 (v := .ref q) (ref := "BracketLetters$Laws") fx (by decide) rfl rfl in_X2_enact_X2 (by decide) (by show some (va_rf _) = some (.ref q); rw [hq]; rfl) (by decide +kernel) rfl hK hP dX2_enact_1 ?_
    refine lv_ifnonnull (tgt := 27) hx hb dX2_enact_4 (by decide) ?_
    exact kw_X2_enact_27 fx hK hA hP hD hS (lv_sub hl [0, 1, 2] rfl) h
