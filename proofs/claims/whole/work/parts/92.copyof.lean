/-! Arrays.copyOf of the beginning of a row; a static method over a part of the world that answers a new row -/
abbrev rm_copyOf : Room := { frames := 2, cells := 1, slots := 98, locals := 80 }
def wcp (a N k : Nat) (f : Nat → Int32) (cI : ClassId) (q : Nat) : va_W := [(a, .inl (cI, N, .inl f)), (q, .inl (cI, k, .inl (va_cpy f (fun _ => 0) 0 0 k)))]
set_option maxHeartbeats 4000000 in
set_option maxRecDepth 100000 in
theorem ct_copyOf (l : Launch) (D : va_G) (cI cJ cR : ClassId) (a : Nat) {N k : Nat} {f : Nat → Int32} (hk : k < N) (hk98 : k ≤ 98) (hN : N ≤ 364) : ∀ sz, Met l yJ7_copyOf_59c91 wsJ7_copyOf_59c91 rm_copyOf (xr_P D (cs_ty cI cJ cR) (fun _ : Unit => [(a, .inl (cI, N, .inl f))]) () sz [.ref a, .int (nI k)]) (va_Qr (fun _ : Unit => True) (fun _ q t => xr_B D (cs_ty cI cJ cR) (wcp a N k f cI) (va_A [(a, .inl (cI, N, .inl f))] sz) q t) (va_A [(a, .inl (cI, N, .inl f))] sz)) 1 98 (va_A [(a, .inl (cI, N, .inl f))] sz) := by
  intro sz
  refine Met.ofW (cc := cJ7_copyOf_59c91) (maxL := 3) (ret := (some (.array .int))) (by decide) rfl ?_
  intro p e s m args below meth c s₁ B hml hv
  obtain ⟨rfl, hsz, hP, hK, hD0⟩ := hv
  subst hsz
  have hx := B.exec
  have hb := B.bytes
  have hrt := B.returns
  have hts := atoms_spec (ws := wsJ7_copyOf_59c91) B.pre
  have hown : s.vm.findClass RJ7 = some m.cls := findClass_of_methodNamed B.named
  have hlk := B.notSynchronized
  have hD := hD0.self (sz := s.heap.size)
  have hA : ∀ q : Nat, s.heap.size ≤ q → va_A [(a, .inl (cI, N, .inl f))] s.heap.size q := fun q h => Or.inr h
  generalize va_A [(a, .inl (cI, N, .inl f))] s.heap.size = A at hD hA ⊢
  have hS : va_S A s.heap s.heap [] := va_S.rf
  have hl := lv_entry [.ref a, .int (nI k)] (n := 3) (Nat.le_of_ble_eq_true rfl)
  rw [lg_entry_eq]
  generalize (lg_sl [.ref a, .int (nI k)] ++ List.replicate (3 - (lg_sl [.ref a, .int (nI k)]).length) Slot.unset).toArray = ls at hl ⊢
  have hl : lv_has ls 3 [(0, .ref a), (1, .int (nI k))] := hl
  show W p l e rm_copyOf s m _ below meth c s.heap [] 0 0 _ _
  have hP : va_P D vwCl [(a, .inl (cI, N, .inl f))] s.heap := hP
  have hD : va_D A [(a, .inl (cI, N, .inl f))] := hD
  refine lv_iload_n hx hb dJ7_copyOf_59c91_0 rfl (lv_at hl 1 rfl) ?_
  refine lv_aload_n hx hb dJ7_copyOf_59c91_1 rfl (lv_at hl 0 rfl) ?_
  refine va_alen hx hb hK.1 hP 0 0 rfl rfl rfl dJ7_copyOf_59c91_2 ?_
  refine lv_icmp_ne (tgt := 14) hx hb dJ7_copyOf_59c91_3 (by decide) (fun c3 => ?_) (fun c3 => absurd ((nI_eq (a := k) (b := N) (by omega) (by omega)).mp c3) (by omega))
  refine lv_iload_n hx hb dJ7_copyOf_59c91_14 rfl (lv_at hl 1 rfl) ?_
  refine va_newa (atype := .int) (ty := .int) (N' := k) (a0 := (k, .inl (fun _ => 0))) hx hb (hts (.arrayClass .int) (by decide +kernel)) rfl hK.1 hP hD hS hA (fun cA => rfl) (nI_pos (by omega)) (nI_clamp (by omega)) (by show k * 4 ≤ 536870912; omega) (by show 0 + 1 ≤ 1; omega) (by show 0 + k ≤ 98; omega) dJ7_copyOf_59c91_15 (fun q cA H hK2 hP hD hS => ?_)
  have hcA : cA = cI := Option.some.inj ((hK2.2 3 (cA, .int) rfl).2.symm.trans (hK.1.2 0 (cI, .int) rfl).2)
  rw [hcA] at hP hD
  clear hK2 hcA
  have hP : va_P D vwCl [(a, .inl (cI, N, .inl f)), (q, .inl (cI, k, .inl (fun _ => 0)))] H := hP
  have hD : va_D A [(a, .inl (cI, N, .inl f)), (q, .inl (cI, k, .inl (fun _ => 0)))] := hD
  refine W.widen (k := 1) (n := 98) (by omega) (by omega) ?_
  refine lv_astore_n (lv' := [(2, .ref q), (0, .ref a), (1, .int (nI k))]) hx hb dJ7_copyOf_59c91_17 rfl hl (by decide) rfl (fun ls hl => ?_)
  refine lv_aload_n hx hb dJ7_copyOf_59c91_18 rfl (lv_at hl 1 rfl) ?_
  refine lv_iconst (v := 0) hx hb dJ7_copyOf_59c91_19 (by decide) ?_
  refine lv_aload_n hx hb dJ7_copyOf_59c91_20 rfl (lv_at hl 0 rfl) ?_
  refine lv_iconst (v := 0) hx hb dJ7_copyOf_59c91_21 (by decide) ?_
  refine lv_aload_n hx hb dJ7_copyOf_59c91_22 rfl (lv_at hl 1 rfl) ?_
  refine va_alen hx hb hK.1 hP 0 0 rfl rfl rfl dJ7_copyOf_59c91_23 ?_
  refine lv_iload_n hx hb dJ7_copyOf_59c91_24 rfl (lv_at hl 2 rfl) ?_
  refine va_mmin hx hb (hml.trans hl.1.symm) hown (hts (.methodLink RJ7 304 Lib.Math.min.name) (by decide +kernel)) (hts (.static Lib.Math.min.name) (by decide +kernel)) (hts (.initialized "java/lang/Math") (by decide +kernel)) (hts (.code Lib.Math.min.name Lib.Math.min.code 2 (some .int)) (by decide +kernel)) (Nat.le_of_ble_eq_true rfl) (Nat.le_of_ble_eq_true rfl) (Nat.le_of_ble_eq_true rfl) (Nat.le_of_ble_eq_true rfl) dJ7_copyOf_59c91_25 ?_
  have hlt : nI k < nI N := nI_lt hk (by omega)
  have hmin : (if nI k < Int32.ofNat N then nI k else Int32.ofNat N) = nI k := if_pos hlt
  rw [hmin]
  have hck : (nI k).toNatClampNeg = k := nI_clamp (by omega)
  have h0 : ((0 : Int32)).toNatClampNeg = 0 := by decide
  refine va_copyi hx hb (hml.trans hl.1.symm) hown (hts (.methodLink RJ7 150 arraycopyName) (by decide +kernel)) (hts (.native arraycopyName) (by decide +kernel)) (hts (.static arraycopyName) (by decide +kernel)) (hts (.initialized "java/lang/System") (by decide +kernel)) hK.1 hP hD hS 0 1 0 0 rfl rfl rfl rfl rfl (by decide) (by decide) (nI_pos (by omega)) (by rw [hck, h0]; omega) (by rw [hck, h0]; omega) (fun i _ => rfl) (Nat.le_of_ble_eq_true rfl) (Nat.le_of_ble_eq_true rfl) dJ7_copyOf_59c91_28 (fun H locs hP hD hS => ?_)
  rw [hck, h0] at hP hD
  refine lv_aload_n hx hb dJ7_copyOf_59c91_31 rfl (lv_at hl 0 rfl) ?_
  exact W.aret hx hb hrt (Or.inr ⟨_, rfl⟩) (Or.inr ⟨_, rfl⟩) (fun t ht hW => ⟨⟨(), q, rfl, trivial, by rw [ht]; exact hP, xr_K.warm hW hK, hD⟩, hS.F ht⟩) hS.2.2 dJ7_copyOf_59c91_32 hlk
section UR
variable {p : Program} {l : Launch} {e : Env} {R : Room} {s : State} {m : MethodId} {args : Array Value} {below : List Frame} {meth : Method} {c : Code} {H : Heap} {locs : List Loc} {cells slots : Nat} {Q : State → Prop}
variable {cc : ByteArray} {pc : Nat} {ls : Array Slot} {rest : List Value} {D : va_G} {A : Nat → Prop} {tys : List (ClassId × FieldType)} {nL : Nat} {Ts : List Cond} {own : String} {ret : Option FieldType}
variable {y : MethodName} {bytes : ByteArray} {maxL n index : Nat} {rt : Option FieldType} {wy wy' : List Cond} {rm : Room} {As : List Value}
theorem xr_uR {wf : Nat → va_W} {w1 w2 : va_W} {mc ms : Nat} (fx : xr_Fx p m c meth cc nL s args Ts own ret) (hM : ∀ sz, Met l y wy rm (xr_P D tys (fun _ : Unit => w1) () sz As) (va_Qr (fun _ : Unit => True) (fun _ q t => xr_B D tys wf (va_A w1 sz) q t) (va_A w1 sz)) mc ms (va_A w1 sz)) (hG : GoodIn Ts (va_wsS own index y wy)) (hw : wy = Cond.code y bytes maxL rt :: wy') (hn : As.length = n) (hd : y.cls ≠ "java/lang/invoke/MethodHandle" ∧ y.cls ≠ "java/lang/invoke/VarHandle" ∧ (parseMethodDescriptor y.desc).map (fun d => d.parameters.length) = some n) (hR : rm.frames + 1 ≤ R.frames ∧ 8 + (maxL + 11) + rm.locals ≤ R.locals) (hrc : rm.cells = mc ∧ rm.slots = ms) (hf : cells + mc ≤ R.cells ∧ slots + ms ≤ R.slots)
    (hK : xr_K D tys s) (hP : va_P D vwCl (w1 ++ w2) H) (hD : va_D A (w1 ++ w2)) (hS : va_S A s.heap H locs) (hA : ∀ q, s.heap.size ≤ q → A q) (hl : ls.size = nL) {st0 : List Value} (hst : st0 = As.reverse ++ rest) (hrm : (rest.map fun v => v.category).sum ≤ 8) (hdg : decode cc pc = .ok (.invokestatic index, 3))
    (kk : ∀ (q : Nat) (H1 : Heap) (locs1 : List Loc), va_P D vwCl (wf q ++ w2) H1 → va_D A (wf q ++ w2) → va_S A s.heap H1 locs1 → W p l e R s m args below meth c H1 locs1 (cells + mc) (slots + ms) Q (F0 m (pc + 3) ls (.ref q :: rest))) : W p l e R s m args below meth c H locs cells slots Q (F0 m pc ls st0) := by
  obtain ⟨⟨hx, hb, hml, hown, hts⟩, -, -⟩ := fx
  have hFc := xr_free hD.l hS hA
  have ok : ∀ w ∈ va_wsS own index y wy, w.before args s = true := fun w h => hts w (hG w h).1
  refine va_callr (va_runS (As := As) (rest := rest) ⟨hx, hb, hml, hown, hts⟩ (hM H.size) ⟨callB_of n hts (fun w h => hG w (by unfold va_wsS; exact List.mem_append_right _ h)) hw hrc.1 hrc.2 (ok _ (by simp [va_wsS])) (ok _ (by simp [va_wsS])) hd hR, ok _ (by simp [va_wsS])⟩ ⟨xr_blind, xr_pre (S := ()) hK hP.l hD.l⟩ rfl hn hl hst (lv_room hrm) hdg hf) hS (fun q _ h => hFc q h) hFc (fun u q t H1 locs1 ht hvm hw1 hB hz1 hk1 hS1 => ?_)
  obtain ⟨hP1, hK1, hD1⟩ := hB
  rw [ht] at hP1
  obtain ⟨a1, a2⟩ := xr_frame hP.r hD hP1 hD1 hk1 hFc
  exact kk q H1 locs1 a1 a2 hS1
end UR
