/-! the law's cell -/
abbrev rm_cell : Room := { frames := 1, cells := 0, slots := 0, locals := 0 }
def cellV (N : Nat) (xs : Nat → Int32) (k : Int32) : Int32 := if Int32.ofNat N ≤ k then 0 else xs k.toNatClampNeg
section ZC
set_option maxHeartbeats 4000000 in
theorem ct_cell (l : Launch) (b N : Nat) (xs : Nat → Int32) (hN : N < 2 ^ 31) {k : Int32} (hk : 0 ≤ k) : Met l yL_cell wsL_cell rm_cell (va_Pc [.ref b, .int k] (fun U => va_X b N xs U U.heap ∧ b < U.heap.size)) (vp_Si (fun r => r = cellV N xs k)) 0 0 (fun _ => False) := by
  refine Met.ofW (cc := cL_cell) (maxL := 2) (ret := some .int) (by decide) rfl ?_
  intro p e s m args below meth c s₁ B hml hv
  obtain ⟨rfl, hX, hbl⟩ := hv
  have hl := lv_entry [.ref b, .int k] (n := 2) (Nat.le_of_ble_eq_true rfl)
  rw [lg_entry_eq]
  generalize (lg_sl ([Value.ref b, Value.int k]) ++ List.replicate (2 - (lg_sl ([Value.ref b, Value.int k])).length) Slot.unset).toArray = ls at hl ⊢
  have hl : lv_has ls 2 [(0, .ref b), (1, .int k)] := hl
  have hx := B.exec
  have hb := B.bytes
  have fx : xr_Fx p m c meth cL_cell 2 s #[Value.ref b, Value.int k] wsL_cell RL (some .int) := ⟨⟨B.exec, B.bytes, hml, findClass_of_methodNamed B.named, atoms_spec (ws := wsL_cell) B.pre⟩, B.returns, B.notSynchronized⟩
  have hS : va_S (fun _ : Nat => False) s.heap s.heap [] := va_S.rf
  have hbA : ¬ (fun _ : Nat => False) b := fun z => z
  refine lv_iload_n hx hb dL_cell_0 rfl (lv_at hl 1 rfl) ?_
  refine lv_aload_n hx hb dL_cell_1 rfl (lv_at hl 0 rfl) ?_
  refine va_slen hx hb hX hbl hbA hS dL_cell_2 ?_
  refine lv_icmp_ge (tgt := 12) hx hb dL_cell_3 (by decide) (fun c0 => ?_) (fun c0 => ?_)
  · refine lv_iconst (v := 0) hx hb dL_cell_12 (by decide) ?_
    exact xr_rSI fx (by unfold cellV; rw [if_pos c0]) dL_cell_13
  · have hin : vp_in k N := by
      obtain ⟨j, hj, rfl⟩ := nI_of (x := k) (fun z => by
        rw [i32_lt] at z
        rw [i32_le] at hk
        omega)
      refine vp_in_nI ?_ hN
      rcases Nat.lt_or_ge j N with q | q
      · exact q
      · exact absurd (show nI N ≤ nI j from nI_le q hj) c0
    refine lv_aload_n hx hb dL_cell_6 rfl (lv_at hl 0 rfl) ?_
    refine lv_iload_n hx hb dL_cell_7 rfl (lv_at hl 1 rfl) ?_
    refine va_sld hx hb hX hbl hbA hS hin dL_cell_8 ?_
    refine lv_goto (tgt := 13) hx hb dL_cell_9 (by decide) ?_
    exact xr_rSI fx (by unfold cellV; rw [if_neg c0]) dL_cell_13
end ZC
section ZD
variable {p : Program} {l : Launch} {e : Env} {R : Room} {s : State} {m : MethodId} {args : Array Value} {below : List Frame} {meth : Method} {c : Code} {H : Heap} {locs : List Loc} {cells slots : Nat} {Q : State → Prop}
variable {cc : ByteArray} {pc : Nat} {ls : Array Slot} {rest : List Value} {A : Nat → Prop} {nL : Nat} {Ts : List Cond} {own : String} {ret : Option FieldType} {index : Nat}
theorem lw_cell {b N : Nat} {xs : Nat → Int32} {k : Int32} (fx : xr_Fx p m c meth cc nL s args Ts own ret) (hN : N < 2 ^ 31) (hk : 0 ≤ k) (hX : va_X b N xs s s.heap) (hbl : b < s.heap.size) (hbA : ¬ A b) (hS : va_S A s.heap H locs) (hG : GoodIn Ts (va_wsS own index yL_cell wsL_cell)) (hR : rm_cell.frames + 1 ≤ R.frames ∧ 8 + (2 + 11) + rm_cell.locals ≤ R.locals) (hf : cells ≤ R.cells ∧ slots ≤ R.slots)
    (hl : ls.size = nL) {st0 : List Value} (hst : st0 = [.ref b, .int k].reverse ++ rest) (hrm : (rest.map fun v => v.category).sum ≤ 8) (hdg : decode cc pc = .ok (.invokestatic index, 3))
    (kk : W p l e R s m args below meth c H locs cells slots Q (F0 m (pc + 3) ls (.int (cellV N xs k) :: rest))) : W p l e R s m args below meth c H locs cells slots Q (F0 m pc ls st0) := by
  obtain ⟨⟨hx, hb, hml, hown, hts⟩, -, -⟩ := fx
  have ok : ∀ w ∈ va_wsS own index yL_cell wsL_cell, w.before args s = true := fun w h => hts w (hG w h).1
  have hq : H[b]? = s.heap[b]? := hS.2.1 b hbl hbA
  refine vp_callSi (W.runS (As := [.ref b, .int k]) (rest := rest) ⟨hx, hb, hml, hown, hts⟩ (ct_cell l b N xs hN hk) ⟨callB_of 2 hts (fun w h => hG w (by unfold va_wsS; exact List.mem_append_right _ h)) rfl rfl rfl (ok _ (by simp [va_wsS])) (ok _ (by simp [va_wsS])) (by decide +kernel) hR, ok _ (by simp [va_wsS])⟩ ⟨fun a U g mk q => ?_, fun U hU hW => ⟨rfl, ?_, ?_⟩⟩ rfl rfl hl hst (lv_room hrm) hdg hf) (fun r hr => ?_)
  · obtain ⟨q0, q1, q2⟩ := q
    exact ⟨q0, va_X.moved (u := U) (U := U.calling g mk a) (Vm.Alike.refl U.vm) q1, q2⟩
  · rw [hU]
    exact (hX.moved hW.alike).kept hq
  · rw [hU]
    exact Nat.lt_of_lt_of_le hbl hS.1
  · rw [hr]
    exact kk
end ZD
