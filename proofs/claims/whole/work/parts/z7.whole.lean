/-! the law: from its entry -/
theorem lw_arr {ws : List Cond} {s : State} {args : Array Value} (hts : ∀ w ∈ ws, w.before args s = true) {ty : FieldType} (h : Cond.arrayClass ty ∈ ws) : ∃ cA, ArrOfT s cA ty ∧ s.vm.findClass ("[" ++ ty.toString) = some cA := by
  obtain ⟨c, k, comp, h1, h2, h3⟩ := Cond.arrayClass_spec (hts _ h)
  exact ⟨c, fun n z => ⟨fun k h => (by cases h), k, h2, comp, h3⟩, h1⟩
theorem lw_over {s : State} {args : Array Value} (h : (Cond.arrayOver (.array .int)).before args s = true) : ∃ cA, ArrOfT s cA (.array .int) ∧ s.vm.findClass ("[" ++ (FieldType.array .int).toString) = some cA := by
  simp only [Cond.before, Cond.holds, Cond.value] at h
  generalize hc : s.vm.findClass (FieldType.array .int).toString = o at h
  cases o with
  | none => simp at h
  | some comp =>
    simp only [Option.bind_some] at h
    generalize hi : Array.findIdx? _ s.vm.classes = o2 at h
    cases o2 with
    | none => simp at h
    | some c =>
      simp only [Option.bind_some] at h
      generalize hk : s.vm.classes[c]? = o3 at h
      cases o3 with
      | none => simp at h
      | some k =>
        simp only [Option.map_some, Option.getD_some] at h
        cases hkind : k.kind with
        | array comp' ty =>
          rw [hkind] at h
          simp at h
          exact ⟨c, fun n z => ⟨fun k h => (by cases h), k, hk, comp', by rw [hkind, h.1]⟩, h.2⟩
        | _ => rw [hkind] at h; simp at h
set_option maxHeartbeats 4000000 in
set_option maxRecDepth 100000 in
theorem whole_start {p : Program} {e : Env} {s : State} {m : MethodId} {below : List Frame} {meth : Method} {c : Code} (l : Launch) {b L : Nat} {xs : Nat → Int32} (hL : L ≤ 2562) (C0 : lw_At p s m meth c b L xs) : W p l e room_1 s m #[Value.ref b] below meth c s.heap [] 0 0 (lw_Z below #[Value.ref b] s) (entryFrame m ([Value.ref b] : List Value).toArray 4) := by
  obtain ⟨hx, hb, hr, hml, hown, htl, hX, hbl, hlocks, hgv⟩ := id C0
  have hts : ∀ w ∈ wsL_law, w.before #[Value.ref b] s = true := fun w h => htl w (wsL_law_in w h)
  have hA : ∀ q : Nat, s.heap.size ≤ q → (fun q : Nat => s.heap.size ≤ q) q := fun _ h => h
  have hbA : ¬ (fun q : Nat => s.heap.size ≤ q) b := Nat.not_le.mpr hbl
  obtain ⟨c0, iS0, hKn0⟩ := u_known (C := RX0) (T := TX0) (N := 11) (n := 11) htl inX0 (htl (.instantiable RX0 11) (by decide +kernel))
  obtain ⟨c1, iS1, hKn1⟩ := u_known (C := RX1) (T := TX1) (N := 8) (n := 8) htl inX1 (htl (.instantiable RX1 8) (by decide +kernel))
  obtain ⟨c2, iS2, hKn2⟩ := u_known (C := RX2) (T := TX2) (N := 10) (n := 10) htl inX2 (htl (.instantiable RX2 10) (by decide +kernel))
  obtain ⟨c3, iS3, hKn3⟩ := u_known (C := RX4) (T := TX4) (N := 9) (n := 9) htl inX4 (htl (.instantiable RX4 9) (by decide +kernel))
  obtain ⟨c4, iS4, hKn4⟩ := u_known (C := RX5) (T := TX5) (N := 5) (n := 5) htl inX5 (htl (.instantiable RX5 5) (by decide +kernel))
  obtain ⟨c5, iS5, hKn5⟩ := u_known (C := RX6) (T := TX6) (N := 4) (n := 4) htl inX6 (htl (.instantiable RX6 4) (by decide +kernel))
  obtain ⟨c6, iS6, hKn6⟩ := u_known (C := RX7) (T := TX7) (N := 7) (n := 7) htl inX7 (htl (.instantiable RX7 7) (by decide +kernel))
  obtain ⟨c7, iS7, hKn7⟩ := u_known (C := RX8) (T := TX8) (N := 34) (n := 34) htl inX8 (htl (.instantiable RX8 34) (by decide +kernel))
  obtain ⟨dC, dI, hKc⟩ : ∃ (dC : Nat → ClassId) (dI : Nat → Nat → Nat), ∀ (k : Nat) (q : vw_C), vwCl[k]? = some q → u_Kn s q.1 q.2.1 q.2.2 (dC k) (dI k) := by
    refine ⟨fun k => match k with | 0 => c0 | 1 => c1 | 2 => c2 | 3 => c3 | 4 => c4 | 5 => c5 | 6 => c6 | _ => c7, fun k => match k with | 0 => iS0 | 1 => iS1 | 2 => iS2 | 3 => iS3 | 4 => iS4 | 5 => iS5 | 6 => iS6 | _ => iS7, ?_⟩
    intro k q hq
    match k, hq with
    | 0, hq => cases hq; exact hKn0
    | 1, hq => cases hq; exact hKn1
    | 2, hq => cases hq; exact hKn2
    | 3, hq => cases hq; exact hKn3
    | 4, hq => cases hq; exact hKn4
    | 5, hq => cases hq; exact hKn5
    | 6, hq => cases hq; exact hKn6
    | 7, hq => cases hq; exact hKn7
    | k + 8, hq => simp at hq
  obtain ⟨cI, aI, fI⟩ := lw_arr htl (ty := .int) (by decide +kernel)
  obtain ⟨cJ, aJ, fJ⟩ := lw_arr htl (ty := .long) (by decide +kernel)
  have hAO0 : (Cond.arrayOver (.array .int)).before #[Value.ref b] s = true := htl _ (by decide +kernel)
  obtain ⟨cR, aR, fR⟩ := lw_over hAO0
  have hAO : va_AOA .int s := hAO0
  have hK : xr_K (dC, dI) (cs_ty cI cJ cR) s := by
    refine ⟨⟨hKc, fun k q h => ?_⟩, fun w hw => ?_⟩
    · match k, h with
      | 0, h => cases h; exact ⟨aI, fI⟩
      | 1, h => cases h; exact ⟨aJ, fJ⟩
      | 2, h => cases h; exact ⟨aR, fR⟩
      | k + 3, h => simp at h
    · simp only [xr_nw, List.mem_cons, List.not_mem_nil, or_false] at hw
      subst hw
      exact va_Nw.of (by decide +kernel) (htl _ (by decide +kernel))
  have fx : xr_Fx p m c meth cL_law 4 s #[Value.ref b] wsL_law RL ret := ⟨⟨hx, hb, hml, hown, hts⟩, hr, hlocks⟩
  have hS : va_S (fun q : Nat => s.heap.size ≤ q) s.heap s.heap [] := va_S.rf
  have hP : va_P (dC, dI) vwCl [] s.heap := fun k q h => by simp at h
  have hD : va_D (fun q : Nat => s.heap.size ≤ q) [] := ⟨fun i j p q h => by simp at h, fun k q h => by simp at h⟩
  have hl := lv_entry ([.ref b]) (n := 4) (Nat.le_of_ble_eq_true rfl)
  rw [lg_entry_eq]
  generalize (lg_sl ([.ref b]) ++ List.replicate (4 - (lg_sl ([.ref b])).length) Slot.unset).toArray = ls at hl ⊢
  have hl : lv_has ls 4 [(0, .ref b)] := hl
  have hN31 : L < 2 ^ 31 := by omega
  have hcf := cf_of (cellV L xs 0) (cellV L xs 1)
  refine va_new (ci := 6) (fs := [.null, .null, .null, .null, .null, .null, .null]) (C := RX7) (T := TX7) (N := 7) hx hb hts inlX7 tyX7 tyX7_ok hown (hts (.classLink RL 7 RX7) (by decide +kernel)) (hts (.instantiable RX7 7) (by decide +kernel)) (hts (.initialized RX7) (by decide +kernel)) hK.1 hP hD hS hA rfl (fun j hj => by rcases (show j = 0 ∨ j = 1 ∨ j = 2 ∨ j = 3 ∨ j = 4 ∨ j = 5 ∨ j = 6 by omega) with rfl | rfl | rfl | rfl | rfl | rfl | rfl <;> rfl) (Nat.le_of_ble_eq_true rfl) (Nat.le_of_ble_eq_true rfl) dL_law_0 (fun qx H hP hD hS => ?_)
  have hP : va_P (dC, dI) vwCl ([(qx, .inr (6, [.null, .null, .null, .null, .null, .null, .null]))] ++ []) H := hP
  have hD : va_D (fun q : Nat => s.heap.size ≤ q) ([(qx, .inr (6, [.null, .null, .null, .null, .null, .null, .null]))] ++ []) := hD
  refine lv_dup hx hb dL_law_3 rfl ?_
  refine lv_aload_n hx hb dL_law_4 rfl (lv_at hl 0 rfl) ?_
  refine lv_iconst (v := 0) hx hb dL_law_5 (by decide) ?_
  refine lw_cell (b := b) (N := L) (xs := xs) (k := 0) (rest := [.ref qx, .ref qx]) fx hN31 (by decide) hX hbl hbA hS gL_law_L_cell ⟨Nat.le_of_ble_eq_true rfl, Nat.le_of_ble_eq_true rfl⟩ (room_ok (by omega) (by omega)) hl.1 rfl (Nat.le_of_ble_eq_true rfl) dL_law_6 ?_
  refine lv_aload_n hx hb dL_law_9 rfl (lv_at hl 0 rfl) ?_
  refine lv_iconst (v := 1) hx hb dL_law_10 (by decide) ?_
  refine lw_cell (b := b) (N := L) (xs := xs) (k := 1) (rest := [.int (cellV L xs 0), .ref qx, .ref qx]) fx hN31 (by decide) hX hbl hbA hS gL_law_L_cell ⟨Nat.le_of_ble_eq_true rfl, Nat.le_of_ble_eq_true rfl⟩ (room_ok (by omega) (by omega)) hl.1 rfl (Nat.le_of_ble_eq_true rfl) dL_law_11 ?_
  refine xr_ctorA (n := 2) (As := [.int (cellV L xs 0), .int (cellV L xs 1)]) (rest := [.ref qx]) (w2 := []) fx hAO (ct_X7_init l (dC, dI) cI cJ cR qx (a1 := cellV L xs 0) (a2 := cellV L xs 1) rfl rfl) gL_law_X7_init rfl rfl (by decide +kernel) (by decide +kernel) (by decide +kernel) rfl (by decide +kernel) ⟨Nat.le_of_ble_eq_true rfl, Nat.le_of_ble_eq_true rfl⟩ ⟨rfl, rfl⟩ (room_ok (by omega) (by omega)) hK hP hD hS hA hl.1 rfl (Nat.le_of_ble_eq_true rfl) dL_law_14 (fun ux H1 locs1 hux hP1 hD1 hS1 => ?_)
  obtain ⟨adx, Sc⟩ := ux
  obtain ⟨e0x, hcs⟩ := hux
  have e0x : adx 0 = qx := e0x
  have hP1 : va_P (dC, dI) vwCl (cs_w adx cI cR (csLn (lettersOf (cellV L xs 0)) (degreeOf (cellV L xs 0) (cellV L xs 1))) Sc ++ []) H1 := hP1
  have hD1 : va_D (fun q : Nat => s.heap.size ≤ q) (cs_w adx cI cR (csLn (lettersOf (cellV L xs 0)) (degreeOf (cellV L xs 0) (cellV L xs 1))) Sc ++ []) := hD1
  rw [List.append_nil] at hP1 hD1
  refine lv_astore_n (lv' := [(1, .ref qx), (0, .ref b)]) hx hb dL_law_17 rfl hl (by decide) rfl (fun ls hl => ?_)
  refine va_new (ci := 7) (fs := ms_fs0) (C := RX8) (T := TX8) (N := 34) hx hb hts inlX8 tyX8 tyX8_ok hown (hts (.classLink RL 18 RX8) (by decide +kernel)) (hts (.instantiable RX8 34) (by decide +kernel)) (hts (.initialized RX8) (by decide +kernel)) hK.1 hP1 hD1 hS1 hA rfl (fun j hj => by
    revert j
    decide) (Nat.le_of_ble_eq_true rfl) (Nat.le_of_ble_eq_true rfl) dL_law_18 (fun qm H2 hP2 hD2 hS2 => ?_)
  have hP2' := sw_P hP2
  have hD2' := sw_D hD2
  refine lv_dup hx hb dL_law_21 rfl ?_
  refine lv_aload_n hx hb dL_law_22 rfl (lv_at hl 1 rfl) ?_
  refine lv_iconst (v := 0) hx hb dL_law_23 (by decide) ?_
  refine lw_cell (b := b) (N := L) (xs := xs) (k := 0) (rest := [.ref qm, .ref qm]) fx hN31 (by decide) hX hbl hbA hS2 gL_law_L_cell ⟨Nat.le_of_ble_eq_true rfl, Nat.le_of_ble_eq_true rfl⟩ (room_ok (by omega) (by omega)) hl.1 rfl (Nat.le_of_ble_eq_true rfl) dL_law_24 ?_
  refine lv_aload_n hx hb dL_law_27 rfl (lv_at hl 1 rfl) ?_
  refine lv_iconst (v := 1) hx hb dL_law_28 (by decide) ?_
  refine lw_cell (b := b) (N := L) (xs := xs) (k := 1) (rest := [.int (cellV L xs 0), .ref qm, .ref qm]) fx hN31 (by decide) hX hbl hbA hS2 gL_law_L_cell ⟨Nat.le_of_ble_eq_true rfl, Nat.le_of_ble_eq_true rfl⟩ (room_ok (by omega) (by omega)) hl.1 rfl (Nat.le_of_ble_eq_true rfl) dL_law_29 ?_
  refine xr_ctor (n := 2) (As := [.int (cellV L xs 0), .int (cellV L xs 1)]) (rest := [.ref qm]) (w2 := cs_w adx cI cR (csLn (lettersOf (cellV L xs 0)) (degreeOf (cellV L xs 0) (cellV L xs 1))) Sc) fx (fun sz => ct_X8_init l (dC, dI) cI cJ cR qm sz (sp_init (Q := fun S => mk_ok (lettersOf (cellV L xs 0)) (degreeOf (cellV L xs 0) (cellV L xs 1)) S) (fun S h => h))) gL_law_X8_init rfl rfl (by decide +kernel) (by decide +kernel) (by decide +kernel) rfl (by decide +kernel) ⟨Nat.le_of_ble_eq_true rfl, Nat.le_of_ble_eq_true rfl⟩ ⟨rfl, rfl⟩ (room_ok (by omega) (by omega)) hK hP2' hD2' hS2 hA hl.1 rfl (Nat.le_of_ble_eq_true rfl) dL_law_32 (fun um H3 locs3 hum hP3 hD3 hS3 => ?_)
  obtain ⟨adm, Sm⟩ := um
  obtain ⟨e0m, hmk⟩ := hum
  have e0m : adm 0 = qm := e0m
  have hP3 : va_P (dC, dI) vwCl (ms_w adm cI cJ Sm ++ cs_w adx cI cR (csLn (lettersOf (cellV L xs 0)) (degreeOf (cellV L xs 0) (cellV L xs 1))) Sc) H3 := hP3
  have hD3 : va_D (fun q : Nat => s.heap.size ≤ q) (ms_w adm cI cJ Sm ++ cs_w adx cI cR (csLn (lettersOf (cellV L xs 0)) (degreeOf (cellV L xs 0) (cellV L xs 1))) Sc) := hD3
  refine lv_astore_n (lv' := [(2, .ref qm), (1, .ref qx), (0, .ref b)]) hx hb dL_law_35 rfl hl (by decide) rfl (fun ls hl => ?_)
  refine lv_iconst (v := 2) hx hb dL_law_36 (by decide) ?_
  refine lv_istore_n (lv' := [(3, .int 2), (2, .ref qm), (1, .ref qx), (0, .ref b)]) hx hb dL_law_37 rfl hl (by decide) rfl (fun ls hl => ?_)
  have hb2 := rw_b hcf
  have hms : msA (csLn (lettersOf (cellV L xs 0)) (degreeOf (cellV L xs 0) (cellV L xs 1))) A0.2.2.1.1 ≤ 25088 := by
    show (if (0 : Nat) = 0 then _ else _) ≤ _
    rw [if_pos rfl]
    exact hb2
  have hmc : mcA A0.2.2.1.1 = 1 := rfl
  have hl2 := lv_sub hl (l' := [(0, .ref b), (1, .ref qx), (2, .ref qm), (3, .int 2)]) [3, 2, 1, 0] rfl
  rw [← e0x, ← e0m] at hl2
  exact law_loop hL (kr_ok hcf) hlocks ⟨fx, hX, hbl, hK⟩ (L + 6) 2 2 (by omega) (by omega) rfl A0 H3 locs3 _ _ Sc Sm ⟨sw_P hP3, sw_D hD3, hS3, CR_0 hcf hcs, MR_0 hmk, by rw [hmc]; omega, by omega⟩ ls hl2
