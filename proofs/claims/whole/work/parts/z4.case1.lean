/-! the law: its calls -/
section ZE
variable {p : Program} {l : Launch} {e : Env} {s : State} {m : MethodId} {below : List Frame} {meth : Method} {c : Code} {b N : Nat} {xs : Nat → Int32} {D : va_G} {cI cJ cR : ClassId} {La d : Nat}
set_option maxHeartbeats 4000000 in
set_option maxRecDepth 100000 in
theorem lc_bracket (hkr : KR La d) (F : lw_Fx p s m meth c b N xs D cI cJ cR) {A : AS} {adx adm : Nat → Nat} {H : Heap} {locs : List Loc} {cells slots : Nat} {Sc : cs_T} {Sm : ms_T} (S : lw_St La d D cI cJ cR s A adx adm H locs cells slots Sc Sm) {x3 : Int32} (h1 : vp_in (x3 + 1) N) (h2 : vp_in (x3 + 2) N) (h3 : vp_in (x3 + 3) N) (h4 : vp_in (x3 + 4) N) {ls : Array Slot} (hl : lv_has ls 4 [(0, .ref b), (1, .ref (adx 0)), (2, .ref (adm 0)), (3, .int x3)])
    (kk : ∀ (A' : AS) (H' : Heap) (locs' : List Loc) (cells' slots' : Nat) (Sc' : cs_T) (Sm' : ms_T), lw_St La d D cI cJ cR s A' adx adm H' locs' cells' slots' Sc' Sm' → W p l e room_1 s m #[Value.ref b] below meth c H' locs' cells' slots' (lw_Z below #[Value.ref b] s) (F0 m 1376 ls [])) : W p l e room_1 s m #[Value.ref b] below meth c H locs cells slots (lw_Z below #[Value.ref b] s) (F0 m 442 ls []) := by
  obtain ⟨fx, hX, hbl, hK⟩ := F
  obtain ⟨hP, hD, hS, hC, hM, hce, hsl⟩ := S
  obtain ⟨A1, x0, g0, hCX, hA2⟩ := CX_in hC hM
  obtain ⟨r, A', hKK, hc, hm⟩ := si_bracket (a1 := xs (x3 + 1).toNatClampNeg) (a2 := xs (x3 + 2).toNatClampNeg) (a3 := xs (x3 + 3).toNatClampNeg) hCX
  obtain ⟨⟨hx, hb, hml, hown, hts⟩, hret, hlk⟩ := id fx
  have hA : ∀ q : Nat, s.heap.size ≤ q → (fun q : Nat => s.heap.size ≤ q) q := fun _ h => h
  have hbA : ¬ (fun q : Nat => s.heap.size ≤ q) b := Nat.not_le.mpr hbl
  refine lv_aload_n hx hb dL_law_442 rfl (lv_at hl 1 rfl) ?_
  refine lv_aload_n hx hb dL_law_443 rfl (lv_at hl 0 rfl) ?_
  refine lv_iload_n hx hb dL_law_444 rfl (lv_at hl 3 rfl) ?_
  refine lv_iconst (v := 1) hx hb dL_law_445 (by decide) ?_
  refine lv_iadd hx hb dL_law_446 ?_
  refine va_sld hx hb hX hbl hbA hS h1 dL_law_447 ?_
  refine lv_aload_n hx hb dL_law_448 rfl (lv_at hl 0 rfl) ?_
  refine lv_iload_n hx hb dL_law_449 rfl (lv_at hl 3 rfl) ?_
  refine lv_iconst (v := 2) hx hb dL_law_450 (by decide) ?_
  refine lv_iadd hx hb dL_law_451 ?_
  refine va_sld hx hb hX hbl hbA hS h2 dL_law_452 ?_
  refine lv_aload_n hx hb dL_law_453 rfl (lv_at hl 0 rfl) ?_
  refine lv_iload_n hx hb dL_law_454 rfl (lv_at hl 3 rfl) ?_
  refine lv_iconst (v := 3) hx hb dL_law_455 (by decide) ?_
  refine lv_iadd hx hb dL_law_456 ?_
  refine va_sld hx hb hX hbl hbA hS h3 dL_law_457 ?_
  refine xr_uI (n := 3) (w2 := ms_w adm cI cJ Sm) (As := [.int (xs (x3 + 1).toNatClampNeg), .int (xs (x3 + 2).toNatClampNeg), .int (xs (x3 + 3).toNatClampNeg)]) (rest := []) fx (ct_X7_bracket l D adx cI cJ cR (csLn La d) (hc (fun r1 S1 => r1 = r ∧ CR La d (csLn La d) A' S1) (fun S1 h => ⟨rfl, h⟩))) gL_law_X7_bracket rfl rfl (by decide +kernel) ⟨Nat.le_of_ble_eq_true rfl, Nat.le_of_ble_eq_true rfl⟩ ⟨rfl, rfl⟩ (room_ok (by omega) (by omega)) (va_recv hK.1 hP (ci := 6) (q0 := 0) rfl rfl) hK hP hD hS hA hl.1 rfl (Nat.le_of_ble_eq_true rfl) dL_law_458 (fun r1 S1 H1 locs1 hq hP1 hD1 hS1 => ?_)
  obtain ⟨hr1, hC1⟩ := hq
  have hP2 := sw_P hP1
  have hD2 := sw_D hD1
  refine lv_aload_n hx hb dL_law_461 rfl (lv_at hl 2 rfl) ?_
  refine lv_aload_n hx hb dL_law_462 rfl (lv_at hl 0 rfl) ?_
  refine lv_iload_n hx hb dL_law_463 rfl (lv_at hl 3 rfl) ?_
  refine lv_iconst (v := 1) hx hb dL_law_464 (by decide) ?_
  refine lv_iadd hx hb dL_law_465 ?_
  refine va_sld hx hb hX hbl hbA hS1 h1 dL_law_466 ?_
  refine lv_aload_n hx hb dL_law_467 rfl (lv_at hl 0 rfl) ?_
  refine lv_iload_n hx hb dL_law_468 rfl (lv_at hl 3 rfl) ?_
  refine lv_iconst (v := 2) hx hb dL_law_469 (by decide) ?_
  refine lv_iadd hx hb dL_law_470 ?_
  refine va_sld hx hb hX hbl hbA hS1 h2 dL_law_471 ?_
  refine lv_aload_n hx hb dL_law_472 rfl (lv_at hl 0 rfl) ?_
  refine lv_iload_n hx hb dL_law_473 rfl (lv_at hl 3 rfl) ?_
  refine lv_iconst (v := 3) hx hb dL_law_474 (by decide) ?_
  refine lv_iadd hx hb dL_law_475 ?_
  refine va_sld hx hb hX hbl hbA hS1 h3 dL_law_476 ?_
  refine xr_uI (n := 3) (w2 := cs_w adx cI cR (csLn La d) S1) (As := [.int (xs (x3 + 1).toNatClampNeg), .int (xs (x3 + 2).toNatClampNeg), .int (xs (x3 + 3).toNatClampNeg)]) (rest := [.int r1]) fx (ct_X8_bracket l D adm cI cJ cR (hm (fun r2 S2 => r2 = r ∧ MR La d A' S2) (fun S2 h => ⟨rfl, h⟩))) gL_law_X8_bracket rfl rfl (by decide +kernel) ⟨Nat.le_of_ble_eq_true rfl, Nat.le_of_ble_eq_true rfl⟩ ⟨rfl, rfl⟩ (room_ok (by omega) (by omega)) (va_recv hK.1 hP2 (ci := 7) (q0 := 0) rfl rfl) hK hP2 hD2 hS1 hA hl.1 rfl (Nat.le_of_ble_eq_true rfl) dL_law_477 (fun r2 S2 H2 locs2 hq2 hP3 hD3 hS2 => ?_)
  obtain ⟨hr2, hM2⟩ := hq2
  exact lv_icmp_eq (tgt := 1376) hx hb dL_law_480 (by decide) (fun _ => kk A' H2 locs2 cells slots S1 S2 ⟨sw_P hP3, sw_D hD3, hS2, hC1, hM2, by rw [hKK, hA2]; exact hce, by rw [hKK, hA2]; exact hsl⟩) (fun c0 => absurd (hr1.trans hr2.symm) c0)
set_option maxHeartbeats 4000000 in
set_option maxRecDepth 100000 in
theorem lc_shuffle (hkr : KR La d) (F : lw_Fx p s m meth c b N xs D cI cJ cR) {A : AS} {adx adm : Nat → Nat} {H : Heap} {locs : List Loc} {cells slots : Nat} {Sc : cs_T} {Sm : ms_T} (S : lw_St La d D cI cJ cR s A adx adm H locs cells slots Sc Sm) {x3 : Int32} (h1 : vp_in (x3 + 1) N) (h2 : vp_in (x3 + 2) N) (h3 : vp_in (x3 + 3) N) (h4 : vp_in (x3 + 4) N) {ls : Array Slot} (hl : lv_has ls 4 [(0, .ref b), (1, .ref (adx 0)), (2, .ref (adm 0)), (3, .int x3)])
    (kk : ∀ (A' : AS) (H' : Heap) (locs' : List Loc) (cells' slots' : Nat) (Sc' : cs_T) (Sm' : ms_T), lw_St La d D cI cJ cR s A' adx adm H' locs' cells' slots' Sc' Sm' → W p l e room_1 s m #[Value.ref b] below meth c H' locs' cells' slots' (lw_Z below #[Value.ref b] s) (F0 m 1376 ls [])) : W p l e room_1 s m #[Value.ref b] below meth c H locs cells slots (lw_Z below #[Value.ref b] s) (F0 m 485 ls []) := by
  obtain ⟨fx, hX, hbl, hK⟩ := F
  obtain ⟨hP, hD, hS, hC, hM, hce, hsl⟩ := S
  obtain ⟨A1, x0, g0, hCX, hA2⟩ := CX_in hC hM
  obtain ⟨r, A', hKK, hc, hm⟩ := si_shuffle (a1 := xs (x3 + 1).toNatClampNeg) (a2 := xs (x3 + 2).toNatClampNeg) (a3 := xs (x3 + 3).toNatClampNeg) hCX
  obtain ⟨⟨hx, hb, hml, hown, hts⟩, hret, hlk⟩ := id fx
  have hA : ∀ q : Nat, s.heap.size ≤ q → (fun q : Nat => s.heap.size ≤ q) q := fun _ h => h
  have hbA : ¬ (fun q : Nat => s.heap.size ≤ q) b := Nat.not_le.mpr hbl
  refine lv_aload_n hx hb dL_law_485 rfl (lv_at hl 1 rfl) ?_
  refine lv_aload_n hx hb dL_law_486 rfl (lv_at hl 0 rfl) ?_
  refine lv_iload_n hx hb dL_law_487 rfl (lv_at hl 3 rfl) ?_
  refine lv_iconst (v := 1) hx hb dL_law_488 (by decide) ?_
  refine lv_iadd hx hb dL_law_489 ?_
  refine va_sld hx hb hX hbl hbA hS h1 dL_law_490 ?_
  refine lv_aload_n hx hb dL_law_491 rfl (lv_at hl 0 rfl) ?_
  refine lv_iload_n hx hb dL_law_492 rfl (lv_at hl 3 rfl) ?_
  refine lv_iconst (v := 2) hx hb dL_law_493 (by decide) ?_
  refine lv_iadd hx hb dL_law_494 ?_
  refine va_sld hx hb hX hbl hbA hS h2 dL_law_495 ?_
  refine lv_aload_n hx hb dL_law_496 rfl (lv_at hl 0 rfl) ?_
  refine lv_iload_n hx hb dL_law_497 rfl (lv_at hl 3 rfl) ?_
  refine lv_iconst (v := 3) hx hb dL_law_498 (by decide) ?_
  refine lv_iadd hx hb dL_law_499 ?_
  refine va_sld hx hb hX hbl hbA hS h3 dL_law_500 ?_
  refine xr_uI (n := 3) (w2 := ms_w adm cI cJ Sm) (As := [.int (xs (x3 + 1).toNatClampNeg), .int (xs (x3 + 2).toNatClampNeg), .int (xs (x3 + 3).toNatClampNeg)]) (rest := []) fx (ct_X7_shuffle l D adx cI cJ cR (csLn La d) (hc (fun r1 S1 => r1 = r ∧ CR La d (csLn La d) A' S1) (fun S1 h => ⟨rfl, h⟩))) gL_law_X7_shuffle rfl rfl (by decide +kernel) ⟨Nat.le_of_ble_eq_true rfl, Nat.le_of_ble_eq_true rfl⟩ ⟨rfl, rfl⟩ (room_ok (by omega) (by omega)) (va_recv hK.1 hP (ci := 6) (q0 := 0) rfl rfl) hK hP hD hS hA hl.1 rfl (Nat.le_of_ble_eq_true rfl) dL_law_501 (fun r1 S1 H1 locs1 hq hP1 hD1 hS1 => ?_)
  obtain ⟨hr1, hC1⟩ := hq
  have hP2 := sw_P hP1
  have hD2 := sw_D hD1
  refine lv_aload_n hx hb dL_law_504 rfl (lv_at hl 2 rfl) ?_
  refine lv_aload_n hx hb dL_law_505 rfl (lv_at hl 0 rfl) ?_
  refine lv_iload_n hx hb dL_law_506 rfl (lv_at hl 3 rfl) ?_
  refine lv_iconst (v := 1) hx hb dL_law_507 (by decide) ?_
  refine lv_iadd hx hb dL_law_508 ?_
  refine va_sld hx hb hX hbl hbA hS1 h1 dL_law_509 ?_
  refine lv_aload_n hx hb dL_law_510 rfl (lv_at hl 0 rfl) ?_
  refine lv_iload_n hx hb dL_law_511 rfl (lv_at hl 3 rfl) ?_
  refine lv_iconst (v := 2) hx hb dL_law_512 (by decide) ?_
  refine lv_iadd hx hb dL_law_513 ?_
  refine va_sld hx hb hX hbl hbA hS1 h2 dL_law_514 ?_
  refine lv_aload_n hx hb dL_law_515 rfl (lv_at hl 0 rfl) ?_
  refine lv_iload_n hx hb dL_law_516 rfl (lv_at hl 3 rfl) ?_
  refine lv_iconst (v := 3) hx hb dL_law_517 (by decide) ?_
  refine lv_iadd hx hb dL_law_518 ?_
  refine va_sld hx hb hX hbl hbA hS1 h3 dL_law_519 ?_
  refine xr_uI (n := 3) (w2 := cs_w adx cI cR (csLn La d) S1) (As := [.int (xs (x3 + 1).toNatClampNeg), .int (xs (x3 + 2).toNatClampNeg), .int (xs (x3 + 3).toNatClampNeg)]) (rest := [.int r1]) fx (ct_X8_shuffle l D adm cI cJ cR (hm (fun r2 S2 => r2 = r ∧ MR La d A' S2) (fun S2 h => ⟨rfl, h⟩))) gL_law_X8_shuffle rfl rfl (by decide +kernel) ⟨Nat.le_of_ble_eq_true rfl, Nat.le_of_ble_eq_true rfl⟩ ⟨rfl, rfl⟩ (room_ok (by omega) (by omega)) (va_recv hK.1 hP2 (ci := 7) (q0 := 0) rfl rfl) hK hP2 hD2 hS1 hA hl.1 rfl (Nat.le_of_ble_eq_true rfl) dL_law_520 (fun r2 S2 H2 locs2 hq2 hP3 hD3 hS2 => ?_)
  obtain ⟨hr2, hM2⟩ := hq2
  exact lv_icmp_eq (tgt := 1376) hx hb dL_law_523 (by decide) (fun _ => kk A' H2 locs2 cells slots S1 S2 ⟨sw_P hP3, sw_D hD3, hS2, hC1, hM2, by rw [hKK, hA2]; exact hce, by rw [hKK, hA2]; exact hsl⟩) (fun c0 => absurd (hr1.trans hr2.symm) c0)
set_option maxHeartbeats 4000000 in
set_option maxRecDepth 100000 in
theorem lc_turn (hkr : KR La d) (F : lw_Fx p s m meth c b N xs D cI cJ cR) {A : AS} {adx adm : Nat → Nat} {H : Heap} {locs : List Loc} {cells slots : Nat} {Sc : cs_T} {Sm : ms_T} (S : lw_St La d D cI cJ cR s A adx adm H locs cells slots Sc Sm) {x3 : Int32} (h1 : vp_in (x3 + 1) N) (h2 : vp_in (x3 + 2) N) (h3 : vp_in (x3 + 3) N) (h4 : vp_in (x3 + 4) N) {ls : Array Slot} (hl : lv_has ls 4 [(0, .ref b), (1, .ref (adx 0)), (2, .ref (adm 0)), (3, .int x3)])
    (kk : ∀ (A' : AS) (H' : Heap) (locs' : List Loc) (cells' slots' : Nat) (Sc' : cs_T) (Sm' : ms_T), lw_St La d D cI cJ cR s A' adx adm H' locs' cells' slots' Sc' Sm' → W p l e room_1 s m #[Value.ref b] below meth c H' locs' cells' slots' (lw_Z below #[Value.ref b] s) (F0 m 1376 ls [])) : W p l e room_1 s m #[Value.ref b] below meth c H locs cells slots (lw_Z below #[Value.ref b] s) (F0 m 528 ls []) := by
  obtain ⟨fx, hX, hbl, hK⟩ := F
  obtain ⟨hP, hD, hS, hC, hM, hce, hsl⟩ := S
  obtain ⟨A1, x0, g0, hCX, hA2⟩ := CX_in hC hM
  obtain ⟨r, A', hKK, hc, hm⟩ := si_turn (a1 := xs (x3 + 1).toNatClampNeg) (a2 := xs (x3 + 2).toNatClampNeg) hCX
  obtain ⟨⟨hx, hb, hml, hown, hts⟩, hret, hlk⟩ := id fx
  have hA : ∀ q : Nat, s.heap.size ≤ q → (fun q : Nat => s.heap.size ≤ q) q := fun _ h => h
  have hbA : ¬ (fun q : Nat => s.heap.size ≤ q) b := Nat.not_le.mpr hbl
  refine lv_aload_n hx hb dL_law_528 rfl (lv_at hl 1 rfl) ?_
  refine lv_aload_n hx hb dL_law_529 rfl (lv_at hl 0 rfl) ?_
  refine lv_iload_n hx hb dL_law_530 rfl (lv_at hl 3 rfl) ?_
  refine lv_iconst (v := 1) hx hb dL_law_531 (by decide) ?_
  refine lv_iadd hx hb dL_law_532 ?_
  refine va_sld hx hb hX hbl hbA hS h1 dL_law_533 ?_
  refine lv_aload_n hx hb dL_law_534 rfl (lv_at hl 0 rfl) ?_
  refine lv_iload_n hx hb dL_law_535 rfl (lv_at hl 3 rfl) ?_
  refine lv_iconst (v := 2) hx hb dL_law_536 (by decide) ?_
  refine lv_iadd hx hb dL_law_537 ?_
  refine va_sld hx hb hX hbl hbA hS h2 dL_law_538 ?_
  refine xr_uI (n := 2) (w2 := ms_w adm cI cJ Sm) (As := [.int (xs (x3 + 1).toNatClampNeg), .int (xs (x3 + 2).toNatClampNeg)]) (rest := []) fx (ct_X7_turn l D adx cI cJ cR (csLn La d) (hc (fun r1 S1 => r1 = r ∧ CR La d (csLn La d) A' S1) (fun S1 h => ⟨rfl, h⟩))) gL_law_X7_turn rfl rfl (by decide +kernel) ⟨Nat.le_of_ble_eq_true rfl, Nat.le_of_ble_eq_true rfl⟩ ⟨rfl, rfl⟩ (room_ok (by omega) (by omega)) (va_recv hK.1 hP (ci := 6) (q0 := 0) rfl rfl) hK hP hD hS hA hl.1 rfl (Nat.le_of_ble_eq_true rfl) dL_law_539 (fun r1 S1 H1 locs1 hq hP1 hD1 hS1 => ?_)
  obtain ⟨hr1, hC1⟩ := hq
  have hP2 := sw_P hP1
  have hD2 := sw_D hD1
  refine lv_aload_n hx hb dL_law_542 rfl (lv_at hl 2 rfl) ?_
  refine lv_aload_n hx hb dL_law_543 rfl (lv_at hl 0 rfl) ?_
  refine lv_iload_n hx hb dL_law_544 rfl (lv_at hl 3 rfl) ?_
  refine lv_iconst (v := 1) hx hb dL_law_545 (by decide) ?_
  refine lv_iadd hx hb dL_law_546 ?_
  refine va_sld hx hb hX hbl hbA hS1 h1 dL_law_547 ?_
  refine lv_aload_n hx hb dL_law_548 rfl (lv_at hl 0 rfl) ?_
  refine lv_iload_n hx hb dL_law_549 rfl (lv_at hl 3 rfl) ?_
  refine lv_iconst (v := 2) hx hb dL_law_550 (by decide) ?_
  refine lv_iadd hx hb dL_law_551 ?_
  refine va_sld hx hb hX hbl hbA hS1 h2 dL_law_552 ?_
  refine xr_uI (n := 2) (w2 := cs_w adx cI cR (csLn La d) S1) (As := [.int (xs (x3 + 1).toNatClampNeg), .int (xs (x3 + 2).toNatClampNeg)]) (rest := [.int r1]) fx (ct_X8_turn l D adm cI cJ cR (hm (fun r2 S2 => r2 = r ∧ MR La d A' S2) (fun S2 h => ⟨rfl, h⟩))) gL_law_X8_turn rfl rfl (by decide +kernel) ⟨Nat.le_of_ble_eq_true rfl, Nat.le_of_ble_eq_true rfl⟩ ⟨rfl, rfl⟩ (room_ok (by omega) (by omega)) (va_recv hK.1 hP2 (ci := 7) (q0 := 0) rfl rfl) hK hP2 hD2 hS1 hA hl.1 rfl (Nat.le_of_ble_eq_true rfl) dL_law_553 (fun r2 S2 H2 locs2 hq2 hP3 hD3 hS2 => ?_)
  obtain ⟨hr2, hM2⟩ := hq2
  exact lv_icmp_eq (tgt := 1376) hx hb dL_law_556 (by decide) (fun _ => kk A' H2 locs2 cells slots S1 S2 ⟨sw_P hP3, sw_D hD3, hS2, hC1, hM2, by rw [hKK, hA2]; exact hce, by rw [hKK, hA2]; exact hsl⟩) (fun c0 => absurd (hr1.trans hr2.symm) c0)
set_option maxHeartbeats 4000000 in
set_option maxRecDepth 100000 in
theorem lc_exp (hkr : KR La d) (F : lw_Fx p s m meth c b N xs D cI cJ cR) {A : AS} {adx adm : Nat → Nat} {H : Heap} {locs : List Loc} {cells slots : Nat} {Sc : cs_T} {Sm : ms_T} (S : lw_St La d D cI cJ cR s A adx adm H locs cells slots Sc Sm) {x3 : Int32} (h1 : vp_in (x3 + 1) N) (h2 : vp_in (x3 + 2) N) (h3 : vp_in (x3 + 3) N) (h4 : vp_in (x3 + 4) N) {ls : Array Slot} (hl : lv_has ls 4 [(0, .ref b), (1, .ref (adx 0)), (2, .ref (adm 0)), (3, .int x3)])
    (kk : ∀ (A' : AS) (H' : Heap) (locs' : List Loc) (cells' slots' : Nat) (Sc' : cs_T) (Sm' : ms_T), lw_St La d D cI cJ cR s A' adx adm H' locs' cells' slots' Sc' Sm' → W p l e room_1 s m #[Value.ref b] below meth c H' locs' cells' slots' (lw_Z below #[Value.ref b] s) (F0 m 1376 ls [])) : W p l e room_1 s m #[Value.ref b] below meth c H locs cells slots (lw_Z below #[Value.ref b] s) (F0 m 561 ls []) := by
  obtain ⟨fx, hX, hbl, hK⟩ := F
  obtain ⟨hP, hD, hS, hC, hM, hce, hsl⟩ := S
  obtain ⟨A1, x0, g0, hCX, hA2⟩ := CX_in hC hM
  obtain ⟨r, A', hKK, hc, hm⟩ := si_exp (a1 := xs (x3 + 1).toNatClampNeg) (a2 := xs (x3 + 2).toNatClampNeg) hCX
  obtain ⟨⟨hx, hb, hml, hown, hts⟩, hret, hlk⟩ := id fx
  have hA : ∀ q : Nat, s.heap.size ≤ q → (fun q : Nat => s.heap.size ≤ q) q := fun _ h => h
  have hbA : ¬ (fun q : Nat => s.heap.size ≤ q) b := Nat.not_le.mpr hbl
  refine lv_aload_n hx hb dL_law_561 rfl (lv_at hl 1 rfl) ?_
  refine lv_aload_n hx hb dL_law_562 rfl (lv_at hl 0 rfl) ?_
  refine lv_iload_n hx hb dL_law_563 rfl (lv_at hl 3 rfl) ?_
  refine lv_iconst (v := 1) hx hb dL_law_564 (by decide) ?_
  refine lv_iadd hx hb dL_law_565 ?_
  refine va_sld hx hb hX hbl hbA hS h1 dL_law_566 ?_
  refine lv_aload_n hx hb dL_law_567 rfl (lv_at hl 0 rfl) ?_
  refine lv_iload_n hx hb dL_law_568 rfl (lv_at hl 3 rfl) ?_
  refine lv_iconst (v := 2) hx hb dL_law_569 (by decide) ?_
  refine lv_iadd hx hb dL_law_570 ?_
  refine va_sld hx hb hX hbl hbA hS h2 dL_law_571 ?_
  refine xr_uI (n := 2) (w2 := ms_w adm cI cJ Sm) (As := [.int (xs (x3 + 1).toNatClampNeg), .int (xs (x3 + 2).toNatClampNeg)]) (rest := []) fx (ct_X7_exp l D adx cI cJ cR (csLn La d) (hc (fun r1 S1 => r1 = r ∧ CR La d (csLn La d) A' S1) (fun S1 h => ⟨rfl, h⟩))) gL_law_X7_exp rfl rfl (by decide +kernel) ⟨Nat.le_of_ble_eq_true rfl, Nat.le_of_ble_eq_true rfl⟩ ⟨rfl, rfl⟩ (room_ok (by omega) (by omega)) (va_recv hK.1 hP (ci := 6) (q0 := 0) rfl rfl) hK hP hD hS hA hl.1 rfl (Nat.le_of_ble_eq_true rfl) dL_law_572 (fun r1 S1 H1 locs1 hq hP1 hD1 hS1 => ?_)
  obtain ⟨hr1, hC1⟩ := hq
  have hP2 := sw_P hP1
  have hD2 := sw_D hD1
  refine lv_aload_n hx hb dL_law_575 rfl (lv_at hl 2 rfl) ?_
  refine lv_aload_n hx hb dL_law_576 rfl (lv_at hl 0 rfl) ?_
  refine lv_iload_n hx hb dL_law_577 rfl (lv_at hl 3 rfl) ?_
  refine lv_iconst (v := 1) hx hb dL_law_578 (by decide) ?_
  refine lv_iadd hx hb dL_law_579 ?_
  refine va_sld hx hb hX hbl hbA hS1 h1 dL_law_580 ?_
  refine lv_aload_n hx hb dL_law_581 rfl (lv_at hl 0 rfl) ?_
  refine lv_iload_n hx hb dL_law_582 rfl (lv_at hl 3 rfl) ?_
  refine lv_iconst (v := 2) hx hb dL_law_583 (by decide) ?_
  refine lv_iadd hx hb dL_law_584 ?_
  refine va_sld hx hb hX hbl hbA hS1 h2 dL_law_585 ?_
  refine xr_uI (n := 2) (w2 := cs_w adx cI cR (csLn La d) S1) (As := [.int (xs (x3 + 1).toNatClampNeg), .int (xs (x3 + 2).toNatClampNeg)]) (rest := [.int r1]) fx (ct_X8_exp l D adm cI cJ cR (hm (fun r2 S2 => r2 = r ∧ MR La d A' S2) (fun S2 h => ⟨rfl, h⟩))) gL_law_X8_exp rfl rfl (by decide +kernel) ⟨Nat.le_of_ble_eq_true rfl, Nat.le_of_ble_eq_true rfl⟩ ⟨rfl, rfl⟩ (room_ok (by omega) (by omega)) (va_recv hK.1 hP2 (ci := 7) (q0 := 0) rfl rfl) hK hP2 hD2 hS1 hA hl.1 rfl (Nat.le_of_ble_eq_true rfl) dL_law_586 (fun r2 S2 H2 locs2 hq2 hP3 hD3 hS2 => ?_)
  obtain ⟨hr2, hM2⟩ := hq2
  exact lv_icmp_eq (tgt := 1376) hx hb dL_law_589 (by decide) (fun _ => kk A' H2 locs2 cells slots S1 S2 ⟨sw_P hP3, sw_D hD3, hS2, hC1, hM2, by rw [hKK, hA2]; exact hce, by rw [hKK, hA2]; exact hsl⟩) (fun c0 => absurd (hr1.trans hr2.symm) c0)
set_option maxHeartbeats 4000000 in
set_option maxRecDepth 100000 in
theorem lc_log (hkr : KR La d) (F : lw_Fx p s m meth c b N xs D cI cJ cR) {A : AS} {adx adm : Nat → Nat} {H : Heap} {locs : List Loc} {cells slots : Nat} {Sc : cs_T} {Sm : ms_T} (S : lw_St La d D cI cJ cR s A adx adm H locs cells slots Sc Sm) {x3 : Int32} (h1 : vp_in (x3 + 1) N) (h2 : vp_in (x3 + 2) N) (h3 : vp_in (x3 + 3) N) (h4 : vp_in (x3 + 4) N) {ls : Array Slot} (hl : lv_has ls 4 [(0, .ref b), (1, .ref (adx 0)), (2, .ref (adm 0)), (3, .int x3)])
    (kk : ∀ (A' : AS) (H' : Heap) (locs' : List Loc) (cells' slots' : Nat) (Sc' : cs_T) (Sm' : ms_T), lw_St La d D cI cJ cR s A' adx adm H' locs' cells' slots' Sc' Sm' → W p l e room_1 s m #[Value.ref b] below meth c H' locs' cells' slots' (lw_Z below #[Value.ref b] s) (F0 m 1376 ls [])) : W p l e room_1 s m #[Value.ref b] below meth c H locs cells slots (lw_Z below #[Value.ref b] s) (F0 m 594 ls []) := by
  obtain ⟨fx, hX, hbl, hK⟩ := F
  obtain ⟨hP, hD, hS, hC, hM, hce, hsl⟩ := S
  obtain ⟨A1, x0, g0, hCX, hA2⟩ := CX_in hC hM
  obtain ⟨r, A', hKK, hc, hm⟩ := si_log (a1 := xs (x3 + 1).toNatClampNeg) (a2 := xs (x3 + 2).toNatClampNeg) hCX
  obtain ⟨⟨hx, hb, hml, hown, hts⟩, hret, hlk⟩ := id fx
  have hA : ∀ q : Nat, s.heap.size ≤ q → (fun q : Nat => s.heap.size ≤ q) q := fun _ h => h
  have hbA : ¬ (fun q : Nat => s.heap.size ≤ q) b := Nat.not_le.mpr hbl
  refine lv_aload_n hx hb dL_law_594 rfl (lv_at hl 1 rfl) ?_
  refine lv_aload_n hx hb dL_law_595 rfl (lv_at hl 0 rfl) ?_
  refine lv_iload_n hx hb dL_law_596 rfl (lv_at hl 3 rfl) ?_
  refine lv_iconst (v := 1) hx hb dL_law_597 (by decide) ?_
  refine lv_iadd hx hb dL_law_598 ?_
  refine va_sld hx hb hX hbl hbA hS h1 dL_law_599 ?_
  refine lv_aload_n hx hb dL_law_600 rfl (lv_at hl 0 rfl) ?_
  refine lv_iload_n hx hb dL_law_601 rfl (lv_at hl 3 rfl) ?_
  refine lv_iconst (v := 2) hx hb dL_law_602 (by decide) ?_
  refine lv_iadd hx hb dL_law_603 ?_
  refine va_sld hx hb hX hbl hbA hS h2 dL_law_604 ?_
  refine xr_uI (n := 2) (w2 := ms_w adm cI cJ Sm) (As := [.int (xs (x3 + 1).toNatClampNeg), .int (xs (x3 + 2).toNatClampNeg)]) (rest := []) fx (ct_X7_log l D adx cI cJ cR (csLn La d) (hc (fun r1 S1 => r1 = r ∧ CR La d (csLn La d) A' S1) (fun S1 h => ⟨rfl, h⟩))) gL_law_X7_log rfl rfl (by decide +kernel) ⟨Nat.le_of_ble_eq_true rfl, Nat.le_of_ble_eq_true rfl⟩ ⟨rfl, rfl⟩ (room_ok (by omega) (by omega)) (va_recv hK.1 hP (ci := 6) (q0 := 0) rfl rfl) hK hP hD hS hA hl.1 rfl (Nat.le_of_ble_eq_true rfl) dL_law_605 (fun r1 S1 H1 locs1 hq hP1 hD1 hS1 => ?_)
  obtain ⟨hr1, hC1⟩ := hq
  have hP2 := sw_P hP1
  have hD2 := sw_D hD1
  refine lv_aload_n hx hb dL_law_608 rfl (lv_at hl 2 rfl) ?_
  refine lv_aload_n hx hb dL_law_609 rfl (lv_at hl 0 rfl) ?_
  refine lv_iload_n hx hb dL_law_610 rfl (lv_at hl 3 rfl) ?_
  refine lv_iconst (v := 1) hx hb dL_law_611 (by decide) ?_
  refine lv_iadd hx hb dL_law_612 ?_
  refine va_sld hx hb hX hbl hbA hS1 h1 dL_law_613 ?_
  refine lv_aload_n hx hb dL_law_614 rfl (lv_at hl 0 rfl) ?_
  refine lv_iload_n hx hb dL_law_615 rfl (lv_at hl 3 rfl) ?_
  refine lv_iconst (v := 2) hx hb dL_law_616 (by decide) ?_
  refine lv_iadd hx hb dL_law_617 ?_
  refine va_sld hx hb hX hbl hbA hS1 h2 dL_law_618 ?_
  refine xr_uI (n := 2) (w2 := cs_w adx cI cR (csLn La d) S1) (As := [.int (xs (x3 + 1).toNatClampNeg), .int (xs (x3 + 2).toNatClampNeg)]) (rest := [.int r1]) fx (ct_X8_log l D adm cI cJ cR (hm (fun r2 S2 => r2 = r ∧ MR La d A' S2) (fun S2 h => ⟨rfl, h⟩))) gL_law_X8_log rfl rfl (by decide +kernel) ⟨Nat.le_of_ble_eq_true rfl, Nat.le_of_ble_eq_true rfl⟩ ⟨rfl, rfl⟩ (room_ok (by omega) (by omega)) (va_recv hK.1 hP2 (ci := 7) (q0 := 0) rfl rfl) hK hP2 hD2 hS1 hA hl.1 rfl (Nat.le_of_ble_eq_true rfl) dL_law_619 (fun r2 S2 H2 locs2 hq2 hP3 hD3 hS2 => ?_)
  obtain ⟨hr2, hM2⟩ := hq2
  exact lv_icmp_eq (tgt := 1376) hx hb dL_law_622 (by decide) (fun _ => kk A' H2 locs2 cells slots S1 S2 ⟨sw_P hP3, sw_D hD3, hS2, hC1, hM2, by rw [hKK, hA2]; exact hce, by rw [hKK, hA2]; exact hsl⟩) (fun c0 => absurd (hr1.trans hr2.symm) c0)
set_option maxHeartbeats 4000000 in
set_option maxRecDepth 100000 in
theorem lc_inverse (hkr : KR La d) (F : lw_Fx p s m meth c b N xs D cI cJ cR) {A : AS} {adx adm : Nat → Nat} {H : Heap} {locs : List Loc} {cells slots : Nat} {Sc : cs_T} {Sm : ms_T} (S : lw_St La d D cI cJ cR s A adx adm H locs cells slots Sc Sm) {x3 : Int32} (h1 : vp_in (x3 + 1) N) (h2 : vp_in (x3 + 2) N) (h3 : vp_in (x3 + 3) N) (h4 : vp_in (x3 + 4) N) {ls : Array Slot} (hl : lv_has ls 4 [(0, .ref b), (1, .ref (adx 0)), (2, .ref (adm 0)), (3, .int x3)])
    (kk : ∀ (A' : AS) (H' : Heap) (locs' : List Loc) (cells' slots' : Nat) (Sc' : cs_T) (Sm' : ms_T), lw_St La d D cI cJ cR s A' adx adm H' locs' cells' slots' Sc' Sm' → W p l e room_1 s m #[Value.ref b] below meth c H' locs' cells' slots' (lw_Z below #[Value.ref b] s) (F0 m 1376 ls [])) : W p l e room_1 s m #[Value.ref b] below meth c H locs cells slots (lw_Z below #[Value.ref b] s) (F0 m 627 ls []) := by
  obtain ⟨fx, hX, hbl, hK⟩ := F
  obtain ⟨hP, hD, hS, hC, hM, hce, hsl⟩ := S
  obtain ⟨A1, x0, g0, hCX, hA2⟩ := CX_in hC hM
  obtain ⟨r, A', hKK, hc, hm⟩ := si_inverse (a1 := xs (x3 + 1).toNatClampNeg) (a2 := xs (x3 + 2).toNatClampNeg) hCX
  obtain ⟨⟨hx, hb, hml, hown, hts⟩, hret, hlk⟩ := id fx
  have hA : ∀ q : Nat, s.heap.size ≤ q → (fun q : Nat => s.heap.size ≤ q) q := fun _ h => h
  have hbA : ¬ (fun q : Nat => s.heap.size ≤ q) b := Nat.not_le.mpr hbl
  refine lv_aload_n hx hb dL_law_627 rfl (lv_at hl 1 rfl) ?_
  refine lv_aload_n hx hb dL_law_628 rfl (lv_at hl 0 rfl) ?_
  refine lv_iload_n hx hb dL_law_629 rfl (lv_at hl 3 rfl) ?_
  refine lv_iconst (v := 1) hx hb dL_law_630 (by decide) ?_
  refine lv_iadd hx hb dL_law_631 ?_
  refine va_sld hx hb hX hbl hbA hS h1 dL_law_632 ?_
  refine lv_aload_n hx hb dL_law_633 rfl (lv_at hl 0 rfl) ?_
  refine lv_iload_n hx hb dL_law_634 rfl (lv_at hl 3 rfl) ?_
  refine lv_iconst (v := 2) hx hb dL_law_635 (by decide) ?_
  refine lv_iadd hx hb dL_law_636 ?_
  refine va_sld hx hb hX hbl hbA hS h2 dL_law_637 ?_
  refine xr_uI (n := 2) (w2 := ms_w adm cI cJ Sm) (As := [.int (xs (x3 + 1).toNatClampNeg), .int (xs (x3 + 2).toNatClampNeg)]) (rest := []) fx (ct_X7_inverse l D adx cI cJ cR (csLn La d) (hc (fun r1 S1 => r1 = r ∧ CR La d (csLn La d) A' S1) (fun S1 h => ⟨rfl, h⟩))) gL_law_X7_inverse rfl rfl (by decide +kernel) ⟨Nat.le_of_ble_eq_true rfl, Nat.le_of_ble_eq_true rfl⟩ ⟨rfl, rfl⟩ (room_ok (by omega) (by omega)) (va_recv hK.1 hP (ci := 6) (q0 := 0) rfl rfl) hK hP hD hS hA hl.1 rfl (Nat.le_of_ble_eq_true rfl) dL_law_638 (fun r1 S1 H1 locs1 hq hP1 hD1 hS1 => ?_)
  obtain ⟨hr1, hC1⟩ := hq
  have hP2 := sw_P hP1
  have hD2 := sw_D hD1
  refine lv_aload_n hx hb dL_law_641 rfl (lv_at hl 2 rfl) ?_
  refine lv_aload_n hx hb dL_law_642 rfl (lv_at hl 0 rfl) ?_
  refine lv_iload_n hx hb dL_law_643 rfl (lv_at hl 3 rfl) ?_
  refine lv_iconst (v := 1) hx hb dL_law_644 (by decide) ?_
  refine lv_iadd hx hb dL_law_645 ?_
  refine va_sld hx hb hX hbl hbA hS1 h1 dL_law_646 ?_
  refine lv_aload_n hx hb dL_law_647 rfl (lv_at hl 0 rfl) ?_
  refine lv_iload_n hx hb dL_law_648 rfl (lv_at hl 3 rfl) ?_
  refine lv_iconst (v := 2) hx hb dL_law_649 (by decide) ?_
  refine lv_iadd hx hb dL_law_650 ?_
  refine va_sld hx hb hX hbl hbA hS1 h2 dL_law_651 ?_
  refine xr_uI (n := 2) (w2 := cs_w adx cI cR (csLn La d) S1) (As := [.int (xs (x3 + 1).toNatClampNeg), .int (xs (x3 + 2).toNatClampNeg)]) (rest := [.int r1]) fx (ct_X8_inverse l D adm cI cJ cR (hm (fun r2 S2 => r2 = r ∧ MR La d A' S2) (fun S2 h => ⟨rfl, h⟩))) gL_law_X8_inverse rfl rfl (by decide +kernel) ⟨Nat.le_of_ble_eq_true rfl, Nat.le_of_ble_eq_true rfl⟩ ⟨rfl, rfl⟩ (room_ok (by omega) (by omega)) (va_recv hK.1 hP2 (ci := 7) (q0 := 0) rfl rfl) hK hP2 hD2 hS1 hA hl.1 rfl (Nat.le_of_ble_eq_true rfl) dL_law_652 (fun r2 S2 H2 locs2 hq2 hP3 hD3 hS2 => ?_)
  obtain ⟨hr2, hM2⟩ := hq2
  exact lv_icmp_eq (tgt := 1376) hx hb dL_law_655 (by decide) (fun _ => kk A' H2 locs2 cells slots S1 S2 ⟨sw_P hP3, sw_D hD3, hS2, hC1, hM2, by rw [hKK, hA2]; exact hce, by rw [hKK, hA2]; exact hsl⟩) (fun c0 => absurd (hr1.trans hr2.symm) c0)
end ZE
