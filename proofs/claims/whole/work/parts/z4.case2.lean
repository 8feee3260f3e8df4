/-! the law: its calls -/
section ZE
variable {p : Program} {l : Launch} {e : Env} {s : State} {m : MethodId} {below : List Frame} {meth : Method} {c : Code} {b N : Nat} {xs : Nat → Int32} {D : va_G} {cI cJ cR : ClassId} {La d : Nat}
set_option maxHeartbeats 4000000 in
set_option maxRecDepth 100000 in
theorem lc_group (hkr : KR La d) (F : lw_Fx p s m meth c b N xs D cI cJ cR) {A : AS} {adx adm : Nat → Nat} {H : Heap} {locs : List Loc} {cells slots : Nat} {Sc : cs_T} {Sm : ms_T} (S : lw_St La d D cI cJ cR s A adx adm H locs cells slots Sc Sm) {x3 : Int32} (h1 : vp_in (x3 + 1) N) (h2 : vp_in (x3 + 2) N) (h3 : vp_in (x3 + 3) N) (h4 : vp_in (x3 + 4) N) {ls : Array Slot} (hl : lv_has ls 4 [(0, .ref b), (1, .ref (adx 0)), (2, .ref (adm 0)), (3, .int x3)])
    (kk : ∀ (A' : AS) (H' : Heap) (locs' : List Loc) (cells' slots' : Nat) (Sc' : cs_T) (Sm' : ms_T), lw_St La d D cI cJ cR s A' adx adm H' locs' cells' slots' Sc' Sm' → W p l e room_1 s m #[Value.ref b] below meth c H' locs' cells' slots' (lw_Z below #[Value.ref b] s) (F0 m 1376 ls [])) : W p l e room_1 s m #[Value.ref b] below meth c H locs cells slots (lw_Z below #[Value.ref b] s) (F0 m 660 ls []) := by
  obtain ⟨fx, hX, hbl, hK⟩ := F
  obtain ⟨hP, hD, hS, hC, hM, hce, hsl⟩ := S
  obtain ⟨A1, x0, g0, hCX, hA2⟩ := CX_in hC hM
  obtain ⟨r, A', hKK, hc, hm⟩ := si_group (a1 := xs (x3 + 1).toNatClampNeg) (a2 := xs (x3 + 2).toNatClampNeg) (a3 := xs (x3 + 3).toNatClampNeg) hCX
  obtain ⟨⟨hx, hb, hml, hown, hts⟩, hret, hlk⟩ := id fx
  have hA : ∀ q : Nat, s.heap.size ≤ q → (fun q : Nat => s.heap.size ≤ q) q := fun _ h => h
  have hbA : ¬ (fun q : Nat => s.heap.size ≤ q) b := Nat.not_le.mpr hbl
  refine lv_aload_n hx hb dL_law_660 rfl (lv_at hl 1 rfl) ?_
  refine lv_aload_n hx hb dL_law_661 rfl (lv_at hl 0 rfl) ?_
  refine lv_iload_n hx hb dL_law_662 rfl (lv_at hl 3 rfl) ?_
  refine lv_iconst (v := 1) hx hb dL_law_663 (by decide) ?_
  refine lv_iadd hx hb dL_law_664 ?_
  refine va_sld hx hb hX hbl hbA hS h1 dL_law_665 ?_
  refine lv_aload_n hx hb dL_law_666 rfl (lv_at hl 0 rfl) ?_
  refine lv_iload_n hx hb dL_law_667 rfl (lv_at hl 3 rfl) ?_
  refine lv_iconst (v := 2) hx hb dL_law_668 (by decide) ?_
  refine lv_iadd hx hb dL_law_669 ?_
  refine va_sld hx hb hX hbl hbA hS h2 dL_law_670 ?_
  refine lv_aload_n hx hb dL_law_671 rfl (lv_at hl 0 rfl) ?_
  refine lv_iload_n hx hb dL_law_672 rfl (lv_at hl 3 rfl) ?_
  refine lv_iconst (v := 3) hx hb dL_law_673 (by decide) ?_
  refine lv_iadd hx hb dL_law_674 ?_
  refine va_sld hx hb hX hbl hbA hS h3 dL_law_675 ?_
  refine xr_uI (n := 3) (w2 := ms_w adm cI cJ Sm) (As := [.int (xs (x3 + 1).toNatClampNeg), .int (xs (x3 + 2).toNatClampNeg), .int (xs (x3 + 3).toNatClampNeg)]) (rest := []) fx (ct_X7_group l D adx cI cJ cR (csLn La d) (hc (fun r1 S1 => r1 = r ∧ CR La d (csLn La d) A' S1) (fun S1 h => ⟨rfl, h⟩))) gL_law_X7_group rfl rfl (by decide +kernel) ⟨Nat.le_of_ble_eq_true rfl, Nat.le_of_ble_eq_true rfl⟩ ⟨rfl, rfl⟩ (room_ok (by omega) (by omega)) (va_recv hK.1 hP (ci := 6) (q0 := 0) rfl rfl) hK hP hD hS hA hl.1 rfl (Nat.le_of_ble_eq_true rfl) dL_law_676 (fun r1 S1 H1 locs1 hq hP1 hD1 hS1 => ?_)
  obtain ⟨hr1, hC1⟩ := hq
  have hP2 := sw_P hP1
  have hD2 := sw_D hD1
  refine lv_aload_n hx hb dL_law_679 rfl (lv_at hl 2 rfl) ?_
  refine lv_aload_n hx hb dL_law_680 rfl (lv_at hl 0 rfl) ?_
  refine lv_iload_n hx hb dL_law_681 rfl (lv_at hl 3 rfl) ?_
  refine lv_iconst (v := 1) hx hb dL_law_682 (by decide) ?_
  refine lv_iadd hx hb dL_law_683 ?_
  refine va_sld hx hb hX hbl hbA hS1 h1 dL_law_684 ?_
  refine lv_aload_n hx hb dL_law_685 rfl (lv_at hl 0 rfl) ?_
  refine lv_iload_n hx hb dL_law_686 rfl (lv_at hl 3 rfl) ?_
  refine lv_iconst (v := 2) hx hb dL_law_687 (by decide) ?_
  refine lv_iadd hx hb dL_law_688 ?_
  refine va_sld hx hb hX hbl hbA hS1 h2 dL_law_689 ?_
  refine lv_aload_n hx hb dL_law_690 rfl (lv_at hl 0 rfl) ?_
  refine lv_iload_n hx hb dL_law_691 rfl (lv_at hl 3 rfl) ?_
  refine lv_iconst (v := 3) hx hb dL_law_692 (by decide) ?_
  refine lv_iadd hx hb dL_law_693 ?_
  refine va_sld hx hb hX hbl hbA hS1 h3 dL_law_694 ?_
  refine xr_uI (n := 3) (w2 := cs_w adx cI cR (csLn La d) S1) (As := [.int (xs (x3 + 1).toNatClampNeg), .int (xs (x3 + 2).toNatClampNeg), .int (xs (x3 + 3).toNatClampNeg)]) (rest := [.int r1]) fx (ct_X8_group l D adm cI cJ cR (hm (fun r2 S2 => r2 = r ∧ MR La d A' S2) (fun S2 h => ⟨rfl, h⟩))) gL_law_X8_group rfl rfl (by decide +kernel) ⟨Nat.le_of_ble_eq_true rfl, Nat.le_of_ble_eq_true rfl⟩ ⟨rfl, rfl⟩ (room_ok (by omega) (by omega)) (va_recv hK.1 hP2 (ci := 7) (q0 := 0) rfl rfl) hK hP2 hD2 hS1 hA hl.1 rfl (Nat.le_of_ble_eq_true rfl) dL_law_695 (fun r2 S2 H2 locs2 hq2 hP3 hD3 hS2 => ?_)
  obtain ⟨hr2, hM2⟩ := hq2
  exact lv_icmp_eq (tgt := 1376) hx hb dL_law_698 (by decide) (fun _ => kk A' H2 locs2 cells slots S1 S2 ⟨sw_P hP3, sw_D hD3, hS2, hC1, hM2, by rw [hKK, hA2]; exact hce, by rw [hKK, hA2]; exact hsl⟩) (fun c0 => absurd (hr1.trans hr2.symm) c0)
set_option maxHeartbeats 4000000 in
set_option maxRecDepth 100000 in
theorem lc_derive (hkr : KR La d) (F : lw_Fx p s m meth c b N xs D cI cJ cR) {A : AS} {adx adm : Nat → Nat} {H : Heap} {locs : List Loc} {cells slots : Nat} {Sc : cs_T} {Sm : ms_T} (S : lw_St La d D cI cJ cR s A adx adm H locs cells slots Sc Sm) {x3 : Int32} (h1 : vp_in (x3 + 1) N) (h2 : vp_in (x3 + 2) N) (h3 : vp_in (x3 + 3) N) (h4 : vp_in (x3 + 4) N) {ls : Array Slot} (hl : lv_has ls 4 [(0, .ref b), (1, .ref (adx 0)), (2, .ref (adm 0)), (3, .int x3)])
    (kk : ∀ (A' : AS) (H' : Heap) (locs' : List Loc) (cells' slots' : Nat) (Sc' : cs_T) (Sm' : ms_T), lw_St La d D cI cJ cR s A' adx adm H' locs' cells' slots' Sc' Sm' → W p l e room_1 s m #[Value.ref b] below meth c H' locs' cells' slots' (lw_Z below #[Value.ref b] s) (F0 m 1376 ls [])) : W p l e room_1 s m #[Value.ref b] below meth c H locs cells slots (lw_Z below #[Value.ref b] s) (F0 m 703 ls []) := by
  obtain ⟨fx, hX, hbl, hK⟩ := F
  obtain ⟨hP, hD, hS, hC, hM, hce, hsl⟩ := S
  obtain ⟨A1, x0, g0, hCX, hA2⟩ := CX_in hC hM
  obtain ⟨r, A', hKK, hc, hm⟩ := si_derive (a1 := xs (x3 + 1).toNatClampNeg) (a2 := xs (x3 + 2).toNatClampNeg) (a3 := xs (x3 + 3).toNatClampNeg) (a4 := xs (x3 + 4).toNatClampNeg) hCX
  obtain ⟨⟨hx, hb, hml, hown, hts⟩, hret, hlk⟩ := id fx
  have hA : ∀ q : Nat, s.heap.size ≤ q → (fun q : Nat => s.heap.size ≤ q) q := fun _ h => h
  have hbA : ¬ (fun q : Nat => s.heap.size ≤ q) b := Nat.not_le.mpr hbl
  refine lv_aload_n hx hb dL_law_703 rfl (lv_at hl 1 rfl) ?_
  refine lv_aload_n hx hb dL_law_704 rfl (lv_at hl 0 rfl) ?_
  refine lv_iload_n hx hb dL_law_705 rfl (lv_at hl 3 rfl) ?_
  refine lv_iconst (v := 1) hx hb dL_law_706 (by decide) ?_
  refine lv_iadd hx hb dL_law_707 ?_
  refine va_sld hx hb hX hbl hbA hS h1 dL_law_708 ?_
  refine lv_aload_n hx hb dL_law_709 rfl (lv_at hl 0 rfl) ?_
  refine lv_iload_n hx hb dL_law_710 rfl (lv_at hl 3 rfl) ?_
  refine lv_iconst (v := 2) hx hb dL_law_711 (by decide) ?_
  refine lv_iadd hx hb dL_law_712 ?_
  refine va_sld hx hb hX hbl hbA hS h2 dL_law_713 ?_
  refine lv_aload_n hx hb dL_law_714 rfl (lv_at hl 0 rfl) ?_
  refine lv_iload_n hx hb dL_law_715 rfl (lv_at hl 3 rfl) ?_
  refine lv_iconst (v := 3) hx hb dL_law_716 (by decide) ?_
  refine lv_iadd hx hb dL_law_717 ?_
  refine va_sld hx hb hX hbl hbA hS h3 dL_law_718 ?_
  refine lv_aload_n hx hb dL_law_719 rfl (lv_at hl 0 rfl) ?_
  refine lv_iload_n hx hb dL_law_720 rfl (lv_at hl 3 rfl) ?_
  refine lv_iconst (v := 4) hx hb dL_law_721 (by decide) ?_
  refine lv_iadd hx hb dL_law_722 ?_
  refine va_sld hx hb hX hbl hbA hS h4 dL_law_723 ?_
  refine xr_uI (n := 4) (w2 := ms_w adm cI cJ Sm) (As := [.int (xs (x3 + 1).toNatClampNeg), .int (xs (x3 + 2).toNatClampNeg), .int (xs (x3 + 3).toNatClampNeg), .int (xs (x3 + 4).toNatClampNeg)]) (rest := []) fx (ct_X7_derive l D adx cI cJ cR (csLn La d) (hc (fun r1 S1 => r1 = r ∧ CR La d (csLn La d) A' S1) (fun S1 h => ⟨rfl, h⟩))) gL_law_X7_derive rfl rfl (by decide +kernel) ⟨Nat.le_of_ble_eq_true rfl, Nat.le_of_ble_eq_true rfl⟩ ⟨rfl, rfl⟩ (room_ok (by omega) (by omega)) (va_recv hK.1 hP (ci := 6) (q0 := 0) rfl rfl) hK hP hD hS hA hl.1 rfl (Nat.le_of_ble_eq_true rfl) dL_law_724 (fun r1 S1 H1 locs1 hq hP1 hD1 hS1 => ?_)
  obtain ⟨hr1, hC1⟩ := hq
  have hP2 := sw_P hP1
  have hD2 := sw_D hD1
  refine lv_aload_n hx hb dL_law_727 rfl (lv_at hl 2 rfl) ?_
  refine lv_aload_n hx hb dL_law_728 rfl (lv_at hl 0 rfl) ?_
  refine lv_iload_n hx hb dL_law_729 rfl (lv_at hl 3 rfl) ?_
  refine lv_iconst (v := 1) hx hb dL_law_730 (by decide) ?_
  refine lv_iadd hx hb dL_law_731 ?_
  refine va_sld hx hb hX hbl hbA hS1 h1 dL_law_732 ?_
  refine lv_aload_n hx hb dL_law_733 rfl (lv_at hl 0 rfl) ?_
  refine lv_iload_n hx hb dL_law_734 rfl (lv_at hl 3 rfl) ?_
  refine lv_iconst (v := 2) hx hb dL_law_735 (by decide) ?_
  refine lv_iadd hx hb dL_law_736 ?_
  refine va_sld hx hb hX hbl hbA hS1 h2 dL_law_737 ?_
  refine lv_aload_n hx hb dL_law_738 rfl (lv_at hl 0 rfl) ?_
  refine lv_iload_n hx hb dL_law_739 rfl (lv_at hl 3 rfl) ?_
  refine lv_iconst (v := 3) hx hb dL_law_740 (by decide) ?_
  refine lv_iadd hx hb dL_law_741 ?_
  refine va_sld hx hb hX hbl hbA hS1 h3 dL_law_742 ?_
  refine lv_aload_n hx hb dL_law_743 rfl (lv_at hl 0 rfl) ?_
  refine lv_iload_n hx hb dL_law_744 rfl (lv_at hl 3 rfl) ?_
  refine lv_iconst (v := 4) hx hb dL_law_745 (by decide) ?_
  refine lv_iadd hx hb dL_law_746 ?_
  refine va_sld hx hb hX hbl hbA hS1 h4 dL_law_747 ?_
  refine xr_uI (n := 4) (w2 := cs_w adx cI cR (csLn La d) S1) (As := [.int (xs (x3 + 1).toNatClampNeg), .int (xs (x3 + 2).toNatClampNeg), .int (xs (x3 + 3).toNatClampNeg), .int (xs (x3 + 4).toNatClampNeg)]) (rest := [.int r1]) fx (ct_X8_derive l D adm cI cJ cR (hm (fun r2 S2 => r2 = r ∧ MR La d A' S2) (fun S2 h => ⟨rfl, h⟩))) gL_law_X8_derive rfl rfl (by decide +kernel) ⟨Nat.le_of_ble_eq_true rfl, Nat.le_of_ble_eq_true rfl⟩ ⟨rfl, rfl⟩ (room_ok (by omega) (by omega)) (va_recv hK.1 hP2 (ci := 7) (q0 := 0) rfl rfl) hK hP2 hD2 hS1 hA hl.1 rfl (Nat.le_of_ble_eq_true rfl) dL_law_748 (fun r2 S2 H2 locs2 hq2 hP3 hD3 hS2 => ?_)
  obtain ⟨hr2, hM2⟩ := hq2
  exact lv_icmp_eq (tgt := 1376) hx hb dL_law_751 (by decide) (fun _ => kk A' H2 locs2 cells slots S1 S2 ⟨sw_P hP3, sw_D hD3, hS2, hC1, hM2, by rw [hKK, hA2]; exact hce, by rw [hKK, hA2]; exact hsl⟩) (fun c0 => absurd (hr1.trans hr2.symm) c0)
set_option maxHeartbeats 4000000 in
set_option maxRecDepth 100000 in
theorem lc_replace (hkr : KR La d) (F : lw_Fx p s m meth c b N xs D cI cJ cR) {A : AS} {adx adm : Nat → Nat} {H : Heap} {locs : List Loc} {cells slots : Nat} {Sc : cs_T} {Sm : ms_T} (S : lw_St La d D cI cJ cR s A adx adm H locs cells slots Sc Sm) {x3 : Int32} (h1 : vp_in (x3 + 1) N) (h2 : vp_in (x3 + 2) N) (h3 : vp_in (x3 + 3) N) (h4 : vp_in (x3 + 4) N) {ls : Array Slot} (hl : lv_has ls 4 [(0, .ref b), (1, .ref (adx 0)), (2, .ref (adm 0)), (3, .int x3)])
    (kk : ∀ (A' : AS) (H' : Heap) (locs' : List Loc) (cells' slots' : Nat) (Sc' : cs_T) (Sm' : ms_T), lw_St La d D cI cJ cR s A' adx adm H' locs' cells' slots' Sc' Sm' → W p l e room_1 s m #[Value.ref b] below meth c H' locs' cells' slots' (lw_Z below #[Value.ref b] s) (F0 m 1376 ls [])) : W p l e room_1 s m #[Value.ref b] below meth c H locs cells slots (lw_Z below #[Value.ref b] s) (F0 m 756 ls []) := by
  obtain ⟨fx, hX, hbl, hK⟩ := F
  obtain ⟨hP, hD, hS, hC, hM, hce, hsl⟩ := S
  obtain ⟨A1, x0, g0, hCX, hA2⟩ := CX_in hC hM
  obtain ⟨r, A', hKK, hc, hm⟩ := si_replace (a1 := xs (x3 + 1).toNatClampNeg) (a2 := xs (x3 + 2).toNatClampNeg) (a3 := xs (x3 + 3).toNatClampNeg) (a4 := xs (x3 + 4).toNatClampNeg) hCX
  obtain ⟨⟨hx, hb, hml, hown, hts⟩, hret, hlk⟩ := id fx
  have hA : ∀ q : Nat, s.heap.size ≤ q → (fun q : Nat => s.heap.size ≤ q) q := fun _ h => h
  have hbA : ¬ (fun q : Nat => s.heap.size ≤ q) b := Nat.not_le.mpr hbl
  refine lv_aload_n hx hb dL_law_756 rfl (lv_at hl 1 rfl) ?_
  refine lv_aload_n hx hb dL_law_757 rfl (lv_at hl 0 rfl) ?_
  refine lv_iload_n hx hb dL_law_758 rfl (lv_at hl 3 rfl) ?_
  refine lv_iconst (v := 1) hx hb dL_law_759 (by decide) ?_
  refine lv_iadd hx hb dL_law_760 ?_
  refine va_sld hx hb hX hbl hbA hS h1 dL_law_761 ?_
  refine lv_aload_n hx hb dL_law_762 rfl (lv_at hl 0 rfl) ?_
  refine lv_iload_n hx hb dL_law_763 rfl (lv_at hl 3 rfl) ?_
  refine lv_iconst (v := 2) hx hb dL_law_764 (by decide) ?_
  refine lv_iadd hx hb dL_law_765 ?_
  refine va_sld hx hb hX hbl hbA hS h2 dL_law_766 ?_
  refine lv_aload_n hx hb dL_law_767 rfl (lv_at hl 0 rfl) ?_
  refine lv_iload_n hx hb dL_law_768 rfl (lv_at hl 3 rfl) ?_
  refine lv_iconst (v := 3) hx hb dL_law_769 (by decide) ?_
  refine lv_iadd hx hb dL_law_770 ?_
  refine va_sld hx hb hX hbl hbA hS h3 dL_law_771 ?_
  refine lv_aload_n hx hb dL_law_772 rfl (lv_at hl 0 rfl) ?_
  refine lv_iload_n hx hb dL_law_773 rfl (lv_at hl 3 rfl) ?_
  refine lv_iconst (v := 4) hx hb dL_law_774 (by decide) ?_
  refine lv_iadd hx hb dL_law_775 ?_
  refine va_sld hx hb hX hbl hbA hS h4 dL_law_776 ?_
  refine xr_uI (n := 4) (w2 := ms_w adm cI cJ Sm) (As := [.int (xs (x3 + 1).toNatClampNeg), .int (xs (x3 + 2).toNatClampNeg), .int (xs (x3 + 3).toNatClampNeg), .int (xs (x3 + 4).toNatClampNeg)]) (rest := []) fx (ct_X7_replace l D adx cI cJ cR (csLn La d) (hc (fun r1 S1 => r1 = r ∧ CR La d (csLn La d) A' S1) (fun S1 h => ⟨rfl, h⟩))) gL_law_X7_replace rfl rfl (by decide +kernel) ⟨Nat.le_of_ble_eq_true rfl, Nat.le_of_ble_eq_true rfl⟩ ⟨rfl, rfl⟩ (room_ok (by omega) (by omega)) (va_recv hK.1 hP (ci := 6) (q0 := 0) rfl rfl) hK hP hD hS hA hl.1 rfl (Nat.le_of_ble_eq_true rfl) dL_law_777 (fun r1 S1 H1 locs1 hq hP1 hD1 hS1 => ?_)
  obtain ⟨hr1, hC1⟩ := hq
  have hP2 := sw_P hP1
  have hD2 := sw_D hD1
  refine lv_aload_n hx hb dL_law_780 rfl (lv_at hl 2 rfl) ?_
  refine lv_aload_n hx hb dL_law_781 rfl (lv_at hl 0 rfl) ?_
  refine lv_iload_n hx hb dL_law_782 rfl (lv_at hl 3 rfl) ?_
  refine lv_iconst (v := 1) hx hb dL_law_783 (by decide) ?_
  refine lv_iadd hx hb dL_law_784 ?_
  refine va_sld hx hb hX hbl hbA hS1 h1 dL_law_785 ?_
  refine lv_aload_n hx hb dL_law_786 rfl (lv_at hl 0 rfl) ?_
  refine lv_iload_n hx hb dL_law_787 rfl (lv_at hl 3 rfl) ?_
  refine lv_iconst (v := 2) hx hb dL_law_788 (by decide) ?_
  refine lv_iadd hx hb dL_law_789 ?_
  refine va_sld hx hb hX hbl hbA hS1 h2 dL_law_790 ?_
  refine lv_aload_n hx hb dL_law_791 rfl (lv_at hl 0 rfl) ?_
  refine lv_iload_n hx hb dL_law_792 rfl (lv_at hl 3 rfl) ?_
  refine lv_iconst (v := 3) hx hb dL_law_793 (by decide) ?_
  refine lv_iadd hx hb dL_law_794 ?_
  refine va_sld hx hb hX hbl hbA hS1 h3 dL_law_795 ?_
  refine lv_aload_n hx hb dL_law_796 rfl (lv_at hl 0 rfl) ?_
  refine lv_iload_n hx hb dL_law_797 rfl (lv_at hl 3 rfl) ?_
  refine lv_iconst (v := 4) hx hb dL_law_798 (by decide) ?_
  refine lv_iadd hx hb dL_law_799 ?_
  refine va_sld hx hb hX hbl hbA hS1 h4 dL_law_800 ?_
  refine xr_uI (n := 4) (w2 := cs_w adx cI cR (csLn La d) S1) (As := [.int (xs (x3 + 1).toNatClampNeg), .int (xs (x3 + 2).toNatClampNeg), .int (xs (x3 + 3).toNatClampNeg), .int (xs (x3 + 4).toNatClampNeg)]) (rest := [.int r1]) fx (ct_X8_replace l D adm cI cJ cR (hm (fun r2 S2 => r2 = r ∧ MR La d A' S2) (fun S2 h => ⟨rfl, h⟩))) gL_law_X8_replace rfl rfl (by decide +kernel) ⟨Nat.le_of_ble_eq_true rfl, Nat.le_of_ble_eq_true rfl⟩ ⟨rfl, rfl⟩ (room_ok (by omega) (by omega)) (va_recv hK.1 hP2 (ci := 7) (q0 := 0) rfl rfl) hK hP2 hD2 hS1 hA hl.1 rfl (Nat.le_of_ble_eq_true rfl) dL_law_801 (fun r2 S2 H2 locs2 hq2 hP3 hD3 hS2 => ?_)
  obtain ⟨hr2, hM2⟩ := hq2
  exact lv_icmp_eq (tgt := 1376) hx hb dL_law_804 (by decide) (fun _ => kk A' H2 locs2 cells slots S1 S2 ⟨sw_P hP3, sw_D hD3, hS2, hC1, hM2, by rw [hKK, hA2]; exact hce, by rw [hKK, hA2]; exact hsl⟩) (fun c0 => absurd (hr1.trans hr2.symm) c0)
set_option maxHeartbeats 4000000 in
set_option maxRecDepth 100000 in
theorem lc_part (hkr : KR La d) (F : lw_Fx p s m meth c b N xs D cI cJ cR) {A : AS} {adx adm : Nat → Nat} {H : Heap} {locs : List Loc} {cells slots : Nat} {Sc : cs_T} {Sm : ms_T} (S : lw_St La d D cI cJ cR s A adx adm H locs cells slots Sc Sm) {x3 : Int32} (h1 : vp_in (x3 + 1) N) (h2 : vp_in (x3 + 2) N) (h3 : vp_in (x3 + 3) N) (h4 : vp_in (x3 + 4) N) {ls : Array Slot} (hl : lv_has ls 4 [(0, .ref b), (1, .ref (adx 0)), (2, .ref (adm 0)), (3, .int x3)])
    (kk : ∀ (A' : AS) (H' : Heap) (locs' : List Loc) (cells' slots' : Nat) (Sc' : cs_T) (Sm' : ms_T), lw_St La d D cI cJ cR s A' adx adm H' locs' cells' slots' Sc' Sm' → W p l e room_1 s m #[Value.ref b] below meth c H' locs' cells' slots' (lw_Z below #[Value.ref b] s) (F0 m 1376 ls [])) : W p l e room_1 s m #[Value.ref b] below meth c H locs cells slots (lw_Z below #[Value.ref b] s) (F0 m 809 ls []) := by
  obtain ⟨fx, hX, hbl, hK⟩ := F
  obtain ⟨hP, hD, hS, hC, hM, hce, hsl⟩ := S
  obtain ⟨A1, x0, g0, hCX, hA2⟩ := CX_in hC hM
  obtain ⟨r, A', hKK, hc, hm⟩ := si_part (a1 := xs (x3 + 1).toNatClampNeg) (a2 := xs (x3 + 2).toNatClampNeg) (a3 := xs (x3 + 3).toNatClampNeg) hCX
  obtain ⟨⟨hx, hb, hml, hown, hts⟩, hret, hlk⟩ := id fx
  have hA : ∀ q : Nat, s.heap.size ≤ q → (fun q : Nat => s.heap.size ≤ q) q := fun _ h => h
  have hbA : ¬ (fun q : Nat => s.heap.size ≤ q) b := Nat.not_le.mpr hbl
  refine lv_aload_n hx hb dL_law_809 rfl (lv_at hl 1 rfl) ?_
  refine lv_aload_n hx hb dL_law_810 rfl (lv_at hl 0 rfl) ?_
  refine lv_iload_n hx hb dL_law_811 rfl (lv_at hl 3 rfl) ?_
  refine lv_iconst (v := 1) hx hb dL_law_812 (by decide) ?_
  refine lv_iadd hx hb dL_law_813 ?_
  refine va_sld hx hb hX hbl hbA hS h1 dL_law_814 ?_
  refine lv_aload_n hx hb dL_law_815 rfl (lv_at hl 0 rfl) ?_
  refine lv_iload_n hx hb dL_law_816 rfl (lv_at hl 3 rfl) ?_
  refine lv_iconst (v := 2) hx hb dL_law_817 (by decide) ?_
  refine lv_iadd hx hb dL_law_818 ?_
  refine va_sld hx hb hX hbl hbA hS h2 dL_law_819 ?_
  refine lv_aload_n hx hb dL_law_820 rfl (lv_at hl 0 rfl) ?_
  refine lv_iload_n hx hb dL_law_821 rfl (lv_at hl 3 rfl) ?_
  refine lv_iconst (v := 3) hx hb dL_law_822 (by decide) ?_
  refine lv_iadd hx hb dL_law_823 ?_
  refine va_sld hx hb hX hbl hbA hS h3 dL_law_824 ?_
  refine xr_uI (n := 3) (w2 := ms_w adm cI cJ Sm) (As := [.int (xs (x3 + 1).toNatClampNeg), .int (xs (x3 + 2).toNatClampNeg), .int (xs (x3 + 3).toNatClampNeg)]) (rest := []) fx (ct_X7_part l D adx cI cJ cR (csLn La d) (hc (fun r1 S1 => r1 = r ∧ CR La d (csLn La d) A' S1) (fun S1 h => ⟨rfl, h⟩))) gL_law_X7_part rfl rfl (by decide +kernel) ⟨Nat.le_of_ble_eq_true rfl, Nat.le_of_ble_eq_true rfl⟩ ⟨rfl, rfl⟩ (room_ok (by omega) (by omega)) (va_recv hK.1 hP (ci := 6) (q0 := 0) rfl rfl) hK hP hD hS hA hl.1 rfl (Nat.le_of_ble_eq_true rfl) dL_law_825 (fun r1 S1 H1 locs1 hq hP1 hD1 hS1 => ?_)
  obtain ⟨hr1, hC1⟩ := hq
  have hP2 := sw_P hP1
  have hD2 := sw_D hD1
  refine lv_aload_n hx hb dL_law_828 rfl (lv_at hl 2 rfl) ?_
  refine lv_aload_n hx hb dL_law_829 rfl (lv_at hl 0 rfl) ?_
  refine lv_iload_n hx hb dL_law_830 rfl (lv_at hl 3 rfl) ?_
  refine lv_iconst (v := 1) hx hb dL_law_831 (by decide) ?_
  refine lv_iadd hx hb dL_law_832 ?_
  refine va_sld hx hb hX hbl hbA hS1 h1 dL_law_833 ?_
  refine lv_aload_n hx hb dL_law_834 rfl (lv_at hl 0 rfl) ?_
  refine lv_iload_n hx hb dL_law_835 rfl (lv_at hl 3 rfl) ?_
  refine lv_iconst (v := 2) hx hb dL_law_836 (by decide) ?_
  refine lv_iadd hx hb dL_law_837 ?_
  refine va_sld hx hb hX hbl hbA hS1 h2 dL_law_838 ?_
  refine lv_aload_n hx hb dL_law_839 rfl (lv_at hl 0 rfl) ?_
  refine lv_iload_n hx hb dL_law_840 rfl (lv_at hl 3 rfl) ?_
  refine lv_iconst (v := 3) hx hb dL_law_841 (by decide) ?_
  refine lv_iadd hx hb dL_law_842 ?_
  refine va_sld hx hb hX hbl hbA hS1 h3 dL_law_843 ?_
  refine xr_uI (n := 3) (w2 := cs_w adx cI cR (csLn La d) S1) (As := [.int (xs (x3 + 1).toNatClampNeg), .int (xs (x3 + 2).toNatClampNeg), .int (xs (x3 + 3).toNatClampNeg)]) (rest := [.int r1]) fx (ct_X8_part l D adm cI cJ cR (hm (fun r2 S2 => r2 = r ∧ MR La d A' S2) (fun S2 h => ⟨rfl, h⟩))) gL_law_X8_part rfl rfl (by decide +kernel) ⟨Nat.le_of_ble_eq_true rfl, Nat.le_of_ble_eq_true rfl⟩ ⟨rfl, rfl⟩ (room_ok (by omega) (by omega)) (va_recv hK.1 hP2 (ci := 7) (q0 := 0) rfl rfl) hK hP2 hD2 hS1 hA hl.1 rfl (Nat.le_of_ble_eq_true rfl) dL_law_844 (fun r2 S2 H2 locs2 hq2 hP3 hD3 hS2 => ?_)
  obtain ⟨hr2, hM2⟩ := hq2
  exact lv_icmp_eq (tgt := 1376) hx hb dL_law_847 (by decide) (fun _ => kk A' H2 locs2 cells slots S1 S2 ⟨sw_P hP3, sw_D hD3, hS2, hC1, hM2, by rw [hKK, hA2]; exact hce, by rw [hKK, hA2]; exact hsl⟩) (fun c0 => absurd (hr1.trans hr2.symm) c0)
set_option maxHeartbeats 4000000 in
set_option maxRecDepth 100000 in
theorem lc_pair (hkr : KR La d) (F : lw_Fx p s m meth c b N xs D cI cJ cR) {A : AS} {adx adm : Nat → Nat} {H : Heap} {locs : List Loc} {cells slots : Nat} {Sc : cs_T} {Sm : ms_T} (S : lw_St La d D cI cJ cR s A adx adm H locs cells slots Sc Sm) {x3 : Int32} (h1 : vp_in (x3 + 1) N) (h2 : vp_in (x3 + 2) N) (h3 : vp_in (x3 + 3) N) (h4 : vp_in (x3 + 4) N) {ls : Array Slot} (hl : lv_has ls 4 [(0, .ref b), (1, .ref (adx 0)), (2, .ref (adm 0)), (3, .int x3)])
    (kk : ∀ (A' : AS) (H' : Heap) (locs' : List Loc) (cells' slots' : Nat) (Sc' : cs_T) (Sm' : ms_T), lw_St La d D cI cJ cR s A' adx adm H' locs' cells' slots' Sc' Sm' → W p l e room_1 s m #[Value.ref b] below meth c H' locs' cells' slots' (lw_Z below #[Value.ref b] s) (F0 m 1376 ls [])) : W p l e room_1 s m #[Value.ref b] below meth c H locs cells slots (lw_Z below #[Value.ref b] s) (F0 m 852 ls []) := by
  obtain ⟨fx, hX, hbl, hK⟩ := F
  obtain ⟨hP, hD, hS, hC, hM, hce, hsl⟩ := S
  obtain ⟨A1, x0, g0, hCX, hA2⟩ := CX_in hC hM
  obtain ⟨r, A', hKK, hc, hm⟩ := si_pair (a1 := xs (x3 + 1).toNatClampNeg) (a2 := xs (x3 + 2).toNatClampNeg) hCX
  obtain ⟨⟨hx, hb, hml, hown, hts⟩, hret, hlk⟩ := id fx
  have hA : ∀ q : Nat, s.heap.size ≤ q → (fun q : Nat => s.heap.size ≤ q) q := fun _ h => h
  have hbA : ¬ (fun q : Nat => s.heap.size ≤ q) b := Nat.not_le.mpr hbl
  refine lv_aload_n hx hb dL_law_852 rfl (lv_at hl 1 rfl) ?_
  refine lv_aload_n hx hb dL_law_853 rfl (lv_at hl 0 rfl) ?_
  refine lv_iload_n hx hb dL_law_854 rfl (lv_at hl 3 rfl) ?_
  refine lv_iconst (v := 1) hx hb dL_law_855 (by decide) ?_
  refine lv_iadd hx hb dL_law_856 ?_
  refine va_sld hx hb hX hbl hbA hS h1 dL_law_857 ?_
  refine lv_aload_n hx hb dL_law_858 rfl (lv_at hl 0 rfl) ?_
  refine lv_iload_n hx hb dL_law_859 rfl (lv_at hl 3 rfl) ?_
  refine lv_iconst (v := 2) hx hb dL_law_860 (by decide) ?_
  refine lv_iadd hx hb dL_law_861 ?_
  refine va_sld hx hb hX hbl hbA hS h2 dL_law_862 ?_
  refine xr_uI (n := 2) (w2 := ms_w adm cI cJ Sm) (As := [.int (xs (x3 + 1).toNatClampNeg), .int (xs (x3 + 2).toNatClampNeg)]) (rest := []) fx (ct_X7_pair l D adx cI cJ cR (csLn La d) (hc (fun r1 S1 => r1 = r ∧ CR La d (csLn La d) A' S1) (fun S1 h => ⟨rfl, h⟩))) gL_law_X7_pair rfl rfl (by decide +kernel) ⟨Nat.le_of_ble_eq_true rfl, Nat.le_of_ble_eq_true rfl⟩ ⟨rfl, rfl⟩ (room_ok (by omega) (by omega)) (va_recv hK.1 hP (ci := 6) (q0 := 0) rfl rfl) hK hP hD hS hA hl.1 rfl (Nat.le_of_ble_eq_true rfl) dL_law_863 (fun r1 S1 H1 locs1 hq hP1 hD1 hS1 => ?_)
  obtain ⟨hr1, hC1⟩ := hq
  have hP2 := sw_P hP1
  have hD2 := sw_D hD1
  refine lv_aload_n hx hb dL_law_866 rfl (lv_at hl 2 rfl) ?_
  refine lv_aload_n hx hb dL_law_867 rfl (lv_at hl 0 rfl) ?_
  refine lv_iload_n hx hb dL_law_868 rfl (lv_at hl 3 rfl) ?_
  refine lv_iconst (v := 1) hx hb dL_law_869 (by decide) ?_
  refine lv_iadd hx hb dL_law_870 ?_
  refine va_sld hx hb hX hbl hbA hS1 h1 dL_law_871 ?_
  refine lv_aload_n hx hb dL_law_872 rfl (lv_at hl 0 rfl) ?_
  refine lv_iload_n hx hb dL_law_873 rfl (lv_at hl 3 rfl) ?_
  refine lv_iconst (v := 2) hx hb dL_law_874 (by decide) ?_
  refine lv_iadd hx hb dL_law_875 ?_
  refine va_sld hx hb hX hbl hbA hS1 h2 dL_law_876 ?_
  refine xr_uI (n := 2) (w2 := cs_w adx cI cR (csLn La d) S1) (As := [.int (xs (x3 + 1).toNatClampNeg), .int (xs (x3 + 2).toNatClampNeg)]) (rest := [.int r1]) fx (ct_X8_pair l D adm cI cJ cR (hm (fun r2 S2 => r2 = r ∧ MR La d A' S2) (fun S2 h => ⟨rfl, h⟩))) gL_law_X8_pair rfl rfl (by decide +kernel) ⟨Nat.le_of_ble_eq_true rfl, Nat.le_of_ble_eq_true rfl⟩ ⟨rfl, rfl⟩ (room_ok (by omega) (by omega)) (va_recv hK.1 hP2 (ci := 7) (q0 := 0) rfl rfl) hK hP2 hD2 hS1 hA hl.1 rfl (Nat.le_of_ble_eq_true rfl) dL_law_877 (fun r2 S2 H2 locs2 hq2 hP3 hD3 hS2 => ?_)
  obtain ⟨hr2, hM2⟩ := hq2
  exact lv_icmp_eq (tgt := 1376) hx hb dL_law_880 (by decide) (fun _ => kk A' H2 locs2 cells slots S1 S2 ⟨sw_P hP3, sw_D hD3, hS2, hC1, hM2, by rw [hKK, hA2]; exact hce, by rw [hKK, hA2]; exact hsl⟩) (fun c0 => absurd (hr1.trans hr2.symm) c0)
set_option maxHeartbeats 4000000 in
set_option maxRecDepth 100000 in
theorem lc_lyndon (hkr : KR La d) (F : lw_Fx p s m meth c b N xs D cI cJ cR) {A : AS} {adx adm : Nat → Nat} {H : Heap} {locs : List Loc} {cells slots : Nat} {Sc : cs_T} {Sm : ms_T} (S : lw_St La d D cI cJ cR s A adx adm H locs cells slots Sc Sm) {x3 : Int32} (h1 : vp_in (x3 + 1) N) (h2 : vp_in (x3 + 2) N) (h3 : vp_in (x3 + 3) N) (h4 : vp_in (x3 + 4) N) {ls : Array Slot} (hl : lv_has ls 4 [(0, .ref b), (1, .ref (adx 0)), (2, .ref (adm 0)), (3, .int x3)])
    (kk : ∀ (A' : AS) (H' : Heap) (locs' : List Loc) (cells' slots' : Nat) (Sc' : cs_T) (Sm' : ms_T), lw_St La d D cI cJ cR s A' adx adm H' locs' cells' slots' Sc' Sm' → W p l e room_1 s m #[Value.ref b] below meth c H' locs' cells' slots' (lw_Z below #[Value.ref b] s) (F0 m 1376 ls [])) : W p l e room_1 s m #[Value.ref b] below meth c H locs cells slots (lw_Z below #[Value.ref b] s) (F0 m 885 ls []) := by
  obtain ⟨fx, hX, hbl, hK⟩ := F
  obtain ⟨hP, hD, hS, hC, hM, hce, hsl⟩ := S
  obtain ⟨A1, x0, g0, hCX, hA2⟩ := CX_in hC hM
  obtain ⟨r, A', hKK, hc, hm⟩ := si_lyndon (a := xs (x3 + 1).toNatClampNeg) hCX
  obtain ⟨⟨hx, hb, hml, hown, hts⟩, hret, hlk⟩ := id fx
  have hA : ∀ q : Nat, s.heap.size ≤ q → (fun q : Nat => s.heap.size ≤ q) q := fun _ h => h
  have hbA : ¬ (fun q : Nat => s.heap.size ≤ q) b := Nat.not_le.mpr hbl
  refine lv_aload_n hx hb dL_law_885 rfl (lv_at hl 1 rfl) ?_
  refine lv_aload_n hx hb dL_law_886 rfl (lv_at hl 0 rfl) ?_
  refine lv_iload_n hx hb dL_law_887 rfl (lv_at hl 3 rfl) ?_
  refine lv_iconst (v := 1) hx hb dL_law_888 (by decide) ?_
  refine lv_iadd hx hb dL_law_889 ?_
  refine va_sld hx hb hX hbl hbA hS h1 dL_law_890 ?_
  refine xr_uI (n := 1) (w2 := ms_w adm cI cJ Sm) (As := [.int (xs (x3 + 1).toNatClampNeg)]) (rest := []) fx (ct_X7_lyndon l D adx cI cJ cR (csLn La d) (hc (fun r1 S1 => r1 = r ∧ CR La d (csLn La d) A' S1) (fun S1 h => ⟨rfl, h⟩))) gL_law_X7_lyndon rfl rfl (by decide +kernel) ⟨Nat.le_of_ble_eq_true rfl, Nat.le_of_ble_eq_true rfl⟩ ⟨rfl, rfl⟩ (room_ok (by omega) (by omega)) (va_recv hK.1 hP (ci := 6) (q0 := 0) rfl rfl) hK hP hD hS hA hl.1 rfl (Nat.le_of_ble_eq_true rfl) dL_law_891 (fun r1 S1 H1 locs1 hq hP1 hD1 hS1 => ?_)
  obtain ⟨hr1, hC1⟩ := hq
  have hP2 := sw_P hP1
  have hD2 := sw_D hD1
  refine lv_aload_n hx hb dL_law_894 rfl (lv_at hl 2 rfl) ?_
  refine lv_aload_n hx hb dL_law_895 rfl (lv_at hl 0 rfl) ?_
  refine lv_iload_n hx hb dL_law_896 rfl (lv_at hl 3 rfl) ?_
  refine lv_iconst (v := 1) hx hb dL_law_897 (by decide) ?_
  refine lv_iadd hx hb dL_law_898 ?_
  refine va_sld hx hb hX hbl hbA hS1 h1 dL_law_899 ?_
  refine xr_uI (n := 1) (w2 := cs_w adx cI cR (csLn La d) S1) (As := [.int (xs (x3 + 1).toNatClampNeg)]) (rest := [.int r1]) fx (ct_X8_lyndon l D adm cI cJ cR (hm (fun r2 S2 => r2 = r ∧ MR La d A' S2) (fun S2 h => ⟨rfl, h⟩))) gL_law_X8_lyndon rfl rfl (by decide +kernel) ⟨Nat.le_of_ble_eq_true rfl, Nat.le_of_ble_eq_true rfl⟩ ⟨rfl, rfl⟩ (room_ok (by omega) (by omega)) (va_recv hK.1 hP2 (ci := 7) (q0 := 0) rfl rfl) hK hP2 hD2 hS1 hA hl.1 rfl (Nat.le_of_ble_eq_true rfl) dL_law_900 (fun r2 S2 H2 locs2 hq2 hP3 hD3 hS2 => ?_)
  obtain ⟨hr2, hM2⟩ := hq2
  exact lv_icmp_eq (tgt := 1376) hx hb dL_law_903 (by decide) (fun _ => kk A' H2 locs2 cells slots S1 S2 ⟨sw_P hP3, sw_D hD3, hS2, hC1, hM2, by rw [hKK, hA2]; exact hce, by rw [hKK, hA2]; exact hsl⟩) (fun c0 => absurd (hr1.trans hr2.symm) c0)
end ZE
