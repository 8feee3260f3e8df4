/-! the law: its calls -/
section ZE
variable {p : Program} {l : Launch} {e : Env} {s : State} {m : MethodId} {below : List Frame} {meth : Method} {c : Code} {b N : Nat} {xs : Nat → Int32} {D : va_G} {cI cJ cR : ClassId} {La d : Nat}
set_option maxHeartbeats 4000000 in
set_option maxRecDepth 100000 in
theorem lc_lyndons (hkr : KR La d) (F : lw_Fx p s m meth c b N xs D cI cJ cR) {A : AS} {adx adm : Nat → Nat} {H : Heap} {locs : List Loc} {cells slots : Nat} {Sc : cs_T} {Sm : ms_T} (S : lw_St La d D cI cJ cR s A adx adm H locs cells slots Sc Sm) {x3 : Int32} (h1 : vp_in (x3 + 1) N) (h2 : vp_in (x3 + 2) N) (h3 : vp_in (x3 + 3) N) (h4 : vp_in (x3 + 4) N) {ls : Array Slot} (hl : lv_has ls 4 [(0, .ref b), (1, .ref (adx 0)), (2, .ref (adm 0)), (3, .int x3)])
    (kk : ∀ (A' : AS) (H' : Heap) (locs' : List Loc) (cells' slots' : Nat) (Sc' : cs_T) (Sm' : ms_T), lw_St La d D cI cJ cR s A' adx adm H' locs' cells' slots' Sc' Sm' → W p l e room_1 s m #[Value.ref b] below meth c H' locs' cells' slots' (lw_Z below #[Value.ref b] s) (F0 m 1376 ls [])) : W p l e room_1 s m #[Value.ref b] below meth c H locs cells slots (lw_Z below #[Value.ref b] s) (F0 m 908 ls []) := by
  obtain ⟨fx, hX, hbl, hK⟩ := F
  obtain ⟨hP, hD, hS, hC, hM, hce, hsl⟩ := S
  obtain ⟨A1, x0, g0, hCX, hA2⟩ := CX_in hC hM
  obtain ⟨r, A', hKK, hc, hm⟩ := si_lyndons (a := xs (x3 + 1).toNatClampNeg) hCX
  obtain ⟨⟨hx, hb, hml, hown, hts⟩, hret, hlk⟩ := id fx
  have hA : ∀ q : Nat, s.heap.size ≤ q → (fun q : Nat => s.heap.size ≤ q) q := fun _ h => h
  have hbA : ¬ (fun q : Nat => s.heap.size ≤ q) b := Nat.not_le.mpr hbl
  refine lv_aload_n hx hb dL_law_908 rfl (lv_at hl 1 rfl) ?_
  refine lv_aload_n hx hb dL_law_909 rfl (lv_at hl 0 rfl) ?_
  refine lv_iload_n hx hb dL_law_910 rfl (lv_at hl 3 rfl) ?_
  refine lv_iconst (v := 1) hx hb dL_law_911 (by decide) ?_
  refine lv_iadd hx hb dL_law_912 ?_
  refine va_sld hx hb hX hbl hbA hS h1 dL_law_913 ?_
  refine xr_uI (n := 1) (w2 := ms_w adm cI cJ Sm) (As := [.int (xs (x3 + 1).toNatClampNeg)]) (rest := []) fx (ct_X7_lyndons l D adx cI cJ cR (csLn La d) (hc (fun r1 S1 => r1 = r ∧ CR La d (csLn La d) A' S1) (fun S1 h => ⟨rfl, h⟩))) gL_law_X7_lyndons rfl rfl (by decide +kernel) ⟨Nat.le_of_ble_eq_true rfl, Nat.le_of_ble_eq_true rfl⟩ ⟨rfl, rfl⟩ (room_ok (by omega) (by omega)) (va_recv hK.1 hP (ci := 6) (q0 := 0) rfl rfl) hK hP hD hS hA hl.1 rfl (Nat.le_of_ble_eq_true rfl) dL_law_914 (fun r1 S1 H1 locs1 hq hP1 hD1 hS1 => ?_)
  obtain ⟨hr1, hC1⟩ := hq
  have hP2 := sw_P hP1
  have hD2 := sw_D hD1
  refine lv_aload_n hx hb dL_law_917 rfl (lv_at hl 2 rfl) ?_
  refine lv_aload_n hx hb dL_law_918 rfl (lv_at hl 0 rfl) ?_
  refine lv_iload_n hx hb dL_law_919 rfl (lv_at hl 3 rfl) ?_
  refine lv_iconst (v := 1) hx hb dL_law_920 (by decide) ?_
  refine lv_iadd hx hb dL_law_921 ?_
  refine va_sld hx hb hX hbl hbA hS1 h1 dL_law_922 ?_
  refine xr_uI (n := 1) (w2 := cs_w adx cI cR (csLn La d) S1) (As := [.int (xs (x3 + 1).toNatClampNeg)]) (rest := [.int r1]) fx (ct_X8_lyndons l D adm cI cJ cR (hm (fun r2 S2 => r2 = r ∧ MR La d A' S2) (fun S2 h => ⟨rfl, h⟩))) gL_law_X8_lyndons rfl rfl (by decide +kernel) ⟨Nat.le_of_ble_eq_true rfl, Nat.le_of_ble_eq_true rfl⟩ ⟨rfl, rfl⟩ (room_ok (by omega) (by omega)) (va_recv hK.1 hP2 (ci := 7) (q0 := 0) rfl rfl) hK hP2 hD2 hS1 hA hl.1 rfl (Nat.le_of_ble_eq_true rfl) dL_law_923 (fun r2 S2 H2 locs2 hq2 hP3 hD3 hS2 => ?_)
  obtain ⟨hr2, hM2⟩ := hq2
  exact lv_icmp_eq (tgt := 1376) hx hb dL_law_926 (by decide) (fun _ => kk A' H2 locs2 cells slots S1 S2 ⟨sw_P hP3, sw_D hD3, hS2, hC1, hM2, by rw [hKK, hA2]; exact hce, by rw [hKK, hA2]; exact hsl⟩) (fun c0 => absurd (hr1.trans hr2.symm) c0)
set_option maxHeartbeats 4000000 in
set_option maxRecDepth 100000 in
theorem lc_side (hkr : KR La d) (F : lw_Fx p s m meth c b N xs D cI cJ cR) {A : AS} {adx adm : Nat → Nat} {H : Heap} {locs : List Loc} {cells slots : Nat} {Sc : cs_T} {Sm : ms_T} (S : lw_St La d D cI cJ cR s A adx adm H locs cells slots Sc Sm) {x3 : Int32} (h1 : vp_in (x3 + 1) N) (h2 : vp_in (x3 + 2) N) (h3 : vp_in (x3 + 3) N) (h4 : vp_in (x3 + 4) N) {ls : Array Slot} (hl : lv_has ls 4 [(0, .ref b), (1, .ref (adx 0)), (2, .ref (adm 0)), (3, .int x3)])
    (kk : ∀ (A' : AS) (H' : Heap) (locs' : List Loc) (cells' slots' : Nat) (Sc' : cs_T) (Sm' : ms_T), lw_St La d D cI cJ cR s A' adx adm H' locs' cells' slots' Sc' Sm' → W p l e room_1 s m #[Value.ref b] below meth c H' locs' cells' slots' (lw_Z below #[Value.ref b] s) (F0 m 1376 ls [])) : W p l e room_1 s m #[Value.ref b] below meth c H locs cells slots (lw_Z below #[Value.ref b] s) (F0 m 931 ls []) := by
  obtain ⟨fx, hX, hbl, hK⟩ := F
  obtain ⟨hP, hD, hS, hC, hM, hce, hsl⟩ := S
  obtain ⟨A1, x0, g0, hCX, hA2⟩ := CX_in hC hM
  obtain ⟨r, A', hKK, hc, hm⟩ := si_side (a1 := xs (x3 + 1).toNatClampNeg) (a2 := xs (x3 + 2).toNatClampNeg) hCX
  obtain ⟨⟨hx, hb, hml, hown, hts⟩, hret, hlk⟩ := id fx
  have hA : ∀ q : Nat, s.heap.size ≤ q → (fun q : Nat => s.heap.size ≤ q) q := fun _ h => h
  have hbA : ¬ (fun q : Nat => s.heap.size ≤ q) b := Nat.not_le.mpr hbl
  refine lv_aload_n hx hb dL_law_931 rfl (lv_at hl 1 rfl) ?_
  refine lv_aload_n hx hb dL_law_932 rfl (lv_at hl 0 rfl) ?_
  refine lv_iload_n hx hb dL_law_933 rfl (lv_at hl 3 rfl) ?_
  refine lv_iconst (v := 1) hx hb dL_law_934 (by decide) ?_
  refine lv_iadd hx hb dL_law_935 ?_
  refine va_sld hx hb hX hbl hbA hS h1 dL_law_936 ?_
  refine lv_aload_n hx hb dL_law_937 rfl (lv_at hl 0 rfl) ?_
  refine lv_iload_n hx hb dL_law_938 rfl (lv_at hl 3 rfl) ?_
  refine lv_iconst (v := 2) hx hb dL_law_939 (by decide) ?_
  refine lv_iadd hx hb dL_law_940 ?_
  refine va_sld hx hb hX hbl hbA hS h2 dL_law_941 ?_
  refine xr_uI (n := 2) (w2 := ms_w adm cI cJ Sm) (As := [.int (xs (x3 + 1).toNatClampNeg), .int (xs (x3 + 2).toNatClampNeg)]) (rest := []) fx (ct_X7_side l D adx cI cJ cR (csLn La d) (hc (fun r1 S1 => r1 = r ∧ CR La d (csLn La d) A' S1) (fun S1 h => ⟨rfl, h⟩))) gL_law_X7_side rfl rfl (by decide +kernel) ⟨Nat.le_of_ble_eq_true rfl, Nat.le_of_ble_eq_true rfl⟩ ⟨rfl, rfl⟩ (room_ok (by omega) (by omega)) (va_recv hK.1 hP (ci := 6) (q0 := 0) rfl rfl) hK hP hD hS hA hl.1 rfl (Nat.le_of_ble_eq_true rfl) dL_law_942 (fun r1 S1 H1 locs1 hq hP1 hD1 hS1 => ?_)
  obtain ⟨hr1, hC1⟩ := hq
  have hP2 := sw_P hP1
  have hD2 := sw_D hD1
  refine lv_aload_n hx hb dL_law_945 rfl (lv_at hl 2 rfl) ?_
  refine lv_aload_n hx hb dL_law_946 rfl (lv_at hl 0 rfl) ?_
  refine lv_iload_n hx hb dL_law_947 rfl (lv_at hl 3 rfl) ?_
  refine lv_iconst (v := 1) hx hb dL_law_948 (by decide) ?_
  refine lv_iadd hx hb dL_law_949 ?_
  refine va_sld hx hb hX hbl hbA hS1 h1 dL_law_950 ?_
  refine lv_aload_n hx hb dL_law_951 rfl (lv_at hl 0 rfl) ?_
  refine lv_iload_n hx hb dL_law_952 rfl (lv_at hl 3 rfl) ?_
  refine lv_iconst (v := 2) hx hb dL_law_953 (by decide) ?_
  refine lv_iadd hx hb dL_law_954 ?_
  refine va_sld hx hb hX hbl hbA hS1 h2 dL_law_955 ?_
  refine xr_uI (n := 2) (w2 := cs_w adx cI cR (csLn La d) S1) (As := [.int (xs (x3 + 1).toNatClampNeg), .int (xs (x3 + 2).toNatClampNeg)]) (rest := [.int r1]) fx (ct_X8_side l D adm cI cJ cR (hm (fun r2 S2 => r2 = r ∧ MR La d A' S2) (fun S2 h => ⟨rfl, h⟩))) gL_law_X8_side rfl rfl (by decide +kernel) ⟨Nat.le_of_ble_eq_true rfl, Nat.le_of_ble_eq_true rfl⟩ ⟨rfl, rfl⟩ (room_ok (by omega) (by omega)) (va_recv hK.1 hP2 (ci := 7) (q0 := 0) rfl rfl) hK hP2 hD2 hS1 hA hl.1 rfl (Nat.le_of_ble_eq_true rfl) dL_law_956 (fun r2 S2 H2 locs2 hq2 hP3 hD3 hS2 => ?_)
  obtain ⟨hr2, hM2⟩ := hq2
  exact lv_icmp_eq (tgt := 1376) hx hb dL_law_959 (by decide) (fun _ => kk A' H2 locs2 cells slots S1 S2 ⟨sw_P hP3, sw_D hD3, hS2, hC1, hM2, by rw [hKK, hA2]; exact hce, by rw [hKK, hA2]; exact hsl⟩) (fun c0 => absurd (hr1.trans hr2.symm) c0)
set_option maxHeartbeats 4000000 in
set_option maxRecDepth 100000 in
theorem lc_basis (hkr : KR La d) (F : lw_Fx p s m meth c b N xs D cI cJ cR) {A : AS} {adx adm : Nat → Nat} {H : Heap} {locs : List Loc} {cells slots : Nat} {Sc : cs_T} {Sm : ms_T} (S : lw_St La d D cI cJ cR s A adx adm H locs cells slots Sc Sm) {x3 : Int32} (h1 : vp_in (x3 + 1) N) (h2 : vp_in (x3 + 2) N) (h3 : vp_in (x3 + 3) N) (h4 : vp_in (x3 + 4) N) {ls : Array Slot} (hl : lv_has ls 4 [(0, .ref b), (1, .ref (adx 0)), (2, .ref (adm 0)), (3, .int x3)])
    (kk : ∀ (A' : AS) (H' : Heap) (locs' : List Loc) (cells' slots' : Nat) (Sc' : cs_T) (Sm' : ms_T), lw_St La d D cI cJ cR s A' adx adm H' locs' cells' slots' Sc' Sm' → W p l e room_1 s m #[Value.ref b] below meth c H' locs' cells' slots' (lw_Z below #[Value.ref b] s) (F0 m 1376 ls [])) : W p l e room_1 s m #[Value.ref b] below meth c H locs cells slots (lw_Z below #[Value.ref b] s) (F0 m 964 ls []) := by
  obtain ⟨fx, hX, hbl, hK⟩ := F
  obtain ⟨hP, hD, hS, hC, hM, hce, hsl⟩ := S
  obtain ⟨A1, x0, g0, hCX, hA2⟩ := CX_in hC hM
  obtain ⟨r, A', hKK, hc, hm⟩ := si_basis (a1 := xs (x3 + 1).toNatClampNeg) (a2 := xs (x3 + 2).toNatClampNeg) hCX
  obtain ⟨⟨hx, hb, hml, hown, hts⟩, hret, hlk⟩ := id fx
  have hA : ∀ q : Nat, s.heap.size ≤ q → (fun q : Nat => s.heap.size ≤ q) q := fun _ h => h
  have hbA : ¬ (fun q : Nat => s.heap.size ≤ q) b := Nat.not_le.mpr hbl
  refine lv_aload_n hx hb dL_law_964 rfl (lv_at hl 1 rfl) ?_
  refine lv_aload_n hx hb dL_law_965 rfl (lv_at hl 0 rfl) ?_
  refine lv_iload_n hx hb dL_law_966 rfl (lv_at hl 3 rfl) ?_
  refine lv_iconst (v := 1) hx hb dL_law_967 (by decide) ?_
  refine lv_iadd hx hb dL_law_968 ?_
  refine va_sld hx hb hX hbl hbA hS h1 dL_law_969 ?_
  refine lv_aload_n hx hb dL_law_970 rfl (lv_at hl 0 rfl) ?_
  refine lv_iload_n hx hb dL_law_971 rfl (lv_at hl 3 rfl) ?_
  refine lv_iconst (v := 2) hx hb dL_law_972 (by decide) ?_
  refine lv_iadd hx hb dL_law_973 ?_
  refine va_sld hx hb hX hbl hbA hS h2 dL_law_974 ?_
  refine xr_uI (n := 2) (w2 := ms_w adm cI cJ Sm) (As := [.int (xs (x3 + 1).toNatClampNeg), .int (xs (x3 + 2).toNatClampNeg)]) (rest := []) fx (ct_X7_basis l D adx cI cJ cR (csLn La d) (hc (fun r1 S1 => r1 = r ∧ CR La d (csLn La d) A' S1) (fun S1 h => ⟨rfl, h⟩))) gL_law_X7_basis rfl rfl (by decide +kernel) ⟨Nat.le_of_ble_eq_true rfl, Nat.le_of_ble_eq_true rfl⟩ ⟨rfl, rfl⟩ (room_ok (by omega) (by omega)) (va_recv hK.1 hP (ci := 6) (q0 := 0) rfl rfl) hK hP hD hS hA hl.1 rfl (Nat.le_of_ble_eq_true rfl) dL_law_975 (fun r1 S1 H1 locs1 hq hP1 hD1 hS1 => ?_)
  obtain ⟨hr1, hC1⟩ := hq
  have hP2 := sw_P hP1
  have hD2 := sw_D hD1
  refine lv_aload_n hx hb dL_law_978 rfl (lv_at hl 2 rfl) ?_
  refine lv_aload_n hx hb dL_law_979 rfl (lv_at hl 0 rfl) ?_
  refine lv_iload_n hx hb dL_law_980 rfl (lv_at hl 3 rfl) ?_
  refine lv_iconst (v := 1) hx hb dL_law_981 (by decide) ?_
  refine lv_iadd hx hb dL_law_982 ?_
  refine va_sld hx hb hX hbl hbA hS1 h1 dL_law_983 ?_
  refine lv_aload_n hx hb dL_law_984 rfl (lv_at hl 0 rfl) ?_
  refine lv_iload_n hx hb dL_law_985 rfl (lv_at hl 3 rfl) ?_
  refine lv_iconst (v := 2) hx hb dL_law_986 (by decide) ?_
  refine lv_iadd hx hb dL_law_987 ?_
  refine va_sld hx hb hX hbl hbA hS1 h2 dL_law_988 ?_
  refine xr_uI (n := 2) (w2 := cs_w adx cI cR (csLn La d) S1) (As := [.int (xs (x3 + 1).toNatClampNeg), .int (xs (x3 + 2).toNatClampNeg)]) (rest := [.int r1]) fx (ct_X8_basis l D adm cI cJ cR (hm (fun r2 S2 => r2 = r ∧ MR La d A' S2) (fun S2 h => ⟨rfl, h⟩))) gL_law_X8_basis rfl rfl (by decide +kernel) ⟨Nat.le_of_ble_eq_true rfl, Nat.le_of_ble_eq_true rfl⟩ ⟨rfl, rfl⟩ (room_ok (by omega) (by omega)) (va_recv hK.1 hP2 (ci := 7) (q0 := 0) rfl rfl) hK hP2 hD2 hS1 hA hl.1 rfl (Nat.le_of_ble_eq_true rfl) dL_law_989 (fun r2 S2 H2 locs2 hq2 hP3 hD3 hS2 => ?_)
  obtain ⟨hr2, hM2⟩ := hq2
  exact lv_icmp_eq (tgt := 1376) hx hb dL_law_992 (by decide) (fun _ => kk A' H2 locs2 cells slots S1 S2 ⟨sw_P hP3, sw_D hD3, hS2, hC1, hM2, by rw [hKK, hA2]; exact hce, by rw [hKK, hA2]; exact hsl⟩) (fun c0 => absurd (hr1.trans hr2.symm) c0)
set_option maxHeartbeats 4000000 in
set_option maxRecDepth 100000 in
theorem lc_text (hkr : KR La d) (F : lw_Fx p s m meth c b N xs D cI cJ cR) {A : AS} {adx adm : Nat → Nat} {H : Heap} {locs : List Loc} {cells slots : Nat} {Sc : cs_T} {Sm : ms_T} (S : lw_St La d D cI cJ cR s A adx adm H locs cells slots Sc Sm) {x3 : Int32} (h1 : vp_in (x3 + 1) N) (h2 : vp_in (x3 + 2) N) (h3 : vp_in (x3 + 3) N) (h4 : vp_in (x3 + 4) N) {ls : Array Slot} (hl : lv_has ls 4 [(0, .ref b), (1, .ref (adx 0)), (2, .ref (adm 0)), (3, .int x3)])
    (kk : ∀ (A' : AS) (H' : Heap) (locs' : List Loc) (cells' slots' : Nat) (Sc' : cs_T) (Sm' : ms_T), lw_St La d D cI cJ cR s A' adx adm H' locs' cells' slots' Sc' Sm' → W p l e room_1 s m #[Value.ref b] below meth c H' locs' cells' slots' (lw_Z below #[Value.ref b] s) (F0 m 1376 ls [])) : W p l e room_1 s m #[Value.ref b] below meth c H locs cells slots (lw_Z below #[Value.ref b] s) (F0 m 997 ls []) := by
  obtain ⟨fx, hX, hbl, hK⟩ := F
  obtain ⟨hP, hD, hS, hC, hM, hce, hsl⟩ := S
  obtain ⟨A1, x0, g0, hCX, hA2⟩ := CX_in hC hM
  obtain ⟨r, A', hKK, hc, hm⟩ := si_text (a1 := xs (x3 + 1).toNatClampNeg) (a2 := xs (x3 + 2).toNatClampNeg) hCX
  obtain ⟨⟨hx, hb, hml, hown, hts⟩, hret, hlk⟩ := id fx
  have hA : ∀ q : Nat, s.heap.size ≤ q → (fun q : Nat => s.heap.size ≤ q) q := fun _ h => h
  have hbA : ¬ (fun q : Nat => s.heap.size ≤ q) b := Nat.not_le.mpr hbl
  refine lv_aload_n hx hb dL_law_997 rfl (lv_at hl 1 rfl) ?_
  refine lv_aload_n hx hb dL_law_998 rfl (lv_at hl 0 rfl) ?_
  refine lv_iload_n hx hb dL_law_999 rfl (lv_at hl 3 rfl) ?_
  refine lv_iconst (v := 1) hx hb dL_law_1000 (by decide) ?_
  refine lv_iadd hx hb dL_law_1001 ?_
  refine va_sld hx hb hX hbl hbA hS h1 dL_law_1002 ?_
  refine lv_aload_n hx hb dL_law_1003 rfl (lv_at hl 0 rfl) ?_
  refine lv_iload_n hx hb dL_law_1004 rfl (lv_at hl 3 rfl) ?_
  refine lv_iconst (v := 2) hx hb dL_law_1005 (by decide) ?_
  refine lv_iadd hx hb dL_law_1006 ?_
  refine va_sld hx hb hX hbl hbA hS h2 dL_law_1007 ?_
  refine xr_uI (n := 2) (w2 := ms_w adm cI cJ Sm) (As := [.int (xs (x3 + 1).toNatClampNeg), .int (xs (x3 + 2).toNatClampNeg)]) (rest := []) fx (ct_X7_text l D adx cI cJ cR (csLn La d) (hc (fun r1 S1 => r1 = r ∧ CR La d (csLn La d) A' S1) (fun S1 h => ⟨rfl, h⟩))) gL_law_X7_text rfl rfl (by decide +kernel) ⟨Nat.le_of_ble_eq_true rfl, Nat.le_of_ble_eq_true rfl⟩ ⟨rfl, rfl⟩ (room_ok (by omega) (by omega)) (va_recv hK.1 hP (ci := 6) (q0 := 0) rfl rfl) hK hP hD hS hA hl.1 rfl (Nat.le_of_ble_eq_true rfl) dL_law_1008 (fun r1 S1 H1 locs1 hq hP1 hD1 hS1 => ?_)
  obtain ⟨hr1, hC1⟩ := hq
  have hP2 := sw_P hP1
  have hD2 := sw_D hD1
  refine lv_aload_n hx hb dL_law_1011 rfl (lv_at hl 2 rfl) ?_
  refine lv_aload_n hx hb dL_law_1012 rfl (lv_at hl 0 rfl) ?_
  refine lv_iload_n hx hb dL_law_1013 rfl (lv_at hl 3 rfl) ?_
  refine lv_iconst (v := 1) hx hb dL_law_1014 (by decide) ?_
  refine lv_iadd hx hb dL_law_1015 ?_
  refine va_sld hx hb hX hbl hbA hS1 h1 dL_law_1016 ?_
  refine lv_aload_n hx hb dL_law_1017 rfl (lv_at hl 0 rfl) ?_
  refine lv_iload_n hx hb dL_law_1018 rfl (lv_at hl 3 rfl) ?_
  refine lv_iconst (v := 2) hx hb dL_law_1019 (by decide) ?_
  refine lv_iadd hx hb dL_law_1020 ?_
  refine va_sld hx hb hX hbl hbA hS1 h2 dL_law_1021 ?_
  refine xr_uI (n := 2) (w2 := cs_w adx cI cR (csLn La d) S1) (As := [.int (xs (x3 + 1).toNatClampNeg), .int (xs (x3 + 2).toNatClampNeg)]) (rest := [.int r1]) fx (ct_X8_text l D adm cI cJ cR (hm (fun r2 S2 => r2 = r ∧ MR La d A' S2) (fun S2 h => ⟨rfl, h⟩))) gL_law_X8_text rfl rfl (by decide +kernel) ⟨Nat.le_of_ble_eq_true rfl, Nat.le_of_ble_eq_true rfl⟩ ⟨rfl, rfl⟩ (room_ok (by omega) (by omega)) (va_recv hK.1 hP2 (ci := 7) (q0 := 0) rfl rfl) hK hP2 hD2 hS1 hA hl.1 rfl (Nat.le_of_ble_eq_true rfl) dL_law_1022 (fun r2 S2 H2 locs2 hq2 hP3 hD3 hS2 => ?_)
  obtain ⟨hr2, hM2⟩ := hq2
  exact lv_icmp_eq (tgt := 1376) hx hb dL_law_1025 (by decide) (fun _ => kk A' H2 locs2 cells slots S1 S2 ⟨sw_P hP3, sw_D hD3, hS2, hC1, hM2, by rw [hKK, hA2]; exact hce, by rw [hKK, hA2]; exact hsl⟩) (fun c0 => absurd (hr1.trans hr2.symm) c0)
set_option maxHeartbeats 4000000 in
set_option maxRecDepth 100000 in
theorem lc_share (hkr : KR La d) (F : lw_Fx p s m meth c b N xs D cI cJ cR) {A : AS} {adx adm : Nat → Nat} {H : Heap} {locs : List Loc} {cells slots : Nat} {Sc : cs_T} {Sm : ms_T} (S : lw_St La d D cI cJ cR s A adx adm H locs cells slots Sc Sm) {x3 : Int32} (h1 : vp_in (x3 + 1) N) (h2 : vp_in (x3 + 2) N) (h3 : vp_in (x3 + 3) N) (h4 : vp_in (x3 + 4) N) {ls : Array Slot} (hl : lv_has ls 4 [(0, .ref b), (1, .ref (adx 0)), (2, .ref (adm 0)), (3, .int x3)])
    (kk : ∀ (A' : AS) (H' : Heap) (locs' : List Loc) (cells' slots' : Nat) (Sc' : cs_T) (Sm' : ms_T), lw_St La d D cI cJ cR s A' adx adm H' locs' cells' slots' Sc' Sm' → W p l e room_1 s m #[Value.ref b] below meth c H' locs' cells' slots' (lw_Z below #[Value.ref b] s) (F0 m 1376 ls [])) : W p l e room_1 s m #[Value.ref b] below meth c H locs cells slots (lw_Z below #[Value.ref b] s) (F0 m 1030 ls []) := by
  obtain ⟨fx, hX, hbl, hK⟩ := F
  obtain ⟨hP, hD, hS, hC, hM, hce, hsl⟩ := S
  obtain ⟨A1, x0, g0, hCX, hA2⟩ := CX_in hC hM
  obtain ⟨r, A', hKK, hc, hm⟩ := si_share (a1 := xs (x3 + 1).toNatClampNeg) (a2 := xs (x3 + 2).toNatClampNeg) hkr hCX
  obtain ⟨⟨hx, hb, hml, hown, hts⟩, hret, hlk⟩ := id fx
  have hA : ∀ q : Nat, s.heap.size ≤ q → (fun q : Nat => s.heap.size ≤ q) q := fun _ h => h
  have hbA : ¬ (fun q : Nat => s.heap.size ≤ q) b := Nat.not_le.mpr hbl
  refine lv_aload_n hx hb dL_law_1030 rfl (lv_at hl 1 rfl) ?_
  refine lv_aload_n hx hb dL_law_1031 rfl (lv_at hl 0 rfl) ?_
  refine lv_iload_n hx hb dL_law_1032 rfl (lv_at hl 3 rfl) ?_
  refine lv_iconst (v := 1) hx hb dL_law_1033 (by decide) ?_
  refine lv_iadd hx hb dL_law_1034 ?_
  refine va_sld hx hb hX hbl hbA hS h1 dL_law_1035 ?_
  refine lv_aload_n hx hb dL_law_1036 rfl (lv_at hl 0 rfl) ?_
  refine lv_iload_n hx hb dL_law_1037 rfl (lv_at hl 3 rfl) ?_
  refine lv_iconst (v := 2) hx hb dL_law_1038 (by decide) ?_
  refine lv_iadd hx hb dL_law_1039 ?_
  refine va_sld hx hb hX hbl hbA hS h2 dL_law_1040 ?_
  refine xr_uI (n := 2) (w2 := ms_w adm cI cJ Sm) (As := [.int (xs (x3 + 1).toNatClampNeg), .int (xs (x3 + 2).toNatClampNeg)]) (rest := []) fx (ct_X7_share l D adx cI cJ cR (csLn La d) (hc (fun r1 S1 => r1 = r ∧ CR La d (csLn La d) A' S1) (fun S1 h => ⟨rfl, h⟩))) gL_law_X7_share rfl rfl (by decide +kernel) ⟨Nat.le_of_ble_eq_true rfl, Nat.le_of_ble_eq_true rfl⟩ ⟨rfl, rfl⟩ (room_ok (by omega) (by omega)) (va_recv hK.1 hP (ci := 6) (q0 := 0) rfl rfl) hK hP hD hS hA hl.1 rfl (Nat.le_of_ble_eq_true rfl) dL_law_1041 (fun r1 S1 H1 locs1 hq hP1 hD1 hS1 => ?_)
  obtain ⟨hr1, hC1⟩ := hq
  have hP2 := sw_P hP1
  have hD2 := sw_D hD1
  refine lv_aload_n hx hb dL_law_1044 rfl (lv_at hl 2 rfl) ?_
  refine lv_aload_n hx hb dL_law_1045 rfl (lv_at hl 0 rfl) ?_
  refine lv_iload_n hx hb dL_law_1046 rfl (lv_at hl 3 rfl) ?_
  refine lv_iconst (v := 1) hx hb dL_law_1047 (by decide) ?_
  refine lv_iadd hx hb dL_law_1048 ?_
  refine va_sld hx hb hX hbl hbA hS1 h1 dL_law_1049 ?_
  refine lv_aload_n hx hb dL_law_1050 rfl (lv_at hl 0 rfl) ?_
  refine lv_iload_n hx hb dL_law_1051 rfl (lv_at hl 3 rfl) ?_
  refine lv_iconst (v := 2) hx hb dL_law_1052 (by decide) ?_
  refine lv_iadd hx hb dL_law_1053 ?_
  refine va_sld hx hb hX hbl hbA hS1 h2 dL_law_1054 ?_
  refine xr_uI (n := 2) (w2 := cs_w adx cI cR (csLn La d) S1) (As := [.int (xs (x3 + 1).toNatClampNeg), .int (xs (x3 + 2).toNatClampNeg)]) (rest := [.int r1]) fx (ct_X8_share l D adm cI cJ cR (hm (fun r2 S2 => r2 = r ∧ MR La d A' S2) (fun S2 h => ⟨rfl, h⟩))) gL_law_X8_share rfl rfl (by decide +kernel) ⟨Nat.le_of_ble_eq_true rfl, Nat.le_of_ble_eq_true rfl⟩ ⟨rfl, rfl⟩ (room_ok (by omega) (by omega)) (va_recv hK.1 hP2 (ci := 7) (q0 := 0) rfl rfl) hK hP2 hD2 hS1 hA hl.1 rfl (Nat.le_of_ble_eq_true rfl) dL_law_1055 (fun r2 S2 H2 locs2 hq2 hP3 hD3 hS2 => ?_)
  obtain ⟨hr2, hM2⟩ := hq2
  exact lv_icmp_eq (tgt := 1376) hx hb dL_law_1058 (by decide) (fun _ => kk A' H2 locs2 cells slots S1 S2 ⟨sw_P hP3, sw_D hD3, hS2, hC1, hM2, by rw [hKK, hA2]; exact hce, by rw [hKK, hA2]; exact hsl⟩) (fun c0 => absurd (hr1.trans hr2.symm) c0)
set_option maxHeartbeats 4000000 in
set_option maxRecDepth 100000 in
theorem lc_lie (hkr : KR La d) (F : lw_Fx p s m meth c b N xs D cI cJ cR) {A : AS} {adx adm : Nat → Nat} {H : Heap} {locs : List Loc} {cells slots : Nat} {Sc : cs_T} {Sm : ms_T} (S : lw_St La d D cI cJ cR s A adx adm H locs cells slots Sc Sm) {x3 : Int32} (h1 : vp_in (x3 + 1) N) (h2 : vp_in (x3 + 2) N) (h3 : vp_in (x3 + 3) N) (h4 : vp_in (x3 + 4) N) {ls : Array Slot} (hl : lv_has ls 4 [(0, .ref b), (1, .ref (adx 0)), (2, .ref (adm 0)), (3, .int x3)])
    (kk : ∀ (A' : AS) (H' : Heap) (locs' : List Loc) (cells' slots' : Nat) (Sc' : cs_T) (Sm' : ms_T), lw_St La d D cI cJ cR s A' adx adm H' locs' cells' slots' Sc' Sm' → W p l e room_1 s m #[Value.ref b] below meth c H' locs' cells' slots' (lw_Z below #[Value.ref b] s) (F0 m 1376 ls [])) : W p l e room_1 s m #[Value.ref b] below meth c H locs cells slots (lw_Z below #[Value.ref b] s) (F0 m 1063 ls []) := by
  obtain ⟨fx, hX, hbl, hK⟩ := F
  obtain ⟨hP, hD, hS, hC, hM, hce, hsl⟩ := S
  obtain ⟨A1, x0, g0, hCX, hA2⟩ := CX_in hC hM
  obtain ⟨r, A', hKK, hc, hm⟩ := si_lie (a := xs (x3 + 1).toNatClampNeg) hkr hCX
  obtain ⟨⟨hx, hb, hml, hown, hts⟩, hret, hlk⟩ := id fx
  have hA : ∀ q : Nat, s.heap.size ≤ q → (fun q : Nat => s.heap.size ≤ q) q := fun _ h => h
  have hbA : ¬ (fun q : Nat => s.heap.size ≤ q) b := Nat.not_le.mpr hbl
  refine lv_aload_n hx hb dL_law_1063 rfl (lv_at hl 1 rfl) ?_
  refine lv_aload_n hx hb dL_law_1064 rfl (lv_at hl 0 rfl) ?_
  refine lv_iload_n hx hb dL_law_1065 rfl (lv_at hl 3 rfl) ?_
  refine lv_iconst (v := 1) hx hb dL_law_1066 (by decide) ?_
  refine lv_iadd hx hb dL_law_1067 ?_
  refine va_sld hx hb hX hbl hbA hS h1 dL_law_1068 ?_
  refine xr_uI (n := 1) (w2 := ms_w adm cI cJ Sm) (As := [.int (xs (x3 + 1).toNatClampNeg)]) (rest := []) fx (ct_X7_lie l D adx cI cJ cR (csLn La d) (hc (fun r1 S1 => r1 = r ∧ CR La d (csLn La d) A' S1) (fun S1 h => ⟨rfl, h⟩))) gL_law_X7_lie rfl rfl (by decide +kernel) ⟨Nat.le_of_ble_eq_true rfl, Nat.le_of_ble_eq_true rfl⟩ ⟨rfl, rfl⟩ (room_ok (by omega) (by omega)) (va_recv hK.1 hP (ci := 6) (q0 := 0) rfl rfl) hK hP hD hS hA hl.1 rfl (Nat.le_of_ble_eq_true rfl) dL_law_1069 (fun r1 S1 H1 locs1 hq hP1 hD1 hS1 => ?_)
  obtain ⟨hr1, hC1⟩ := hq
  have hP2 := sw_P hP1
  have hD2 := sw_D hD1
  refine lv_aload_n hx hb dL_law_1072 rfl (lv_at hl 2 rfl) ?_
  refine lv_aload_n hx hb dL_law_1073 rfl (lv_at hl 0 rfl) ?_
  refine lv_iload_n hx hb dL_law_1074 rfl (lv_at hl 3 rfl) ?_
  refine lv_iconst (v := 1) hx hb dL_law_1075 (by decide) ?_
  refine lv_iadd hx hb dL_law_1076 ?_
  refine va_sld hx hb hX hbl hbA hS1 h1 dL_law_1077 ?_
  refine xr_uI (n := 1) (w2 := cs_w adx cI cR (csLn La d) S1) (As := [.int (xs (x3 + 1).toNatClampNeg)]) (rest := [.int r1]) fx (ct_X8_lie l D adm cI cJ cR (hm (fun r2 S2 => r2 = r ∧ MR La d A' S2) (fun S2 h => ⟨rfl, h⟩))) gL_law_X8_lie rfl rfl (by decide +kernel) ⟨Nat.le_of_ble_eq_true rfl, Nat.le_of_ble_eq_true rfl⟩ ⟨rfl, rfl⟩ (room_ok (by omega) (by omega)) (va_recv hK.1 hP2 (ci := 7) (q0 := 0) rfl rfl) hK hP2 hD2 hS1 hA hl.1 rfl (Nat.le_of_ble_eq_true rfl) dL_law_1078 (fun r2 S2 H2 locs2 hq2 hP3 hD3 hS2 => ?_)
  obtain ⟨hr2, hM2⟩ := hq2
  exact lv_icmp_eq (tgt := 1376) hx hb dL_law_1081 (by decide) (fun _ => kk A' H2 locs2 cells slots S1 S2 ⟨sw_P hP3, sw_D hD3, hS2, hC1, hM2, by rw [hKK, hA2]; exact hce, by rw [hKK, hA2]; exact hsl⟩) (fun c0 => absurd (hr1.trans hr2.symm) c0)
end ZE
