/-! the law: its calls -/
section ZE
variable {p : Program} {l : Launch} {e : Env} {s : State} {m : MethodId} {below : List Frame} {meth : Method} {c : Code} {b N : Nat} {xs : Nat → Int32} {D : va_G} {cI cJ cR : ClassId} {La d : Nat}
set_option maxHeartbeats 4000000 in
set_option maxRecDepth 100000 in
theorem lc_size (hkr : KR La d) (F : lw_Fx p s m meth c b N xs D cI cJ cR) {A : AS} {adx adm : Nat → Nat} {H : Heap} {locs : List Loc} {cells slots : Nat} {Sc : cs_T} {Sm : ms_T} (S : lw_St La d D cI cJ cR s A adx adm H locs cells slots Sc Sm) {x3 : Int32} (h1 : vp_in (x3 + 1) N) (h2 : vp_in (x3 + 2) N) (h3 : vp_in (x3 + 3) N) (h4 : vp_in (x3 + 4) N) {ls : Array Slot} (hl : lv_has ls 4 [(0, .ref b), (1, .ref (adx 0)), (2, .ref (adm 0)), (3, .int x3)])
    (kk : ∀ (A' : AS) (H' : Heap) (locs' : List Loc) (cells' slots' : Nat) (Sc' : cs_T) (Sm' : ms_T), lw_St La d D cI cJ cR s A' adx adm H' locs' cells' slots' Sc' Sm' → W p l e room_1 s m #[Value.ref b] below meth c H' locs' cells' slots' (lw_Z below #[Value.ref b] s) (F0 m 1376 ls [])) : W p l e room_1 s m #[Value.ref b] below meth c H locs cells slots (lw_Z below #[Value.ref b] s) (F0 m 1244 ls []) := by
  obtain ⟨fx, hX, hbl, hK⟩ := F
  obtain ⟨hP, hD, hS, hC, hM, hce, hsl⟩ := S
  obtain ⟨A1, x0, g0, hCX, hA2⟩ := CX_in hC hM
  obtain ⟨r, A', hKK, hc, hm⟩ := si_size (a := xs (x3 + 1).toNatClampNeg) hkr hCX
  obtain ⟨⟨hx, hb, hml, hown, hts⟩, hret, hlk⟩ := id fx
  have hA : ∀ q : Nat, s.heap.size ≤ q → (fun q : Nat => s.heap.size ≤ q) q := fun _ h => h
  have hbA : ¬ (fun q : Nat => s.heap.size ≤ q) b := Nat.not_le.mpr hbl
  refine lv_aload_n hx hb dL_law_1244 rfl (lv_at hl 1 rfl) ?_
  refine lv_aload_n hx hb dL_law_1245 rfl (lv_at hl 0 rfl) ?_
  refine lv_iload_n hx hb dL_law_1246 rfl (lv_at hl 3 rfl) ?_
  refine lv_iconst (v := 1) hx hb dL_law_1247 (by decide) ?_
  refine lv_iadd hx hb dL_law_1248 ?_
  refine va_sld hx hb hX hbl hbA hS h1 dL_law_1249 ?_
  refine xr_uI (n := 1) (w2 := ms_w adm cI cJ Sm) (As := [.int (xs (x3 + 1).toNatClampNeg)]) (rest := []) fx (ct_X7_size l D adx cI cJ cR (csLn La d) (hc (fun r1 S1 => r1 = r ∧ CR La d (csLn La d) A' S1) (fun S1 h => ⟨rfl, h⟩))) gL_law_X7_size rfl rfl (by decide +kernel) ⟨Nat.le_of_ble_eq_true rfl, Nat.le_of_ble_eq_true rfl⟩ ⟨rfl, rfl⟩ (room_ok (by omega) (by omega)) (va_recv hK.1 hP (ci := 6) (q0 := 0) rfl rfl) hK hP hD hS hA hl.1 rfl (Nat.le_of_ble_eq_true rfl) dL_law_1250 (fun r1 S1 H1 locs1 hq hP1 hD1 hS1 => ?_)
  obtain ⟨hr1, hC1⟩ := hq
  have hP2 := sw_P hP1
  have hD2 := sw_D hD1
  refine lv_aload_n hx hb dL_law_1253 rfl (lv_at hl 2 rfl) ?_
  refine lv_aload_n hx hb dL_law_1254 rfl (lv_at hl 0 rfl) ?_
  refine lv_iload_n hx hb dL_law_1255 rfl (lv_at hl 3 rfl) ?_
  refine lv_iconst (v := 1) hx hb dL_law_1256 (by decide) ?_
  refine lv_iadd hx hb dL_law_1257 ?_
  refine va_sld hx hb hX hbl hbA hS1 h1 dL_law_1258 ?_
  refine xr_uI (n := 1) (w2 := cs_w adx cI cR (csLn La d) S1) (As := [.int (xs (x3 + 1).toNatClampNeg)]) (rest := [.int r1]) fx (ct_X8_size l D adm cI cJ cR (hm (fun r2 S2 => r2 = r ∧ MR La d A' S2) (fun S2 h => ⟨rfl, h⟩))) gL_law_X8_size rfl rfl (by decide +kernel) ⟨Nat.le_of_ble_eq_true rfl, Nat.le_of_ble_eq_true rfl⟩ ⟨rfl, rfl⟩ (room_ok (by omega) (by omega)) (va_recv hK.1 hP2 (ci := 7) (q0 := 0) rfl rfl) hK hP2 hD2 hS1 hA hl.1 rfl (Nat.le_of_ble_eq_true rfl) dL_law_1259 (fun r2 S2 H2 locs2 hq2 hP3 hD3 hS2 => ?_)
  obtain ⟨hr2, hM2⟩ := hq2
  exact lv_icmp_eq (tgt := 1376) hx hb dL_law_1262 (by decide) (fun _ => kk A' H2 locs2 cells slots S1 S2 ⟨sw_P hP3, sw_D hD3, hS2, hC1, hM2, by rw [hKK, hA2]; exact hce, by rw [hKK, hA2]; exact hsl⟩) (fun c0 => absurd (hr1.trans hr2.symm) c0)
set_option maxHeartbeats 4000000 in
set_option maxRecDepth 100000 in
theorem lc_feed (hkr : KR La d) (F : lw_Fx p s m meth c b N xs D cI cJ cR) {A : AS} {adx adm : Nat → Nat} {H : Heap} {locs : List Loc} {cells slots : Nat} {Sc : cs_T} {Sm : ms_T} (S : lw_St La d D cI cJ cR s A adx adm H locs cells slots Sc Sm) {x3 : Int32} (h1 : vp_in (x3 + 1) N) (h2 : vp_in (x3 + 2) N) (h3 : vp_in (x3 + 3) N) (h4 : vp_in (x3 + 4) N) {ls : Array Slot} (hl : lv_has ls 4 [(0, .ref b), (1, .ref (adx 0)), (2, .ref (adm 0)), (3, .int x3)])
    (kk : ∀ (A' : AS) (H' : Heap) (locs' : List Loc) (cells' slots' : Nat) (Sc' : cs_T) (Sm' : ms_T), lw_St La d D cI cJ cR s A' adx adm H' locs' cells' slots' Sc' Sm' → W p l e room_1 s m #[Value.ref b] below meth c H' locs' cells' slots' (lw_Z below #[Value.ref b] s) (F0 m 1376 ls [])) : W p l e room_1 s m #[Value.ref b] below meth c H locs cells slots (lw_Z below #[Value.ref b] s) (F0 m 1267 ls []) := by
  obtain ⟨fx, hX, hbl, hK⟩ := F
  obtain ⟨hP, hD, hS, hC, hM, hce, hsl⟩ := S
  obtain ⟨A1, x0, g0, hCX, hA2⟩ := CX_in hC hM
  obtain ⟨r, A', hKK, hc, hm⟩ := si_feed (a1 := (((xs (x3 + 1).toNatClampNeg).toInt64 <<< ((32 : Int32).toInt64 &&& 63)) ||| ((xs (x3 + 2).toNatClampNeg).toInt64 &&& 4294967295))) (a3 := xs (x3 + 3).toNatClampNeg) hCX
  obtain ⟨⟨hx, hb, hml, hown, hts⟩, hret, hlk⟩ := id fx
  have hA : ∀ q : Nat, s.heap.size ≤ q → (fun q : Nat => s.heap.size ≤ q) q := fun _ h => h
  have hbA : ¬ (fun q : Nat => s.heap.size ≤ q) b := Nat.not_le.mpr hbl
  refine lv_aload_n hx hb dL_law_1267 rfl (lv_at hl 1 rfl) ?_
  refine lv_aload_n hx hb dL_law_1268 rfl (lv_at hl 0 rfl) ?_
  refine lv_iload_n hx hb dL_law_1269 rfl (lv_at hl 3 rfl) ?_
  refine lv_iconst (v := 1) hx hb dL_law_1270 (by decide) ?_
  refine lv_iadd hx hb dL_law_1271 ?_
  refine va_sld hx hb hX hbl hbA hS h1 dL_law_1272 ?_
  refine lv_i2l hx hb dL_law_1273 rfl ?_
  refine lv_bipush (v := 32) hx hb dL_law_1274 (by decide) ?_
  refine lv_lshl hx hb dL_law_1276 rfl ?_
  refine lv_aload_n hx hb dL_law_1277 rfl (lv_at hl 0 rfl) ?_
  refine lv_iload_n hx hb dL_law_1278 rfl (lv_at hl 3 rfl) ?_
  refine lv_iconst (v := 2) hx hb dL_law_1279 (by decide) ?_
  refine lv_iadd hx hb dL_law_1280 ?_
  refine va_sld hx hb hX hbl hbA hS h2 dL_law_1281 ?_
  refine lv_i2l hx hb dL_law_1282 rfl ?_
  refine lv_ldc2 (v := 4294967295) hx hb hown (hts (.constantLong RL 150 4294967295) (by decide +kernel)) dL_law_1283 ?_
  refine lv_land hx hb dL_law_1286 ?_
  refine lv_lor hx hb dL_law_1287 ?_
  refine lv_aload_n hx hb dL_law_1288 rfl (lv_at hl 0 rfl) ?_
  refine lv_iload_n hx hb dL_law_1289 rfl (lv_at hl 3 rfl) ?_
  refine lv_iconst (v := 3) hx hb dL_law_1290 (by decide) ?_
  refine lv_iadd hx hb dL_law_1291 ?_
  refine va_sld hx hb hX hbl hbA hS h3 dL_law_1292 ?_
  refine xr_uI (n := 2) (w2 := ms_w adm cI cJ Sm) (As := [.long ((((xs (x3 + 1).toNatClampNeg).toInt64 <<< ((32 : Int32).toInt64 &&& 63)) ||| ((xs (x3 + 2).toNatClampNeg).toInt64 &&& 4294967295))), .int (xs (x3 + 3).toNatClampNeg)]) (rest := []) fx (ct_X7_feed l D adx cI cJ cR (csLn La d) (hc (fun r1 S1 => r1 = r ∧ CR La d (csLn La d) A' S1) (fun S1 h => ⟨rfl, h⟩))) gL_law_X7_feed rfl rfl (by decide +kernel) ⟨Nat.le_of_ble_eq_true rfl, Nat.le_of_ble_eq_true rfl⟩ ⟨rfl, rfl⟩ (room_ok (by omega) (by omega)) (va_recv hK.1 hP (ci := 6) (q0 := 0) rfl rfl) hK hP hD hS hA hl.1 rfl (Nat.le_of_ble_eq_true rfl) dL_law_1293 (fun r1 S1 H1 locs1 hq hP1 hD1 hS1 => ?_)
  obtain ⟨hr1, hC1⟩ := hq
  have hP2 := sw_P hP1
  have hD2 := sw_D hD1
  refine lv_aload_n hx hb dL_law_1296 rfl (lv_at hl 2 rfl) ?_
  refine lv_aload_n hx hb dL_law_1297 rfl (lv_at hl 0 rfl) ?_
  refine lv_iload_n hx hb dL_law_1298 rfl (lv_at hl 3 rfl) ?_
  refine lv_iconst (v := 1) hx hb dL_law_1299 (by decide) ?_
  refine lv_iadd hx hb dL_law_1300 ?_
  refine va_sld hx hb hX hbl hbA hS1 h1 dL_law_1301 ?_
  refine lv_i2l hx hb dL_law_1302 rfl ?_
  refine lv_bipush (v := 32) hx hb dL_law_1303 (by decide) ?_
  refine lv_lshl hx hb dL_law_1305 rfl ?_
  refine lv_aload_n hx hb dL_law_1306 rfl (lv_at hl 0 rfl) ?_
  refine lv_iload_n hx hb dL_law_1307 rfl (lv_at hl 3 rfl) ?_
  refine lv_iconst (v := 2) hx hb dL_law_1308 (by decide) ?_
  refine lv_iadd hx hb dL_law_1309 ?_
  refine va_sld hx hb hX hbl hbA hS1 h2 dL_law_1310 ?_
  refine lv_i2l hx hb dL_law_1311 rfl ?_
  refine lv_ldc2 (v := 4294967295) hx hb hown (hts (.constantLong RL 150 4294967295) (by decide +kernel)) dL_law_1312 ?_
  refine lv_land hx hb dL_law_1315 ?_
  refine lv_lor hx hb dL_law_1316 ?_
  refine lv_aload_n hx hb dL_law_1317 rfl (lv_at hl 0 rfl) ?_
  refine lv_iload_n hx hb dL_law_1318 rfl (lv_at hl 3 rfl) ?_
  refine lv_iconst (v := 3) hx hb dL_law_1319 (by decide) ?_
  refine lv_iadd hx hb dL_law_1320 ?_
  refine va_sld hx hb hX hbl hbA hS1 h3 dL_law_1321 ?_
  refine xr_uI (n := 2) (w2 := cs_w adx cI cR (csLn La d) S1) (As := [.long ((((xs (x3 + 1).toNatClampNeg).toInt64 <<< ((32 : Int32).toInt64 &&& 63)) ||| ((xs (x3 + 2).toNatClampNeg).toInt64 &&& 4294967295))), .int (xs (x3 + 3).toNatClampNeg)]) (rest := [.int r1]) fx (ct_X8_feed l D adm cI cJ cR (hm (fun r2 S2 => r2 = r ∧ MR La d A' S2) (fun S2 h => ⟨rfl, h⟩))) gL_law_X8_feed rfl rfl (by decide +kernel) ⟨Nat.le_of_ble_eq_true rfl, Nat.le_of_ble_eq_true rfl⟩ ⟨rfl, rfl⟩ (room_ok (by omega) (by omega)) (va_recv hK.1 hP2 (ci := 7) (q0 := 0) rfl rfl) hK hP2 hD2 hS1 hA hl.1 rfl (Nat.le_of_ble_eq_true rfl) dL_law_1322 (fun r2 S2 H2 locs2 hq2 hP3 hD3 hS2 => ?_)
  obtain ⟨hr2, hM2⟩ := hq2
  exact lv_icmp_eq (tgt := 1376) hx hb dL_law_1325 (by decide) (fun _ => kk A' H2 locs2 cells slots S1 S2 ⟨sw_P hP3, sw_D hD3, hS2, hC1, hM2, by rw [hKK, hA2]; exact hce, by rw [hKK, hA2]; exact hsl⟩) (fun c0 => absurd (hr1.trans hr2.symm) c0)
set_option maxHeartbeats 4000000 in
set_option maxRecDepth 100000 in
theorem lc_read (hkr : KR La d) (F : lw_Fx p s m meth c b N xs D cI cJ cR) {A : AS} {adx adm : Nat → Nat} {H : Heap} {locs : List Loc} {cells slots : Nat} {Sc : cs_T} {Sm : ms_T} (S : lw_St La d D cI cJ cR s A adx adm H locs cells slots Sc Sm) {x3 : Int32} (h1 : vp_in (x3 + 1) N) (h2 : vp_in (x3 + 2) N) (h3 : vp_in (x3 + 3) N) (h4 : vp_in (x3 + 4) N) {ls : Array Slot} (hl : lv_has ls 4 [(0, .ref b), (1, .ref (adx 0)), (2, .ref (adm 0)), (3, .int x3)])
    (kk : ∀ (A' : AS) (H' : Heap) (locs' : List Loc) (cells' slots' : Nat) (Sc' : cs_T) (Sm' : ms_T), lw_St La d D cI cJ cR s A' adx adm H' locs' cells' slots' Sc' Sm' → W p l e room_1 s m #[Value.ref b] below meth c H' locs' cells' slots' (lw_Z below #[Value.ref b] s) (F0 m 1376 ls [])) : W p l e room_1 s m #[Value.ref b] below meth c H locs cells slots (lw_Z below #[Value.ref b] s) (F0 m 1330 ls []) := by
  obtain ⟨fx, hX, hbl, hK⟩ := F
  obtain ⟨hP, hD, hS, hC, hM, hce, hsl⟩ := S
  obtain ⟨A1, x0, g0, hCX, hA2⟩ := CX_in hC hM
  obtain ⟨r, A', hKK, hc, hm⟩ := si_read (a := xs (x3 + 1).toNatClampNeg) hCX
  obtain ⟨⟨hx, hb, hml, hown, hts⟩, hret, hlk⟩ := id fx
  have hA : ∀ q : Nat, s.heap.size ≤ q → (fun q : Nat => s.heap.size ≤ q) q := fun _ h => h
  have hbA : ¬ (fun q : Nat => s.heap.size ≤ q) b := Nat.not_le.mpr hbl
  refine lv_aload_n hx hb dL_law_1330 rfl (lv_at hl 1 rfl) ?_
  refine lv_aload_n hx hb dL_law_1331 rfl (lv_at hl 0 rfl) ?_
  refine lv_iload_n hx hb dL_law_1332 rfl (lv_at hl 3 rfl) ?_
  refine lv_iconst (v := 1) hx hb dL_law_1333 (by decide) ?_
  refine lv_iadd hx hb dL_law_1334 ?_
  refine va_sld hx hb hX hbl hbA hS h1 dL_law_1335 ?_
  refine xr_uI (n := 1) (w2 := ms_w adm cI cJ Sm) (As := [.int (xs (x3 + 1).toNatClampNeg)]) (rest := []) fx (ct_X7_read l D adx cI cJ cR (csLn La d) (hc (fun r1 S1 => r1 = r ∧ CR La d (csLn La d) A' S1) (fun S1 h => ⟨rfl, h⟩))) gL_law_X7_read rfl rfl (by decide +kernel) ⟨Nat.le_of_ble_eq_true rfl, Nat.le_of_ble_eq_true rfl⟩ ⟨rfl, rfl⟩ (room_ok (by omega) (by omega)) (va_recv hK.1 hP (ci := 6) (q0 := 0) rfl rfl) hK hP hD hS hA hl.1 rfl (Nat.le_of_ble_eq_true rfl) dL_law_1336 (fun r1 S1 H1 locs1 hq hP1 hD1 hS1 => ?_)
  obtain ⟨hr1, hC1⟩ := hq
  have hP2 := sw_P hP1
  have hD2 := sw_D hD1
  refine lv_aload_n hx hb dL_law_1339 rfl (lv_at hl 2 rfl) ?_
  refine lv_aload_n hx hb dL_law_1340 rfl (lv_at hl 0 rfl) ?_
  refine lv_iload_n hx hb dL_law_1341 rfl (lv_at hl 3 rfl) ?_
  refine lv_iconst (v := 1) hx hb dL_law_1342 (by decide) ?_
  refine lv_iadd hx hb dL_law_1343 ?_
  refine va_sld hx hb hX hbl hbA hS1 h1 dL_law_1344 ?_
  refine xr_uI (n := 1) (w2 := cs_w adx cI cR (csLn La d) S1) (As := [.int (xs (x3 + 1).toNatClampNeg)]) (rest := [.int r1]) fx (ct_X8_read l D adm cI cJ cR (hm (fun r2 S2 => r2 = r ∧ MR La d A' S2) (fun S2 h => ⟨rfl, h⟩))) gL_law_X8_read rfl rfl (by decide +kernel) ⟨Nat.le_of_ble_eq_true rfl, Nat.le_of_ble_eq_true rfl⟩ ⟨rfl, rfl⟩ (room_ok (by omega) (by omega)) (va_recv hK.1 hP2 (ci := 7) (q0 := 0) rfl rfl) hK hP2 hD2 hS1 hA hl.1 rfl (Nat.le_of_ble_eq_true rfl) dL_law_1345 (fun r2 S2 H2 locs2 hq2 hP3 hD3 hS2 => ?_)
  obtain ⟨hr2, hM2⟩ := hq2
  exact lv_icmp_eq (tgt := 1376) hx hb dL_law_1348 (by decide) (fun _ => kk A' H2 locs2 cells slots S1 S2 ⟨sw_P hP3, sw_D hD3, hS2, hC1, hM2, by rw [hKK, hA2]; exact hce, by rw [hKK, hA2]; exact hsl⟩) (fun c0 => absurd (hr1.trans hr2.symm) c0)
set_option maxHeartbeats 4000000 in
set_option maxRecDepth 100000 in
theorem lc_count (hkr : KR La d) (F : lw_Fx p s m meth c b N xs D cI cJ cR) {A : AS} {adx adm : Nat → Nat} {H : Heap} {locs : List Loc} {cells slots : Nat} {Sc : cs_T} {Sm : ms_T} (S : lw_St La d D cI cJ cR s A adx adm H locs cells slots Sc Sm) {x3 : Int32} (h1 : vp_in (x3 + 1) N) (h2 : vp_in (x3 + 2) N) (h3 : vp_in (x3 + 3) N) (h4 : vp_in (x3 + 4) N) {ls : Array Slot} (hl : lv_has ls 4 [(0, .ref b), (1, .ref (adx 0)), (2, .ref (adm 0)), (3, .int x3)])
    (kk : ∀ (A' : AS) (H' : Heap) (locs' : List Loc) (cells' slots' : Nat) (Sc' : cs_T) (Sm' : ms_T), lw_St La d D cI cJ cR s A' adx adm H' locs' cells' slots' Sc' Sm' → W p l e room_1 s m #[Value.ref b] below meth c H' locs' cells' slots' (lw_Z below #[Value.ref b] s) (F0 m 1376 ls [])) : W p l e room_1 s m #[Value.ref b] below meth c H locs cells slots (lw_Z below #[Value.ref b] s) (F0 m 1353 ls []) := by
  obtain ⟨fx, hX, hbl, hK⟩ := F
  obtain ⟨hP, hD, hS, hC, hM, hce, hsl⟩ := S
  obtain ⟨A1, x0, g0, hCX, hA2⟩ := CX_in hC hM
  obtain ⟨r, A', hKK, hc, hm⟩ := si_count (a := xs (x3 + 1).toNatClampNeg) hCX
  obtain ⟨⟨hx, hb, hml, hown, hts⟩, hret, hlk⟩ := id fx
  have hA : ∀ q : Nat, s.heap.size ≤ q → (fun q : Nat => s.heap.size ≤ q) q := fun _ h => h
  have hbA : ¬ (fun q : Nat => s.heap.size ≤ q) b := Nat.not_le.mpr hbl
  refine lv_aload_n hx hb dL_law_1353 rfl (lv_at hl 1 rfl) ?_
  refine lv_aload_n hx hb dL_law_1354 rfl (lv_at hl 0 rfl) ?_
  refine lv_iload_n hx hb dL_law_1355 rfl (lv_at hl 3 rfl) ?_
  refine lv_iconst (v := 1) hx hb dL_law_1356 (by decide) ?_
  refine lv_iadd hx hb dL_law_1357 ?_
  refine va_sld hx hb hX hbl hbA hS h1 dL_law_1358 ?_
  refine xr_uI (n := 1) (w2 := ms_w adm cI cJ Sm) (As := [.int (xs (x3 + 1).toNatClampNeg)]) (rest := []) fx (ct_X7_count l D adx cI cJ cR (csLn La d) (hc (fun r1 S1 => r1 = r ∧ CR La d (csLn La d) A' S1) (fun S1 h => ⟨rfl, h⟩))) gL_law_X7_count rfl rfl (by decide +kernel) ⟨Nat.le_of_ble_eq_true rfl, Nat.le_of_ble_eq_true rfl⟩ ⟨rfl, rfl⟩ (room_ok (by omega) (by omega)) (va_recv hK.1 hP (ci := 6) (q0 := 0) rfl rfl) hK hP hD hS hA hl.1 rfl (Nat.le_of_ble_eq_true rfl) dL_law_1359 (fun r1 S1 H1 locs1 hq hP1 hD1 hS1 => ?_)
  obtain ⟨hr1, hC1⟩ := hq
  have hP2 := sw_P hP1
  have hD2 := sw_D hD1
  refine lv_aload_n hx hb dL_law_1362 rfl (lv_at hl 2 rfl) ?_
  refine lv_aload_n hx hb dL_law_1363 rfl (lv_at hl 0 rfl) ?_
  refine lv_iload_n hx hb dL_law_1364 rfl (lv_at hl 3 rfl) ?_
  refine lv_iconst (v := 1) hx hb dL_law_1365 (by decide) ?_
  refine lv_iadd hx hb dL_law_1366 ?_
  refine va_sld hx hb hX hbl hbA hS1 h1 dL_law_1367 ?_
  refine xr_uI (n := 1) (w2 := cs_w adx cI cR (csLn La d) S1) (As := [.int (xs (x3 + 1).toNatClampNeg)]) (rest := [.int r1]) fx (ct_X8_count l D adm cI cJ cR (hm (fun r2 S2 => r2 = r ∧ MR La d A' S2) (fun S2 h => ⟨rfl, h⟩))) gL_law_X8_count rfl rfl (by decide +kernel) ⟨Nat.le_of_ble_eq_true rfl, Nat.le_of_ble_eq_true rfl⟩ ⟨rfl, rfl⟩ (room_ok (by omega) (by omega)) (va_recv hK.1 hP2 (ci := 7) (q0 := 0) rfl rfl) hK hP2 hD2 hS1 hA hl.1 rfl (Nat.le_of_ble_eq_true rfl) dL_law_1368 (fun r2 S2 H2 locs2 hq2 hP3 hD3 hS2 => ?_)
  obtain ⟨hr2, hM2⟩ := hq2
  exact lv_icmp_eq (tgt := 1376) hx hb dL_law_1371 (by decide) (fun _ => kk A' H2 locs2 cells slots S1 S2 ⟨sw_P hP3, sw_D hD3, hS2, hC1, hM2, by rw [hKK, hA2]; exact hce, by rw [hKK, hA2]; exact hsl⟩) (fun c0 => absurd (hr1.trans hr2.symm) c0)
end ZE
