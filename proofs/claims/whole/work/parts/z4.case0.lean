/-! the law: its calls -/
section ZE
variable {p : Program} {l : Launch} {e : Env} {s : State} {m : MethodId} {below : List Frame} {meth : Method} {c : Code} {b N : Nat} {xs : Nat → Int32} {D : va_G} {cI cJ cR : ClassId} {La d : Nat}
set_option maxHeartbeats 4000000 in
set_option maxRecDepth 100000 in
theorem lc_clear (hkr : KR La d) (F : lw_Fx p s m meth c b N xs D cI cJ cR) {A : AS} {adx adm : Nat → Nat} {H : Heap} {locs : List Loc} {cells slots : Nat} {Sc : cs_T} {Sm : ms_T} (S : lw_St La d D cI cJ cR s A adx adm H locs cells slots Sc Sm) {x3 : Int32} (h1 : vp_in (x3 + 1) N) (h2 : vp_in (x3 + 2) N) (h3 : vp_in (x3 + 3) N) (h4 : vp_in (x3 + 4) N) {ls : Array Slot} (hl : lv_has ls 4 [(0, .ref b), (1, .ref (adx 0)), (2, .ref (adm 0)), (3, .int x3)])
    (kk : ∀ (A' : AS) (H' : Heap) (locs' : List Loc) (cells' slots' : Nat) (Sc' : cs_T) (Sm' : ms_T), lw_St La d D cI cJ cR s A' adx adm H' locs' cells' slots' Sc' Sm' → W p l e room_1 s m #[Value.ref b] below meth c H' locs' cells' slots' (lw_Z below #[Value.ref b] s) (F0 m 1376 ls [])) : W p l e room_1 s m #[Value.ref b] below meth c H locs cells slots (lw_Z below #[Value.ref b] s) (F0 m 204 ls []) := by
  obtain ⟨fx, hX, hbl, hK⟩ := F
  obtain ⟨hP, hD, hS, hC, hM, hce, hsl⟩ := S
  obtain ⟨A1, x0, g0, hCX, hA2⟩ := CX_in hC hM
  obtain ⟨r, A', hKK, hc, hm⟩ := si_clear (a := xs (x3 + 1).toNatClampNeg) hCX
  obtain ⟨⟨hx, hb, hml, hown, hts⟩, hret, hlk⟩ := id fx
  have hA : ∀ q : Nat, s.heap.size ≤ q → (fun q : Nat => s.heap.size ≤ q) q := fun _ h => h
  have hbA : ¬ (fun q : Nat => s.heap.size ≤ q) b := Nat.not_le.mpr hbl
  refine lv_aload_n hx hb dL_law_204 rfl (lv_at hl 1 rfl) ?_
  refine lv_aload_n hx hb dL_law_205 rfl (lv_at hl 0 rfl) ?_
  refine lv_iload_n hx hb dL_law_206 rfl (lv_at hl 3 rfl) ?_
  refine lv_iconst (v := 1) hx hb dL_law_207 (by decide) ?_
  refine lv_iadd hx hb dL_law_208 ?_
  refine va_sld hx hb hX hbl hbA hS h1 dL_law_209 ?_
  refine xr_uI (n := 1) (w2 := ms_w adm cI cJ Sm) (As := [.int (xs (x3 + 1).toNatClampNeg)]) (rest := []) fx (ct_X7_clear l D adx cI cJ cR (csLn La d) (hc (fun r1 S1 => r1 = r ∧ CR La d (csLn La d) A' S1) (fun S1 h => ⟨rfl, h⟩))) gL_law_X7_clear rfl rfl (by decide +kernel) ⟨Nat.le_of_ble_eq_true rfl, Nat.le_of_ble_eq_true rfl⟩ ⟨rfl, rfl⟩ (room_ok (by omega) (by omega)) (va_recv hK.1 hP (ci := 6) (q0 := 0) rfl rfl) hK hP hD hS hA hl.1 rfl (Nat.le_of_ble_eq_true rfl) dL_law_210 (fun r1 S1 H1 locs1 hq hP1 hD1 hS1 => ?_)
  obtain ⟨hr1, hC1⟩ := hq
  have hP2 := sw_P hP1
  have hD2 := sw_D hD1
  refine lv_aload_n hx hb dL_law_213 rfl (lv_at hl 2 rfl) ?_
  refine lv_aload_n hx hb dL_law_214 rfl (lv_at hl 0 rfl) ?_
  refine lv_iload_n hx hb dL_law_215 rfl (lv_at hl 3 rfl) ?_
  refine lv_iconst (v := 1) hx hb dL_law_216 (by decide) ?_
  refine lv_iadd hx hb dL_law_217 ?_
  refine va_sld hx hb hX hbl hbA hS1 h1 dL_law_218 ?_
  refine xr_uI (n := 1) (w2 := cs_w adx cI cR (csLn La d) S1) (As := [.int (xs (x3 + 1).toNatClampNeg)]) (rest := [.int r1]) fx (ct_X8_clear l D adm cI cJ cR (hm (fun r2 S2 => r2 = r ∧ MR La d A' S2) (fun S2 h => ⟨rfl, h⟩))) gL_law_X8_clear rfl rfl (by decide +kernel) ⟨Nat.le_of_ble_eq_true rfl, Nat.le_of_ble_eq_true rfl⟩ ⟨rfl, rfl⟩ (room_ok (by omega) (by omega)) (va_recv hK.1 hP2 (ci := 7) (q0 := 0) rfl rfl) hK hP2 hD2 hS1 hA hl.1 rfl (Nat.le_of_ble_eq_true rfl) dL_law_219 (fun r2 S2 H2 locs2 hq2 hP3 hD3 hS2 => ?_)
  obtain ⟨hr2, hM2⟩ := hq2
  exact lv_icmp_eq (tgt := 1376) hx hb dL_law_222 (by decide) (fun _ => kk A' H2 locs2 cells slots S1 S2 ⟨sw_P hP3, sw_D hD3, hS2, hC1, hM2, by rw [hKK, hA2]; exact hce, by rw [hKK, hA2]; exact hsl⟩) (fun c0 => absurd (hr1.trans hr2.symm) c0)
set_option maxHeartbeats 4000000 in
set_option maxRecDepth 100000 in
theorem lc_put (hkr : KR La d) (F : lw_Fx p s m meth c b N xs D cI cJ cR) {A : AS} {adx adm : Nat → Nat} {H : Heap} {locs : List Loc} {cells slots : Nat} {Sc : cs_T} {Sm : ms_T} (S : lw_St La d D cI cJ cR s A adx adm H locs cells slots Sc Sm) {x3 : Int32} (h1 : vp_in (x3 + 1) N) (h2 : vp_in (x3 + 2) N) (h3 : vp_in (x3 + 3) N) (h4 : vp_in (x3 + 4) N) {ls : Array Slot} (hl : lv_has ls 4 [(0, .ref b), (1, .ref (adx 0)), (2, .ref (adm 0)), (3, .int x3)])
    (kk : ∀ (A' : AS) (H' : Heap) (locs' : List Loc) (cells' slots' : Nat) (Sc' : cs_T) (Sm' : ms_T), lw_St La d D cI cJ cR s A' adx adm H' locs' cells' slots' Sc' Sm' → W p l e room_1 s m #[Value.ref b] below meth c H' locs' cells' slots' (lw_Z below #[Value.ref b] s) (F0 m 1376 ls [])) : W p l e room_1 s m #[Value.ref b] below meth c H locs cells slots (lw_Z below #[Value.ref b] s) (F0 m 227 ls []) := by
  obtain ⟨fx, hX, hbl, hK⟩ := F
  obtain ⟨hP, hD, hS, hC, hM, hce, hsl⟩ := S
  obtain ⟨A1, x0, g0, hCX, hA2⟩ := CX_in hC hM
  obtain ⟨r, A', hKK, hc, hm⟩ := si_put (a1 := xs (x3 + 1).toNatClampNeg) (a2 := xs (x3 + 2).toNatClampNeg) (a3 := xs (x3 + 3).toNatClampNeg) (a4 := xs (x3 + 4).toNatClampNeg) hCX
  obtain ⟨⟨hx, hb, hml, hown, hts⟩, hret, hlk⟩ := id fx
  have hA : ∀ q : Nat, s.heap.size ≤ q → (fun q : Nat => s.heap.size ≤ q) q := fun _ h => h
  have hbA : ¬ (fun q : Nat => s.heap.size ≤ q) b := Nat.not_le.mpr hbl
  refine lv_aload_n hx hb dL_law_227 rfl (lv_at hl 1 rfl) ?_
  refine lv_aload_n hx hb dL_law_228 rfl (lv_at hl 0 rfl) ?_
  refine lv_iload_n hx hb dL_law_229 rfl (lv_at hl 3 rfl) ?_
  refine lv_iconst (v := 1) hx hb dL_law_230 (by decide) ?_
  refine lv_iadd hx hb dL_law_231 ?_
  refine va_sld hx hb hX hbl hbA hS h1 dL_law_232 ?_
  refine lv_aload_n hx hb dL_law_233 rfl (lv_at hl 0 rfl) ?_
  refine lv_iload_n hx hb dL_law_234 rfl (lv_at hl 3 rfl) ?_
  refine lv_iconst (v := 2) hx hb dL_law_235 (by decide) ?_
  refine lv_iadd hx hb dL_law_236 ?_
  refine va_sld hx hb hX hbl hbA hS h2 dL_law_237 ?_
  refine lv_aload_n hx hb dL_law_238 rfl (lv_at hl 0 rfl) ?_
  refine lv_iload_n hx hb dL_law_239 rfl (lv_at hl 3 rfl) ?_
  refine lv_iconst (v := 3) hx hb dL_law_240 (by decide) ?_
  refine lv_iadd hx hb dL_law_241 ?_
  refine va_sld hx hb hX hbl hbA hS h3 dL_law_242 ?_
  refine lv_aload_n hx hb dL_law_243 rfl (lv_at hl 0 rfl) ?_
  refine lv_iload_n hx hb dL_law_244 rfl (lv_at hl 3 rfl) ?_
  refine lv_iconst (v := 4) hx hb dL_law_245 (by decide) ?_
  refine lv_iadd hx hb dL_law_246 ?_
  refine va_sld hx hb hX hbl hbA hS h4 dL_law_247 ?_
  refine xr_uI (n := 4) (w2 := ms_w adm cI cJ Sm) (As := [.int (xs (x3 + 1).toNatClampNeg), .int (xs (x3 + 2).toNatClampNeg), .int (xs (x3 + 3).toNatClampNeg), .int (xs (x3 + 4).toNatClampNeg)]) (rest := []) fx (ct_X7_put l D adx cI cJ cR (csLn La d) (hc (fun r1 S1 => r1 = r ∧ CR La d (csLn La d) A' S1) (fun S1 h => ⟨rfl, h⟩))) gL_law_X7_put rfl rfl (by decide +kernel) ⟨Nat.le_of_ble_eq_true rfl, Nat.le_of_ble_eq_true rfl⟩ ⟨rfl, rfl⟩ (room_ok (by omega) (by omega)) (va_recv hK.1 hP (ci := 6) (q0 := 0) rfl rfl) hK hP hD hS hA hl.1 rfl (Nat.le_of_ble_eq_true rfl) dL_law_248 (fun r1 S1 H1 locs1 hq hP1 hD1 hS1 => ?_)
  obtain ⟨hr1, hC1⟩ := hq
  have hP2 := sw_P hP1
  have hD2 := sw_D hD1
  refine lv_aload_n hx hb dL_law_251 rfl (lv_at hl 2 rfl) ?_
  refine lv_aload_n hx hb dL_law_252 rfl (lv_at hl 0 rfl) ?_
  refine lv_iload_n hx hb dL_law_253 rfl (lv_at hl 3 rfl) ?_
  refine lv_iconst (v := 1) hx hb dL_law_254 (by decide) ?_
  refine lv_iadd hx hb dL_law_255 ?_
  refine va_sld hx hb hX hbl hbA hS1 h1 dL_law_256 ?_
  refine lv_aload_n hx hb dL_law_257 rfl (lv_at hl 0 rfl) ?_
  refine lv_iload_n hx hb dL_law_258 rfl (lv_at hl 3 rfl) ?_
  refine lv_iconst (v := 2) hx hb dL_law_259 (by decide) ?_
  refine lv_iadd hx hb dL_law_260 ?_
  refine va_sld hx hb hX hbl hbA hS1 h2 dL_law_261 ?_
  refine lv_aload_n hx hb dL_law_262 rfl (lv_at hl 0 rfl) ?_
  refine lv_iload_n hx hb dL_law_263 rfl (lv_at hl 3 rfl) ?_
  refine lv_iconst (v := 3) hx hb dL_law_264 (by decide) ?_
  refine lv_iadd hx hb dL_law_265 ?_
  refine va_sld hx hb hX hbl hbA hS1 h3 dL_law_266 ?_
  refine lv_aload_n hx hb dL_law_267 rfl (lv_at hl 0 rfl) ?_
  refine lv_iload_n hx hb dL_law_268 rfl (lv_at hl 3 rfl) ?_
  refine lv_iconst (v := 4) hx hb dL_law_269 (by decide) ?_
  refine lv_iadd hx hb dL_law_270 ?_
  refine va_sld hx hb hX hbl hbA hS1 h4 dL_law_271 ?_
  refine xr_uI (n := 4) (w2 := cs_w adx cI cR (csLn La d) S1) (As := [.int (xs (x3 + 1).toNatClampNeg), .int (xs (x3 + 2).toNatClampNeg), .int (xs (x3 + 3).toNatClampNeg), .int (xs (x3 + 4).toNatClampNeg)]) (rest := [.int r1]) fx (ct_X8_put l D adm cI cJ cR (hm (fun r2 S2 => r2 = r ∧ MR La d A' S2) (fun S2 h => ⟨rfl, h⟩))) gL_law_X8_put rfl rfl (by decide +kernel) ⟨Nat.le_of_ble_eq_true rfl, Nat.le_of_ble_eq_true rfl⟩ ⟨rfl, rfl⟩ (room_ok (by omega) (by omega)) (va_recv hK.1 hP2 (ci := 7) (q0 := 0) rfl rfl) hK hP2 hD2 hS1 hA hl.1 rfl (Nat.le_of_ble_eq_true rfl) dL_law_272 (fun r2 S2 H2 locs2 hq2 hP3 hD3 hS2 => ?_)
  obtain ⟨hr2, hM2⟩ := hq2
  exact lv_icmp_eq (tgt := 1376) hx hb dL_law_275 (by decide) (fun _ => kk A' H2 locs2 cells slots S1 S2 ⟨sw_P hP3, sw_D hD3, hS2, hC1, hM2, by rw [hKK, hA2]; exact hce, by rw [hKK, hA2]; exact hsl⟩) (fun c0 => absurd (hr1.trans hr2.symm) c0)
set_option maxHeartbeats 4000000 in
set_option maxRecDepth 100000 in
theorem lc_at (hkr : KR La d) (F : lw_Fx p s m meth c b N xs D cI cJ cR) {A : AS} {adx adm : Nat → Nat} {H : Heap} {locs : List Loc} {cells slots : Nat} {Sc : cs_T} {Sm : ms_T} (S : lw_St La d D cI cJ cR s A adx adm H locs cells slots Sc Sm) {x3 : Int32} (h1 : vp_in (x3 + 1) N) (h2 : vp_in (x3 + 2) N) (h3 : vp_in (x3 + 3) N) (h4 : vp_in (x3 + 4) N) {ls : Array Slot} (hl : lv_has ls 4 [(0, .ref b), (1, .ref (adx 0)), (2, .ref (adm 0)), (3, .int x3)])
    (kk : ∀ (A' : AS) (H' : Heap) (locs' : List Loc) (cells' slots' : Nat) (Sc' : cs_T) (Sm' : ms_T), lw_St La d D cI cJ cR s A' adx adm H' locs' cells' slots' Sc' Sm' → W p l e room_1 s m #[Value.ref b] below meth c H' locs' cells' slots' (lw_Z below #[Value.ref b] s) (F0 m 1376 ls [])) : W p l e room_1 s m #[Value.ref b] below meth c H locs cells slots (lw_Z below #[Value.ref b] s) (F0 m 280 ls []) := by
  obtain ⟨fx, hX, hbl, hK⟩ := F
  obtain ⟨hP, hD, hS, hC, hM, hce, hsl⟩ := S
  obtain ⟨A1, x0, g0, hCX, hA2⟩ := CX_in hC hM
  obtain ⟨r, A', hKK, hc, hm⟩ := si_at (a1 := xs (x3 + 1).toNatClampNeg) (a2 := xs (x3 + 2).toNatClampNeg) hCX
  obtain ⟨⟨hx, hb, hml, hown, hts⟩, hret, hlk⟩ := id fx
  have hA : ∀ q : Nat, s.heap.size ≤ q → (fun q : Nat => s.heap.size ≤ q) q := fun _ h => h
  have hbA : ¬ (fun q : Nat => s.heap.size ≤ q) b := Nat.not_le.mpr hbl
  refine lv_aload_n hx hb dL_law_280 rfl (lv_at hl 1 rfl) ?_
  refine lv_aload_n hx hb dL_law_281 rfl (lv_at hl 0 rfl) ?_
  refine lv_iload_n hx hb dL_law_282 rfl (lv_at hl 3 rfl) ?_
  refine lv_iconst (v := 1) hx hb dL_law_283 (by decide) ?_
  refine lv_iadd hx hb dL_law_284 ?_
  refine va_sld hx hb hX hbl hbA hS h1 dL_law_285 ?_
  refine lv_aload_n hx hb dL_law_286 rfl (lv_at hl 0 rfl) ?_
  refine lv_iload_n hx hb dL_law_287 rfl (lv_at hl 3 rfl) ?_
  refine lv_iconst (v := 2) hx hb dL_law_288 (by decide) ?_
  refine lv_iadd hx hb dL_law_289 ?_
  refine va_sld hx hb hX hbl hbA hS h2 dL_law_290 ?_
  refine xr_uI (n := 2) (w2 := ms_w adm cI cJ Sm) (As := [.int (xs (x3 + 1).toNatClampNeg), .int (xs (x3 + 2).toNatClampNeg)]) (rest := []) fx (ct_X7_at l D adx cI cJ cR (csLn La d) (hc (fun r1 S1 => r1 = r ∧ CR La d (csLn La d) A' S1) (fun S1 h => ⟨rfl, h⟩))) gL_law_X7_at rfl rfl (by decide +kernel) ⟨Nat.le_of_ble_eq_true rfl, Nat.le_of_ble_eq_true rfl⟩ ⟨rfl, rfl⟩ (room_ok (by omega) (by omega)) (va_recv hK.1 hP (ci := 6) (q0 := 0) rfl rfl) hK hP hD hS hA hl.1 rfl (Nat.le_of_ble_eq_true rfl) dL_law_291 (fun r1 S1 H1 locs1 hq hP1 hD1 hS1 => ?_)
  obtain ⟨hr1, hC1⟩ := hq
  have hP2 := sw_P hP1
  have hD2 := sw_D hD1
  refine lv_aload_n hx hb dL_law_294 rfl (lv_at hl 2 rfl) ?_
  refine lv_aload_n hx hb dL_law_295 rfl (lv_at hl 0 rfl) ?_
  refine lv_iload_n hx hb dL_law_296 rfl (lv_at hl 3 rfl) ?_
  refine lv_iconst (v := 1) hx hb dL_law_297 (by decide) ?_
  refine lv_iadd hx hb dL_law_298 ?_
  refine va_sld hx hb hX hbl hbA hS1 h1 dL_law_299 ?_
  refine lv_aload_n hx hb dL_law_300 rfl (lv_at hl 0 rfl) ?_
  refine lv_iload_n hx hb dL_law_301 rfl (lv_at hl 3 rfl) ?_
  refine lv_iconst (v := 2) hx hb dL_law_302 (by decide) ?_
  refine lv_iadd hx hb dL_law_303 ?_
  refine va_sld hx hb hX hbl hbA hS1 h2 dL_law_304 ?_
  refine xr_uI (n := 2) (w2 := cs_w adx cI cR (csLn La d) S1) (As := [.int (xs (x3 + 1).toNatClampNeg), .int (xs (x3 + 2).toNatClampNeg)]) (rest := [.int r1]) fx (ct_X8_at l D adm cI cJ cR (hm (fun r2 S2 => r2 = r ∧ MR La d A' S2) (fun S2 h => ⟨rfl, h⟩))) gL_law_X8_at rfl rfl (by decide +kernel) ⟨Nat.le_of_ble_eq_true rfl, Nat.le_of_ble_eq_true rfl⟩ ⟨rfl, rfl⟩ (room_ok (by omega) (by omega)) (va_recv hK.1 hP2 (ci := 7) (q0 := 0) rfl rfl) hK hP2 hD2 hS1 hA hl.1 rfl (Nat.le_of_ble_eq_true rfl) dL_law_305 (fun r2 S2 H2 locs2 hq2 hP3 hD3 hS2 => ?_)
  obtain ⟨hr2, hM2⟩ := hq2
  exact lv_icmp_eq (tgt := 1376) hx hb dL_law_308 (by decide) (fun _ => kk A' H2 locs2 cells slots S1 S2 ⟨sw_P hP3, sw_D hD3, hS2, hC1, hM2, by rw [hKK, hA2]; exact hce, by rw [hKK, hA2]; exact hsl⟩) (fun c0 => absurd (hr1.trans hr2.symm) c0)
set_option maxHeartbeats 4000000 in
set_option maxRecDepth 100000 in
theorem lc_fraction (hkr : KR La d) (F : lw_Fx p s m meth c b N xs D cI cJ cR) {A : AS} {adx adm : Nat → Nat} {H : Heap} {locs : List Loc} {cells slots : Nat} {Sc : cs_T} {Sm : ms_T} (S : lw_St La d D cI cJ cR s A adx adm H locs cells slots Sc Sm) {x3 : Int32} (h1 : vp_in (x3 + 1) N) (h2 : vp_in (x3 + 2) N) (h3 : vp_in (x3 + 3) N) (h4 : vp_in (x3 + 4) N) {ls : Array Slot} (hl : lv_has ls 4 [(0, .ref b), (1, .ref (adx 0)), (2, .ref (adm 0)), (3, .int x3)])
    (kk : ∀ (A' : AS) (H' : Heap) (locs' : List Loc) (cells' slots' : Nat) (Sc' : cs_T) (Sm' : ms_T), lw_St La d D cI cJ cR s A' adx adm H' locs' cells' slots' Sc' Sm' → W p l e room_1 s m #[Value.ref b] below meth c H' locs' cells' slots' (lw_Z below #[Value.ref b] s) (F0 m 1376 ls [])) : W p l e room_1 s m #[Value.ref b] below meth c H locs cells slots (lw_Z below #[Value.ref b] s) (F0 m 313 ls []) := by
  obtain ⟨fx, hX, hbl, hK⟩ := F
  obtain ⟨hP, hD, hS, hC, hM, hce, hsl⟩ := S
  obtain ⟨A1, x0, g0, hCX, hA2⟩ := CX_in hC hM
  obtain ⟨r, A', hKK, hc, hm⟩ := si_fraction (a1 := xs (x3 + 1).toNatClampNeg) (a2 := xs (x3 + 2).toNatClampNeg) hCX
  obtain ⟨⟨hx, hb, hml, hown, hts⟩, hret, hlk⟩ := id fx
  have hA : ∀ q : Nat, s.heap.size ≤ q → (fun q : Nat => s.heap.size ≤ q) q := fun _ h => h
  have hbA : ¬ (fun q : Nat => s.heap.size ≤ q) b := Nat.not_le.mpr hbl
  refine lv_aload_n hx hb dL_law_313 rfl (lv_at hl 1 rfl) ?_
  refine lv_aload_n hx hb dL_law_314 rfl (lv_at hl 0 rfl) ?_
  refine lv_iload_n hx hb dL_law_315 rfl (lv_at hl 3 rfl) ?_
  refine lv_iconst (v := 1) hx hb dL_law_316 (by decide) ?_
  refine lv_iadd hx hb dL_law_317 ?_
  refine va_sld hx hb hX hbl hbA hS h1 dL_law_318 ?_
  refine lv_aload_n hx hb dL_law_319 rfl (lv_at hl 0 rfl) ?_
  refine lv_iload_n hx hb dL_law_320 rfl (lv_at hl 3 rfl) ?_
  refine lv_iconst (v := 2) hx hb dL_law_321 (by decide) ?_
  refine lv_iadd hx hb dL_law_322 ?_
  refine va_sld hx hb hX hbl hbA hS h2 dL_law_323 ?_
  refine xr_uI (n := 2) (w2 := ms_w adm cI cJ Sm) (As := [.int (xs (x3 + 1).toNatClampNeg), .int (xs (x3 + 2).toNatClampNeg)]) (rest := []) fx (ct_X7_fraction l D adx cI cJ cR (csLn La d) (hc (fun r1 S1 => r1 = r ∧ CR La d (csLn La d) A' S1) (fun S1 h => ⟨rfl, h⟩))) gL_law_X7_fraction rfl rfl (by decide +kernel) ⟨Nat.le_of_ble_eq_true rfl, Nat.le_of_ble_eq_true rfl⟩ ⟨rfl, rfl⟩ (room_ok (by omega) (by omega)) (va_recv hK.1 hP (ci := 6) (q0 := 0) rfl rfl) hK hP hD hS hA hl.1 rfl (Nat.le_of_ble_eq_true rfl) dL_law_324 (fun r1 S1 H1 locs1 hq hP1 hD1 hS1 => ?_)
  obtain ⟨hr1, hC1⟩ := hq
  have hP2 := sw_P hP1
  have hD2 := sw_D hD1
  refine lv_aload_n hx hb dL_law_327 rfl (lv_at hl 2 rfl) ?_
  refine lv_aload_n hx hb dL_law_328 rfl (lv_at hl 0 rfl) ?_
  refine lv_iload_n hx hb dL_law_329 rfl (lv_at hl 3 rfl) ?_
  refine lv_iconst (v := 1) hx hb dL_law_330 (by decide) ?_
  refine lv_iadd hx hb dL_law_331 ?_
  refine va_sld hx hb hX hbl hbA hS1 h1 dL_law_332 ?_
  refine lv_aload_n hx hb dL_law_333 rfl (lv_at hl 0 rfl) ?_
  refine lv_iload_n hx hb dL_law_334 rfl (lv_at hl 3 rfl) ?_
  refine lv_iconst (v := 2) hx hb dL_law_335 (by decide) ?_
  refine lv_iadd hx hb dL_law_336 ?_
  refine va_sld hx hb hX hbl hbA hS1 h2 dL_law_337 ?_
  refine xr_uI (n := 2) (w2 := cs_w adx cI cR (csLn La d) S1) (As := [.int (xs (x3 + 1).toNatClampNeg), .int (xs (x3 + 2).toNatClampNeg)]) (rest := [.int r1]) fx (ct_X8_fraction l D adm cI cJ cR (hm (fun r2 S2 => r2 = r ∧ MR La d A' S2) (fun S2 h => ⟨rfl, h⟩))) gL_law_X8_fraction rfl rfl (by decide +kernel) ⟨Nat.le_of_ble_eq_true rfl, Nat.le_of_ble_eq_true rfl⟩ ⟨rfl, rfl⟩ (room_ok (by omega) (by omega)) (va_recv hK.1 hP2 (ci := 7) (q0 := 0) rfl rfl) hK hP2 hD2 hS1 hA hl.1 rfl (Nat.le_of_ble_eq_true rfl) dL_law_338 (fun r2 S2 H2 locs2 hq2 hP3 hD3 hS2 => ?_)
  obtain ⟨hr2, hM2⟩ := hq2
  exact lv_icmp_eq (tgt := 1376) hx hb dL_law_341 (by decide) (fun _ => kk A' H2 locs2 cells slots S1 S2 ⟨sw_P hP3, sw_D hD3, hS2, hC1, hM2, by rw [hKK, hA2]; exact hce, by rw [hKK, hA2]; exact hsl⟩) (fun c0 => absurd (hr1.trans hr2.symm) c0)
set_option maxHeartbeats 4000000 in
set_option maxRecDepth 100000 in
theorem lc_add (hkr : KR La d) (F : lw_Fx p s m meth c b N xs D cI cJ cR) {A : AS} {adx adm : Nat → Nat} {H : Heap} {locs : List Loc} {cells slots : Nat} {Sc : cs_T} {Sm : ms_T} (S : lw_St La d D cI cJ cR s A adx adm H locs cells slots Sc Sm) {x3 : Int32} (h1 : vp_in (x3 + 1) N) (h2 : vp_in (x3 + 2) N) (h3 : vp_in (x3 + 3) N) (h4 : vp_in (x3 + 4) N) {ls : Array Slot} (hl : lv_has ls 4 [(0, .ref b), (1, .ref (adx 0)), (2, .ref (adm 0)), (3, .int x3)])
    (kk : ∀ (A' : AS) (H' : Heap) (locs' : List Loc) (cells' slots' : Nat) (Sc' : cs_T) (Sm' : ms_T), lw_St La d D cI cJ cR s A' adx adm H' locs' cells' slots' Sc' Sm' → W p l e room_1 s m #[Value.ref b] below meth c H' locs' cells' slots' (lw_Z below #[Value.ref b] s) (F0 m 1376 ls [])) : W p l e room_1 s m #[Value.ref b] below meth c H locs cells slots (lw_Z below #[Value.ref b] s) (F0 m 346 ls []) := by
  obtain ⟨fx, hX, hbl, hK⟩ := F
  obtain ⟨hP, hD, hS, hC, hM, hce, hsl⟩ := S
  obtain ⟨A1, x0, g0, hCX, hA2⟩ := CX_in hC hM
  obtain ⟨r, A', hKK, hc, hm⟩ := si_add (a1 := xs (x3 + 1).toNatClampNeg) (a2 := xs (x3 + 2).toNatClampNeg) (a3 := xs (x3 + 3).toNatClampNeg) (a4 := xs (x3 + 4).toNatClampNeg) hCX
  obtain ⟨⟨hx, hb, hml, hown, hts⟩, hret, hlk⟩ := id fx
  have hA : ∀ q : Nat, s.heap.size ≤ q → (fun q : Nat => s.heap.size ≤ q) q := fun _ h => h
  have hbA : ¬ (fun q : Nat => s.heap.size ≤ q) b := Nat.not_le.mpr hbl
  refine lv_aload_n hx hb dL_law_346 rfl (lv_at hl 1 rfl) ?_
  refine lv_aload_n hx hb dL_law_347 rfl (lv_at hl 0 rfl) ?_
  refine lv_iload_n hx hb dL_law_348 rfl (lv_at hl 3 rfl) ?_
  refine lv_iconst (v := 1) hx hb dL_law_349 (by decide) ?_
  refine lv_iadd hx hb dL_law_350 ?_
  refine va_sld hx hb hX hbl hbA hS h1 dL_law_351 ?_
  refine lv_aload_n hx hb dL_law_352 rfl (lv_at hl 0 rfl) ?_
  refine lv_iload_n hx hb dL_law_353 rfl (lv_at hl 3 rfl) ?_
  refine lv_iconst (v := 2) hx hb dL_law_354 (by decide) ?_
  refine lv_iadd hx hb dL_law_355 ?_
  refine va_sld hx hb hX hbl hbA hS h2 dL_law_356 ?_
  refine lv_aload_n hx hb dL_law_357 rfl (lv_at hl 0 rfl) ?_
  refine lv_iload_n hx hb dL_law_358 rfl (lv_at hl 3 rfl) ?_
  refine lv_iconst (v := 3) hx hb dL_law_359 (by decide) ?_
  refine lv_iadd hx hb dL_law_360 ?_
  refine va_sld hx hb hX hbl hbA hS h3 dL_law_361 ?_
  refine lv_aload_n hx hb dL_law_362 rfl (lv_at hl 0 rfl) ?_
  refine lv_iload_n hx hb dL_law_363 rfl (lv_at hl 3 rfl) ?_
  refine lv_iconst (v := 4) hx hb dL_law_364 (by decide) ?_
  refine lv_iadd hx hb dL_law_365 ?_
  refine va_sld hx hb hX hbl hbA hS h4 dL_law_366 ?_
  refine xr_uI (n := 4) (w2 := ms_w adm cI cJ Sm) (As := [.int (xs (x3 + 1).toNatClampNeg), .int (xs (x3 + 2).toNatClampNeg), .int (xs (x3 + 3).toNatClampNeg), .int (xs (x3 + 4).toNatClampNeg)]) (rest := []) fx (ct_X7_add l D adx cI cJ cR (csLn La d) (hc (fun r1 S1 => r1 = r ∧ CR La d (csLn La d) A' S1) (fun S1 h => ⟨rfl, h⟩))) gL_law_X7_add rfl rfl (by decide +kernel) ⟨Nat.le_of_ble_eq_true rfl, Nat.le_of_ble_eq_true rfl⟩ ⟨rfl, rfl⟩ (room_ok (by omega) (by omega)) (va_recv hK.1 hP (ci := 6) (q0 := 0) rfl rfl) hK hP hD hS hA hl.1 rfl (Nat.le_of_ble_eq_true rfl) dL_law_367 (fun r1 S1 H1 locs1 hq hP1 hD1 hS1 => ?_)
  obtain ⟨hr1, hC1⟩ := hq
  have hP2 := sw_P hP1
  have hD2 := sw_D hD1
  refine lv_aload_n hx hb dL_law_370 rfl (lv_at hl 2 rfl) ?_
  refine lv_aload_n hx hb dL_law_371 rfl (lv_at hl 0 rfl) ?_
  refine lv_iload_n hx hb dL_law_372 rfl (lv_at hl 3 rfl) ?_
  refine lv_iconst (v := 1) hx hb dL_law_373 (by decide) ?_
  refine lv_iadd hx hb dL_law_374 ?_
  refine va_sld hx hb hX hbl hbA hS1 h1 dL_law_375 ?_
  refine lv_aload_n hx hb dL_law_376 rfl (lv_at hl 0 rfl) ?_
  refine lv_iload_n hx hb dL_law_377 rfl (lv_at hl 3 rfl) ?_
  refine lv_iconst (v := 2) hx hb dL_law_378 (by decide) ?_
  refine lv_iadd hx hb dL_law_379 ?_
  refine va_sld hx hb hX hbl hbA hS1 h2 dL_law_380 ?_
  refine lv_aload_n hx hb dL_law_381 rfl (lv_at hl 0 rfl) ?_
  refine lv_iload_n hx hb dL_law_382 rfl (lv_at hl 3 rfl) ?_
  refine lv_iconst (v := 3) hx hb dL_law_383 (by decide) ?_
  refine lv_iadd hx hb dL_law_384 ?_
  refine va_sld hx hb hX hbl hbA hS1 h3 dL_law_385 ?_
  refine lv_aload_n hx hb dL_law_386 rfl (lv_at hl 0 rfl) ?_
  refine lv_iload_n hx hb dL_law_387 rfl (lv_at hl 3 rfl) ?_
  refine lv_iconst (v := 4) hx hb dL_law_388 (by decide) ?_
  refine lv_iadd hx hb dL_law_389 ?_
  refine va_sld hx hb hX hbl hbA hS1 h4 dL_law_390 ?_
  refine xr_uI (n := 4) (w2 := cs_w adx cI cR (csLn La d) S1) (As := [.int (xs (x3 + 1).toNatClampNeg), .int (xs (x3 + 2).toNatClampNeg), .int (xs (x3 + 3).toNatClampNeg), .int (xs (x3 + 4).toNatClampNeg)]) (rest := [.int r1]) fx (ct_X8_add l D adm cI cJ cR (hm (fun r2 S2 => r2 = r ∧ MR La d A' S2) (fun S2 h => ⟨rfl, h⟩))) gL_law_X8_add rfl rfl (by decide +kernel) ⟨Nat.le_of_ble_eq_true rfl, Nat.le_of_ble_eq_true rfl⟩ ⟨rfl, rfl⟩ (room_ok (by omega) (by omega)) (va_recv hK.1 hP2 (ci := 7) (q0 := 0) rfl rfl) hK hP2 hD2 hS1 hA hl.1 rfl (Nat.le_of_ble_eq_true rfl) dL_law_391 (fun r2 S2 H2 locs2 hq2 hP3 hD3 hS2 => ?_)
  obtain ⟨hr2, hM2⟩ := hq2
  exact lv_icmp_eq (tgt := 1376) hx hb dL_law_394 (by decide) (fun _ => kk A' H2 locs2 cells slots S1 S2 ⟨sw_P hP3, sw_D hD3, hS2, hC1, hM2, by rw [hKK, hA2]; exact hce, by rw [hKK, hA2]; exact hsl⟩) (fun c0 => absurd (hr1.trans hr2.symm) c0)
set_option maxHeartbeats 4000000 in
set_option maxRecDepth 100000 in
theorem lc_times (hkr : KR La d) (F : lw_Fx p s m meth c b N xs D cI cJ cR) {A : AS} {adx adm : Nat → Nat} {H : Heap} {locs : List Loc} {cells slots : Nat} {Sc : cs_T} {Sm : ms_T} (S : lw_St La d D cI cJ cR s A adx adm H locs cells slots Sc Sm) {x3 : Int32} (h1 : vp_in (x3 + 1) N) (h2 : vp_in (x3 + 2) N) (h3 : vp_in (x3 + 3) N) (h4 : vp_in (x3 + 4) N) {ls : Array Slot} (hl : lv_has ls 4 [(0, .ref b), (1, .ref (adx 0)), (2, .ref (adm 0)), (3, .int x3)])
    (kk : ∀ (A' : AS) (H' : Heap) (locs' : List Loc) (cells' slots' : Nat) (Sc' : cs_T) (Sm' : ms_T), lw_St La d D cI cJ cR s A' adx adm H' locs' cells' slots' Sc' Sm' → W p l e room_1 s m #[Value.ref b] below meth c H' locs' cells' slots' (lw_Z below #[Value.ref b] s) (F0 m 1376 ls [])) : W p l e room_1 s m #[Value.ref b] below meth c H locs cells slots (lw_Z below #[Value.ref b] s) (F0 m 399 ls []) := by
  obtain ⟨fx, hX, hbl, hK⟩ := F
  obtain ⟨hP, hD, hS, hC, hM, hce, hsl⟩ := S
  obtain ⟨A1, x0, g0, hCX, hA2⟩ := CX_in hC hM
  obtain ⟨r, A', hKK, hc, hm⟩ := si_times (a1 := xs (x3 + 1).toNatClampNeg) (a2 := xs (x3 + 2).toNatClampNeg) (a3 := xs (x3 + 3).toNatClampNeg) hCX
  obtain ⟨⟨hx, hb, hml, hown, hts⟩, hret, hlk⟩ := id fx
  have hA : ∀ q : Nat, s.heap.size ≤ q → (fun q : Nat => s.heap.size ≤ q) q := fun _ h => h
  have hbA : ¬ (fun q : Nat => s.heap.size ≤ q) b := Nat.not_le.mpr hbl
  refine lv_aload_n hx hb dL_law_399 rfl (lv_at hl 1 rfl) ?_
  refine lv_aload_n hx hb dL_law_400 rfl (lv_at hl 0 rfl) ?_
  refine lv_iload_n hx hb dL_law_401 rfl (lv_at hl 3 rfl) ?_
  refine lv_iconst (v := 1) hx hb dL_law_402 (by decide) ?_
  refine lv_iadd hx hb dL_law_403 ?_
  refine va_sld hx hb hX hbl hbA hS h1 dL_law_404 ?_
  refine lv_aload_n hx hb dL_law_405 rfl (lv_at hl 0 rfl) ?_
  refine lv_iload_n hx hb dL_law_406 rfl (lv_at hl 3 rfl) ?_
  refine lv_iconst (v := 2) hx hb dL_law_407 (by decide) ?_
  refine lv_iadd hx hb dL_law_408 ?_
  refine va_sld hx hb hX hbl hbA hS h2 dL_law_409 ?_
  refine lv_aload_n hx hb dL_law_410 rfl (lv_at hl 0 rfl) ?_
  refine lv_iload_n hx hb dL_law_411 rfl (lv_at hl 3 rfl) ?_
  refine lv_iconst (v := 3) hx hb dL_law_412 (by decide) ?_
  refine lv_iadd hx hb dL_law_413 ?_
  refine va_sld hx hb hX hbl hbA hS h3 dL_law_414 ?_
  refine xr_uI (n := 3) (w2 := ms_w adm cI cJ Sm) (As := [.int (xs (x3 + 1).toNatClampNeg), .int (xs (x3 + 2).toNatClampNeg), .int (xs (x3 + 3).toNatClampNeg)]) (rest := []) fx (ct_X7_times l D adx cI cJ cR (csLn La d) (hc (fun r1 S1 => r1 = r ∧ CR La d (csLn La d) A' S1) (fun S1 h => ⟨rfl, h⟩))) gL_law_X7_times rfl rfl (by decide +kernel) ⟨Nat.le_of_ble_eq_true rfl, Nat.le_of_ble_eq_true rfl⟩ ⟨rfl, rfl⟩ (room_ok (by omega) (by omega)) (va_recv hK.1 hP (ci := 6) (q0 := 0) rfl rfl) hK hP hD hS hA hl.1 rfl (Nat.le_of_ble_eq_true rfl) dL_law_415 (fun r1 S1 H1 locs1 hq hP1 hD1 hS1 => ?_)
  obtain ⟨hr1, hC1⟩ := hq
  have hP2 := sw_P hP1
  have hD2 := sw_D hD1
  refine lv_aload_n hx hb dL_law_418 rfl (lv_at hl 2 rfl) ?_
  refine lv_aload_n hx hb dL_law_419 rfl (lv_at hl 0 rfl) ?_
  refine lv_iload_n hx hb dL_law_420 rfl (lv_at hl 3 rfl) ?_
  refine lv_iconst (v := 1) hx hb dL_law_421 (by decide) ?_
  refine lv_iadd hx hb dL_law_422 ?_
  refine va_sld hx hb hX hbl hbA hS1 h1 dL_law_423 ?_
  refine lv_aload_n hx hb dL_law_424 rfl (lv_at hl 0 rfl) ?_
  refine lv_iload_n hx hb dL_law_425 rfl (lv_at hl 3 rfl) ?_
  refine lv_iconst (v := 2) hx hb dL_law_426 (by decide) ?_
  refine lv_iadd hx hb dL_law_427 ?_
  refine va_sld hx hb hX hbl hbA hS1 h2 dL_law_428 ?_
  refine lv_aload_n hx hb dL_law_429 rfl (lv_at hl 0 rfl) ?_
  refine lv_iload_n hx hb dL_law_430 rfl (lv_at hl 3 rfl) ?_
  refine lv_iconst (v := 3) hx hb dL_law_431 (by decide) ?_
  refine lv_iadd hx hb dL_law_432 ?_
  refine va_sld hx hb hX hbl hbA hS1 h3 dL_law_433 ?_
  refine xr_uI (n := 3) (w2 := cs_w adx cI cR (csLn La d) S1) (As := [.int (xs (x3 + 1).toNatClampNeg), .int (xs (x3 + 2).toNatClampNeg), .int (xs (x3 + 3).toNatClampNeg)]) (rest := [.int r1]) fx (ct_X8_times l D adm cI cJ cR (hm (fun r2 S2 => r2 = r ∧ MR La d A' S2) (fun S2 h => ⟨rfl, h⟩))) gL_law_X8_times rfl rfl (by decide +kernel) ⟨Nat.le_of_ble_eq_true rfl, Nat.le_of_ble_eq_true rfl⟩ ⟨rfl, rfl⟩ (room_ok (by omega) (by omega)) (va_recv hK.1 hP2 (ci := 7) (q0 := 0) rfl rfl) hK hP2 hD2 hS1 hA hl.1 rfl (Nat.le_of_ble_eq_true rfl) dL_law_434 (fun r2 S2 H2 locs2 hq2 hP3 hD3 hS2 => ?_)
  obtain ⟨hr2, hM2⟩ := hq2
  exact lv_icmp_eq (tgt := 1376) hx hb dL_law_437 (by decide) (fun _ => kk A' H2 locs2 cells slots S1 S2 ⟨sw_P hP3, sw_D hD3, hS2, hC1, hM2, by rw [hKK, hA2]; exact hce, by rw [hKK, hA2]; exact hsl⟩) (fun c0 => absurd (hr1.trans hr2.symm) c0)
end ZE
