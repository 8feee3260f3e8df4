def wp_X7_noSum (a0 : Int32) (Q : Int32 → Prop) : Prop :=
  ((a0 < 0 → Q 1) ∧ (¬ a0 < 0 → ((a0 < 8 → Q 0) ∧ (¬ a0 < 8 → Q 1))))
def wb_J7_fill_53178_5 (Ln : Nat → Nat)  (K5 : cs_T → Nat → Int32 → Int32 → Int32 → Prop) (Q : cs_T → Prop) (S : cs_T) (v0 : Nat) (v1 : Int32) (v2 : Int32) (v3 : Int32) : Prop :=
  ((v3 ≤ v2 → Q S) ∧ (¬ v3 ≤ v2 → v0 < 47 ∧ vp_in v2 (Ln v0) ∧ ∀ v2_3 : Int32, v2_3 = v2 + 1 → K5 (cs_sI S v0 v2.toNatClampNeg v1) v0 v1 v2_3 v3))
def wp_J7_fill_53178_5 (Ln : Nat → Nat)  (Q : cs_T → Prop) : Nat → cs_T → Nat → Int32 → Int32 → Int32 → Prop
  | 0 => fun _ _ _ _ _ => False
  | n + 1 => fun S v0 v1 v2 v3 => wb_J7_fill_53178_5 Ln (wp_J7_fill_53178_5 Ln Q n) Q S v0 v1 v2 v3
def wp_J7_fill_53178 (Ln : Nat → Nat) (S : cs_T) (a0 : Nat) (a1 : Int32) (Q : cs_T → Prop) : Prop :=
  a0 < 47 ∧ ∀ v3_5 : Int32, v3_5 = nI (Ln a0) → ∃ n : Nat, wp_J7_fill_53178_5 Ln Q n S a0 a1 0 v3_5
def wp_X7_clear (Ln : Nat → Nat) (S : cs_T) (a1 : Int32) (Q : Int32 → cs_T → Prop) : Prop :=
  wp_X7_noSum a1 (fun r1 : Int32 => ((r1 = 0 → vp_in a1 8 ∧ wp_J7_fill_53178 Ln S (7 + a1.toNatClampNeg) 0 (fun (S3 : cs_T) => Q 0 S3)) ∧ (¬ r1 = 0 → Q ((-1)) S)))
def wp_X6_placeOf_82 (Ln : Nat → Nat)  (Q : Int32 → cs_T → Prop) (S : cs_T) (v2 : Int32) (v3 : Int32) (v4 : Int32) : Prop :=
  ((v2 ≤ 0 → vp_in v4 (Ln 1) ∧ Q ((S.2.1 1 v4.toNatClampNeg) + v3) S) ∧ (¬ v2 ≤ 0 → Q ((-1)) S))
def wb_X6_placeOf_16 (Ln : Nat → Nat)  (K16 : cs_T → Int32 → Int32 → Int32 → Int32 → Prop) (Q : Int32 → cs_T → Prop) (S : cs_T) (v2 : Int32) (v3 : Int32) (v4 : Int32) (v5 : Int32) : Prop :=
  (((S.1 3) ≤ v5 → wp_X6_placeOf_82 Ln Q S v2 v3 v4) ∧ (¬ (S.1 3) ≤ v5 → ((v2 ≤ 0 → wp_X6_placeOf_82 Ln Q S v2 v3 v4) ∧ (¬ v2 ≤ 0 → ∀ v6_2 : Int32, v6_2 = (v2 &&& 7) - 1 → ((v6_2 < 0 → Q ((-1)) S) ∧ (¬ v6_2 < 0 → ((v6_2 < (S.1 2) → vp_in v5 (Ln 0) ∧ ∀ v3_4 : Int32, v3_4 = v3 + (v6_2 * (S.2.1 0 v5.toNatClampNeg)) → ∀ v4_5 : Int32, v4_5 = v5 + 1 → ∀ v2_6 : Int32, v2_6 = v2 >>> (3 &&& 31) → ∀ v5_7 : Int32, v5_7 = v5 + 1 → K16 S v2_6 v3_4 v4_5 v5_7) ∧ (¬ v6_2 < (S.1 2) → Q ((-1)) S))))))))
def wp_X6_placeOf_16 (Ln : Nat → Nat)  (Q : Int32 → cs_T → Prop) : Nat → cs_T → Int32 → Int32 → Int32 → Int32 → Prop
  | 0 => fun _ _ _ _ _ => False
  | n + 1 => fun S v2 v3 v4 v5 => wb_X6_placeOf_16 Ln (wp_X6_placeOf_16 Ln Q n) Q S v2 v3 v4 v5
def wp_X6_placeOf (Ln : Nat → Nat) (S : cs_T) (a1 : Int32) (Q : Int32 → cs_T → Prop) : Prop :=
  ((0 ≤ a1 → ∃ n : Nat, wp_X6_placeOf_16 Ln Q n S a1 0 0 0) ∧ (¬ 0 ≤ a1 → Q ((-1)) S))
def wp_X7_noFraction (a0 : Int32) (a1 : Int32) (a2 : Int32) (Q : Int32 → Prop) : Prop :=
  ((a0 < (-a2) → Q 1) ∧ (¬ a0 < (-a2) → ((a2 < a0 → Q 1) ∧ (¬ a2 < a0 → ((a1 < 1 → Q 1) ∧ (¬ a1 < 1 → ((a1 ≤ a2 → Q 0) ∧ (¬ a1 ≤ a2 → Q 1))))))))
def wp_J9_floorMod_7cf53 (a0 : Int32) (a1 : Int32) (Q : Int32 → Prop) : Prop :=
  ¬ a1 = 0 ∧ ∀ v2_2 : Int32, v2_2 = xr_remI a0 a1 → ((0 ≤ (a0 ^^^ a1) → Q v2_2) ∧ (¬ 0 ≤ (a0 ^^^ a1) → ((v2_2 = 0 → Q v2_2) ∧ (¬ v2_2 = 0 → Q (v2_2 + a1)))))
def wp_X3_ratio (a0 : Int32) (a1 : Int32) (Q : Int32 → Prop) : Prop :=
  wp_J9_floorMod_7cf53 a0 2147483647 (fun r1 : Int32 => wp_X3_reciprocal a1 (fun r2 : Int32 => wp_X3_product r1 r2 (fun r3 : Int32 => Q r3)))
def wp_X7_put (Ln : Nat → Nat) (S : cs_T) (a1 : Int32) (a2 : Int32) (a3 : Int32) (a4 : Int32) (Q : Int32 → cs_T → Prop) : Prop :=
  wp_X6_placeOf Ln S a2 (fun (r2 : Int32) (S1 : cs_T) => wp_X7_noSum a1 (fun r3 : Int32 => ((¬ r3 = 0 → Q ((-1)) S1) ∧ (r3 = 0 → ((0 ≤ r2 → wp_X7_noFraction a3 a4 9999 (fun r4 : Int32 => ((r4 = 0 → vp_in a1 8 ∧ wp_X3_ratio a3 a4 (fun r6 : Int32 => (7 + a1.toNatClampNeg) < 47 ∧ vp_in r2 (Ln (7 + a1.toNatClampNeg)) ∧ Q 0 (cs_sI S1 (7 + a1.toNatClampNeg) r2.toNatClampNeg r6))) ∧ (¬ r4 = 0 → Q ((-2)) S1)))) ∧ (¬ 0 ≤ r2 → Q ((-1)) S1))))))
def wp_X7_at (Ln : Nat → Nat) (S : cs_T) (a1 : Int32) (a2 : Int32) (Q : Int32 → cs_T → Prop) : Prop :=
  wp_X6_placeOf Ln S a2 (fun (r2 : Int32) (S1 : cs_T) => wp_X7_noSum a1 (fun r3 : Int32 => ((¬ r3 = 0 → Q ((-1)) S1) ∧ (r3 = 0 → ((0 ≤ r2 → vp_in a1 8 ∧ (7 + a1.toNatClampNeg) < 47 ∧ vp_in r2 (Ln (7 + a1.toNatClampNeg)) ∧ Q (S1.2.1 (7 + a1.toNatClampNeg) r2.toNatClampNeg) S1) ∧ (¬ 0 ≤ r2 → Q ((-1)) S1))))))
def wp_X7_fraction_66 (Ln : Nat → Nat) (K24 : cs_T → Int32 → Int32 → Int32 → Prop) (Q : Int32 → cs_T → Prop) (S : cs_T) (v1 : Int32) (v2 : Int32) (v3 : Int32) : Prop :=
  ∀ v3_1 : Int32, v3_1 = v3 + 1 → K24 S v1 v2 v3_1
def wb_X7_fraction_24 (Ln : Nat → Nat)  (K24 : cs_T → Int32 → Int32 → Int32 → Prop) (Q : Int32 → cs_T → Prop) (S : cs_T) (v1 : Int32) (v2 : Int32) (v3 : Int32) : Prop :=
  ((1000 < v3 → Q ((-2147483648)) S) ∧ (¬ 1000 < v3 → wp_X3_product v1 v3 (fun r2 : Int32 => wp_X3_nearNought r2 (fun r3 : Int32 => ((r3 < ((-1000000)) → wp_X7_fraction_66 Ln K24 Q S v1 v2 v3) ∧ (¬ r3 < ((-1000000)) → ((1000000 < r3 → wp_X7_fraction_66 Ln K24 Q S v1 v2 v3) ∧ (¬ 1000000 < r3 → ((¬ v2 = 0 → Q v3 S) ∧ (v2 = 0 → Q r3 S))))))))))
def wp_X7_fraction_24 (Ln : Nat → Nat)  (Q : Int32 → cs_T → Prop) : Nat → cs_T → Int32 → Int32 → Int32 → Prop
  | 0 => fun _ _ _ _ => False
  | n + 1 => fun S v1 v2 v3 => wb_X7_fraction_24 Ln (wp_X7_fraction_24 Ln Q n) Q S v1 v2 v3
def wp_X7_fraction (Ln : Nat → Nat) (S : cs_T) (a1 : Int32) (a2 : Int32) (Q : Int32 → cs_T → Prop) : Prop :=
  ((a1 < 0 → Q ((-2147483648)) S) ∧ (¬ a1 < 0 → ((2147483647 ≤ a1 → Q ((-2147483648)) S) ∧ (¬ 2147483647 ≤ a1 → ((a2 < 0 → Q ((-2147483648)) S) ∧ (¬ a2 < 0 → ((a2 ≤ 1 → ∃ n : Nat, wp_X7_fraction_24 Ln Q n S a1 a2 1) ∧ (¬ a2 ≤ 1 → Q ((-2147483648)) S))))))))
def wp_X0_amass_33 (Ln : Nat → Nat) (K3 : cs_T → Nat → Nat → Int32 → Int32 → Prop) (Q : cs_T → Prop) (S : cs_T) (v1 : Nat) (v2 : Nat) (v3 : Int32) (v4 : Int32) : Prop :=
  ∀ v4_1 : Int32, v4_1 = v4 + 1 → K3 S v1 v2 v3 v4_1
def wb_X0_amass_3 (Ln : Nat → Nat)  (K3 : cs_T → Nat → Nat → Int32 → Int32 → Prop) (Q : cs_T → Prop) (S : cs_T) (v1 : Nat) (v2 : Nat) (v3 : Int32) (v4 : Int32) : Prop :=
  v1 < 47 ∧ (((nI (Ln v1)) ≤ v4 → Q S) ∧ (¬ (nI (Ln v1)) ≤ v4 → v2 < 47 ∧ vp_in v4 (Ln v2) ∧ (((S.2.1 v2 v4.toNatClampNeg) = 0 → wp_X0_amass_33 Ln K3 Q S v1 v2 v3 v4) ∧ (¬ (S.2.1 v2 v4.toNatClampNeg) = 0 → vp_in v4 (Ln v1) ∧ vp_in v4 (Ln v2) ∧ wp_X3_productMore (S.2.1 v1 v4.toNatClampNeg) (S.2.1 v2 v4.toNatClampNeg) v3 (fun r7 : Int32 => vp_in v4 (Ln v1) ∧ wp_X0_amass_33 Ln K3 Q (cs_sI S v1 v4.toNatClampNeg r7) v1 v2 v3 v4)))))
def wp_X0_amass_3 (Ln : Nat → Nat)  (Q : cs_T → Prop) : Nat → cs_T → Nat → Nat → Int32 → Int32 → Prop
  | 0 => fun _ _ _ _ _ => False
  | n + 1 => fun S v1 v2 v3 v4 => wb_X0_amass_3 Ln (wp_X0_amass_3 Ln Q n) Q S v1 v2 v3 v4
def wp_X0_amass (Ln : Nat → Nat) (S : cs_T) (a1 : Nat) (a2 : Nat) (a3 : Int32) (Q : cs_T → Prop) : Prop :=
  ∃ n : Nat, wp_X0_amass_3 Ln Q n S a1 a2 a3 0
def wp_X7_add (Ln : Nat → Nat) (S : cs_T) (a1 : Int32) (a2 : Int32) (a3 : Int32) (a4 : Int32) (Q : Int32 → cs_T → Prop) : Prop :=
  wp_X7_noSum a1 (fun r1 : Int32 => ((¬ r1 = 0 → Q ((-1)) S) ∧ (r1 = 0 → wp_X7_noSum a2 (fun r2 : Int32 => ((r2 = 0 → wp_X7_noFraction a3 a4 9999 (fun r3 : Int32 => ((r3 = 0 → vp_in a1 8 ∧ vp_in a2 8 ∧ wp_X3_ratio a3 a4 (fun r6 : Int32 => wp_X0_amass Ln S (7 + a1.toNatClampNeg) (7 + a2.toNatClampNeg) r6 (fun (S7 : cs_T) => Q 0 S7))) ∧ (¬ r3 = 0 → Q ((-2)) S)))) ∧ (¬ r2 = 0 → Q ((-1)) S))))))
def wp_X0_gather_136 (Ln : Nat → Nat) (K3 : cs_T → Nat → Nat → Nat → Int32 → Int32 → Int32 → Prop) (K13 : cs_T → Nat → Nat → Nat → Int32 → Int32 → Int32 → Int32 → Prop) (K51 : cs_T → Nat → Nat → Nat → Int32 → Int32 → Int32 → Int32 → Int64 → Int32 → Prop) (K92 : cs_T → Nat → Nat → Nat → Int32 → Int32 → Int32 → Int32 → Int64 → Int32 → Int32 → Int32 → Prop) (Q : cs_T → Prop) (S : cs_T) (v1 : Nat) (v2 : Nat) (v3 : Nat) (v4 : Int32) (v5 : Int32) (v6 : Int32) (v7 : Int32) (v8 : Int64) (v10 : Int32) (v11 : Int32) (v12 : Int32) : Prop :=
  vp_in v6 (Ln 0) ∧ ∀ v11_2 : Int32, v11_2 = v11 + (S.2.1 0 v6.toNatClampNeg) → ∀ v12_3 : Int32, v12_3 = v12 + 1 → K92 S v1 v2 v3 v4 v5 v6 v7 v8 v10 v11_2 v12_3
def wb_X0_gather_92 (Ln : Nat → Nat) (K3 : cs_T → Nat → Nat → Nat → Int32 → Int32 → Int32 → Prop) (K13 : cs_T → Nat → Nat → Nat → Int32 → Int32 → Int32 → Int32 → Prop) (K51 : cs_T → Nat → Nat → Nat → Int32 → Int32 → Int32 → Int32 → Int64 → Int32 → Prop) (K92 : cs_T → Nat → Nat → Nat → Int32 → Int32 → Int32 → Int32 → Int64 → Int32 → Int32 → Int32 → Prop) (Q : cs_T → Prop) (S : cs_T) (v1 : Nat) (v2 : Nat) (v3 : Nat) (v4 : Int32) (v5 : Int32) (v6 : Int32) (v7 : Int32) (v8 : Int64) (v10 : Int32) (v11 : Int32) (v12 : Int32) : Prop :=
  vp_in (v10 + 1) (Ln 1) ∧ (((S.2.1 1 (v10 + 1).toNatClampNeg) ≤ v12 → ∀ v10_5 : Int32, v10_5 = v10 + 1 → K51 S v1 v2 v3 v4 v5 v6 v7 v8 v10_5) ∧ (¬ (S.2.1 1 (v10 + 1).toNatClampNeg) ≤ v12 → v2 < 47 ∧ vp_in v12 (Ln v2) ∧ (((S.2.1 v2 v12.toNatClampNeg) = 0 → wp_X0_gather_136 Ln K3 K13 K51 K92 Q S v1 v2 v3 v4 v5 v6 v7 v8 v10 v11 v12) ∧ (¬ (S.2.1 v2 v12.toNatClampNeg) = 0 → v1 < 47 ∧ vp_in v11 (Ln v1) ∧ vp_in v12 (Ln v2) ∧ vp_in v11 (Ln v1) ∧ wp_X0_gather_136 Ln K3 K13 K51 K92 Q (cs_sI S v1 v11.toNatClampNeg ((xr_remL (((S.2.1 v1 v11.toNatClampNeg).toInt64) + (((S.2.1 v2 v12.toNatClampNeg).toInt64) * v8)) 2147483647).toInt32)) v1 v2 v3 v4 v5 v6 v7 v8 v10 v11 v12))))
def wp_X0_gather_92 (Ln : Nat → Nat) (K3 : cs_T → Nat → Nat → Nat → Int32 → Int32 → Int32 → Prop) (K13 : cs_T → Nat → Nat → Nat → Int32 → Int32 → Int32 → Int32 → Prop) (K51 : cs_T → Nat → Nat → Nat → Int32 → Int32 → Int32 → Int32 → Int64 → Int32 → Prop) (Q : cs_T → Prop) : Nat → cs_T → Nat → Nat → Nat → Int32 → Int32 → Int32 → Int32 → Int64 → Int32 → Int32 → Int32 → Prop
  | 0 => fun _ _ _ _ _ _ _ _ _ _ _ _ => False
  | n + 1 => fun S v1 v2 v3 v4 v5 v6 v7 v8 v10 v11 v12 => wb_X0_gather_92 Ln K3 K13 K51 (wp_X0_gather_92 Ln K3 K13 K51 Q n) Q S v1 v2 v3 v4 v5 v6 v7 v8 v10 v11 v12
def wp_X0_gather_160 (Ln : Nat → Nat) (K3 : cs_T → Nat → Nat → Nat → Int32 → Int32 → Int32 → Prop) (K13 : cs_T → Nat → Nat → Nat → Int32 → Int32 → Int32 → Int32 → Prop) (Q : cs_T → Prop) (S : cs_T) (v1 : Nat) (v2 : Nat) (v3 : Nat) (v4 : Int32) (v5 : Int32) (v6 : Int32) (v7 : Int32) : Prop :=
  ∀ v7_12 : Int32, v7_12 = v7 + 1 → K13 S v1 v2 v3 v4 v5 v6 v7_12
def wb_X0_gather_51 (Ln : Nat → Nat) (K3 : cs_T → Nat → Nat → Nat → Int32 → Int32 → Int32 → Prop) (K13 : cs_T → Nat → Nat → Nat → Int32 → Int32 → Int32 → Int32 → Prop) (K51 : cs_T → Nat → Nat → Nat → Int32 → Int32 → Int32 → Int32 → Int64 → Int32 → Prop) (Q : cs_T → Prop) (S : cs_T) (v1 : Nat) (v2 : Nat) (v3 : Nat) (v4 : Int32) (v5 : Int32) (v6 : Int32) (v7 : Int32) (v8 : Int64) (v10 : Int32) : Prop :=
  (((v5 - v6) < v10 → wp_X0_gather_160 Ln K3 K13 Q S v1 v2 v3 v4 v5 v6 v7) ∧ (¬ (v5 - v6) < v10 → ((v8 = 0 → wp_X0_gather_160 Ln K3 K13 Q S v1 v2 v3 v4 v5 v6 v7) ∧ (¬ v8 = 0 → vp_in (v10 + v6) (Ln 1) ∧ ∀ v11_14 : Int32, v11_14 = (S.2.1 1 (v10 + v6).toNatClampNeg) + v7 → vp_in v10 (Ln 1) ∧ ∀ v12_16 : Int32, v12_16 = S.2.1 1 v10.toNatClampNeg → ∃ n : Nat, wp_X0_gather_92 Ln K3 K13 K51 Q n S v1 v2 v3 v4 v5 v6 v7 v8 v10 v11_14 v12_16))))
def wp_X0_gather_51 (Ln : Nat → Nat) (K3 : cs_T → Nat → Nat → Nat → Int32 → Int32 → Int32 → Prop) (K13 : cs_T → Nat → Nat → Nat → Int32 → Int32 → Int32 → Int32 → Prop) (Q : cs_T → Prop) : Nat → cs_T → Nat → Nat → Nat → Int32 → Int32 → Int32 → Int32 → Int64 → Int32 → Prop
  | 0 => fun _ _ _ _ _ _ _ _ _ _ => False
  | n + 1 => fun S v1 v2 v3 v4 v5 v6 v7 v8 v10 => wb_X0_gather_51 Ln K3 K13 (wp_X0_gather_51 Ln K3 K13 Q n) Q S v1 v2 v3 v4 v5 v6 v7 v8 v10
def wb_X0_gather_13 (Ln : Nat → Nat) (K3 : cs_T → Nat → Nat → Nat → Int32 → Int32 → Int32 → Prop) (K13 : cs_T → Nat → Nat → Nat → Int32 → Int32 → Int32 → Int32 → Prop) (Q : cs_T → Prop) (S : cs_T) (v1 : Nat) (v2 : Nat) (v3 : Nat) (v4 : Int32) (v5 : Int32) (v6 : Int32) (v7 : Int32) : Prop :=
  vp_in v6 (Ln 0) ∧ (((S.2.1 0 v6.toNatClampNeg) ≤ v7 → ∀ v6_18 : Int32, v6_18 = v6 + 1 → K3 S v1 v2 v3 v4 v5 v6_18) ∧ (¬ (S.2.1 0 v6.toNatClampNeg) ≤ v7 → vp_in v6 (Ln 1) ∧ v3 < 47 ∧ vp_in ((S.2.1 1 v6.toNatClampNeg) + v7) (Ln v3) ∧ ∀ v8_22 : Int64, v8_22 = xr_remL (((S.2.1 v3 ((S.2.1 1 v6.toNatClampNeg) + v7).toNatClampNeg).toInt64) * v4.toInt64) 2147483647 → ∃ n : Nat, wp_X0_gather_51 Ln K3 K13 Q n S v1 v2 v3 v4 v5 v6 v7 v8_22 0))
def wp_X0_gather_13 (Ln : Nat → Nat) (K3 : cs_T → Nat → Nat → Nat → Int32 → Int32 → Int32 → Prop) (Q : cs_T → Prop) : Nat → cs_T → Nat → Nat → Nat → Int32 → Int32 → Int32 → Int32 → Prop
  | 0 => fun _ _ _ _ _ _ _ _ => False
  | n + 1 => fun S v1 v2 v3 v4 v5 v6 v7 => wb_X0_gather_13 Ln K3 (wp_X0_gather_13 Ln K3 Q n) Q S v1 v2 v3 v4 v5 v6 v7
def wb_X0_gather_3 (Ln : Nat → Nat)  (K3 : cs_T → Nat → Nat → Nat → Int32 → Int32 → Int32 → Prop) (Q : cs_T → Prop) (S : cs_T) (v1 : Nat) (v2 : Nat) (v3 : Nat) (v4 : Int32) (v5 : Int32) (v6 : Int32) : Prop :=
  ((v5 < v6 → Q S) ∧ (¬ v5 < v6 → ∃ n : Nat, wp_X0_gather_13 Ln K3 Q n S v1 v2 v3 v4 v5 v6 0))
def wp_X0_gather_3 (Ln : Nat → Nat)  (Q : cs_T → Prop) : Nat → cs_T → Nat → Nat → Nat → Int32 → Int32 → Int32 → Prop
  | 0 => fun _ _ _ _ _ _ _ => False
  | n + 1 => fun S v1 v2 v3 v4 v5 v6 => wb_X0_gather_3 Ln (wp_X0_gather_3 Ln Q n) Q S v1 v2 v3 v4 v5 v6
def wp_X0_gather (Ln : Nat → Nat) (S : cs_T) (a1 : Nat) (a2 : Nat) (a3 : Nat) (a4 : Int32) (a5 : Int32) (Q : cs_T → Prop) : Prop :=
  ∃ n : Nat, wp_X0_gather_3 Ln Q n S a1 a2 a3 a4 a5 0
def wp_X0_copy (Ln : Nat → Nat) (S : cs_T) (a1 : Nat) (a2 : Nat) (Q : cs_T → Prop) : Prop :=
  a2 < 47 ∧ a1 < 47 ∧ ¬ ((0 : Int32)) < 0 ∧ ¬ ((0 : Int32)) < 0 ∧ ¬ (nI (Ln a2)) < 0 ∧ ((0 : Int32)).toNatClampNeg + (nI (Ln a2)).toNatClampNeg ≤ Ln a2 ∧ ((0 : Int32)).toNatClampNeg + (nI (Ln a2)).toNatClampNeg ≤ Ln a1 ∧ Q (cs_sA S a1 (va_cpy (S.2.1 a2) (S.2.1 a1) ((0 : Int32)).toNatClampNeg ((0 : Int32)).toNatClampNeg (nI (Ln a2)).toNatClampNeg))
def wp_X0_multiply (Ln : Nat → Nat) (S : cs_T) (a1 : Nat) (a2 : Nat) (a3 : Nat) (Q : cs_T → Prop) : Prop :=
  wp_J7_fill_53178 Ln S 3 0 (fun (S1 : cs_T) => wp_X0_gather Ln S1 3 a2 a3 1 (S1.1 0) (fun (S2 : cs_T) => wp_X0_copy Ln S2 a1 3 (fun (S3 : cs_T) => Q S3)))
def wp_X7_times (Ln : Nat → Nat) (S : cs_T) (a1 : Int32) (a2 : Int32) (a3 : Int32) (Q : Int32 → cs_T → Prop) : Prop :=
  wp_X7_noSum a1 (fun r1 : Int32 => ((¬ r1 = 0 → Q ((-1)) S) ∧ (r1 = 0 → wp_X7_noSum a2 (fun r2 : Int32 => ((¬ r2 = 0 → Q ((-1)) S) ∧ (r2 = 0 → wp_X7_noSum a3 (fun r3 : Int32 => ((r3 = 0 → vp_in a1 8 ∧ vp_in a2 8 ∧ vp_in a3 8 ∧ wp_X0_multiply Ln S (7 + a1.toNatClampNeg) (7 + a2.toNatClampNeg) (7 + a3.toNatClampNeg) (fun (S7 : cs_T) => Q 0 S7)) ∧ (¬ r3 = 0 → Q ((-1)) S)))))))))
def wp_X0_commute (Ln : Nat → Nat) (S : cs_T) (a1 : Nat) (a2 : Nat) (a3 : Nat) (Q : cs_T → Prop) : Prop :=
  wp_J7_fill_53178 Ln S 3 0 (fun (S1 : cs_T) => wp_X0_gather Ln S1 3 a2 a3 1 (S1.1 0) (fun (S2 : cs_T) => wp_X0_gather Ln S2 3 a3 a2 2147483646 (S2.1 0) (fun (S3 : cs_T) => wp_X0_copy Ln S3 a1 3 (fun (S4 : cs_T) => Q S4))))
def wp_X7_bracket (Ln : Nat → Nat) (S : cs_T) (a1 : Int32) (a2 : Int32) (a3 : Int32) (Q : Int32 → cs_T → Prop) : Prop :=
  wp_X7_noSum a1 (fun r1 : Int32 => ((¬ r1 = 0 → Q ((-1)) S) ∧ (r1 = 0 → wp_X7_noSum a2 (fun r2 : Int32 => ((¬ r2 = 0 → Q ((-1)) S) ∧ (r2 = 0 → wp_X7_noSum a3 (fun r3 : Int32 => ((r3 = 0 → vp_in a1 8 ∧ vp_in a2 8 ∧ vp_in a3 8 ∧ wp_X0_commute Ln S (7 + a1.toNatClampNeg) (7 + a2.toNatClampNeg) (7 + a3.toNatClampNeg) (fun (S7 : cs_T) => Q 0 S7)) ∧ (¬ r3 = 0 → Q ((-1)) S)))))))))
def wp_X0_interleave_18 (R : cs_T → Int32 → Int32 → Int32 → Int32 → Int32 → Int32 → Int32 → (cs_T → Prop) → Prop) (Ln : Nat → Nat)  (Q : cs_T → Prop) (S : cs_T) (v1 : Int32) (v3 : Int32) (v5 : Int32) (v6 : Int32) (v7 : Int32) (s0 : Int32) : Prop :=
  vp_in ((v1 + v3) + v5) (Ln 1) ∧ vp_in v5 (Ln 0) ∧ ∀ v9_3 : Int32, v9_3 = ((S.2.1 1 ((v1 + v3) + v5).toNatClampNeg) + (s0 * (S.2.1 0 v5.toNatClampNeg))) + v6 → vp_in v9_3 (Ln 3) ∧ wp_X3_plus (S.2.1 3 v9_3.toNatClampNeg) v7 (fun r5 : Int32 => vp_in v9_3 (Ln 3) ∧ Q (cs_sI S 3 v9_3.toNatClampNeg r5))
def wp_X0_interleave_8 (R : cs_T → Int32 → Int32 → Int32 → Int32 → Int32 → Int32 → Int32 → (cs_T → Prop) → Prop) (Ln : Nat → Nat)  (Q : cs_T → Prop) (S : cs_T) (v1 : Int32) (v2 : Int32) (v3 : Int32) (v4 : Int32) (v5 : Int32) (v6 : Int32) (v7 : Int32) : Prop :=
  ((0 < v1 → wp_X0_interleave_18 R Ln Q S v1 v3 v5 v6 v7 v2) ∧ (¬ 0 < v1 → wp_X0_interleave_18 R Ln Q S v1 v3 v5 v6 v7 v4))
def wq_X0_interleave (R : cs_T → Int32 → Int32 → Int32 → Int32 → Int32 → Int32 → Int32 → (cs_T → Prop) → Prop) (Ln : Nat → Nat) (S : cs_T) (a1 : Int32) (a2 : Int32) (a3 : Int32) (a4 : Int32) (a5 : Int32) (a6 : Int32) (a7 : Int32) (Q : cs_T → Prop) : Prop :=
  ((a1 ≤ 0 → wp_X0_interleave_8 R Ln Q S a1 a2 a3 a4 a5 a6 a7) ∧ (¬ a1 ≤ 0 → ((0 < a3 → ¬ (S.1 1) = 0 ∧ vp_in a5 (Ln 0) ∧ ∀ v8_9 : Int32, v8_9 = a6 + ((xr_remI a2 (S.1 1)) * (S.2.1 0 a5.toNatClampNeg)) → ¬ (S.1 1) = 0 ∧ vp_in a5 (Ln 0) ∧ ∀ v9_12 : Int32, v9_12 = a6 + ((xr_remI a4 (S.1 1)) * (S.2.1 0 a5.toNatClampNeg)) → ¬ (S.1 1) = 0 ∧ R S (a1 - 1) (a2 / (S.1 1)) a3 a4 (a5 + 1) v8_9 a7 (fun (S14 : cs_T) => ¬ (S14.1 1) = 0 ∧ R S14 a1 a2 (a3 - 1) (a4 / (S14.1 1)) (a5 + 1) v9_12 a7 (fun (S16 : cs_T) => Q S16))) ∧ (¬ 0 < a3 → wp_X0_interleave_8 R Ln Q S a1 a2 a3 a4 a5 a6 a7))))
def wp_X0_interleave (Ln : Nat → Nat) : Nat → cs_T → Int32 → Int32 → Int32 → Int32 → Int32 → Int32 → Int32 → (cs_T → Prop) → Prop
  | 0 => fun _ _ _ _ _ _ _ _ _ => False
  | d + 1 => fun S a1 a2 a3 a4 a5 a6 a7 Q => wq_X0_interleave (wp_X0_interleave Ln d) Ln S a1 a2 a3 a4 a5 a6 a7 Q
def wp_X0_mingleWord_67 (Ln : Nat → Nat) (K3 : cs_T → Int32 → Int32 → Int32 → Nat → Int32 → Prop) (K17 : cs_T → Int32 → Int32 → Int32 → Nat → Int32 → Int32 → Prop) (Q : cs_T → Prop) (S : cs_T) (v1 : Int32) (v2 : Int32) (v3 : Int32) (v4 : Nat) (v5 : Int32) (v6 : Int32) : Prop :=
  ∀ v6_1 : Int32, v6_1 = v6 + 1 → K17 S v1 v2 v3 v4 v5 v6_1
def wb_X0_mingleWord_17 (Ln : Nat → Nat) (K3 : cs_T → Int32 → Int32 → Int32 → Nat → Int32 → Prop) (K17 : cs_T → Int32 → Int32 → Int32 → Nat → Int32 → Int32 → Prop) (Q : cs_T → Prop) (S : cs_T) (v1 : Int32) (v2 : Int32) (v3 : Int32) (v4 : Nat) (v5 : Int32) (v6 : Int32) : Prop :=
  vp_in v5 (Ln 0) ∧ (((S.2.1 0 v5.toNatClampNeg) ≤ v6 → ∀ v5_3 : Int32, v5_3 = v5 + 1 → K3 S v1 v2 v3 v4 v5_3) ∧ (¬ (S.2.1 0 v5.toNatClampNeg) ≤ v6 → vp_in v5 (Ln 1) ∧ v4 < 47 ∧ vp_in ((S.2.1 1 v5.toNatClampNeg) + v6) (Ln v4) ∧ ∀ v7_7 : Int32, v7_7 = S.2.1 v4 ((S.2.1 1 v5.toNatClampNeg) + v6).toNatClampNeg → ((v7_7 = 0 → wp_X0_mingleWord_67 Ln K3 K17 Q S v1 v2 v3 v4 v5 v6) ∧ (¬ v7_7 = 0 → wp_X3_product v3 v7_7 (fun r8 : Int32 => wp_X0_interleave Ln 8 S v1 v2 v5 v6 0 0 r8 (fun (S9 : cs_T) => wp_X0_mingleWord_67 Ln K3 K17 Q S9 v1 v2 v3 v4 v5 v6))))))
def wp_X0_mingleWord_17 (Ln : Nat → Nat) (K3 : cs_T → Int32 → Int32 → Int32 → Nat → Int32 → Prop) (Q : cs_T → Prop) : Nat → cs_T → Int32 → Int32 → Int32 → Nat → Int32 → Int32 → Prop
  | 0 => fun _ _ _ _ _ _ _ => False
  | n + 1 => fun S v1 v2 v3 v4 v5 v6 => wb_X0_mingleWord_17 Ln K3 (wp_X0_mingleWord_17 Ln K3 Q n) Q S v1 v2 v3 v4 v5 v6
def wb_X0_mingleWord_3 (Ln : Nat → Nat)  (K3 : cs_T → Int32 → Int32 → Int32 → Nat → Int32 → Prop) (Q : cs_T → Prop) (S : cs_T) (v1 : Int32) (v2 : Int32) (v3 : Int32) (v4 : Nat) (v5 : Int32) : Prop :=
  ((((S.1 0) - v1) < v5 → Q S) ∧ (¬ ((S.1 0) - v1) < v5 → ∃ n : Nat, wp_X0_mingleWord_17 Ln K3 Q n S v1 v2 v3 v4 v5 0))
def wp_X0_mingleWord_3 (Ln : Nat → Nat)  (Q : cs_T → Prop) : Nat → cs_T → Int32 → Int32 → Int32 → Nat → Int32 → Prop
  | 0 => fun _ _ _ _ _ _ => False
  | n + 1 => fun S v1 v2 v3 v4 v5 => wb_X0_mingleWord_3 Ln (wp_X0_mingleWord_3 Ln Q n) Q S v1 v2 v3 v4 v5
def wp_X0_mingleWord (Ln : Nat → Nat) (S : cs_T) (a1 : Int32) (a2 : Int32) (a3 : Int32) (a4 : Nat) (Q : cs_T → Prop) : Prop :=
  ∃ n : Nat, wp_X0_mingleWord_3 Ln Q n S a1 a2 a3 a4 0
def wp_X0_mingle_65 (Ln : Nat → Nat) (K11 : cs_T → Nat → Nat → Nat → Int32 → Prop) (K23 : cs_T → Nat → Nat → Nat → Int32 → Int32 → Prop) (Q : cs_T → Prop) (S : cs_T) (v1 : Nat) (v2 : Nat) (v3 : Nat) (v4 : Int32) (v5 : Int32) : Prop :=
  ∀ v5_1 : Int32, v5_1 = v5 + 1 → K23 S v1 v2 v3 v4 v5_1
def wb_X0_mingle_23 (Ln : Nat → Nat) (K11 : cs_T → Nat → Nat → Nat → Int32 → Prop) (K23 : cs_T → Nat → Nat → Nat → Int32 → Int32 → Prop) (Q : cs_T → Prop) (S : cs_T) (v1 : Nat) (v2 : Nat) (v3 : Nat) (v4 : Int32) (v5 : Int32) : Prop :=
  vp_in v4 (Ln 0) ∧ (((S.2.1 0 v4.toNatClampNeg) ≤ v5 → ∀ v4_3 : Int32, v4_3 = v4 + 1 → K11 S v1 v2 v3 v4_3) ∧ (¬ (S.2.1 0 v4.toNatClampNeg) ≤ v5 → vp_in v4 (Ln 1) ∧ v2 < 47 ∧ vp_in ((S.2.1 1 v4.toNatClampNeg) + v5) (Ln v2) ∧ ∀ v6_7 : Int32, v6_7 = S.2.1 v2 ((S.2.1 1 v4.toNatClampNeg) + v5).toNatClampNeg → ((v6_7 = 0 → wp_X0_mingle_65 Ln K11 K23 Q S v1 v2 v3 v4 v5) ∧ (¬ v6_7 = 0 → wp_X0_mingleWord Ln S v4 v5 v6_7 v3 (fun (S8 : cs_T) => wp_X0_mingle_65 Ln K11 K23 Q S8 v1 v2 v3 v4 v5)))))
def wp_X0_mingle_23 (Ln : Nat → Nat) (K11 : cs_T → Nat → Nat → Nat → Int32 → Prop) (Q : cs_T → Prop) : Nat → cs_T → Nat → Nat → Nat → Int32 → Int32 → Prop
  | 0 => fun _ _ _ _ _ _ => False
  | n + 1 => fun S v1 v2 v3 v4 v5 => wb_X0_mingle_23 Ln K11 (wp_X0_mingle_23 Ln K11 Q n) Q S v1 v2 v3 v4 v5
def wb_X0_mingle_11 (Ln : Nat → Nat)  (K11 : cs_T → Nat → Nat → Nat → Int32 → Prop) (Q : cs_T → Prop) (S : cs_T) (v1 : Nat) (v2 : Nat) (v3 : Nat) (v4 : Int32) : Prop :=
  (((S.1 0) < v4 → wp_X0_copy Ln S v1 3 (fun (S9 : cs_T) => Q S9)) ∧ (¬ (S.1 0) < v4 → ∃ n : Nat, wp_X0_mingle_23 Ln K11 Q n S v1 v2 v3 v4 0))
def wp_X0_mingle_11 (Ln : Nat → Nat)  (Q : cs_T → Prop) : Nat → cs_T → Nat → Nat → Nat → Int32 → Prop
  | 0 => fun _ _ _ _ _ => False
  | n + 1 => fun S v1 v2 v3 v4 => wb_X0_mingle_11 Ln (wp_X0_mingle_11 Ln Q n) Q S v1 v2 v3 v4
def wp_X0_mingle (Ln : Nat → Nat) (S : cs_T) (a1 : Nat) (a2 : Nat) (a3 : Nat) (Q : cs_T → Prop) : Prop :=
  wp_J7_fill_53178 Ln S 3 0 (fun (S10 : cs_T) => ∃ n : Nat, wp_X0_mingle_11 Ln Q n S10 a1 a2 a3 0)
def wp_X7_shuffle (Ln : Nat → Nat) (S : cs_T) (a1 : Int32) (a2 : Int32) (a3 : Int32) (Q : Int32 → cs_T → Prop) : Prop :=
  wp_X7_noSum a1 (fun r1 : Int32 => ((¬ r1 = 0 → Q ((-1)) S) ∧ (r1 = 0 → wp_X7_noSum a2 (fun r2 : Int32 => ((¬ r2 = 0 → Q ((-1)) S) ∧ (r2 = 0 → wp_X7_noSum a3 (fun r3 : Int32 => ((r3 = 0 → vp_in a1 8 ∧ vp_in a2 8 ∧ vp_in a3 8 ∧ wp_X0_mingle Ln S (7 + a1.toNatClampNeg) (7 + a2.toNatClampNeg) (7 + a3.toNatClampNeg) (fun (S7 : cs_T) => Q 0 S7)) ∧ (¬ r3 = 0 → Q ((-1)) S)))))))))
def wb_X6_backward_8 (Ln : Nat → Nat)  (K8 : cs_T → Int32 → Int32 → Int32 → Int32 → Prop) (Q : Int32 → cs_T → Prop) (S : cs_T) (v2 : Int32) (v3 : Int32) (v4 : Int32) (v5 : Int32) : Prop :=
  ((v2 ≤ v5 → Q v4 S) ∧ (¬ v2 ≤ v5 → ¬ (S.1 2) = 0 ∧ ∀ v4_2 : Int32, v4_2 = (v4 * (S.1 2)) + (xr_remI v3 (S.1 2)) → ¬ (S.1 2) = 0 ∧ ∀ v3_4 : Int32, v3_4 = v3 / (S.1 2) → ∀ v5_5 : Int32, v5_5 = v5 + 1 → K8 S v2 v3_4 v4_2 v5_5))
def wp_X6_backward_8 (Ln : Nat → Nat)  (Q : Int32 → cs_T → Prop) : Nat → cs_T → Int32 → Int32 → Int32 → Int32 → Prop
  | 0 => fun _ _ _ _ _ => False
  | n + 1 => fun S v2 v3 v4 v5 => wb_X6_backward_8 Ln (wp_X6_backward_8 Ln Q n) Q S v2 v3 v4 v5
def wp_X6_backward (Ln : Nat → Nat) (S : cs_T) (a1 : Int32) (a2 : Int32) (Q : Int32 → cs_T → Prop) : Prop :=
  ∃ n : Nat, wp_X6_backward_8 Ln Q n S a2 a1 0 0
def wp_X0_turnAbout_79 (Ln : Nat → Nat) (K2 : cs_T → Nat → Nat → Int32 → Prop) (K13 : cs_T → Nat → Nat → Int32 → Int32 → Prop) (Q : cs_T → Prop) (S : cs_T) (v1 : Nat) (v2 : Nat) (v3 : Int32) (v4 : Int32) (s0 : Nat) (s1 : Int32) (s2 : Int32) : Prop :=
  s0 < 47 ∧ vp_in s1 (Ln s0) ∧ ∀ v4_3 : Int32, v4_3 = v4 + 1 → K13 (cs_sI S s0 s1.toNatClampNeg s2) v1 v2 v3 v4_3
def wb_X0_turnAbout_13 (Ln : Nat → Nat) (K2 : cs_T → Nat → Nat → Int32 → Prop) (K13 : cs_T → Nat → Nat → Int32 → Int32 → Prop) (Q : cs_T → Prop) (S : cs_T) (v1 : Nat) (v2 : Nat) (v3 : Int32) (v4 : Int32) : Prop :=
  vp_in v3 (Ln 0) ∧ (((S.2.1 0 v3.toNatClampNeg) ≤ v4 → ∀ v3_5 : Int32, v3_5 = v3 + 1 → K2 S v1 v2 v3_5) ∧ (¬ (S.2.1 0 v3.toNatClampNeg) ≤ v4 → vp_in v3 (Ln 1) ∧ v2 < 47 ∧ vp_in ((S.2.1 1 v3.toNatClampNeg) + v4) (Ln v2) ∧ ∀ v5_9 : Int32, v5_9 = S.2.1 v2 ((S.2.1 1 v3.toNatClampNeg) + v4).toNatClampNeg → vp_in v3 (Ln 1) ∧ wp_X6_backward Ln S v4 v3 (fun (r12 : Int32) (S11 : cs_T) => ∀ v6_13 : Int32, v6_13 = (S.2.1 1 v3.toNatClampNeg) + r12 → ((¬ (xr_remI v3 2) = 0 → wp_X3_minus 0 v5_9 (fun r14 : Int32 => wp_X0_turnAbout_79 Ln K2 K13 Q S11 v1 v2 v3 v4 3 v6_13 r14)) ∧ ((xr_remI v3 2) = 0 → wp_X0_turnAbout_79 Ln K2 K13 Q S11 v1 v2 v3 v4 3 v6_13 v5_9)))))
def wp_X0_turnAbout_13 (Ln : Nat → Nat) (K2 : cs_T → Nat → Nat → Int32 → Prop) (Q : cs_T → Prop) : Nat → cs_T → Nat → Nat → Int32 → Int32 → Prop
  | 0 => fun _ _ _ _ _ => False
  | n + 1 => fun S v1 v2 v3 v4 => wb_X0_turnAbout_13 Ln K2 (wp_X0_turnAbout_13 Ln K2 Q n) Q S v1 v2 v3 v4
def wb_X0_turnAbout_2 (Ln : Nat → Nat)  (K2 : cs_T → Nat → Nat → Int32 → Prop) (Q : cs_T → Prop) (S : cs_T) (v1 : Nat) (v2 : Nat) (v3 : Int32) : Prop :=
  (((S.1 0) < v3 → wp_X0_copy Ln S v1 3 (fun (S15 : cs_T) => Q S15)) ∧ (¬ (S.1 0) < v3 → ∃ n : Nat, wp_X0_turnAbout_13 Ln K2 Q n S v1 v2 v3 0))
def wp_X0_turnAbout_2 (Ln : Nat → Nat)  (Q : cs_T → Prop) : Nat → cs_T → Nat → Nat → Int32 → Prop
  | 0 => fun _ _ _ _ => False
  | n + 1 => fun S v1 v2 v3 => wb_X0_turnAbout_2 Ln (wp_X0_turnAbout_2 Ln Q n) Q S v1 v2 v3
def wp_X0_turnAbout (Ln : Nat → Nat) (S : cs_T) (a1 : Nat) (a2 : Nat) (Q : cs_T → Prop) : Prop :=
  ∃ n : Nat, wp_X0_turnAbout_2 Ln Q n S a1 a2 0
def wp_X7_turn (Ln : Nat → Nat) (S : cs_T) (a1 : Int32) (a2 : Int32) (Q : Int32 → cs_T → Prop) : Prop :=
  wp_X7_noSum a1 (fun r1 : Int32 => ((¬ r1 = 0 → Q ((-1)) S) ∧ (r1 = 0 → wp_X7_noSum a2 (fun r2 : Int32 => ((r2 = 0 → vp_in a1 8 ∧ vp_in a2 8 ∧ wp_X0_turnAbout Ln S (7 + a1.toNatClampNeg) (7 + a2.toNatClampNeg) (fun (S5 : cs_T) => Q 0 S5)) ∧ (¬ r2 = 0 → Q ((-1)) S))))))
def wp_X0_setToUnit (Ln : Nat → Nat) (S : cs_T) (a1 : Nat) (a2 : Int32) (Q : cs_T → Prop) : Prop :=
  wp_J7_fill_53178 Ln S a1 0 (fun (S1 : cs_T) => a1 < 47 ∧ vp_in ((0 : Int32)) (Ln a1) ∧ Q (cs_sI S1 a1 ((0 : Int32)).toNatClampNeg a2))
def wb_X0_raise_23 (Ln : Nat → Nat)  (K23 : cs_T → Nat → Nat → Nat → Nat → Int32 → Prop) (Q : cs_T → Prop) (S : cs_T) (v1 : Nat) (v2 : Nat) (v3 : Nat) (v4 : Nat) (v5 : Int32) : Prop :=
  ((v5 < 1 → wp_X0_copy Ln S v1 v3 (fun (S1 : cs_T) => Q S1)) ∧ (¬ v5 < 1 → wp_X0_setToUnit Ln S v4 1 (fun (S2 : cs_T) => vp_in v5 (Ln 2) ∧ wp_X0_gather Ln S2 v4 v3 v2 (S2.2.1 2 v5.toNatClampNeg) (S2.1 0) (fun (S4 : cs_T) => ∀ v5_5 : Int32, v5_5 = v5 + (-1) → K23 S4 v1 v2 v4 v3 v5_5))))
def wp_X0_raise_23 (Ln : Nat → Nat)  (Q : cs_T → Prop) : Nat → cs_T → Nat → Nat → Nat → Nat → Int32 → Prop
  | 0 => fun _ _ _ _ _ _ => False
  | n + 1 => fun S v1 v2 v3 v4 v5 => wb_X0_raise_23 Ln (wp_X0_raise_23 Ln Q n) Q S v1 v2 v3 v4 v5
def wp_X0_raise (Ln : Nat → Nat) (S : cs_T) (a1 : Nat) (a2 : Nat) (Q : cs_T → Prop) : Prop :=
  wp_X0_setToUnit Ln S 5 1 (fun (S6 : cs_T) => ∀ v5_7 : Int32, v5_7 = S6.1 0 → ∃ n : Nat, wp_X0_raise_23 Ln Q n S6 a1 a2 5 6 v5_7)
def wp_X7_exp (Ln : Nat → Nat) (S : cs_T) (a1 : Int32) (a2 : Int32) (Q : Int32 → cs_T → Prop) : Prop :=
  wp_X7_noSum a1 (fun r1 : Int32 => ((¬ r1 = 0 → Q ((-1)) S) ∧ (r1 = 0 → wp_X7_noSum a2 (fun r2 : Int32 => ((r2 = 0 → vp_in a2 8 ∧ (7 + a2.toNatClampNeg) < 47 ∧ vp_in ((0 : Int32)) (Ln (7 + a2.toNatClampNeg)) ∧ (((S.2.1 (7 + a2.toNatClampNeg) ((0 : Int32)).toNatClampNeg) = 0 → vp_in a1 8 ∧ vp_in a2 8 ∧ wp_X0_raise Ln S (7 + a1.toNatClampNeg) (7 + a2.toNatClampNeg) (fun (S8 : cs_T) => Q 0 S8)) ∧ (¬ (S.2.1 (7 + a2.toNatClampNeg) ((0 : Int32)).toNatClampNeg) = 0 → Q ((-3)) S))) ∧ (¬ r2 = 0 → Q ((-1)) S))))))
def wb_X0_unraise_49 (Ln : Nat → Nat)  (K49 : cs_T → Nat → Nat → Nat → Int32 → Prop) (Q : cs_T → Prop) (S : cs_T) (v1 : Nat) (v3 : Nat) (v4 : Nat) (v5 : Int32) : Prop :=
  ((v5 < 1 → wp_J7_fill_53178 Ln S v4 0 (fun (S1 : cs_T) => wp_X0_gather Ln S1 v4 v3 4 1 (S1.1 0) (fun (S2 : cs_T) => wp_X0_copy Ln S2 v1 v4 (fun (S3 : cs_T) => Q S3)))) ∧ (¬ v5 < 1 → vp_in v5 (Ln 2) ∧ wp_X0_setToUnit Ln S v4 (S.2.1 2 v5.toNatClampNeg) (fun (S5 : cs_T) => wp_X0_gather Ln S5 v4 v3 4 2147483646 (S5.1 0) (fun (S6 : cs_T) => ∀ v5_7 : Int32, v5_7 = v5 + (-1) → K49 S6 v1 v4 v3 v5_7))))
def wp_X0_unraise_49 (Ln : Nat → Nat)  (Q : cs_T → Prop) : Nat → cs_T → Nat → Nat → Nat → Int32 → Prop
  | 0 => fun _ _ _ _ _ => False
  | n + 1 => fun S v1 v3 v4 v5 => wb_X0_unraise_49 Ln (wp_X0_unraise_49 Ln Q n) Q S v1 v3 v4 v5
def wp_X0_unraise (Ln : Nat → Nat) (S : cs_T) (a1 : Nat) (a2 : Nat) (Q : cs_T → Prop) : Prop :=
  wp_X0_copy Ln S 4 a2 (fun (S8 : cs_T) => vp_in ((0 : Int32)) (Ln 4) ∧ vp_in ((cs_sI S8 4 ((0 : Int32)).toNatClampNeg 0).1 0) (Ln 2) ∧ wp_X0_setToUnit Ln (cs_sI S8 4 ((0 : Int32)).toNatClampNeg 0) 5 ((cs_sI S8 4 ((0 : Int32)).toNatClampNeg 0).2.1 2 ((cs_sI S8 4 ((0 : Int32)).toNatClampNeg 0).1 0).toNatClampNeg) (fun (S11 : cs_T) => ∀ v5_12 : Int32, v5_12 = (S11.1 0) - 1 → ∃ n : Nat, wp_X0_unraise_49 Ln Q n S11 a1 5 6 v5_12))
def wp_X7_log (Ln : Nat → Nat) (S : cs_T) (a1 : Int32) (a2 : Int32) (Q : Int32 → cs_T → Prop) : Prop :=
  wp_X7_noSum a1 (fun r1 : Int32 => ((¬ r1 = 0 → Q ((-1)) S) ∧ (r1 = 0 → wp_X7_noSum a2 (fun r2 : Int32 => ((r2 = 0 → vp_in a2 8 ∧ (7 + a2.toNatClampNeg) < 47 ∧ vp_in ((0 : Int32)) (Ln (7 + a2.toNatClampNeg)) ∧ (((S.2.1 (7 + a2.toNatClampNeg) ((0 : Int32)).toNatClampNeg) = 1 → vp_in a1 8 ∧ vp_in a2 8 ∧ wp_X0_unraise Ln S (7 + a1.toNatClampNeg) (7 + a2.toNatClampNeg) (fun (S8 : cs_T) => Q 0 S8)) ∧ (¬ (S.2.1 (7 + a2.toNatClampNeg) ((0 : Int32)).toNatClampNeg) = 1 → Q ((-3)) S))) ∧ (¬ r2 = 0 → Q ((-1)) S))))))
def wb_X0_invert_36 (Ln : Nat → Nat)  (K36 : cs_T → Nat → Nat → Nat → Int32 → Prop) (Q : cs_T → Prop) (S : cs_T) (v1 : Nat) (v3 : Nat) (v4 : Nat) (v5 : Int32) : Prop :=
  (((S.1 0) < v5 → wp_X0_copy Ln S v1 v3 (fun (S1 : cs_T) => Q S1)) ∧ (¬ (S.1 0) < v5 → wp_X0_setToUnit Ln S v4 1 (fun (S2 : cs_T) => wp_X0_gather Ln S2 v4 v3 4 2147483646 (S2.1 0) (fun (S3 : cs_T) => ∀ v5_4 : Int32, v5_4 = v5 + 1 → K36 S3 v1 v4 v3 v5_4))))
def wp_X0_invert_36 (Ln : Nat → Nat)  (Q : cs_T → Prop) : Nat → cs_T → Nat → Nat → Nat → Int32 → Prop
  | 0 => fun _ _ _ _ _ => False
  | n + 1 => fun S v1 v3 v4 v5 => wb_X0_invert_36 Ln (wp_X0_invert_36 Ln Q n) Q S v1 v3 v4 v5
def wp_X0_invert (Ln : Nat → Nat) (S : cs_T) (a1 : Nat) (a2 : Nat) (Q : cs_T → Prop) : Prop :=
  wp_X0_copy Ln S 4 a2 (fun (S5 : cs_T) => vp_in ((0 : Int32)) (Ln 4) ∧ wp_X0_setToUnit Ln (cs_sI S5 4 ((0 : Int32)).toNatClampNeg 0) 5 1 (fun (S7 : cs_T) => ∃ n : Nat, wp_X0_invert_36 Ln Q n S7 a1 5 6 1))
def wp_X7_inverse (Ln : Nat → Nat) (S : cs_T) (a1 : Int32) (a2 : Int32) (Q : Int32 → cs_T → Prop) : Prop :=
  wp_X7_noSum a1 (fun r1 : Int32 => ((¬ r1 = 0 → Q ((-1)) S) ∧ (r1 = 0 → wp_X7_noSum a2 (fun r2 : Int32 => ((r2 = 0 → vp_in a2 8 ∧ (7 + a2.toNatClampNeg) < 47 ∧ vp_in ((0 : Int32)) (Ln (7 + a2.toNatClampNeg)) ∧ (((S.2.1 (7 + a2.toNatClampNeg) ((0 : Int32)).toNatClampNeg) = 1 → vp_in a1 8 ∧ vp_in a2 8 ∧ wp_X0_invert Ln S (7 + a1.toNatClampNeg) (7 + a2.toNatClampNeg) (fun (S8 : cs_T) => Q 0 S8)) ∧ (¬ (S.2.1 (7 + a2.toNatClampNeg) ((0 : Int32)).toNatClampNeg) = 1 → Q ((-3)) S))) ∧ (¬ r2 = 0 → Q ((-1)) S))))))
def wp_X0_compose (Ln : Nat → Nat) (S : cs_T) (a1 : Nat) (a2 : Nat) (a3 : Nat) (Q : cs_T → Prop) : Prop :=
  vp_in ((0 : Int32)) 18 ∧ wp_X0_raise Ln S (15 + ((0 : Int32)).toNatClampNeg) a2 (fun (S2 : cs_T) => vp_in ((1 : Int32)) 18 ∧ wp_X0_raise Ln S2 (15 + ((1 : Int32)).toNatClampNeg) a3 (fun (S4 : cs_T) => vp_in ((0 : Int32)) 18 ∧ vp_in ((0 : Int32)) 18 ∧ vp_in ((1 : Int32)) 18 ∧ wp_X0_multiply Ln S4 (15 + ((0 : Int32)).toNatClampNeg) (15 + ((0 : Int32)).toNatClampNeg) (15 + ((1 : Int32)).toNatClampNeg) (fun (S8 : cs_T) => vp_in ((0 : Int32)) 18 ∧ wp_X0_unraise Ln S8 a1 (15 + ((0 : Int32)).toNatClampNeg) (fun (S10 : cs_T) => Q S10))))
def wp_X7_group (Ln : Nat → Nat) (S : cs_T) (a1 : Int32) (a2 : Int32) (a3 : Int32) (Q : Int32 → cs_T → Prop) : Prop :=
  wp_X7_noSum a1 (fun r1 : Int32 => ((¬ r1 = 0 → Q ((-1)) S) ∧ (r1 = 0 → wp_X7_noSum a2 (fun r2 : Int32 => ((¬ r2 = 0 → Q ((-1)) S) ∧ (r2 = 0 → wp_X7_noSum a3 (fun r3 : Int32 => ((r3 = 0 → vp_in a2 8 ∧ (7 + a2.toNatClampNeg) < 47 ∧ vp_in ((0 : Int32)) (Ln (7 + a2.toNatClampNeg)) ∧ ((¬ (S.2.1 (7 + a2.toNatClampNeg) ((0 : Int32)).toNatClampNeg) = 0 → Q ((-3)) S) ∧ ((S.2.1 (7 + a2.toNatClampNeg) ((0 : Int32)).toNatClampNeg) = 0 → vp_in a3 8 ∧ (7 + a3.toNatClampNeg) < 47 ∧ vp_in ((0 : Int32)) (Ln (7 + a3.toNatClampNeg)) ∧ (((S.2.1 (7 + a3.toNatClampNeg) ((0 : Int32)).toNatClampNeg) = 0 → vp_in a1 8 ∧ vp_in a2 8 ∧ vp_in a3 8 ∧ wp_X0_compose Ln S (7 + a1.toNatClampNeg) (7 + a2.toNatClampNeg) (7 + a3.toNatClampNeg) (fun (S13 : cs_T) => Q 0 S13)) ∧ (¬ (S.2.1 (7 + a3.toNatClampNeg) ((0 : Int32)).toNatClampNeg) = 0 → Q ((-3)) S))))) ∧ (¬ r3 = 0 → Q ((-1)) S)))))))))
def wp_X7_noLetter (Ln : Nat → Nat) (S : cs_T) (a1 : Int32) (Q : Int32 → cs_T → Prop) : Prop :=
  ((a1 < 0 → Q 1 S) ∧ (¬ a1 < 0 → ((a1 < (S.1 2) → Q 0 S) ∧ (¬ a1 < (S.1 2) → Q 1 S))))
def wp_X0_setInOne_131 (Ln : Nat → Nat) (K25 : cs_T → Int32 → Int32 → Int32 → Nat → Int32 → Int32 → Int32 → Prop) (K41 : cs_T → Int32 → Int32 → Int32 → Nat → Int32 → Int32 → Int32 → Int32 → Prop) (Q : cs_T → Prop) (S : cs_T) (v1 : Int32) (v3 : Int32) (v4 : Int32) (v5 : Nat) (v6 : Int32) (v7 : Int32) (v8 : Int32) (v9 : Int32) : Prop :=
  ∀ v9_1 : Int32, v9_1 = v9 + 1 → K41 S v1 v3 v4 v5 v6 v7 v8 v9_1
def wb_X0_setInOne_41 (Ln : Nat → Nat) (K25 : cs_T → Int32 → Int32 → Int32 → Nat → Int32 → Int32 → Int32 → Prop) (K41 : cs_T → Int32 → Int32 → Int32 → Nat → Int32 → Int32 → Int32 → Int32 → Prop) (Q : cs_T → Prop) (S : cs_T) (v1 : Int32) (v3 : Int32) (v4 : Int32) (v5 : Nat) (v6 : Int32) (v7 : Int32) (v8 : Int32) (v9 : Int32) : Prop :=
  vp_in v8 (Ln 0) ∧ (((S.2.1 0 v8.toNatClampNeg) ≤ v9 → ∀ v8_3 : Int32, v8_3 = v8 + 1 → K25 S v1 v3 v4 v5 v6 v7 v8_3) ∧ (¬ (S.2.1 0 v8.toNatClampNeg) ≤ v9 → vp_in v8 (Ln 1) ∧ v5 < 47 ∧ vp_in ((S.2.1 1 v8.toNatClampNeg) + v9) (Ln v5) ∧ ∀ v10_7 : Int32, v10_7 = S.2.1 v5 ((S.2.1 1 v8.toNatClampNeg) + v9).toNatClampNeg → ((v10_7 = 0 → wp_X0_setInOne_131 Ln K25 K41 Q S v1 v3 v4 v5 v6 v7 v8 v9) ∧ (¬ v10_7 = 0 → vp_in ((v1 - 1) + v8) (Ln 1) ∧ vp_in v8 (Ln 0) ∧ vp_in v3 (Ln 0) ∧ ∀ v11_11 : Int32, v11_11 = ((S.2.1 1 ((v1 - 1) + v8).toNatClampNeg) + (((v6 * (S.2.1 0 v8.toNatClampNeg)) + v9) * (S.2.1 0 v3.toNatClampNeg))) + v7 → vp_in v11_11 (Ln 3) ∧ wp_X3_productMore (S.2.1 3 v11_11.toNatClampNeg) v4 v10_7 (fun r13 : Int32 => vp_in v11_11 (Ln 3) ∧ wp_X0_setInOne_131 Ln K25 K41 Q (cs_sI S 3 v11_11.toNatClampNeg r13) v1 v3 v4 v5 v6 v7 v8 v9)))))
def wp_X0_setInOne_41 (Ln : Nat → Nat) (K25 : cs_T → Int32 → Int32 → Int32 → Nat → Int32 → Int32 → Int32 → Prop) (Q : cs_T → Prop) : Nat → cs_T → Int32 → Int32 → Int32 → Nat → Int32 → Int32 → Int32 → Int32 → Prop
  | 0 => fun _ _ _ _ _ _ _ _ _ => False
  | n + 1 => fun S v1 v3 v4 v5 v6 v7 v8 v9 => wb_X0_setInOne_41 Ln K25 (wp_X0_setInOne_41 Ln K25 Q n) Q S v1 v3 v4 v5 v6 v7 v8 v9
def wb_X0_setInOne_25 (Ln : Nat → Nat)  (K25 : cs_T → Int32 → Int32 → Int32 → Nat → Int32 → Int32 → Int32 → Prop) (Q : cs_T → Prop) (S : cs_T) (v1 : Int32) (v3 : Int32) (v4 : Int32) (v5 : Nat) (v6 : Int32) (v7 : Int32) (v8 : Int32) : Prop :=
  (((((S.1 0) - v1) + 1) < v8 → Q S) ∧ (¬ (((S.1 0) - v1) + 1) < v8 → ∃ n : Nat, wp_X0_setInOne_41 Ln K25 Q n S v1 v3 v4 v5 v6 v7 v8 0))
def wp_X0_setInOne_25 (Ln : Nat → Nat)  (Q : cs_T → Prop) : Nat → cs_T → Int32 → Int32 → Int32 → Nat → Int32 → Int32 → Int32 → Prop
  | 0 => fun _ _ _ _ _ _ _ _ => False
  | n + 1 => fun S v1 v3 v4 v5 v6 v7 v8 => wb_X0_setInOne_25 Ln (wp_X0_setInOne_25 Ln Q n) Q S v1 v3 v4 v5 v6 v7 v8
def wp_X0_setInOne (Ln : Nat → Nat) (S : cs_T) (a1 : Int32) (a2 : Int32) (a3 : Int32) (a4 : Int32) (a5 : Nat) (Q : cs_T → Prop) : Prop :=
  vp_in (a3 + 1) (Ln 0) ∧ ¬ (S.2.1 0 (a3 + 1).toNatClampNeg) = 0 ∧ ∀ v6_17 : Int32, v6_17 = a2 / (S.2.1 0 (a3 + 1).toNatClampNeg) → vp_in a3 (Ln 0) ∧ ¬ (S.2.1 0 a3.toNatClampNeg) = 0 ∧ ∀ v7_20 : Int32, v7_20 = xr_remI a2 (S.2.1 0 a3.toNatClampNeg) → ∃ n : Nat, wp_X0_setInOne_25 Ln Q n S a1 a3 a4 a5 v6_17 v7_20 0
def wp_X0_setInEach_97 (Ln : Nat → Nat) (K11 : cs_T → Nat → Nat → Int32 → Nat → Int32 → Prop) (K23 : cs_T → Nat → Nat → Int32 → Nat → Int32 → Int32 → Prop) (K52 : cs_T → Nat → Nat → Int32 → Nat → Int32 → Int32 → Int32 → Int32 → Prop) (Q : cs_T → Prop) (S : cs_T) (v1 : Nat) (v2 : Nat) (v3 : Int32) (v4 : Nat) (v5 : Int32) (v6 : Int32) (v7 : Int32) (v8 : Int32) : Prop :=
  ∀ v8_1 : Int32, v8_1 = v8 + 1 → K52 S v1 v2 v3 v4 v5 v6 v7 v8_1
def wp_X0_setInEach_103 (Ln : Nat → Nat) (K11 : cs_T → Nat → Nat → Int32 → Nat → Int32 → Prop) (K23 : cs_T → Nat → Nat → Int32 → Nat → Int32 → Int32 → Prop) (Q : cs_T → Prop) (S : cs_T) (v1 : Nat) (v2 : Nat) (v3 : Int32) (v4 : Nat) (v5 : Int32) (v6 : Int32) : Prop :=
  ∀ v6_2 : Int32, v6_2 = v6 + 1 → K23 S v1 v2 v3 v4 v5 v6_2
def wb_X0_setInEach_52 (Ln : Nat → Nat) (K11 : cs_T → Nat → Nat → Int32 → Nat → Int32 → Prop) (K23 : cs_T → Nat → Nat → Int32 → Nat → Int32 → Int32 → Prop) (K52 : cs_T → Nat → Nat → Int32 → Nat → Int32 → Int32 → Int32 → Int32 → Prop) (Q : cs_T → Prop) (S : cs_T) (v1 : Nat) (v2 : Nat) (v3 : Int32) (v4 : Nat) (v5 : Int32) (v6 : Int32) (v7 : Int32) (v8 : Int32) : Prop :=
  ((v5 ≤ v8 → wp_X0_setInEach_103 Ln K11 K23 Q S v1 v2 v3 v4 v5 v6) ∧ (¬ v5 ≤ v8 → ((v7 = 0 → wp_X0_setInEach_103 Ln K11 K23 Q S v1 v2 v3 v4 v5 v6) ∧ (¬ v7 = 0 → vp_in v8 (Ln 0) ∧ ¬ (S.2.1 0 v8.toNatClampNeg) = 0 ∧ ¬ (S.1 1) = 0 ∧ ((¬ (xr_remI (v6 / (S.2.1 0 v8.toNatClampNeg)) (S.1 1)) = v3 → wp_X0_setInEach_97 Ln K11 K23 K52 Q S v1 v2 v3 v4 v5 v6 v7 v8) ∧ ((xr_remI (v6 / (S.2.1 0 v8.toNatClampNeg)) (S.1 1)) = v3 → wp_X0_setInOne Ln S v5 v6 v8 v7 v4 (fun (S6 : cs_T) => wp_X0_setInEach_97 Ln K11 K23 K52 Q S6 v1 v2 v3 v4 v5 v6 v7 v8)))))))
def wp_X0_setInEach_52 (Ln : Nat → Nat) (K11 : cs_T → Nat → Nat → Int32 → Nat → Int32 → Prop) (K23 : cs_T → Nat → Nat → Int32 → Nat → Int32 → Int32 → Prop) (Q : cs_T → Prop) : Nat → cs_T → Nat → Nat → Int32 → Nat → Int32 → Int32 → Int32 → Int32 → Prop
  | 0 => fun _ _ _ _ _ _ _ _ _ => False
  | n + 1 => fun S v1 v2 v3 v4 v5 v6 v7 v8 => wb_X0_setInEach_52 Ln K11 K23 (wp_X0_setInEach_52 Ln K11 K23 Q n) Q S v1 v2 v3 v4 v5 v6 v7 v8
def wb_X0_setInEach_23 (Ln : Nat → Nat) (K11 : cs_T → Nat → Nat → Int32 → Nat → Int32 → Prop) (K23 : cs_T → Nat → Nat → Int32 → Nat → Int32 → Int32 → Prop) (Q : cs_T → Prop) (S : cs_T) (v1 : Nat) (v2 : Nat) (v3 : Int32) (v4 : Nat) (v5 : Int32) (v6 : Int32) : Prop :=
  vp_in v5 (Ln 0) ∧ (((S.2.1 0 v5.toNatClampNeg) ≤ v6 → ∀ v5_8 : Int32, v5_8 = v5 + 1 → K11 S v1 v2 v3 v4 v5_8) ∧ (¬ (S.2.1 0 v5.toNatClampNeg) ≤ v6 → vp_in v5 (Ln 1) ∧ v2 < 47 ∧ vp_in ((S.2.1 1 v5.toNatClampNeg) + v6) (Ln v2) ∧ ∀ v7_12 : Int32, v7_12 = S.2.1 v2 ((S.2.1 1 v5.toNatClampNeg) + v6).toNatClampNeg → ∃ n : Nat, wp_X0_setInEach_52 Ln K11 K23 Q n S v1 v2 v3 v4 v5 v6 v7_12 0))
def wp_X0_setInEach_23 (Ln : Nat → Nat) (K11 : cs_T → Nat → Nat → Int32 → Nat → Int32 → Prop) (Q : cs_T → Prop) : Nat → cs_T → Nat → Nat → Int32 → Nat → Int32 → Int32 → Prop
  | 0 => fun _ _ _ _ _ _ _ => False
  | n + 1 => fun S v1 v2 v3 v4 v5 v6 => wb_X0_setInEach_23 Ln K11 (wp_X0_setInEach_23 Ln K11 Q n) Q S v1 v2 v3 v4 v5 v6
def wb_X0_setInEach_11 (Ln : Nat → Nat)  (K11 : cs_T → Nat → Nat → Int32 → Nat → Int32 → Prop) (Q : cs_T → Prop) (S : cs_T) (v1 : Nat) (v2 : Nat) (v3 : Int32) (v4 : Nat) (v5 : Int32) : Prop :=
  (((S.1 0) < v5 → wp_X0_copy Ln S v1 3 (fun (S13 : cs_T) => Q S13)) ∧ (¬ (S.1 0) < v5 → ∃ n : Nat, wp_X0_setInEach_23 Ln K11 Q n S v1 v2 v3 v4 v5 0))
def wp_X0_setInEach_11 (Ln : Nat → Nat)  (Q : cs_T → Prop) : Nat → cs_T → Nat → Nat → Int32 → Nat → Int32 → Prop
  | 0 => fun _ _ _ _ _ _ => False
  | n + 1 => fun S v1 v2 v3 v4 v5 => wb_X0_setInEach_11 Ln (wp_X0_setInEach_11 Ln Q n) Q S v1 v2 v3 v4 v5
def wp_X0_setInEach (Ln : Nat → Nat) (S : cs_T) (a1 : Nat) (a2 : Nat) (a3 : Int32) (a4 : Nat) (Q : cs_T → Prop) : Prop :=
  wp_J7_fill_53178 Ln S 3 0 (fun (S14 : cs_T) => ∃ n : Nat, wp_X0_setInEach_11 Ln Q n S14 a1 a2 a3 a4 1)
def wp_X7_derive (Ln : Nat → Nat) (S : cs_T) (a1 : Int32) (a2 : Int32) (a3 : Int32) (a4 : Int32) (Q : Int32 → cs_T → Prop) : Prop :=
  wp_X7_noSum a1 (fun r1 : Int32 => ((¬ r1 = 0 → Q ((-1)) S) ∧ (r1 = 0 → wp_X7_noSum a2 (fun r2 : Int32 => ((¬ r2 = 0 → Q ((-1)) S) ∧ (r2 = 0 → wp_X7_noSum a4 (fun r3 : Int32 => ((¬ r3 = 0 → Q ((-1)) S) ∧ (r3 = 0 → wp_X7_noLetter Ln S a3 (fun (r5 : Int32) (S4 : cs_T) => ((r5 = 0 → vp_in a1 8 ∧ vp_in a2 8 ∧ vp_in a4 8 ∧ wp_X0_setInEach Ln S4 (7 + a1.toNatClampNeg) (7 + a2.toNatClampNeg) a3 (7 + a4.toNatClampNeg) (fun (S9 : cs_T) => Q 0 S9)) ∧ (¬ r5 = 0 → Q ((-1)) S4))))))))))))
def wp_J7_rangeCheck_23922 (a0 : Int32) (a1 : Int32) (a2 : Int32) (Q : Prop) : Prop :=
  ((a1 ≤ a2 → ((0 ≤ a1 → ((a2 ≤ a0 → Q) ∧ (¬ a2 ≤ a0 → False))) ∧ (¬ 0 ≤ a1 → False))) ∧ (¬ a1 ≤ a2 → False))
def wb_J7_fill_fda19_10 (Ln : Nat → Nat)  (K10 : cs_T → Nat → Int32 → Int32 → Int32 → Prop) (Q : cs_T → Prop) (S : cs_T) (v0 : Nat) (v2 : Int32) (v3 : Int32) (v4 : Int32) : Prop :=
  ((v2 ≤ v4 → Q S) ∧ (¬ v2 ≤ v4 → v0 < 47 ∧ vp_in v4 (Ln v0) ∧ ∀ v4_3 : Int32, v4_3 = v4 + 1 → K10 (cs_sI S v0 v4.toNatClampNeg v3) v0 v2 v3 v4_3))
def wp_J7_fill_fda19_10 (Ln : Nat → Nat)  (Q : cs_T → Prop) : Nat → cs_T → Nat → Int32 → Int32 → Int32 → Prop
  | 0 => fun _ _ _ _ _ => False
  | n + 1 => fun S v0 v2 v3 v4 => wb_J7_fill_fda19_10 Ln (wp_J7_fill_fda19_10 Ln Q n) Q S v0 v2 v3 v4
def wp_J7_fill_fda19 (Ln : Nat → Nat) (S : cs_T) (a0 : Nat) (a1 : Int32) (a2 : Int32) (a3 : Int32) (Q : cs_T → Prop) : Prop :=
  a0 < 47 ∧ wp_J7_rangeCheck_23922 (nI (Ln a0)) a1 a2 (∃ n : Nat, wp_J7_fill_fda19_10 Ln Q n S a0 a2 a3 a1)
def wb_X0_gatherAhead_40 (Ln : Nat → Nat) (K3 : cs_T → Nat → Nat → Int32 → Int32 → Int32 → Prop) (K40 : cs_T → Nat → Nat → Int32 → Int32 → Int32 → Int32 → Int32 → Prop) (Q : cs_T → Prop) (S : cs_T) (v1 : Nat) (v2 : Nat) (v3 : Int32) (v4 : Int32) (v5 : Int32) (v6 : Int32) (v7 : Int32) : Prop :=
  vp_in (v5 + 1) (Ln 1) ∧ (((S.2.1 1 (v5 + 1).toNatClampNeg) ≤ v7 → ∀ v5_2 : Int32, v5_2 = v5 + 1 → K3 S v1 v2 v3 v4 v5_2) ∧ (¬ (S.2.1 1 (v5 + 1).toNatClampNeg) ≤ v7 → v1 < 47 ∧ vp_in v6 (Ln v1) ∧ v2 < 47 ∧ vp_in v7 (Ln v2) ∧ wp_X3_plus (S.2.1 v1 v6.toNatClampNeg) (S.2.1 v2 v7.toNatClampNeg) (fun r7 : Int32 => vp_in v6 (Ln v1) ∧ ∀ v6_9 : Int32, v6_9 = v6 + 1 → ∀ v7_10 : Int32, v7_10 = v7 + 1 → K40 (cs_sI S v1 v6.toNatClampNeg r7) v1 v2 v3 v4 v5 v6_9 v7_10)))
def wp_X0_gatherAhead_40 (Ln : Nat → Nat) (K3 : cs_T → Nat → Nat → Int32 → Int32 → Int32 → Prop) (Q : cs_T → Prop) : Nat → cs_T → Nat → Nat → Int32 → Int32 → Int32 → Int32 → Int32 → Prop
  | 0 => fun _ _ _ _ _ _ _ _ => False
  | n + 1 => fun S v1 v2 v3 v4 v5 v6 v7 => wb_X0_gatherAhead_40 Ln K3 (wp_X0_gatherAhead_40 Ln K3 Q n) Q S v1 v2 v3 v4 v5 v6 v7
def wb_X0_gatherAhead_3 (Ln : Nat → Nat)  (K3 : cs_T → Nat → Nat → Int32 → Int32 → Int32 → Prop) (Q : cs_T → Prop) (S : cs_T) (v1 : Nat) (v2 : Nat) (v3 : Int32) (v4 : Int32) (v5 : Int32) : Prop :=
  ((v4 < v5 → Q S) ∧ (¬ v4 < v5 → vp_in (v5 + 1) (Ln 1) ∧ vp_in v5 (Ln 0) ∧ ∀ v6_13 : Int32, v6_13 = (S.2.1 1 (v5 + 1).toNatClampNeg) + (v3 * (S.2.1 0 v5.toNatClampNeg)) → vp_in v5 (Ln 1) ∧ ∀ v7_15 : Int32, v7_15 = S.2.1 1 v5.toNatClampNeg → ∃ n : Nat, wp_X0_gatherAhead_40 Ln K3 Q n S v1 v2 v3 v4 v5 v6_13 v7_15))
def wp_X0_gatherAhead_3 (Ln : Nat → Nat)  (Q : cs_T → Prop) : Nat → cs_T → Nat → Nat → Int32 → Int32 → Int32 → Prop
  | 0 => fun _ _ _ _ _ _ => False
  | n + 1 => fun S v1 v2 v3 v4 v5 => wb_X0_gatherAhead_3 Ln (wp_X0_gatherAhead_3 Ln Q n) Q S v1 v2 v3 v4 v5
def wp_X0_gatherAhead (Ln : Nat → Nat) (S : cs_T) (a1 : Nat) (a2 : Nat) (a3 : Int32) (a4 : Int32) (Q : cs_T → Prop) : Prop :=
  ∃ n : Nat, wp_X0_gatherAhead_3 Ln Q n S a1 a2 a3 a4 0
def wp_X0_setBehind_144 (R : cs_T → Nat → Int32 → Int32 → Int32 → Nat → (cs_T → Prop) → Prop) (Ln : Nat → Nat) (K77 : cs_T → Nat → Int32 → Int32 → Int32 → Nat → Nat → Int32 → Nat → Int32 → Prop) (Q : cs_T → Prop) (S : cs_T) (v1 : Nat) (v2 : Int32) (v3 : Int32) (v4 : Int32) (v5 : Nat) (v6 : Nat) (v7 : Int32) (v8 : Nat) (v9 : Int32) : Prop :=
  ∀ v9_1 : Int32, v9_1 = v9 + 1 → K77 S v1 v2 v3 v4 v5 v6 v7 v8 v9_1
def wb_X0_setBehind_77 (R : cs_T → Nat → Int32 → Int32 → Int32 → Nat → (cs_T → Prop) → Prop) (Ln : Nat → Nat)  (K77 : cs_T → Nat → Int32 → Int32 → Int32 → Nat → Nat → Int32 → Nat → Int32 → Prop) (Q : cs_T → Prop) (S : cs_T) (v1 : Nat) (v2 : Int32) (v3 : Int32) (v4 : Int32) (v5 : Nat) (v6 : Nat) (v7 : Int32) (v8 : Nat) (v9 : Int32) : Prop :=
  (((S.1 1) ≤ v9 → Q S) ∧ (¬ (S.1 1) ≤ v9 → R S v1 (v2 + 1) ((v3 * (S.1 1)) + v9) v4 v5 (fun (S2 : cs_T) => ((¬ v9 = v4 → wp_X0_gatherAhead Ln S2 v6 v8 v9 (v7 - 1) (fun (S3 : cs_T) => wp_X0_setBehind_144 R Ln K77 Q S3 v1 v2 v3 v4 v5 v6 v7 v8 v9)) ∧ (v9 = v4 → wp_X0_gather Ln S2 v6 v5 v8 1 v7 (fun (S4 : cs_T) => wp_X0_setBehind_144 R Ln K77 Q S4 v1 v2 v3 v4 v5 v6 v7 v8 v9))))))
def wp_X0_setBehind_77 (R : cs_T → Nat → Int32 → Int32 → Int32 → Nat → (cs_T → Prop) → Prop) (Ln : Nat → Nat)  (Q : cs_T → Prop) : Nat → cs_T → Nat → Int32 → Int32 → Int32 → Nat → Nat → Int32 → Nat → Int32 → Prop
  | 0 => fun _ _ _ _ _ _ _ _ _ _ => False
  | n + 1 => fun S v1 v2 v3 v4 v5 v6 v7 v8 v9 => wb_X0_setBehind_77 R Ln (wp_X0_setBehind_77 R Ln Q n) Q S v1 v2 v3 v4 v5 v6 v7 v8 v9
def wq_X0_setBehind (R : cs_T → Nat → Int32 → Int32 → Int32 → Nat → (cs_T → Prop) → Prop) (Ln : Nat → Nat) (S : cs_T) (a1 : Nat) (a2 : Int32) (a3 : Int32) (a4 : Int32) (a5 : Nat) (Q : cs_T → Prop) : Prop :=
  vp_in a2 18 ∧ ∀ v7_6 : Int32, v7_6 = (S.1 0) - a2 → vp_in (if ((S.1 0) + 1) < (v7_6 + 2) then ((S.1 0) + 1) else (v7_6 + 2)) (Ln 1) ∧ wp_J7_fill_fda19 Ln S (15 + a2.toNatClampNeg) 0 (S.2.1 1 (if ((S.1 0) + 1) < (v7_6 + 2) then ((S.1 0) + 1) else (v7_6 + 2)).toNatClampNeg) 0 (fun (S8 : cs_T) => vp_in a2 (Ln 1) ∧ a1 < 47 ∧ vp_in ((S8.2.1 1 a2.toNatClampNeg) + a3) (Ln a1) ∧ (15 + a2.toNatClampNeg) < 47 ∧ vp_in ((0 : Int32)) (Ln (15 + a2.toNatClampNeg)) ∧ ((a2 < ((cs_sI S8 (15 + a2.toNatClampNeg) ((0 : Int32)).toNatClampNeg (S8.2.1 a1 ((S8.2.1 1 a2.toNatClampNeg) + a3).toNatClampNeg)).1 0) → vp_in (a2 + 1) 18 ∧ ∃ n : Nat, wp_X0_setBehind_77 R Ln Q n (cs_sI S8 (15 + a2.toNatClampNeg) ((0 : Int32)).toNatClampNeg (S8.2.1 a1 ((S8.2.1 1 a2.toNatClampNeg) + a3).toNatClampNeg)) a1 a2 a3 a4 a5 (15 + a2.toNatClampNeg) v7_6 (15 + (a2 + 1).toNatClampNeg) 0) ∧ (¬ a2 < ((cs_sI S8 (15 + a2.toNatClampNeg) ((0 : Int32)).toNatClampNeg (S8.2.1 a1 ((S8.2.1 1 a2.toNatClampNeg) + a3).toNatClampNeg)).1 0) → Q (cs_sI S8 (15 + a2.toNatClampNeg) ((0 : Int32)).toNatClampNeg (S8.2.1 a1 ((S8.2.1 1 a2.toNatClampNeg) + a3).toNatClampNeg)))))
def wp_X0_setBehind (Ln : Nat → Nat) : Nat → cs_T → Nat → Int32 → Int32 → Int32 → Nat → (cs_T → Prop) → Prop
  | 0 => fun _ _ _ _ _ _ _ => False
  | d + 1 => fun S a1 a2 a3 a4 a5 Q => wq_X0_setBehind (wp_X0_setBehind Ln d) Ln S a1 a2 a3 a4 a5 Q
def wp_X0_setInAll (Ln : Nat → Nat) (S : cs_T) (a1 : Nat) (a2 : Nat) (a3 : Int32) (a4 : Nat) (Q : cs_T → Prop) : Prop :=
  wp_X0_setBehind Ln 8 S a2 0 0 a3 a4 (fun (S1 : cs_T) => vp_in ((0 : Int32)) 18 ∧ wp_X0_copy Ln S1 a1 (15 + ((0 : Int32)).toNatClampNeg) (fun (S3 : cs_T) => Q S3))
def wp_X7_replace (Ln : Nat → Nat) (S : cs_T) (a1 : Int32) (a2 : Int32) (a3 : Int32) (a4 : Int32) (Q : Int32 → cs_T → Prop) : Prop :=
  wp_X7_noSum a1 (fun r1 : Int32 => ((¬ r1 = 0 → Q ((-1)) S) ∧ (r1 = 0 → wp_X7_noSum a2 (fun r2 : Int32 => ((¬ r2 = 0 → Q ((-1)) S) ∧ (r2 = 0 → wp_X7_noSum a4 (fun r3 : Int32 => ((¬ r3 = 0 → Q ((-1)) S) ∧ (r3 = 0 → wp_X7_noLetter Ln S a3 (fun (r5 : Int32) (S4 : cs_T) => ((r5 = 0 → vp_in a4 8 ∧ (7 + a4.toNatClampNeg) < 47 ∧ vp_in ((0 : Int32)) (Ln (7 + a4.toNatClampNeg)) ∧ (((S4.2.1 (7 + a4.toNatClampNeg) ((0 : Int32)).toNatClampNeg) = 0 → vp_in a1 8 ∧ vp_in a2 8 ∧ vp_in a4 8 ∧ wp_X0_setInAll Ln S4 (7 + a1.toNatClampNeg) (7 + a2.toNatClampNeg) a3 (7 + a4.toNatClampNeg) (fun (S12 : cs_T) => Q 0 S12)) ∧ (¬ (S4.2.1 (7 + a4.toNatClampNeg) ((0 : Int32)).toNatClampNeg) = 0 → Q ((-3)) S4))) ∧ (¬ r5 = 0 → Q ((-1)) S4))))))))))))
def wp_X0_keepLength_57 (Ln : Nat → Nat) (K3 : cs_T → Nat → Nat → Int32 → Int32 → Prop) (Q : cs_T → Prop) (S : cs_T) (v1 : Nat) (v2 : Nat) (v3 : Int32) (v4 : Int32) (s0 : Nat) (s1 : Int32) (s2 : Int32) : Prop :=
  s0 < 47 ∧ vp_in s1 (Ln s0) ∧ ∀ v4_3 : Int32, v4_3 = v4 + 1 → K3 (cs_sI S s0 s1.toNatClampNeg s2) v1 v2 v3 v4_3
def wp_X0_keepLength_39 (Ln : Nat → Nat) (K3 : cs_T → Nat → Nat → Int32 → Int32 → Prop) (Q : cs_T → Prop) (S : cs_T) (v1 : Nat) (v2 : Nat) (v3 : Int32) (v4 : Int32) (s0 : Int32) : Prop :=
  ((s0 = 0 → wp_X0_keepLength_57 Ln K3 Q S v1 v2 v3 v4 v1 v4 0) ∧ (¬ s0 = 0 → v2 < 47 ∧ vp_in v4 (Ln v2) ∧ wp_X0_keepLength_57 Ln K3 Q S v1 v2 v3 v4 v1 v4 (S.2.1 v2 v4.toNatClampNeg)))
def wp_X0_keepLength_38 (Ln : Nat → Nat) (K3 : cs_T → Nat → Nat → Int32 → Int32 → Prop) (Q : cs_T → Prop) (S : cs_T) (v1 : Nat) (v2 : Nat) (v3 : Int32) (v4 : Int32) : Prop :=
  wp_X0_keepLength_39 Ln K3 Q S v1 v2 v3 v4 0
def wb_X0_keepLength_3 (Ln : Nat → Nat)  (K3 : cs_T → Nat → Nat → Int32 → Int32 → Prop) (Q : cs_T → Prop) (S : cs_T) (v1 : Nat) (v2 : Nat) (v3 : Int32) (v4 : Int32) : Prop :=
  v1 < 47 ∧ (((nI (Ln v1)) ≤ v4 → Q S) ∧ (¬ (nI (Ln v1)) ≤ v4 → vp_in v3 (Ln 1) ∧ ((v4 < (S.2.1 1 v3.toNatClampNeg) → wp_X0_keepLength_38 Ln K3 Q S v1 v2 v3 v4) ∧ (¬ v4 < (S.2.1 1 v3.toNatClampNeg) → vp_in (v3 + 1) (Ln 1) ∧ (((S.2.1 1 (v3 + 1).toNatClampNeg) ≤ v4 → wp_X0_keepLength_38 Ln K3 Q S v1 v2 v3 v4) ∧ (¬ (S.2.1 1 (v3 + 1).toNatClampNeg) ≤ v4 → wp_X0_keepLength_39 Ln K3 Q S v1 v2 v3 v4 1))))))
def wp_X0_keepLength_3 (Ln : Nat → Nat)  (Q : cs_T → Prop) : Nat → cs_T → Nat → Nat → Int32 → Int32 → Prop
  | 0 => fun _ _ _ _ _ => False
  | n + 1 => fun S v1 v2 v3 v4 => wb_X0_keepLength_3 Ln (wp_X0_keepLength_3 Ln Q n) Q S v1 v2 v3 v4
def wp_X0_keepLength (Ln : Nat → Nat) (S : cs_T) (a1 : Nat) (a2 : Nat) (a3 : Int32) (Q : cs_T → Prop) : Prop :=
  ∃ n : Nat, wp_X0_keepLength_3 Ln Q n S a1 a2 a3 0
def wp_X7_part (Ln : Nat → Nat) (S : cs_T) (a1 : Int32) (a2 : Int32) (a3 : Int32) (Q : Int32 → cs_T → Prop) : Prop :=
  wp_X7_noSum a1 (fun r1 : Int32 => ((¬ r1 = 0 → Q ((-1)) S) ∧ (r1 = 0 → wp_X7_noSum a2 (fun r2 : Int32 => ((¬ r2 = 0 → Q ((-1)) S) ∧ (r2 = 0 → ((a3 < 0 → Q ((-1)) S) ∧ (¬ a3 < 0 → ((a3 ≤ (S.1 3) → vp_in a1 8 ∧ vp_in a2 8 ∧ wp_X0_keepLength Ln S (7 + a1.toNatClampNeg) (7 + a2.toNatClampNeg) a3 (fun (S5 : cs_T) => Q 0 S5)) ∧ (¬ a3 ≤ (S.1 3) → Q ((-1)) S))))))))))
def wp_X0_inner_32 (Ln : Nat → Nat) (K5 : cs_T → Nat → Nat → Int32 → Int32 → Prop) (Q : Int32 → cs_T → Prop) (S : cs_T) (v1 : Nat) (v2 : Nat) (v3 : Int32) (v4 : Int32) : Prop :=
  ∀ v4_1 : Int32, v4_1 = v4 + 1 → K5 S v1 v2 v3 v4_1
def wb_X0_inner_5 (Ln : Nat → Nat)  (K5 : cs_T → Nat → Nat → Int32 → Int32 → Prop) (Q : Int32 → cs_T → Prop) (S : cs_T) (v1 : Nat) (v2 : Nat) (v3 : Int32) (v4 : Int32) : Prop :=
  v1 < 47 ∧ (((nI (Ln v1)) ≤ v4 → Q v3 S) ∧ (¬ (nI (Ln v1)) ≤ v4 → v2 < 47 ∧ vp_in v4 (Ln v2) ∧ (((S.2.1 v2 v4.toNatClampNeg) = 0 → wp_X0_inner_32 Ln K5 Q S v1 v2 v3 v4) ∧ (¬ (S.2.1 v2 v4.toNatClampNeg) = 0 → vp_in v4 (Ln v1) ∧ vp_in v4 (Ln v2) ∧ wp_X3_productMore v3 (S.2.1 v1 v4.toNatClampNeg) (S.2.1 v2 v4.toNatClampNeg) (fun r7 : Int32 => wp_X0_inner_32 Ln K5 Q S v1 v2 r7 v4)))))
def wp_X0_inner_5 (Ln : Nat → Nat)  (Q : Int32 → cs_T → Prop) : Nat → cs_T → Nat → Nat → Int32 → Int32 → Prop
  | 0 => fun _ _ _ _ _ => False
  | n + 1 => fun S v1 v2 v3 v4 => wb_X0_inner_5 Ln (wp_X0_inner_5 Ln Q n) Q S v1 v2 v3 v4
def wp_X0_inner (Ln : Nat → Nat) (S : cs_T) (a1 : Nat) (a2 : Nat) (Q : Int32 → cs_T → Prop) : Prop :=
  ∃ n : Nat, wp_X0_inner_5 Ln Q n S a1 a2 0 0
def wp_X7_pair (Ln : Nat → Nat) (S : cs_T) (a1 : Int32) (a2 : Int32) (Q : Int32 → cs_T → Prop) : Prop :=
  wp_X7_noSum a1 (fun r1 : Int32 => ((¬ r1 = 0 → Q ((-1)) S) ∧ (r1 = 0 → wp_X7_noSum a2 (fun r2 : Int32 => ((r2 = 0 → vp_in a1 8 ∧ vp_in a2 8 ∧ wp_X0_inner Ln S (7 + a1.toNatClampNeg) (7 + a2.toNatClampNeg) (fun (r6 : Int32) (S5 : cs_T) => Q r6 S5)) ∧ (¬ r2 = 0 → Q ((-1)) S))))))
def wp_X1_all (Ln : Nat → Nat) (S : cs_T) (Q : Int32 → cs_T → Prop) : Prop :=
  vp_in ((S.1 3) + 1) (Ln 36) ∧ Q (S.2.1 36 ((S.1 3) + 1).toNatClampNeg) S
def wp_X7_noChief (Ln : Nat → Nat) (S : cs_T) (a1 : Int32) (Q : Int32 → cs_T → Prop) : Prop :=
  ((a1 < 0 → Q 1 S) ∧ (¬ a1 < 0 → wp_X1_all Ln S (fun (r2 : Int32) (S1 : cs_T) => ((a1 < r2 → Q 0 S1) ∧ (¬ a1 < r2 → Q 1 S1)))))
def wp_X6_lengthOf_24 (Ln : Nat → Nat) (K4 : cs_T → Int32 → Int32 → Int32 → Prop) (Q : Int32 → cs_T → Prop) (S : cs_T) (v1 : Int32) (v2 : Int32) (v3 : Int32) : Prop :=
  ∀ v3_1 : Int32, v3_1 = v3 + 1 → K4 S v1 v2 v3_1
def wb_X6_lengthOf_4 (Ln : Nat → Nat)  (K4 : cs_T → Int32 → Int32 → Int32 → Prop) (Q : Int32 → cs_T → Prop) (S : cs_T) (v1 : Int32) (v2 : Int32) (v3 : Int32) : Prop :=
  (((S.1 3) < v3 → Q v2 S) ∧ (¬ (S.1 3) < v3 → vp_in v3 (Ln 1) ∧ ((v1 < (S.2.1 1 v3.toNatClampNeg) → wp_X6_lengthOf_24 Ln K4 Q S v1 v2 v3) ∧ (¬ v1 < (S.2.1 1 v3.toNatClampNeg) → wp_X6_lengthOf_24 Ln K4 Q S v1 v3 v3))))
def wp_X6_lengthOf_4 (Ln : Nat → Nat)  (Q : Int32 → cs_T → Prop) : Nat → cs_T → Int32 → Int32 → Int32 → Prop
  | 0 => fun _ _ _ _ => False
  | n + 1 => fun S v1 v2 v3 => wb_X6_lengthOf_4 Ln (wp_X6_lengthOf_4 Ln Q n) Q S v1 v2 v3
def wp_X6_lengthOf (Ln : Nat → Nat) (S : cs_T) (a1 : Int32) (Q : Int32 → cs_T → Prop) : Prop :=
  ∃ n : Nat, wp_X6_lengthOf_4 Ln Q n S a1 0 1
def wb_X6_toldOf_21 (Ln : Nat → Nat)  (K21 : cs_T → Int32 → Int32 → Int32 → Int32 → Prop) (Q : Int32 → cs_T → Prop) (S : cs_T) (v2 : Int32) (v3 : Int32) (v4 : Int32) (v5 : Int32) : Prop :=
  ((v2 ≤ v5 → Q v4 S) ∧ (¬ v2 ≤ v5 → ¬ (S.1 2) = 0 ∧ ∀ v4_2 : Int32, v4_2 = v4 ||| (((xr_remI v3 (S.1 2)) + 1) <<< ((3 * v5) &&& 31)) → ¬ (S.1 2) = 0 ∧ ∀ v3_4 : Int32, v3_4 = v3 / (S.1 2) → ∀ v5_5 : Int32, v5_5 = v5 + 1 → K21 S v2 v3_4 v4_2 v5_5))
def wp_X6_toldOf_21 (Ln : Nat → Nat)  (Q : Int32 → cs_T → Prop) : Nat → cs_T → Int32 → Int32 → Int32 → Int32 → Prop
  | 0 => fun _ _ _ _ _ => False
  | n + 1 => fun S v2 v3 v4 v5 => wb_X6_toldOf_21 Ln (wp_X6_toldOf_21 Ln Q n) Q S v2 v3 v4 v5
def wp_X6_toldOf (Ln : Nat → Nat) (S : cs_T) (a1 : Int32) (Q : Int32 → cs_T → Prop) : Prop :=
  wp_X6_lengthOf Ln S a1 (fun (r7 : Int32) (S6 : cs_T) => vp_in r7 (Ln 1) ∧ ∀ v3_9 : Int32, v3_9 = a1 - (S6.2.1 1 r7.toNatClampNeg) → ∃ n : Nat, wp_X6_toldOf_21 Ln Q n S6 r7 v3_9 0 0)
def wp_X7_lyndon (Ln : Nat → Nat) (S : cs_T) (a1 : Int32) (Q : Int32 → cs_T → Prop) : Prop :=
  wp_X7_noChief Ln S a1 (fun (r2 : Int32) (S1 : cs_T) => ((r2 = 0 → vp_in a1 (Ln 33) ∧ wp_X6_toldOf Ln S1 (S1.2.1 33 a1.toNatClampNeg) (fun (r5 : Int32) (S4 : cs_T) => Q r5 S4)) ∧ (¬ r2 = 0 → Q ((-1)) S1)))
def wp_X1_ofLength (Ln : Nat → Nat) (S : cs_T) (a1 : Int32) (Q : Int32 → cs_T → Prop) : Prop :=
  vp_in (a1 + 1) (Ln 36) ∧ vp_in a1 (Ln 36) ∧ Q ((S.2.1 36 (a1 + 1).toNatClampNeg) - (S.2.1 36 a1.toNatClampNeg)) S
def wp_X7_lyndons (Ln : Nat → Nat) (S : cs_T) (a1 : Int32) (Q : Int32 → cs_T → Prop) : Prop :=
  ((a1 < 1 → Q ((-1)) S) ∧ (¬ a1 < 1 → ((a1 ≤ (S.1 3) → wp_X1_ofLength Ln S a1 (fun (r2 : Int32) (S1 : cs_T) => Q r2 S1)) ∧ (¬ a1 ≤ (S.1 3) → Q ((-1)) S))))
def wp_X7_side (Ln : Nat → Nat) (S : cs_T) (a1 : Int32) (a2 : Int32) (Q : Int32 → cs_T → Prop) : Prop :=
  wp_X7_noChief Ln S a1 (fun (r2 : Int32) (S1 : cs_T) => ((¬ r2 = 0 → Q ((-1)) S1) ∧ (r2 = 0 → ((a2 < 0 → Q ((-1)) S1) ∧ (¬ a2 < 0 → ((a2 ≤ 1 → ((¬ a2 = 0 → vp_in a1 (Ln 35) ∧ Q (S1.2.1 35 a1.toNatClampNeg) S1) ∧ (a2 = 0 → vp_in a1 (Ln 34) ∧ Q (S1.2.1 34 a1.toNatClampNeg) S1))) ∧ (¬ a2 ≤ 1 → Q ((-1)) S1)))))))
def wp_X1_weave_36 (R : cs_T → Int32 → Int32 → (cs_T → Prop) → Prop) (Ln : Nat → Nat)  (Q : cs_T → Prop) (S : cs_T) (v1 : Int32) (v3 : Nat) : Prop :=
  wp_J7_fill_53178 Ln S v3 0 (fun (S1 : cs_T) => vp_in v1 (Ln 33) ∧ v3 < 47 ∧ vp_in (S1.2.1 33 v1.toNatClampNeg) (Ln v3) ∧ Q (cs_sI S1 v3 (S1.2.1 33 v1.toNatClampNeg).toNatClampNeg 1))
def wq_X1_weave (R : cs_T → Int32 → Int32 → (cs_T → Prop) → Prop) (Ln : Nat → Nat) (S : cs_T) (a1 : Int32) (a2 : Int32) (Q : cs_T → Prop) : Prop :=
  vp_in a2 18 ∧ vp_in a1 (Ln 34) ∧ (((S.2.1 34 a1.toNatClampNeg) < 0 → wp_X1_weave_36 R Ln Q S a1 (15 + a2.toNatClampNeg)) ∧ (¬ (S.2.1 34 a1.toNatClampNeg) < 0 → vp_in a1 (Ln 35) ∧ (((S.2.1 35 a1.toNatClampNeg) < 0 → wp_X1_weave_36 R Ln Q S a1 (15 + a2.toNatClampNeg)) ∧ (¬ (S.2.1 35 a1.toNatClampNeg) < 0 → (((a2 + 1) < (nI 18) → vp_in a1 (Ln 34) ∧ R S (S.2.1 34 a1.toNatClampNeg) a2 (fun (S9 : cs_T) => vp_in a1 (Ln 35) ∧ R S9 (S9.2.1 35 a1.toNatClampNeg) (a2 + 1) (fun (S11 : cs_T) => vp_in (a2 + 1) 18 ∧ wp_X0_commute Ln S11 (15 + a2.toNatClampNeg) (15 + a2.toNatClampNeg) (15 + (a2 + 1).toNatClampNeg) (fun (S13 : cs_T) => Q S13)))) ∧ (¬ (a2 + 1) < (nI 18) → wp_X1_weave_36 R Ln Q S a1 (15 + a2.toNatClampNeg)))))))
def wp_X1_weave (Ln : Nat → Nat) : Nat → cs_T → Int32 → Int32 → (cs_T → Prop) → Prop
  | 0 => fun _ _ _ _ => False
  | d + 1 => fun S a1 a2 Q => wq_X1_weave (wp_X1_weave Ln d) Ln S a1 a2 Q
def wp_X7_basis (Ln : Nat → Nat) (S : cs_T) (a1 : Int32) (a2 : Int32) (Q : Int32 → cs_T → Prop) : Prop :=
  wp_X7_noSum a1 (fun r1 : Int32 => ((¬ r1 = 0 → Q ((-1)) S) ∧ (r1 = 0 → wp_X7_noChief Ln S a2 (fun (r3 : Int32) (S2 : cs_T) => ((r3 = 0 → wp_X1_weave Ln 8 S2 a2 0 (fun (S4 : cs_T) => vp_in a1 8 ∧ vp_in ((0 : Int32)) 18 ∧ wp_X0_copy Ln S4 (7 + a1.toNatClampNeg) (15 + ((0 : Int32)).toNatClampNeg) (fun (S7 : cs_T) => Q 0 S7))) ∧ (¬ r3 = 0 → Q ((-1)) S2))))))
def wp_X1_writtenLength (Ln : Nat → Nat) (S : cs_T) (a1 : Int32) (Q : Int32 → cs_T → Prop) : Prop :=
  vp_in a1 (Ln 33) ∧ wp_X6_lengthOf Ln S (S.2.1 33 a1.toNatClampNeg) (fun (r3 : Int32) (S2 : cs_T) => Q ((4 * r3) - 3) S2)
def wp_X1_written_148 (Ln : Nat → Nat) (K8 : cs_T → Int32 → Int32 → Int32 → Prop) (Q : Int32 → cs_T → Prop) (S : cs_T) (v3 : Int32) (v5 : Int32) (s0 : Int32) (s1 : Int32) : Prop :=
  ∀ v4_1 : Int32, v4_1 = s0 - s1 → ∀ v5_2 : Int32, v5_2 = v5 + 1 → K8 S v3 v4_1 v5_2
def wp_X1_written_130 (Ln : Nat → Nat) (K8 : cs_T → Int32 → Int32 → Int32 → Prop) (Q : Int32 → cs_T → Prop) (S : cs_T) (v4 : Int32) (v5 : Int32) (v7 : Int32) (s0 : Int32) : Prop :=
  ((v7 ≤ v4 → wp_X1_written_148 Ln K8 Q S s0 v5 v4 (v7 + 1)) ∧ (¬ v7 ≤ v4 → wp_X1_written_148 Ln K8 Q S s0 v5 v4 1))
def wb_X1_written_8 (Ln : Nat → Nat)  (K8 : cs_T → Int32 → Int32 → Int32 → Prop) (Q : Int32 → cs_T → Prop) (S : cs_T) (v3 : Int32) (v4 : Int32) (v5 : Int32) : Prop :=
  (((S.1 3) < v5 → Q ((-1)) S) ∧ (¬ (S.1 3) < v5 → wp_X1_writtenLength Ln S v3 (fun (r4 : Int32) (S3 : cs_T) => ((v4 < 0 → Q ((-1)) S3) ∧ (¬ v4 < 0 → ((v4 < r4 → vp_in v3 (Ln 34) ∧ (((S3.2.1 34 v3.toNatClampNeg) < 0 → Q (97 + v3) S3) ∧ (¬ (S3.2.1 34 v3.toNatClampNeg) < 0 → vp_in v3 (Ln 35) ∧ ((0 ≤ (S3.2.1 35 v3.toNatClampNeg) → vp_in v3 (Ln 34) ∧ wp_X1_writtenLength Ln S3 (S3.2.1 34 v3.toNatClampNeg) (fun (r9 : Int32) (S8 : cs_T) => ∀ v7_10 : Int32, v7_10 = 1 + r9 → ((¬ v4 = 0 → ((¬ v4 = v7_10 → ((¬ v4 = (r4 - 1) → ((v7_10 ≤ v4 → vp_in v3 (Ln 35) ∧ wp_X1_written_130 Ln K8 Q S8 v4 v5 v7_10 (S8.2.1 35 v3.toNatClampNeg)) ∧ (¬ v7_10 ≤ v4 → vp_in v3 (Ln 34) ∧ wp_X1_written_130 Ln K8 Q S8 v4 v5 v7_10 (S8.2.1 34 v3.toNatClampNeg)))) ∧ (v4 = (r4 - 1) → Q 93 S8))) ∧ (v4 = v7_10 → Q 44 S8))) ∧ (v4 = 0 → Q 91 S8)))) ∧ (¬ 0 ≤ (S3.2.1 35 v3.toNatClampNeg) → Q (97 + v3) S3))))) ∧ (¬ v4 < r4 → Q ((-1)) S3)))))))
def wp_X1_written_8 (Ln : Nat → Nat)  (Q : Int32 → cs_T → Prop) : Nat → cs_T → Int32 → Int32 → Int32 → Prop
  | 0 => fun _ _ _ _ => False
  | n + 1 => fun S v3 v4 v5 => wb_X1_written_8 Ln (wp_X1_written_8 Ln Q n) Q S v3 v4 v5
def wp_X1_written (Ln : Nat → Nat) (S : cs_T) (a1 : Int32) (a2 : Int32) (Q : Int32 → cs_T → Prop) : Prop :=
  ∃ n : Nat, wp_X1_written_8 Ln Q n S a1 a2 0
def wp_X7_text (Ln : Nat → Nat) (S : cs_T) (a1 : Int32) (a2 : Int32) (Q : Int32 → cs_T → Prop) : Prop :=
  wp_X7_noChief Ln S a1 (fun (r2 : Int32) (S1 : cs_T) => ((r2 = 0 → wp_X1_written Ln S1 a1 a2 (fun (r4 : Int32) (S3 : cs_T) => Q r4 S3)) ∧ (¬ r2 = 0 → Q ((-1)) S1)))
def wb_X1_spell_17 (Ln : Nat → Nat)  (K17 : cs_T → Int32 → Int32 → Prop) (Q : cs_T → Prop) (S : cs_T) (v3 : Int32) (v4 : Int32) : Prop :=
  ((v4 < 0 → Q S) ∧ (¬ v4 < 0 → ¬ (S.1 2) = 0 ∧ vp_in v4 (Ln 37) ∧ ¬ ((cs_sI S 37 v4.toNatClampNeg (xr_remI v3 (S.1 2))).1 2) = 0 ∧ ∀ v3_4 : Int32, v3_4 = v3 / ((cs_sI S 37 v4.toNatClampNeg (xr_remI v3 (S.1 2))).1 2) → ∀ v4_5 : Int32, v4_5 = v4 + (-1) → K17 (cs_sI S 37 v4.toNatClampNeg (xr_remI v3 (S.1 2))) v3_4 v4_5))
def wp_X1_spell_17 (Ln : Nat → Nat)  (Q : cs_T → Prop) : Nat → cs_T → Int32 → Int32 → Prop
  | 0 => fun _ _ _ => False
  | n + 1 => fun S v3 v4 => wb_X1_spell_17 Ln (wp_X1_spell_17 Ln Q n) Q S v3 v4
def wp_X1_spell (Ln : Nat → Nat) (S : cs_T) (a1 : Int32) (a2 : Int32) (Q : cs_T → Prop) : Prop :=
  vp_in a2 (Ln 1) ∧ ∀ v3_7 : Int32, v3_7 = a1 - (S.2.1 1 a2.toNatClampNeg) → ∀ v4_8 : Int32, v4_8 = a2 - 1 → ∃ n : Nat, wp_X1_spell_17 Ln Q n S v3_7 v4_8
def wp_X1_headLength_52 (Ln : Nat → Nat) (K7 : cs_T → Int32 → Int32 → Int32 → Int32 → Prop) (Q : Int32 → cs_T → Prop) (S : cs_T) (v1 : Int32) (v2 : Int32) (v4 : Int32) (s0 : Int32) : Prop :=
  ∀ v4_1 : Int32, v4_1 = v4 + 1 → K7 S v1 v2 s0 v4_1
def wb_X1_headLength_7 (Ln : Nat → Nat)  (K7 : cs_T → Int32 → Int32 → Int32 → Int32 → Prop) (Q : Int32 → cs_T → Prop) (S : cs_T) (v1 : Int32) (v2 : Int32) (v3 : Int32) (v4 : Int32) : Prop :=
  ((v2 ≤ v4 → Q (v4 - v3) S) ∧ (¬ v2 ≤ v4 → vp_in v3 (Ln 37) ∧ vp_in v4 (Ln 37) ∧ (((S.2.1 37 v4.toNatClampNeg) < (S.2.1 37 v3.toNatClampNeg) → Q (v4 - v3) S) ∧ (¬ (S.2.1 37 v4.toNatClampNeg) < (S.2.1 37 v3.toNatClampNeg) → vp_in v3 (Ln 37) ∧ vp_in v4 (Ln 37) ∧ (((S.2.1 37 v4.toNatClampNeg) ≤ (S.2.1 37 v3.toNatClampNeg) → wp_X1_headLength_52 Ln K7 Q S v1 v2 v4 (v3 + 1)) ∧ (¬ (S.2.1 37 v4.toNatClampNeg) ≤ (S.2.1 37 v3.toNatClampNeg) → wp_X1_headLength_52 Ln K7 Q S v1 v2 v4 v1))))))
def wp_X1_headLength_7 (Ln : Nat → Nat)  (Q : Int32 → cs_T → Prop) : Nat → cs_T → Int32 → Int32 → Int32 → Int32 → Prop
  | 0 => fun _ _ _ _ _ => False
  | n + 1 => fun S v1 v2 v3 v4 => wb_X1_headLength_7 Ln (wp_X1_headLength_7 Ln Q n) Q S v1 v2 v3 v4
def wp_X1_headLength (Ln : Nat → Nat) (S : cs_T) (a1 : Int32) (a2 : Int32) (Q : Int32 → cs_T → Prop) : Prop :=
  ∀ v4_6 : Int32, v4_6 = a1 + 1 → ∃ n : Nat, wp_X1_headLength_7 Ln Q n S a1 a2 a1 v4_6
def wp_X1_setAhead (Ln : Nat → Nat) (S : cs_T) (a1 : Nat) (a2 : Int32) (a3 : Int32) (Q : cs_T → Prop) : Prop :=
  vp_in a3 (Ln 0) ∧ ∀ v4_2 : Int32, v4_2 = S.2.1 0 a3.toNatClampNeg → vp_in a3 (Ln 1) ∧ ∀ v5_4 : Int32, v5_4 = S.2.1 1 a3.toNatClampNeg → vp_in (a3 + 1) (Ln 1) ∧ ∀ v6_6 : Int32, v6_6 = (S.2.1 1 (a3 + 1).toNatClampNeg) + (a2 * v4_2) → a1 < 47 ∧ ¬ v5_4 < 0 ∧ ¬ v6_6 < 0 ∧ ¬ v4_2 < 0 ∧ v5_4.toNatClampNeg + v4_2.toNatClampNeg ≤ Ln a1 ∧ v6_6.toNatClampNeg + v4_2.toNatClampNeg ≤ Ln a1 ∧ wp_J7_fill_fda19 Ln (cs_sA S a1 (va_cpy (S.2.1 a1) (S.2.1 a1) v5_4.toNatClampNeg v6_6.toNatClampNeg v4_2.toNatClampNeg)) a1 v5_4 (v5_4 + v4_2) 0 (fun (S13 : cs_T) => Q S13)
def wb_X1_headTimes_5 (Ln : Nat → Nat)  (K5 : cs_T → Int32 → Int32 → Int32 → Int32 → Prop) (Q : Int32 → cs_T → Prop) (S : cs_T) (v1 : Int32) (v2 : Int32) (v3 : Int32) (v4 : Int32) : Prop :=
  ((v2 ≤ v4 → ¬ v3 = 0 ∧ Q ((v4 - v1) / v3) S) ∧ (¬ v2 ≤ v4 → vp_in v4 (Ln 37) ∧ vp_in (v4 - v3) (Ln 37) ∧ ((¬ (S.2.1 37 v4.toNatClampNeg) = (S.2.1 37 (v4 - v3).toNatClampNeg) → ¬ v3 = 0 ∧ Q ((v4 - v1) / v3) S) ∧ ((S.2.1 37 v4.toNatClampNeg) = (S.2.1 37 (v4 - v3).toNatClampNeg) → ∀ v4_5 : Int32, v4_5 = v4 + 1 → K5 S v1 v2 v3 v4_5))))
def wp_X1_headTimes_5 (Ln : Nat → Nat)  (Q : Int32 → cs_T → Prop) : Nat → cs_T → Int32 → Int32 → Int32 → Int32 → Prop
  | 0 => fun _ _ _ _ _ => False
  | n + 1 => fun S v1 v2 v3 v4 => wb_X1_headTimes_5 Ln (wp_X1_headTimes_5 Ln Q n) Q S v1 v2 v3 v4
def wp_X1_headTimes (Ln : Nat → Nat) (S : cs_T) (a1 : Int32) (a2 : Int32) (a3 : Int32) (Q : Int32 → cs_T → Prop) : Prop :=
  ∀ v4_6 : Int32, v4_6 = a1 + a3 → ∃ n : Nat, wp_X1_headTimes_5 Ln Q n S a1 a2 a3 v4_6
def wb_X0_scale_2 (Ln : Nat → Nat)  (K2 : cs_T → Nat → Int32 → Int32 → Prop) (Q : cs_T → Prop) (S : cs_T) (v1 : Nat) (v2 : Int32) (v3 : Int32) : Prop :=
  v1 < 47 ∧ (((nI (Ln v1)) ≤ v3 → Q S) ∧ (¬ (nI (Ln v1)) ≤ v3 → vp_in v3 (Ln v1) ∧ wp_X3_product (S.2.1 v1 v3.toNatClampNeg) v2 (fun r3 : Int32 => vp_in v3 (Ln v1) ∧ ∀ v3_5 : Int32, v3_5 = v3 + 1 → K2 (cs_sI S v1 v3.toNatClampNeg r3) v1 v2 v3_5)))
def wp_X0_scale_2 (Ln : Nat → Nat)  (Q : cs_T → Prop) : Nat → cs_T → Nat → Int32 → Int32 → Prop
  | 0 => fun _ _ _ _ => False
  | n + 1 => fun S v1 v2 v3 => wb_X0_scale_2 Ln (wp_X0_scale_2 Ln Q n) Q S v1 v2 v3
def wp_X0_scale (Ln : Nat → Nat) (S : cs_T) (a1 : Nat) (a2 : Int32) (Q : cs_T → Prop) : Prop :=
  ∃ n : Nat, wp_X0_scale_2 Ln Q n S a1 a2 0
def wq_X1_measureSpelled (R : cs_T → Int32 → Int32 → Int32 → (cs_T → Prop) → Prop) (Ln : Nat → Nat) (S : cs_T) (a1 : Int32) (a2 : Int32) (a3 : Int32) (Q : cs_T → Prop) : Prop :=
  vp_in a3 18 ∧ ((a2 ≤ a1 → wp_X0_setToUnit Ln S (15 + a3.toNatClampNeg) 1 (fun (S2 : cs_T) => Q S2)) ∧ (¬ a2 ≤ a1 → (((a3 + 1) < (nI 18) → wp_X1_headLength Ln S a1 a2 (fun (r4 : Int32) (S3 : cs_T) => ((¬ r4 = (a2 - a1) → R S3 (a1 + r4) a2 a3 (fun (S5 : cs_T) => R S5 a1 (a1 + r4) (a3 + 1) (fun (S6 : cs_T) => vp_in (a3 + 1) 18 ∧ wp_X0_mingle Ln S6 (15 + a3.toNatClampNeg) (15 + a3.toNatClampNeg) (15 + (a3 + 1).toNatClampNeg) (fun (S8 : cs_T) => wp_X1_headTimes Ln S8 a1 a2 r4 (fun (r10 : Int32) (S9 : cs_T) => wp_X3_reciprocal r10 (fun r11 : Int32 => wp_X0_scale Ln S9 (15 + a3.toNatClampNeg) r11 (fun (S12 : cs_T) => Q S12))))))) ∧ (r4 = (a2 - a1) → R S3 (a1 + 1) a2 a3 (fun (S13 : cs_T) => vp_in a1 (Ln 37) ∧ wp_X1_setAhead Ln S13 (15 + a3.toNatClampNeg) (S13.2.1 37 a1.toNatClampNeg) (r4 - 1) (fun (S15 : cs_T) => Q S15)))))) ∧ (¬ (a3 + 1) < (nI 18) → wp_X0_setToUnit Ln S (15 + a3.toNatClampNeg) 1 (fun (S16 : cs_T) => Q S16)))))
def wp_X1_measureSpelled (Ln : Nat → Nat) : Nat → cs_T → Int32 → Int32 → Int32 → (cs_T → Prop) → Prop
  | 0 => fun _ _ _ _ _ => False
  | d + 1 => fun S a1 a2 a3 Q => wq_X1_measureSpelled (wp_X1_measureSpelled Ln d) Ln S a1 a2 a3 Q
def wp_X1_measure (Ln : Nat → Nat) (S : cs_T) (a1 : Int32) (a2 : Int32) (Q : cs_T → Prop) : Prop :=
  wp_X6_lengthOf Ln S a1 (fun (r2 : Int32) (S1 : cs_T) => wp_X1_spell Ln S1 a1 r2 (fun (S3 : cs_T) => wp_X1_measureSpelled Ln 8 S3 0 r2 a2 (fun (S4 : cs_T) => Q S4)))
def wp_X7_share (Ln : Nat → Nat) (S : cs_T) (a1 : Int32) (a2 : Int32) (Q : Int32 → cs_T → Prop) : Prop :=
  wp_X6_placeOf Ln S a2 (fun (r2 : Int32) (S1 : cs_T) => wp_X7_noSum a1 (fun r3 : Int32 => ((¬ r3 = 0 → Q ((-1)) S1) ∧ (r3 = 0 → ((0 ≤ r2 → wp_X1_measure Ln S1 r2 0 (fun (S4 : cs_T) => vp_in a1 8 ∧ vp_in ((0 : Int32)) 18 ∧ wp_X0_inner Ln S4 (7 + a1.toNatClampNeg) (15 + ((0 : Int32)).toNatClampNeg) (fun (r8 : Int32) (S7 : cs_T) => Q r8 S7))) ∧ (¬ 0 ≤ r2 → Q ((-1)) S1))))))
def wb_X0_isNought_7 (Ln : Nat → Nat)  (K7 : cs_T → Nat → Int32 → Int32 → Prop) (Q : Int32 → cs_T → Prop) (S : cs_T) (v1 : Nat) (v2 : Int32) (v3 : Int32) : Prop :=
  vp_in (v2 + 1) (Ln 1) ∧ (((S.2.1 1 (v2 + 1).toNatClampNeg) ≤ v3 → Q 1 S) ∧ (¬ (S.2.1 1 (v2 + 1).toNatClampNeg) ≤ v3 → v1 < 47 ∧ vp_in v3 (Ln v1) ∧ (((S.2.1 v1 v3.toNatClampNeg) = 0 → ∀ v3_4 : Int32, v3_4 = v3 + 1 → K7 S v1 v2 v3_4) ∧ (¬ (S.2.1 v1 v3.toNatClampNeg) = 0 → Q 0 S))))
def wp_X0_isNought_7 (Ln : Nat → Nat)  (Q : Int32 → cs_T → Prop) : Nat → cs_T → Nat → Int32 → Int32 → Prop
  | 0 => fun _ _ _ _ => False
  | n + 1 => fun S v1 v2 v3 => wb_X0_isNought_7 Ln (wp_X0_isNought_7 Ln Q n) Q S v1 v2 v3
def wp_X0_isNought (Ln : Nat → Nat) (S : cs_T) (a1 : Nat) (a2 : Int32) (Q : Int32 → cs_T → Prop) : Prop :=
  vp_in a2 (Ln 1) ∧ ∀ v3_6 : Int32, v3_6 = S.2.1 1 a2.toNatClampNeg → ∃ n : Nat, wp_X0_isNought_7 Ln Q n S a1 a2 v3_6
def wp_X0_lastAhead (Ln : Nat → Nat) (S : cs_T) (a1 : Int32) (a2 : Int32) (Q : Int32 → cs_T → Prop) : Prop :=
  vp_in a2 (Ln 0) ∧ ¬ (S.2.1 0 a2.toNatClampNeg) = 0 ∧ ∀ v3_3 : Int32, v3_3 = a1 / (S.2.1 0 a2.toNatClampNeg) → vp_in a2 (Ln 0) ∧ ¬ (S.2.1 0 a2.toNatClampNeg) = 0 ∧ ∀ v4_6 : Int32, v4_6 = xr_remI a1 (S.2.1 0 a2.toNatClampNeg) → vp_in a2 (Ln 0) ∧ ¬ (S.1 1) = 0 ∧ vp_in (a2 - 1) (Ln 0) ∧ ¬ (S.1 1) = 0 ∧ Q (((v3_3 * (S.2.1 0 a2.toNatClampNeg)) + ((xr_remI v4_6 (S.1 1)) * (S.2.1 0 (a2 - 1).toNatClampNeg))) + (v4_6 / (S.1 1))) S
def wb_X0_isLieAt_41 (Ln : Nat → Nat) (K32 : cs_T → Nat → Int32 → Nat → Nat → Int32 → Prop) (K41 : cs_T → Nat → Int32 → Nat → Nat → Int32 → Int32 → Prop) (Q : Int32 → cs_T → Prop) (S : cs_T) (v1 : Nat) (v2 : Int32) (v3 : Nat) (v4 : Nat) (v5 : Int32) (v6 : Int32) : Prop :=
  vp_in v2 (Ln 0) ∧ (((S.2.1 0 v2.toNatClampNeg) ≤ v6 → ∀ v5_2 : Int32, v5_2 = v5 + 1 → K32 S v1 v2 v4 v3 v5_2) ∧ (¬ (S.2.1 0 v2.toNatClampNeg) ≤ v6 → v3 < 47 ∧ vp_in v6 (Ln v3) ∧ wp_X0_lastAhead Ln S v6 v5 (fun (r6 : Int32) (S5 : cs_T) => vp_in r6 (Ln v3) ∧ wp_X3_minus (S.2.1 v3 v6.toNatClampNeg) (S5.2.1 v3 r6.toNatClampNeg) (fun r8 : Int32 => v4 < 47 ∧ vp_in v6 (Ln v4) ∧ ∀ v6_11 : Int32, v6_11 = v6 + 1 → K41 (cs_sI S5 v4 v6.toNatClampNeg r8) v1 v2 v3 v4 v5 v6_11))))
def wp_X0_isLieAt_41 (Ln : Nat → Nat) (K32 : cs_T → Nat → Int32 → Nat → Nat → Int32 → Prop) (Q : Int32 → cs_T → Prop) : Nat → cs_T → Nat → Int32 → Nat → Nat → Int32 → Int32 → Prop
  | 0 => fun _ _ _ _ _ _ _ => False
  | n + 1 => fun S v1 v2 v3 v4 v5 v6 => wb_X0_isLieAt_41 Ln K32 (wp_X0_isLieAt_41 Ln K32 Q n) Q S v1 v2 v3 v4 v5 v6
def wb_X0_isLieAt_99 (Ln : Nat → Nat)  (K99 : cs_T → Nat → Int32 → Nat → Int32 → Prop) (Q : Int32 → cs_T → Prop) (S : cs_T) (v1 : Nat) (v2 : Int32) (v3 : Nat) (v5 : Int32) : Prop :=
  vp_in v2 (Ln 0) ∧ (((S.2.1 0 v2.toNatClampNeg) ≤ v5 → Q 1 S) ∧ (¬ (S.2.1 0 v2.toNatClampNeg) ≤ v5 → v3 < 47 ∧ vp_in v5 (Ln v3) ∧ vp_in v2 (Ln 1) ∧ v1 < 47 ∧ vp_in ((S.2.1 1 v2.toNatClampNeg) + v5) (Ln v1) ∧ wp_X3_product (S.2.1 v1 ((S.2.1 1 v2.toNatClampNeg) + v5).toNatClampNeg) v2 (fun r18 : Int32 => (((S.2.1 v3 v5.toNatClampNeg) = r18 → ∀ v5_19 : Int32, v5_19 = v5 + 1 → K99 S v1 v2 v3 v5_19) ∧ (¬ (S.2.1 v3 v5.toNatClampNeg) = r18 → Q 0 S)))))
def wp_X0_isLieAt_99 (Ln : Nat → Nat)  (Q : Int32 → cs_T → Prop) : Nat → cs_T → Nat → Int32 → Nat → Int32 → Prop
  | 0 => fun _ _ _ _ _ => False
  | n + 1 => fun S v1 v2 v3 v5 => wb_X0_isLieAt_99 Ln (wp_X0_isLieAt_99 Ln Q n) Q S v1 v2 v3 v5
def wb_X0_isLieAt_32 (Ln : Nat → Nat)  (K32 : cs_T → Nat → Int32 → Nat → Nat → Int32 → Prop) (Q : Int32 → cs_T → Prop) (S : cs_T) (v1 : Nat) (v2 : Int32) (v3 : Nat) (v4 : Nat) (v5 : Int32) : Prop :=
  ((v2 < v5 → ∃ n : Nat, wp_X0_isLieAt_99 Ln Q n S v1 v2 v3 0) ∧ (¬ v2 < v5 → ∃ n : Nat, wp_X0_isLieAt_41 Ln K32 Q n S v1 v2 v3 v4 v5 0))
def wp_X0_isLieAt_32 (Ln : Nat → Nat)  (Q : Int32 → cs_T → Prop) : Nat → cs_T → Nat → Int32 → Nat → Nat → Int32 → Prop
  | 0 => fun _ _ _ _ _ _ => False
  | n + 1 => fun S v1 v2 v3 v4 v5 => wb_X0_isLieAt_32 Ln (wp_X0_isLieAt_32 Ln Q n) Q S v1 v2 v3 v4 v5
def wp_X0_isLieAt (Ln : Nat → Nat) (S : cs_T) (a1 : Nat) (a2 : Int32) (Q : Int32 → cs_T → Prop) : Prop :=
  vp_in a2 (Ln 1) ∧ vp_in a2 (Ln 0) ∧ a1 < 47 ∧ ¬ (S.2.1 1 a2.toNatClampNeg) < 0 ∧ ¬ ((0 : Int32)) < 0 ∧ ¬ (S.2.1 0 a2.toNatClampNeg) < 0 ∧ (S.2.1 1 a2.toNatClampNeg).toNatClampNeg + (S.2.1 0 a2.toNatClampNeg).toNatClampNeg ≤ Ln a1 ∧ ((0 : Int32)).toNatClampNeg + (S.2.1 0 a2.toNatClampNeg).toNatClampNeg ≤ Ln 5 ∧ ∃ n : Nat, wp_X0_isLieAt_32 Ln Q n (cs_sA S 5 (va_cpy (S.2.1 a1) (S.2.1 5) (S.2.1 1 a2.toNatClampNeg).toNatClampNeg ((0 : Int32)).toNatClampNeg (S.2.1 0 a2.toNatClampNeg).toNatClampNeg)) a1 a2 5 6 2
def wp_X0_isLie_38 (Ln : Nat → Nat) (K10 : cs_T → Nat → Int32 → Prop) (Q : Int32 → cs_T → Prop) (S : cs_T) (v1 : Nat) (v2 : Int32) : Prop :=
  ∀ v2_1 : Int32, v2_1 = v2 + 1 → K10 S v1 v2_1
def wb_X0_isLie_10 (Ln : Nat → Nat)  (K10 : cs_T → Nat → Int32 → Prop) (Q : Int32 → cs_T → Prop) (S : cs_T) (v1 : Nat) (v2 : Int32) : Prop :=
  (((S.1 0) < v2 → Q 1 S) ∧ (¬ (S.1 0) < v2 → wp_X0_isNought Ln S v1 v2 (fun (r3 : Int32) (S2 : cs_T) => ((¬ r3 = 0 → wp_X0_isLie_38 Ln K10 Q S2 v1 v2) ∧ (r3 = 0 → wp_X0_isLieAt Ln S2 v1 v2 (fun (r5 : Int32) (S4 : cs_T) => ((¬ r5 = 0 → wp_X0_isLie_38 Ln K10 Q S4 v1 v2) ∧ (r5 = 0 → Q 0 S4))))))))
def wp_X0_isLie_10 (Ln : Nat → Nat)  (Q : Int32 → cs_T → Prop) : Nat → cs_T → Nat → Int32 → Prop
  | 0 => fun _ _ _ => False
  | n + 1 => fun S v1 v2 => wb_X0_isLie_10 Ln (wp_X0_isLie_10 Ln Q n) Q S v1 v2
def wp_X0_isLie (Ln : Nat → Nat) (S : cs_T) (a1 : Nat) (Q : Int32 → cs_T → Prop) : Prop :=
  a1 < 47 ∧ vp_in ((0 : Int32)) (Ln a1) ∧ (((S.2.1 a1 ((0 : Int32)).toNatClampNeg) = 0 → ∃ n : Nat, wp_X0_isLie_10 Ln Q n S a1 2) ∧ (¬ (S.2.1 a1 ((0 : Int32)).toNatClampNeg) = 0 → Q 0 S))
def wp_X7_lie (Ln : Nat → Nat) (S : cs_T) (a1 : Int32) (Q : Int32 → cs_T → Prop) : Prop :=
  wp_X7_noSum a1 (fun r1 : Int32 => ((r1 = 0 → vp_in a1 8 ∧ wp_X0_isLie Ln S (7 + a1.toNatClampNeg) (fun (r4 : Int32) (S3 : cs_T) => ((r4 = 0 → Q 0 S3) ∧ (¬ r4 = 0 → Q 1 S3)))) ∧ (¬ r1 = 0 → Q ((-1)) S)))
def wp_X1_shareInBracket (Ln : Nat → Nat) (S : cs_T) (a1 : Int32) (a2 : Int32) (a3 : Int32) (Q : Int32 → cs_T → Prop) : Prop :=
  vp_in a1 (Ln 33) ∧ wp_X6_lengthOf Ln S (S.2.1 33 a1.toNatClampNeg) (fun (r3 : Int32) (S2 : cs_T) => vp_in a2 (Ln 33) ∧ wp_X6_lengthOf Ln S2 (S2.2.1 33 a2.toNatClampNeg) (fun (r6 : Int32) (S5 : cs_T) => ∀ v4_7 : Int32, v4_7 = r3 + r6 → vp_in a3 (Ln 33) ∧ wp_X6_lengthOf Ln S5 (S5.2.1 33 a3.toNatClampNeg) (fun (r10 : Int32) (S9 : cs_T) => ((v4_7 = r10 → wp_X1_weave Ln 8 S9 a1 0 (fun (S11 : cs_T) => wp_X1_weave Ln 8 S11 a2 1 (fun (S12 : cs_T) => vp_in ((0 : Int32)) 18 ∧ vp_in ((0 : Int32)) 18 ∧ vp_in ((1 : Int32)) 18 ∧ wp_X0_commute Ln S12 (15 + ((0 : Int32)).toNatClampNeg) (15 + ((0 : Int32)).toNatClampNeg) (15 + ((1 : Int32)).toNatClampNeg) (fun (S16 : cs_T) => vp_in a3 (Ln 33) ∧ wp_X1_measure Ln S16 (S16.2.1 33 a3.toNatClampNeg) 1 (fun (S18 : cs_T) => vp_in ((0 : Int32)) 18 ∧ vp_in ((1 : Int32)) 18 ∧ wp_X0_inner Ln S18 (15 + ((0 : Int32)).toNatClampNeg) (15 + ((1 : Int32)).toNatClampNeg) (fun (r22 : Int32) (S21 : cs_T) => Q r22 S21)))))) ∧ (¬ v4_7 = r10 → Q 0 S9)))))
def wp_X7_table (Ln : Nat → Nat) (S : cs_T) (a1 : Int32) (a2 : Int32) (a3 : Int32) (Q : Int32 → cs_T → Prop) : Prop :=
  wp_X7_noChief Ln S a1 (fun (r2 : Int32) (S1 : cs_T) => ((¬ r2 = 0 → Q ((-2147483648)) S1) ∧ (r2 = 0 → wp_X7_noChief Ln S1 a2 (fun (r4 : Int32) (S3 : cs_T) => ((¬ r4 = 0 → Q ((-2147483648)) S3) ∧ (r4 = 0 → wp_X7_noChief Ln S3 a3 (fun (r6 : Int32) (S5 : cs_T) => ((r6 = 0 → wp_X1_shareInBracket Ln S5 a1 a2 a3 (fun (r8 : Int32) (S7 : cs_T) => wp_X3_nearNought r8 (fun r9 : Int32 => Q r9 S7))) ∧ (¬ r6 = 0 → Q ((-2147483648)) S5)))))))))
def wp_X5_append (Ln : Nat → Nat) (S : cs_T) (a1 : Int32) (a2 : Int32) (Q : Int32 → cs_T → Prop) : Prop :=
  ((12 ≤ (S.1 9) → Q (S.1 9) S) ∧ (¬ 12 ≤ (S.1 9) → vp_in (S.1 9) (Ln 38) ∧ vp_in ((cs_sI S 38 (S.1 9).toNatClampNeg a1).1 9) (Ln 39) ∧ Q ((cs_sF (cs_sI (cs_sI S 38 (S.1 9).toNatClampNeg a1) 39 ((cs_sI S 38 (S.1 9).toNatClampNeg a1).1 9).toNatClampNeg a2) 9 (((cs_sI (cs_sI S 38 (S.1 9).toNatClampNeg a1) 39 ((cs_sI S 38 (S.1 9).toNatClampNeg a1).1 9).toNatClampNeg a2).1 9) + 1)).1 9) (cs_sF (cs_sI (cs_sI S 38 (S.1 9).toNatClampNeg a1) 39 ((cs_sI S 38 (S.1 9).toNatClampNeg a1).1 9).toNatClampNeg a2) 9 (((cs_sI (cs_sI S 38 (S.1 9).toNatClampNeg a1) 39 ((cs_sI S 38 (S.1 9).toNatClampNeg a1).1 9).toNatClampNeg a2).1 9) + 1))))
def wp_X7_step (Ln : Nat → Nat) (S : cs_T) (a1 : Int32) (a2 : Int32) (a3 : Int32) (Q : Int32 → cs_T → Prop) : Prop :=
  wp_X7_noLetter Ln S a1 (fun (r2 : Int32) (S1 : cs_T) => ((r2 = 0 → wp_X7_noFraction a2 a3 99 (fun r3 : Int32 => ((r3 = 0 → (((S1.1 9) < 12 → wp_X3_ratio a2 a3 (fun r4 : Int32 => wp_X5_append Ln S1 a1 r4 (fun (r6 : Int32) (S5 : cs_T) => Q r6 S5))) ∧ (¬ (S1.1 9) < 12 → Q ((-4)) S1))) ∧ (¬ r3 = 0 → Q ((-2)) S1)))) ∧ (¬ r2 = 0 → Q ((-1)) S1)))
def wp_X5_forget (Ln : Nat → Nat) (S : cs_T) (Q : Int32 → cs_T → Prop) : Prop :=
  ∀ v1_1 : Int32, v1_1 = S.1 9 → Q v1_1 (cs_sF S 9 0)
def wp_X7_unstep (Ln : Nat → Nat) (S : cs_T) (Q : Int32 → cs_T → Prop) : Prop :=
  wp_X5_forget Ln S (fun (r2 : Int32) (S1 : cs_T) => Q r2 S1)
def wb_X5_raiseLetter_18 (Ln : Nat → Nat)  (K18 : cs_T → Nat → Int32 → Int32 → Int32 → Int32 → Int32 → Prop) (Q : cs_T → Prop) (S : cs_T) (v1 : Nat) (v2 : Int32) (v3 : Int32) (v4 : Int32) (v5 : Int32) (v6 : Int32) : Prop :=
  (((S.1 3) < v6 → Q S) ∧ (¬ (S.1 3) < v6 → wp_X3_product v4 v3 (fun r1 : Int32 => wp_X3_reciprocal v6 (fun r2 : Int32 => wp_X3_product r1 r2 (fun r3 : Int32 => ∀ v5_4 : Int32, v5_4 = (v5 * (S.1 2)) + v2 → vp_in v6 (Ln 1) ∧ v1 < 47 ∧ vp_in ((S.2.1 1 v6.toNatClampNeg) + v5_4) (Ln v1) ∧ ∀ v6_8 : Int32, v6_8 = v6 + 1 → K18 (cs_sI S v1 ((S.2.1 1 v6.toNatClampNeg) + v5_4).toNatClampNeg r3) v1 v2 v3 r3 v5_4 v6_8)))))
def wp_X5_raiseLetter_18 (Ln : Nat → Nat)  (Q : cs_T → Prop) : Nat → cs_T → Nat → Int32 → Int32 → Int32 → Int32 → Int32 → Prop
  | 0 => fun _ _ _ _ _ _ _ => False
  | n + 1 => fun S v1 v2 v3 v4 v5 v6 => wb_X5_raiseLetter_18 Ln (wp_X5_raiseLetter_18 Ln Q n) Q S v1 v2 v3 v4 v5 v6
def wp_X5_raiseLetter (Ln : Nat → Nat) (S : cs_T) (a1 : Nat) (a2 : Int32) (a3 : Int32) (Q : cs_T → Prop) : Prop :=
  wp_X0_setToUnit Ln S a1 1 (fun (S9 : cs_T) => ∃ n : Nat, wp_X5_raiseLetter_18 Ln Q n S9 a1 a2 a3 1 0 1)
def wb_X5_make_32 (Ln : Nat → Nat)  (K32 : cs_T → Nat → Nat → Nat → Int32 → Prop) (Q : cs_T → Prop) (S : cs_T) (v1 : Nat) (v2 : Nat) (v3 : Nat) (v4 : Int32) : Prop :=
  (((S.1 9) ≤ v4 → wp_X0_unraise Ln S v1 v2 (fun (S1 : cs_T) => Q S1)) ∧ (¬ (S.1 9) ≤ v4 → vp_in v4 (Ln 38) ∧ vp_in v4 (Ln 39) ∧ wp_X5_raiseLetter Ln S v3 (S.2.1 38 v4.toNatClampNeg) (S.2.1 39 v4.toNatClampNeg) (fun (S4 : cs_T) => wp_X0_multiply Ln S4 v2 v2 v3 (fun (S5 : cs_T) => ∀ v4_6 : Int32, v4_6 = v4 + 1 → K32 S5 v1 v2 v3 v4_6))))
def wp_X5_make_32 (Ln : Nat → Nat)  (Q : cs_T → Prop) : Nat → cs_T → Nat → Nat → Nat → Int32 → Prop
  | 0 => fun _ _ _ _ _ => False
  | n + 1 => fun S v1 v2 v3 v4 => wb_X5_make_32 Ln (wp_X5_make_32 Ln Q n) Q S v1 v2 v3 v4
def wp_X5_make (Ln : Nat → Nat) (S : cs_T) (a1 : Nat) (Q : cs_T → Prop) : Prop :=
  vp_in ((0 : Int32)) 18 ∧ vp_in ((1 : Int32)) 18 ∧ wp_X0_setToUnit Ln S (15 + ((0 : Int32)).toNatClampNeg) 1 (fun (S9 : cs_T) => ∃ n : Nat, wp_X5_make_32 Ln Q n S9 a1 (15 + ((0 : Int32)).toNatClampNeg) (15 + ((1 : Int32)).toNatClampNeg) 0)
def wp_X7_scheme (Ln : Nat → Nat) (S : cs_T) (a1 : Int32) (Q : Int32 → cs_T → Prop) : Prop :=
  wp_X7_noSum a1 (fun r1 : Int32 => ((r1 = 0 → vp_in a1 8 ∧ wp_X5_make Ln S (7 + a1.toNatClampNeg) (fun (S3 : cs_T) => Q 0 S3)) ∧ (¬ r1 = 0 → Q ((-1)) S)))
def wb_X5_goodLength_55 (Ln : Nat → Nat)  (K55 : cs_T → Nat → Int32 → Prop) (Q : Int32 → cs_T → Prop) (S : cs_T) (v1 : Nat) (v2 : Int32) : Prop :=
  (((S.1 3) ≤ v2 → Q v2 S) ∧ (¬ (S.1 3) ≤ v2 → wp_X0_isNought Ln S v1 (v2 + 1) (fun (r2 : Int32) (S1 : cs_T) => ((r2 = 0 → Q v2 S1) ∧ (¬ r2 = 0 → ∀ v2_3 : Int32, v2_3 = v2 + 1 → K55 S1 v1 v2_3)))))
def wp_X5_goodLength_55 (Ln : Nat → Nat)  (Q : Int32 → cs_T → Prop) : Nat → cs_T → Nat → Int32 → Prop
  | 0 => fun _ _ _ => False
  | n + 1 => fun S v1 v2 => wb_X5_goodLength_55 Ln (wp_X5_goodLength_55 Ln Q n) Q S v1 v2
def wb_X5_goodLength_25 (Ln : Nat → Nat)  (K25 : cs_T → Nat → Int32 → Prop) (Q : Int32 → cs_T → Prop) (S : cs_T) (v1 : Nat) (v2 : Int32) : Prop :=
  vp_in ((2 : Int32)) (Ln 1) ∧ (((S.2.1 1 ((2 : Int32)).toNatClampNeg) ≤ v2 → ∃ n : Nat, wp_X5_goodLength_55 Ln Q n S v1 1) ∧ (¬ (S.2.1 1 ((2 : Int32)).toNatClampNeg) ≤ v2 → v1 < 47 ∧ vp_in v2 (Ln v1) ∧ (((S.2.1 v1 v2.toNatClampNeg) = 1 → ∀ v2_7 : Int32, v2_7 = v2 + 1 → K25 S v1 v2_7) ∧ (¬ (S.2.1 v1 v2.toNatClampNeg) = 1 → Q 0 S))))
def wp_X5_goodLength_25 (Ln : Nat → Nat)  (Q : Int32 → cs_T → Prop) : Nat → cs_T → Nat → Int32 → Prop
  | 0 => fun _ _ _ => False
  | n + 1 => fun S v1 v2 => wb_X5_goodLength_25 Ln (wp_X5_goodLength_25 Ln Q n) Q S v1 v2
def wp_X5_goodLength (Ln : Nat → Nat) (S : cs_T) (Q : Int32 → cs_T → Prop) : Prop :=
  vp_in ((0 : Int32)) 18 ∧ wp_X5_make Ln S (15 + ((0 : Int32)).toNatClampNeg) (fun (S9 : cs_T) => vp_in ((1 : Int32)) (Ln 1) ∧ ∀ v2_11 : Int32, v2_11 = S9.2.1 1 ((1 : Int32)).toNatClampNeg → ∃ n : Nat, wp_X5_goodLength_25 Ln Q n S9 (15 + ((0 : Int32)).toNatClampNeg) v2_11)
def wp_X7_order (Ln : Nat → Nat) (S : cs_T) (Q : Int32 → cs_T → Prop) : Prop :=
  wp_X5_goodLength Ln S (fun (r2 : Int32) (S1 : cs_T) => Q r2 S1)
def wp_X0_onlyLength_30 (Ln : Nat → Nat) (K4 : cs_T → Nat → Int32 → Int32 → Prop) (Q : Int32 → cs_T → Prop) (S : cs_T) (v1 : Nat) (v2 : Int32) (v3 : Int32) : Prop :=
  ∀ v3_1 : Int32, v3_1 = v3 + 1 → K4 S v1 v2 v3_1
def wb_X0_onlyLength_4 (Ln : Nat → Nat)  (K4 : cs_T → Nat → Int32 → Int32 → Prop) (Q : Int32 → cs_T → Prop) (S : cs_T) (v1 : Nat) (v2 : Int32) (v3 : Int32) : Prop :=
  (((S.1 0) < v3 → Q v2 S) ∧ (¬ (S.1 0) < v3 → wp_X0_isNought Ln S v1 v3 (fun (r3 : Int32) (S2 : cs_T) => ((¬ r3 = 0 → wp_X0_onlyLength_30 Ln K4 Q S2 v1 v2 v3) ∧ (r3 = 0 → ((v2 = ((-1)) → wp_X0_onlyLength_30 Ln K4 Q S2 v1 v3 v3) ∧ (¬ v2 = ((-1)) → Q ((-1)) S2)))))))
def wp_X0_onlyLength_4 (Ln : Nat → Nat)  (Q : Int32 → cs_T → Prop) : Nat → cs_T → Nat → Int32 → Int32 → Prop
  | 0 => fun _ _ _ _ => False
  | n + 1 => fun S v1 v2 v3 => wb_X0_onlyLength_4 Ln (wp_X0_onlyLength_4 Ln Q n) Q S v1 v2 v3
def wp_X0_onlyLength (Ln : Nat → Nat) (S : cs_T) (a1 : Nat) (Q : Int32 → cs_T → Prop) : Prop :=
  ∃ n : Nat, wp_X0_onlyLength_4 Ln Q n S a1 ((-1)) 0
def wb_X2_strip_49 (Ln : Nat → Nat)  (K49 : cs_T → Int32 → Int32 → Int32 → Int32 → Prop) (Q : cs_T → Prop) (S : cs_T) (v1 : Int32) (v4 : Int32) (v5 : Int32) (v6 : Int32) : Prop :=
  vp_in v1 (Ln 0) ∧ (((S.2.1 0 v1.toNatClampNeg) ≤ v6 → Q S) ∧ (¬ (S.2.1 0 v1.toNatClampNeg) ≤ v6 → ((v4 = 0 → Q S) ∧ (¬ v4 = 0 → vp_in v6 (Ln 45) ∧ ∃ q3 : Nat, S.2.2 = some q3 ∧ vp_in (v5 + v6) (Ln 47) ∧ wp_X3_productMore (S.2.1 45 v6.toNatClampNeg) (S.2.1 47 (v5 + v6).toNatClampNeg) v4 (fun r5 : Int32 => vp_in v6 (Ln 45) ∧ ∀ v6_7 : Int32, v6_7 = v6 + 1 → K49 (cs_sI S 45 v6.toNatClampNeg r5) v1 v4 v5 v6_7)))))
def wp_X2_strip_49 (Ln : Nat → Nat)  (Q : cs_T → Prop) : Nat → cs_T → Int32 → Int32 → Int32 → Int32 → Prop
  | 0 => fun _ _ _ _ _ => False
  | n + 1 => fun S v1 v4 v5 v6 => wb_X2_strip_49 Ln (wp_X2_strip_49 Ln Q n) Q S v1 v4 v5 v6
def wp_X2_strip (Ln : Nat → Nat) (S : cs_T) (a1 : Int32) (a2 : Int32) (Q : cs_T → Prop) : Prop :=
  vp_in a1 (Ln 43) ∧ vp_in ((S.2.1 43 a1.toNatClampNeg) + a2) (Ln 44) ∧ ∀ v3_10 : Int32, v3_10 = S.2.1 44 ((S.2.1 43 a1.toNatClampNeg) + a2).toNatClampNeg → vp_in v3_10 (Ln 45) ∧ wp_X3_minus 0 (S.2.1 45 v3_10.toNatClampNeg) (fun r12 : Int32 => vp_in a1 (Ln 42) ∧ vp_in a1 (Ln 0) ∧ ∀ v5_15 : Int32, v5_15 = (S.2.1 42 a1.toNatClampNeg) + (a2 * (S.2.1 0 a1.toNatClampNeg)) → ∃ n : Nat, wp_X2_strip_49 Ln Q n S a1 r12 v5_15 v3_10)
def wb_X2_keep_38 (Ln : Nat → Nat)  (K38 : cs_T → Int32 → Int32 → Int32 → Int32 → Int32 → Prop) (Q : cs_T → Prop) (S : cs_T) (v1 : Int32) (v2 : Int32) (v3 : Int32) (v4 : Int32) (v5 : Int32) : Prop :=
  vp_in v1 (Ln 0) ∧ (((S.2.1 0 v1.toNatClampNeg) ≤ v5 → vp_in v1 (Ln 43) ∧ vp_in v1 (Ln 40) ∧ vp_in ((S.2.1 43 v1.toNatClampNeg) + (S.2.1 40 v1.toNatClampNeg)) (Ln 44) ∧ vp_in v1 (Ln 40) ∧ vp_in v1 (Ln 40) ∧ Q (cs_sI (cs_sI S 44 ((S.2.1 43 v1.toNatClampNeg) + (S.2.1 40 v1.toNatClampNeg)).toNatClampNeg v2) 40 v1.toNatClampNeg (((cs_sI S 44 ((S.2.1 43 v1.toNatClampNeg) + (S.2.1 40 v1.toNatClampNeg)).toNatClampNeg v2).2.1 40 v1.toNatClampNeg) + 1))) ∧ (¬ (S.2.1 0 v1.toNatClampNeg) ≤ v5 → ∃ q7 : Nat, S.2.2 = some q7 ∧ vp_in v5 (Ln 45) ∧ wp_X3_product (S.2.1 45 v5.toNatClampNeg) v3 (fun r9 : Int32 => vp_in (v4 + v5) (Ln 47) ∧ ∀ v5_11 : Int32, v5_11 = v5 + 1 → K38 (cs_sI S 47 (v4 + v5).toNatClampNeg r9) v1 v2 v3 v4 v5_11)))
def wp_X2_keep_38 (Ln : Nat → Nat)  (Q : cs_T → Prop) : Nat → cs_T → Int32 → Int32 → Int32 → Int32 → Int32 → Prop
  | 0 => fun _ _ _ _ _ _ => False
  | n + 1 => fun S v1 v2 v3 v4 v5 => wb_X2_keep_38 Ln (wp_X2_keep_38 Ln Q n) Q S v1 v2 v3 v4 v5
def wp_X2_keep (Ln : Nat → Nat) (S : cs_T) (a1 : Int32) (a2 : Int32) (Q : cs_T → Prop) : Prop :=
  vp_in a2 (Ln 45) ∧ wp_X3_reciprocal (S.2.1 45 a2.toNatClampNeg) (fun r13 : Int32 => vp_in a1 (Ln 42) ∧ vp_in a1 (Ln 40) ∧ vp_in a1 (Ln 0) ∧ ∀ v4_17 : Int32, v4_17 = (S.2.1 42 a1.toNatClampNeg) + ((S.2.1 40 a1.toNatClampNeg) * (S.2.1 0 a1.toNatClampNeg)) → ∃ n : Nat, wp_X2_keep_38 Ln Q n S a1 a2 r13 v4_17 0)
def wp_X2_settle_72 (Ln : Nat → Nat)  (Q : cs_T → Prop) (S : cs_T) (v1 : Int32) (v2 : Int32) : Prop :=
  vp_in v1 (Ln 0) ∧ (((S.2.1 0 v1.toNatClampNeg) ≤ v2 → Q S) ∧ (¬ (S.2.1 0 v1.toNatClampNeg) ≤ v2 → wp_X2_keep Ln S v1 v2 (fun (S2 : cs_T) => Q S2)))
def wb_X2_settle_44 (Ln : Nat → Nat)  (K44 : cs_T → Int32 → Int32 → Prop) (Q : cs_T → Prop) (S : cs_T) (v1 : Int32) (v2 : Int32) : Prop :=
  vp_in v1 (Ln 0) ∧ (((S.2.1 0 v1.toNatClampNeg) ≤ v2 → wp_X2_settle_72 Ln Q S v1 v2) ∧ (¬ (S.2.1 0 v1.toNatClampNeg) ≤ v2 → vp_in v2 (Ln 45) ∧ ((¬ (S.2.1 45 v2.toNatClampNeg) = 0 → wp_X2_settle_72 Ln Q S v1 v2) ∧ ((S.2.1 45 v2.toNatClampNeg) = 0 → ∀ v2_5 : Int32, v2_5 = v2 + 1 → K44 S v1 v2_5))))
def wp_X2_settle_44 (Ln : Nat → Nat)  (Q : cs_T → Prop) : Nat → cs_T → Int32 → Int32 → Prop
  | 0 => fun _ _ _ => False
  | n + 1 => fun S v1 v2 => wb_X2_settle_44 Ln (wp_X2_settle_44 Ln Q n) Q S v1 v2
def wb_X2_settle_20 (Ln : Nat → Nat)  (K20 : cs_T → Int32 → Int32 → Prop) (Q : cs_T → Prop) (S : cs_T) (v1 : Int32) (v2 : Int32) : Prop :=
  vp_in v1 (Ln 40) ∧ (((S.2.1 40 v1.toNatClampNeg) ≤ v2 → ∃ n : Nat, wp_X2_settle_44 Ln Q n S v1 0) ∧ (¬ (S.2.1 40 v1.toNatClampNeg) ≤ v2 → wp_X2_strip Ln S v1 v2 (fun (S7 : cs_T) => ∀ v2_8 : Int32, v2_8 = v2 + 1 → K20 S7 v1 v2_8)))
def wp_X2_settle_20 (Ln : Nat → Nat)  (Q : cs_T → Prop) : Nat → cs_T → Int32 → Int32 → Prop
  | 0 => fun _ _ _ => False
  | n + 1 => fun S v1 v2 => wb_X2_settle_20 Ln (wp_X2_settle_20 Ln Q n) Q S v1 v2
def wp_X2_settle (Ln : Nat → Nat) (S : cs_T) (a1 : Int32) (Q : cs_T → Prop) : Prop :=
  vp_in a1 (Ln 40) ∧ wp_X1_ofLength Ln S a1 (fun (r11 : Int32) (S10 : cs_T) => (((S.2.1 40 a1.toNatClampNeg) < r11 → ∃ n : Nat, wp_X2_settle_20 Ln Q n S10 a1 0) ∧ (¬ (S.2.1 40 a1.toNatClampNeg) < r11 → Q S10)))
def wb_X2_bracketToHand_49 (Ln : Nat → Nat)  (K49 : cs_T → Int32 → Int32 → Int32 → Int32 → Prop) (Q : cs_T → Prop) (S : cs_T) (v3 : Int32) (v4 : Int32) (v5 : Int32) (v6 : Int32) : Prop :=
  ((v4 ≤ v6 → Q S) ∧ (¬ v4 ≤ v6 → ∀ v7_1 : Int32, v7_1 = (v3 * v4) + v6 → ∀ v8_2 : Int32, v8_2 = (v6 * (S.1 2)) + v3 → vp_in v7_1 (Ln 45) ∧ ∃ q4 : Nat, S.2.2 = some q4 ∧ vp_in (v5 + v6) (Ln 47) ∧ wp_X3_plus (S.2.1 45 v7_1.toNatClampNeg) (S.2.1 47 (v5 + v6).toNatClampNeg) (fun r6 : Int32 => vp_in v7_1 (Ln 45) ∧ vp_in v8_2 (Ln 45) ∧ ∃ q9 : Nat, (cs_sI S 45 v7_1.toNatClampNeg r6).2.2 = some q9 ∧ vp_in (v5 + v6) (Ln 47) ∧ wp_X3_minus ((cs_sI S 45 v7_1.toNatClampNeg r6).2.1 45 v8_2.toNatClampNeg) ((cs_sI S 45 v7_1.toNatClampNeg r6).2.1 47 (v5 + v6).toNatClampNeg) (fun r11 : Int32 => vp_in v8_2 (Ln 45) ∧ ∀ v6_13 : Int32, v6_13 = v6 + 1 → K49 (cs_sI (cs_sI S 45 v7_1.toNatClampNeg r6) 45 v8_2.toNatClampNeg r11) v3 v4 v5 v6_13))))
def wp_X2_bracketToHand_49 (Ln : Nat → Nat)  (Q : cs_T → Prop) : Nat → cs_T → Int32 → Int32 → Int32 → Int32 → Prop
  | 0 => fun _ _ _ _ _ => False
  | n + 1 => fun S v3 v4 v5 v6 => wb_X2_bracketToHand_49 Ln (wp_X2_bracketToHand_49 Ln Q n) Q S v3 v4 v5 v6
def wp_X2_bracketToHand (Ln : Nat → Nat) (S : cs_T) (a1 : Int32) (a2 : Int32) (a3 : Int32) (Q : cs_T → Prop) : Prop :=
  vp_in (a1 - 1) (Ln 0) ∧ ∀ v4_15 : Int32, v4_15 = S.2.1 0 (a1 - 1).toNatClampNeg → vp_in (a1 - 1) (Ln 42) ∧ ∀ v5_17 : Int32, v5_17 = (S.2.1 42 (a1 - 1).toNatClampNeg) + (a2 * v4_15) → vp_in a1 (Ln 0) ∧ wp_J7_fill_fda19 Ln S 45 0 (S.2.1 0 a1.toNatClampNeg) 0 (fun (S19 : cs_T) => ∃ n : Nat, wp_X2_bracketToHand_49 Ln Q n S19 a3 v4_15 v5_17 0)
def wb_X2_enact_118 (Ln : Nat → Nat) (K81 : cs_T → Int32 → Prop) (K102 : cs_T → Int32 → Int32 → Prop) (K118 : cs_T → Int32 → Int32 → Int32 → Prop) (Q : Int32 → cs_T → Prop) (S : cs_T) (v3 : Int32) (v4 : Int32) (v5 : Int32) : Prop :=
  (((S.1 2) ≤ v5 → ∀ v4_1 : Int32, v4_1 = v4 + 1 → K102 S v3 v4_1) ∧ (¬ (S.1 2) ≤ v5 → wp_X2_bracketToHand Ln S v3 v4 v5 (fun (S2 : cs_T) => wp_X2_settle Ln S2 v3 (fun (S3 : cs_T) => ∀ v5_4 : Int32, v5_4 = v5 + 1 → K118 S3 v3 v4 v5_4))))
def wp_X2_enact_118 (Ln : Nat → Nat) (K81 : cs_T → Int32 → Prop) (K102 : cs_T → Int32 → Int32 → Prop) (Q : Int32 → cs_T → Prop) : Nat → cs_T → Int32 → Int32 → Int32 → Prop
  | 0 => fun _ _ _ _ => False
  | n + 1 => fun S v3 v4 v5 => wb_X2_enact_118 Ln K81 K102 (wp_X2_enact_118 Ln K81 K102 Q n) Q S v3 v4 v5
def wb_X2_enact_102 (Ln : Nat → Nat) (K81 : cs_T → Int32 → Prop) (K102 : cs_T → Int32 → Int32 → Prop) (Q : Int32 → cs_T → Prop) (S : cs_T) (v3 : Int32) (v4 : Int32) : Prop :=
  vp_in (v3 - 1) (Ln 40) ∧ (((S.2.1 40 (v3 - 1).toNatClampNeg) ≤ v4 → ∀ v3_6 : Int32, v3_6 = v3 + 1 → K81 S v3_6) ∧ (¬ (S.2.1 40 (v3 - 1).toNatClampNeg) ≤ v4 → ∃ n : Nat, wp_X2_enact_118 Ln K81 K102 Q n S v3 v4 0))
def wp_X2_enact_102 (Ln : Nat → Nat) (K81 : cs_T → Int32 → Prop) (Q : Int32 → cs_T → Prop) : Nat → cs_T → Int32 → Int32 → Prop
  | 0 => fun _ _ _ => False
  | n + 1 => fun S v3 v4 => wb_X2_enact_102 Ln K81 (wp_X2_enact_102 Ln K81 Q n) Q S v3 v4
def wb_X2_enact_81 (Ln : Nat → Nat)  (K81 : cs_T → Int32 → Prop) (Q : Int32 → cs_T → Prop) (S : cs_T) (v3 : Int32) : Prop :=
  (((S.1 3) < v3 → Q (((cs_sF S 4 ((S.1 4) + 1)).1 4) - 1) (cs_sF S 4 ((S.1 4) + 1))) ∧ (¬ (S.1 3) < v3 → vp_in (v3 - 1) (Ln 41) ∧ ∀ v4_8 : Int32, v4_8 = S.2.1 41 (v3 - 1).toNatClampNeg → ∃ n : Nat, wp_X2_enact_102 Ln K81 Q n S v3 v4_8))
def wp_X2_enact_81 (Ln : Nat → Nat)  (Q : Int32 → cs_T → Prop) : Nat → cs_T → Int32 → Prop
  | 0 => fun _ _ => False
  | n + 1 => fun S v3 => wb_X2_enact_81 Ln (wp_X2_enact_81 Ln Q n) Q S v3
def wp_X2_enact_27 (Ln : Nat → Nat)  (Q : Int32 → cs_T → Prop) (S : cs_T) (v1 : Nat) (v2 : Int32) : Prop :=
  ¬ ((0 : Int32)) < 0 ∧ ¬ ((0 : Int32)) < 0 ∧ ¬ (nI (Ln 40)) < 0 ∧ ((0 : Int32)).toNatClampNeg + (nI (Ln 40)).toNatClampNeg ≤ Ln 40 ∧ ((0 : Int32)).toNatClampNeg + (nI (Ln 40)).toNatClampNeg ≤ Ln 41 ∧ vp_in v2 (Ln 1) ∧ vp_in v2 (Ln 0) ∧ v1 < 47 ∧ ¬ ((cs_sA S 41 (va_cpy (S.2.1 40) (S.2.1 41) ((0 : Int32)).toNatClampNeg ((0 : Int32)).toNatClampNeg (nI (Ln 40)).toNatClampNeg)).2.1 1 v2.toNatClampNeg) < 0 ∧ ¬ ((0 : Int32)) < 0 ∧ ¬ ((cs_sA S 41 (va_cpy (S.2.1 40) (S.2.1 41) ((0 : Int32)).toNatClampNeg ((0 : Int32)).toNatClampNeg (nI (Ln 40)).toNatClampNeg)).2.1 0 v2.toNatClampNeg) < 0 ∧ ((cs_sA S 41 (va_cpy (S.2.1 40) (S.2.1 41) ((0 : Int32)).toNatClampNeg ((0 : Int32)).toNatClampNeg (nI (Ln 40)).toNatClampNeg)).2.1 1 v2.toNatClampNeg).toNatClampNeg + ((cs_sA S 41 (va_cpy (S.2.1 40) (S.2.1 41) ((0 : Int32)).toNatClampNeg ((0 : Int32)).toNatClampNeg (nI (Ln 40)).toNatClampNeg)).2.1 0 v2.toNatClampNeg).toNatClampNeg ≤ Ln v1 ∧ ((0 : Int32)).toNatClampNeg + ((cs_sA S 41 (va_cpy (S.2.1 40) (S.2.1 41) ((0 : Int32)).toNatClampNeg ((0 : Int32)).toNatClampNeg (nI (Ln 40)).toNatClampNeg)).2.1 0 v2.toNatClampNeg).toNatClampNeg ≤ Ln 45 ∧ wp_X2_settle Ln (cs_sA (cs_sA S 41 (va_cpy (S.2.1 40) (S.2.1 41) ((0 : Int32)).toNatClampNeg ((0 : Int32)).toNatClampNeg (nI (Ln 40)).toNatClampNeg)) 45 (va_cpy ((cs_sA S 41 (va_cpy (S.2.1 40) (S.2.1 41) ((0 : Int32)).toNatClampNeg ((0 : Int32)).toNatClampNeg (nI (Ln 40)).toNatClampNeg)).2.1 v1) ((cs_sA S 41 (va_cpy (S.2.1 40) (S.2.1 41) ((0 : Int32)).toNatClampNeg ((0 : Int32)).toNatClampNeg (nI (Ln 40)).toNatClampNeg)).2.1 45) ((cs_sA S 41 (va_cpy (S.2.1 40) (S.2.1 41) ((0 : Int32)).toNatClampNeg ((0 : Int32)).toNatClampNeg (nI (Ln 40)).toNatClampNeg)).2.1 1 v2.toNatClampNeg).toNatClampNeg ((0 : Int32)).toNatClampNeg ((cs_sA S 41 (va_cpy (S.2.1 40) (S.2.1 41) ((0 : Int32)).toNatClampNeg ((0 : Int32)).toNatClampNeg (nI (Ln 40)).toNatClampNeg)).2.1 0 v2.toNatClampNeg).toNatClampNeg)) v2 (fun (S22 : cs_T) => ∀ v3_23 : Int32, v3_23 = v2 + 1 → ∃ n : Nat, wp_X2_enact_81 Ln Q n S22 v3_23)
def cs_mc (S : cs_T) : Nat := match S.2.2 with
  | none => 1
  | some _ => 0
def cs_ms (Ln : Nat → Nat) (S : cs_T) : Nat := match S.2.2 with
  | none => Ln 47
  | some _ => 0
def wp_X2_enact (Ln : Nat → Nat) (S : cs_T) (a1 : Nat) (a2 : Int32) (Q : Int32 → cs_T → Prop) : Prop :=
  (∀ q : Nat, S.2.2 = some q → wp_X2_enact_27 Ln Q S a1 a2) ∧ (S.2.2 = none → vp_in (S.1 3 + 1) (Ln 42) ∧ ¬ (S.2.1 42 (S.1 3 + 1).toNatClampNeg) < 0 ∧ (S.2.1 42 (S.1 3 + 1).toNatClampNeg).toNatClampNeg = Ln 47 ∧ Ln 47 * 4 ≤ 536870912 ∧ ∀ q : Nat, wp_X2_enact_27 Ln Q (S.1, va_up S.2.1 47 (fun _ => 0), some q) a1 a2)
def wp_X7_relate (Ln : Nat → Nat) (mc ms : Nat) (S : cs_T) (a1 : Int32) (Q : Int32 → cs_T → Prop) : Prop :=
  wp_X7_noSum a1 (fun r1 : Int32 => ((r1 = 0 → vp_in a1 8 ∧ wp_X0_onlyLength Ln S (7 + a1.toNatClampNeg) (fun (r4 : Int32) (S3 : cs_T) => ((r4 < 1 → Q ((-3)) S3) ∧ (¬ r4 < 1 → vp_in a1 8 ∧ wp_X0_isLie Ln S3 (7 + a1.toNatClampNeg) (fun (r7 : Int32) (S6 : cs_T) => ((¬ r7 = 0 → (((S6.1 4) < 4 → vp_in a1 8 ∧ cs_mc S6 = mc ∧ cs_ms Ln S6 = ms ∧ wp_X2_enact Ln S6 (7 + a1.toNatClampNeg) r4 (fun (r10 : Int32) (S9 : cs_T) => Q r10 S9)) ∧ (¬ (S6.1 4) < 4 → Q ((-4)) S6))) ∧ (r7 = 0 → Q ((-3)) S6))))))) ∧ (¬ r1 = 0 → Q ((-1)) S)))
def wp_X7_size (Ln : Nat → Nat) (S : cs_T) (a1 : Int32) (Q : Int32 → cs_T → Prop) : Prop :=
  ((a1 < 1 → Q ((-1)) S) ∧ (¬ a1 < 1 → ((a1 ≤ (S.1 3) → wp_X1_ofLength Ln S a1 (fun (r2 : Int32) (S1 : cs_T) => vp_in a1 (Ln 40) ∧ Q (r2 - (S1.2.1 40 a1.toNatClampNeg)) S1)) ∧ (¬ a1 ≤ (S.1 3) → Q ((-1)) S))))
def wb_X4_append_5 (Ln : Nat → Nat)  (K5 : cs_T → Int64 → Int32 → Prop) (Q : Int32 → cs_T → Prop) (S : cs_T) (v1 : Int64) (v4 : Int32) : Prop :=
  ((v4 < 0 → Q (S.1 5) S) ∧ (¬ v4 < 0 → ((100 ≤ (S.1 5) → Q (S.1 5) S) ∧ (¬ 100 ≤ (S.1 5) → vp_in (S.1 5) (Ln 46) ∧ ∀ v4_2 : Int32, v4_2 = v4 + (-1) → K5 (cs_sF (cs_sI S 46 (S.1 5).toNatClampNeg ((((v1.toUInt64 >>> ((8 * v4).toInt64.toUInt64 &&& Int64.toUInt64 63)).toInt64) &&& 255).toInt32)) 5 (((cs_sI S 46 (S.1 5).toNatClampNeg ((((v1.toUInt64 >>> ((8 * v4).toInt64.toUInt64 &&& Int64.toUInt64 63)).toInt64) &&& 255).toInt32)).1 5) + 1)) v1 v4_2))))
def wp_X4_append_5 (Ln : Nat → Nat)  (Q : Int32 → cs_T → Prop) : Nat → cs_T → Int64 → Int32 → Prop
  | 0 => fun _ _ _ => False
  | n + 1 => fun S v1 v4 => wb_X4_append_5 Ln (wp_X4_append_5 Ln Q n) Q S v1 v4
def wp_X4_append (Ln : Nat → Nat) (S : cs_T) (a1 : Int64) (a3 : Int32) (Q : Int32 → cs_T → Prop) : Prop :=
  ∀ v4_3 : Int32, v4_3 = a3 - 1 → ∃ n : Nat, wp_X4_append_5 Ln Q n S a1 v4_3
def wp_X7_feed (Ln : Nat → Nat) (S : cs_T) (a1 : Int64) (a3 : Int32) (Q : Int32 → cs_T → Prop) : Prop :=
  ((a3 < 1 → Q ((-2)) S) ∧ (¬ a3 < 1 → ((a3 ≤ 8 → ((((S.1 5) + a3) ≤ 100 → wp_X4_append Ln S a1 a3 (fun (r2 : Int32) (S1 : cs_T) => Q r2 S1)) ∧ (¬ ((S.1 5) + a3) ≤ 100 → Q ((-4)) S))) ∧ (¬ a3 ≤ 8 → Q ((-2)) S))))
def wp_X4_wholeOf (Ln : Nat → Nat) (S : cs_T) (a1 : Int32) (Q : Nat → cs_T → Prop) : Prop :=
  vp_in (3 * a1) 18 ∧ Q (15 + (3 * a1).toNatClampNeg) S
def wp_X4_termOf (Ln : Nat → Nat) (S : cs_T) (a1 : Int32) (Q : Nat → cs_T → Prop) : Prop :=
  vp_in ((3 * a1) + 1) 18 ∧ Q (15 + ((3 * a1) + 1).toNatClampNeg) S
def wp_X4_hand (Ln : Nat → Nat) (S : cs_T) (Q : Int32 → cs_T → Prop) : Prop :=
  (((S.1 5) ≤ (S.1 6) → Q ((-1)) S) ∧ (¬ (S.1 5) ≤ (S.1 6) → vp_in (S.1 6) (Ln 46) ∧ Q (S.2.1 46 (S.1 6).toNatClampNeg) S))
def wp_X4_isDigit (Ln : Nat → Nat) (S : cs_T) (a1 : Int32) (Q : Int32 → cs_T → Prop) : Prop :=
  ((a1 < 48 → Q 0 S) ∧ (¬ a1 < 48 → ((57 < a1 → Q 0 S) ∧ (¬ 57 < a1 → Q 1 S))))
def wp_X4_isLetter (Ln : Nat → Nat) (S : cs_T) (a1 : Int32) (Q : Int32 → cs_T → Prop) : Prop :=
  ((a1 < 97 → Q 0 S) ∧ (¬ a1 < 97 → (((97 + (S.1 2)) ≤ a1 → Q 0 S) ∧ (¬ (97 + (S.1 2)) ≤ a1 → Q 1 S))))
def wp_X4_beginsFactor (Ln : Nat → Nat) (S : cs_T) (a1 : Int32) (Q : Int32 → cs_T → Prop) : Prop :=
  wp_X4_isDigit Ln S a1 (fun (r2 : Int32) (S1 : cs_T) => ((¬ r2 = 0 → Q 1 S1) ∧ (r2 = 0 → wp_X4_isLetter Ln S1 a1 (fun (r4 : Int32) (S3 : cs_T) => ((¬ r4 = 0 → Q 1 S3) ∧ (r4 = 0 → ((a1 = 114 → Q 1 S3) ∧ (¬ a1 = 114 → ((a1 = 91 → Q 1 S3) ∧ (¬ a1 = 91 → ((a1 = 40 → Q 1 S3) ∧ (¬ a1 = 40 → ((a1 = 69 → Q 1 S3) ∧ (¬ a1 = 69 → ((¬ a1 = 76 → Q 0 S3) ∧ (a1 = 76 → Q 1 S3))))))))))))))))
def wb_X4_readNumber_4 (Ln : Nat → Nat)  (K4 : cs_T → Int32 → Int32 → Prop) (Q : Int32 → cs_T → Prop) (S : cs_T) (v1 : Int32) (v2 : Int32) : Prop :=
  ((4 ≤ v2 → Q v1 S) ∧ (¬ 4 ≤ v2 → wp_X4_hand Ln S (fun (r2 : Int32) (S1 : cs_T) => wp_X4_isDigit Ln S1 r2 (fun (r4 : Int32) (S3 : cs_T) => ((r4 = 0 → Q v1 S3) ∧ (¬ r4 = 0 → wp_X4_hand Ln S3 (fun (r6 : Int32) (S5 : cs_T) => ∀ v1_7 : Int32, v1_7 = ((v1 * 10) + r6) - 48 → ∀ v2_8 : Int32, v2_8 = v2 + 1 → K4 (cs_sF S5 6 ((S5.1 6) + 1)) v1_7 v2_8)))))))
def wp_X4_readNumber_4 (Ln : Nat → Nat)  (Q : Int32 → cs_T → Prop) : Nat → cs_T → Int32 → Int32 → Prop
  | 0 => fun _ _ _ => False
  | n + 1 => fun S v1 v2 => wb_X4_readNumber_4 Ln (wp_X4_readNumber_4 Ln Q n) Q S v1 v2
def wp_X4_readNumber (Ln : Nat → Nat) (S : cs_T) (Q : Int32 → cs_T → Prop) : Prop :=
  ∃ n : Nat, wp_X4_readNumber_4 Ln Q n S 0 0
def wb_X0_multiplyByLetter_38 (Ln : Nat → Nat) (K10 : cs_T → Nat → Int32 → Int32 → Prop) (K38 : cs_T → Nat → Int32 → Int32 → Int32 → Int32 → Prop) (Q : cs_T → Prop) (S : cs_T) (v1 : Nat) (v2 : Int32) (v3 : Int32) (v4 : Int32) (v5 : Int32) : Prop :=
  vp_in (v3 + 1) (Ln 1) ∧ (((S.2.1 1 (v3 + 1).toNatClampNeg) ≤ v5 → ∀ v3_2 : Int32, v3_2 = v3 + 1 → K10 S v1 v2 v3_2) ∧ (¬ (S.2.1 1 (v3 + 1).toNatClampNeg) ≤ v5 → v1 < 47 ∧ vp_in v5 (Ln v1) ∧ vp_in v4 (Ln 3) ∧ ∀ v4_6 : Int32, v4_6 = v4 + ((cs_sI S 3 v4.toNatClampNeg (S.2.1 v1 v5.toNatClampNeg)).1 1) → ∀ v5_7 : Int32, v5_7 = v5 + 1 → K38 (cs_sI S 3 v4.toNatClampNeg (S.2.1 v1 v5.toNatClampNeg)) v1 v2 v3 v4_6 v5_7))
def wp_X0_multiplyByLetter_38 (Ln : Nat → Nat) (K10 : cs_T → Nat → Int32 → Int32 → Prop) (Q : cs_T → Prop) : Nat → cs_T → Nat → Int32 → Int32 → Int32 → Int32 → Prop
  | 0 => fun _ _ _ _ _ _ => False
  | n + 1 => fun S v1 v2 v3 v4 v5 => wb_X0_multiplyByLetter_38 Ln K10 (wp_X0_multiplyByLetter_38 Ln K10 Q n) Q S v1 v2 v3 v4 v5
def wb_X0_multiplyByLetter_10 (Ln : Nat → Nat)  (K10 : cs_T → Nat → Int32 → Int32 → Prop) (Q : cs_T → Prop) (S : cs_T) (v1 : Nat) (v2 : Int32) (v3 : Int32) : Prop :=
  (((S.1 0) ≤ v3 → wp_X0_copy Ln S v1 3 (fun (S8 : cs_T) => Q S8)) ∧ (¬ (S.1 0) ≤ v3 → vp_in (v3 + 1) (Ln 1) ∧ ∀ v4_10 : Int32, v4_10 = (S.2.1 1 (v3 + 1).toNatClampNeg) + v2 → vp_in v3 (Ln 1) ∧ ∀ v5_12 : Int32, v5_12 = S.2.1 1 v3.toNatClampNeg → ∃ n : Nat, wp_X0_multiplyByLetter_38 Ln K10 Q n S v1 v2 v3 v4_10 v5_12))
def wp_X0_multiplyByLetter_10 (Ln : Nat → Nat)  (Q : cs_T → Prop) : Nat → cs_T → Nat → Int32 → Int32 → Prop
  | 0 => fun _ _ _ _ => False
  | n + 1 => fun S v1 v2 v3 => wb_X0_multiplyByLetter_10 Ln (wp_X0_multiplyByLetter_10 Ln Q n) Q S v1 v2 v3
def wp_X0_multiplyByLetter (Ln : Nat → Nat) (S : cs_T) (a1 : Nat) (a2 : Int32) (Q : cs_T → Prop) : Prop :=
  wp_J7_fill_53178 Ln S 3 0 (fun (S13 : cs_T) => ∃ n : Nat, wp_X0_multiplyByLetter_10 Ln Q n S13 a1 a2 0)
def wp_X4_readSum (Ln : Nat → Nat) (S : cs_T) (a1 : Int32) (Q : cs_T → Prop) : Prop :=
  wp_X4_hand Ln S (fun (r2 : Int32) (S1 : cs_T) => ∀ v2_3 : Int32, v2_3 = r2 - 48 → wp_X7_noSum v2_3 (fun r4 : Int32 => ((r4 = 0 → wp_X4_termOf Ln (cs_sF S1 6 ((S1.1 6) + 1)) a1 (fun (r6 : Nat) (S5 : cs_T) => wp_X4_termOf Ln S5 a1 (fun (r8 : Nat) (S7 : cs_T) => vp_in v2_3 8 ∧ wp_X0_multiply Ln S7 r6 r8 (7 + v2_3.toNatClampNeg) (fun (S10 : cs_T) => Q S10)))) ∧ (¬ r4 = 0 → Q (cs_sF S1 7 (S1.1 6))))))
def wp_X4_opens (Ln : Nat → Nat) (S : cs_T) (a1 : Int32) (a2 : Int32) (Q : Int32 → cs_T → Prop) : Prop :=
  wp_X4_hand Ln S (fun (r2 : Int32) (S1 : cs_T) => ((¬ r2 = a1 → Q 0 (cs_sF S1 7 (S1.1 6))) ∧ (r2 = a1 → ((a2 < 5 → Q 1 (cs_sF S1 6 ((S1.1 6) + 1))) ∧ (¬ a2 < 5 → Q 0 (cs_sF S1 7 (S1.1 6)))))))
def wp_X4_goesOn_27 (Ln : Nat → Nat)  (Q : Int32 → cs_T → Prop) (S : cs_T) : Prop :=
  ((0 ≤ (S.1 7) → Q 0 S) ∧ (¬ 0 ≤ (S.1 7) → Q 0 (cs_sF S 7 (S.1 6))))
def wp_X4_goesOn (Ln : Nat → Nat) (S : cs_T) (a1 : Int32) (Q : Int32 → cs_T → Prop) : Prop :=
  ((0 ≤ (S.1 7) → wp_X4_goesOn_27 Ln Q S) ∧ (¬ 0 ≤ (S.1 7) → wp_X4_hand Ln S (fun (r2 : Int32) (S1 : cs_T) => ((¬ r2 = a1 → wp_X4_goesOn_27 Ln Q S1) ∧ (r2 = a1 → Q 1 (cs_sF S1 6 ((S1.1 6) + 1)))))))
def wp_X4_leftOf (Ln : Nat → Nat) (S : cs_T) (a1 : Int32) (Q : Nat → cs_T → Prop) : Prop :=
  vp_in ((3 * a1) + 2) 18 ∧ Q (15 + ((3 * a1) + 2).toNatClampNeg) S
def wp_X4_readDivisor (Ln : Nat → Nat) (S : cs_T) (a1 : Int32) (Q : cs_T → Prop) : Prop :=
  wp_X4_hand Ln S (fun (r2 : Int32) (S1 : cs_T) => wp_X4_isDigit Ln S1 r2 (fun (r4 : Int32) (S3 : cs_T) => ((r4 = 0 → Q (cs_sF S3 7 (S3.1 6))) ∧ (¬ r4 = 0 → wp_X4_hand Ln S3 (fun (r6 : Int32) (S5 : cs_T) => ((¬ r6 = 48 → wp_X4_termOf Ln S5 a1 (fun (r8 : Nat) (S7 : cs_T) => wp_X4_readNumber Ln S7 (fun (r10 : Int32) (S9 : cs_T) => wp_X3_reciprocal r10 (fun r11 : Int32 => wp_X0_scale Ln S9 r8 r11 (fun (S12 : cs_T) => Q S12))))) ∧ (r6 = 48 → Q (cs_sF S5 7 (S5.1 6)))))))))
def wp_X6_all (Ln : Nat → Nat) (S : cs_T) (Q : Int32 → cs_T → Prop) : Prop :=
  vp_in ((S.1 3) + 1) (Ln 1) ∧ Q (S.2.1 1 ((S.1 3) + 1).toNatClampNeg) S
def wp_X7_count (Ln : Nat → Nat) (S : cs_T) (a1 : Int32) (Q : Int32 → cs_T → Prop) : Prop :=
  ((a1 = 0 → Q (S.1 2) S) ∧ (a1 = 1 → Q (S.1 3) S) ∧ (a1 = 2 → wp_X6_all Ln S (fun (r2 : Int32) (S1 : cs_T) => Q r2 S1)) ∧ (a1 = 3 → wp_X1_all Ln S (fun (r4 : Int32) (S3 : cs_T) => Q r4 S3)) ∧ (a1 = 4 → Q (S.1 9) S) ∧ (a1 = 5 → Q (S.1 4) S) ∧ (a1 = 6 → Q (S.1 5) S) ∧ (¬ a1 = 0 ∧ ¬ a1 = 1 ∧ ¬ a1 = 2 ∧ ¬ a1 = 3 ∧ ¬ a1 = 4 ∧ ¬ a1 = 5 ∧ ¬ a1 = 6 → Q ((-1)) S))
def wp_X1_findChiefs_96 (Ln : Nat → Nat) (K9 : cs_T → Nat → Nat → Int32 → Int32 → Prop) (K41 : cs_T → Nat → Nat → Int32 → Int32 → Int32 → Prop) (Q : Int32 → cs_T → Prop) (S : cs_T) (v1 : Nat) (v2 : Nat) (v3 : Int32) (v4 : Int32) (v5 : Int32) : Prop :=
  ∀ v5_1 : Int32, v5_1 = v5 + 1 → K41 S v1 v2 v3 v4 v5_1
def wb_X1_findChiefs_41 (Ln : Nat → Nat) (K9 : cs_T → Nat → Nat → Int32 → Int32 → Prop) (K41 : cs_T → Nat → Nat → Int32 → Int32 → Int32 → Prop) (Q : Int32 → cs_T → Prop) (S : cs_T) (v1 : Nat) (v2 : Nat) (v3 : Int32) (v4 : Int32) (v5 : Int32) : Prop :=
  vp_in (v4 + 1) (Ln 1) ∧ (((S.2.1 1 (v4 + 1).toNatClampNeg) ≤ v5 → ∀ v4_3 : Int32, v4_3 = v4 + 1 → K9 S v1 v2 v3 v4_3) ∧ (¬ (S.2.1 1 (v4 + 1).toNatClampNeg) ≤ v5 → wp_X1_spell Ln S v5 v4 (fun (S4 : cs_T) => v2 < 47 ∧ vp_in v5 (Ln v2) ∧ wp_X1_headLength Ln (cs_sI S4 v2 v5.toNatClampNeg ((-1))) 0 v4 (fun (r8 : Int32) (S7 : cs_T) => ((¬ r8 = v4 → wp_X1_findChiefs_96 Ln K9 K41 Q S7 v1 v2 v3 v4 v5) ∧ (r8 = v4 → v1 < 47 ∧ vp_in v3 (Ln v1) ∧ vp_in v5 (Ln v2) ∧ ∀ v3_12 : Int32, v3_12 = v3 + 1 → wp_X1_findChiefs_96 Ln K9 K41 Q (cs_sI (cs_sI S7 v1 v3.toNatClampNeg v5) v2 v5.toNatClampNeg v3) v1 v2 v3_12 v4 v5))))))
def wp_X1_findChiefs_41 (Ln : Nat → Nat) (K9 : cs_T → Nat → Nat → Int32 → Int32 → Prop) (Q : Int32 → cs_T → Prop) : Nat → cs_T → Nat → Nat → Int32 → Int32 → Int32 → Prop
  | 0 => fun _ _ _ _ _ _ => False
  | n + 1 => fun S v1 v2 v3 v4 v5 => wb_X1_findChiefs_41 Ln K9 (wp_X1_findChiefs_41 Ln K9 Q n) Q S v1 v2 v3 v4 v5
def wb_X1_findChiefs_9 (Ln : Nat → Nat)  (K9 : cs_T → Nat → Nat → Int32 → Int32 → Prop) (Q : Int32 → cs_T → Prop) (S : cs_T) (v1 : Nat) (v2 : Nat) (v3 : Int32) (v4 : Int32) : Prop :=
  (((S.1 3) < v4 → vp_in ((S.1 3) + 1) (Ln 36) ∧ Q v3 (cs_sI S 36 ((S.1 3) + 1).toNatClampNeg v3)) ∧ (¬ (S.1 3) < v4 → vp_in v4 (Ln 36) ∧ vp_in v4 (Ln 1) ∧ ∀ v5_16 : Int32, v5_16 = (cs_sI S 36 v4.toNatClampNeg v3).2.1 1 v4.toNatClampNeg → ∃ n : Nat, wp_X1_findChiefs_41 Ln K9 Q n (cs_sI S 36 v4.toNatClampNeg v3) v1 v2 v3 v4 v5_16))
def wp_X1_findChiefs_9 (Ln : Nat → Nat)  (Q : Int32 → cs_T → Prop) : Nat → cs_T → Nat → Nat → Int32 → Int32 → Prop
  | 0 => fun _ _ _ _ _ => False
  | n + 1 => fun S v1 v2 v3 v4 => wb_X1_findChiefs_9 Ln (wp_X1_findChiefs_9 Ln Q n) Q S v1 v2 v3 v4
def wp_X1_findChiefs (Ln : Nat → Nat) (S : cs_T) (a1 : Nat) (a2 : Nat) (Q : Int32 → cs_T → Prop) : Prop :=
  a2 < 47 ∧ vp_in ((0 : Int32)) (Ln a2) ∧ ∃ n : Nat, wp_X1_findChiefs_9 Ln Q n (cs_sI S a2 ((0 : Int32)).toNatClampNeg ((-1))) a1 a2 0 1
def wp_X1_findSides_143 (Ln : Nat → Nat) (K51 : cs_T → Int32 → Nat → Int32 → Int32 → Int32 → Prop) (Q : cs_T → Prop) (S : cs_T) (v1 : Int32) (v2 : Nat) (v3 : Int32) (v4 : Int32) (v5 : Int32) : Prop :=
  ∀ v5_1 : Int32, v5_1 = v5 + (-1) → K51 S v1 v2 v3 v4 v5_1
def wb_X1_findSides_51 (Ln : Nat → Nat)  (K51 : cs_T → Int32 → Nat → Int32 → Int32 → Int32 → Prop) (Q : cs_T → Prop) (S : cs_T) (v1 : Int32) (v2 : Nat) (v3 : Int32) (v4 : Int32) (v5 : Int32) : Prop :=
  ((v5 < 1 → Q S) ∧ (¬ v5 < 1 → vp_in v1 (Ln 35) ∧ ((¬ (S.2.1 35 v1.toNatClampNeg) = ((-1)) → Q S) ∧ ((S.2.1 35 v1.toNatClampNeg) = ((-1)) → vp_in v5 (Ln 1) ∧ vp_in v5 (Ln 0) ∧ ¬ (S.2.1 0 v5.toNatClampNeg) = 0 ∧ v2 < 47 ∧ vp_in ((S.2.1 1 v5.toNatClampNeg) + (xr_remI v4 (S.2.1 0 v5.toNatClampNeg))) (Ln v2) ∧ ∀ v6_8 : Int32, v6_8 = S.2.1 v2 ((S.2.1 1 v5.toNatClampNeg) + (xr_remI v4 (S.2.1 0 v5.toNatClampNeg))).toNatClampNeg → ((v6_8 = ((-1)) → wp_X1_findSides_143 Ln K51 Q S v1 v2 v3 v4 v5) ∧ (¬ v6_8 = ((-1)) → vp_in v1 (Ln 35) ∧ vp_in (v3 - v5) (Ln 1) ∧ vp_in v5 (Ln 0) ∧ ¬ ((cs_sI S 35 v1.toNatClampNeg v6_8).2.1 0 v5.toNatClampNeg) = 0 ∧ vp_in (((cs_sI S 35 v1.toNatClampNeg v6_8).2.1 1 (v3 - v5).toNatClampNeg) + (v4 / ((cs_sI S 35 v1.toNatClampNeg v6_8).2.1 0 v5.toNatClampNeg))) (Ln v2) ∧ vp_in v1 (Ln 34) ∧ wp_X1_findSides_143 Ln K51 Q (cs_sI (cs_sI S 35 v1.toNatClampNeg v6_8) 34 v1.toNatClampNeg ((cs_sI S 35 v1.toNatClampNeg v6_8).2.1 v2 (((cs_sI S 35 v1.toNatClampNeg v6_8).2.1 1 (v3 - v5).toNatClampNeg) + (v4 / ((cs_sI S 35 v1.toNatClampNeg v6_8).2.1 0 v5.toNatClampNeg))).toNatClampNeg)) v1 v2 v3 v4 v5))))))
def wp_X1_findSides_51 (Ln : Nat → Nat)  (Q : cs_T → Prop) : Nat → cs_T → Int32 → Nat → Int32 → Int32 → Int32 → Prop
  | 0 => fun _ _ _ _ _ _ => False
  | n + 1 => fun S v1 v2 v3 v4 v5 => wb_X1_findSides_51 Ln (wp_X1_findSides_51 Ln Q n) Q S v1 v2 v3 v4 v5
def wp_X1_findSides (Ln : Nat → Nat) (S : cs_T) (a1 : Int32) (a2 : Nat) (Q : cs_T → Prop) : Prop :=
  vp_in a1 (Ln 34) ∧ vp_in a1 (Ln 35) ∧ vp_in a1 (Ln 33) ∧ wp_X6_lengthOf Ln (cs_sI (cs_sI S 34 a1.toNatClampNeg ((-1))) 35 a1.toNatClampNeg ((-1))) ((cs_sI (cs_sI S 34 a1.toNatClampNeg ((-1))) 35 a1.toNatClampNeg ((-1))).2.1 33 a1.toNatClampNeg) (fun (r19 : Int32) (S18 : cs_T) => vp_in a1 (Ln 33) ∧ vp_in r19 (Ln 1) ∧ ∀ v4_22 : Int32, v4_22 = (S18.2.1 33 a1.toNatClampNeg) - (S18.2.1 1 r19.toNatClampNeg) → ∀ v5_23 : Int32, v5_23 = r19 - 1 → ∃ n : Nat, wp_X1_findSides_51 Ln Q n S18 a1 a2 r19 v4_22 v5_23)
def wp_X4_readBracket (R : cs_T → Int32 → (cs_T → Prop) → Prop) (Ln : Nat → Nat) (S : cs_T) (a1 : Int32) (Q : cs_T → Prop) : Prop :=
  wp_X4_opens Ln S 91 a1 (fun (r2 : Int32) (S1 : cs_T) => ((¬ r2 = 0 → wp_X4_wholeOf Ln S1 (a1 + 1) (fun (r4 : Nat) (S3 : cs_T) => R S3 (a1 + 1) (fun (S5 : cs_T) => wp_X4_goesOn Ln S5 44 (fun (r7 : Int32) (S6 : cs_T) => ((¬ r7 = 0 → wp_X4_leftOf Ln S6 a1 (fun (r9 : Nat) (S8 : cs_T) => wp_X0_copy Ln S8 r9 r4 (fun (S10 : cs_T) => R S10 (a1 + 1) (fun (S11 : cs_T) => wp_X4_goesOn Ln S11 93 (fun (r13 : Int32) (S12 : cs_T) => ((¬ r13 = 0 → wp_X4_leftOf Ln S12 a1 (fun (r15 : Nat) (S14 : cs_T) => wp_X0_commute Ln S14 r4 r15 r4 (fun (S16 : cs_T) => wp_X4_termOf Ln S16 a1 (fun (r18 : Nat) (S17 : cs_T) => wp_X4_termOf Ln S17 a1 (fun (r20 : Nat) (S19 : cs_T) => wp_X0_multiply Ln S19 r18 r20 r4 (fun (S21 : cs_T) => Q S21)))))) ∧ (r13 = 0 → Q S12))))))) ∧ (r7 = 0 → Q S6)))))) ∧ (r2 = 0 → Q S1)))
def wp_X4_readRound_117 (R : cs_T → Int32 → (cs_T → Prop) → Prop) (Ln : Nat → Nat)  (Q : cs_T → Prop) (S : cs_T) (v1 : Int32) (v3 : Nat) : Prop :=
  wp_X4_termOf Ln S v1 (fun (r2 : Nat) (S1 : cs_T) => wp_X4_termOf Ln S1 v1 (fun (r4 : Nat) (S3 : cs_T) => wp_X0_multiply Ln S3 r2 r4 v3 (fun (S5 : cs_T) => Q S5)))
def wp_X4_readRound_106 (R : cs_T → Int32 → (cs_T → Prop) → Prop) (Ln : Nat → Nat)  (Q : cs_T → Prop) (S : cs_T) (v1 : Int32) (v2 : Int32) (v3 : Nat) : Prop :=
  ((v2 = 40 → wp_X4_readRound_117 R Ln Q S v1 v3) ∧ (¬ v2 = 40 → wp_X4_readRound_117 R Ln Q (cs_sF S 8 1) v1 v3))
def wp_X4_readRound_81 (R : cs_T → Int32 → (cs_T → Prop) → Prop) (Ln : Nat → Nat)  (Q : cs_T → Prop) (S : cs_T) (v1 : Int32) (v2 : Int32) (v3 : Nat) : Prop :=
  ((¬ v2 = 76 → wp_X4_readRound_106 R Ln Q S v1 v2 v3) ∧ (v2 = 76 → v3 < 47 ∧ vp_in ((0 : Int32)) (Ln v3) ∧ ((¬ (S.2.1 v3 ((0 : Int32)).toNatClampNeg) = 1 → wp_X4_readRound_106 R Ln Q S v1 v2 v3) ∧ ((S.2.1 v3 ((0 : Int32)).toNatClampNeg) = 1 → wp_X0_unraise Ln S v3 v3 (fun (S8 : cs_T) => wp_X4_readRound_117 R Ln Q S8 v1 v3)))))
def wp_X4_readRound_21 (R : cs_T → Int32 → (cs_T → Prop) → Prop) (Ln : Nat → Nat)  (Q : cs_T → Prop) (S : cs_T) (v1 : Int32) (v2 : Int32) : Prop :=
  wp_X4_opens Ln S 40 v1 (fun (r10 : Int32) (S9 : cs_T) => ((¬ r10 = 0 → wp_X4_wholeOf Ln S9 (v1 + 1) (fun (r12 : Nat) (S11 : cs_T) => R S11 (v1 + 1) (fun (S13 : cs_T) => wp_X4_goesOn Ln S13 41 (fun (r15 : Int32) (S14 : cs_T) => ((¬ r15 = 0 → ((¬ v2 = 69 → wp_X4_readRound_81 R Ln Q S14 v1 v2 r12) ∧ (v2 = 69 → r12 < 47 ∧ vp_in ((0 : Int32)) (Ln r12) ∧ ((¬ (S14.2.1 r12 ((0 : Int32)).toNatClampNeg) = 0 → wp_X4_readRound_81 R Ln Q S14 v1 v2 r12) ∧ ((S14.2.1 r12 ((0 : Int32)).toNatClampNeg) = 0 → wp_X0_raise Ln S14 r12 r12 (fun (S18 : cs_T) => wp_X4_readRound_117 R Ln Q S18 v1 r12)))))) ∧ (r15 = 0 → Q S14)))))) ∧ (r10 = 0 → Q S9)))
def wp_X4_readRound (R : cs_T → Int32 → (cs_T → Prop) → Prop) (Ln : Nat → Nat) (S : cs_T) (a1 : Int32) (Q : cs_T → Prop) : Prop :=
  wp_X4_hand Ln S (fun (r20 : Int32) (S19 : cs_T) => ((r20 = 40 → wp_X4_readRound_21 R Ln Q S19 a1 r20) ∧ (¬ r20 = 40 → wp_X4_readRound_21 R Ln Q (cs_sF S19 6 ((S19.1 6) + 1)) a1 r20)))
def wp_X4_readFactor (R : cs_T → Int32 → (cs_T → Prop) → Prop) (Ln : Nat → Nat) (S : cs_T) (a1 : Int32) (Q : cs_T → Prop) : Prop :=
  wp_X4_hand Ln S (fun (r2 : Int32) (S1 : cs_T) => wp_X4_isDigit Ln S1 r2 (fun (r4 : Int32) (S3 : cs_T) => ((r4 = 0 → wp_X4_isLetter Ln S3 r2 (fun (r6 : Int32) (S5 : cs_T) => ((r6 = 0 → ((¬ r2 = 114 → ((¬ r2 = 91 → wp_X4_readRound R Ln S5 a1 (fun (S7 : cs_T) => Q S7)) ∧ (r2 = 91 → wp_X4_readBracket R Ln S5 a1 (fun (S8 : cs_T) => Q S8)))) ∧ (r2 = 114 → wp_X4_readSum Ln (cs_sF S5 6 ((S5.1 6) + 1)) a1 (fun (S9 : cs_T) => Q S9)))) ∧ (¬ r6 = 0 → wp_X4_termOf Ln (cs_sF S5 6 ((S5.1 6) + 1)) a1 (fun (r11 : Nat) (S10 : cs_T) => wp_X0_multiplyByLetter Ln S10 r11 (r2 - 97) (fun (S12 : cs_T) => Q S12)))))) ∧ (¬ r4 = 0 → wp_X4_termOf Ln S3 a1 (fun (r14 : Nat) (S13 : cs_T) => wp_X4_readNumber Ln S13 (fun (r16 : Int32) (S15 : cs_T) => wp_X0_scale Ln S15 r14 r16 (fun (S17 : cs_T) => Q S17)))))))
def wp_X4_readTerm_71 (R : cs_T → Int32 → (cs_T → Prop) → Prop) (Ln : Nat → Nat)  (Q : cs_T → Prop) (S : cs_T) (v1 : Int32) : Prop :=
  wp_X4_hand Ln S (fun (r2 : Int32) (S1 : cs_T) => ((¬ r2 = 47 → Q S1) ∧ (r2 = 47 → wp_X4_readDivisor Ln (cs_sF S1 6 ((S1.1 6) + 1)) v1 (fun (S3 : cs_T) => Q S3))))
def wb_X4_readTerm_35 (R : cs_T → Int32 → (cs_T → Prop) → Prop) (Ln : Nat → Nat)  (K35 : cs_T → Int32 → Int32 → Prop) (Q : cs_T → Prop) (S : cs_T) (v1 : Int32) (v2 : Int32) : Prop :=
  ((100 ≤ v2 → wp_X4_readTerm_71 R Ln Q S v1) ∧ (¬ 100 ≤ v2 → wp_X4_hand Ln S (fun (r5 : Int32) (S4 : cs_T) => wp_X4_beginsFactor Ln S4 r5 (fun (r7 : Int32) (S6 : cs_T) => ((r7 = 0 → wp_X4_readTerm_71 R Ln Q S6 v1) ∧ (¬ r7 = 0 → wp_X4_readFactor R Ln S6 v1 (fun (S8 : cs_T) => (((S8.1 7) < 0 → ∀ v2_9 : Int32, v2_9 = v2 + 1 → K35 S8 v1 v2_9) ∧ (¬ (S8.1 7) < 0 → Q S8)))))))))
def wp_X4_readTerm_35 (R : cs_T → Int32 → (cs_T → Prop) → Prop) (Ln : Nat → Nat)  (Q : cs_T → Prop) : Nat → cs_T → Int32 → Int32 → Prop
  | 0 => fun _ _ _ => False
  | n + 1 => fun S v1 v2 => wb_X4_readTerm_35 R Ln (wp_X4_readTerm_35 R Ln Q n) Q S v1 v2
def wp_X4_readTerm (R : cs_T → Int32 → (cs_T → Prop) → Prop) (Ln : Nat → Nat) (S : cs_T) (a1 : Int32) (Q : cs_T → Prop) : Prop :=
  wp_X4_termOf Ln S a1 (fun (r11 : Nat) (S10 : cs_T) => wp_X0_setToUnit Ln S10 r11 1 (fun (S12 : cs_T) => wp_X4_hand Ln S12 (fun (r14 : Int32) (S13 : cs_T) => wp_X4_beginsFactor Ln S13 r14 (fun (r16 : Int32) (S15 : cs_T) => ((¬ r16 = 0 → ∃ n : Nat, wp_X4_readTerm_35 R Ln Q n S15 a1 0) ∧ (r16 = 0 → Q (cs_sF S15 7 (S15.1 6))))))))
def wp_X4_readText_84 (R : cs_T → Int32 → (cs_T → Prop) → Prop) (Ln : Nat → Nat) (K16 : cs_T → Int32 → Nat → Int32 → Int32 → Prop) (Q : cs_T → Prop) (S : cs_T) (v1 : Int32) (v2 : Nat) (v4 : Int32) (s0 : Int32) : Prop :=
  ∀ v4_1 : Int32, v4_1 = v4 + 1 → K16 (cs_sF S 6 ((S.1 6) + 1)) v1 v2 s0 v4_1
def wp_X4_readText_71 (R : cs_T → Int32 → (cs_T → Prop) → Prop) (Ln : Nat → Nat) (K16 : cs_T → Int32 → Nat → Int32 → Int32 → Prop) (Q : cs_T → Prop) (S : cs_T) (v1 : Int32) (v2 : Nat) (v4 : Int32) (v5 : Int32) : Prop :=
  ((¬ v5 = 43 → wp_X4_readText_84 R Ln K16 Q S v1 v2 v4 2147483646) ∧ (v5 = 43 → wp_X4_readText_84 R Ln K16 Q S v1 v2 v4 1))
def wb_X4_readText_16 (R : cs_T → Int32 → (cs_T → Prop) → Prop) (Ln : Nat → Nat)  (K16 : cs_T → Int32 → Nat → Int32 → Int32 → Prop) (Q : cs_T → Prop) (S : cs_T) (v1 : Int32) (v2 : Nat) (v3 : Int32) (v4 : Int32) : Prop :=
  ((100 ≤ v4 → Q S) ∧ (¬ 100 ≤ v4 → wp_X4_readTerm R Ln S v1 (fun (S2 : cs_T) => (((S2.1 7) < 0 → wp_X4_termOf Ln S2 v1 (fun (r4 : Nat) (S3 : cs_T) => wp_X0_amass Ln S3 v2 r4 v3 (fun (S5 : cs_T) => wp_X4_hand Ln S5 (fun (r7 : Int32) (S6 : cs_T) => ((r7 = 43 → wp_X4_readText_71 R Ln K16 Q S6 v1 v2 v4 r7) ∧ (¬ r7 = 43 → ((r7 = 45 → wp_X4_readText_71 R Ln K16 Q S6 v1 v2 v4 r7) ∧ (¬ r7 = 45 → Q S6)))))))) ∧ (¬ (S2.1 7) < 0 → Q S2)))))
def wp_X4_readText_16 (R : cs_T → Int32 → (cs_T → Prop) → Prop) (Ln : Nat → Nat)  (Q : cs_T → Prop) : Nat → cs_T → Int32 → Nat → Int32 → Int32 → Prop
  | 0 => fun _ _ _ _ _ => False
  | n + 1 => fun S v1 v2 v3 v4 => wb_X4_readText_16 R Ln (wp_X4_readText_16 R Ln Q n) Q S v1 v2 v3 v4
def wq_X4_readText (R : cs_T → Int32 → (cs_T → Prop) → Prop) (Ln : Nat → Nat) (S : cs_T) (a1 : Int32) (Q : cs_T → Prop) : Prop :=
  wp_X4_wholeOf Ln S a1 (fun (r9 : Nat) (S8 : cs_T) => wp_J7_fill_53178 Ln S8 r9 0 (fun (S10 : cs_T) => ∃ n : Nat, wp_X4_readText_16 R Ln Q n S10 a1 r9 1 0))
def wp_X4_readText (Ln : Nat → Nat) : Nat → cs_T → Int32 → (cs_T → Prop) → Prop
  | 0 => fun _ _ _ => False
  | d + 1 => fun S a1 Q => wq_X4_readText (wp_X4_readText Ln d) Ln S a1 Q
def wp_X4_tell_46 (Ln : Nat → Nat)  (Q : Int32 → cs_T → Prop) (S : cs_T) (v1 : Nat) : Prop :=
  ((((cs_sF S 5 0).1 7) < 0 → ((((cs_sF S 5 0).1 8) = 0 → wp_X4_wholeOf Ln (cs_sF S 5 0) 0 (fun (r2 : Nat) (S1 : cs_T) => wp_X0_copy Ln S1 v1 r2 (fun (S3 : cs_T) => Q 0 S3))) ∧ (¬ ((cs_sF S 5 0).1 8) = 0 → Q ((-9)) (cs_sF S 5 0)))) ∧ (¬ ((cs_sF S 5 0).1 7) < 0 → Q (((-10)) - ((cs_sF S 5 0).1 7)) (cs_sF S 5 0)))
def wp_X4_tell (Ln : Nat → Nat) (S : cs_T) (a1 : Nat) (Q : Int32 → cs_T → Prop) : Prop :=
  wp_X4_readText Ln 8 (cs_sF (cs_sF (cs_sF S 6 0) 7 ((-1))) 8 0) 0 (fun (S4 : cs_T) => ((0 ≤ (S4.1 7) → wp_X4_tell_46 Ln Q S4 a1) ∧ (¬ 0 ≤ (S4.1 7) → (((S4.1 5) ≤ (S4.1 6) → wp_X4_tell_46 Ln Q S4 a1) ∧ (¬ (S4.1 5) ≤ (S4.1 6) → wp_X4_tell_46 Ln Q (cs_sF S4 7 (S4.1 6)) a1)))))
def wp_X7_read (Ln : Nat → Nat) (S : cs_T) (a1 : Int32) (Q : Int32 → cs_T → Prop) : Prop :=
  wp_X7_noSum a1 (fun r1 : Int32 => ((r1 = 0 → vp_in a1 8 ∧ wp_X4_tell Ln S (7 + a1.toNatClampNeg) (fun (r4 : Int32) (S3 : cs_T) => Q r4 S3)) ∧ (¬ r1 = 0 → Q ((-1)) S)))
abbrev rm_X4_readBracket (d : Nat) : Room := { frames := 3 + 6 * d, cells := 0, slots := 0, locals := 93 + 163 * d }
abbrev rm_X4_readRound (d : Nat) : Room := { frames := 3 + 6 * d, cells := 0, slots := 0, locals := 96 + 163 * d }
abbrev rm_X4_readFactor (d : Nat) : Room := { frames := 4 + 6 * d, cells := 0, slots := 0, locals := 119 + 163 * d }
abbrev rm_X4_readTerm (d : Nat) : Room := { frames := 5 + 6 * d, cells := 0, slots := 0, locals := 141 + 163 * d }
abbrev rm_X4_readText (d : Nat) : Room := { frames := 6 * d, cells := 0, slots := 0, locals := 163 * d }
