def wp_X8_in (a0 : Int64) (a2 : Int64) (a4 : Int64) (Q : Int32 → Prop) : Prop :=
  ((a0 < a2 → Q 0) ∧ (¬ a0 < a2 → ((a4 < a0 → Q 0) ∧ (¬ a4 < a0 → Q 1))))
def wp_X8_mod (a0 : Int64) (Q : Int64 → Prop) : Prop :=
  ∀ v2_1 : Int64, v2_1 = xr_remL a0 2147483647 → ((0 ≤ v2_1 → Q v2_1) ∧ (¬ 0 ≤ v2_1 → Q (v2_1 + 2147483647)))
def wp_X8_inverted_38 (K10 : Int64 → Int64 → Int64 → Prop) (Q : Int64 → Prop) (v4 : Int64) (v6 : Int64) (s0 : Int64) : Prop :=
  ∀ v4_1 : Int64, v4_1 = xr_remL (v4 * v4) 2147483647 → ∀ v6_2 : Int64, v6_2 = v6 >>> (((1 : Int32)).toInt64 &&& 63) → K10 s0 v4_1 v6_2
def wb_X8_inverted_10  (K10 : Int64 → Int64 → Int64 → Prop) (Q : Int64 → Prop) (v2 : Int64) (v4 : Int64) (v6 : Int64) : Prop :=
  ((v6 ≤ 0 → Q v2) ∧ (¬ v6 ≤ 0 → ((¬ (v6 &&& 1) = 1 → wp_X8_inverted_38 K10 Q v4 v6 v2) ∧ ((v6 &&& 1) = 1 → wp_X8_inverted_38 K10 Q v4 v6 (xr_remL (v2 * v4) 2147483647)))))
def wp_X8_inverted_10  (Q : Int64 → Prop) : Nat → Int64 → Int64 → Int64 → Prop
  | 0 => fun _ _ _ => False
  | n + 1 => fun v2 v4 v6 => wb_X8_inverted_10 (wp_X8_inverted_10 Q n) Q v2 v4 v6
def wp_X8_inverted (a0 : Int64) (Q : Int64 → Prop) : Prop :=
  ∃ n : Nat, wp_X8_inverted_10 Q n 1 a0 2147483645
def wp_X8_floorMod (a0 : Int32) (a1 : Int32) (Q : Int32 → Prop) : Prop :=
  ¬ a1 = 0 ∧ ¬ a1 = 0 ∧ Q (xr_remI ((xr_remI a0 a1) + a1) a1)
def wp_X8_letterAt (S : ms_T) (a1 : Int32) (a2 : Int32) (Q : Int32 → ms_T → Prop) : Prop :=
  vp_in a1 364 ∧ vp_in (S.2.1 2 a1.toNatClampNeg) 8 ∧ vp_in a1 364 ∧ vp_in (((S.2.1 2 a1.toNatClampNeg) - 1) - a2) 8 ∧ ¬ (S.2.1 0 (((S.2.1 2 a1.toNatClampNeg) - 1) - a2).toNatClampNeg) = 0 ∧ ¬ (S.1 0) = 0 ∧ Q (xr_remI ((a1 - (S.2.1 1 (S.2.1 2 a1.toNatClampNeg).toNatClampNeg)) / (S.2.1 0 (((S.2.1 2 a1.toNatClampNeg) - 1) - a2).toNatClampNeg)) (S.1 0)) S
def wp_X8_end (S : ms_T) (a1 : Int32) (a2 : Int32) (Q : Int32 → ms_T → Prop) : Prop :=
  vp_in a1 364 ∧ ∀ v3_2 : Int32, v3_2 = (S.2.1 2 a1.toNatClampNeg) - a2 → vp_in v3_2 8 ∧ vp_in a1 364 ∧ vp_in (S.2.1 2 a1.toNatClampNeg) 8 ∧ vp_in v3_2 8 ∧ ¬ (S.2.1 0 v3_2.toNatClampNeg) = 0 ∧ Q ((S.2.1 1 v3_2.toNatClampNeg) + (xr_remI (a1 - (S.2.1 1 (S.2.1 2 a1.toNatClampNeg).toNatClampNeg)) (S.2.1 0 v3_2.toNatClampNeg))) S
def wp_X8_beginning (S : ms_T) (a1 : Int32) (a2 : Int32) (Q : Int32 → ms_T → Prop) : Prop :=
  vp_in a2 8 ∧ vp_in a1 364 ∧ vp_in (S.2.1 2 a1.toNatClampNeg) 8 ∧ vp_in a1 364 ∧ vp_in ((S.2.1 2 a1.toNatClampNeg) - a2) 8 ∧ ¬ (S.2.1 0 ((S.2.1 2 a1.toNatClampNeg) - a2).toNatClampNeg) = 0 ∧ Q ((S.2.1 1 a2.toNatClampNeg) + ((a1 - (S.2.1 1 (S.2.1 2 a1.toNatClampNeg).toNatClampNeg)) / (S.2.1 0 ((S.2.1 2 a1.toNatClampNeg) - a2).toNatClampNeg))) S
def wp_X8_isAhead_59  (Q : Int32 → ms_T → Prop) (S : ms_T) (v1 : Int32) (v2 : Int32) : Prop :=
  vp_in v1 364 ∧ vp_in v2 364 ∧ (((S.2.1 2 v2.toNatClampNeg) ≤ (S.2.1 2 v1.toNatClampNeg) → Q 0 S) ∧ (¬ (S.2.1 2 v2.toNatClampNeg) ≤ (S.2.1 2 v1.toNatClampNeg) → Q 1 S))
def wb_X8_isAhead_2  (K2 : ms_T → Int32 → Int32 → Int32 → Prop) (Q : Int32 → ms_T → Prop) (S : ms_T) (v1 : Int32) (v2 : Int32) (v3 : Int32) : Prop :=
  vp_in v1 364 ∧ (((S.2.1 2 v1.toNatClampNeg) ≤ v3 → wp_X8_isAhead_59 Q S v1 v2) ∧ (¬ (S.2.1 2 v1.toNatClampNeg) ≤ v3 → vp_in v2 364 ∧ (((S.2.1 2 v2.toNatClampNeg) ≤ v3 → wp_X8_isAhead_59 Q S v1 v2) ∧ (¬ (S.2.1 2 v2.toNatClampNeg) ≤ v3 → wp_X8_letterAt S v1 v3 (fun (r6 : Int32) (S5 : ms_T) => wp_X8_letterAt S5 v2 v3 (fun (r8 : Int32) (S7 : ms_T) => ∀ v4_9 : Int32, v4_9 = r6 - r8 → ((v4_9 = 0 → ∀ v3_10 : Int32, v3_10 = v3 + 1 → K2 S7 v1 v2 v3_10) ∧ (¬ v4_9 = 0 → ((0 ≤ v4_9 → Q 0 S7) ∧ (¬ 0 ≤ v4_9 → Q 1 S7))))))))))
def wp_X8_isAhead_2  (Q : Int32 → ms_T → Prop) : Nat → ms_T → Int32 → Int32 → Int32 → Prop
  | 0 => fun _ _ _ _ => False
  | n + 1 => fun S v1 v2 v3 => wb_X8_isAhead_2 (wp_X8_isAhead_2 Q n) Q S v1 v2 v3
def wp_X8_isAhead (S : ms_T) (a1 : Int32) (a2 : Int32) (Q : Int32 → ms_T → Prop) : Prop :=
  ∃ n : Nat, wp_X8_isAhead_2 Q n S a1 a2 0
def wb_X8_isChief_2  (K2 : ms_T → Int32 → Int32 → Prop) (Q : Int32 → ms_T → Prop) (S : ms_T) (v1 : Int32) (v2 : Int32) : Prop :=
  vp_in v1 364 ∧ (((S.2.1 2 v1.toNatClampNeg) ≤ v2 → Q 1 S) ∧ (¬ (S.2.1 2 v1.toNatClampNeg) ≤ v2 → wp_X8_end S v1 v2 (fun (r3 : Int32) (S2 : ms_T) => wp_X8_isAhead S2 v1 r3 (fun (r5 : Int32) (S4 : ms_T) => ((¬ r5 = 0 → ∀ v2_6 : Int32, v2_6 = v2 + 1 → K2 S4 v1 v2_6) ∧ (r5 = 0 → Q 0 S4))))))
def wp_X8_isChief_2  (Q : Int32 → ms_T → Prop) : Nat → ms_T → Int32 → Int32 → Prop
  | 0 => fun _ _ _ => False
  | n + 1 => fun S v1 v2 => wb_X8_isChief_2 (wp_X8_isChief_2 Q n) Q S v1 v2
def wp_X8_isChief (S : ms_T) (a1 : Int32) (Q : Int32 → ms_T → Prop) : Prop :=
  ∃ n : Nat, wp_X8_isChief_2 Q n S a1 1
def wb_X8_brackets_3  (K3 : ms_T → Int32 → Int32 → Int32 → Int32 → Int32 → Int32 → Prop) (Q : ms_T → Prop) (S : ms_T) (v1 : Int32) (v2 : Int32) (v3 : Int32) (v4 : Int32) (v5 : Int32) (v6 : Int32) : Prop :=
  vp_in (v3 + v5) 8 ∧ (((S.2.1 0 (v3 + v5).toNatClampNeg) ≤ v6 → Q S) ∧ (¬ (S.2.1 0 (v3 + v5).toNatClampNeg) ≤ v6 → vp_in v5 8 ∧ ¬ (S.2.1 0 v5.toNatClampNeg) = 0 ∧ vp_in (v2 + (v6 / (S.2.1 0 v5.toNatClampNeg))) 25600 ∧ vp_in v5 8 ∧ ¬ (S.2.1 0 v5.toNatClampNeg) = 0 ∧ vp_in (v4 + (xr_remI v6 (S.2.1 0 v5.toNatClampNeg))) 25600 ∧ ∀ v7_8 : Int64, v7_8 = xr_remL ((S.2.2 1 (v2 + (v6 / (S.2.1 0 v5.toNatClampNeg))).toNatClampNeg) * (S.2.2 1 (v4 + (xr_remI v6 (S.2.1 0 v5.toNatClampNeg))).toNatClampNeg)) 2147483647 → vp_in v3 8 ∧ ¬ (S.2.1 0 v3.toNatClampNeg) = 0 ∧ vp_in (v4 + (v6 / (S.2.1 0 v3.toNatClampNeg))) 25600 ∧ vp_in v3 8 ∧ ¬ (S.2.1 0 v3.toNatClampNeg) = 0 ∧ vp_in (v2 + (xr_remI v6 (S.2.1 0 v3.toNatClampNeg))) 25600 ∧ ∀ v9_15 : Int64, v9_15 = xr_remL ((S.2.2 1 (v4 + (v6 / (S.2.1 0 v3.toNatClampNeg))).toNatClampNeg) * (S.2.2 1 (v2 + (xr_remI v6 (S.2.1 0 v3.toNatClampNeg))).toNatClampNeg)) 2147483647 → wp_X8_mod (v7_8 - v9_15) (fun r16 : Int64 => vp_in (v1 + v6) 25600 ∧ ∀ v6_18 : Int32, v6_18 = v6 + 1 → K3 (ms_sJ S 1 (v1 + v6).toNatClampNeg r16) v1 v2 v3 v4 v5 v6_18)))
def wp_X8_brackets_3  (Q : ms_T → Prop) : Nat → ms_T → Int32 → Int32 → Int32 → Int32 → Int32 → Int32 → Prop
  | 0 => fun _ _ _ _ _ _ _ => False
  | n + 1 => fun S v1 v2 v3 v4 v5 v6 => wb_X8_brackets_3 (wp_X8_brackets_3 Q n) Q S v1 v2 v3 v4 v5 v6
def wp_X8_brackets (S : ms_T) (a1 : Int32) (a2 : Int32) (a3 : Int32) (a4 : Int32) (a5 : Int32) (Q : ms_T → Prop) : Prop :=
  ∃ n : Nat, wp_X8_brackets_3 Q n S a1 a2 a3 a4 a5 0
def wb_X8_comes_86  (K86 : ms_T → Int32 → Int32 → Int32 → Int32 → Prop) (Q : ms_T → Prop) (S : ms_T) (v1 : Int32) (v2 : Int32) (v3 : Int32) (v4 : Int32) : Prop :=
  wp_X8_end S v1 v4 (fun (r2 : Int32) (S1 : ms_T) => wp_X8_isChief S1 r2 (fun (r4 : Int32) (S3 : ms_T) => ((¬ r4 = 0 → wp_X8_beginning S3 v1 v4 (fun (r6 : Int32) (S5 : ms_T) => vp_in r6 364 ∧ vp_in v3 100 ∧ wp_X8_end (ms_sI S5 4 v3.toNatClampNeg (S5.2.1 7 r6.toNatClampNeg)) v1 v4 (fun (r10 : Int32) (S9 : ms_T) => vp_in r10 364 ∧ vp_in v3 100 ∧ vp_in v3 100 ∧ vp_in ((ms_sI S9 5 v3.toNatClampNeg (S9.2.1 7 r10.toNatClampNeg)).2.1 4 v3.toNatClampNeg) 100 ∧ vp_in v3 100 ∧ vp_in ((ms_sI S9 5 v3.toNatClampNeg (S9.2.1 7 r10.toNatClampNeg)).2.1 5 v3.toNatClampNeg) 100 ∧ vp_in v3 100 ∧ vp_in v3 100 ∧ vp_in v3 100 ∧ wp_X8_brackets (ms_sI (ms_sI S9 5 v3.toNatClampNeg (S9.2.1 7 r10.toNatClampNeg)) 6 v3.toNatClampNeg ((((ms_sI S9 5 v3.toNatClampNeg (S9.2.1 7 r10.toNatClampNeg)).2.1 6 ((ms_sI S9 5 v3.toNatClampNeg (S9.2.1 7 r10.toNatClampNeg)).2.1 4 v3.toNatClampNeg).toNatClampNeg) + ((ms_sI S9 5 v3.toNatClampNeg (S9.2.1 7 r10.toNatClampNeg)).2.1 6 ((ms_sI S9 5 v3.toNatClampNeg (S9.2.1 7 r10.toNatClampNeg)).2.1 5 v3.toNatClampNeg).toNatClampNeg)) + 3)) (256 * v3) (256 * ((ms_sI (ms_sI S9 5 v3.toNatClampNeg (S9.2.1 7 r10.toNatClampNeg)) 6 v3.toNatClampNeg ((((ms_sI S9 5 v3.toNatClampNeg (S9.2.1 7 r10.toNatClampNeg)).2.1 6 ((ms_sI S9 5 v3.toNatClampNeg (S9.2.1 7 r10.toNatClampNeg)).2.1 4 v3.toNatClampNeg).toNatClampNeg) + ((ms_sI S9 5 v3.toNatClampNeg (S9.2.1 7 r10.toNatClampNeg)).2.1 6 ((ms_sI S9 5 v3.toNatClampNeg (S9.2.1 7 r10.toNatClampNeg)).2.1 5 v3.toNatClampNeg).toNatClampNeg)) + 3)).2.1 4 v3.toNatClampNeg)) v4 (256 * ((ms_sI (ms_sI S9 5 v3.toNatClampNeg (S9.2.1 7 r10.toNatClampNeg)) 6 v3.toNatClampNeg ((((ms_sI S9 5 v3.toNatClampNeg (S9.2.1 7 r10.toNatClampNeg)).2.1 6 ((ms_sI S9 5 v3.toNatClampNeg (S9.2.1 7 r10.toNatClampNeg)).2.1 4 v3.toNatClampNeg).toNatClampNeg) + ((ms_sI S9 5 v3.toNatClampNeg (S9.2.1 7 r10.toNatClampNeg)).2.1 6 ((ms_sI S9 5 v3.toNatClampNeg (S9.2.1 7 r10.toNatClampNeg)).2.1 5 v3.toNatClampNeg).toNatClampNeg)) + 3)).2.1 5 v3.toNatClampNeg)) (v2 - v4) (fun (S20 : ms_T) => Q S20)))) ∧ (r4 = 0 → ∀ v4_21 : Int32, v4_21 = v4 + 1 → K86 S3 v1 v2 v3 v4_21))))
def wp_X8_comes_86  (Q : ms_T → Prop) : Nat → ms_T → Int32 → Int32 → Int32 → Int32 → Prop
  | 0 => fun _ _ _ _ _ => False
  | n + 1 => fun S v1 v2 v3 v4 => wb_X8_comes_86 (wp_X8_comes_86 Q n) Q S v1 v2 v3 v4
def wp_X8_comes (S : ms_T) (a1 : Int32) (Q : ms_T → Prop) : Prop :=
  vp_in a1 364 ∧ ∀ v2_23 : Int32, v2_23 = S.2.1 2 a1.toNatClampNeg → ∀ v3_24 : Int32, v3_24 = S.1 3 → vp_in v3_24 100 ∧ vp_in a1 364 ∧ vp_in v3_24 100 ∧ vp_in v3_24 100 ∧ vp_in v3_24 100 ∧ ((¬ v2_23 = 1 → ∃ n : Nat, wp_X8_comes_86 Q n (ms_sF (ms_sI (ms_sI (ms_sI (ms_sI (ms_sI S 3 v3_24.toNatClampNeg a1) 7 a1.toNatClampNeg v3_24) 4 v3_24.toNatClampNeg ((-1))) 5 v3_24.toNatClampNeg ((-1))) 6 v3_24.toNatClampNeg 1) 3 (((ms_sI (ms_sI (ms_sI (ms_sI (ms_sI S 3 v3_24.toNatClampNeg a1) 7 a1.toNatClampNeg v3_24) 4 v3_24.toNatClampNeg ((-1))) 5 v3_24.toNatClampNeg ((-1))) 6 v3_24.toNatClampNeg 1).1 3) + 1)) a1 v2_23 v3_24 1) ∧ (v2_23 = 1 → vp_in ((1 : Int32)) 8 ∧ vp_in (((256 * v3_24) + a1) - ((ms_sF (ms_sI (ms_sI (ms_sI (ms_sI (ms_sI S 3 v3_24.toNatClampNeg a1) 7 a1.toNatClampNeg v3_24) 4 v3_24.toNatClampNeg ((-1))) 5 v3_24.toNatClampNeg ((-1))) 6 v3_24.toNatClampNeg 1) 3 (((ms_sI (ms_sI (ms_sI (ms_sI (ms_sI S 3 v3_24.toNatClampNeg a1) 7 a1.toNatClampNeg v3_24) 4 v3_24.toNatClampNeg ((-1))) 5 v3_24.toNatClampNeg ((-1))) 6 v3_24.toNatClampNeg 1).1 3) + 1)).2.1 1 ((1 : Int32)).toNatClampNeg)) 25600 ∧ Q (ms_sJ (ms_sF (ms_sI (ms_sI (ms_sI (ms_sI (ms_sI S 3 v3_24.toNatClampNeg a1) 7 a1.toNatClampNeg v3_24) 4 v3_24.toNatClampNeg ((-1))) 5 v3_24.toNatClampNeg ((-1))) 6 v3_24.toNatClampNeg 1) 3 (((ms_sI (ms_sI (ms_sI (ms_sI (ms_sI S 3 v3_24.toNatClampNeg a1) 7 a1.toNatClampNeg v3_24) 4 v3_24.toNatClampNeg ((-1))) 5 v3_24.toNatClampNeg ((-1))) 6 v3_24.toNatClampNeg 1).1 3) + 1)) 1 (((256 * v3_24) + a1) - ((ms_sF (ms_sI (ms_sI (ms_sI (ms_sI (ms_sI S 3 v3_24.toNatClampNeg a1) 7 a1.toNatClampNeg v3_24) 4 v3_24.toNatClampNeg ((-1))) 5 v3_24.toNatClampNeg ((-1))) 6 v3_24.toNatClampNeg 1) 3 (((ms_sI (ms_sI (ms_sI (ms_sI (ms_sI S 3 v3_24.toNatClampNeg a1) 7 a1.toNatClampNeg v3_24) 4 v3_24.toNatClampNeg ((-1))) 5 v3_24.toNatClampNeg ((-1))) 6 v3_24.toNatClampNeg 1).1 3) + 1)).2.1 1 ((1 : Int32)).toNatClampNeg)).toNatClampNeg 1)))
def wb_X8_wordOf_43  (K43 : ms_T → Int32 → Int32 → Int32 → Int32 → Prop) (Q : Int32 → ms_T → Prop) (S : ms_T) (v1 : Int32) (v2 : Int32) (v4 : Int32) (v5 : Int32) : Prop :=
  ((v5 < 0 → vp_in v2 8 ∧ Q ((S.2.1 1 v2.toNatClampNeg) + v4) S) ∧ (¬ v5 < 0 → ∀ v6_2 : Int32, v6_2 = (v1 >>> ((3 * v5) &&& 31)) &&& 7 → wp_X8_in v6_2.toInt64 1 ((S.1 0).toInt64) (fun r3 : Int32 => ((¬ r3 = 0 → ∀ v4_4 : Int32, v4_4 = (((S.1 0) * v4) + v6_2) - 1 → ∀ v5_5 : Int32, v5_5 = v5 + (-1) → K43 S v1 v2 v4_4 v5_5) ∧ (r3 = 0 → Q ((-1)) S)))))
def wp_X8_wordOf_43  (Q : Int32 → ms_T → Prop) : Nat → ms_T → Int32 → Int32 → Int32 → Int32 → Prop
  | 0 => fun _ _ _ _ _ => False
  | n + 1 => fun S v1 v2 v4 v5 => wb_X8_wordOf_43 (wp_X8_wordOf_43 Q n) Q S v1 v2 v4 v5
def wb_X8_wordOf_10  (K10 : ms_T → Int32 → Int32 → Int32 → Prop) (Q : Int32 → ms_T → Prop) (S : ms_T) (v1 : Int32) (v2 : Int32) (v3 : Int32) : Prop :=
  ((v3 ≤ 0 → ((v2 ≤ (S.1 1) → ∀ v5_6 : Int32, v5_6 = v2 - 1 → ∃ n : Nat, wp_X8_wordOf_43 Q n S v1 v2 0 v5_6) ∧ (¬ v2 ≤ (S.1 1) → Q ((-1)) S))) ∧ (¬ v3 ≤ 0 → ∀ v2_7 : Int32, v2_7 = v2 + 1 → ∀ v3_8 : Int32, v3_8 = v3 / 8 → K10 S v1 v2_7 v3_8))
def wp_X8_wordOf_10  (Q : Int32 → ms_T → Prop) : Nat → ms_T → Int32 → Int32 → Int32 → Prop
  | 0 => fun _ _ _ _ => False
  | n + 1 => fun S v1 v2 v3 => wb_X8_wordOf_10 (wp_X8_wordOf_10 Q n) Q S v1 v2 v3
def wp_X8_wordOf (S : ms_T) (a1 : Int32) (Q : Int32 → ms_T → Prop) : Prop :=
  ((0 ≤ a1 → ∃ n : Nat, wp_X8_wordOf_10 Q n S a1 0 a1) ∧ (¬ 0 ≤ a1 → Q ((-1)) S))
def wb_X8_codeOf_4  (K4 : ms_T → Int32 → Int32 → Int32 → Prop) (Q : Int32 → ms_T → Prop) (S : ms_T) (v1 : Int32) (v2 : Int32) (v3 : Int32) : Prop :=
  vp_in v1 364 ∧ (((S.2.1 2 v1.toNatClampNeg) ≤ v3 → Q v2 S) ∧ (¬ (S.2.1 2 v1.toNatClampNeg) ≤ v3 → wp_X8_letterAt S v1 v3 (fun (r3 : Int32) (S2 : ms_T) => ∀ v2_4 : Int32, v2_4 = ((8 * v2) + r3) + 1 → ∀ v3_5 : Int32, v3_5 = v3 + 1 → K4 S2 v1 v2_4 v3_5)))
def wp_X8_codeOf_4  (Q : Int32 → ms_T → Prop) : Nat → ms_T → Int32 → Int32 → Int32 → Prop
  | 0 => fun _ _ _ _ => False
  | n + 1 => fun S v1 v2 v3 => wb_X8_codeOf_4 (wp_X8_codeOf_4 Q n) Q S v1 v2 v3
def wp_X8_codeOf (S : ms_T) (a1 : Int32) (Q : Int32 → ms_T → Prop) : Prop :=
  ∃ n : Nat, wp_X8_codeOf_4 Q n S a1 0 0
def wp_X8_isSum (a0 : Int32) (Q : Int32 → Prop) : Prop :=
  wp_X8_in a0.toInt64 0 7 (fun r1 : Int32 => (xr_01 r1 ∧ Q r1))
def wb_X8_clears_2  (K2 : ms_T → Int32 → Int32 → Prop) (Q : ms_T → Prop) (S : ms_T) (v1 : Int32) (v2 : Int32) : Prop :=
  (((S.1 2) ≤ v2 → Q S) ∧ (¬ (S.1 2) ≤ v2 → vp_in ((364 * v1) + v2) 13104 ∧ ∀ v2_2 : Int32, v2_2 = v2 + 1 → K2 (ms_sJ S 0 ((364 * v1) + v2).toNatClampNeg 0) v1 v2_2))
def wp_X8_clears_2  (Q : ms_T → Prop) : Nat → ms_T → Int32 → Int32 → Prop
  | 0 => fun _ _ _ => False
  | n + 1 => fun S v1 v2 => wb_X8_clears_2 (wp_X8_clears_2 Q n) Q S v1 v2
def wp_X8_clears (S : ms_T) (a1 : Int32) (Q : ms_T → Prop) : Prop :=
  ∃ n : Nat, wp_X8_clears_2 Q n S a1 0
def wb_X8_copies_2  (K2 : ms_T → Int32 → Int32 → Int32 → Prop) (Q : ms_T → Prop) (S : ms_T) (v1 : Int32) (v2 : Int32) (v3 : Int32) : Prop :=
  (((S.1 2) ≤ v3 → Q S) ∧ (¬ (S.1 2) ≤ v3 → vp_in ((364 * v2) + v3) 13104 ∧ vp_in ((364 * v1) + v3) 13104 ∧ ∀ v3_3 : Int32, v3_3 = v3 + 1 → K2 (ms_sJ S 0 ((364 * v1) + v3).toNatClampNeg (S.2.2 0 ((364 * v2) + v3).toNatClampNeg)) v1 v2 v3_3))
def wp_X8_copies_2  (Q : ms_T → Prop) : Nat → ms_T → Int32 → Int32 → Int32 → Prop
  | 0 => fun _ _ _ _ => False
  | n + 1 => fun S v1 v2 v3 => wb_X8_copies_2 (wp_X8_copies_2 Q n) Q S v1 v2 v3
def wp_X8_copies (S : ms_T) (a1 : Int32) (a2 : Int32) (Q : ms_T → Prop) : Prop :=
  ∃ n : Nat, wp_X8_copies_2 Q n S a1 a2 0
def wb_X8_adds_3  (K3 : ms_T → Int32 → Int32 → Int64 → Int32 → Prop) (Q : ms_T → Prop) (S : ms_T) (v1 : Int32) (v2 : Int32) (v3 : Int64) (v5 : Int32) : Prop :=
  (((S.1 2) ≤ v5 → Q S) ∧ (¬ (S.1 2) ≤ v5 → vp_in ((364 * v1) + v5) 13104 ∧ vp_in ((364 * v2) + v5) 13104 ∧ vp_in ((364 * v1) + v5) 13104 ∧ ∀ v5_4 : Int32, v5_4 = v5 + 1 → K3 (ms_sJ S 0 ((364 * v1) + v5).toNatClampNeg (xr_remL ((S.2.2 0 ((364 * v1) + v5).toNatClampNeg) + ((S.2.2 0 ((364 * v2) + v5).toNatClampNeg) * v3)) 2147483647)) v1 v2 v3 v5_4))
def wp_X8_adds_3  (Q : ms_T → Prop) : Nat → ms_T → Int32 → Int32 → Int64 → Int32 → Prop
  | 0 => fun _ _ _ _ _ => False
  | n + 1 => fun S v1 v2 v3 v5 => wb_X8_adds_3 (wp_X8_adds_3 Q n) Q S v1 v2 v3 v5
def wp_X8_adds (S : ms_T) (a1 : Int32) (a2 : Int32) (a3 : Int64) (Q : ms_T → Prop) : Prop :=
  ∃ n : Nat, wp_X8_adds_3 Q n S a1 a2 a3 0
def wp_X8_ones (S : ms_T) (a1 : Int32) (Q : ms_T → Prop) : Prop :=
  wp_X8_clears S a1 (fun (S1 : ms_T) => vp_in (364 * a1) 13104 ∧ Q (ms_sJ S1 0 (364 * a1).toNatClampNeg 1))
def wb_X8_multiplies_23 (K8 : ms_T → Int32 → Int32 → Int32 → Int32 → Prop) (K23 : ms_T → Int32 → Int32 → Int32 → Int32 → Int64 → Int32 → Prop) (Q : ms_T → Prop) (S : ms_T) (v1 : Int32) (v2 : Int32) (v3 : Int32) (v4 : Int32) (v5 : Int64) (v7 : Int32) : Prop :=
  vp_in v4 364 ∧ (((S.2.1 2 v4.toNatClampNeg) < v7 → vp_in ((364 * v1) + v4) 13104 ∧ ∀ v4_3 : Int32, v4_3 = v4 + 1 → K8 (ms_sJ S 0 ((364 * v1) + v4).toNatClampNeg v5) v1 v2 v3 v4_3) ∧ (¬ (S.2.1 2 v4.toNatClampNeg) < v7 → wp_X8_beginning S v4 v7 (fun (r5 : Int32) (S4 : ms_T) => vp_in ((364 * v2) + r5) 13104 ∧ wp_X8_end S4 v4 v7 (fun (r8 : Int32) (S7 : ms_T) => vp_in ((364 * v3) + r8) 13104 ∧ ∀ v5_10 : Int64, v5_10 = xr_remL (v5 + ((S4.2.2 0 ((364 * v2) + r5).toNatClampNeg) * (S7.2.2 0 ((364 * v3) + r8).toNatClampNeg))) 2147483647 → ∀ v7_11 : Int32, v7_11 = v7 + 1 → K23 S7 v1 v2 v3 v4 v5_10 v7_11))))
def wp_X8_multiplies_23 (K8 : ms_T → Int32 → Int32 → Int32 → Int32 → Prop) (Q : ms_T → Prop) : Nat → ms_T → Int32 → Int32 → Int32 → Int32 → Int64 → Int32 → Prop
  | 0 => fun _ _ _ _ _ _ _ => False
  | n + 1 => fun S v1 v2 v3 v4 v5 v7 => wb_X8_multiplies_23 K8 (wp_X8_multiplies_23 K8 Q n) Q S v1 v2 v3 v4 v5 v7
def wb_X8_multiplies_8  (K8 : ms_T → Int32 → Int32 → Int32 → Int32 → Prop) (Q : ms_T → Prop) (S : ms_T) (v1 : Int32) (v2 : Int32) (v3 : Int32) (v4 : Int32) : Prop :=
  (((S.1 2) ≤ v4 → Q S) ∧ (¬ (S.1 2) ≤ v4 → ∃ n : Nat, wp_X8_multiplies_23 K8 Q n S v1 v2 v3 v4 0 0))
def wp_X8_multiplies_8  (Q : ms_T → Prop) : Nat → ms_T → Int32 → Int32 → Int32 → Int32 → Prop
  | 0 => fun _ _ _ _ _ => False
  | n + 1 => fun S v1 v2 v3 v4 => wb_X8_multiplies_8 (wp_X8_multiplies_8 Q n) Q S v1 v2 v3 v4
def wp_X8_multiplies (S : ms_T) (a1 : Int32) (a2 : Int32) (a3 : Int32) (Q : ms_T → Prop) : Prop :=
  wp_X8_clears S a1 (fun (S12 : ms_T) => ∃ n : Nat, wp_X8_multiplies_8 Q n S12 a1 a2 a3 0)
def wp_X8_series_153 (K52 : ms_T → Int32 → Int32 → Int64 → Int32 → Prop) (Q : ms_T → Prop) (S : ms_T) (v1 : Int32) (v3 : Int32) (v4 : Int64) (v6 : Int32) (s0 : Int32) (s1 : Int32) (s2 : Int64) : Prop :=
  wp_X8_adds S s0 s1 s2 (fun (S1 : ms_T) => ∀ v6_2 : Int32, v6_2 = v6 + 1 → K52 S1 v1 v3 v4 v6_2)
def wp_X8_series_142 (K52 : ms_T → Int32 → Int32 → Int64 → Int32 → Prop) (Q : ms_T → Prop) (S : ms_T) (v1 : Int32) (v3 : Int32) (v4 : Int64) (v6 : Int32) (s0 : Int32) (s1 : Int32) : Prop :=
  wp_X8_series_153 K52 Q S v1 v3 v4 v6 s0 s1 v4
def wp_X8_series_139 (K52 : ms_T → Int32 → Int32 → Int64 → Int32 → Prop) (Q : ms_T → Prop) (S : ms_T) (v1 : Int32) (v3 : Int32) (v4 : Int64) (v6 : Int32) (s0 : Int32) (s1 : Int32) (s2 : Int32) (s3 : Int32) : Prop :=
  ((¬ s2 = s3 → wp_X8_series_153 K52 Q S v1 v3 v4 v6 s0 s1 (2147483647 - v4)) ∧ (s2 = s3 → wp_X8_series_142 K52 Q S v1 v3 v4 v6 s0 s1))
def wp_X8_series_114 (K52 : ms_T → Int32 → Int32 → Int64 → Int32 → Prop) (Q : ms_T → Prop) (S : ms_T) (v1 : Int32) (v3 : Int32) (v6 : Int32) (s0 : Int64) : Prop :=
  ((v3 = 0 → wp_X8_series_142 K52 Q S v1 v3 s0 v6 11 10) ∧ (¬ v3 = 0 → ((¬ v3 = 1 → wp_X8_series_139 K52 Q S v1 v3 s0 v6 11 10 (xr_remI v6 2) 0) ∧ (v3 = 1 → wp_X8_series_139 K52 Q S v1 v3 s0 v6 11 10 (xr_remI v6 2) 1))))
def wb_X8_series_52  (K52 : ms_T → Int32 → Int32 → Int64 → Int32 → Prop) (Q : ms_T → Prop) (S : ms_T) (v1 : Int32) (v3 : Int32) (v4 : Int64) (v6 : Int32) : Prop :=
  (((S.1 1) < v6 → wp_X8_copies S v1 11 (fun (S3 : ms_T) => Q S3)) ∧ (¬ (S.1 1) < v6 → wp_X8_multiplies S 12 10 9 (fun (S4 : ms_T) => wp_X8_copies S4 10 12 (fun (S5 : ms_T) => ((¬ v3 = 0 → ((¬ v3 = 1 → wp_X8_series_114 K52 Q S5 v1 v3 v6 1) ∧ (v3 = 1 → wp_X8_inverted v6.toInt64 (fun r6 : Int64 => wp_X8_series_114 K52 Q S5 v1 v3 v6 r6)))) ∧ (v3 = 0 → wp_X8_inverted v6.toInt64 (fun r7 : Int64 => wp_X8_series_114 K52 Q S5 v1 v3 v6 (xr_remL (v4 * r7) 2147483647))))))))
def wp_X8_series_52  (Q : ms_T → Prop) : Nat → ms_T → Int32 → Int32 → Int64 → Int32 → Prop
  | 0 => fun _ _ _ _ _ => False
  | n + 1 => fun S v1 v3 v4 v6 => wb_X8_series_52 (wp_X8_series_52 Q n) Q S v1 v3 v4 v6
def wp_X8_series_45  (Q : ms_T → Prop) (S : ms_T) (v1 : Int32) (v3 : Int32) (s0 : Int32) (s1 : Int64) : Prop :=
  vp_in s0 13104 ∧ ∃ n : Nat, wp_X8_series_52 Q n (ms_sJ S 0 s0.toNatClampNeg s1) v1 v3 1 1
def wp_X8_series (S : ms_T) (a1 : Int32) (a2 : Int32) (a3 : Int32) (Q : ms_T → Prop) : Prop :=
  wp_X8_copies S 9 a2 (fun (S9 : ms_T) => vp_in ((3276 : Int32)) 13104 ∧ wp_X8_ones (ms_sJ S9 0 ((3276 : Int32)).toNatClampNeg 0) 10 (fun (S11 : ms_T) => wp_X8_clears S11 11 (fun (S12 : ms_T) => ((¬ a3 = 1 → wp_X8_series_45 Q S12 a1 a3 4004 1) ∧ (a3 = 1 → wp_X8_series_45 Q S12 a1 a3 4004 0)))))
def wp_X8_clear (S : ms_T) (a1 : Int32) (Q : Int32 → ms_T → Prop) : Prop :=
  wp_X8_isSum a1 (fun r1 : Int32 => ((¬ r1 = 0 → wp_X8_clears S a1 (fun (S2 : ms_T) => Q 0 S2)) ∧ (r1 = 0 → Q ((-1)) S)))
def wp_X8_isPart (a0 : Int32) (a1 : Int32) (Q : Int32 → Prop) : Prop :=
  wp_X8_in a0.toInt64 ((-9999)) 9999 (fun r1 : Int32 => ((r1 = 0 → Q 0) ∧ (¬ r1 = 0 → wp_X8_in a1.toInt64 1 9999 (fun r2 : Int32 => ((r2 = 0 → Q 0) ∧ (¬ r2 = 0 → Q 1))))))
def wp_X8_partOf (a0 : Int32) (a1 : Int32) (Q : Int64 → Prop) : Prop :=
  wp_X8_mod a0.toInt64 (fun r1 : Int64 => wp_X8_inverted a1.toInt64 (fun r2 : Int64 => Q (xr_remL (r1 * r2) 2147483647)))
def wp_X8_put (S : ms_T) (a1 : Int32) (a2 : Int32) (a3 : Int32) (a4 : Int32) (Q : Int32 → ms_T → Prop) : Prop :=
  wp_X8_wordOf S a2 (fun (r2 : Int32) (S1 : ms_T) => wp_X8_isSum a1 (fun r3 : Int32 => ((r3 = 0 → Q ((-1)) S1) ∧ (¬ r3 = 0 → ((¬ r2 = ((-1)) → wp_X8_isPart a3 a4 (fun r4 : Int32 => ((¬ r4 = 0 → wp_X8_partOf a3 a4 (fun r5 : Int64 => vp_in ((364 * a1) + r2) 13104 ∧ Q 0 (ms_sJ S1 0 ((364 * a1) + r2).toNatClampNeg r5))) ∧ (r4 = 0 → Q ((-2)) S1)))) ∧ (r2 = ((-1)) → Q ((-1)) S1))))))
def wp_X8_at (S : ms_T) (a1 : Int32) (a2 : Int32) (Q : Int32 → ms_T → Prop) : Prop :=
  wp_X8_wordOf S a2 (fun (r2 : Int32) (S1 : ms_T) => wp_X8_isSum a1 (fun r3 : Int32 => ((r3 = 0 → Q ((-1)) S1) ∧ (¬ r3 = 0 → ((r2 = ((-1)) → Q ((-1)) S1) ∧ (¬ r2 = ((-1)) → vp_in ((364 * a1) + r2) 13104 ∧ Q ((S1.2.2 0 ((364 * a1) + r2).toNatClampNeg).toInt32) S1))))))
def wb_X8_fraction_27  (K27 : ms_T → Int32 → Int32 → Int32 → Prop) (Q : Int32 → ms_T → Prop) (S : ms_T) (v1 : Int32) (v2 : Int32) (v3 : Int32) : Prop :=
  ((1000 < v3 → Q ((-2147483648)) S) ∧ (¬ 1000 < v3 → ∀ v4_1 : Int64, v4_1 = xr_remL (v1.toInt64 * v3.toInt64) 2147483647 → ((1000000 < v4_1 → ((v4_1 < 2146483647 → ∀ v3_2 : Int32, v3_2 = v3 + 1 → K27 S v1 v2 v3_2) ∧ (¬ v4_1 < 2146483647 → ((¬ v2 = 0 → Q v3 S) ∧ (v2 = 0 → Q ((v4_1 - 2147483647).toInt32) S))))) ∧ (¬ 1000000 < v4_1 → ((¬ v2 = 0 → Q v3 S) ∧ (v2 = 0 → Q v4_1.toInt32 S))))))
def wp_X8_fraction_27  (Q : Int32 → ms_T → Prop) : Nat → ms_T → Int32 → Int32 → Int32 → Prop
  | 0 => fun _ _ _ _ => False
  | n + 1 => fun S v1 v2 v3 => wb_X8_fraction_27 (wp_X8_fraction_27 Q n) Q S v1 v2 v3
def wp_X8_fraction (S : ms_T) (a1 : Int32) (a2 : Int32) (Q : Int32 → ms_T → Prop) : Prop :=
  wp_X8_in a1.toInt64 0 2147483646 (fun r3 : Int32 => ((r3 = 0 → Q ((-2147483648)) S) ∧ (¬ r3 = 0 → wp_X8_in a2.toInt64 0 1 (fun r4 : Int32 => ((¬ r4 = 0 → ∃ n : Nat, wp_X8_fraction_27 Q n S a1 a2 1) ∧ (r4 = 0 → Q ((-2147483648)) S))))))
def wp_X8_add (S : ms_T) (a1 : Int32) (a2 : Int32) (a3 : Int32) (a4 : Int32) (Q : Int32 → ms_T → Prop) : Prop :=
  wp_X8_isSum a1 (fun r1 : Int32 => ((r1 = 0 → Q ((-1)) S) ∧ (¬ r1 = 0 → wp_X8_isSum a2 (fun r2 : Int32 => ((¬ r2 = 0 → wp_X8_isPart a3 a4 (fun r3 : Int32 => ((¬ r3 = 0 → wp_X8_copies S 8 a2 (fun (S4 : ms_T) => wp_X8_partOf a3 a4 (fun r5 : Int64 => wp_X8_adds S4 a1 8 r5 (fun (S6 : ms_T) => Q 0 S6)))) ∧ (r3 = 0 → Q ((-2)) S)))) ∧ (r2 = 0 → Q ((-1)) S))))))
def wp_X8_areSums (S : ms_T) (a1 : Int32) (a2 : Int32) (a3 : Int32) (Q : Int32 → ms_T → Prop) : Prop :=
  wp_X8_isSum a1 (fun r1 : Int32 => ((r1 = 0 → Q 0 S) ∧ (¬ r1 = 0 → wp_X8_isSum a2 (fun r2 : Int32 => ((r2 = 0 → Q 0 S) ∧ (¬ r2 = 0 → wp_X8_isSum a3 (fun r3 : Int32 => ((r3 = 0 → Q 0 S) ∧ (¬ r3 = 0 → Q 1 S)))))))))
def wp_X8_times (S : ms_T) (a1 : Int32) (a2 : Int32) (a3 : Int32) (Q : Int32 → ms_T → Prop) : Prop :=
  wp_X8_areSums S a1 a2 a3 (fun (r2 : Int32) (S1 : ms_T) => ((¬ r2 = 0 → wp_X8_multiplies S1 8 a2 a3 (fun (S3 : ms_T) => wp_X8_copies S3 a1 8 (fun (S4 : ms_T) => Q 0 S4))) ∧ (r2 = 0 → Q ((-1)) S1)))
def wp_X8_bracketOf (S : ms_T) (a1 : Int32) (a2 : Int32) (a3 : Int32) (Q : ms_T → Prop) : Prop :=
  wp_X8_multiplies S 8 a2 a3 (fun (S1 : ms_T) => wp_X8_multiplies S1 9 a3 a2 (fun (S2 : ms_T) => wp_X8_adds S2 8 9 2147483646 (fun (S3 : ms_T) => wp_X8_copies S3 a1 8 (fun (S4 : ms_T) => Q S4))))
def wp_X8_bracket (S : ms_T) (a1 : Int32) (a2 : Int32) (a3 : Int32) (Q : Int32 → ms_T → Prop) : Prop :=
  wp_X8_areSums S a1 a2 a3 (fun (r2 : Int32) (S1 : ms_T) => ((¬ r2 = 0 → wp_X8_bracketOf S1 a1 a2 a3 (fun (S3 : ms_T) => Q 0 S3)) ∧ (r2 = 0 → Q ((-1)) S1)))
def wp_X8_shuffle_120 (K15 : ms_T → Int32 → Int32 → Int32 → Int32 → Prop) (K39 : ms_T → Int32 → Int32 → Int32 → Int32 → Int32 → Int64 → Int32 → Prop) (K60 : ms_T → Int32 → Int32 → Int32 → Int32 → Int32 → Int64 → Int32 → Int32 → Int32 → Int32 → Int32 → Prop) (Q : Int32 → ms_T → Prop) (S : ms_T) (v1 : Int32) (v2 : Int32) (v3 : Int32) (v4 : Int32) (v5 : Int32) (v6 : Int64) (v8 : Int32) (v9 : Int32) (v10 : Int32) (v11 : Int32) (v12 : Int32) : Prop :=
  ∀ v12_1 : Int32, v12_1 = v12 + 1 → K60 S v1 v2 v3 v4 v5 v6 v8 v9 v10 v11 v12_1
def wb_X8_shuffle_60 (K15 : ms_T → Int32 → Int32 → Int32 → Int32 → Prop) (K39 : ms_T → Int32 → Int32 → Int32 → Int32 → Int32 → Int64 → Int32 → Prop) (K60 : ms_T → Int32 → Int32 → Int32 → Int32 → Int32 → Int64 → Int32 → Int32 → Int32 → Int32 → Int32 → Prop) (Q : Int32 → ms_T → Prop) (S : ms_T) (v1 : Int32) (v2 : Int32) (v3 : Int32) (v4 : Int32) (v5 : Int32) (v6 : Int64) (v8 : Int32) (v9 : Int32) (v10 : Int32) (v11 : Int32) (v12 : Int32) : Prop :=
  ((v5 ≤ v12 → vp_in v11 8 ∧ vp_in (((364 * v2) + (S.2.1 1 v11.toNatClampNeg)) + v9) 13104 ∧ vp_in (v5 - v11) 8 ∧ vp_in (((364 * v3) + (S.2.1 1 (v5 - v11).toNatClampNeg)) + v10) 13104 ∧ ∀ v6_6 : Int64, v6_6 = xr_remL (v6 + ((S.2.2 0 (((364 * v2) + (S.2.1 1 v11.toNatClampNeg)) + v9).toNatClampNeg) * (S.2.2 0 (((364 * v3) + (S.2.1 1 (v5 - v11).toNatClampNeg)) + v10).toNatClampNeg))) 2147483647 → ∀ v8_7 : Int32, v8_7 = v8 + 1 → K39 S v1 v2 v3 v4 v5 v6_6 v8_7) ∧ (¬ v5 ≤ v12 → ((¬ ((v8 >>> (v12 &&& 31)) &&& 1) = 1 → wp_X8_letterAt S v4 v12 (fun (r9 : Int32) (S8 : ms_T) => ∀ v10_10 : Int32, v10_10 = ((S.1 0) * v10) + r9 → wp_X8_shuffle_120 K15 K39 K60 Q S8 v1 v2 v3 v4 v5 v6 v8 v9 v10_10 v11 v12)) ∧ (((v8 >>> (v12 &&& 31)) &&& 1) = 1 → wp_X8_letterAt S v4 v12 (fun (r12 : Int32) (S11 : ms_T) => ∀ v9_13 : Int32, v9_13 = ((S.1 0) * v9) + r12 → ∀ v11_14 : Int32, v11_14 = v11 + 1 → wp_X8_shuffle_120 K15 K39 K60 Q S11 v1 v2 v3 v4 v5 v6 v8 v9_13 v10 v11_14 v12)))))
def wp_X8_shuffle_60 (K15 : ms_T → Int32 → Int32 → Int32 → Int32 → Prop) (K39 : ms_T → Int32 → Int32 → Int32 → Int32 → Int32 → Int64 → Int32 → Prop) (Q : Int32 → ms_T → Prop) : Nat → ms_T → Int32 → Int32 → Int32 → Int32 → Int32 → Int64 → Int32 → Int32 → Int32 → Int32 → Int32 → Prop
  | 0 => fun _ _ _ _ _ _ _ _ _ _ _ _ => False
  | n + 1 => fun S v1 v2 v3 v4 v5 v6 v8 v9 v10 v11 v12 => wb_X8_shuffle_60 K15 K39 (wp_X8_shuffle_60 K15 K39 Q n) Q S v1 v2 v3 v4 v5 v6 v8 v9 v10 v11 v12
def wb_X8_shuffle_39 (K15 : ms_T → Int32 → Int32 → Int32 → Int32 → Prop) (K39 : ms_T → Int32 → Int32 → Int32 → Int32 → Int32 → Int64 → Int32 → Prop) (Q : Int32 → ms_T → Prop) (S : ms_T) (v1 : Int32) (v2 : Int32) (v3 : Int32) (v4 : Int32) (v5 : Int32) (v6 : Int64) (v8 : Int32) : Prop :=
  (((1 <<< (v5 &&& 31)) ≤ v8 → vp_in (2912 + v4) 13104 ∧ ∀ v4_16 : Int32, v4_16 = v4 + 1 → K15 (ms_sJ S 0 (2912 + v4).toNatClampNeg v6) v1 v2 v3 v4_16) ∧ (¬ (1 <<< (v5 &&& 31)) ≤ v8 → ∃ n : Nat, wp_X8_shuffle_60 K15 K39 Q n S v1 v2 v3 v4 v5 v6 v8 0 0 0 0))
def wp_X8_shuffle_39 (K15 : ms_T → Int32 → Int32 → Int32 → Int32 → Prop) (Q : Int32 → ms_T → Prop) : Nat → ms_T → Int32 → Int32 → Int32 → Int32 → Int32 → Int64 → Int32 → Prop
  | 0 => fun _ _ _ _ _ _ _ _ => False
  | n + 1 => fun S v1 v2 v3 v4 v5 v6 v8 => wb_X8_shuffle_39 K15 (wp_X8_shuffle_39 K15 Q n) Q S v1 v2 v3 v4 v5 v6 v8
def wb_X8_shuffle_15  (K15 : ms_T → Int32 → Int32 → Int32 → Int32 → Prop) (Q : Int32 → ms_T → Prop) (S : ms_T) (v1 : Int32) (v2 : Int32) (v3 : Int32) (v4 : Int32) : Prop :=
  (((S.1 2) ≤ v4 → wp_X8_copies S v1 8 (fun (S17 : ms_T) => Q 0 S17)) ∧ (¬ (S.1 2) ≤ v4 → vp_in v4 364 ∧ ∀ v5_19 : Int32, v5_19 = S.2.1 2 v4.toNatClampNeg → ∃ n : Nat, wp_X8_shuffle_39 K15 Q n S v1 v2 v3 v4 v5_19 0 0))
def wp_X8_shuffle_15  (Q : Int32 → ms_T → Prop) : Nat → ms_T → Int32 → Int32 → Int32 → Int32 → Prop
  | 0 => fun _ _ _ _ _ => False
  | n + 1 => fun S v1 v2 v3 v4 => wb_X8_shuffle_15 (wp_X8_shuffle_15 Q n) Q S v1 v2 v3 v4
def wp_X8_shuffle (S : ms_T) (a1 : Int32) (a2 : Int32) (a3 : Int32) (Q : Int32 → ms_T → Prop) : Prop :=
  wp_X8_areSums S a1 a2 a3 (fun (r21 : Int32) (S20 : ms_T) => ((¬ r21 = 0 → ∃ n : Nat, wp_X8_shuffle_15 Q n S20 a1 a2 a3 0) ∧ (r21 = 0 → Q ((-1)) S20)))
def wp_X8_turn_126 (K18 : ms_T → Int32 → Int32 → Int32 → Prop) (Q : Int32 → ms_T → Prop) (S : ms_T) (v1 : Int32) (v2 : Int32) (v3 : Int32) (s0 : Int32) (s1 : Int64) : Prop :=
  vp_in s0 13104 ∧ ∀ v3_2 : Int32, v3_2 = v3 + 1 → K18 (ms_sJ S 0 s0.toNatClampNeg s1) v1 v2 v3_2
def wb_X8_turn_39 (K18 : ms_T → Int32 → Int32 → Int32 → Prop) (K39 : ms_T → Int32 → Int32 → Int32 → Int32 → Int32 → Prop) (Q : Int32 → ms_T → Prop) (S : ms_T) (v1 : Int32) (v2 : Int32) (v3 : Int32) (v4 : Int32) (v5 : Int32) : Prop :=
  ((v5 < 0 → vp_in ((364 * v2) + v3) 13104 ∧ ∀ v5_4 : Int64, v5_4 = S.2.2 0 ((364 * v2) + v3).toNatClampNeg → vp_in v3 364 ∧ vp_in (S.2.1 2 v3.toNatClampNeg) 8 ∧ vp_in v3 364 ∧ ((¬ (xr_remI (S.2.1 2 v3.toNatClampNeg) 2) = 1 → wp_X8_turn_126 K18 Q S v1 v2 v3 ((2912 + (S.2.1 1 (S.2.1 2 v3.toNatClampNeg).toNatClampNeg)) + v4) v5_4) ∧ ((xr_remI (S.2.1 2 v3.toNatClampNeg) 2) = 1 → wp_X8_mod (-v5_4) (fun r8 : Int64 => wp_X8_turn_126 K18 Q S v1 v2 v3 ((2912 + (S.2.1 1 (S.2.1 2 v3.toNatClampNeg).toNatClampNeg)) + v4) r8)))) ∧ (¬ v5 < 0 → wp_X8_letterAt S v3 v5 (fun (r10 : Int32) (S9 : ms_T) => ∀ v4_11 : Int32, v4_11 = ((S.1 0) * v4) + r10 → ∀ v5_12 : Int32, v5_12 = v5 + (-1) → K39 S9 v1 v2 v3 v4_11 v5_12)))
def wp_X8_turn_39 (K18 : ms_T → Int32 → Int32 → Int32 → Prop) (Q : Int32 → ms_T → Prop) : Nat → ms_T → Int32 → Int32 → Int32 → Int32 → Int32 → Prop
  | 0 => fun _ _ _ _ _ _ => False
  | n + 1 => fun S v1 v2 v3 v4 v5 => wb_X8_turn_39 K18 (wp_X8_turn_39 K18 Q n) Q S v1 v2 v3 v4 v5
def wb_X8_turn_18  (K18 : ms_T → Int32 → Int32 → Int32 → Prop) (Q : Int32 → ms_T → Prop) (S : ms_T) (v1 : Int32) (v2 : Int32) (v3 : Int32) : Prop :=
  (((S.1 2) ≤ v3 → wp_X8_copies S v1 8 (fun (S13 : ms_T) => Q 0 S13)) ∧ (¬ (S.1 2) ≤ v3 → vp_in v3 364 ∧ ∀ v5_15 : Int32, v5_15 = (S.2.1 2 v3.toNatClampNeg) - 1 → ∃ n : Nat, wp_X8_turn_39 K18 Q n S v1 v2 v3 0 v5_15))
def wp_X8_turn_18  (Q : Int32 → ms_T → Prop) : Nat → ms_T → Int32 → Int32 → Int32 → Prop
  | 0 => fun _ _ _ _ => False
  | n + 1 => fun S v1 v2 v3 => wb_X8_turn_18 (wp_X8_turn_18 Q n) Q S v1 v2 v3
def wp_X8_turn (S : ms_T) (a1 : Int32) (a2 : Int32) (Q : Int32 → ms_T → Prop) : Prop :=
  wp_X8_isSum a1 (fun r16 : Int32 => ((r16 = 0 → Q ((-1)) S) ∧ (¬ r16 = 0 → wp_X8_isSum a2 (fun r17 : Int32 => ((¬ r17 = 0 → ∃ n : Nat, wp_X8_turn_18 Q n S a1 a2 0) ∧ (r17 = 0 → Q ((-1)) S))))))
def wp_X8_seriesOf_35  (Q : Int32 → ms_T → Prop) (S : ms_T) (v1 : Int32) (v2 : Int32) (v3 : Int32) (s0 : Int64) (s1 : Int64) : Prop :=
  ((s0 = s1 → wp_X8_series S v1 v2 v3 (fun (S1 : ms_T) => Q 0 S1)) ∧ (¬ s0 = s1 → Q ((-3)) S))
def wp_X8_seriesOf (S : ms_T) (a1 : Int32) (a2 : Int32) (a3 : Int32) (Q : Int32 → ms_T → Prop) : Prop :=
  wp_X8_isSum a1 (fun r2 : Int32 => ((r2 = 0 → Q ((-1)) S) ∧ (¬ r2 = 0 → wp_X8_isSum a2 (fun r3 : Int32 => ((¬ r3 = 0 → vp_in (364 * a2) 13104 ∧ ((¬ a3 = 0 → wp_X8_seriesOf_35 Q S a1 a2 a3 (S.2.2 0 (364 * a2).toNatClampNeg) 1) ∧ (a3 = 0 → wp_X8_seriesOf_35 Q S a1 a2 a3 (S.2.2 0 (364 * a2).toNatClampNeg) 0))) ∧ (r3 = 0 → Q ((-1)) S))))))
def wp_X8_exp (S : ms_T) (a1 : Int32) (a2 : Int32) (Q : Int32 → ms_T → Prop) : Prop :=
  wp_X8_seriesOf S a1 a2 0 (fun (r2 : Int32) (S1 : ms_T) => Q r2 S1)
def wp_X8_log (S : ms_T) (a1 : Int32) (a2 : Int32) (Q : Int32 → ms_T → Prop) : Prop :=
  wp_X8_seriesOf S a1 a2 1 (fun (r2 : Int32) (S1 : ms_T) => Q r2 S1)
def wp_X8_inverse (S : ms_T) (a1 : Int32) (a2 : Int32) (Q : Int32 → ms_T → Prop) : Prop :=
  wp_X8_seriesOf S a1 a2 2 (fun (r2 : Int32) (S1 : ms_T) => Q r2 S1)
def wp_X8_group (S : ms_T) (a1 : Int32) (a2 : Int32) (a3 : Int32) (Q : Int32 → ms_T → Prop) : Prop :=
  wp_X8_areSums S a1 a2 a3 (fun (r2 : Int32) (S1 : ms_T) => ((¬ r2 = 0 → vp_in (364 * a2) 13104 ∧ ((¬ (S1.2.2 0 (364 * a2).toNatClampNeg) = 0 → Q ((-3)) S1) ∧ ((S1.2.2 0 (364 * a2).toNatClampNeg) = 0 → vp_in (364 * a3) 13104 ∧ (((S1.2.2 0 (364 * a3).toNatClampNeg) = 0 → wp_X8_series S1 14 a2 0 (fun (S5 : ms_T) => wp_X8_series S5 15 a3 0 (fun (S6 : ms_T) => wp_X8_multiplies S6 16 14 15 (fun (S7 : ms_T) => wp_X8_series S7 a1 16 1 (fun (S8 : ms_T) => Q 0 S8))))) ∧ (¬ (S1.2.2 0 (364 * a3).toNatClampNeg) = 0 → Q ((-3)) S1))))) ∧ (r2 = 0 → Q ((-1)) S1)))
def wp_X8_isLetter (S : ms_T) (a1 : Int32) (Q : Int32 → ms_T → Prop) : Prop :=
  wp_X8_in a1.toInt64 0 (((S.1 0) - 1).toInt64) (fun r1 : Int32 => (xr_01 r1 ∧ Q r1 S))
def wb_X8_derives_65 (K48 : ms_T → Int32 → Int64 → Int32 → Int32 → Int32 → Int32 → Int32 → Prop) (K65 : ms_T → Int32 → Int64 → Int32 → Int32 → Int32 → Int32 → Int32 → Int32 → Prop) (Q : ms_T → Prop) (S : ms_T) (v2 : Int32) (v3 : Int64) (v5 : Int32) (v6 : Int32) (v7 : Int32) (v8 : Int32) (v9 : Int32) (v10 : Int32) : Prop :=
  vp_in v9 8 ∧ (((S.2.1 0 v9.toNatClampNeg) ≤ v10 → ∀ v9_2 : Int32, v9_2 = v9 + 1 → K48 S v2 v3 v5 v6 v7 v8 v9_2) ∧ (¬ (S.2.1 0 v9.toNatClampNeg) ≤ v10 → vp_in ((v2 + v9) + v7) 8 ∧ vp_in v9 8 ∧ vp_in v7 8 ∧ ∀ v11_6 : Int32, v11_6 = ((S.2.1 1 ((v2 + v9) + v7).toNatClampNeg) + (((v6 * (S.2.1 0 v9.toNatClampNeg)) + v10) * (S.2.1 0 v7.toNatClampNeg))) + v8 → vp_in (2912 + v11_6) 13104 ∧ vp_in v9 8 ∧ vp_in (((364 * v5) + (S.2.1 1 v9.toNatClampNeg)) + v10) 13104 ∧ vp_in (2912 + v11_6) 13104 ∧ ∀ v10_11 : Int32, v10_11 = v10 + 1 → K65 (ms_sJ S 0 (2912 + v11_6).toNatClampNeg (xr_remL ((S.2.2 0 (2912 + v11_6).toNatClampNeg) + (v3 * (S.2.2 0 (((364 * v5) + (S.2.1 1 v9.toNatClampNeg)) + v10).toNatClampNeg))) 2147483647)) v2 v3 v5 v6 v7 v8 v9 v10_11))
def wp_X8_derives_65 (K48 : ms_T → Int32 → Int64 → Int32 → Int32 → Int32 → Int32 → Int32 → Prop) (Q : ms_T → Prop) : Nat → ms_T → Int32 → Int64 → Int32 → Int32 → Int32 → Int32 → Int32 → Int32 → Prop
  | 0 => fun _ _ _ _ _ _ _ _ _ => False
  | n + 1 => fun S v2 v3 v5 v6 v7 v8 v9 v10 => wb_X8_derives_65 K48 (wp_X8_derives_65 K48 Q n) Q S v2 v3 v5 v6 v7 v8 v9 v10
def wb_X8_derives_48  (K48 : ms_T → Int32 → Int64 → Int32 → Int32 → Int32 → Int32 → Int32 → Prop) (Q : ms_T → Prop) (S : ms_T) (v2 : Int32) (v3 : Int64) (v5 : Int32) (v6 : Int32) (v7 : Int32) (v8 : Int32) (v9 : Int32) : Prop :=
  (((S.1 1) < ((v2 + v9) + v7) → Q S) ∧ (¬ (S.1 1) < ((v2 + v9) + v7) → ∃ n : Nat, wp_X8_derives_65 K48 Q n S v2 v3 v5 v6 v7 v8 v9 0))
def wp_X8_derives_48  (Q : ms_T → Prop) : Nat → ms_T → Int32 → Int64 → Int32 → Int32 → Int32 → Int32 → Int32 → Prop
  | 0 => fun _ _ _ _ _ _ _ _ => False
  | n + 1 => fun S v2 v3 v5 v6 v7 v8 v9 => wb_X8_derives_48 (wp_X8_derives_48 Q n) Q S v2 v3 v5 v6 v7 v8 v9
def wp_X8_derives (S : ms_T) (a1 : Int32) (a2 : Int32) (a3 : Int64) (a5 : Int32) (Q : ms_T → Prop) : Prop :=
  wp_X8_beginning S a1 a2 (fun (r13 : Int32) (S12 : ms_T) => vp_in a2 8 ∧ ∀ v6_15 : Int32, v6_15 = r13 - (S12.2.1 1 a2.toNatClampNeg) → vp_in a1 364 ∧ ∀ v7_17 : Int32, v7_17 = ((S12.2.1 2 a1.toNatClampNeg) - 1) - a2 → wp_X8_end S12 a1 (a2 + 1) (fun (r19 : Int32) (S18 : ms_T) => vp_in v7_17 8 ∧ ∀ v8_21 : Int32, v8_21 = r19 - (S18.2.1 1 v7_17.toNatClampNeg) → ∃ n : Nat, wp_X8_derives_48 Q n S18 a2 a3 a5 v6_15 v7_17 v8_21 0))
def wp_X8_derive_100 (K30 : ms_T → Int32 → Int32 → Int32 → Int32 → Int32 → Prop) (K57 : ms_T → Int32 → Int32 → Int32 → Int32 → Int32 → Int64 → Int32 → Prop) (Q : Int32 → ms_T → Prop) (S : ms_T) (v1 : Int32) (v2 : Int32) (v3 : Int32) (v4 : Int32) (v5 : Int32) (v6 : Int64) (v8 : Int32) : Prop :=
  ∀ v8_1 : Int32, v8_1 = v8 + 1 → K57 S v1 v2 v3 v4 v5 v6 v8_1
def wp_X8_derive_106 (K30 : ms_T → Int32 → Int32 → Int32 → Int32 → Int32 → Prop) (Q : Int32 → ms_T → Prop) (S : ms_T) (v1 : Int32) (v2 : Int32) (v3 : Int32) (v4 : Int32) (v5 : Int32) : Prop :=
  ∀ v5_2 : Int32, v5_2 = v5 + 1 → K30 S v1 v2 v3 v4 v5_2
def wb_X8_derive_57 (K30 : ms_T → Int32 → Int32 → Int32 → Int32 → Int32 → Prop) (K57 : ms_T → Int32 → Int32 → Int32 → Int32 → Int32 → Int64 → Int32 → Prop) (Q : Int32 → ms_T → Prop) (S : ms_T) (v1 : Int32) (v2 : Int32) (v3 : Int32) (v4 : Int32) (v5 : Int32) (v6 : Int64) (v8 : Int32) : Prop :=
  vp_in v5 364 ∧ (((S.2.1 2 v5.toNatClampNeg) ≤ v8 → wp_X8_derive_106 K30 Q S v1 v2 v3 v4 v5) ∧ (¬ (S.2.1 2 v5.toNatClampNeg) ≤ v8 → ((v6 = 0 → wp_X8_derive_106 K30 Q S v1 v2 v3 v4 v5) ∧ (¬ v6 = 0 → wp_X8_letterAt S v5 v8 (fun (r5 : Int32) (S4 : ms_T) => ((¬ r5 = v3 → wp_X8_derive_100 K30 K57 Q S4 v1 v2 v3 v4 v5 v6 v8) ∧ (r5 = v3 → wp_X8_derives S4 v5 v8 v6 v4 (fun (S6 : ms_T) => wp_X8_derive_100 K30 K57 Q S6 v1 v2 v3 v4 v5 v6 v8))))))))
def wp_X8_derive_57 (K30 : ms_T → Int32 → Int32 → Int32 → Int32 → Int32 → Prop) (Q : Int32 → ms_T → Prop) : Nat → ms_T → Int32 → Int32 → Int32 → Int32 → Int32 → Int64 → Int32 → Prop
  | 0 => fun _ _ _ _ _ _ _ _ => False
  | n + 1 => fun S v1 v2 v3 v4 v5 v6 v8 => wb_X8_derive_57 K30 (wp_X8_derive_57 K30 Q n) Q S v1 v2 v3 v4 v5 v6 v8
def wb_X8_derive_30  (K30 : ms_T → Int32 → Int32 → Int32 → Int32 → Int32 → Prop) (Q : Int32 → ms_T → Prop) (S : ms_T) (v1 : Int32) (v2 : Int32) (v3 : Int32) (v4 : Int32) (v5 : Int32) : Prop :=
  (((S.1 2) ≤ v5 → wp_X8_copies S v1 8 (fun (S7 : ms_T) => Q 0 S7)) ∧ (¬ (S.1 2) ≤ v5 → vp_in ((364 * v2) + v5) 13104 ∧ ∀ v6_9 : Int64, v6_9 = S.2.2 0 ((364 * v2) + v5).toNatClampNeg → ∃ n : Nat, wp_X8_derive_57 K30 Q n S v1 v2 v3 v4 v5 v6_9 0))
def wp_X8_derive_30  (Q : Int32 → ms_T → Prop) : Nat → ms_T → Int32 → Int32 → Int32 → Int32 → Int32 → Prop
  | 0 => fun _ _ _ _ _ _ => False
  | n + 1 => fun S v1 v2 v3 v4 v5 => wb_X8_derive_30 (wp_X8_derive_30 Q n) Q S v1 v2 v3 v4 v5
def wp_X8_derive (S : ms_T) (a1 : Int32) (a2 : Int32) (a3 : Int32) (a4 : Int32) (Q : Int32 → ms_T → Prop) : Prop :=
  wp_X8_areSums S a1 a2 a4 (fun (r11 : Int32) (S10 : ms_T) => ((r11 = 0 → Q ((-1)) S10) ∧ (¬ r11 = 0 → wp_X8_isLetter S10 a3 (fun (r13 : Int32) (S12 : ms_T) => ((¬ r13 = 0 → wp_X8_clears S12 8 (fun (S14 : ms_T) => ∃ n : Nat, wp_X8_derive_30 Q n S14 a1 a2 a3 a4 0)) ∧ (r13 = 0 → Q ((-1)) S12))))))
def wp_X8_replace_163 (K49 : ms_T → Int32 → Int32 → Int32 → Int32 → Int32 → Prop) (K85 : ms_T → Int32 → Int32 → Int32 → Int32 → Int32 → Int32 → Prop) (Q : Int32 → ms_T → Prop) (S : ms_T) (v1 : Int32) (v2 : Int32) (v3 : Int32) (v4 : Int32) (v5 : Int32) (v6 : Int32) : Prop :=
  wp_X8_copies S 9 10 (fun (S1 : ms_T) => ∀ v6_2 : Int32, v6_2 = v6 + 1 → K85 S1 v1 v2 v3 v4 v5 v6_2)
def wp_X8_replace_198 (K49 : ms_T → Int32 → Int32 → Int32 → Int32 → Int32 → Prop) (Q : Int32 → ms_T → Prop) (S : ms_T) (v1 : Int32) (v2 : Int32) (v3 : Int32) (v4 : Int32) (v5 : Int32) : Prop :=
  ∀ v5_3 : Int32, v5_3 = v5 + 1 → K49 S v1 v2 v3 v4 v5_3
def wb_X8_replace_85 (K49 : ms_T → Int32 → Int32 → Int32 → Int32 → Int32 → Prop) (K85 : ms_T → Int32 → Int32 → Int32 → Int32 → Int32 → Int32 → Prop) (Q : Int32 → ms_T → Prop) (S : ms_T) (v1 : Int32) (v2 : Int32) (v3 : Int32) (v4 : Int32) (v5 : Int32) (v6 : Int32) : Prop :=
  vp_in v5 364 ∧ (((S.2.1 2 v5.toNatClampNeg) ≤ v6 → vp_in ((364 * v2) + v5) 13104 ∧ wp_X8_adds S 8 9 (S.2.2 0 ((364 * v2) + v5).toNatClampNeg) (fun (S6 : ms_T) => wp_X8_replace_198 K49 Q S6 v1 v2 v3 v4 v5)) ∧ (¬ (S.2.1 2 v5.toNatClampNeg) ≤ v6 → wp_X8_letterAt S v5 v6 (fun (r8 : Int32) (S7 : ms_T) => ((¬ r8 = v3 → wp_X8_clears S7 11 (fun (S9 : ms_T) => vp_in ((1 : Int32)) 8 ∧ wp_X8_letterAt S9 v5 v6 (fun (r12 : Int32) (S11 : ms_T) => vp_in ((4004 + (S9.2.1 1 ((1 : Int32)).toNatClampNeg)) + r12) 13104 ∧ wp_X8_multiplies (ms_sJ S11 0 ((4004 + (S9.2.1 1 ((1 : Int32)).toNatClampNeg)) + r12).toNatClampNeg 1) 10 9 11 (fun (S14 : ms_T) => wp_X8_replace_163 K49 K85 Q S14 v1 v2 v3 v4 v5 v6)))) ∧ (r8 = v3 → wp_X8_multiplies S7 10 9 v4 (fun (S15 : ms_T) => wp_X8_replace_163 K49 K85 Q S15 v1 v2 v3 v4 v5 v6))))))
def wp_X8_replace_85 (K49 : ms_T → Int32 → Int32 → Int32 → Int32 → Int32 → Prop) (Q : Int32 → ms_T → Prop) : Nat → ms_T → Int32 → Int32 → Int32 → Int32 → Int32 → Int32 → Prop
  | 0 => fun _ _ _ _ _ _ _ => False
  | n + 1 => fun S v1 v2 v3 v4 v5 v6 => wb_X8_replace_85 K49 (wp_X8_replace_85 K49 Q n) Q S v1 v2 v3 v4 v5 v6
def wb_X8_replace_49  (K49 : ms_T → Int32 → Int32 → Int32 → Int32 → Int32 → Prop) (Q : Int32 → ms_T → Prop) (S : ms_T) (v1 : Int32) (v2 : Int32) (v3 : Int32) (v4 : Int32) (v5 : Int32) : Prop :=
  (((S.1 2) ≤ v5 → wp_X8_copies S v1 8 (fun (S16 : ms_T) => Q 0 S16)) ∧ (¬ (S.1 2) ≤ v5 → vp_in ((364 * v2) + v5) 13104 ∧ (((S.2.2 0 ((364 * v2) + v5).toNatClampNeg) = 0 → wp_X8_replace_198 K49 Q S v1 v2 v3 v4 v5) ∧ (¬ (S.2.2 0 ((364 * v2) + v5).toNatClampNeg) = 0 → wp_X8_ones S 9 (fun (S18 : ms_T) => ∃ n : Nat, wp_X8_replace_85 K49 Q n S18 v1 v2 v3 v4 v5 0)))))
def wp_X8_replace_49  (Q : Int32 → ms_T → Prop) : Nat → ms_T → Int32 → Int32 → Int32 → Int32 → Int32 → Prop
  | 0 => fun _ _ _ _ _ _ => False
  | n + 1 => fun S v1 v2 v3 v4 v5 => wb_X8_replace_49 (wp_X8_replace_49 Q n) Q S v1 v2 v3 v4 v5
def wp_X8_replace (S : ms_T) (a1 : Int32) (a2 : Int32) (a3 : Int32) (a4 : Int32) (Q : Int32 → ms_T → Prop) : Prop :=
  wp_X8_areSums S a1 a2 a4 (fun (r20 : Int32) (S19 : ms_T) => ((r20 = 0 → Q ((-1)) S19) ∧ (¬ r20 = 0 → wp_X8_isLetter S19 a3 (fun (r22 : Int32) (S21 : ms_T) => ((¬ r22 = 0 → vp_in (364 * a4) 13104 ∧ (((S21.2.2 0 (364 * a4).toNatClampNeg) = 0 → wp_X8_clears S21 8 (fun (S24 : ms_T) => ∃ n : Nat, wp_X8_replace_49 Q n S24 a1 a2 a3 a4 0)) ∧ (¬ (S21.2.2 0 (364 * a4).toNatClampNeg) = 0 → Q ((-3)) S21))) ∧ (r22 = 0 → Q ((-1)) S21))))))
def wp_X8_part_82 (K33 : ms_T → Int32 → Int32 → Int32 → Int32 → Prop) (Q : Int32 → ms_T → Prop) (S : ms_T) (v1 : Int32) (v2 : Int32) (v3 : Int32) (v4 : Int32) (s0 : Int32) (s1 : Int64) : Prop :=
  vp_in s0 13104 ∧ ∀ v4_2 : Int32, v4_2 = v4 + 1 → K33 (ms_sJ S 0 s0.toNatClampNeg s1) v1 v2 v3 v4_2
def wb_X8_part_33  (K33 : ms_T → Int32 → Int32 → Int32 → Int32 → Prop) (Q : Int32 → ms_T → Prop) (S : ms_T) (v1 : Int32) (v2 : Int32) (v3 : Int32) (v4 : Int32) : Prop :=
  (((S.1 2) ≤ v4 → Q 0 S) ∧ (¬ (S.1 2) ≤ v4 → vp_in v4 364 ∧ ((¬ (S.2.1 2 v4.toNatClampNeg) = v3 → wp_X8_part_82 K33 Q S v1 v2 v3 v4 ((364 * v1) + v4) 0) ∧ ((S.2.1 2 v4.toNatClampNeg) = v3 → vp_in ((364 * v2) + v4) 13104 ∧ wp_X8_part_82 K33 Q S v1 v2 v3 v4 ((364 * v1) + v4) (S.2.2 0 ((364 * v2) + v4).toNatClampNeg)))))
def wp_X8_part_33  (Q : Int32 → ms_T → Prop) : Nat → ms_T → Int32 → Int32 → Int32 → Int32 → Prop
  | 0 => fun _ _ _ _ _ => False
  | n + 1 => fun S v1 v2 v3 v4 => wb_X8_part_33 (wp_X8_part_33 Q n) Q S v1 v2 v3 v4
def wp_X8_part (S : ms_T) (a1 : Int32) (a2 : Int32) (a3 : Int32) (Q : Int32 → ms_T → Prop) : Prop :=
  wp_X8_isSum a1 (fun r5 : Int32 => ((r5 = 0 → Q ((-1)) S) ∧ (¬ r5 = 0 → wp_X8_isSum a2 (fun r6 : Int32 => ((r6 = 0 → Q ((-1)) S) ∧ (¬ r6 = 0 → wp_X8_in a3.toInt64 0 ((S.1 1).toInt64) (fun r7 : Int32 => ((¬ r7 = 0 → ∃ n : Nat, wp_X8_part_33 Q n S a1 a2 a3 0) ∧ (r7 = 0 → Q ((-1)) S)))))))))
def wb_X8_pair_21  (K21 : ms_T → Int32 → Int32 → Int64 → Int32 → Prop) (Q : Int32 → ms_T → Prop) (S : ms_T) (v1 : Int32) (v2 : Int32) (v3 : Int64) (v5 : Int32) : Prop :=
  (((S.1 2) ≤ v5 → Q v3.toInt32 S) ∧ (¬ (S.1 2) ≤ v5 → vp_in ((364 * v1) + v5) 13104 ∧ vp_in ((364 * v2) + v5) 13104 ∧ ∀ v3_3 : Int64, v3_3 = xr_remL (v3 + ((S.2.2 0 ((364 * v1) + v5).toNatClampNeg) * (S.2.2 0 ((364 * v2) + v5).toNatClampNeg))) 2147483647 → ∀ v5_4 : Int32, v5_4 = v5 + 1 → K21 S v1 v2 v3_3 v5_4))
def wp_X8_pair_21  (Q : Int32 → ms_T → Prop) : Nat → ms_T → Int32 → Int32 → Int64 → Int32 → Prop
  | 0 => fun _ _ _ _ _ => False
  | n + 1 => fun S v1 v2 v3 v5 => wb_X8_pair_21 (wp_X8_pair_21 Q n) Q S v1 v2 v3 v5
def wp_X8_pair (S : ms_T) (a1 : Int32) (a2 : Int32) (Q : Int32 → ms_T → Prop) : Prop :=
  wp_X8_isSum a1 (fun r5 : Int32 => ((r5 = 0 → Q ((-1)) S) ∧ (¬ r5 = 0 → wp_X8_isSum a2 (fun r6 : Int32 => ((¬ r6 = 0 → ∃ n : Nat, wp_X8_pair_21 Q n S a1 a2 0 0) ∧ (r6 = 0 → Q ((-1)) S))))))
def wp_X8_isNumber (S : ms_T) (a1 : Int32) (Q : Int32 → ms_T → Prop) : Prop :=
  wp_X8_in a1.toInt64 0 (((S.1 3) - 1).toInt64) (fun r1 : Int32 => (xr_01 r1 ∧ Q r1 S))
def wp_X8_lyndon (S : ms_T) (a1 : Int32) (Q : Int32 → ms_T → Prop) : Prop :=
  wp_X8_isNumber S a1 (fun (r2 : Int32) (S1 : ms_T) => ((r2 = 0 → Q ((-1)) S1) ∧ (¬ r2 = 0 → vp_in a1 100 ∧ wp_X8_codeOf S1 (S1.2.1 3 a1.toNatClampNeg) (fun (r5 : Int32) (S4 : ms_T) => Q r5 S4))))
def wp_X8_manyOf_33 (K4 : ms_T → Int32 → Int32 → Int32 → Prop) (Q : Int32 → ms_T → Prop) (S : ms_T) (v1 : Int32) (v3 : Int32) (s0 : Int32) (s1 : Int32) : Prop :=
  ∀ v2_1 : Int32, v2_1 = s0 + s1 → ∀ v3_2 : Int32, v3_2 = v3 + 1 → K4 S v1 v2_1 v3_2
def wb_X8_manyOf_4  (K4 : ms_T → Int32 → Int32 → Int32 → Prop) (Q : Int32 → ms_T → Prop) (S : ms_T) (v1 : Int32) (v2 : Int32) (v3 : Int32) : Prop :=
  (((S.1 3) ≤ v3 → Q v2 S) ∧ (¬ (S.1 3) ≤ v3 → vp_in v3 100 ∧ vp_in (S.2.1 3 v3.toNatClampNeg) 364 ∧ ((¬ (S.2.1 2 (S.2.1 3 v3.toNatClampNeg).toNatClampNeg) = v1 → wp_X8_manyOf_33 K4 Q S v1 v3 v2 0) ∧ ((S.2.1 2 (S.2.1 3 v3.toNatClampNeg).toNatClampNeg) = v1 → wp_X8_manyOf_33 K4 Q S v1 v3 v2 1))))
def wp_X8_manyOf_4  (Q : Int32 → ms_T → Prop) : Nat → ms_T → Int32 → Int32 → Int32 → Prop
  | 0 => fun _ _ _ _ => False
  | n + 1 => fun S v1 v2 v3 => wb_X8_manyOf_4 (wp_X8_manyOf_4 Q n) Q S v1 v2 v3
def wp_X8_manyOf (S : ms_T) (a1 : Int32) (Q : Int32 → ms_T → Prop) : Prop :=
  ∃ n : Nat, wp_X8_manyOf_4 Q n S a1 0 0
def wp_X8_lyndons (S : ms_T) (a1 : Int32) (Q : Int32 → ms_T → Prop) : Prop :=
  wp_X8_in a1.toInt64 1 ((S.1 1).toInt64) (fun r1 : Int32 => ((r1 = 0 → Q ((-1)) S) ∧ (¬ r1 = 0 → wp_X8_manyOf S a1 (fun (r3 : Int32) (S2 : ms_T) => Q r3 S2))))
def wp_X8_side (S : ms_T) (a1 : Int32) (a2 : Int32) (Q : Int32 → ms_T → Prop) : Prop :=
  wp_X8_isNumber S a1 (fun (r2 : Int32) (S1 : ms_T) => ((r2 = 0 → Q ((-1)) S1) ∧ (¬ r2 = 0 → wp_X8_in a2.toInt64 0 1 (fun r3 : Int32 => ((r3 = 0 → Q ((-1)) S1) ∧ (¬ r3 = 0 → ((¬ a2 = 0 → vp_in a1 100 ∧ Q (S1.2.1 5 a1.toNatClampNeg) S1) ∧ (a2 = 0 → vp_in a1 100 ∧ Q (S1.2.1 4 a1.toNatClampNeg) S1))))))))
def wb_X8_basis_37  (K37 : ms_T → Int32 → Int32 → Int32 → Int32 → Prop) (Q : Int32 → ms_T → Prop) (S : ms_T) (v1 : Int32) (v2 : Int32) (v3 : Int32) (v4 : Int32) : Prop :=
  vp_in v3 8 ∧ (((S.2.1 0 v3.toNatClampNeg) ≤ v4 → Q 0 S) ∧ (¬ (S.2.1 0 v3.toNatClampNeg) ≤ v4 → vp_in v3 8 ∧ vp_in ((256 * v2) + v4) 25600 ∧ vp_in (((364 * v1) + (S.2.1 1 v3.toNatClampNeg)) + v4) 13104 ∧ ∀ v4_5 : Int32, v4_5 = v4 + 1 → K37 (ms_sJ S 0 (((364 * v1) + (S.2.1 1 v3.toNatClampNeg)) + v4).toNatClampNeg (S.2.2 1 ((256 * v2) + v4).toNatClampNeg)) v1 v2 v3 v4_5))
def wp_X8_basis_37  (Q : Int32 → ms_T → Prop) : Nat → ms_T → Int32 → Int32 → Int32 → Int32 → Prop
  | 0 => fun _ _ _ _ _ => False
  | n + 1 => fun S v1 v2 v3 v4 => wb_X8_basis_37 (wp_X8_basis_37 Q n) Q S v1 v2 v3 v4
def wp_X8_basis (S : ms_T) (a1 : Int32) (a2 : Int32) (Q : Int32 → ms_T → Prop) : Prop :=
  wp_X8_isSum a1 (fun r6 : Int32 => ((r6 = 0 → Q ((-1)) S) ∧ (¬ r6 = 0 → wp_X8_isNumber S a2 (fun (r8 : Int32) (S7 : ms_T) => ((¬ r8 = 0 → wp_X8_clears S7 a1 (fun (S9 : ms_T) => vp_in a2 100 ∧ vp_in (S9.2.1 3 a2.toNatClampNeg) 364 ∧ ∀ v3_12 : Int32, v3_12 = S9.2.1 2 (S9.2.1 3 a2.toNatClampNeg).toNatClampNeg → ∃ n : Nat, wp_X8_basis_37 Q n S9 a1 a2 v3_12 0)) ∧ (r8 = 0 → Q ((-1)) S7))))))
def wp_X8_text_128 (K33 : ms_T → Int32 → Int32 → Prop) (Q : Int32 → ms_T → Prop) (S : ms_T) (v3 : Int32) (v4 : Int32) : Prop :=
  K33 S v3 v4
def wb_X8_text_33  (K33 : ms_T → Int32 → Int32 → Prop) (Q : Int32 → ms_T → Prop) (S : ms_T) (v3 : Int32) (v4 : Int32) : Prop :=
  vp_in v3 100 ∧ (((S.2.1 4 v3.toNatClampNeg) = ((-1)) → vp_in v3 100 ∧ vp_in ((1 : Int32)) 8 ∧ Q ((97 + (S.2.1 3 v3.toNatClampNeg)) - (S.2.1 1 ((1 : Int32)).toNatClampNeg)) S) ∧ (¬ (S.2.1 4 v3.toNatClampNeg) = ((-1)) → vp_in v3 100 ∧ vp_in (S.2.1 4 v3.toNatClampNeg) 100 ∧ ∀ v5_6 : Int32, v5_6 = S.2.1 6 (S.2.1 4 v3.toNatClampNeg).toNatClampNeg → ((¬ v4 = 0 → ((v5_6 < v4 → ((¬ v4 = (v5_6 + 1) → vp_in v3 100 ∧ ((¬ v4 = ((S.2.1 6 v3.toNatClampNeg) - 1) → ∀ v4_8 : Int32, v4_8 = v4 - (v5_6 + 2) → vp_in v3 100 ∧ ∀ v3_10 : Int32, v3_10 = S.2.1 5 v3.toNatClampNeg → wp_X8_text_128 K33 Q S v3_10 v4_8) ∧ (v4 = ((S.2.1 6 v3.toNatClampNeg) - 1) → Q 93 S))) ∧ (v4 = (v5_6 + 1) → Q 44 S))) ∧ (¬ v5_6 < v4 → vp_in v3 100 ∧ ∀ v3_12 : Int32, v3_12 = S.2.1 4 v3.toNatClampNeg → ∀ v4_13 : Int32, v4_13 = v4 + (-1) → wp_X8_text_128 K33 Q S v3_12 v4_13))) ∧ (v4 = 0 → Q 91 S))))
def wp_X8_text_33  (Q : Int32 → ms_T → Prop) : Nat → ms_T → Int32 → Int32 → Prop
  | 0 => fun _ _ _ => False
  | n + 1 => fun S v3 v4 => wb_X8_text_33 (wp_X8_text_33 Q n) Q S v3 v4
def wp_X8_text (S : ms_T) (a1 : Int32) (a2 : Int32) (Q : Int32 → ms_T → Prop) : Prop :=
  wp_X8_isNumber S a1 (fun (r15 : Int32) (S14 : ms_T) => ((r15 = 0 → Q ((-1)) S14) ∧ (¬ r15 = 0 → vp_in a1 100 ∧ wp_X8_in a2.toInt64 0 (((S14.2.1 6 a1.toNatClampNeg) - 1).toInt64) (fun r17 : Int32 => ((¬ r17 = 0 → ∃ n : Nat, wp_X8_text_33 Q n S14 a1 a2) ∧ (r17 = 0 → Q ((-1)) S14))))))
def wb_X8_isFirst_13  (K13 : ms_T → Int32 → Int32 → Prop) (Q : Int32 → ms_T → Prop) (S : ms_T) (v4 : Int32) (v5 : Int32) : Prop :=
  vp_in v4 364 ∧ (((S.2.1 2 v4.toNatClampNeg) < v5 → Q 1 S) ∧ (¬ (S.2.1 2 v4.toNatClampNeg) < v5 → wp_X8_beginning S v4 v5 (fun (r3 : Int32) (S2 : ms_T) => vp_in r3 364 ∧ (((S2.2.1 7 r3.toNatClampNeg) = ((-1)) → ∀ v5_5 : Int32, v5_5 = v5 + 1 → K13 S2 v4 v5_5) ∧ (¬ (S2.2.1 7 r3.toNatClampNeg) = ((-1)) → Q 0 S2)))))
def wp_X8_isFirst_13  (Q : Int32 → ms_T → Prop) : Nat → ms_T → Int32 → Int32 → Prop
  | 0 => fun _ _ _ => False
  | n + 1 => fun S v4 v5 => wb_X8_isFirst_13 (wp_X8_isFirst_13 Q n) Q S v4 v5
def wp_X8_isFirst (S : ms_T) (a1 : Int32) (a2 : Int32) (a3 : Int32) (Q : Int32 → ms_T → Prop) : Prop :=
  wp_X8_end S a1 a2 (fun (r7 : Int32) (S6 : ms_T) => ∀ v5_8 : Int32, v5_8 = a3 + 1 → ∃ n : Nat, wp_X8_isFirst_13 Q n S6 r7 v5_8)
def wp_X8_firstChief_51 (K9 : ms_T → Int32 → Int32 → Int32 → Prop) (Q : Int32 → ms_T → Prop) (S : ms_T) (v1 : Int32) (v2 : Int32) (v3 : Int32) : Prop :=
  ∀ v3_1 : Int32, v3_1 = v3 + (-1) → K9 S v1 v2 v3_1
def wb_X8_firstChief_9  (K9 : ms_T → Int32 → Int32 → Int32 → Prop) (Q : Int32 → ms_T → Prop) (S : ms_T) (v1 : Int32) (v2 : Int32) (v3 : Int32) : Prop :=
  wp_X8_end S v1 v2 (fun (r3 : Int32) (S2 : ms_T) => wp_X8_beginning S2 r3 v3 (fun (r5 : Int32) (S4 : ms_T) => vp_in r5 364 ∧ (((S4.2.1 7 r5.toNatClampNeg) = ((-1)) → wp_X8_firstChief_51 K9 Q S4 v1 v2 v3) ∧ (¬ (S4.2.1 7 r5.toNatClampNeg) = ((-1)) → vp_in v1 364 ∧ ((((S4.2.1 2 v1.toNatClampNeg) - v2) ≤ v3 → Q v3 S4) ∧ (¬ ((S4.2.1 2 v1.toNatClampNeg) - v2) ≤ v3 → wp_X8_isFirst S4 v1 v2 v3 (fun (r9 : Int32) (S8 : ms_T) => ((¬ r9 = 0 → Q v3 S8) ∧ (r9 = 0 → wp_X8_firstChief_51 K9 Q S8 v1 v2 v3)))))))))
def wp_X8_firstChief_9  (Q : Int32 → ms_T → Prop) : Nat → ms_T → Int32 → Int32 → Int32 → Prop
  | 0 => fun _ _ _ _ => False
  | n + 1 => fun S v1 v2 v3 => wb_X8_firstChief_9 (wp_X8_firstChief_9 Q n) Q S v1 v2 v3
def wp_X8_firstChief (S : ms_T) (a1 : Int32) (a2 : Int32) (Q : Int32 → ms_T → Prop) : Prop :=
  vp_in a1 364 ∧ ∀ v3_11 : Int32, v3_11 = (S.2.1 2 a1.toNatClampNeg) - a2 → ∃ n : Nat, wp_X8_firstChief_9 Q n S a1 a2 v3_11
def wb_X8_ordered_120 (K9 : ms_T → Int32 → Int32 → Prop) (K120 : ms_T → Int32 → Int32 → Int32 → Prop) (Q : ms_T → Prop) (S : ms_T) (v1 : Int32) (v2 : Int32) (v5 : Int32) : Prop :=
  vp_in v2 8 ∧ (((S.2.1 0 v2.toNatClampNeg) ≤ v5 → K9 S v1 v2) ∧ (¬ (S.2.1 0 v2.toNatClampNeg) ≤ v5 → vp_in v5 256 ∧ vp_in v5 256 ∧ ∀ v5_4 : Int32, v5_4 = v5 + 1 → K120 (ms_sJ S 2 v5.toNatClampNeg (S.2.2 3 v5.toNatClampNeg)) v1 v2 v5_4))
def wp_X8_ordered_120 (K9 : ms_T → Int32 → Int32 → Prop) (Q : ms_T → Prop) : Nat → ms_T → Int32 → Int32 → Int32 → Prop
  | 0 => fun _ _ _ _ => False
  | n + 1 => fun S v1 v2 v5 => wb_X8_ordered_120 K9 (wp_X8_ordered_120 K9 Q n) Q S v1 v2 v5
def wb_X8_ordered_47 (K9 : ms_T → Int32 → Int32 → Prop) (K47 : ms_T → Int32 → Int32 → Int32 → Int32 → Int32 → Prop) (Q : ms_T → Prop) (S : ms_T) (v1 : Int32) (v2 : Int32) (v3 : Int32) (v4 : Int32) (v5 : Int32) : Prop :=
  vp_in (v2 + v3) 8 ∧ (((S.2.1 0 (v2 + v3).toNatClampNeg) ≤ v5 → ∀ v2_6 : Int32, v2_6 = v2 + v3 → ∃ n : Nat, wp_X8_ordered_120 K9 Q n S v1 v2_6 0) ∧ (¬ (S.2.1 0 (v2 + v3).toNatClampNeg) ≤ v5 → vp_in v3 8 ∧ ¬ (S.2.1 0 v3.toNatClampNeg) = 0 ∧ vp_in (v5 / (S.2.1 0 v3.toNatClampNeg)) 256 ∧ vp_in v3 8 ∧ ¬ (S.2.1 0 v3.toNatClampNeg) = 0 ∧ vp_in ((256 * v4) + (xr_remI v5 (S.2.1 0 v3.toNatClampNeg))) 25600 ∧ vp_in v5 256 ∧ ∀ v5_14 : Int32, v5_14 = v5 + 1 → K47 (ms_sJ S 3 v5.toNatClampNeg (xr_remL ((S.2.2 2 (v5 / (S.2.1 0 v3.toNatClampNeg)).toNatClampNeg) * (S.2.2 1 ((256 * v4) + (xr_remI v5 (S.2.1 0 v3.toNatClampNeg))).toNatClampNeg)) 2147483647)) v1 v2 v3 v4 v5_14))
def wp_X8_ordered_47 (K9 : ms_T → Int32 → Int32 → Prop) (Q : ms_T → Prop) : Nat → ms_T → Int32 → Int32 → Int32 → Int32 → Int32 → Prop
  | 0 => fun _ _ _ _ _ _ => False
  | n + 1 => fun S v1 v2 v3 v4 v5 => wb_X8_ordered_47 K9 (wp_X8_ordered_47 K9 Q n) Q S v1 v2 v3 v4 v5
def wb_X8_ordered_9  (K9 : ms_T → Int32 → Int32 → Prop) (Q : ms_T → Prop) (S : ms_T) (v1 : Int32) (v2 : Int32) : Prop :=
  vp_in v1 364 ∧ (((S.2.1 2 v1.toNatClampNeg) ≤ v2 → Q S) ∧ (¬ (S.2.1 2 v1.toNatClampNeg) ≤ v2 → wp_X8_firstChief S v1 v2 (fun (r17 : Int32) (S16 : ms_T) => wp_X8_end S16 v1 v2 (fun (r19 : Int32) (S18 : ms_T) => wp_X8_beginning S18 r19 r17 (fun (r21 : Int32) (S20 : ms_T) => vp_in r21 364 ∧ ∀ v4_23 : Int32, v4_23 = S20.2.1 7 r21.toNatClampNeg → ∃ n : Nat, wp_X8_ordered_47 K9 Q n S20 v1 v2 r17 v4_23 0)))))
def wp_X8_ordered_9  (Q : ms_T → Prop) : Nat → ms_T → Int32 → Int32 → Prop
  | 0 => fun _ _ _ => False
  | n + 1 => fun S v1 v2 => wb_X8_ordered_9 (wp_X8_ordered_9 Q n) Q S v1 v2
def wp_X8_ordered (S : ms_T) (a1 : Int32) (Q : ms_T → Prop) : Prop :=
  vp_in ((0 : Int32)) 256 ∧ ∃ n : Nat, wp_X8_ordered_9 Q n (ms_sJ S 2 ((0 : Int32)).toNatClampNeg 1) a1 0
def wp_X8_shares_136 (K2 : ms_T → Int32 → Int32 → Prop) (Q : ms_T → Prop) (S : ms_T) (v1 : Int32) (v2 : Int32) : Prop :=
  ∀ v2_1 : Int32, v2_1 = v2 + 1 → K2 S v1 v2_1
def wb_X8_shares_55 (K2 : ms_T → Int32 → Int32 → Prop) (K55 : ms_T → Int32 → Int32 → Int64 → Int32 → Int32 → Prop) (Q : ms_T → Prop) (S : ms_T) (v1 : Int32) (v2 : Int32) (v3 : Int64) (v5 : Int32) (v6 : Int32) : Prop :=
  vp_in v5 8 ∧ (((S.2.1 0 v5.toNatClampNeg) ≤ v6 → wp_X8_shares_136 K2 Q S v1 v2) ∧ (¬ (S.2.1 0 v5.toNatClampNeg) ≤ v6 → vp_in v5 8 ∧ vp_in (((364 * v1) + (S.2.1 1 v5.toNatClampNeg)) + v6) 13104 ∧ vp_in v6 256 ∧ ∀ v7_6 : Int64, v7_6 = (S.2.2 0 (((364 * v1) + (S.2.1 1 v5.toNatClampNeg)) + v6).toNatClampNeg) - (xr_remL (v3 * (S.2.2 2 v6.toNatClampNeg)) 2147483647) → vp_in v5 8 ∧ wp_X8_mod v7_6 (fun r8 : Int64 => vp_in (((364 * v1) + (S.2.1 1 v5.toNatClampNeg)) + v6) 13104 ∧ ∀ v6_10 : Int32, v6_10 = v6 + 1 → K55 (ms_sJ S 0 (((364 * v1) + (S.2.1 1 v5.toNatClampNeg)) + v6).toNatClampNeg r8) v1 v2 v3 v5 v6_10)))
def wp_X8_shares_55 (K2 : ms_T → Int32 → Int32 → Prop) (Q : ms_T → Prop) : Nat → ms_T → Int32 → Int32 → Int64 → Int32 → Int32 → Prop
  | 0 => fun _ _ _ _ _ _ => False
  | n + 1 => fun S v1 v2 v3 v5 v6 => wb_X8_shares_55 K2 (wp_X8_shares_55 K2 Q n) Q S v1 v2 v3 v5 v6
def wb_X8_shares_2  (K2 : ms_T → Int32 → Int32 → Prop) (Q : ms_T → Prop) (S : ms_T) (v1 : Int32) (v2 : Int32) : Prop :=
  (((S.1 2) ≤ v2 → Q S) ∧ (¬ (S.1 2) ≤ v2 → vp_in ((364 * v1) + v2) 13104 ∧ ∀ v3_12 : Int64, v3_12 = S.2.2 0 ((364 * v1) + v2).toNatClampNeg → ((v3_12 = 0 → wp_X8_shares_136 K2 Q S v1 v2) ∧ (¬ v3_12 = 0 → wp_X8_ordered S v2 (fun (S13 : ms_T) => vp_in v2 364 ∧ ∀ v5_15 : Int32, v5_15 = S13.2.1 2 v2.toNatClampNeg → vp_in v5_15 8 ∧ ∀ v6_17 : Int32, v6_17 = (v2 - (S13.2.1 1 v5_15.toNatClampNeg)) + 1 → ∃ n : Nat, wp_X8_shares_55 K2 Q n S13 v1 v2 v3_12 v5_15 v6_17)))))
def wp_X8_shares_2  (Q : ms_T → Prop) : Nat → ms_T → Int32 → Int32 → Prop
  | 0 => fun _ _ _ => False
  | n + 1 => fun S v1 v2 => wb_X8_shares_2 (wp_X8_shares_2 Q n) Q S v1 v2
def wp_X8_shares (S : ms_T) (a1 : Int32) (Q : ms_T → Prop) : Prop :=
  ∃ n : Nat, wp_X8_shares_2 Q n S a1 0
def wp_X8_share (S : ms_T) (a1 : Int32) (a2 : Int32) (Q : Int32 → ms_T → Prop) : Prop :=
  wp_X8_wordOf S a2 (fun (r2 : Int32) (S1 : ms_T) => wp_X8_isSum a1 (fun r3 : Int32 => ((r3 = 0 → Q ((-1)) S1) ∧ (¬ r3 = 0 → ((¬ r2 = ((-1)) → wp_X8_copies S1 8 a1 (fun (S4 : ms_T) => wp_X8_shares S4 8 (fun (S5 : ms_T) => vp_in (2912 + r2) 13104 ∧ Q ((S5.2.2 0 (2912 + r2).toNatClampNeg).toInt32) S5))) ∧ (r2 = ((-1)) → Q ((-1)) S1))))))
def wp_X8_isLie_50 (K15 : ms_T → Int32 → Prop) (Q : Int32 → ms_T → Prop) (S : ms_T) (v2 : Int32) : Prop :=
  ∀ v2_1 : Int32, v2_1 = v2 + 1 → K15 S v2_1
def wb_X8_isLie_15  (K15 : ms_T → Int32 → Prop) (Q : Int32 → ms_T → Prop) (S : ms_T) (v2 : Int32) : Prop :=
  (((S.1 2) ≤ v2 → Q 1 S) ∧ (¬ (S.1 2) ≤ v2 → vp_in (2912 + v2) 13104 ∧ (((S.2.2 0 (2912 + v2).toNatClampNeg) = 0 → wp_X8_isLie_50 K15 Q S v2) ∧ (¬ (S.2.2 0 (2912 + v2).toNatClampNeg) = 0 → vp_in v2 364 ∧ ((¬ (S.2.1 7 v2.toNatClampNeg) = ((-1)) → wp_X8_isLie_50 K15 Q S v2) ∧ ((S.2.1 7 v2.toNatClampNeg) = ((-1)) → Q 0 S))))))
def wp_X8_isLie_15  (Q : Int32 → ms_T → Prop) : Nat → ms_T → Int32 → Prop
  | 0 => fun _ _ => False
  | n + 1 => fun S v2 => wb_X8_isLie_15 (wp_X8_isLie_15 Q n) Q S v2
def wp_X8_isLie (S : ms_T) (a1 : Int32) (Q : Int32 → ms_T → Prop) : Prop :=
  wp_X8_copies S 8 a1 (fun (S4 : ms_T) => wp_X8_shares S4 8 (fun (S5 : ms_T) => ∃ n : Nat, wp_X8_isLie_15 Q n S5 0))
def wp_X8_lie (S : ms_T) (a1 : Int32) (Q : Int32 → ms_T → Prop) : Prop :=
  wp_X8_isSum a1 (fun r1 : Int32 => ((r1 = 0 → Q ((-1)) S) ∧ (¬ r1 = 0 → wp_X8_isLie S a1 (fun (r3 : Int32) (S2 : ms_T) => ((r3 = 0 → Q 0 S2) ∧ (¬ r3 = 0 → Q 1 S2))))))
def wb_X8_table_97  (K97 : ms_T → Int32 → Int32 → Int32 → Int32 → Prop) (Q : Int32 → ms_T → Prop) (S : ms_T) (v3 : Int32) (v4 : Int32) (v5 : Int32) (v6 : Int32) : Prop :=
  vp_in (v4 + v5) 8 ∧ (((S.2.1 0 (v4 + v5).toNatClampNeg) ≤ v6 → wp_X8_shares S 8 (fun (S2 : ms_T) => vp_in v3 100 ∧ vp_in (2912 + (S2.2.1 3 v3.toNatClampNeg)) 13104 ∧ ∀ v6_5 : Int64, v6_5 = S2.2.2 0 (2912 + (S2.2.1 3 v3.toNatClampNeg)).toNatClampNeg → ((v6_5 ≤ 1073741823 → Q v6_5.toInt32 S2) ∧ (¬ v6_5 ≤ 1073741823 → Q ((v6_5 - 2147483647).toInt32) S2)))) ∧ (¬ (S.2.1 0 (v4 + v5).toNatClampNeg) ≤ v6 → vp_in (v4 + v5) 8 ∧ vp_in (25344 + v6) 25600 ∧ vp_in ((2912 + (S.2.1 1 (v4 + v5).toNatClampNeg)) + v6) 13104 ∧ ∀ v6_9 : Int32, v6_9 = v6 + 1 → K97 (ms_sJ S 0 ((2912 + (S.2.1 1 (v4 + v5).toNatClampNeg)) + v6).toNatClampNeg (S.2.2 1 (25344 + v6).toNatClampNeg)) v3 v4 v5 v6_9))
def wp_X8_table_97  (Q : Int32 → ms_T → Prop) : Nat → ms_T → Int32 → Int32 → Int32 → Int32 → Prop
  | 0 => fun _ _ _ _ _ => False
  | n + 1 => fun S v3 v4 v5 v6 => wb_X8_table_97 (wp_X8_table_97 Q n) Q S v3 v4 v5 v6
def wp_X8_table (S : ms_T) (a1 : Int32) (a2 : Int32) (a3 : Int32) (Q : Int32 → ms_T → Prop) : Prop :=
  wp_X8_isNumber S a1 (fun (r11 : Int32) (S10 : ms_T) => ((r11 = 0 → Q ((-2147483648)) S10) ∧ (¬ r11 = 0 → wp_X8_isNumber S10 a2 (fun (r13 : Int32) (S12 : ms_T) => ((r13 = 0 → Q ((-2147483648)) S12) ∧ (¬ r13 = 0 → wp_X8_isNumber S12 a3 (fun (r15 : Int32) (S14 : ms_T) => ((¬ r15 = 0 → vp_in a1 100 ∧ vp_in (S14.2.1 3 a1.toNatClampNeg) 364 ∧ ∀ v4_18 : Int32, v4_18 = S14.2.1 2 (S14.2.1 3 a1.toNatClampNeg).toNatClampNeg → vp_in a2 100 ∧ vp_in (S14.2.1 3 a2.toNatClampNeg) 364 ∧ ∀ v5_21 : Int32, v5_21 = S14.2.1 2 (S14.2.1 3 a2.toNatClampNeg).toNatClampNeg → (((v4_18 + v5_21) ≤ (S14.1 1) → wp_X8_clears S14 8 (fun (S22 : ms_T) => wp_X8_brackets S22 25344 (256 * a1) v4_18 (256 * a2) v5_21 (fun (S23 : ms_T) => ∃ n : Nat, wp_X8_table_97 Q n S23 a3 v4_18 v5_21 0))) ∧ (¬ (v4_18 + v5_21) ≤ (S14.1 1) → Q 0 S14))) ∧ (r15 = 0 → Q ((-2147483648)) S14)))))))))
def wp_X8_step (S : ms_T) (a1 : Int32) (a2 : Int32) (a3 : Int32) (Q : Int32 → ms_T → Prop) : Prop :=
  wp_X8_isLetter S a1 (fun (r2 : Int32) (S1 : ms_T) => ((¬ r2 = 0 → wp_X8_in a2.toInt64 ((-99)) 99 (fun r3 : Int32 => ((r3 = 0 → Q ((-2)) S1) ∧ (¬ r3 = 0 → wp_X8_in a3.toInt64 1 99 (fun r4 : Int32 => ((¬ r4 = 0 → ((¬ (S1.1 4) = 12 → vp_in (S1.1 4) 12 ∧ wp_X8_partOf a2 a3 (fun r6 : Int64 => vp_in ((ms_sI S1 8 (S1.1 4).toNatClampNeg a1).1 4) 12 ∧ Q ((ms_sF (ms_sJ (ms_sI S1 8 (S1.1 4).toNatClampNeg a1) 4 ((ms_sI S1 8 (S1.1 4).toNatClampNeg a1).1 4).toNatClampNeg r6) 4 (((ms_sJ (ms_sI S1 8 (S1.1 4).toNatClampNeg a1) 4 ((ms_sI S1 8 (S1.1 4).toNatClampNeg a1).1 4).toNatClampNeg r6).1 4) + 1)).1 4) (ms_sF (ms_sJ (ms_sI S1 8 (S1.1 4).toNatClampNeg a1) 4 ((ms_sI S1 8 (S1.1 4).toNatClampNeg a1).1 4).toNatClampNeg r6) 4 (((ms_sJ (ms_sI S1 8 (S1.1 4).toNatClampNeg a1) 4 ((ms_sI S1 8 (S1.1 4).toNatClampNeg a1).1 4).toNatClampNeg r6).1 4) + 1)))) ∧ ((S1.1 4) = 12 → Q ((-4)) S1))) ∧ (r4 = 0 → Q ((-2)) S1))))))) ∧ (r2 = 0 → Q ((-1)) S1)))
def wp_X8_unstep (S : ms_T) (Q : Int32 → ms_T → Prop) : Prop :=
  ∀ v1_1 : Int32, v1_1 = S.1 4 → Q v1_1 (ms_sF S 4 0)
def wb_X8_makes_8  (K8 : ms_T → Int32 → Int32 → Prop) (Q : ms_T → Prop) (S : ms_T) (v1 : Int32) (v2 : Int32) : Prop :=
  (((S.1 4) ≤ v2 → wp_X8_series S v1 14 1 (fun (S1 : ms_T) => Q S1)) ∧ (¬ (S.1 4) ≤ v2 → wp_X8_clears S 15 (fun (S2 : ms_T) => vp_in ((1 : Int32)) 8 ∧ vp_in v2 12 ∧ vp_in v2 12 ∧ vp_in ((5460 + (S2.2.1 1 ((1 : Int32)).toNatClampNeg)) + (S2.2.1 8 v2.toNatClampNeg)) 13104 ∧ wp_X8_series (ms_sJ S2 0 ((5460 + (S2.2.1 1 ((1 : Int32)).toNatClampNeg)) + (S2.2.1 8 v2.toNatClampNeg)).toNatClampNeg (S2.2.2 4 v2.toNatClampNeg)) 16 15 0 (fun (S7 : ms_T) => wp_X8_multiplies S7 17 14 16 (fun (S8 : ms_T) => wp_X8_copies S8 14 17 (fun (S9 : ms_T) => ∀ v2_10 : Int32, v2_10 = v2 + 1 → K8 S9 v1 v2_10))))))
def wp_X8_makes_8  (Q : ms_T → Prop) : Nat → ms_T → Int32 → Int32 → Prop
  | 0 => fun _ _ _ => False
  | n + 1 => fun S v1 v2 => wb_X8_makes_8 (wp_X8_makes_8 Q n) Q S v1 v2
def wp_X8_makes (S : ms_T) (a1 : Int32) (Q : ms_T → Prop) : Prop :=
  wp_X8_ones S 14 (fun (S11 : ms_T) => ∃ n : Nat, wp_X8_makes_8 Q n S11 a1 0)
def wp_X8_scheme (S : ms_T) (a1 : Int32) (Q : Int32 → ms_T → Prop) : Prop :=
  wp_X8_isSum a1 (fun r1 : Int32 => ((¬ r1 = 0 → wp_X8_makes S a1 (fun (S2 : ms_T) => Q 0 S2)) ∧ (r1 = 0 → Q ((-1)) S)))
def wp_X8_order_41 (K8 : ms_T → Int32 → Prop) (Q : Int32 → ms_T → Prop) (S : ms_T) (v1 : Int32) (s0 : Int64) (s1 : Int64) : Prop :=
  ((s0 = s1 → ∀ v1_1 : Int32, v1_1 = v1 + 1 → K8 S v1_1) ∧ (¬ s0 = s1 → vp_in v1 364 ∧ ((¬ (S.2.1 2 v1.toNatClampNeg) = 0 → vp_in v1 364 ∧ Q ((S.2.1 2 v1.toNatClampNeg) - 1) S) ∧ ((S.2.1 2 v1.toNatClampNeg) = 0 → Q 0 S))))
def wb_X8_order_8  (K8 : ms_T → Int32 → Prop) (Q : Int32 → ms_T → Prop) (S : ms_T) (v1 : Int32) : Prop :=
  (((S.1 2) ≤ v1 → Q (S.1 1) S) ∧ (¬ (S.1 2) ≤ v1 → vp_in (6552 + v1) 13104 ∧ vp_in v1 364 ∧ ((¬ (S.2.1 2 v1.toNatClampNeg) = 1 → wp_X8_order_41 K8 Q S v1 (S.2.2 0 (6552 + v1).toNatClampNeg) 0) ∧ ((S.2.1 2 v1.toNatClampNeg) = 1 → wp_X8_order_41 K8 Q S v1 (S.2.2 0 (6552 + v1).toNatClampNeg) 1))))
def wp_X8_order_8  (Q : Int32 → ms_T → Prop) : Nat → ms_T → Int32 → Prop
  | 0 => fun _ _ => False
  | n + 1 => fun S v1 => wb_X8_order_8 (wp_X8_order_8 Q n) Q S v1
def wp_X8_order (S : ms_T) (Q : Int32 → ms_T → Prop) : Prop :=
  wp_X8_makes S 18 (fun (S6 : ms_T) => ∃ n : Nat, wp_X8_order_8 Q n S6 0)
def wp_X8_relate_77 (K16 : ms_T → Int32 → Int32 → Int32 → Int32 → Prop) (Q : Int32 → ms_T → Prop) (S : ms_T) (v1 : Int32) (v2 : Int32) (v3 : Int32) (v4 : Int32) : Prop :=
  ∀ v4_1 : Int32, v4_1 = v4 + 1 → K16 S v1 v2 v3 v4_1
def wp_X8_relate_68 (K16 : ms_T → Int32 → Int32 → Int32 → Int32 → Prop) (Q : Int32 → ms_T → Prop) (S : ms_T) (v1 : Int32) (v4 : Int32) (s0 : Int32) : Prop :=
  vp_in v4 364 ∧ ∀ v2_3 : Int32, v2_3 = S.2.1 2 v4.toNatClampNeg → wp_X8_relate_77 K16 Q S v1 v2_3 s0 v4
def wp_X8_relate_63 (K16 : ms_T → Int32 → Int32 → Int32 → Int32 → Prop) (Q : Int32 → ms_T → Prop) (S : ms_T) (v1 : Int32) (v4 : Int32) : Prop :=
  wp_X8_relate_68 K16 Q S v1 v4 1
def wp_X8_relate_67 (K16 : ms_T → Int32 → Int32 → Int32 → Int32 → Prop) (Q : Int32 → ms_T → Prop) (S : ms_T) (v1 : Int32) (v4 : Int32) : Prop :=
  wp_X8_relate_68 K16 Q S v1 v4 0
def wb_X8_relate_127  (K127 : ms_T → Int32 → Int32 → Int32 → Prop) (Q : Int32 → ms_T → Prop) (S : ms_T) (v1 : Int32) (v2 : Int32) (v4 : Int32) : Prop :=
  vp_in v2 8 ∧ (((S.2.1 0 v2.toNatClampNeg) ≤ v4 → Q (((ms_sF S 5 ((S.1 5) + 1)).1 5) - 1) (ms_sF S 5 ((S.1 5) + 1))) ∧ (¬ (S.2.1 0 v2.toNatClampNeg) ≤ v4 → vp_in v2 8 ∧ vp_in (((364 * v1) + (S.2.1 1 v2.toNatClampNeg)) + v4) 13104 ∧ vp_in ((256 * (S.1 5)) + v4) 1024 ∧ ∀ v4_8 : Int32, v4_8 = v4 + 1 → K127 (ms_sJ S 5 ((256 * (S.1 5)) + v4).toNatClampNeg (S.2.2 0 (((364 * v1) + (S.2.1 1 v2.toNatClampNeg)) + v4).toNatClampNeg)) v1 v2 v4_8))
def wp_X8_relate_127  (Q : Int32 → ms_T → Prop) : Nat → ms_T → Int32 → Int32 → Int32 → Prop
  | 0 => fun _ _ _ _ => False
  | n + 1 => fun S v1 v2 v4 => wb_X8_relate_127 (wp_X8_relate_127 Q n) Q S v1 v2 v4
def wb_X8_relate_16  (K16 : ms_T → Int32 → Int32 → Int32 → Int32 → Prop) (Q : Int32 → ms_T → Prop) (S : ms_T) (v1 : Int32) (v2 : Int32) (v3 : Int32) (v4 : Int32) : Prop :=
  (((S.1 2) ≤ v4 → ((v2 = ((-1)) → Q ((-3)) S) ∧ (¬ v2 = ((-1)) → ((¬ v3 = 0 → Q ((-3)) S) ∧ (v3 = 0 → wp_X8_isLie S v1 (fun (r10 : Int32) (S9 : ms_T) => ((¬ r10 = 0 → ((¬ (S9.1 5) = 4 → vp_in (S9.1 5) 4 ∧ ∃ n : Nat, wp_X8_relate_127 Q n (ms_sI S9 9 (S9.1 5).toNatClampNeg v2) v1 v2 0) ∧ ((S9.1 5) = 4 → Q ((-4)) S9))) ∧ (r10 = 0 → Q ((-3)) S9)))))))) ∧ (¬ (S.1 2) ≤ v4 → vp_in ((364 * v1) + v4) 13104 ∧ (((S.2.2 0 ((364 * v1) + v4).toNatClampNeg) = 0 → wp_X8_relate_77 K16 Q S v1 v2 v3 v4) ∧ (¬ (S.2.2 0 ((364 * v1) + v4).toNatClampNeg) = 0 → ((¬ v3 = 0 → wp_X8_relate_63 K16 Q S v1 v4) ∧ (v3 = 0 → ((v2 = ((-1)) → wp_X8_relate_67 K16 Q S v1 v4) ∧ (¬ v2 = ((-1)) → vp_in v4 364 ∧ ((v2 = (S.2.1 2 v4.toNatClampNeg) → wp_X8_relate_67 K16 Q S v1 v4) ∧ (¬ v2 = (S.2.1 2 v4.toNatClampNeg) → wp_X8_relate_63 K16 Q S v1 v4))))))))))
def wp_X8_relate_16  (Q : Int32 → ms_T → Prop) : Nat → ms_T → Int32 → Int32 → Int32 → Int32 → Prop
  | 0 => fun _ _ _ _ _ => False
  | n + 1 => fun S v1 v2 v3 v4 => wb_X8_relate_16 (wp_X8_relate_16 Q n) Q S v1 v2 v3 v4
def wp_X8_relate (S : ms_T) (a1 : Int32) (Q : Int32 → ms_T → Prop) : Prop :=
  wp_X8_isSum a1 (fun r14 : Int32 => ((¬ r14 = 0 → ∃ n : Nat, wp_X8_relate_16 Q n S a1 ((-1)) 0 0) ∧ (r14 = 0 → Q ((-1)) S)))
def wp_X8_spansMore_85 (K2 : ms_T → Int32 → Int32 → Prop) (Q : ms_T → Prop) (S : ms_T) (v1 : Int32) (v2 : Int32) : Prop :=
  ∀ v2_1 : Int32, v2_1 = v2 + 1 → K2 S v1 v2_1
def wb_X8_spansMore_25 (K2 : ms_T → Int32 → Int32 → Prop) (K25 : ms_T → Int32 → Int32 → Int64 → Int32 → Prop) (Q : ms_T → Prop) (S : ms_T) (v1 : Int32) (v2 : Int32) (v3 : Int64) (v5 : Int32) : Prop :=
  vp_in v1 8 ∧ (((S.2.1 0 v1.toNatClampNeg) ≤ v5 → wp_X8_spansMore_85 K2 Q S v1 v2) ∧ (¬ (S.2.1 0 v1.toNatClampNeg) ≤ v5 → ((v3 = 0 → wp_X8_spansMore_85 K2 Q S v1 v2) ∧ (¬ v3 = 0 → vp_in v5 256 ∧ vp_in ((256 * v2) + v5) 25600 ∧ wp_X8_mod ((S.2.2 2 v5.toNatClampNeg) - (xr_remL (v3 * (S.2.2 6 ((256 * v2) + v5).toNatClampNeg)) 2147483647)) (fun r5 : Int64 => vp_in v5 256 ∧ ∀ v5_7 : Int32, v5_7 = v5 + 1 → K25 (ms_sJ S 2 v5.toNatClampNeg r5) v1 v2 v3 v5_7)))))
def wp_X8_spansMore_25 (K2 : ms_T → Int32 → Int32 → Prop) (Q : ms_T → Prop) : Nat → ms_T → Int32 → Int32 → Int64 → Int32 → Prop
  | 0 => fun _ _ _ _ _ => False
  | n + 1 => fun S v1 v2 v3 v5 => wb_X8_spansMore_25 K2 (wp_X8_spansMore_25 K2 Q n) Q S v1 v2 v3 v5
def wb_X8_spansMore_144  (K144 : ms_T → Int32 → Int32 → Int64 → Int32 → Prop) (Q : ms_T → Prop) (S : ms_T) (v1 : Int32) (v2 : Int32) (v3 : Int64) (v5 : Int32) : Prop :=
  vp_in v1 8 ∧ (((S.2.1 0 v1.toNatClampNeg) ≤ v5 → vp_in (S.1 6) 100 ∧ Q (ms_sF (ms_sI S 10 (S.1 6).toNatClampNeg v2) 6 (((ms_sI S 10 (S.1 6).toNatClampNeg v2).1 6) + 1))) ∧ (¬ (S.2.1 0 v1.toNatClampNeg) ≤ v5 → vp_in v5 256 ∧ vp_in ((256 * (S.1 6)) + v5) 25600 ∧ ∀ v5_12 : Int32, v5_12 = v5 + 1 → K144 (ms_sJ S 6 ((256 * (S.1 6)) + v5).toNatClampNeg (xr_remL ((S.2.2 2 v5.toNatClampNeg) * v3) 2147483647)) v1 v2 v3 v5_12))
def wp_X8_spansMore_144  (Q : ms_T → Prop) : Nat → ms_T → Int32 → Int32 → Int64 → Int32 → Prop
  | 0 => fun _ _ _ _ _ => False
  | n + 1 => fun S v1 v2 v3 v5 => wb_X8_spansMore_144 (wp_X8_spansMore_144 Q n) Q S v1 v2 v3 v5
def wp_X8_spansMore_120  (Q : ms_T → Prop) (S : ms_T) (v1 : Int32) (v2 : Int32) : Prop :=
  vp_in v1 8 ∧ ((¬ v2 = (S.2.1 0 v1.toNatClampNeg) → vp_in v2 256 ∧ wp_X8_inverted (S.2.2 2 v2.toNatClampNeg) (fun r15 : Int64 => ∃ n : Nat, wp_X8_spansMore_144 Q n S v1 v2 r15 0)) ∧ (v2 = (S.2.1 0 v1.toNatClampNeg) → Q S))
def wb_X8_spansMore_93  (K93 : ms_T → Int32 → Int32 → Prop) (Q : ms_T → Prop) (S : ms_T) (v1 : Int32) (v2 : Int32) : Prop :=
  vp_in v1 8 ∧ (((S.2.1 0 v1.toNatClampNeg) ≤ v2 → wp_X8_spansMore_120 Q S v1 v2) ∧ (¬ (S.2.1 0 v1.toNatClampNeg) ≤ v2 → vp_in v2 256 ∧ ((¬ (S.2.2 2 v2.toNatClampNeg) = 0 → wp_X8_spansMore_120 Q S v1 v2) ∧ ((S.2.2 2 v2.toNatClampNeg) = 0 → ∀ v2_18 : Int32, v2_18 = v2 + 1 → K93 S v1 v2_18))))
def wp_X8_spansMore_93  (Q : ms_T → Prop) : Nat → ms_T → Int32 → Int32 → Prop
  | 0 => fun _ _ _ => False
  | n + 1 => fun S v1 v2 => wb_X8_spansMore_93 (wp_X8_spansMore_93 Q n) Q S v1 v2
def wb_X8_spansMore_2  (K2 : ms_T → Int32 → Int32 → Prop) (Q : ms_T → Prop) (S : ms_T) (v1 : Int32) (v2 : Int32) : Prop :=
  (((S.1 6) ≤ v2 → ∃ n : Nat, wp_X8_spansMore_93 Q n S v1 0) ∧ (¬ (S.1 6) ≤ v2 → vp_in v2 100 ∧ vp_in (S.2.1 10 v2.toNatClampNeg) 256 ∧ ∀ v3_21 : Int64, v3_21 = S.2.2 2 (S.2.1 10 v2.toNatClampNeg).toNatClampNeg → ∃ n : Nat, wp_X8_spansMore_25 K2 Q n S v1 v2 v3_21 0))
def wp_X8_spansMore_2  (Q : ms_T → Prop) : Nat → ms_T → Int32 → Int32 → Prop
  | 0 => fun _ _ _ => False
  | n + 1 => fun S v1 v2 => wb_X8_spansMore_2 (wp_X8_spansMore_2 Q n) Q S v1 v2
def wp_X8_spansMore (S : ms_T) (a1 : Int32) (Q : ms_T → Prop) : Prop :=
  ∃ n : Nat, wp_X8_spansMore_2 Q n S a1 0
def wp_X8_size_186 (K23 : ms_T → Int32 → Int32 → Prop) (K74 : ms_T → Int32 → Int32 → Int32 → Int32 → Prop) (K83 : ms_T → Int32 → Int32 → Int32 → Int32 → Int32 → Prop) (K95 : ms_T → Int32 → Int32 → Int32 → Int32 → Int32 → Int32 → Prop) (Q : Int32 → ms_T → Prop) (S : ms_T) (v1 : Int32) (v2 : Int32) (v3 : Int32) (v4 : Int32) (v5 : Int32) (v6 : Int32) (v7 : Int64) (s0 : Int64) : Prop :=
  wp_X8_mod (v7 - s0) (fun r1 : Int64 => vp_in v6 256 ∧ ∀ v6_3 : Int32, v6_3 = v6 + 1 → K95 (ms_sJ S 2 v6.toNatClampNeg r1) v1 v2 v3 v4 v5 v6_3)
def wp_X8_size_141 (K23 : ms_T → Int32 → Int32 → Prop) (K74 : ms_T → Int32 → Int32 → Int32 → Int32 → Prop) (K83 : ms_T → Int32 → Int32 → Int32 → Int32 → Int32 → Prop) (K95 : ms_T → Int32 → Int32 → Int32 → Int32 → Int32 → Int32 → Prop) (Q : Int32 → ms_T → Prop) (S : ms_T) (v1 : Int32) (v2 : Int32) (v3 : Int32) (v4 : Int32) (v5 : Int32) (v6 : Int32) (s0 : Int64) : Prop :=
  vp_in (v2 - 1) 8 ∧ ¬ (S.2.1 0 (v2 - 1).toNatClampNeg) = 0 ∧ ((¬ (v6 / (S.2.1 0 (v2 - 1).toNatClampNeg)) = v5 → wp_X8_size_186 K23 K74 K83 K95 Q S v1 v2 v3 v4 v5 v6 s0 0) ∧ ((v6 / (S.2.1 0 (v2 - 1).toNatClampNeg)) = v5 → vp_in (v2 - 1) 8 ∧ ¬ (S.2.1 0 (v2 - 1).toNatClampNeg) = 0 ∧ vp_in ((256 * v4) + (xr_remI v6 (S.2.1 0 (v2 - 1).toNatClampNeg))) 25600 ∧ wp_X8_size_186 K23 K74 K83 K95 Q S v1 v2 v3 v4 v5 v6 s0 (S.2.2 7 ((256 * v4) + (xr_remI v6 (S.2.1 0 (v2 - 1).toNatClampNeg))).toNatClampNeg)))
def wb_X8_size_95 (K23 : ms_T → Int32 → Int32 → Prop) (K74 : ms_T → Int32 → Int32 → Int32 → Int32 → Prop) (K83 : ms_T → Int32 → Int32 → Int32 → Int32 → Int32 → Prop) (K95 : ms_T → Int32 → Int32 → Int32 → Int32 → Int32 → Int32 → Prop) (Q : Int32 → ms_T → Prop) (S : ms_T) (v1 : Int32) (v2 : Int32) (v3 : Int32) (v4 : Int32) (v5 : Int32) (v6 : Int32) : Prop :=
  vp_in v2 8 ∧ (((S.2.1 0 v2.toNatClampNeg) ≤ v6 → wp_X8_spansMore S v2 (fun (S10 : ms_T) => ∀ v5_11 : Int32, v5_11 = v5 + 1 → K83 S10 v1 v2 v3 v4 v5_11)) ∧ (¬ (S.2.1 0 v2.toNatClampNeg) ≤ v6 → ¬ (S.1 0) = 0 ∧ ((¬ (xr_remI v6 (S.1 0)) = v5 → wp_X8_size_141 K23 K74 K83 K95 Q S v1 v2 v3 v4 v5 v6 0) ∧ ((xr_remI v6 (S.1 0)) = v5 → ¬ (S.1 0) = 0 ∧ vp_in ((256 * v4) + (v6 / (S.1 0))) 25600 ∧ wp_X8_size_141 K23 K74 K83 K95 Q S v1 v2 v3 v4 v5 v6 (S.2.2 7 ((256 * v4) + (v6 / (S.1 0))).toNatClampNeg)))))
def wp_X8_size_95 (K23 : ms_T → Int32 → Int32 → Prop) (K74 : ms_T → Int32 → Int32 → Int32 → Int32 → Prop) (K83 : ms_T → Int32 → Int32 → Int32 → Int32 → Int32 → Prop) (Q : Int32 → ms_T → Prop) : Nat → ms_T → Int32 → Int32 → Int32 → Int32 → Int32 → Int32 → Prop
  | 0 => fun _ _ _ _ _ _ _ => False
  | n + 1 => fun S v1 v2 v3 v4 v5 v6 => wb_X8_size_95 K23 K74 K83 (wp_X8_size_95 K23 K74 K83 Q n) Q S v1 v2 v3 v4 v5 v6
def wb_X8_size_83 (K23 : ms_T → Int32 → Int32 → Prop) (K74 : ms_T → Int32 → Int32 → Int32 → Int32 → Prop) (K83 : ms_T → Int32 → Int32 → Int32 → Int32 → Int32 → Prop) (Q : Int32 → ms_T → Prop) (S : ms_T) (v1 : Int32) (v2 : Int32) (v3 : Int32) (v4 : Int32) (v5 : Int32) : Prop :=
  (((S.1 0) ≤ v5 → ∀ v4_15 : Int32, v4_15 = v4 + 1 → K74 S v1 v2 v3 v4_15) ∧ (¬ (S.1 0) ≤ v5 → ∃ n : Nat, wp_X8_size_95 K23 K74 K83 Q n S v1 v2 v3 v4 v5 0))
def wp_X8_size_83 (K23 : ms_T → Int32 → Int32 → Prop) (K74 : ms_T → Int32 → Int32 → Int32 → Int32 → Prop) (Q : Int32 → ms_T → Prop) : Nat → ms_T → Int32 → Int32 → Int32 → Int32 → Int32 → Prop
  | 0 => fun _ _ _ _ _ _ => False
  | n + 1 => fun S v1 v2 v3 v4 v5 => wb_X8_size_83 K23 K74 (wp_X8_size_83 K23 K74 Q n) Q S v1 v2 v3 v4 v5
def wp_X8_size_295 (K23 : ms_T → Int32 → Int32 → Prop) (K229 : ms_T → Int32 → Int32 → Int32 → Prop) (Q : Int32 → ms_T → Prop) (S : ms_T) (v1 : Int32) (v2 : Int32) (v4 : Int32) : Prop :=
  ∀ v4_16 : Int32, v4_16 = v4 + 1 → K229 S v1 v2 v4_16
def wb_X8_size_252 (K23 : ms_T → Int32 → Int32 → Prop) (K229 : ms_T → Int32 → Int32 → Int32 → Prop) (K252 : ms_T → Int32 → Int32 → Int32 → Int32 → Prop) (Q : Int32 → ms_T → Prop) (S : ms_T) (v1 : Int32) (v2 : Int32) (v4 : Int32) (v5 : Int32) : Prop :=
  vp_in v2 8 ∧ (((S.2.1 0 v2.toNatClampNeg) ≤ v5 → wp_X8_spansMore S v2 (fun (S18 : ms_T) => wp_X8_size_295 K23 K229 Q S18 v1 v2 v4)) ∧ (¬ (S.2.1 0 v2.toNatClampNeg) ≤ v5 → vp_in ((256 * v4) + v5) 1024 ∧ vp_in v5 256 ∧ ∀ v5_21 : Int32, v5_21 = v5 + 1 → K252 (ms_sJ S 2 v5.toNatClampNeg (S.2.2 5 ((256 * v4) + v5).toNatClampNeg)) v1 v2 v4 v5_21))
def wp_X8_size_252 (K23 : ms_T → Int32 → Int32 → Prop) (K229 : ms_T → Int32 → Int32 → Int32 → Prop) (Q : Int32 → ms_T → Prop) : Nat → ms_T → Int32 → Int32 → Int32 → Int32 → Prop
  | 0 => fun _ _ _ _ _ => False
  | n + 1 => fun S v1 v2 v4 v5 => wb_X8_size_252 K23 K229 (wp_X8_size_252 K23 K229 Q n) Q S v1 v2 v4 v5
def wb_X8_size_229 (K23 : ms_T → Int32 → Int32 → Prop) (K229 : ms_T → Int32 → Int32 → Int32 → Prop) (Q : Int32 → ms_T → Prop) (S : ms_T) (v1 : Int32) (v2 : Int32) (v4 : Int32) : Prop :=
  (((S.1 5) ≤ v4 → ∀ v2_22 : Int32, v2_22 = v2 + 1 → K23 S v1 v2_22) ∧ (¬ (S.1 5) ≤ v4 → vp_in v4 4 ∧ ((¬ (S.2.1 9 v4.toNatClampNeg) = v2 → wp_X8_size_295 K23 K229 Q S v1 v2 v4) ∧ ((S.2.1 9 v4.toNatClampNeg) = v2 → ∃ n : Nat, wp_X8_size_252 K23 K229 Q n S v1 v2 v4 0))))
def wp_X8_size_229 (K23 : ms_T → Int32 → Int32 → Prop) (Q : Int32 → ms_T → Prop) : Nat → ms_T → Int32 → Int32 → Int32 → Prop
  | 0 => fun _ _ _ _ => False
  | n + 1 => fun S v1 v2 v4 => wb_X8_size_229 K23 (wp_X8_size_229 K23 Q n) Q S v1 v2 v4
def wb_X8_size_74 (K23 : ms_T → Int32 → Int32 → Prop) (K74 : ms_T → Int32 → Int32 → Int32 → Int32 → Prop) (Q : Int32 → ms_T → Prop) (S : ms_T) (v1 : Int32) (v2 : Int32) (v3 : Int32) (v4 : Int32) : Prop :=
  ((v3 ≤ v4 → ∃ n : Nat, wp_X8_size_229 K23 Q n S v1 v2 0) ∧ (¬ v3 ≤ v4 → ∃ n : Nat, wp_X8_size_83 K23 K74 Q n S v1 v2 v3 v4 0))
def wp_X8_size_74 (K23 : ms_T → Int32 → Int32 → Prop) (Q : Int32 → ms_T → Prop) : Nat → ms_T → Int32 → Int32 → Int32 → Int32 → Prop
  | 0 => fun _ _ _ _ _ => False
  | n + 1 => fun S v1 v2 v3 v4 => wb_X8_size_74 K23 (wp_X8_size_74 K23 Q n) Q S v1 v2 v3 v4
def wb_X8_size_36 (K23 : ms_T → Int32 → Int32 → Prop) (K36 : ms_T → Int32 → Int32 → Int32 → Int32 → Prop) (Q : Int32 → ms_T → Prop) (S : ms_T) (v1 : Int32) (v2 : Int32) (v3 : Int32) (v4 : Int32) : Prop :=
  (((256 * v3) ≤ v4 → ∃ n : Nat, wp_X8_size_74 K23 Q n (ms_sF S 6 0) v1 v2 v3 0) ∧ (¬ (256 * v3) ≤ v4 → vp_in v4 25600 ∧ vp_in v4 25600 ∧ ∀ v4_26 : Int32, v4_26 = v4 + 1 → K36 (ms_sJ S 7 v4.toNatClampNeg (S.2.2 6 v4.toNatClampNeg)) v1 v2 v3 v4_26))
def wp_X8_size_36 (K23 : ms_T → Int32 → Int32 → Prop) (Q : Int32 → ms_T → Prop) : Nat → ms_T → Int32 → Int32 → Int32 → Int32 → Prop
  | 0 => fun _ _ _ _ _ => False
  | n + 1 => fun S v1 v2 v3 v4 => wb_X8_size_36 K23 (wp_X8_size_36 K23 Q n) Q S v1 v2 v3 v4
def wb_X8_size_23  (K23 : ms_T → Int32 → Int32 → Prop) (Q : Int32 → ms_T → Prop) (S : ms_T) (v1 : Int32) (v2 : Int32) : Prop :=
  ((v1 < v2 → wp_X8_manyOf S v1 (fun (r28 : Int32) (S27 : ms_T) => Q (r28 - (S27.1 6)) S27)) ∧ (¬ v1 < v2 → ∀ v3_29 : Int32, v3_29 = S.1 6 → ∃ n : Nat, wp_X8_size_36 K23 Q n S v1 v2 v3_29 0))
def wp_X8_size_23  (Q : Int32 → ms_T → Prop) : Nat → ms_T → Int32 → Int32 → Prop
  | 0 => fun _ _ _ => False
  | n + 1 => fun S v1 v2 => wb_X8_size_23 (wp_X8_size_23 Q n) Q S v1 v2
def wp_X8_size (S : ms_T) (a1 : Int32) (Q : Int32 → ms_T → Prop) : Prop :=
  wp_X8_in a1.toInt64 1 ((S.1 1).toInt64) (fun r30 : Int32 => ((¬ r30 = 0 → ∃ n : Nat, wp_X8_size_23 Q n (ms_sF S 6 0) a1 1) ∧ (r30 = 0 → Q ((-1)) S)))
def wb_X8_feed_34  (K34 : ms_T → Int64 → Int32 → Prop) (Q : Int32 → ms_T → Prop) (S : ms_T) (v1 : Int64) (v4 : Int32) : Prop :=
  ((v4 < 0 → Q (S.1 7) S) ∧ (¬ v4 < 0 → vp_in (S.1 7) 100 ∧ ∀ v4_2 : Int32, v4_2 = v4 + (-1) → K34 (ms_sF (ms_sI S 11 (S.1 7).toNatClampNeg (((v1 >>> ((8 * v4).toInt64 &&& 63)) &&& 255).toInt32)) 7 (((ms_sI S 11 (S.1 7).toNatClampNeg (((v1 >>> ((8 * v4).toInt64 &&& 63)) &&& 255).toInt32)).1 7) + 1)) v1 v4_2))
def wp_X8_feed_34  (Q : Int32 → ms_T → Prop) : Nat → ms_T → Int64 → Int32 → Prop
  | 0 => fun _ _ _ => False
  | n + 1 => fun S v1 v4 => wb_X8_feed_34 (wp_X8_feed_34 Q n) Q S v1 v4
def wp_X8_feed (S : ms_T) (a1 : Int64) (a3 : Int32) (Q : Int32 → ms_T → Prop) : Prop :=
  wp_X8_in a3.toInt64 1 8 (fun r3 : Int32 => ((¬ r3 = 0 → ((((S.1 7) + a3) ≤ 100 → ∀ v4_4 : Int32, v4_4 = a3 - 1 → ∃ n : Nat, wp_X8_feed_34 Q n S a1 v4_4) ∧ (¬ ((S.1 7) + a3) ≤ 100 → Q ((-4)) S))) ∧ (r3 = 0 → Q ((-2)) S)))
def wp_X8_byteAt (S : ms_T) (a1 : Int32) (Q : Int32 → ms_T → Prop) : Prop :=
  (((S.1 7) ≤ a1 → Q ((-1)) S) ∧ (¬ (S.1 7) ≤ a1 → vp_in a1 100 ∧ Q (S.2.1 11 a1.toNatClampNeg) S))
def wp_X8_isDigit (a0 : Int32) (Q : Int32 → Prop) : Prop :=
  wp_X8_in a0.toInt64 48 57 (fun r1 : Int32 => (xr_01 r1 ∧ Q r1))
def wp_X8_begins (S : ms_T) (a1 : Int32) (Q : Int32 → ms_T → Prop) : Prop :=
  wp_X8_isDigit a1 (fun r1 : Int32 => ((¬ r1 = 0 → Q 1 S) ∧ (r1 = 0 → wp_X8_in a1.toInt64 97 (((97 + (S.1 0)) - 1).toInt64) (fun r2 : Int32 => ((¬ r2 = 0 → Q 1 S) ∧ (r2 = 0 → ((a1 = 114 → Q 1 S) ∧ (¬ a1 = 114 → ((a1 = 91 → Q 1 S) ∧ (¬ a1 = 91 → ((a1 = 40 → Q 1 S) ∧ (¬ a1 = 40 → ((a1 = 69 → Q 1 S) ∧ (¬ a1 = 69 → ((¬ a1 = 76 → Q 0 S) ∧ (a1 = 76 → Q 1 S))))))))))))))))
def wb_X8_digitsFrom_2  (K2 : ms_T → Int32 → Int32 → Prop) (Q : Int32 → ms_T → Prop) (S : ms_T) (v1 : Int32) (v2 : Int32) : Prop :=
  ((4 ≤ v2 → Q v2 S) ∧ (¬ 4 ≤ v2 → wp_X8_byteAt S (v1 + v2) (fun (r2 : Int32) (S1 : ms_T) => wp_X8_isDigit r2 (fun r3 : Int32 => ((r3 = 0 → Q v2 S1) ∧ (¬ r3 = 0 → ∀ v2_4 : Int32, v2_4 = v2 + 1 → K2 S1 v1 v2_4))))))
def wp_X8_digitsFrom_2  (Q : Int32 → ms_T → Prop) : Nat → ms_T → Int32 → Int32 → Prop
  | 0 => fun _ _ _ => False
  | n + 1 => fun S v1 v2 => wb_X8_digitsFrom_2 (wp_X8_digitsFrom_2 Q n) Q S v1 v2
def wp_X8_digitsFrom (S : ms_T) (a1 : Int32) (Q : Int32 → ms_T → Prop) : Prop :=
  ∃ n : Nat, wp_X8_digitsFrom_2 Q n S a1 0
def wp_X8_reads_430 (K9 : ms_T → Int32 → Int32 → Prop) (Q : Int32 → ms_T → Prop) (S : ms_T) (v1 : Int32) (v2 : Int32) : Prop :=
  K9 S v1 v2
def wp_X8_reads_223 (K9 : ms_T → Int32 → Int32 → Prop) (Q : Int32 → ms_T → Prop) (S : ms_T) (v1 : Int32) (v2 : Int32) : Prop :=
  wp_X8_reads_430 K9 Q S v1 v2
def wp_X8_reads_171 (K9 : ms_T → Int32 → Int32 → Prop) (Q : Int32 → ms_T → Prop) (S : ms_T) (v4 : Int32) (s0 : Int32) (s1 : Int32) : Prop :=
  vp_in s0 8 ∧ ∀ v1_2 : Int32, v1_2 = v4 + 1 → wp_X8_reads_223 K9 Q (ms_sF (ms_sI S 12 s0.toNatClampNeg s1) 8 (((ms_sI S 12 s0.toNatClampNeg s1).1 8) + 1)) v1_2 0
def wp_X8_reads_139 (K9 : ms_T → Int32 → Int32 → Prop) (Q : Int32 → ms_T → Prop) (S : ms_T) (v3 : Int32) (v4 : Int32) : Prop :=
  ((¬ (S.1 8) = 5 → ((¬ v3 = 91 → wp_X8_reads_171 K9 Q S v4 (S.1 8) 40) ∧ (v3 = 91 → wp_X8_reads_171 K9 Q S v4 (S.1 8) 91))) ∧ ((S.1 8) = 5 → Q v4 S))
def wp_X8_reads_221 (K9 : ms_T → Int32 → Int32 → Prop) (Q : Int32 → ms_T → Prop) (S : ms_T) (v2 : Int32) (s0 : Int32) (s1 : Int32) : Prop :=
  ∀ v1_3 : Int32, v1_3 = s0 + s1 → wp_X8_reads_223 K9 Q S v1_3 v2
def wp_X8_reads_113 (K9 : ms_T → Int32 → Int32 → Prop) (Q : Int32 → ms_T → Prop) (S : ms_T) (v1 : Int32) (v3 : Int32) (s0 : Int32) : Prop :=
  ((v3 = 91 → wp_X8_reads_139 K9 Q S v3 s0) ∧ (¬ v3 = 91 → ((v3 = 40 → wp_X8_reads_139 K9 Q S v3 s0) ∧ (¬ v3 = 40 → ((v3 = 69 → wp_X8_reads_139 K9 Q S v3 s0) ∧ (¬ v3 = 69 → ((¬ v3 = 76 → ((¬ v3 = 114 → wp_X8_isDigit v3 (fun r4 : Int32 => ((r4 = 0 → wp_X8_reads_221 K9 Q S 1 v1 1) ∧ (¬ r4 = 0 → wp_X8_digitsFrom S v1 (fun (r6 : Int32) (S5 : ms_T) => wp_X8_reads_221 K9 Q S5 1 v1 r6))))) ∧ (v3 = 114 → wp_X8_reads_221 K9 Q S 1 v1 2))) ∧ (v3 = 76 → wp_X8_reads_139 K9 Q S v3 s0))))))))
def wp_X8_reads_106 (K9 : ms_T → Int32 → Int32 → Prop) (Q : Int32 → ms_T → Prop) (S : ms_T) (v1 : Int32) (v3 : Int32) : Prop :=
  wp_X8_reads_113 K9 Q S v1 v3 (v1 + 1)
def wp_X8_reads_94 (K9 : ms_T → Int32 → Int32 → Prop) (Q : Int32 → ms_T → Prop) (S : ms_T) (v1 : Int32) (v3 : Int32) : Prop :=
  ((v3 = 69 → wp_X8_reads_106 K9 Q S v1 v3) ∧ (¬ v3 = 69 → ((¬ v3 = 76 → wp_X8_reads_113 K9 Q S v1 v3 v1) ∧ (v3 = 76 → wp_X8_reads_106 K9 Q S v1 v3))))
def wp_X8_reads_78 (K9 : ms_T → Int32 → Int32 → Prop) (Q : Int32 → ms_T → Prop) (S : ms_T) (v1 : Int32) (v3 : Int32) : Prop :=
  wp_X8_byteAt S (v1 + 1) (fun (r8 : Int32) (S7 : ms_T) => ((r8 = 40 → wp_X8_reads_94 K9 Q S7 v1 v3) ∧ (¬ r8 = 40 → Q (v1 + 1) S7)))
def wp_X8_reads_66 (K9 : ms_T → Int32 → Int32 → Prop) (Q : Int32 → ms_T → Prop) (S : ms_T) (v1 : Int32) (v3 : Int32) : Prop :=
  ((v3 = 69 → wp_X8_reads_78 K9 Q S v1 v3) ∧ (¬ v3 = 69 → ((¬ v3 = 76 → wp_X8_reads_94 K9 Q S v1 v3) ∧ (v3 = 76 → wp_X8_reads_78 K9 Q S v1 v3))))
def wp_X8_reads_266 (K9 : ms_T → Int32 → Int32 → Prop) (Q : Int32 → ms_T → Prop) (S : ms_T) (v1 : Int32) (s0 : Int32) : Prop :=
  ((¬ s0 = 0 → ∀ v1_9 : Int32, v1_9 = v1 + (1 + s0) → wp_X8_reads_430 K9 Q S v1_9 2) ∧ (s0 = 0 → Q (v1 + 1) S))
def wp_X8_reads_301 (K9 : ms_T → Int32 → Int32 → Prop) (Q : Int32 → ms_T → Prop) (S : ms_T) (v1 : Int32) : Prop :=
  ∀ v1_10 : Int32, v1_10 = v1 + 1 → wp_X8_reads_430 K9 Q S v1_10 0
def wp_X8_reads_410 (K9 : ms_T → Int32 → Int32 → Prop) (Q : Int32 → ms_T → Prop) (S : ms_T) (v1 : Int32) : Prop :=
  ∀ v1_11 : Int32, v1_11 = v1 + 1 → wp_X8_reads_430 K9 Q (ms_sF S 8 ((S.1 8) - 1)) v1_11 1
def wp_X8_reads_388 (K9 : ms_T → Int32 → Int32 → Prop) (Q : Int32 → ms_T → Prop) (S : ms_T) (v1 : Int32) (v3 : Int32) : Prop :=
  ((¬ v3 = 93 → Q v1 S) ∧ (v3 = 93 → vp_in ((S.1 8) - 1) 8 ∧ ((¬ (S.2.1 12 ((S.1 8) - 1).toNatClampNeg) = 93 → Q v1 S) ∧ ((S.2.1 12 ((S.1 8) - 1).toNatClampNeg) = 93 → wp_X8_reads_410 K9 Q S v1))))
def wp_X8_reads_359 (K9 : ms_T → Int32 → Int32 → Prop) (Q : Int32 → ms_T → Prop) (S : ms_T) (v1 : Int32) (v3 : Int32) : Prop :=
  (((S.1 8) ≤ 0 → Q v1 S) ∧ (¬ (S.1 8) ≤ 0 → ((¬ v3 = 41 → wp_X8_reads_388 K9 Q S v1 v3) ∧ (v3 = 41 → vp_in ((S.1 8) - 1) 8 ∧ (((S.2.1 12 ((S.1 8) - 1).toNatClampNeg) = 40 → wp_X8_reads_410 K9 Q S v1) ∧ (¬ (S.2.1 12 ((S.1 8) - 1).toNatClampNeg) = 40 → wp_X8_reads_388 K9 Q S v1 v3))))))
def wp_X8_reads_289 (K9 : ms_T → Int32 → Int32 → Prop) (Q : Int32 → ms_T → Prop) (S : ms_T) (v1 : Int32) (v3 : Int32) : Prop :=
  ((v3 = 43 → wp_X8_reads_301 K9 Q S v1) ∧ (¬ v3 = 43 → ((¬ v3 = 45 → (((S.1 8) ≤ 0 → wp_X8_reads_359 K9 Q S v1 v3) ∧ (¬ (S.1 8) ≤ 0 → ((¬ v3 = 44 → wp_X8_reads_359 K9 Q S v1 v3) ∧ (v3 = 44 → vp_in ((S.1 8) - 1) 8 ∧ ((¬ (S.2.1 12 ((S.1 8) - 1).toNatClampNeg) = 91 → wp_X8_reads_359 K9 Q S v1 v3) ∧ ((S.2.1 12 ((S.1 8) - 1).toNatClampNeg) = 91 → vp_in ((S.1 8) - 1) 8 ∧ ∀ v1_16 : Int32, v1_16 = v1 + 1 → wp_X8_reads_430 K9 Q (ms_sI S 12 ((S.1 8) - 1).toNatClampNeg 93) v1_16 0))))))) ∧ (v3 = 45 → wp_X8_reads_301 K9 Q S v1))))
def wp_X8_reads_226 (K9 : ms_T → Int32 → Int32 → Prop) (Q : Int32 → ms_T → Prop) (S : ms_T) (v1 : Int32) (v2 : Int32) (v3 : Int32) : Prop :=
  ((¬ v2 = 0 → ((¬ v2 = 1 → wp_X8_reads_289 K9 Q S v1 v3) ∧ (v2 = 1 → ((¬ v3 = 47 → wp_X8_reads_289 K9 Q S v1 v3) ∧ (v3 = 47 → wp_X8_byteAt S (v1 + 1) (fun (r18 : Int32) (S17 : ms_T) => ((¬ r18 = 48 → wp_X8_digitsFrom S17 (v1 + 1) (fun (r20 : Int32) (S19 : ms_T) => wp_X8_reads_266 K9 Q S19 v1 r20)) ∧ (r18 = 48 → wp_X8_reads_266 K9 Q S17 v1 0)))))))) ∧ (v2 = 0 → Q v1 S))
def wp_X8_reads_21 (K9 : ms_T → Int32 → Int32 → Prop) (Q : Int32 → ms_T → Prop) (S : ms_T) (v1 : Int32) (v2 : Int32) : Prop :=
  wp_X8_byteAt S v1 (fun (r22 : Int32) (S21 : ms_T) => ((2 ≤ v2 → wp_X8_reads_226 K9 Q S21 v1 v2 r22) ∧ (¬ 2 ≤ v2 → wp_X8_begins S21 r22 (fun (r24 : Int32) (S23 : ms_T) => ((r24 = 0 → wp_X8_reads_226 K9 Q S23 v1 v2 r22) ∧ (¬ r24 = 0 → ((¬ r22 = 114 → wp_X8_reads_66 K9 Q S23 v1 r22) ∧ (r22 = 114 → wp_X8_byteAt S23 (v1 + 1) (fun (r26 : Int32) (S25 : ms_T) => wp_X8_in r26.toInt64 48 55 (fun r27 : Int32 => ((r27 = 0 → Q (v1 + 1) S25) ∧ (¬ r27 = 0 → wp_X8_reads_66 K9 Q S25 v1 r22))))))))))))
def wb_X8_reads_9  (K9 : ms_T → Int32 → Int32 → Prop) (Q : Int32 → ms_T → Prop) (S : ms_T) (v1 : Int32) (v2 : Int32) : Prop :=
  ((v2 = 0 → wp_X8_reads_21 K9 Q S v1 v2) ∧ (¬ v2 = 0 → (((S.1 7) ≤ v1 → (((S.1 8) ≤ 0 → Q ((-1)) S) ∧ (¬ (S.1 8) ≤ 0 → Q (S.1 7) S))) ∧ (¬ (S.1 7) ≤ v1 → wp_X8_reads_21 K9 Q S v1 v2))))
def wp_X8_reads_9  (Q : Int32 → ms_T → Prop) : Nat → ms_T → Int32 → Int32 → Prop
  | 0 => fun _ _ _ => False
  | n + 1 => fun S v1 v2 => wb_X8_reads_9 (wp_X8_reads_9 Q n) Q S v1 v2
def wp_X8_reads (S : ms_T) (Q : Int32 → ms_T → Prop) : Prop :=
  ∃ n : Nat, wp_X8_reads_9 Q n (ms_sF S 8 0) 0 0
def wp_X8_slot (a0 : Int32) (a1 : Int32) (Q : Int32 → Prop) : Prop :=
  Q ((14 + (3 * a0)) + a1)
def wp_X8_opensFrame (S : ms_T) (a1 : Int32) (Q : ms_T → Prop) : Prop :=
  vp_in ((ms_sF S 9 ((S.1 9) + 1)).1 9) 8 ∧ vp_in ((ms_sI (ms_sF S 9 ((S.1 9) + 1)) 13 ((ms_sF S 9 ((S.1 9) + 1)).1 9).toNatClampNeg a1).1 9) 8 ∧ wp_X8_slot ((ms_sJ (ms_sI (ms_sF S 9 ((S.1 9) + 1)) 13 ((ms_sF S 9 ((S.1 9) + 1)).1 9).toNatClampNeg a1) 8 ((ms_sI (ms_sF S 9 ((S.1 9) + 1)) 13 ((ms_sF S 9 ((S.1 9) + 1)).1 9).toNatClampNeg a1).1 9).toNatClampNeg 1).1 9) 0 (fun r3 : Int32 => wp_X8_clears (ms_sJ (ms_sI (ms_sF S 9 ((S.1 9) + 1)) 13 ((ms_sF S 9 ((S.1 9) + 1)).1 9).toNatClampNeg a1) 8 ((ms_sI (ms_sF S 9 ((S.1 9) + 1)) 13 ((ms_sF S 9 ((S.1 9) + 1)).1 9).toNatClampNeg a1).1 9).toNatClampNeg 1) r3 (fun (S4 : ms_T) => wp_X8_slot (S4.1 9) 1 (fun r5 : Int32 => wp_X8_ones S4 r5 (fun (S6 : ms_T) => Q S6))))
def wp_X8_closesTerm (S : ms_T) (Q : ms_T → Prop) : Prop :=
  wp_X8_slot (S.1 9) 0 (fun r1 : Int32 => wp_X8_slot (S.1 9) 1 (fun r2 : Int32 => vp_in (S.1 9) 8 ∧ wp_X8_adds S r1 r2 (S.2.2 8 (S.1 9).toNatClampNeg) (fun (S4 : ms_T) => wp_X8_slot (S4.1 9) 1 (fun r5 : Int32 => wp_X8_ones S4 r5 (fun (S6 : ms_T) => Q S6)))))
def wp_X8_factor (S : ms_T) (Q : ms_T → Prop) : Prop :=
  wp_X8_slot (S.1 9) 1 (fun r1 : Int32 => wp_X8_multiplies S 9 r1 8 (fun (S2 : ms_T) => wp_X8_slot (S2.1 9) 1 (fun r3 : Int32 => wp_X8_copies S2 r3 9 (fun (S4 : ms_T) => Q S4))))
def wp_X8_closes_168  (Q : ms_T → Prop) (S : ms_T) : Prop :=
  wp_X8_factor (ms_sF S 9 ((S.1 9) - 1)) (fun (S1 : ms_T) => Q S1)
def wp_X8_closes_141  (Q : ms_T → Prop) (S : ms_T) (s0 : Int32) (s1 : Int32) (s2 : Int32) : Prop :=
  wp_X8_series S s0 s1 s2 (fun (S2 : ms_T) => wp_X8_slot (S2.1 9) 1 (fun r3 : Int32 => wp_X8_copies S2 8 r3 (fun (S4 : ms_T) => wp_X8_closes_168 Q S4)))
def wp_X8_closes_117  (Q : ms_T → Prop) (S : ms_T) (v2 : Int32) (v3 : Int32) (s0 : Int32) : Prop :=
  xr_01 s0 ∧ wp_X8_slot ((ms_sF S 10 s0).1 9) 1 (fun r6 : Int32 => ((¬ v3 = 69 → wp_X8_closes_141 Q (ms_sF S 10 s0) r6 v2 1) ∧ (v3 = 69 → wp_X8_closes_141 Q (ms_sF S 10 s0) r6 v2 0)))
def wp_X8_closes_112  (Q : ms_T → Prop) (S : ms_T) (v2 : Int32) (v3 : Int32) : Prop :=
  wp_X8_closes_117 Q S v2 v3 1
def wp_X8_closes_108  (Q : ms_T → Prop) (S : ms_T) (v2 : Int32) (v3 : Int32) (s0 : Int64) (s1 : Int64) : Prop :=
  ((s0 = s1 → wp_X8_closes_117 Q S v2 v3 0) ∧ (¬ s0 = s1 → wp_X8_closes_112 Q S v2 v3))
def wp_X8_closes_79  (Q : ms_T → Prop) (S : ms_T) (v2 : Int32) (v3 : Int32) : Prop :=
  ((¬ (S.1 10) = 0 → wp_X8_closes_112 Q S v2 v3) ∧ ((S.1 10) = 0 → vp_in (364 * v2) 13104 ∧ ((¬ v3 = 69 → wp_X8_closes_108 Q S v2 v3 (S.2.2 0 (364 * v2).toNatClampNeg) 1) ∧ (v3 = 69 → wp_X8_closes_108 Q S v2 v3 (S.2.2 0 (364 * v2).toNatClampNeg) 0))))
def wp_X8_closes (S : ms_T) (a1 : Int32) (Q : ms_T → Prop) : Prop :=
  wp_X8_closesTerm S (fun (S8 : ms_T) => wp_X8_slot (S8.1 9) 0 (fun r9 : Int32 => vp_in (S8.1 9) 8 ∧ ∀ v3_11 : Int32, v3_11 = S8.2.1 13 (S8.1 9).toNatClampNeg → ((¬ a1 = 93 → ((v3_11 = 69 → wp_X8_closes_79 Q S8 r9 v3_11) ∧ (¬ v3_11 = 69 → ((¬ v3_11 = 76 → wp_X8_copies S8 8 r9 (fun (S12 : ms_T) => wp_X8_closes_168 Q S12)) ∧ (v3_11 = 76 → wp_X8_closes_79 Q S8 r9 v3_11))))) ∧ (a1 = 93 → wp_X8_slot (S8.1 9) 1 (fun r13 : Int32 => wp_X8_slot (S8.1 9) 2 (fun r14 : Int32 => wp_X8_bracketOf S8 r13 r14 r9 (fun (S15 : ms_T) => wp_X8_slot (S15.1 9) 1 (fun r16 : Int32 => wp_X8_copies S15 8 r16 (fun (S17 : ms_T) => wp_X8_closes_168 Q S17)))))))))
def wb_X8_number_5  (K5 : ms_T → Int32 → Int32 → Int32 → Int32 → Prop) (Q : Int32 → ms_T → Prop) (S : ms_T) (v1 : Int32) (v2 : Int32) (v3 : Int32) (v4 : Int32) : Prop :=
  ((v2 ≤ v4 → Q v3 S) ∧ (¬ v2 ≤ v4 → wp_X8_byteAt S (v1 + v4) (fun (r2 : Int32) (S1 : ms_T) => ∀ v3_3 : Int32, v3_3 = ((10 * v3) + r2) - 48 → ∀ v4_4 : Int32, v4_4 = v4 + 1 → K5 S1 v1 v2 v3_3 v4_4)))
def wp_X8_number_5  (Q : Int32 → ms_T → Prop) : Nat → ms_T → Int32 → Int32 → Int32 → Int32 → Prop
  | 0 => fun _ _ _ _ _ => False
  | n + 1 => fun S v1 v2 v3 v4 => wb_X8_number_5 (wp_X8_number_5 Q n) Q S v1 v2 v3 v4
def wp_X8_number (S : ms_T) (a1 : Int32) (a2 : Int32) (Q : Int32 → ms_T → Prop) : Prop :=
  ∃ n : Nat, wp_X8_number_5 Q n S a1 a2 0 0
def wp_X8_works_353 (K18 : ms_T → Int32 → Prop) (Q : ms_T → Prop) (S : ms_T) (v1 : Int32) (v3 : Int32) : Prop :=
  ∀ v1_1 : Int32, v1_1 = v1 + v3 → K18 S v1_1
def wp_X8_works_201 (K18 : ms_T → Int32 → Prop) (Q : ms_T → Prop) (S : ms_T) (v1 : Int32) (v3 : Int32) (s0 : Int32) (s1 : Int64) : Prop :=
  vp_in s0 8 ∧ wp_X8_works_353 K18 Q (ms_sJ S 8 s0.toNatClampNeg s1) v1 v3
def wp_X8_works_176 (K18 : ms_T → Int32 → Prop) (Q : ms_T → Prop) (S : ms_T) (v1 : Int32) (v2 : Int32) (v3 : Int32) : Prop :=
  wp_X8_closesTerm S (fun (S3 : ms_T) => ((¬ v2 = 43 → wp_X8_works_201 K18 Q S3 v1 v3 (S3.1 9) 2147483646) ∧ (v2 = 43 → wp_X8_works_201 K18 Q S3 v1 v3 (S3.1 9) 1)))
def wp_X8_works_272 (K18 : ms_T → Int32 → Prop) (Q : ms_T → Prop) (S : ms_T) (v1 : Int32) (v2 : Int32) (v3 : Int32) : Prop :=
  wp_X8_closes S v2 (fun (S4 : ms_T) => wp_X8_works_353 K18 Q S4 v1 v3)
def wp_X8_works_292 (K18 : ms_T → Int32 → Prop) (Q : ms_T → Prop) (S : ms_T) (v1 : Int32) (v2 : Int32) (v3 : Int32) : Prop :=
  wp_X8_opensFrame S v2 (fun (S5 : ms_T) => wp_X8_works_353 K18 Q S5 v1 v3)
def wp_X8_works_312 (K18 : ms_T → Int32 → Prop) (Q : ms_T → Prop) (S : ms_T) (v1 : Int32) (v2 : Int32) : Prop :=
  wp_X8_opensFrame S v2 (fun (S6 : ms_T) => wp_X8_works_353 K18 Q S6 v1 2)
def wb_X8_works_18  (K18 : ms_T → Int32 → Prop) (Q : ms_T → Prop) (S : ms_T) (v1 : Int32) : Prop :=
  (((S.1 7) ≤ v1 → wp_X8_closesTerm S (fun (S7 : ms_T) => Q S7)) ∧ (¬ (S.1 7) ≤ v1 → ((¬ (S.1 10) = 0 → wp_X8_closesTerm S (fun (S8 : ms_T) => Q S8)) ∧ ((S.1 10) = 0 → wp_X8_byteAt S v1 (fun (r10 : Int32) (S9 : ms_T) => wp_X8_isDigit r10 (fun r11 : Int32 => ((r11 = 0 → ((¬ r10 = 114 → ((¬ r10 = 47 → ((r10 = 43 → wp_X8_works_176 K18 Q S9 v1 r10 1) ∧ (¬ r10 = 43 → ((¬ r10 = 45 → ((¬ r10 = 44 → ((r10 = 41 → wp_X8_works_272 K18 Q S9 v1 r10 1) ∧ (¬ r10 = 41 → ((¬ r10 = 93 → ((r10 = 91 → wp_X8_works_292 K18 Q S9 v1 r10 1) ∧ (¬ r10 = 91 → ((¬ r10 = 40 → ((r10 = 69 → wp_X8_works_312 K18 Q S9 v1 r10) ∧ (¬ r10 = 69 → ((¬ r10 = 76 → wp_X8_clears S9 8 (fun (S12 : ms_T) => vp_in ((1 : Int32)) 8 ∧ vp_in (((2912 + (S12.2.1 1 ((1 : Int32)).toNatClampNeg)) + r10) - 97) 13104 ∧ wp_X8_factor (ms_sJ S12 0 (((2912 + (S12.2.1 1 ((1 : Int32)).toNatClampNeg)) + r10) - 97).toNatClampNeg 1) (fun (S15 : ms_T) => wp_X8_works_353 K18 Q S15 v1 1))) ∧ (r10 = 76 → wp_X8_works_312 K18 Q S9 v1 r10))))) ∧ (r10 = 40 → wp_X8_works_292 K18 Q S9 v1 r10 1))))) ∧ (r10 = 93 → wp_X8_works_272 K18 Q S9 v1 r10 1))))) ∧ (r10 = 44 → wp_X8_closesTerm S9 (fun (S16 : ms_T) => wp_X8_slot (S16.1 9) 2 (fun r17 : Int32 => wp_X8_slot (S16.1 9) 0 (fun r18 : Int32 => wp_X8_copies S16 r17 r18 (fun (S19 : ms_T) => wp_X8_slot (S19.1 9) 0 (fun r20 : Int32 => wp_X8_clears S19 r20 (fun (S21 : ms_T) => vp_in (S21.1 9) 8 ∧ wp_X8_works_353 K18 Q (ms_sJ S21 8 (S21.1 9).toNatClampNeg 1) v1 1))))))))) ∧ (r10 = 45 → wp_X8_works_176 K18 Q S9 v1 r10 1))))) ∧ (r10 = 47 → wp_X8_digitsFrom S9 (v1 + 1) (fun (r24 : Int32) (S23 : ms_T) => ∀ v3_25 : Int32, v3_25 = 1 + r24 → wp_X8_clears S23 8 (fun (S26 : ms_T) => wp_X8_number S26 (v1 + 1) (v3_25 - 1) (fun (r28 : Int32) (S27 : ms_T) => wp_X8_inverted r28.toInt64 (fun r29 : Int64 => vp_in ((2912 : Int32)) 13104 ∧ wp_X8_factor (ms_sJ S27 0 ((2912 : Int32)).toNatClampNeg r29) (fun (S31 : ms_T) => wp_X8_works_353 K18 Q S31 v1 v3_25)))))))) ∧ (r10 = 114 → wp_X8_byteAt S9 (v1 + 1) (fun (r33 : Int32) (S32 : ms_T) => wp_X8_copies S32 8 (r33 - 48) (fun (S34 : ms_T) => wp_X8_factor S34 (fun (S35 : ms_T) => wp_X8_works_353 K18 Q S35 v1 2)))))) ∧ (¬ r11 = 0 → wp_X8_digitsFrom S9 v1 (fun (r37 : Int32) (S36 : ms_T) => wp_X8_clears S36 8 (fun (S38 : ms_T) => wp_X8_number S38 v1 r37 (fun (r40 : Int32) (S39 : ms_T) => vp_in ((2912 : Int32)) 13104 ∧ wp_X8_factor (ms_sJ S39 0 ((2912 : Int32)).toNatClampNeg r40.toInt64) (fun (S42 : ms_T) => wp_X8_works_353 K18 Q S42 v1 r37))))))))))))
def wp_X8_works_18  (Q : ms_T → Prop) : Nat → ms_T → Int32 → Prop
  | 0 => fun _ _ => False
  | n + 1 => fun S v1 => wb_X8_works_18 (wp_X8_works_18 Q n) Q S v1
def wp_X8_works (S : ms_T) (Q : ms_T → Prop) : Prop :=
  wp_X8_opensFrame (ms_sF (ms_sF S 9 ((-1))) 10 0) 40 (fun (S43 : ms_T) => ∃ n : Nat, wp_X8_works_18 Q n S43 0)
def wp_X8_read (S : ms_T) (a1 : Int32) (Q : Int32 → ms_T → Prop) : Prop :=
  wp_X8_isSum a1 (fun r1 : Int32 => ((¬ r1 = 0 → wp_X8_reads S (fun (r3 : Int32) (S2 : ms_T) => ((r3 = ((-1)) → wp_X8_works S2 (fun (S4 : ms_T) => ((((ms_sF S4 7 0).1 10) = 0 → wp_X8_slot 0 0 (fun r5 : Int32 => wp_X8_copies (ms_sF S4 7 0) a1 r5 (fun (S6 : ms_T) => Q 0 S6))) ∧ (¬ ((ms_sF S4 7 0).1 10) = 0 → Q ((-9)) (ms_sF S4 7 0))))) ∧ (¬ r3 = ((-1)) → Q (((-10)) - r3) (ms_sF S2 7 0))))) ∧ (r1 = 0 → Q ((-1)) S)))
def wp_X8_count (S : ms_T) (a1 : Int32) (Q : Int32 → ms_T → Prop) : Prop :=
  ((a1 = 0 → Q (S.1 0) S) ∧ (a1 = 1 → Q (S.1 1) S) ∧ (a1 = 2 → Q (S.1 2) S) ∧ (a1 = 3 → Q (S.1 3) S) ∧ (a1 = 4 → Q (S.1 4) S) ∧ (a1 = 5 → Q (S.1 5) S) ∧ (a1 = 6 → Q (S.1 7) S) ∧ (¬ a1 = 0 ∧ ¬ a1 = 1 ∧ ¬ a1 = 2 ∧ ¬ a1 = 3 ∧ ¬ a1 = 4 ∧ ¬ a1 = 5 ∧ ¬ a1 = 6 → Q ((-1)) S))
def wp_X3_plus (a0 : Int32) (a1 : Int32) (Q : Int32 → Prop) : Prop :=
  ∀ v2_1 : Int32, v2_1 = a0 - (2147483647 - a1) → ((0 ≤ v2_1 → Q v2_1) ∧ (¬ 0 ≤ v2_1 → Q (v2_1 + 2147483647)))
def wp_X3_minus (a0 : Int32) (a1 : Int32) (Q : Int32 → Prop) : Prop :=
  ∀ v2_1 : Int32, v2_1 = a0 - a1 → ((0 ≤ v2_1 → Q v2_1) ∧ (¬ 0 ≤ v2_1 → Q (v2_1 + 2147483647)))
def wp_X3_product (a0 : Int32) (a1 : Int32) (Q : Int32 → Prop) : Prop :=
  Q ((xr_remL (a0.toInt64 * a1.toInt64) 2147483647).toInt32)
def wp_X3_productMore (a0 : Int32) (a1 : Int32) (a2 : Int32) (Q : Int32 → Prop) : Prop :=
  Q ((xr_remL (a0.toInt64 + (a1.toInt64 * a2.toInt64)) 2147483647).toInt32)
def wp_X3_reciprocal_33 (K10 : Int32 → Int32 → Int32 → Int32 → Prop) (Q : Int32 → Prop) (v1 : Int32) (v2 : Int32) (v3 : Int32) (v4 : Int32) : Prop :=
  wp_X3_product v2 v2 (fun r1 : Int32 => ∀ v4_2 : Int32, v4_2 = v4 + 1 → K10 v1 r1 v3 v4_2)
def wb_X3_reciprocal_10  (K10 : Int32 → Int32 → Int32 → Int32 → Prop) (Q : Int32 → Prop) (v1 : Int32) (v2 : Int32) (v3 : Int32) (v4 : Int32) : Prop :=
  ((31 ≤ v4 → Q v3) ∧ (¬ 31 ≤ v4 → ((¬ ((v1 >>> (v4 &&& 31)) &&& 1) = 1 → wp_X3_reciprocal_33 K10 Q v1 v2 v3 v4) ∧ (((v1 >>> (v4 &&& 31)) &&& 1) = 1 → wp_X3_product v3 v2 (fun r3 : Int32 => wp_X3_reciprocal_33 K10 Q v1 v2 r3 v4)))))
def wp_X3_reciprocal_10  (Q : Int32 → Prop) : Nat → Int32 → Int32 → Int32 → Int32 → Prop
  | 0 => fun _ _ _ _ => False
  | n + 1 => fun v1 v2 v3 v4 => wb_X3_reciprocal_10 (wp_X3_reciprocal_10 Q n) Q v1 v2 v3 v4
def wp_X3_reciprocal (a0 : Int32) (Q : Int32 → Prop) : Prop :=
  ∃ n : Nat, wp_X3_reciprocal_10 Q n 2147483645 a0 1 0
def wp_X3_nearNought (a0 : Int32) (Q : Int32 → Prop) : Prop :=
  ((a0 ≤ 1073741823 → Q a0) ∧ (¬ a0 ≤ 1073741823 → Q (a0 - 2147483647)))
