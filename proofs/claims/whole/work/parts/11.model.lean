/-! the reference's world: its one object, 14 int arrays, 9 long arrays, by a pure state (fields, int arrays, long arrays) -/
abbrev ms_T : Type := (Nat → Int32) × (Nat → Nat → Int32) × (Nat → Nat → Int64)
def ms_nI (k : Nat) : Nat := match k with
  | 0 => 8 | 1 => 8 | 2 => 364 | 3 => 100 | 4 => 100 | 5 => 100 | 6 => 100 | 7 => 364 | 8 => 12 | 9 => 4 | 10 => 100 | 11 => 100 | 12 => 8 | _ => 8
def ms_nJ (k : Nat) : Nat := match k with
  | 0 => 13104 | 1 => 25600 | 2 => 256 | 3 => 256 | 4 => 12 | 5 => 1024 | 6 => 25600 | 7 => 25600 | _ => 8
/-- the object's fields in the order of the slots -/
def ms_fs (ad : Nat → Nat) (F : Nat → Int32) : List Value := [.int (F 0), .int (F 1), .int (F 2), .ref (ad 1), .ref (ad 2), .ref (ad 3), .ref (ad 15), .int (F 3), .ref (ad 4), .ref (ad 5), .ref (ad 6), .ref (ad 7), .ref (ad 8), .ref (ad 16), .ref (ad 17), .ref (ad 18), .int (F 4), .ref (ad 9), .ref (ad 19), .int (F 5), .ref (ad 10), .ref (ad 20), .ref (ad 21), .ref (ad 11), .int (F 6), .ref (ad 22), .ref (ad 12), .int (F 7), .ref (ad 13), .int (F 8), .ref (ad 14), .ref (ad 23), .int (F 9), .int (F 10)]
def ms_w (ad : Nat → Nat) (cI cJ : ClassId) (S : ms_T) : va_W := (ad 0, .inr (7, ms_fs ad S.1)) :: ((List.range 14).map (fun k => (ad (1 + k), .inl (cI, ms_nI k, .inl (S.2.1 k)))) ++ (List.range 9).map (fun k => (ad (15 + k), .inl (cJ, ms_nJ k, .inr (.inl (S.2.2 k))))))
def ms_sF (S : ms_T) (k : Nat) (v : Int32) : ms_T := (va_up S.1 k v, S.2.1, S.2.2)
def ms_sI (S : ms_T) (k i : Nat) (v : Int32) : ms_T := (S.1, va_up S.2.1 k (upd (S.2.1 k) i v), S.2.2)
def ms_sJ (S : ms_T) (k i : Nat) (v : Int64) : ms_T := (S.1, S.2.1, va_up S.2.2 k (vp_updL (S.2.2 k) i v))
theorem ms_gO {ad : Nat → Nat} {cI cJ : ClassId} {S : ms_T} : (ms_w ad cI cJ S)[0]? = some (ad 0, .inr (7, ms_fs ad S.1)) := rfl
theorem ms_gI {ad : Nat → Nat} {cI cJ : ClassId} {S : ms_T} {k : Nat} (hk : k < 14) : (ms_w ad cI cJ S)[1 + k]? = some (ad (1 + k), .inl (cI, ms_nI k, .inl (S.2.1 k))) := by
  rw [Nat.add_comm 1 k]
  simp [ms_w, List.getElem?_append, hk, Nat.add_comm]
theorem ms_gJ {ad : Nat → Nat} {cI cJ : ClassId} {S : ms_T} {k : Nat} (hk : k < 9) : (ms_w ad cI cJ S)[15 + k]? = some (ad (15 + k), .inl (cJ, ms_nJ k, .inr (.inl (S.2.2 k)))) := by
  rw [show 15 + k = (14 + k) + 1 from by omega]
  simp [ms_w, List.getElem?_append, hk, show ¬ 14 + k < 14 from by omega, show 15 + k = 14 + k + 1 from by omega]
theorem ms_len {ad : Nat → Nat} {cI cJ : ClassId} {S : ms_T} : (ms_w ad cI cJ S).length = 24 := by simp [ms_w]
/-- a world's places, one by one -/
theorem ms_ext {ad : Nat → Nat} {cI cJ : ClassId} {S : ms_T} {w : va_W} (h0 : w.length = 24) (hO : w[0]? = some (ad 0, .inr (7, ms_fs ad S.1))) (hI : ∀ k, k < 14 → w[1 + k]? = some (ad (1 + k), .inl (cI, ms_nI k, .inl (S.2.1 k)))) (hJ : ∀ k, k < 9 → w[15 + k]? = some (ad (15 + k), .inl (cJ, ms_nJ k, .inr (.inl (S.2.2 k))))) : w = ms_w ad cI cJ S := by
  apply List.ext_getElem?
  intro j
  by_cases h1 : j = 0
  · subst h1; rw [hO, ms_gO]
  · by_cases h2 : j < 15
    · obtain ⟨k, rfl⟩ : ∃ k, j = 1 + k := ⟨j - 1, by omega⟩
      rw [hI k (by omega), ms_gI (by omega)]
    · by_cases h3 : j < 24
      · obtain ⟨k, rfl⟩ : ∃ k, j = 15 + k := ⟨j - 15, by omega⟩
        rw [hJ k (by omega), ms_gJ (by omega)]
      · rw [List.getElem?_eq_none (by omega), List.getElem?_eq_none (by rw [ms_len]; omega)]
theorem ms_uI {ad : Nat → Nat} {cI cJ : ClassId} {S : ms_T} {k i : Nat} {v : Int32} (hk : k < 14) : (ms_w ad cI cJ S).set (1 + k) (ad (1 + k), .inl (cI, ms_nI k, .inl (upd (S.2.1 k) i v))) = ms_w ad cI cJ (ms_sI S k i v) := by
  apply ms_ext
  · rw [List.length_set, ms_len]
  · rw [List.getElem?_set_ne (by omega), ms_gO]; rfl
  · intro j hj
    by_cases h : j = k
    · subst h
      rw [List.getElem?_set_self (by rw [ms_len]; omega)]
      simp [ms_sI, va_up]
    · rw [List.getElem?_set_ne (by omega), ms_gI hj]
      simp [ms_sI, va_up, h]
  · intro j hj
    rw [List.getElem?_set_ne (by omega), ms_gJ hj]; rfl
theorem ms_uJ {ad : Nat → Nat} {cI cJ : ClassId} {S : ms_T} {k i : Nat} {v : Int64} (hk : k < 9) : (ms_w ad cI cJ S).set (15 + k) (ad (15 + k), .inl (cJ, ms_nJ k, .inr (.inl (vp_updL (S.2.2 k) i v)))) = ms_w ad cI cJ (ms_sJ S k i v) := by
  apply ms_ext
  · rw [List.length_set, ms_len]
  · rw [List.getElem?_set_ne (by omega), ms_gO]; rfl
  · intro j hj
    rw [List.getElem?_set_ne (by omega), ms_gI hj]; rfl
  · intro j hj
    by_cases h : j = k
    · subst h
      rw [List.getElem?_set_self (by rw [ms_len]; omega)]
      simp [ms_sJ, va_up]
    · rw [List.getElem?_set_ne (by omega), ms_gJ hj]
      simp [ms_sJ, va_up, h]
theorem ms_uF {ad : Nat → Nat} {cI cJ : ClassId} {S : ms_T} {j k : Nat} {v : Int32} (h : (ms_fs ad S.1).set j (.int v) = ms_fs ad (va_up S.1 k v)) : (ms_w ad cI cJ S).set 0 (ad 0, .inr (7, (ms_fs ad S.1).set j (.int v))) = ms_w ad cI cJ (ms_sF S k v) := by rw [h]; rfl
theorem ms_f2 {ad : Nat → Nat} {F : Nat → Int32} {v : Int32} : (ms_fs ad F).set 2 (.int v) = ms_fs ad (va_up F 2 v) := by simp [ms_fs, va_up]
theorem ms_f7 {ad : Nat → Nat} {F : Nat → Int32} {v : Int32} : (ms_fs ad F).set 7 (.int v) = ms_fs ad (va_up F 3 v) := by simp [ms_fs, va_up]
theorem ms_f16 {ad : Nat → Nat} {F : Nat → Int32} {v : Int32} : (ms_fs ad F).set 16 (.int v) = ms_fs ad (va_up F 4 v) := by simp [ms_fs, va_up]
theorem ms_f19 {ad : Nat → Nat} {F : Nat → Int32} {v : Int32} : (ms_fs ad F).set 19 (.int v) = ms_fs ad (va_up F 5 v) := by simp [ms_fs, va_up]
theorem ms_f24 {ad : Nat → Nat} {F : Nat → Int32} {v : Int32} : (ms_fs ad F).set 24 (.int v) = ms_fs ad (va_up F 6 v) := by simp [ms_fs, va_up]
theorem ms_f27 {ad : Nat → Nat} {F : Nat → Int32} {v : Int32} : (ms_fs ad F).set 27 (.int v) = ms_fs ad (va_up F 7 v) := by simp [ms_fs, va_up]
theorem ms_f29 {ad : Nat → Nat} {F : Nat → Int32} {v : Int32} : (ms_fs ad F).set 29 (.int v) = ms_fs ad (va_up F 8 v) := by simp [ms_fs, va_up]
theorem ms_f32 {ad : Nat → Nat} {F : Nat → Int32} {v : Int32} : (ms_fs ad F).set 32 (.int v) = ms_fs ad (va_up F 9 v) := by simp [ms_fs, va_up]
theorem ms_f33 {ad : Nat → Nat} {F : Nat → Int32} {v : Int32} : (ms_fs ad F).set 33 (.int v) = ms_fs ad (va_up F 10 v) := by simp [ms_fs, va_up]
abbrev ms_ty (cI cJ cR : ClassId) : List (ClassId × FieldType) := [(cI, .int), (cJ, .long), (cR, .array .int)]
section MS
variable {p : Program} {l : Launch} {e : Env} {R : Room} {s : State} {m : MethodId} {args : Array Value} {below : List Frame} {meth : Method} {c : Code} {H : Heap} {locs : List Loc} {cells slots : Nat} {Q : State → Prop}
variable {cc : ByteArray} {pc : Nat} {ls : Array Slot} {rest : List Value} {D : va_G} {A : Nat → Prop} {nL : Nat} {Ts : List Cond} {ret : Option FieldType} {ad : Nat → Nat} {cI cJ cR : ClassId} {S : ms_T}
theorem ms_recv (hK : xr_K D (ms_ty cI cJ cR) s) (hP : va_P D vwCl (ms_w ad cI cJ S) H) : ∃ cell : Cell, H[ad 0]? = some cell ∧ cell.vm.isStatics = false ∧ s.vm.findClass RX8 = some cell.cls := va_recv hK.1 hP (ci := 7) (q0 := 0) rfl ms_gO
theorem ms_get (j : Nat) {v : Value} {index : Nat} (fx : xr_Fx p m c meth cc nL s args Ts RX8 ret) (hin : ∀ w ∈ wsX80, w ∈ Ts) (hj : j < 34) (hv : (ms_fs ad S.1)[j]? = some v) (hlink : Cond.fieldLink RX8 index "BracketLettersModel" (TX8 j).2.1 (TX8 j).2.2.1 ∈ Ts) (hcl : (TX8 j).1 = "BracketLettersModel") (hK : xr_K D (ms_ty cI cJ cR) s) (hP : va_P D vwCl (ms_w ad cI cJ S) H) (hdg : decode cc pc = .ok (.getfield index, 3))
    (kk : W p l e R s m args below meth c H locs cells slots Q (F0 m (pc + 3) ls (v :: rest))) : W p l e R s m args below meth c H locs cells slots Q (F0 m pc ls (.ref (ad 0) :: rest)) := by
  obtain ⟨⟨hx, hb, hml, hown, hts⟩, -, -⟩ := fx
  exact va_get (D := D) (ci := 7) (v := v) (C := RX8) (T := TX8) (N := 34) hx hb hts hin hown hK.1 hP 0 ms_gO rfl j hj (hts _ hlink) (fun x h => by rw [← hcl]; exact h) hv hdg kk
theorem ms_put (j k : Nat) {v : Int32} {index : Nat} {ty : FieldType} (fx : xr_Fx p m c meth cc nL s args Ts RX8 ret) (hin : ∀ w ∈ wsX80, w ∈ Ts) (hj : j < 34) (hu : (ms_fs ad S.1).set j (.int v) = ms_fs ad (va_up S.1 k v)) (hlink : Cond.fieldLink RX8 index "BracketLettersModel" (TX8 j).2.1 (TX8 j).2.2.1 ∈ Ts) (hcl : (TX8 j).1 = "BracketLettersModel") (hfin : (TX8 j).2.2.2 = false) (hd : parseFieldDescriptor (TX8 j).2.2.1 = some ty) (hn : narrow ty (.int v) = .int v) (hfit : fits ty (.int v) = true) (hK : xr_K D (ms_ty cI cJ cR) s) (hP : va_P D vwCl (ms_w ad cI cJ S) H) (hD : va_D A (ms_w ad cI cJ S)) (hS : va_S A s.heap H locs) (hdg : decode cc pc = .ok (.putfield index, 3))
    (kk : ∀ (H1 : Heap) (locs1 : List Loc), va_P D vwCl (ms_w ad cI cJ (ms_sF S k v)) H1 → va_D A (ms_w ad cI cJ (ms_sF S k v)) → va_S A s.heap H1 locs1 → W p l e R s m args below meth c H1 locs1 cells slots Q (F0 m (pc + 3) ls rest)) : W p l e R s m args below meth c H locs cells slots Q (F0 m pc ls (.int v :: .ref (ad 0) :: rest)) := by
  obtain ⟨⟨hx, hb, hml, hown, hts⟩, -, -⟩ := fx
  refine va_put (D := D) (ci := 7) (v := .int v) (ty := ty) (C := RX8) (T := TX8) (N := 34) hx hb hts hin tyX8 tyX8_ok nmX8 hown hK.1 hP hD hS 0 ms_gO rfl j hj (hts _ hlink) (fun x h => by rw [← hcl]; exact h) hfin hd hn hfit hj hdg (fun H1 locs1 hP1 hD1 hS1 => ?_)
  rw [ms_uF hu] at hP1 hD1
  exact kk H1 locs1 hP1 hD1 hS1
theorem ms_iald (k : Nat) (hk : k < 14) {i : Int32} (fx : xr_Fx p m c meth cc nL s args Ts RX8 ret) (hK : xr_K D (ms_ty cI cJ cR) s) (hP : va_P D vwCl (ms_w ad cI cJ S) H) {x : Nat} (ha : x = ad (1 + k)) (hi : vp_in i (ms_nI k)) (hdg : decode cc pc = .ok (.iaload, 1))
    (kk : W p l e R s m args below meth c H locs cells slots Q (F0 m (pc + 1) ls (.int (S.2.1 k i.toNatClampNeg) :: rest))) : W p l e R s m args below meth c H locs cells slots Q (F0 m pc ls (.int i :: .ref x :: rest)) := by
  obtain ⟨⟨hx, hb, hml, hown, hts⟩, -, -⟩ := fx
  subst ha
  exact va_iald hx hb hK.1 hP (1 + k) 0 (ms_gI hk) rfl hi hdg kk
theorem ms_lald (k : Nat) (hk : k < 9) {i : Int32} (fx : xr_Fx p m c meth cc nL s args Ts RX8 ret) (hK : xr_K D (ms_ty cI cJ cR) s) (hP : va_P D vwCl (ms_w ad cI cJ S) H) {x : Nat} (ha : x = ad (15 + k)) (hi : vp_in i (ms_nJ k)) (hdg : decode cc pc = .ok (.laload, 1))
    (kk : W p l e R s m args below meth c H locs cells slots Q (F0 m (pc + 1) ls (.long (S.2.2 k i.toNatClampNeg) :: rest))) : W p l e R s m args below meth c H locs cells slots Q (F0 m pc ls (.int i :: .ref x :: rest)) := by
  obtain ⟨⟨hx, hb, hml, hown, hts⟩, -, -⟩ := fx
  subst ha
  exact va_lald hx hb hK.1 hP (15 + k) 1 (ms_gJ hk) rfl hi hdg kk
theorem ms_iast (k : Nat) (hk : k < 14) {i v : Int32} (fx : xr_Fx p m c meth cc nL s args Ts RX8 ret) (hK : xr_K D (ms_ty cI cJ cR) s) (hP : va_P D vwCl (ms_w ad cI cJ S) H) (hD : va_D A (ms_w ad cI cJ S)) (hS : va_S A s.heap H locs) {x : Nat} (ha : x = ad (1 + k)) (hi : vp_in i (ms_nI k)) (hdg : decode cc pc = .ok (.iastore, 1))
    (kk : ∀ (H1 : Heap) (locs1 : List Loc), va_P D vwCl (ms_w ad cI cJ (ms_sI S k i.toNatClampNeg v)) H1 → va_D A (ms_w ad cI cJ (ms_sI S k i.toNatClampNeg v)) → va_S A s.heap H1 locs1 → W p l e R s m args below meth c H1 locs1 cells slots Q (F0 m (pc + 1) ls rest)) : W p l e R s m args below meth c H locs cells slots Q (F0 m pc ls (.int v :: .int i :: .ref x :: rest)) := by
  obtain ⟨⟨hx, hb, hml, hown, hts⟩, -, -⟩ := fx
  subst ha
  refine va_iast hx hb hK.1 hP hD hS (1 + k) 0 (ms_gI hk) rfl hi hdg (fun H1 locs1 hP1 hD1 hS1 => ?_)
  rw [ms_uI hk] at hP1 hD1
  exact kk H1 locs1 hP1 hD1 hS1
theorem ms_last (k : Nat) (hk : k < 9) {i : Int32} {v : Int64} (fx : xr_Fx p m c meth cc nL s args Ts RX8 ret) (hK : xr_K D (ms_ty cI cJ cR) s) (hP : va_P D vwCl (ms_w ad cI cJ S) H) (hD : va_D A (ms_w ad cI cJ S)) (hS : va_S A s.heap H locs) {x : Nat} (ha : x = ad (15 + k)) (hi : vp_in i (ms_nJ k)) (hdg : decode cc pc = .ok (.lastore, 1))
    (kk : ∀ (H1 : Heap) (locs1 : List Loc), va_P D vwCl (ms_w ad cI cJ (ms_sJ S k i.toNatClampNeg v)) H1 → va_D A (ms_w ad cI cJ (ms_sJ S k i.toNatClampNeg v)) → va_S A s.heap H1 locs1 → W p l e R s m args below meth c H1 locs1 cells slots Q (F0 m (pc + 1) ls rest)) : W p l e R s m args below meth c H locs cells slots Q (F0 m pc ls (.long v :: .int i :: .ref x :: rest)) := by
  obtain ⟨⟨hx, hb, hml, hown, hts⟩, -, -⟩ := fx
  subst ha
  refine va_last hx hb hK.1 hP hD hS (15 + k) 1 (ms_gJ hk) rfl hi hdg (fun H1 locs1 hP1 hD1 hS1 => ?_)
  rw [ms_uJ hk] at hP1 hD1
  exact kk H1 locs1 hP1 hD1 hS1
end MS
