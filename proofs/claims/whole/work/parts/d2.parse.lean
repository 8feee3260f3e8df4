/-! texts: what is read from a tape, by levels -/
abbrev RS : Type := Bool × Nat × Option (Nat → Kf)
def bt (t : Nat) (b : Nat → Nat) (k : Nat) : Nat := if k < t then b k else 256
abbrev dgP (c : Nat) : Prop := 48 ≤ c ∧ c ≤ 57
abbrev ltP (L c : Nat) : Prop := 97 ≤ c ∧ c < 97 + L
abbrev bgP (L c : Nat) : Prop := dgP c ∨ ltP L c ∨ c = 114 ∨ c = 91 ∨ c = 40 ∨ c = 69 ∨ c = 76
def dgn (f : Nat → Nat) : Nat → Nat → Nat
  | 0, _ => 0
  | m + 1, k => if 48 ≤ f k ∧ f k ≤ 57 then dgn f m (k + 1) + 1 else 0
def nmv (f : Nat → Nat) (k : Nat) : Nat → Nat
  | 0 => 0
  | n + 1 => nmv f k n * 10 + (f (k + n) - 48)
theorem nmv_lt {f : Nat → Nat} {k : Nat} : ∀ n, (∀ i, i < n → f (k + i) ≤ 57) → nmv f k n < 10 ^ n
  | 0, _ => by rw [Nat.pow_zero]; exact Nat.zero_lt_one
  | n + 1, h => by
    have ih := nmv_lt (f := f) (k := k) n (fun i hi => h i (by omega))
    have := h n (by omega)
    show nmv f k n * 10 + (f (k + n) - 48) < 10 ^ (n + 1)
    rw [Nat.pow_succ]
    omega
theorem dgn_le {f : Nat → Nat} : ∀ m k, dgn f m k ≤ m
  | 0, _ => Nat.le_refl _
  | m + 1, k => by
    unfold dgn
    by_cases e : 48 ≤ f k ∧ f k ≤ 57
    · rw [if_pos e]
      have := dgn_le (f := f) m (k + 1)
      omega
    · rw [if_neg e]; omega
theorem dgn_dg {f : Nat → Nat} : ∀ m k i, i < dgn f m k → 48 ≤ f (k + i) ∧ f (k + i) ≤ 57
  | 0, _, _, h => absurd h (Nat.not_lt_zero _)
  | m + 1, k, i, h => by
    unfold dgn at h
    by_cases e : 48 ≤ f k ∧ f k ≤ 57
    · rw [if_pos e] at h
      cases i with
      | zero => exact e
      | succ i =>
        have := dgn_dg (f := f) m (k + 1) i (by omega)
        rwa [show k + 1 + i = k + (i + 1) by omega] at this
    · rw [if_neg e] at h
      exact absurd h (Nat.not_lt_zero _)
theorem dgn_end {f : Nat → Nat} : ∀ m k, dgn f m k < m → ¬ (48 ≤ f (k + dgn f m k) ∧ f (k + dgn f m k) ≤ 57)
  | 0, _, h => absurd h (Nat.not_lt_zero _)
  | m + 1, k, h => by
    unfold dgn at h ⊢
    by_cases e : 48 ≤ f k ∧ f k ≤ 57
    · rw [if_pos e] at h ⊢
      have := dgn_end (f := f) m (k + 1) (by omega)
      rwa [show k + 1 + dgn f m (k + 1) = k + (dgn f m (k + 1) + 1) by omega] at this
    · rw [if_neg e]
      exact e
theorem dgn_pos {f : Nat → Nat} {k : Nat} (h : 48 ≤ f k ∧ f k ≤ 57) : 1 ≤ dgn f 4 k := by
  show 1 ≤ (if 48 ≤ f k ∧ f k ≤ 57 then dgn f 3 (k + 1) + 1 else 0)
  rw [if_pos h]; omega
def mulO (L d : Nat) : Option (Nat → Kf) → Option (Nat → Kf) → Option (Nat → Kf)
  | some x, some y => some (mulK L d x y)
  | _, _ => none
def comO (L d : Nat) : Option (Nat → Kf) → Option (Nat → Kf) → Option (Nat → Kf)
  | some x, some y => some (fun j => mulK L d x y j + mulK L d y x j * kN 2147483646)
  | _, _ => none
def addO : Option (Nat → Kf) → Kf → Option (Nat → Kf) → Option (Nat → Kf)
  | some x, s, some y => some (fun j => x j + y j * s)
  | _, _, _ => none
noncomputable def elO (L d c : Nat) : Option (Nat → Kf) → Option (Nat → Kf)
  | some x => if c = 69 then (if x 0 = 0 then some (serK L d 0 (nzK x)) else none) else (if x 0 = 1 then some (serK L d 1 (nzK x)) else none)
  | none => none
noncomputable def facR (L d : Nat) (f : Nat → Nat) (X : Nat → Nat → Kf) (ok : Bool) (T : Nat → RS) (k : Nat) : RS :=
  if 48 ≤ f k ∧ f k ≤ 57 then (true, k + dgn f 4 k, some (unitK (kN (nmv f k (dgn f 4 k)))))
  else if 97 ≤ f k ∧ f k < 97 + L then (true, k + 1, some (plK L d (lt2 (f k - 97))))
  else if f k = 114 then (if 48 ≤ f (k + 1) ∧ f (k + 1) ≤ 55 then (true, k + 2, some (X (f (k + 1) - 48))) else (false, k + 1, none))
  else if f k = 91 then
    (if ok = false then (false, k, none) else if (T (k + 1)).1 = false then (false, (T (k + 1)).2.1, none) else if f (T (k + 1)).2.1 ≠ 44 then (false, (T (k + 1)).2.1, none)
     else if (T ((T (k + 1)).2.1 + 1)).1 = false then (false, (T ((T (k + 1)).2.1 + 1)).2.1, none) else if f (T ((T (k + 1)).2.1 + 1)).2.1 ≠ 93 then (false, (T ((T (k + 1)).2.1 + 1)).2.1, none)
     else (true, (T ((T (k + 1)).2.1 + 1)).2.1 + 1, comO L d (T (k + 1)).2.2 (T ((T (k + 1)).2.1 + 1)).2.2))
  else if f (if f k = 40 then k else k + 1) ≠ 40 ∨ ok = false then (false, (if f k = 40 then k else k + 1), none)
  else if (T ((if f k = 40 then k else k + 1) + 1)).1 = false then (false, (T ((if f k = 40 then k else k + 1) + 1)).2.1, none)
  else if f (T ((if f k = 40 then k else k + 1) + 1)).2.1 ≠ 41 then (false, (T ((if f k = 40 then k else k + 1) + 1)).2.1, none)
  else (true, (T ((if f k = 40 then k else k + 1) + 1)).2.1 + 1, if f k = 40 then (T ((if f k = 40 then k else k + 1) + 1)).2.2 else elO L d (f k) (T ((if f k = 40 then k else k + 1) + 1)).2.2)
/-- behind the factors: / and a number, or not -/
def trE (L d : Nat) (f : Nat → Nat) (k : Nat) (acc : Option (Nat → Kf)) : RS :=
  if f k = 47 then (if (48 ≤ f (k + 1) ∧ f (k + 1) ≤ 57) ∧ f (k + 1) ≠ 48 then (true, k + 1 + dgn f 4 (k + 1), mulO L d acc (some (unitK (kv (kN (nmv f (k + 1) (dgn f 4 (k + 1)))))))) else (false, k + 1, none)) else (true, k, acc)
noncomputable def trL (L d : Nat) (f : Nat → Nat) (X : Nat → Nat → Kf) (ok : Bool) (T : Nat → RS) : Nat → Nat → Option (Nat → Kf) → RS
  | 0, k, acc => trE L d f k acc
  | n + 1, k, acc => if dgP (f k) ∨ ltP L (f k) ∨ f k = 114 ∨ f k = 91 ∨ f k = 40 ∨ f k = 69 ∨ f k = 76 then (if (facR L d f X ok T k).1 = false then (false, (facR L d f X ok T k).2.1, none) else trL L d f X ok T n (facR L d f X ok T k).2.1 (mulO L d acc (facR L d f X ok T k).2.2)) else trE L d f k acc
noncomputable def trR (L d : Nat) (f : Nat → Nat) (X : Nat → Nat → Kf) (ok : Bool) (T : Nat → RS) (k : Nat) : RS :=
  if bgP L (f k) then trL L d f X ok T 100 k (some (unitK 1)) else (false, k, none)
noncomputable def txL (L d : Nat) (f : Nat → Nat) (X : Nat → Nat → Kf) (ok : Bool) (T : Nat → RS) : Nat → Nat → Kf → Option (Nat → Kf) → RS
  | 0, k, _, acc => (true, k, acc)
  | n + 1, k, s, acc => if (trR L d f X ok T k).1 = false then (false, (trR L d f X ok T k).2.1, none) else if f (trR L d f X ok T k).2.1 = 43 ∨ f (trR L d f X ok T k).2.1 = 45 then txL L d f X ok T n ((trR L d f X ok T k).2.1 + 1) (if f (trR L d f X ok T k).2.1 = 43 then 1 else kN 2147483646) (addO acc s (trR L d f X ok T k).2.2) else (true, (trR L d f X ok T k).2.1, addO acc s (trR L d f X ok T k).2.2)
noncomputable def TX (L d : Nat) (f : Nat → Nat) (X : Nat → Nat → Kf) : Nat → Nat → RS
  | 0, k => (false, k, none)
  | D + 1, k => txL L d f X (decide (1 ≤ D)) (TX L d f X D) 100 k 1 (some (fun _ => 0))
/-! what is read goes on, and stays within the tape -/
section PR
variable {L d t : Nat} {b : Nat → Nat} {X : Nat → Nat → Kf}
def okT (t : Nat) (T : Nat → RS) : Prop := ∀ k, k ≤ t → (T k).2.1 ≤ t ∧ ((T k).1 = true → k < (T k).2.1)
theorem bt_t {k c : Nat} (h : bt t b k = c) (hc : c < 256) : k < t := by
  unfold bt at h
  by_cases e : k < t
  · exact e
  · rw [if_neg e] at h; omega
theorem dgn_t {k : Nat} (hk : k ≤ t) : k + dgn (bt t b) 4 k ≤ t := by
  by_cases e : dgn (bt t b) 4 k = 0
  · omega
  · have := dgn_dg (f := bt t b) 4 k (dgn (bt t b) 4 k - 1) (by omega)
    have h2 := bt_t (t := t) (b := b) rfl (show bt t b (k + (dgn (bt t b) 4 k - 1)) < 256 by omega)
    omega
theorem fac_pl {ok : Bool} {T : Nat → RS} (hT : okT t T) {k : Nat} (hk : k ≤ t) (hb : bgP L (bt t b k)) (hL : L ≤ 4) : (facR L d (bt t b) X ok T k).2.1 ≤ t ∧ ((facR L d (bt t b) X ok T k).1 = true → k < (facR L d (bt t b) X ok T k).2.1) := by
  have hkt : k < t := bt_t (c := bt t b k) rfl (by unfold bgP dgP ltP at hb; omega)
  unfold facR
  by_cases h1 : 48 ≤ bt t b k ∧ bt t b k ≤ 57
  · rw [if_pos h1]
    have := dgn_pos (f := bt t b) h1
    exact ⟨dgn_t hk, fun _ => by show k < k + dgn (bt t b) 4 k; omega⟩
  · rw [if_neg h1]
    by_cases h2 : 97 ≤ bt t b k ∧ bt t b k < 97 + L
    · rw [if_pos h2]
      exact ⟨hkt, fun _ => by show k < k + 1; omega⟩
    · rw [if_neg h2]
      by_cases h3 : bt t b k = 114
      · rw [if_pos h3]
        by_cases h4 : 48 ≤ bt t b (k + 1) ∧ bt t b (k + 1) ≤ 55
        · rw [if_pos h4]
          have := bt_t (t := t) (b := b) rfl (show bt t b (k + 1) < 256 by omega)
          exact ⟨this, fun _ => by show k < k + 2; omega⟩
        · rw [if_neg h4]
          exact ⟨hkt, fun z => absurd z Bool.false_ne_true⟩
      · rw [if_neg h3]
        by_cases h4 : bt t b k = 91
        · rw [if_pos h4]
          by_cases h5 : ok = false
          · rw [if_pos h5]; exact ⟨hk, fun z => absurd z Bool.false_ne_true⟩
          · rw [if_neg h5]
            have a := hT (k + 1) hkt
            by_cases h6 : (T (k + 1)).1 = false
            · rw [if_pos h6]; exact ⟨a.1, fun z => absurd z Bool.false_ne_true⟩
            · rw [if_neg h6]
              have a2 := a.2 (by cases h : (T (k + 1)).1 with | true => rfl | false => exact absurd h h6)
              by_cases h7 : bt t b (T (k + 1)).2.1 ≠ 44
              · rw [if_pos h7]; exact ⟨a.1, fun z => absurd z Bool.false_ne_true⟩
              · rw [if_neg h7]
                have h7' : bt t b (T (k + 1)).2.1 = 44 := by
                  by_cases e : bt t b (T (k + 1)).2.1 = 44
                  · exact e
                  · exact absurd e h7
                have a3 := bt_t h7' (by decide)
                have e := hT ((T (k + 1)).2.1 + 1) a3
                by_cases h8 : (T ((T (k + 1)).2.1 + 1)).1 = false
                · rw [if_pos h8]; exact ⟨e.1, fun z => absurd z Bool.false_ne_true⟩
                · rw [if_neg h8]
                  have e2 := e.2 (by cases h : (T ((T (k + 1)).2.1 + 1)).1 with | true => rfl | false => exact absurd h h8)
                  by_cases h9 : bt t b (T ((T (k + 1)).2.1 + 1)).2.1 ≠ 93
                  · rw [if_pos h9]; exact ⟨e.1, fun z => absurd z Bool.false_ne_true⟩
                  · rw [if_neg h9]
                    have h9' : bt t b (T ((T (k + 1)).2.1 + 1)).2.1 = 93 := by
                      by_cases q : bt t b (T ((T (k + 1)).2.1 + 1)).2.1 = 93
                      · exact q
                      · exact absurd q h9
                    have e3 := bt_t h9' (by decide)
                    exact ⟨e3, fun _ => by show k < (T ((T (k + 1)).2.1 + 1)).2.1 + 1; omega⟩
        · rw [if_neg h4]
          have hk1 : (if bt t b k = 40 then k else k + 1) ≤ t ∧ k ≤ (if bt t b k = 40 then k else k + 1) := by
            by_cases e : bt t b k = 40
            · rw [if_pos e]; exact ⟨hk, Nat.le_refl _⟩
            · rw [if_neg e]; exact ⟨hkt, Nat.le_succ _⟩
          generalize (if bt t b k = 40 then k else k + 1) = k1 at hk1
          by_cases h5 : bt t b k1 ≠ 40 ∨ ok = false
          · rw [if_pos h5]; exact ⟨hk1.1, fun z => absurd z Bool.false_ne_true⟩
          · rw [if_neg h5]
            have h5' : bt t b k1 = 40 := by
              by_cases e : bt t b k1 = 40
              · exact e
              · exact absurd (Or.inl e) h5
            have hk1t := bt_t h5' (by decide)
            have a := hT (k1 + 1) hk1t
            by_cases h6 : (T (k1 + 1)).1 = false
            · rw [if_pos h6]; exact ⟨a.1, fun z => absurd z Bool.false_ne_true⟩
            · rw [if_neg h6]
              have a2 := a.2 (by cases h : (T (k1 + 1)).1 with | true => rfl | false => exact absurd h h6)
              by_cases h7 : bt t b (T (k1 + 1)).2.1 ≠ 41
              · rw [if_pos h7]; exact ⟨a.1, fun z => absurd z Bool.false_ne_true⟩
              · rw [if_neg h7]
                have h7' : bt t b (T (k1 + 1)).2.1 = 41 := by
                  by_cases e : bt t b (T (k1 + 1)).2.1 = 41
                  · exact e
                  · exact absurd e h7
                have a3 := bt_t h7' (by decide)
                exact ⟨a3, fun _ => by show k < (T (k1 + 1)).2.1 + 1; omega⟩
theorem trE_pl {k : Nat} {acc : Option (Nat → Kf)} (hk : k ≤ t) : (trE L d (bt t b) k acc).2.1 ≤ t ∧ ((trE L d (bt t b) k acc).1 = true → k ≤ (trE L d (bt t b) k acc).2.1) := by
  unfold trE
  by_cases h1 : bt t b k = 47
  · rw [if_pos h1]
    have hkt := bt_t h1 (by decide)
    by_cases h2 : (48 ≤ bt t b (k + 1) ∧ bt t b (k + 1) ≤ 57) ∧ bt t b (k + 1) ≠ 48
    · rw [if_pos h2]
      exact ⟨dgn_t hkt, fun _ => by show k ≤ k + 1 + _; omega⟩
    · rw [if_neg h2]
      exact ⟨hkt, fun z => absurd z Bool.false_ne_true⟩
  · rw [if_neg h1]
    exact ⟨hk, fun _ => Nat.le_refl _⟩
theorem trL_pl {ok : Bool} {T : Nat → RS} (hT : okT t T) (hL : L ≤ 4) : ∀ n k acc, k ≤ t → (trL L d (bt t b) X ok T n k acc).2.1 ≤ t ∧ ((trL L d (bt t b) X ok T n k acc).1 = true → k ≤ (trL L d (bt t b) X ok T n k acc).2.1)
  | 0, k, acc, hk => trE_pl hk
  | n + 1, k, acc, hk => by
    unfold trL
    by_cases h1 : dgP (bt t b k) ∨ ltP L (bt t b k) ∨ bt t b k = 114 ∨ bt t b k = 91 ∨ bt t b k = 40 ∨ bt t b k = 69 ∨ bt t b k = 76
    · rw [if_pos h1]
      have a := fac_pl (L := L) (d := d) (X := X) (ok := ok) hT hk (show bgP L (bt t b k) from h1) hL
      by_cases h2 : (facR L d (bt t b) X ok T k).1 = false
      · rw [if_pos h2]; exact ⟨a.1, fun z => absurd z Bool.false_ne_true⟩
      · rw [if_neg h2]
        have a2 := a.2 (by cases h : (facR L d (bt t b) X ok T k).1 with | true => rfl | false => exact absurd h h2)
        have i := trL_pl (ok := ok) hT hL n (facR L d (bt t b) X ok T k).2.1 (mulO L d acc (facR L d (bt t b) X ok T k).2.2) a.1
        exact ⟨i.1, fun z => by have := i.2 z; omega⟩
    · rw [if_neg h1]; exact trE_pl hk
theorem trR_pl {ok : Bool} {T : Nat → RS} (hT : okT t T) (hL : L ≤ 4) {k : Nat} (hk : k ≤ t) : (trR L d (bt t b) X ok T k).2.1 ≤ t ∧ ((trR L d (bt t b) X ok T k).1 = true → k < (trR L d (bt t b) X ok T k).2.1) := by
  unfold trR
  by_cases h1 : bgP L (bt t b k)
  · rw [if_pos h1]
    unfold trL
    rw [if_pos (show dgP (bt t b k) ∨ ltP L (bt t b k) ∨ bt t b k = 114 ∨ bt t b k = 91 ∨ bt t b k = 40 ∨ bt t b k = 69 ∨ bt t b k = 76 from h1)]
    have a := fac_pl (L := L) (d := d) (X := X) (ok := ok) hT hk h1 hL
    by_cases h2 : (facR L d (bt t b) X ok T k).1 = false
    · rw [if_pos h2]; exact ⟨a.1, fun z => absurd z Bool.false_ne_true⟩
    · rw [if_neg h2]
      have a2 := a.2 (by cases h : (facR L d (bt t b) X ok T k).1 with | true => rfl | false => exact absurd h h2)
      have i := trL_pl (d := d) (b := b) (X := X) (ok := ok) hT hL 99 (facR L d (bt t b) X ok T k).2.1 (mulO L d (some (unitK 1)) (facR L d (bt t b) X ok T k).2.2) a.1
      exact ⟨i.1, fun z => Nat.lt_of_lt_of_le a2 (i.2 z)⟩
  · rw [if_neg h1]; exact ⟨hk, fun z => absurd z Bool.false_ne_true⟩
theorem txL_pl {ok : Bool} {T : Nat → RS} (hT : okT t T) (hL : L ≤ 4) : ∀ n k s acc, k ≤ t → (txL L d (bt t b) X ok T n k s acc).2.1 ≤ t ∧ ((txL L d (bt t b) X ok T n k s acc).1 = true → 1 ≤ n → k < (txL L d (bt t b) X ok T n k s acc).2.1)
  | 0, k, s, acc, hk => ⟨hk, fun _ h => absurd h (by omega)⟩
  | n + 1, k, s, acc, hk => by
    have a := trR_pl (L := L) (d := d) (b := b) (X := X) (ok := ok) hT hL hk
    unfold txL
    by_cases h1 : (trR L d (bt t b) X ok T k).1 = false
    · rw [if_pos h1]; exact ⟨a.1, fun z => absurd z Bool.false_ne_true⟩
    · rw [if_neg h1]
      have a2 := a.2 (by cases h : (trR L d (bt t b) X ok T k).1 with | true => rfl | false => exact absurd h h1)
      by_cases h2 : bt t b (trR L d (bt t b) X ok T k).2.1 = 43 ∨ bt t b (trR L d (bt t b) X ok T k).2.1 = 45
      · rw [if_pos h2]
        have hlt := bt_t (t := t) (b := b) rfl (show bt t b (trR L d (bt t b) X ok T k).2.1 < 256 by omega)
        have i := txL_pl (ok := ok) hT hL n ((trR L d (bt t b) X ok T k).2.1 + 1) (if bt t b (trR L d (bt t b) X ok T k).2.1 = 43 then 1 else kN 2147483646) (addO acc s (trR L d (bt t b) X ok T k).2.2) hlt
        refine ⟨i.1, fun z _ => ?_⟩
        by_cases e : n = 0
        · subst e
          show k < (trR L d (bt t b) X ok T k).2.1 + 1
          omega
        · have := i.2 z (by omega)
          omega
      · rw [if_neg h2]
        exact ⟨a.1, fun _ _ => a2⟩
theorem TX_pl (hL : L ≤ 4) : ∀ D, okT t (TX L d (bt t b) X D)
  | 0 => fun k hk => ⟨hk, fun z => absurd (show false = true from z) Bool.false_ne_true⟩
  | D + 1 => fun k hk => by
    have := txL_pl (d := d) (b := b) (X := X) (ok := decide (1 ≤ D)) (TX_pl hL D) hL 100 k 1 (some (fun _ => 0)) hk
    exact ⟨this.1, fun z => this.2 z (by omega)⟩
end PR
