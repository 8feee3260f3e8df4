/-! sums told by lists of (word, number): what the kernel can reckon with -/
def lsL (F : Nat → Kf) : List (Nat × Nat) → Kf
  | [] => 0
  | q :: l => kN q.2 * F q.1 + lsL F l
theorem lsL_app {F : Nat → Kf} : ∀ {l m : List (Nat × Nat)}, lsL F (l ++ m) = lsL F l + lsL F m
  | [], m => (ka_0' _).symm
  | q :: l, m => by
    show _ + lsL F (l ++ m) = (_ + lsL F l) + lsL F m
    rw [lsL_app, ka_a]
theorem lsL_c {F G : Nat → Kf} : ∀ {l : List (Nat × Nat)}, (∀ q, q ∈ l → F q.1 = G q.1) → lsL F l = lsL G l
  | [], _ => rfl
  | q :: l, h => by
    show kN q.2 * F q.1 + lsL F l = kN q.2 * G q.1 + lsL G l
    rw [h q (List.mem_cons_self), lsL_c (fun r hr => h r (List.mem_cons_of_mem _ hr))]
theorem lsL_sum {F : Nat → Kf} {M : Nat} : ∀ {l : List (Nat × Nat)}, (∀ q, q ∈ l → q.1 < M) → ksum M (fun u => lsK l u * F u) = lsL F l
  | [], _ => by
    show ksum M (fun u => 0 * F u) = 0
    exact ksum_z (fun i _ => km_0 _)
  | q :: l, h => by
    have e : ∀ u, lsK (q :: l) u * F u = (if u = q.1 then kN q.2 * F u else 0) + lsK l u * F u := fun u => by
      show ((if u = q.1 then kN q.2 else 0) + lsK l u) * F u = _
      rw [kd_r]
      refine congrArg (· + lsK l u * F u) ?_
      by_cases e : u = q.1
      · rw [if_pos e, if_pos e]
      · rw [if_neg e, if_neg e, km_0]
    rw [ksum_c (fun u _ => e u), ksum_a, ksum_if, if_pos (h q (List.mem_cons_self)), lsL_sum (fun r hr => h r (List.mem_cons_of_mem _ hr))]
    rfl
theorem lsL_K {l : List (Nat × Nat)} {j : Nat} : lsK l j = lsL (fun u => if j = u then 1 else 0) l := by
  induction l with
  | nil => rfl
  | cons q l ih =>
    show (if j = q.1 then kN q.2 else 0) + lsK l j = kN q.2 * (if j = q.1 then 1 else 0) + _
    rw [ih]
    refine congrArg (· + _) ?_
    by_cases e : j = q.1
    · rw [if_pos e, if_pos e, km_1]
    · rw [if_neg e, if_neg e, km_0']
theorem lsL_flat {α : Type} {F : Nat → Kf} {f : α → List (Nat × Nat)} : ∀ {l : List α}, lsL F (l.flatMap f) = (l.map (fun a => lsL F (f a))).foldr (· + ·) 0
  | [] => rfl
  | a :: l => by
    rw [List.flatMap_cons, lsL_app, lsL_flat]
    rfl
/-- one number more at a word -/
def insL (k c : Nat) : List (Nat × Nat) → List (Nat × Nat)
  | [] => [(k, c)]
  | r :: l => cond (Nat.beq r.1 k) ((k, (r.2 + c) % 2147483647) :: l) (r :: insL k c l)
theorem lsL_ins {F : Nat → Kf} {k c : Nat} : ∀ {l : List (Nat × Nat)}, lsL F (insL k c l) = kN c * F k + lsL F l
  | [] => rfl
  | r :: l => by
    unfold insL
    cases h : Nat.beq r.1 k with
    | true =>
      have e : r.1 = k := Nat.eq_of_beq_eq_true h
      show kN ((r.2 + c) % PR) * F k + lsL F l = kN c * F k + (kN r.2 * F r.1 + lsL F l)
      rw [kN_mod, kN_add, e, kd_r, ← ka_a, ka_c (kN r.2 * F k)]
    | false =>
      show kN r.2 * F r.1 + lsL F (insL k c l) = _
      rw [lsL_ins]
      show _ = kN c * F k + (kN r.2 * F r.1 + lsL F l)
      rw [← ka_a, ← ka_a, ka_c (kN r.2 * F r.1)]
theorem ins_mem {k c : Nat} {q : Nat × Nat} : ∀ {l : List (Nat × Nat)}, q ∈ insL k c l → q.1 = k ∨ q ∈ l
  | [], h => by
    rw [show insL k c [] = [(k, c)] from rfl, List.mem_singleton] at h
    exact Or.inl (by rw [h])
  | r :: l, h => by
    unfold insL at h
    cases hb : Nat.beq r.1 k with
    | true =>
      rw [hb] at h
      rcases List.mem_cons.mp h with h1 | h1
      · exact Or.inl (by rw [h1])
      · exact Or.inr (List.mem_cons_of_mem _ h1)
    | false =>
      rw [hb] at h
      rcases List.mem_cons.mp h with h1 | h1
      · exact Or.inr (by rw [h1]; exact List.mem_cons_self)
      · rcases ins_mem h1 with h2 | h2
        · exact Or.inl h2
        · exact Or.inr (List.mem_cons_of_mem _ h2)
def nmL : List (Nat × Nat) → List (Nat × Nat)
  | [] => []
  | q :: l => insL q.1 q.2 (nmL l)
theorem lsL_nm {F : Nat → Kf} : ∀ {l : List (Nat × Nat)}, lsL F (nmL l) = lsL F l
  | [] => rfl
  | q :: l => by
    show lsL F (insL q.1 q.2 (nmL l)) = kN q.2 * F q.1 + lsL F l
    rw [lsL_ins, lsL_nm]
theorem nm_mem {q : Nat × Nat} : ∀ {l : List (Nat × Nat)}, q ∈ nmL l → ∃ r, r ∈ l ∧ r.1 = q.1
  | [], h => absurd h (List.not_mem_nil)
  | r :: l, h => by
    rcases ins_mem (show q ∈ insL r.1 r.2 (nmL l) from h) with h1 | h1
    · exact ⟨r, List.mem_cons_self, h1.symm⟩
    · obtain ⟨r', h2, h3⟩ := nm_mem h1
      exact ⟨r', List.mem_cons_of_mem _ h2, h3⟩
theorem lsK_nm {l : List (Nat × Nat)} {j : Nat} : lsK (nmL l) j = lsK l j := by rw [lsL_K, lsL_K, lsL_nm]
/-- times a number -/
def mcL (c : Nat) (l : List (Nat × Nat)) : List (Nat × Nat) := l.map (fun q => (q.1, q.2 * c % 2147483647))
theorem lsL_mc {F : Nat → Kf} {c : Nat} : ∀ {l : List (Nat × Nat)}, lsL F (mcL c l) = lsL F l * kN c
  | [] => (km_0 _).symm
  | q :: l => by
    show kN (q.2 * c % PR) * F q.1 + lsL F (mcL c l) = (kN q.2 * F q.1 + lsL F l) * kN c
    rw [lsL_mc, kN_mod, kN_mul, kd_r, km_a, km_c (kN c), ← km_a]
theorem mc_mem {c : Nat} {l : List (Nat × Nat)} {q : Nat × Nat} (h : q ∈ mcL c l) : ∃ r, r ∈ l ∧ r.1 = q.1 := by
  obtain ⟨r, h1, h2⟩ := List.mem_map.mp h
  exact ⟨r, h1, by rw [← h2]⟩
/-- words one behind the other -/
def prL (M : Nat) (A B : List (Nat × Nat)) : List (Nat × Nat) := A.flatMap (fun a => B.map (fun b => (a.1 * M + b.1, a.2 * b.2 % 2147483647)))
theorem prL_mem {M : Nat} {A B : List (Nat × Nat)} {q : Nat × Nat} (h : q ∈ prL M A B) : ∃ a b, a ∈ A ∧ b ∈ B ∧ q.1 = a.1 * M + b.1 := by
  obtain ⟨a, h1, h2⟩ := List.mem_flatMap.mp h
  obtain ⟨b, h3, h4⟩ := List.mem_map.mp h2
  exact ⟨a, b, h1, h3, by rw [← h4]⟩
theorem prL_K {M : Nat} {B : List (Nat × Nat)} {u : Nat} (hB : ∀ b, b ∈ B → b.1 < M) : ∀ {A : List (Nat × Nat)}, lsK (prL M A B) u = lsK A (u / M) * lsK B (u % M)
  | [] => (km_0 _).symm
  | a :: A => by
    have one : ∀ {B : List (Nat × Nat)}, (∀ b, b ∈ B → b.1 < M) → lsK (B.map (fun b => (a.1 * M + b.1, a.2 * b.2 % 2147483647))) u = (if u / M = a.1 then kN a.2 else 0) * lsK B (u % M) := by
      intro B
      induction B with
      | nil => intro _; exact (km_0' _).symm
      | cons b B ih =>
        intro hB
        have hb := hB b (List.mem_cons_self)
        have hM : 0 < M := by omega
        show (if u = a.1 * M + b.1 then kN (a.2 * b.2 % PR) else 0) + lsK (B.map _) u = _ * ((if u % M = b.1 then kN b.2 else 0) + lsK B (u % M))
        rw [ih (fun c hc => hB c (List.mem_cons_of_mem _ hc)), kd_l]
        refine congrArg (· + _) ?_
        have hiff : u = a.1 * M + b.1 ↔ u / M = a.1 ∧ u % M = b.1 := by
          constructor
          · intro e
            have e2 : u = b.1 + M * a.1 := by rw [Nat.mul_comm]; omega
            rw [e2, Nat.add_mul_div_left _ _ hM, Nat.div_eq_of_lt hb, Nat.add_mul_mod_self_left, Nat.mod_eq_of_lt hb]
            exact ⟨by omega, rfl⟩
          · rintro ⟨e1, e2⟩
            rw [← e1, ← e2, Nat.mul_comm, Nat.div_add_mod]
        by_cases h1 : u / M = a.1
        · rw [if_pos h1]
          by_cases h2 : u % M = b.1
          · rw [if_pos h2, if_pos (hiff.mpr ⟨h1, h2⟩), kN_mod, kN_mul]
          · rw [if_neg h2, if_neg (fun e => h2 (hiff.mp e).2), km_0']
        · rw [if_neg h1, if_neg (fun e => h1 (hiff.mp e).1), km_0]
    show lsK (List.map _ B ++ prL M A B) u = ((if u / M = a.1 then kN a.2 else 0) + lsK A (u / M)) * lsK B (u % M)
    rw [lsK_app, one hB, prL_K hB, kd_r]
theorem lsK_mc {c : Nat} {l : List (Nat × Nat)} {j : Nat} : lsK (mcL c l) j = lsK l j * kN c := by rw [lsL_K, lsL_K, lsL_mc]
/-- the bracket of a chief -/
def spB (L : Nat) : Nat → Nat → Nat → List (Nat × Nat)
  | 0, _, _ => []
  | f + 1, n, v => cond (Nat.ble n 1) [(v, 1)] (prL (L ^ (n - sd L n v)) (spB L f (sd L n v) (v / L ^ (n - sd L n v))) (spB L f (n - sd L n v) (v % L ^ (n - sd L n v))) ++ mcL 2147483646 (prL (L ^ sd L n v) (spB L f (n - sd L n v) (v % L ^ (n - sd L n v))) (spB L f (sd L n v) (v / L ^ (n - sd L n v)))))
theorem spB_K {L : Nat} (hL : 1 ≤ L) : ∀ f n v, n ≤ f → 1 ≤ n → v < L ^ n → (∀ q, q ∈ spB L f n v → q.1 < L ^ n) ∧ ∀ u, lsK (spB L f n v) u = bsK L n v u
  | 0, n, v, hf, h1, _ => by omega
  | f + 1, n, v, hf, h1, hv => by
    unfold spB
    by_cases hn : n = 1
    · subst hn
      refine ⟨fun q hq => ?_, fun u => ?_⟩
      · rw [show q = (v, 1) from List.mem_singleton.mp hq]; exact hv
      · show (if u = v then kN 1 else 0) + 0 = kN (bas L 1 1 v u)
        rw [ka_0, bas_1]
        by_cases e : u = v
        · rw [if_pos e, if_pos e]
        · rw [if_neg e, if_neg e]; rfl
    · have h2 : 2 ≤ n := by omega
      have hb : Nat.ble n 1 = false := by
        cases h : Nat.ble n 1 with
        | false => rfl
        | true => exact absurd (Nat.le_of_ble_eq_true h) (by omega)
      have hs := sd_spec (L := L) (v := v) h2
      have hdl : v / L ^ (n - sd L n v) < L ^ sd L n v := div_pow_lt' hL (by omega) hv
      have hmr : v % L ^ (n - sd L n v) < L ^ (n - sd L n v) := Nat.mod_lt _ (Nat.pow_pos hL)
      obtain ⟨a1, a2⟩ := spB_K hL f (sd L n v) (v / L ^ (n - sd L n v)) (by omega) hs.1 hdl
      obtain ⟨b1, b2⟩ := spB_K hL f (n - sd L n v) (v % L ^ (n - sd L n v)) (by omega) (by omega) hmr
      rw [hb]
      refine ⟨fun q hq => ?_, fun u => ?_⟩
      · rcases List.mem_append.mp hq with h | h
        · obtain ⟨a, b, ha, hb, e⟩ := prL_mem h
          have := pv_lt (a1 a ha) (b1 b hb)
          rw [show sd L n v + (n - sd L n v) = n by omega] at this
          rw [e]; exact this
        · obtain ⟨r, hr, e⟩ := mc_mem h
          obtain ⟨a, b, ha, hb, e2⟩ := prL_mem hr
          have := pv_lt (b1 a ha) (a1 b hb)
          rw [show n - sd L n v + sd L n v = n by omega] at this
          rw [← e, e2]; exact this
      · show lsK (prL _ _ _ ++ mcL _ (prL _ _ _)) u = _
        rw [lsK_app, lsK_mc, prL_K b1, prL_K a1, a2, b2, a2, b2, bsK_n h2]
/-- the ordered product of a word -/
def spO (L n v : Nat) : Nat → Nat → List (Nat × Nat) → List (Nat × Nat)
  | 0, _, l => l
  | f + 1, at', l => cond (Nat.ble n at') l (spO L n v f (at' + fc L (n - at') (v % L ^ (n - at'))) (prL (L ^ fc L (n - at') (v % L ^ (n - at'))) l (spB L 6 (fc L (n - at') (v % L ^ (n - at'))) (v % L ^ (n - at') / L ^ (n - at' - fc L (n - at') (v % L ^ (n - at')))))))
def opL (L n v : Nat) : List (Nat × Nat) := nmL (spO L n v n 0 [(0, 1)])
theorem spO_K {L n v : Nat} (hL : 1 ≤ L) (hn6 : n ≤ 6) : ∀ f at' (P : Nat → Nat) l, at' ≤ n → n ≤ at' + f → (∀ q, q ∈ l → q.1 < L ^ at') → (∀ u, u < L ^ at' → kN (P u) = lsK l u) → (∀ q, q ∈ spO L n v f at' l → q.1 < L ^ n) ∧ ∀ u, u < L ^ n → kN (ordN L n v f at' P u) = lsK (spO L n v f at' l) u
  | 0, at', P, l, h1, h2, hl, hP => by
    have : at' = n := by omega
    subst this
    exact ⟨hl, hP⟩
  | f + 1, at', P, l, h1, h2, hl, hP => by
    by_cases hna : n ≤ at'
    · have : at' = n := by omega
      subst this
      have hb : Nat.ble at' at' = true := Nat.ble_eq_true_of_le (Nat.le_refl _)
      unfold spO ordN
      rw [hb, if_pos (Nat.le_refl _)]
      exact ⟨hl, hP⟩
    · have hb : Nat.ble n at' = false := by
        cases h : Nat.ble n at' with
        | false => rfl
        | true => exact absurd (Nat.le_of_ble_eq_true h) hna
      have hmr : v % L ^ (n - at') < L ^ (n - at') := Nat.mod_lt _ (Nat.pow_pos hL)
      have hfc := fc_spec (L := L) (e := v % L ^ (n - at')) (show 1 ≤ n - at' by omega)
      have hdl : v % L ^ (n - at') / L ^ (n - at' - fc L (n - at') (v % L ^ (n - at'))) < L ^ fc L (n - at') (v % L ^ (n - at')) := div_pow_lt' hL hfc.2.1 hmr
      obtain ⟨b1, b2⟩ := spB_K hL 6 _ _ (by omega) hfc.1 hdl
      unfold spO ordN
      rw [hb, if_neg hna]
      refine spO_K hL hn6 f _ _ _ (by omega) (by omega) (fun q hq => ?_) (fun u hu => ?_)
      · obtain ⟨a, b, ha, hb, e⟩ := prL_mem hq
        rw [e]; exact pv_lt (hl a ha) (b1 b hb)
      · have hud : u / L ^ fc L (n - at') (v % L ^ (n - at')) < L ^ at' := by
          rw [Nat.div_lt_iff_lt_mul (Nat.pow_pos hL), ← Nat.pow_add]; exact hu
        rw [kN_mod, kN_mul, prL_K b1, hP _ hud, b2]
        rfl
theorem opL_K {L n v u : Nat} (hL : 1 ≤ L) (hn6 : n ≤ 6) (hu : u < L ^ n) : kN (ordP L n v u) = lsK (opL L n v) u := by
  unfold opL
  rw [lsK_nm]
  exact (spO_K hL hn6 n 0 (fun _ => 1) [(0, 1)] (Nat.zero_le _) (by omega) (fun q hq => by rw [show q = (0, 1) from List.mem_singleton.mp hq, Nat.pow_zero]; exact Nat.zero_lt_one) (fun u hu => by
    rw [Nat.pow_zero] at hu
    have : u = 0 := by omega
    subst this
    show kN 1 = (if 0 = 0 then kN 1 else 0) + 0
    rw [if_pos rfl, ka_0])).2 u hu
theorem opL_lt {L n v : Nat} (hL : 1 ≤ L) (hn6 : n ≤ 6) {q : Nat × Nat} (hq : q ∈ opL L n v) : q.1 < L ^ n := by
  obtain ⟨r, hr, e⟩ := nm_mem hq
  rw [← e]
  exact (spO_K hL hn6 n 0 (fun _ => 1) [(0, 1)] (Nat.zero_le _) (by omega) (fun q hq => by rw [show q = (0, 1) from List.mem_singleton.mp hq, Nat.pow_zero]; exact Nat.zero_lt_one) (fun u hu => by
    rw [Nat.pow_zero] at hu
    have : u = 0 := by omega
    subst this
    show kN 1 = (if 0 = 0 then kN 1 else 0) + 0
    rw [if_pos rfl, ka_0])).1 r hr
/-! shuffles of words -/
def shl (L : Nat) : Nat → Nat → Nat → Nat → Nat → List Nat
  | 0, _, _, _, _ => []
  | f + 1, n, a, m, b => cond (Nat.beq n 0) [b] (cond (Nat.beq m 0) [a] ((shl L f (n - 1) (a / L) m b).map (fun z => L * z + a % L) ++ (shl L f n a (m - 1) (b / L)).map (fun z => L * z + b % L)))
def cnL (l : List Nat) (V : Nat) : Kf := (l.map (fun z => if V = z then (1 : Kf) else 0)).foldr (· + ·) 0
theorem cnL_app {V : Nat} : ∀ {l m : List Nat}, cnL (l ++ m) V = cnL l V + cnL m V
  | [], m => (ka_0' _).symm
  | z :: l, m => by
    show (if V = z then (1 : Kf) else 0) + cnL (l ++ m) V = ((if V = z then (1 : Kf) else 0) + cnL l V) + cnL m V
    rw [cnL_app, ka_a]
theorem cnL_map {L c V : Nat} (hL : 1 ≤ L) (hc : c < L) : ∀ {l : List Nat}, cnL (l.map (fun z => L * z + c)) V = if c = V % L then cnL l (V / L) else 0
  | [] => by show (0 : Kf) = if c = V % L then 0 else 0; rw [ite_self]
  | z :: l => by
    show (if V = L * z + c then (1 : Kf) else 0) + cnL (l.map _) V = _
    rw [cnL_map hL hc]
    have hdm := Nat.div_add_mod V L
    by_cases h : c = V % L
    · rw [if_pos h, if_pos h]
      show _ = (if V / L = z then (1 : Kf) else 0) + cnL l (V / L)
      refine congrArg (· + _) ?_
      by_cases e : V / L = z
      · rw [if_pos e, if_pos (by rw [← e, h]; exact hdm.symm)]
      · rw [if_neg e, if_neg (fun q => e (by rw [q, (dm_app hc).1]))]
    · rw [if_neg h, if_neg h, if_neg (fun q => h (by rw [q, (dm_app hc).2])), ka_0]
theorem shl_dl {L : Nat} (hL : 1 ≤ L) : ∀ f n a m b V, cnL (shl L f n a m b) V = dl L f n a m b V
  | 0, _, _, _, _, _ => rfl
  | f + 1, n, a, m, b, V => by
    unfold shl dl
    have hb : ∀ k, Nat.beq k 0 = decide (k = 0) := fun k => by cases k <;> rfl
    rw [hb, hb]
    by_cases h0 : n = 0
    · rw [decide_eq_true h0, if_pos (Or.inl h0), if_pos h0]
      show (if V = b then (1 : Kf) else 0) + 0 = _
      rw [ka_0]
    · rw [decide_eq_false h0]
      by_cases h1 : m = 0
      · rw [decide_eq_true h1, if_pos (Or.inr h1), if_neg h0]
        show (if V = a then (1 : Kf) else 0) + 0 = _
        rw [ka_0]
      · rw [decide_eq_false h1, if_neg (by omega)]
        show cnL (_ ++ _) V = _
        rw [cnL_app, cnL_map hL (Nat.mod_lt _ hL), cnL_map hL (Nat.mod_lt _ hL), shl_dl hL, shl_dl hL]
theorem shl_lt {L : Nat} (hL : 1 ≤ L) : ∀ f n a m b, a < L ^ n → b < L ^ m → ∀ z, z ∈ shl L f n a m b → z < L ^ (n + m)
  | 0, _, _, _, _, _, _, z, hz => absurd hz (List.not_mem_nil)
  | f + 1, n, a, m, b, ha, hb, z, hz => by
    unfold shl at hz
    have hbq : ∀ k, Nat.beq k 0 = decide (k = 0) := fun k => by cases k <;> rfl
    rw [hbq, hbq] at hz
    by_cases h0 : n = 0
    · rw [decide_eq_true h0] at hz
      rw [List.mem_singleton.mp hz, h0, Nat.zero_add]; exact hb
    · rw [decide_eq_false h0] at hz
      by_cases h1 : m = 0
      · rw [decide_eq_true h1] at hz
        rw [List.mem_singleton.mp hz, h1]; exact ha
      · rw [decide_eq_false h1] at hz
        have ha' := dv_lt (n := n) hL (by omega) ha
        have hb' := dv_lt (n := m) hL (by omega) hb
        rcases List.mem_append.mp hz with h | h
        · obtain ⟨y, hy, e⟩ := List.mem_map.mp h
          have := pow_app (shl_lt hL f _ _ _ _ ha' hb y hy) (Nat.mod_lt a hL)
          rw [show n - 1 + m + 1 = n + m by omega] at this
          rw [← e]; exact this
        · obtain ⟨y, hy, e⟩ := List.mem_map.mp h
          have := pow_app (shl_lt hL f _ _ _ _ ha hb' y hy) (Nat.mod_lt b hL)
          rw [show n + (m - 1) + 1 = n + m by omega] at this
          rw [← e]; exact this
/-- the shuffle of two sums, each of words of one length -/
def slL (L n m : Nat) (A B : List (Nat × Nat)) : List (Nat × Nat) := A.flatMap (fun a => B.flatMap (fun b => (shl L 8 n a.1 m b.1).map (fun z => (z, a.2 * b.2 % 2147483647))))
theorem slL_K {L n m V : Nat} (hL : 1 ≤ L) {A B : List (Nat × Nat)} : lsK (slL L n m A B) V = lsL (fun a => lsL (fun b => dl L 8 n a m b V) B) A := by
  have one : ∀ (c : Nat) (l : List Nat), lsK (l.map (fun z => (z, c))) V = kN c * cnL l V := by
    intro c l
    induction l with
    | nil => exact (km_0' _).symm
    | cons z l ih =>
      show (if V = z then kN c else 0) + lsK (l.map _) V = kN c * ((if V = z then (1 : Kf) else 0) + cnL l V)
      rw [ih, kd_l]
      refine congrArg (· + _) ?_
      by_cases e : V = z
      · rw [if_pos e, if_pos e, km_1]
      · rw [if_neg e, if_neg e, km_0']
  have two : ∀ (a : Nat × Nat) (B : List (Nat × Nat)), lsK (B.flatMap (fun b => (shl L 8 n a.1 m b.1).map (fun z => (z, a.2 * b.2 % 2147483647)))) V = kN a.2 * lsL (fun b => dl L 8 n a.1 m b V) B := by
    intro a B
    induction B with
    | nil => exact (km_0' _).symm
    | cons b B ih =>
      rw [List.flatMap_cons, lsK_app, ih, one, shl_dl hL]
      show kN (a.2 * b.2 % PR) * _ + _ = kN a.2 * (kN b.2 * _ + lsL _ B)
      rw [kN_mod, kN_mul, kd_l, km_a]
  induction A with
  | nil => rfl
  | cons a A ih =>
    show lsK ((B.flatMap _) ++ slL L n m A B) V = _
    rw [lsK_app, ih, two]
    rfl
theorem slL_lt {L n m : Nat} (hL : 1 ≤ L) {A B : List (Nat × Nat)} (hA : ∀ q, q ∈ A → q.1 < L ^ n) (hB : ∀ q, q ∈ B → q.1 < L ^ m) {q : Nat × Nat} (hq : q ∈ slL L n m A B) : q.1 < L ^ (n + m) := by
  obtain ⟨a, h1, h2⟩ := List.mem_flatMap.mp hq
  obtain ⟨b, h3, h4⟩ := List.mem_flatMap.mp h2
  obtain ⟨z, h5, h6⟩ := List.mem_map.mp h4
  rw [← h6]
  exact shl_lt hL 8 n a.1 m b.1 (hA a h1) (hB b h3) z h5
theorem shR_homS {L n m V : Nat} {A B : Nat → Kf} (hL : 1 ≤ L) (h8 : n + m < 8) (hV : V < L ^ (n + m)) : shR L (n + m) (hom n A) (hom m B) V = ksum (L ^ n) (fun u => ksum (L ^ m) (fun v => A u * B v * dl L 8 n u m v V)) := by
  rw [← PP_R hL (n + m) 8 _ _ V h8 hV, ksum_c (h := fun k => if k = n then ksum (L ^ n) (fun u => ksum (L ^ m) (fun v => A u * B v * dl L 8 n u m v V)) else 0) (fun k hk => ?_), ksum_if, if_pos (by omega)]
  unfold PP hom
  by_cases e : k = n
  · subst e
    rw [if_pos rfl, show k + m - k = m by omega]
    refine ksum_c (fun u _ => ksum_c (fun v _ => ?_))
    rw [if_pos rfl, if_pos rfl]
  · rw [if_neg e]
    refine ksum_z (fun u _ => ksum_z (fun v _ => ?_))
    rw [if_neg e, km_0, km_0]
/-- what measures the share of a word -/
def spS (L : Nat) : Nat → Nat → Nat → List (Nat × Nat)
  | 0, _, _ => []
  | f + 1, m, u => cond (Nat.beq m 0) [(0, 1)] (cond (Nat.beq (fc L m u) m) ((spS L f (m - 1) (u % L ^ (m - 1))).map (fun q => (u / L ^ (m - 1) * L ^ (m - 1) + q.1, q.2))) (nmL (mcL (nv (htL L m u (fc L m u))) (slL L (m - fc L m u) (fc L m u) (spS L f (m - fc L m u) (u % L ^ (m - fc L m u))) (spS L f (fc L m u) (u / L ^ (m - fc L m u)))))))
theorem lsK_ah {M c V : Nat} (hM : 0 < M) : ∀ {l : List (Nat × Nat)}, (∀ q, q ∈ l → q.1 < M) → lsK (l.map (fun q => (c * M + q.1, q.2))) V = if V / M = c then lsK l (V % M) else 0
  | [], _ => by show (0 : Kf) = if V / M = c then 0 else 0; rw [ite_self]
  | q :: l, h => by
    have hq := h q (List.mem_cons_self)
    show (if V = c * M + q.1 then kN q.2 else 0) + lsK (l.map _) V = _
    rw [lsK_ah hM (fun r hr => h r (List.mem_cons_of_mem _ hr))]
    have hiff : V = c * M + q.1 ↔ V / M = c ∧ V % M = q.1 := by
      constructor
      · intro e
        have e2 : V = q.1 + M * c := by rw [Nat.mul_comm]; omega
        rw [e2, Nat.add_mul_div_left _ _ hM, Nat.div_eq_of_lt hq, Nat.add_mul_mod_self_left, Nat.mod_eq_of_lt hq]
        exact ⟨by omega, rfl⟩
      · rintro ⟨e1, e2⟩
        rw [← e1, ← e2, Nat.mul_comm, Nat.div_add_mod]
    by_cases h1 : V / M = c
    · rw [if_pos h1, if_pos h1]
      show _ = (if V % M = q.1 then kN q.2 else 0) + lsK l (V % M)
      refine congrArg (· + _) ?_
      by_cases h2 : V % M = q.1
      · rw [if_pos h2, if_pos (hiff.mpr ⟨h1, h2⟩)]
      · rw [if_neg h2, if_neg (fun e => h2 (hiff.mp e).2)]
    · rw [if_neg h1, if_neg h1, if_neg (fun e => h1 (hiff.mp e).1), ka_0]
theorem htL_le {L m u h : Nat} (hh : h ≤ m) : htL L m u h ≤ m := by
  have : ∀ f x, x ≤ m → htN (ltr L m u) m h f x ≤ m := by
    intro f
    induction f with
    | zero => intro x hx; exact Nat.le_trans (Nat.div_le_self _ _) hx
    | succ f ih =>
      intro x hx
      unfold htN
      by_cases c1 : m ≤ x
      · rw [if_pos c1]; exact Nat.le_trans (Nat.div_le_self _ _) hx
      · rw [if_neg c1]
        by_cases c2 : ltr L m u x = ltr L m u (x - h)
        · rw [if_pos c2]; exact ih (x + 1) (by omega)
        · rw [if_neg c2]; exact Nat.le_trans (Nat.div_le_self _ _) hx
  exact this m h hh
theorem kv_N {n : Nat} (hn : n < PR) : kv (kN n) = kN (nv n) := by
  unfold kv
  refine Fin.ext ?_
  show nv (kN n).val = nv n % 2147483647
  rw [kN_v hn]
  exact (Nat.mod_eq_of_lt (nv_lt hn)).symm
theorem spS_K {L : Nat} (hL : 1 ≤ L) : ∀ f m u, m < f → m ≤ 6 → u < L ^ m → (∀ q, q ∈ spS L f m u → q.1 < L ^ m) ∧ ∀ V, V < L ^ m → lsK (spS L f m u) V = sml L f m u V
  | 0, m, u, hf, _, _ => by omega
  | f + 1, m, u, hf, h6, hu => by
    have hbq : ∀ k j, Nat.beq k j = decide (k = j) := fun k j => by
      by_cases e : k = j
      · rw [decide_eq_true e, e]; exact Nat.beq_refl j
      · rw [decide_eq_false e]
        cases h : Nat.beq k j with
        | false => rfl
        | true => exact absurd (Nat.eq_of_beq_eq_true h) e
    unfold spS sml
    rw [hbq, hbq]
    by_cases h0 : m = 0
    · subst h0
      rw [decide_eq_true rfl]
      refine ⟨fun q hq => by rw [show q = (0, 1) from List.mem_singleton.mp hq, Nat.pow_zero]; exact Nat.zero_lt_one, fun V hV => ?_⟩
      rw [Nat.pow_zero] at hV
      have : V = 0 := by omega
      subst this
      rw [if_pos rfl]
      show (if 0 = 0 then kN 1 else 0) + 0 = 1
      rw [if_pos rfl, ka_0]; rfl
    · rw [decide_eq_false h0]
      have hfc := fc_spec (L := L) (e := u) (show 1 ≤ m by omega)
      by_cases h1 : fc L m u = m
      · rw [decide_eq_true h1]
        have hmr : u % L ^ (m - 1) < L ^ (m - 1) := Nat.mod_lt _ (Nat.pow_pos hL)
        obtain ⟨a1, a2⟩ := spS_K hL f (m - 1) (u % L ^ (m - 1)) (by omega) (by omega) hmr
        have hud : u / L ^ (m - 1) < L ^ 1 := div_pow_lt' hL (by omega) hu
        refine ⟨fun q hq => ?_, fun V hV => ?_⟩
        · obtain ⟨r, hr, e⟩ := List.mem_map.mp hq
          have := pv_lt hud (a1 r hr)
          rw [show 1 + (m - 1) = m by omega] at this
          rw [← e]; exact this
        · show lsK (List.map _ _) V = _
          rw [lsK_ah (Nat.pow_pos hL) a1, if_neg h0, if_pos h1, a2 _ (Nat.mod_lt _ (Nat.pow_pos hL))]
      · rw [decide_eq_false h1]
        have hdl : u / L ^ (m - fc L m u) < L ^ fc L m u := div_pow_lt' hL hfc.2.1 hu
        have hmr : u % L ^ (m - fc L m u) < L ^ (m - fc L m u) := Nat.mod_lt _ (Nat.pow_pos hL)
        obtain ⟨a1, a2⟩ := spS_K hL f (m - fc L m u) (u % L ^ (m - fc L m u)) (by omega) (by omega) hmr
        obtain ⟨b1, b2⟩ := spS_K hL f (fc L m u) (u / L ^ (m - fc L m u)) (by omega) (by omega) hdl
        refine ⟨fun q hq => ?_, fun V hV => ?_⟩
        · obtain ⟨r, hr, e⟩ := nm_mem hq
          obtain ⟨r', hr', e'⟩ := mc_mem hr
          have := slL_lt hL a1 b1 hr'
          rw [show m - fc L m u + fc L m u = m by omega] at this
          rw [← e, ← e']; exact this
        · show lsK (nmL _) V = _
          rw [lsK_nm, lsK_mc, slL_K hL, if_neg h0, if_neg h1, kv_N (by have := htL_le (L := L) (m := m) (u := u) hfc.2.1; have : PR = 2147483647 := rfl; omega)]
          refine congrArg (· * kN (nv (htL L m u (fc L m u)))) ?_
          have hhom := shR_homS (L := L) (n := m - fc L m u) (m := fc L m u) (V := V) (A := sml L f (m - fc L m u) (u % L ^ (m - fc L m u))) (B := sml L f (fc L m u) (u / L ^ (m - fc L m u))) hL (by omega) (by rw [show m - fc L m u + fc L m u = m by omega]; exact hV)
          rw [show m - fc L m u + fc L m u = m by omega] at hhom
          rw [hhom, ← lsL_sum a1]
          refine ksum_c (fun x hx => ?_)
          rw [a2 x hx, ← lsL_sum b1, ← ksum_ml]
          refine ksum_c (fun y hy => ?_)
          rw [b2 y hy, km_a]
