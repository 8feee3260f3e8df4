/-! the first state of both -/
section ZA
variable {L d : Nat}
def A0 : AS := (fun _ _ => 0, (0, fun _ => 0, fun _ => 0), (0, fun _ => 0, fun _ _ => 0), (0, fun _ => 0))
theorem MR_0 {S : ms_T} (h : mk_ok L d S) : MR L d A0 S := by
  have hc := ck_of h
  obtain ⟨⟨h1, h2, h3, h4, h5, h6, h7⟩, h8⟩ := h
  refine ⟨hc, ⟨fun _ => 0, fun j _ => ⟨by rw [h7 0 (by decide)]; rfl, (show 0 < PR by decide)⟩, fun s _ w _ => kN_0⟩, ⟨h5 4 (by decide), Nat.zero_le _, fun i hi => absurd hi (Nat.not_lt_zero i)⟩, ⟨h5 5 (by decide), Nat.zero_le _, fun i hi => absurd hi (Nat.not_lt_zero i)⟩, ⟨h5 7 (by decide), Nat.zero_le _, fun i hi => absurd hi (Nat.not_lt_zero i)⟩⟩
theorem csS_z {f36 f37 fw fA fB : Nat → Int32} {k : Nat} (h : kV k) : (csS0 L d f36 f37 fw fA fB).2.1 k = (fun _ => 0) ∧ csLn L d k = ofs L (d + 1) := by
  unfold kV at h
  rcases (show k = 3 ∨ k = 4 ∨ k = 5 ∨ k = 6 ∨ k = 7 ∨ k = 8 ∨ k = 9 ∨ k = 10 ∨ k = 11 ∨ k = 12 ∨ k = 13 ∨ k = 14 ∨ k = 15 ∨ k = 16 ∨ k = 17 ∨ k = 18 ∨ k = 19 ∨ k = 20 ∨ k = 21 ∨ k = 22 ∨ k = 23 ∨ k = 24 ∨ k = 25 ∨ k = 26 ∨ k = 27 ∨ k = 28 ∨ k = 29 ∨ k = 30 ∨ k = 31 ∨ k = 32 by omega) with rfl | rfl | rfl | rfl | rfl | rfl | rfl | rfl | rfl | rfl | rfl | rfl | rfl | rfl | rfl | rfl | rfl | rfl | rfl | rfl | rfl | rfl | rfl | rfl | rfl | rfl | rfl | rfl | rfl | rfl <;> exact ⟨rfl, rfl⟩
theorem gn_z {ns : Nat → Nat} {vs : Nat → Nat → Kf} (hL : 1 ≤ L) : ∀ n v, gnV L 0 ns vs n v → ∀ w, w < L ^ n → v w = 0
  | 0, v, h, w, hw => by
    rw [Nat.pow_zero] at hw
    have : w = 0 := by omega
    rw [this]
    exact h
  | n + 1, v, h, w, hw => by
    obtain ⟨u, c, hu, hv⟩ := h
    rw [hv w hw]
    have hz : ∀ x, x < L → brX L n x (u x) w = 0 := fun x hx => by
      have h1 : w % L ^ n < L ^ n := Nat.mod_lt _ (Nat.pow_pos hL)
      have h2 : w / L < L ^ n := by
        rw [Nat.div_lt_iff_lt_mul hL, ← Nat.pow_succ]
        exact hw
      unfold brX
      rw [gn_z hL n (u x) (hu x hx) _ h1, gn_z hL n (u x) (hu x hx) _ h2, ite_self, ite_self, km_0, ka_0]
    rw [ksum_z hz, ka_0']
    rfl
theorem CR_0 {S : cs_T} (hcf : cf_ok L d) (h : cs_start L d S) : CR L d (csLn L d) A0 S := by
  obtain ⟨f36, f37, fw, fA, fB, f46, rfl, hok⟩ := h
  have hL := cf_L hcf
  have hd := cf_d hcf
  refine ⟨⟨fun _ _ => 0, ⟨⟨hcf, rfl, rfl, rfl, rfl, fun n hn => powF_at (by omega), fun n hn => stF_at (by omega)⟩, rfl, rfl, fun k hk => (csS_z (f36 := f36) (f37 := f37) (fw := fw) (fA := fA) (fB := fB) hk).2, rfl, fun n h1 hn => ?_, fun k j hk hj => by rw [(csS_z hk).1]; rfl⟩, fun _ _ => eqW_rf⟩, ⟨rfl, rfl, rfl, rfl, rfl, hok.1, hok.2.1⟩, ⟨rfl, Nat.zero_le _, rfl, rfl, fun i hi => absurd hi (Nat.not_lt_zero i)⟩, ⟨⟨rfl, rfl, rfl, rfl, rfl, rfl, rfl⟩, ⟨fun _ => 0, fun _ _ _ => 0, fun _ _ => 0, ⟨fun n hn => ⟨rwF_at hn, pvF_at hn⟩, fun n h1 hn => ⟨rfl, Nat.zero_le _⟩, fun n i _ _ hi => absurd hi (Nat.not_lt_zero i)⟩, fun n h1 hn => ⟨⟨fun i hi => absurd hi (Nat.not_lt_zero i), fun i j _ hj => absurd hj (Nat.not_lt_zero j)⟩, fun i hi => absurd hi (Nat.not_lt_zero i), fun v hv => ⟨fun _ => 0, fun w hw => gn_z (by omega) n v hv w hw⟩⟩, fun _ _ _ _ => rfl, ⟨fun _ => rfl, fun _ => rfl⟩⟩, rfl, Nat.zero_le _, fun k hk => absurd hk (Nat.not_lt_zero k)⟩, ⟨rfl, Nat.zero_le _, rfl, fun i hi => absurd hi (Nat.not_lt_zero i)⟩⟩
  show prF (d + 1) n = kI (kv (kN n))
  unfold prF
  rw [if_pos (by omega)]
  show nI (nv n) = nI (nv (kN n).val)
  rw [kN_v (by unfold PR; omega)]
end ZA
