/-! duality, for all -/
theorem du_3_5 : ∀ w, w < 3 ^ 5 → duW 3 5 w = true := by
  intro w hw
  rw [show (3 : Nat) ^ 5 = 243 by decide] at hw
  by_cases h0 : w < 49
  · exact rgA_of du_3_5_0 w (by omega) (by omega)
  by_cases h1 : w < 98
  · exact rgA_of du_3_5_1 w (by omega) (by omega)
  by_cases h2 : w < 147
  · exact rgA_of du_3_5_2 w (by omega) (by omega)
  by_cases h3 : w < 196
  · exact rgA_of du_3_5_3 w (by omega) (by omega)
  exact rgA_of du_3_5_4 w (by omega) (by omega)
theorem du_4_4 : ∀ w, w < 4 ^ 4 → duW 4 4 w = true := by
  intro w hw
  rw [show (4 : Nat) ^ 4 = 256 by decide] at hw
  by_cases h0 : w < 128
  · exact rgA_of du_4_4_0 w (by omega) (by omega)
  exact rgA_of du_4_4_1 w (by omega) (by omega)
theorem du_ok {L d n : Nat} (h : cf_ok L d) (hn : n ≤ d) : ∀ w, w < L ^ n → duW L n w = true := by
  intro w hw
  rcases h with ⟨rfl, h1, h2⟩ | ⟨rfl, h1, h2⟩ | ⟨rfl, h1, h2⟩
  · rcases (show n = 0 ∨ n = 1 ∨ n = 2 ∨ n = 3 ∨ n = 4 ∨ n = 5 ∨ n = 6 by omega) with rfl | rfl | rfl | rfl | rfl | rfl | rfl
    · exact rgA_of du_2_0 w (Nat.zero_le _) (by rw [show (2 : Nat) ^ 0 = 1 by decide] at hw; omega)
    · exact rgA_of du_2_1 w (Nat.zero_le _) (by rw [show (2 : Nat) ^ 1 = 2 by decide] at hw; omega)
    · exact rgA_of du_2_2 w (Nat.zero_le _) (by rw [show (2 : Nat) ^ 2 = 4 by decide] at hw; omega)
    · exact rgA_of du_2_3 w (Nat.zero_le _) (by rw [show (2 : Nat) ^ 3 = 8 by decide] at hw; omega)
    · exact rgA_of du_2_4 w (Nat.zero_le _) (by rw [show (2 : Nat) ^ 4 = 16 by decide] at hw; omega)
    · exact rgA_of du_2_5 w (Nat.zero_le _) (by rw [show (2 : Nat) ^ 5 = 32 by decide] at hw; omega)
    · exact rgA_of du_2_6 w (Nat.zero_le _) (by rw [show (2 : Nat) ^ 6 = 64 by decide] at hw; omega)
  · rcases (show n = 0 ∨ n = 1 ∨ n = 2 ∨ n = 3 ∨ n = 4 ∨ n = 5 by omega) with rfl | rfl | rfl | rfl | rfl | rfl
    · exact rgA_of du_3_0 w (Nat.zero_le _) (by rw [show (3 : Nat) ^ 0 = 1 by decide] at hw; omega)
    · exact rgA_of du_3_1 w (Nat.zero_le _) (by rw [show (3 : Nat) ^ 1 = 3 by decide] at hw; omega)
    · exact rgA_of du_3_2 w (Nat.zero_le _) (by rw [show (3 : Nat) ^ 2 = 9 by decide] at hw; omega)
    · exact rgA_of du_3_3 w (Nat.zero_le _) (by rw [show (3 : Nat) ^ 3 = 27 by decide] at hw; omega)
    · exact rgA_of du_3_4 w (Nat.zero_le _) (by rw [show (3 : Nat) ^ 4 = 81 by decide] at hw; omega)
    · exact du_3_5 w hw
  · rcases (show n = 0 ∨ n = 1 ∨ n = 2 ∨ n = 3 ∨ n = 4 by omega) with rfl | rfl | rfl | rfl | rfl
    · exact rgA_of du_4_0 w (Nat.zero_le _) (by rw [show (4 : Nat) ^ 0 = 1 by decide] at hw; omega)
    · exact rgA_of du_4_1 w (Nat.zero_le _) (by rw [show (4 : Nat) ^ 1 = 4 by decide] at hw; omega)
    · exact rgA_of du_4_2 w (Nat.zero_le _) (by rw [show (4 : Nat) ^ 2 = 16 by decide] at hw; omega)
    · exact rgA_of du_4_3 w (Nat.zero_le _) (by rw [show (4 : Nat) ^ 3 = 64 by decide] at hw; omega)
    · exact du_4_4 w hw
