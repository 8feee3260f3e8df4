/-! LIE, for all -/
theorem li_ok {L d n : Nat} (h : cf_ok L d) (h1 : 1 ≤ n) (hn : n + 0 ≤ d) : ∀ w, w < L ^ n → lieW L n w = true := by
  intro w hw
  rcases h with ⟨rfl, h2, h3⟩ | ⟨rfl, h2, h3⟩ | ⟨rfl, h2, h3⟩
  · rcases (show n = 1 ∨ n = 2 ∨ n = 3 ∨ n = 4 ∨ n = 5 ∨ n = 6 by omega) with rfl | rfl | rfl | rfl | rfl | rfl
    · exact rgA_of li_2_1 w (Nat.zero_le _) (by rw [show (2 : Nat) ^ 1 = 2 by decide] at hw; omega)
    · exact rgA_of li_2_2 w (Nat.zero_le _) (by rw [show (2 : Nat) ^ 2 = 4 by decide] at hw; omega)
    · exact rgA_of li_2_3 w (Nat.zero_le _) (by rw [show (2 : Nat) ^ 3 = 8 by decide] at hw; omega)
    · exact rgA_of li_2_4 w (Nat.zero_le _) (by rw [show (2 : Nat) ^ 4 = 16 by decide] at hw; omega)
    · exact rgA_of li_2_5 w (Nat.zero_le _) (by rw [show (2 : Nat) ^ 5 = 32 by decide] at hw; omega)
    · exact rgA_of li_2_6 w (Nat.zero_le _) (by rw [show (2 : Nat) ^ 6 = 64 by decide] at hw; omega)
  · rcases (show n = 1 ∨ n = 2 ∨ n = 3 ∨ n = 4 ∨ n = 5 by omega) with rfl | rfl | rfl | rfl | rfl
    · exact rgA_of li_3_1 w (Nat.zero_le _) (by rw [show (3 : Nat) ^ 1 = 3 by decide] at hw; omega)
    · exact rgA_of li_3_2 w (Nat.zero_le _) (by rw [show (3 : Nat) ^ 2 = 9 by decide] at hw; omega)
    · exact rgA_of li_3_3 w (Nat.zero_le _) (by rw [show (3 : Nat) ^ 3 = 27 by decide] at hw; omega)
    · exact rgA_of li_3_4 w (Nat.zero_le _) (by rw [show (3 : Nat) ^ 4 = 81 by decide] at hw; omega)
    · exact rgA_of li_3_5 w (Nat.zero_le _) (by rw [show (3 : Nat) ^ 5 = 243 by decide] at hw; omega)
  · rcases (show n = 1 ∨ n = 2 ∨ n = 3 ∨ n = 4 by omega) with rfl | rfl | rfl | rfl
    · exact rgA_of li_4_1 w (Nat.zero_le _) (by rw [show (4 : Nat) ^ 1 = 4 by decide] at hw; omega)
    · exact rgA_of li_4_2 w (Nat.zero_le _) (by rw [show (4 : Nat) ^ 2 = 16 by decide] at hw; omega)
    · exact rgA_of li_4_3 w (Nat.zero_le _) (by rw [show (4 : Nat) ^ 3 = 64 by decide] at hw; omega)
    · exact rgA_of li_4_4 w (Nat.zero_le _) (by rw [show (4 : Nat) ^ 4 = 256 by decide] at hw; omega)
theorem lx_ok {L d n : Nat} (h : cf_ok L d) (h1 : 1 ≤ n) (hn : n + 1 ≤ d) : ∀ w, w < L ^ n → lieX L n w = true := by
  intro w hw
  rcases h with ⟨rfl, h2, h3⟩ | ⟨rfl, h2, h3⟩ | ⟨rfl, h2, h3⟩
  · rcases (show n = 1 ∨ n = 2 ∨ n = 3 ∨ n = 4 ∨ n = 5 by omega) with rfl | rfl | rfl | rfl | rfl
    · exact rgA_of lx_2_1 w (Nat.zero_le _) (by rw [show (2 : Nat) ^ 1 = 2 by decide] at hw; omega)
    · exact rgA_of lx_2_2 w (Nat.zero_le _) (by rw [show (2 : Nat) ^ 2 = 4 by decide] at hw; omega)
    · exact rgA_of lx_2_3 w (Nat.zero_le _) (by rw [show (2 : Nat) ^ 3 = 8 by decide] at hw; omega)
    · exact rgA_of lx_2_4 w (Nat.zero_le _) (by rw [show (2 : Nat) ^ 4 = 16 by decide] at hw; omega)
    · exact rgA_of lx_2_5 w (Nat.zero_le _) (by rw [show (2 : Nat) ^ 5 = 32 by decide] at hw; omega)
  · rcases (show n = 1 ∨ n = 2 ∨ n = 3 ∨ n = 4 by omega) with rfl | rfl | rfl | rfl
    · exact rgA_of lx_3_1 w (Nat.zero_le _) (by rw [show (3 : Nat) ^ 1 = 3 by decide] at hw; omega)
    · exact rgA_of lx_3_2 w (Nat.zero_le _) (by rw [show (3 : Nat) ^ 2 = 9 by decide] at hw; omega)
    · exact rgA_of lx_3_3 w (Nat.zero_le _) (by rw [show (3 : Nat) ^ 3 = 27 by decide] at hw; omega)
    · exact rgA_of lx_3_4 w (Nat.zero_le _) (by rw [show (3 : Nat) ^ 4 = 81 by decide] at hw; omega)
  · rcases (show n = 1 ∨ n = 2 ∨ n = 3 by omega) with rfl | rfl | rfl
    · exact rgA_of lx_4_1 w (Nat.zero_le _) (by rw [show (4 : Nat) ^ 1 = 4 by decide] at hw; omega)
    · exact rgA_of lx_4_2 w (Nat.zero_le _) (by rw [show (4 : Nat) ^ 2 = 16 by decide] at hw; omega)
    · exact rgA_of lx_4_3 w (Nat.zero_le _) (by rw [show (4 : Nat) ^ 3 = 64 by decide] at hw; omega)
theorem kr_ok {L d : Nat} (h : cf_ok L d) : KR L d := ⟨fun n hn => du_ok h hn, fun n h1 hn => li_ok h h1 hn, fun n h1 hn => lx_ok h h1 hn⟩
