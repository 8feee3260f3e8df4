/-! duality, reckoned -/
set_option maxRecDepth 100000 in
theorem du_4_4_1 : rgA (duW 4 4) 128 128 = true := by decide +kernel
