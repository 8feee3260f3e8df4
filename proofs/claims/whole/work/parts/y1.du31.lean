/-! duality, reckoned -/
set_option maxRecDepth 100000 in
theorem du_3_5_1 : rgA (duW 3 5) 49 49 = true := by decide +kernel
