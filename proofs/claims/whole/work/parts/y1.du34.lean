/-! duality, reckoned -/
set_option maxRecDepth 100000 in
theorem du_3_5_4 : rgA (duW 3 5) 47 196 = true := by decide +kernel
