/-! duality, reckoned -/
set_option maxRecDepth 100000 in
theorem du_3_5_0 : rgA (duW 3 5) 49 0 = true := by decide +kernel
