/-! duality, reckoned -/
set_option maxRecDepth 100000 in
theorem du_3_5_3 : rgA (duW 3 5) 49 147 = true := by decide +kernel
