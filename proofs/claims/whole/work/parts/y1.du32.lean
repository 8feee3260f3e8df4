/-! duality, reckoned -/
set_option maxRecDepth 100000 in
theorem du_3_5_2 : rgA (duW 3 5) 49 98 = true := by decide +kernel
