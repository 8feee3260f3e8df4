/-! duality, reckoned -/
set_option maxRecDepth 100000 in
theorem du_4_4_0 : rgA (duW 4 4) 128 0 = true := by decide +kernel
