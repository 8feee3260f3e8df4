/-! duality, reckoned: all but the longest words -/
set_option maxRecDepth 100000 in
theorem du_2_0 : rgA (duW 2 0) 1 0 = true := by decide +kernel
set_option maxRecDepth 100000 in
theorem du_2_1 : rgA (duW 2 1) 2 0 = true := by decide +kernel
set_option maxRecDepth 100000 in
theorem du_2_2 : rgA (duW 2 2) 4 0 = true := by decide +kernel
set_option maxRecDepth 100000 in
theorem du_2_3 : rgA (duW 2 3) 8 0 = true := by decide +kernel
set_option maxRecDepth 100000 in
theorem du_2_4 : rgA (duW 2 4) 16 0 = true := by decide +kernel
set_option maxRecDepth 100000 in
theorem du_2_5 : rgA (duW 2 5) 32 0 = true := by decide +kernel
set_option maxRecDepth 100000 in
theorem du_2_6 : rgA (duW 2 6) 64 0 = true := by decide +kernel
set_option maxRecDepth 100000 in
theorem du_3_0 : rgA (duW 3 0) 1 0 = true := by decide +kernel
set_option maxRecDepth 100000 in
theorem du_3_1 : rgA (duW 3 1) 3 0 = true := by decide +kernel
set_option maxRecDepth 100000 in
theorem du_3_2 : rgA (duW 3 2) 9 0 = true := by decide +kernel
set_option maxRecDepth 100000 in
theorem du_3_3 : rgA (duW 3 3) 27 0 = true := by decide +kernel
set_option maxRecDepth 100000 in
theorem du_3_4 : rgA (duW 3 4) 81 0 = true := by decide +kernel
set_option maxRecDepth 100000 in
theorem du_4_0 : rgA (duW 4 0) 1 0 = true := by decide +kernel
set_option maxRecDepth 100000 in
theorem du_4_1 : rgA (duW 4 1) 4 0 = true := by decide +kernel
set_option maxRecDepth 100000 in
theorem du_4_2 : rgA (duW 4 2) 16 0 = true := by decide +kernel
set_option maxRecDepth 100000 in
theorem du_4_3 : rgA (duW 4 3) 64 0 = true := by decide +kernel
