/-! LIE, reckoned -/
set_option maxRecDepth 100000 in
theorem li_2_1 : rgA (lieW 2 1) 2 0 = true := by decide +kernel
set_option maxRecDepth 100000 in
theorem lx_2_1 : rgA (lieX 2 1) 2 0 = true := by decide +kernel
set_option maxRecDepth 100000 in
theorem li_2_2 : rgA (lieW 2 2) 4 0 = true := by decide +kernel
set_option maxRecDepth 100000 in
theorem lx_2_2 : rgA (lieX 2 2) 4 0 = true := by decide +kernel
set_option maxRecDepth 100000 in
theorem li_2_3 : rgA (lieW 2 3) 8 0 = true := by decide +kernel
set_option maxRecDepth 100000 in
theorem lx_2_3 : rgA (lieX 2 3) 8 0 = true := by decide +kernel
set_option maxRecDepth 100000 in
theorem li_2_4 : rgA (lieW 2 4) 16 0 = true := by decide +kernel
set_option maxRecDepth 100000 in
theorem lx_2_4 : rgA (lieX 2 4) 16 0 = true := by decide +kernel
set_option maxRecDepth 100000 in
theorem li_2_5 : rgA (lieW 2 5) 32 0 = true := by decide +kernel
set_option maxRecDepth 100000 in
theorem lx_2_5 : rgA (lieX 2 5) 32 0 = true := by decide +kernel
set_option maxRecDepth 100000 in
theorem li_3_1 : rgA (lieW 3 1) 3 0 = true := by decide +kernel
set_option maxRecDepth 100000 in
theorem lx_3_1 : rgA (lieX 3 1) 3 0 = true := by decide +kernel
set_option maxRecDepth 100000 in
theorem li_3_2 : rgA (lieW 3 2) 9 0 = true := by decide +kernel
set_option maxRecDepth 100000 in
theorem lx_3_2 : rgA (lieX 3 2) 9 0 = true := by decide +kernel
set_option maxRecDepth 100000 in
theorem li_3_3 : rgA (lieW 3 3) 27 0 = true := by decide +kernel
set_option maxRecDepth 100000 in
theorem lx_3_3 : rgA (lieX 3 3) 27 0 = true := by decide +kernel
set_option maxRecDepth 100000 in
theorem li_3_4 : rgA (lieW 3 4) 81 0 = true := by decide +kernel
set_option maxRecDepth 100000 in
theorem lx_3_4 : rgA (lieX 3 4) 81 0 = true := by decide +kernel
set_option maxRecDepth 100000 in
theorem li_4_1 : rgA (lieW 4 1) 4 0 = true := by decide +kernel
set_option maxRecDepth 100000 in
theorem lx_4_1 : rgA (lieX 4 1) 4 0 = true := by decide +kernel
set_option maxRecDepth 100000 in
theorem li_4_2 : rgA (lieW 4 2) 16 0 = true := by decide +kernel
set_option maxRecDepth 100000 in
theorem lx_4_2 : rgA (lieX 4 2) 16 0 = true := by decide +kernel
set_option maxRecDepth 100000 in
theorem li_4_3 : rgA (lieW 4 3) 64 0 = true := by decide +kernel
set_option maxRecDepth 100000 in
theorem lx_4_3 : rgA (lieX 4 3) 64 0 = true := by decide +kernel
