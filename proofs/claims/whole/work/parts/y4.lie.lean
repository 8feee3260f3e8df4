/-! LIE, reckoned -/
set_option maxRecDepth 100000 in
theorem li_2_6 : rgA (lieW 2 6) 64 0 = true := by decide +kernel
set_option maxRecDepth 100000 in
theorem li_3_5 : rgA (lieW 3 5) 243 0 = true := by decide +kernel
set_option maxRecDepth 100000 in
theorem li_4_4 : rgA (lieW 4 4) 256 0 = true := by decide +kernel
