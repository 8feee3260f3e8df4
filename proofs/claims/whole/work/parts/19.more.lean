/-! rows that came later -/
theorem xr_ne {x c : Int32} (h : ¬ x = c) : ¬ x.toInt = c.toInt := fun e => h (Int32.toInt_inj.mp e)
