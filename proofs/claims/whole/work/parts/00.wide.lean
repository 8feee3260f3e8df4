/-! the wide library at once -/
theorem zz_wide : True := by
  have h := @Stand.multianewarray2F
  trivial
