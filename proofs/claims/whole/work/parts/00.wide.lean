/-- the whole library is wanted (arrays of two dimensions) -/
theorem mw_wide : True := by
  have _h := @Jvm.Stand.multianewarray2F
  trivial
