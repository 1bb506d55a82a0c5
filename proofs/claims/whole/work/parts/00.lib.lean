/-! 18.mna names a row of the rest of the library: named here first, so that a new machine reads the parts once only -/
theorem qc_lib0 : True := by
  have _h := @Jvm.Stand.multianewarray2F
  exact True.intro
