/-! the round is read over the whole library: a row of it is used in 09 -/
theorem ev_wide : True := by
  have _h := @Jvm.Stand.multianewarray2F
  trivial
