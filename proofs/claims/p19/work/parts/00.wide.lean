/-! Names of the rest of the library that part 16 uses: named here first, so that a round is read over the whole of it from the beginning. -/
theorem nb_wide : True := by
  have _h1 := @Stand.thenCaughtThrough
  have _h2 := @Stand.outThrough
  trivial
