/-! a name of the rest of the library, so that a first round is read over the whole of it at once -/
theorem z_shelf : True := by
  have := @Stand.thenCaughtThrough
  trivial
