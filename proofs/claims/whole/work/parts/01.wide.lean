/-! the exception rows lean on the whole library: said at the very first, so that a round is read over it from its beginning -/
theorem wd_wide : True := by
  have := @Stand.thenCaughtThrough
  trivial
