/-! the whole library: a name of its rest, ahead of all (so that a round is read over the whole from its first part on) -/
theorem wd_rest : True := by
  have _h := @Jvm.Stand.thenCaughtThrough
  trivial
