/-! the whole library: a name of it, ahead of all (so that a round is read over the whole from its first part on) -/
theorem wd_tN : Bundle.tN = "java/lang/Throwable" := rfl
