/-! a name of the whole library, so that rounds are read over it from the first part on -/
theorem wd_0 : True := by
  have := @Jvm.Free.Multi.fill_facts
  trivial
