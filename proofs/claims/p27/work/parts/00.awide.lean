/-! names the library's rest at once, so that the first round on a new machine compiles the parts once, not twice -/
theorem wd_first : True := by
  have h := @Jvm.Free.Multi.fill_old
  trivial
