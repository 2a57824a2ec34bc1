/-! names a row of the whole library, so that a light round reads over the whole of it from its first part on -/
theorem br_wide : True := by
  have _ := @Jvm.Free.Multi.fill_old
  trivial
