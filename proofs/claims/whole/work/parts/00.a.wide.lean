/-! a name of the whole library, so that a first round on a new machine takes it at once -/
theorem wd_0 : @Jvm.Free.Multi.outerC = @Jvm.Free.Multi.outerC := rfl
