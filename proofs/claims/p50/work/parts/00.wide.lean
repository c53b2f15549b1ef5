/-- its name stands in the library's rest alone: a round that meets it first goes over the whole library at once, not behind ten parts -/
theorem zz_wide (c : ClassId) (N h : Nat) : Jvm.Free.Multi.outerC c N h 0 = Jvm.Free.Multi.outerC c N h 0 := rfl
