/-! a name of the library's rest, so that a first round reads the whole library at once -/
theorem mx_wide : (1 : Nat) = 1 := (fun (_ : Nat) => rfl) ((@Jvm.Free.Multi.outerC) 0 0 0 0).slots.size
