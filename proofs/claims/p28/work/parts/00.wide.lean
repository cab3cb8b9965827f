/-! a name of the whole library: so that the parts are read over it -/
theorem qa_wide (comp : ClassId) (M : Nat) (dv : Value) : Jvm.Free.Multi.innerC comp M dv = Jvm.Free.Multi.innerC comp M dv := rfl
