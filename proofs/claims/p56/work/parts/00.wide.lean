/-- the library's multianewarray laws are wanted in part 16 -/
theorem zz_wide (T : State) (a b : ClassId) (n k : Nat) (v : Value) (i : Nat) : True := by
  have := Jvm.Free.Multi.fill_facts T a b n k v i
  trivial
