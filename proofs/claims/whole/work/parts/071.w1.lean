theorem x1ok : (F_X8_init46 w0).isSome = true := by decide +kernel
/-- the world after the constructors -/
def w1 : xWt := ((F_X8_init46 w0).get x1ok).2
theorem opt_w {o : Option (Unit × xWt)} (h : o.isSome = true) : o = some ((), (o.get h).2) := by
  cases o with
  | none => cases h
  | some x => rfl
theorem w1_eq : F_X8_init46 w0 = some ((), w1) := by
  unfold w1
  exact opt_w x1ok
theorem w1_o : w1.2.2 = none := by decide +kernel
/-- and with out's cell -/
def w2 : xWt := (w1.1, w1.2.1, some 0)
