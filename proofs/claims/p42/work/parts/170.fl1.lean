/-! fractions: the bits that the program makes by hand -/
def shr (a s : Nat) : UInt64 := FP.ddiv (FP.i2d (nI a)) (FP.i2d (nI s))
def ful (a s : Nat) : UInt32 := FP.fdiv (FP.i2f (nI a)) (FP.i2f (nI s))
def okD (r : UInt64) : Bool := decide (r &&& 0x7fffffffffffffff ≤ 0x7ff0000000000000) && decide ((Op.cmpValue (FP.dcmp r r) .l) = 0)
def okF (r : UInt32) : Bool := decide (r &&& 0x7fffffff ≤ 0x7f800000) && decide ((Op.cmpValue (FP.fcmp r r) .l) = 0) && okD (FP.f2d r)
def chk1 (a s : Nat) : Bool := okD (shr a s) && true
def chk2 (a s : Nat) : Bool := okF (ful a s) && true

