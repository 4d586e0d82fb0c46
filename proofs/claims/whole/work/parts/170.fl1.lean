/-! fractions: the bits that the program makes by hand -/
def ndO (r : UInt64) : Option UInt64 := if r &&& 0x7fffffffffffffff ≤ 0x7ff0000000000000 then some r else none
def nfO (r : UInt32) : Option UInt32 := if r &&& 0x7fffffff ≤ 0x7f800000 then some r else none
def pw1 : Nat → UInt64 → Int32 → Int32 → Option (UInt64 × Int32 × Int32)
  | 0, _, _, _ => none
  | n + 1, x, e, k => if 1000 ≤ k then some (x, e, k) else if 0 ≤ (Op.cmpValue (FP.dcmp x FP.dconst1) .g) then some (x, e, k) else match ndO (FP.dmul x 4611686018427387904) with
    | none => none
    | some y => pw1 n y (e + (-1)) (k + 1)
def pw2 : Nat → UInt64 → Int32 → Int32 → Option (UInt64 × Int32 × Int32)
  | 0, _, _, _ => none
  | n + 1, x, e, k => if 1000 ≤ k then some (x, e, k) else if (Op.cmpValue (FP.dcmp x 4611686018427387904) .l) < 0 then some (x, e, k) else match ndO (FP.ddiv x 4611686018427387904) with
    | none => none
    | some y => pw2 n y (e + 1) (k + 1)
def pbits (x : UInt64) (a2 a3 : Int32) : Option Int64 := if 0 < (Op.cmpValue (FP.dcmp x FP.dconst0) .l) then (match pw1 9 x 0 0 with
    | none => none
    | some (y, e, _) => match pw2 9 y e 0 with
      | none => none
      | some (y2, e2, _) => match ndO (FP.dsub y2 FP.dconst1) with
        | none => none
        | some d => match ndO (FP.dmul d (FP.l2d (1 <<< (Int32.toInt64 a2 &&& 63)))) with
          | none => none
          | some m => some (((Int32.toInt64 (a3 + e2)) <<< (Int32.toInt64 a2 &&& 63)) + (FP.d2l m))) else some 0
def shr (a s : Nat) : UInt64 := FP.ddiv (FP.i2d (nI a)) (FP.i2d (nI s))
def ful (a s : Nat) : UInt32 := FP.fdiv (FP.i2f (nI a)) (FP.i2f (nI s))
def okD (r : UInt64) : Bool := decide (r &&& 0x7fffffffffffffff ≤ 0x7ff0000000000000) && decide ((Op.cmpValue (FP.dcmp r r) .l) = 0)
def okF (r : UInt32) : Bool := decide (r &&& 0x7fffffff ≤ 0x7f800000) && decide ((Op.cmpValue (FP.fcmp r r) .l) = 0) && okD (FP.f2d r)
def chk1 (a s : Nat) : Bool := okD (shr a s) && decide (pbits (shr a s) 52 1023 = some (UInt64.toInt64 (shr a s)))
def chk2 (a s : Nat) : Bool := okF (ful a s) && decide (pbits (FP.f2d (ful a s)) 23 127 = some (Int32.toInt64 (UInt32.toInt32 (ful a s))))
