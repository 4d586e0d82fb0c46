def F_X7_bestRake   (w : xWt) : Option (Int32 × xWt) :=
  bd (F_X6_bestHeap 0 w) (fun x2 w1 => some (x2, w1))
def B_X7_bitsOf_17  (rec : UInt64 → Int32 → Int32 → UInt64 → Int32 → Int32 → xWt → Option ((UInt64 × Int32 × Int32) × xWt)) (l0 : UInt64) (l2 : Int32) (l3 : Int32) (l4 : UInt64) (l6 : Int32) (l7 : Int32) (w : xWt) : Option ((UInt64 × Int32 × Int32) × xWt) :=
  (if 1000 ≤ l7 then some ((l4, l6, l7), w) else (if 0 ≤ (Op.cmpValue (FP.dcmp l4 FP.dconst1) .g) then some ((l4, l6, l7), w) else nd (FP.dmul l4 4611686018427387904) (fun x1 => rec l0 l2 l3 x1 (l6 + (-1)) (l7 + 1) w)))
def L_X7_bitsOf_17  : Nat → UInt64 → Int32 → Int32 → UInt64 → Int32 → Int32 → xWt → Option ((UInt64 × Int32 × Int32) × xWt)
  | 0 => fun _ _ _ _ _ _ _ => none
  | n9 + 1 => B_X7_bitsOf_17  (L_X7_bitsOf_17  n9)
def B_X7_bitsOf_52  (rec : UInt64 → Int32 → Int32 → UInt64 → Int32 → Int32 → xWt → Option ((UInt64 × Int32 × Int32) × xWt)) (l0 : UInt64) (l2 : Int32) (l3 : Int32) (l4 : UInt64) (l6 : Int32) (l7 : Int32) (w : xWt) : Option ((UInt64 × Int32 × Int32) × xWt) :=
  (if 1000 ≤ l7 then some ((l4, l6, l7), w) else (if (Op.cmpValue (FP.dcmp l4 4611686018427387904) .l) < 0 then some ((l4, l6, l7), w) else nd (FP.ddiv l4 4611686018427387904) (fun x6 => rec l0 l2 l3 x6 (l6 + 1) (l7 + 1) w)))
def L_X7_bitsOf_52  : Nat → UInt64 → Int32 → Int32 → UInt64 → Int32 → Int32 → xWt → Option ((UInt64 × Int32 × Int32) × xWt)
  | 0 => fun _ _ _ _ _ _ _ => none
  | n9 + 1 => B_X7_bitsOf_52  (L_X7_bitsOf_52  n9)
def F_X7_bitsOf  (a1 : UInt64) (a2 : Int32) (a3 : Int32) (w : xWt) : Option (Int64 × xWt) :=
  (if 0 < (Op.cmpValue (FP.dcmp a1 FP.dconst0) .l) then bd (L_X7_bitsOf_17 9999 a1 a2 a3 a1 0 0 w) (fun o4 w5 => bd (L_X7_bitsOf_52 9999 a1 a2 a3 o4.1 o4.2.1 0 w5) (fun o9 w10 => nd (FP.dsub o9.1 FP.dconst1) (fun x11 => nd (FP.dmul x11 (FP.l2d (1 <<< (Int32.toInt64 a2 &&& 63)))) (fun x12 => some ((((Int32.toInt64 (a3 + o9.2.1)) <<< (Int32.toInt64 a2 &&& 63)) + (FP.d2l x12)), w10))))) else some (0, w))
def F_X7_burntShare   (w : xWt) : Option (UInt64 × xWt) :=
  bd (F_X2_numberWhere 0 2 w) (fun x2 w1 => bd (F_X2_numberWhere 0 1 w1) (fun x4 w3 => (if (x2 + x4) = 0 then some (FP.dconst1, w3) else nd (FP.ddiv (FP.i2d x2) (FP.i2d (x2 + x4))) (fun x5 => some (x5, w3)))))
def F_X7_carryOut  (a1 : Int32) (w : xWt) : Option (Int32 × xWt) :=
  bd (F_X3_digitAt (a1 + 1) w) (fun x2 w1 => bd (F_X3_digitAt (a1 + 2) w1) (fun x4 w3 => bd (F_X3_branchAt (a1 + 2) w3) (fun x6 w5 => bd (F_X3_signAt a1 w5) (fun x8 w7 => (if (x8).toInt = 101 then bd (F_X6_mayGoIn 0 x2 w7) (fun x150 w149 => (if x150 = 0 then some ((-1), w149) else bd (F_X6_goIn 0 x2 w149) (fun x152 w151 => some (x152, w151)))) else (if (x8).toInt = 102 then bd (F_X6_mayStrike 0 w7) (fun x145 w144 => (if x145 = 0 then some ((-1), w144) else bd (F_X6_strike 0 w144) (fun x147 w146 => some (x147, w146)))) else (if (x8).toInt = 103 then bd (F_X3_branchAt (a1 + 1) w7) (fun x136 w135 => bd (F_X6_maySprout 0 x136 w135) (fun x138 w137 => (if x138 = 0 then some ((-1), w137) else bd (F_X3_digitAt (a1 + 2) w137) (fun x140 w139 => bd (F_X2_sprout 0 x136 x140 w139) (fun x142 w141 => some (x142, w141)))))) else (if (x8).toInt = 104 then bd (F_X6_mayStrike 0 w7) (fun x131 w130 => (if x131 = 0 then some ((-1), w130) else bd (F_X6_strike 0 w130) (fun x133 w132 => some (x133, w132)))) else (if (x8).toInt = 105 then bd (F_X6_mayStrike 0 w7) (fun x126 w125 => (if x126 = 0 then some ((-1), w125) else bd (F_X6_strike 0 w125) (fun x128 w127 => some (x128, w127)))) else (if (x8).toInt = 106 then bd (F_X6_mayStrike 0 w7) (fun x121 w120 => (if x121 = 0 then some ((-1), w120) else bd (F_X6_strike 0 w120) (fun x123 w122 => some (x123, w122)))) else (if (x8).toInt = 107 then bd (F_X6_mayClear 0 x2 w7) (fun x116 w115 => (if x116 = 0 then some ((-1), w115) else bd (F_X6_clear 0 x2 w115) (fun x118 w117 => some (x118, w117)))) else (if (x8).toInt = 108 then bd (F_X6_mayStrike 0 w7) (fun x111 w110 => (if x111 = 0 then some ((-1), w110) else bd (F_X6_strike 0 w110) (fun x113 w112 => some (x113, w112)))) else (if (x8).toInt = 109 then bd (F_X6_mayStrike 0 w7) (fun x106 w105 => (if x106 = 0 then some ((-1), w105) else bd (F_X6_strike 0 w105) (fun x108 w107 => some (x108, w107)))) else (if (x8).toInt = 110 then bd (F_X3_branchAt (a1 + 3) w7) (fun x99 w98 => bd (F_X6_mayWrite 0 x2 x4 x99 w98) (fun x101 w100 => (if x101 = 0 then some ((-1), w100) else bd (F_X6_write 0 x2 x4 x99 w100) (fun x103 w102 => some (x103, w102))))) else (if (x8).toInt = 111 then bd (F_X6_mayStrike 0 w7) (fun x94 w93 => (if x94 = 0 then some ((-1), w93) else bd (F_X6_strike 0 w93) (fun x96 w95 => some (x96, w95)))) else (if (x8).toInt = 112 then bd (F_X6_mayFasten 0 x2 x4 w7) (fun x89 w88 => (if x89 = 0 then some ((-1), w88) else bd (F_X6_fasten 0 x2 x4 w88) (fun x91 w90 => some (x91, w90)))) else (if (x8).toInt = 113 then bd (F_X6_mayStrike 0 w7) (fun x84 w83 => (if x84 = 0 then some ((-1), w83) else bd (F_X6_strike 0 w83) (fun x86 w85 => some (x86, w85)))) else (if (x8).toInt = 114 then bd (F_X6_mayStrike 0 w7) (fun x79 w78 => (if x79 = 0 then some ((-1), w78) else bd (F_X6_strike 0 w78) (fun x81 w80 => some (x81, w80)))) else (if (x8).toInt = 115 then bd (F_X6_mayStrike 0 w7) (fun x74 w73 => (if x74 = 0 then some ((-1), w73) else bd (F_X6_strike 0 w73) (fun x76 w75 => some (x76, w75)))) else (if (x8).toInt = 116 then bd (F_X6_mayTakeOff 0 x2 x6 w7) (fun x69 w68 => (if x69 = 0 then some ((-1), w68) else bd (F_X6_takeOff 0 x2 x6 w68) (fun x71 w70 => some (x71, w70)))) else (if (x8).toInt = 117 then bd (F_X6_mayStrike 0 w7) (fun x64 w63 => (if x64 = 0 then some ((-1), w63) else bd (F_X6_strike 0 w63) (fun x66 w65 => some (x66, w65)))) else (if (x8).toInt = 118 then bd (F_X6_mayStrike 0 w7) (fun x59 w58 => (if x59 = 0 then some ((-1), w58) else bd (F_X6_strike 0 w58) (fun x61 w60 => some (x61, w60)))) else (if (x8).toInt = 119 then bd (F_X6_mayExchange 0 x2 x6 w7) (fun x52 w51 => (if x52 = 0 then some ((-1), w51) else bd (F_X3_digitAt (a1 + 3) w51) (fun x54 w53 => bd (F_X6_exchange 0 x2 x6 x54 w53) (fun x56 w55 => some (x56, w55))))) else (if (x8).toInt = 120 then bd (F_X6_mayRelease 0 x2 x4 w7) (fun x47 w46 => (if x47 = 0 then some ((-1), w46) else bd (F_X6_release 0 x2 x4 w46) (fun x49 w48 => some (x49, w48)))) else (if (x8).toInt = 121 then bd (F_X6_mayStrike 0 w7) (fun x42 w41 => (if x42 = 0 then some ((-1), w41) else bd (F_X6_strike 0 w41) (fun x44 w43 => some (x44, w43)))) else (if (x8).toInt = 122 then bd (F_X6_mayLieDown 0 x2 w7) (fun x37 w36 => (if x37 = 0 then some ((-1), w36) else bd (F_X6_lieDown 0 x2 w36) (fun x39 w38 => some (x39, w38)))) else bd (F_X6_mayStrike 0 w7) (fun x10 w9 => (if x10 = 0 then some ((-1), w9) else bd (F_X6_strike 0 w9) (fun x12 w11 => some (x12, w11))))))))))))))))))))))))))))))
def F_X7_clearBuffer   (w : xWt) : Option (Int32 × xWt) :=
  bd (F_X3_empty w) (fun x2 w1 => some (x2, w1))
def F_X7_counted  (a1 : Int32) (w : xWt) : Option (Int32 × xWt) :=
  (if a1 = 15 then bd (F_X5_number w) (fun x4 w3 => some (x4, w3)) else bd (F_X6_numberOfAll 0 a1 w) (fun x2 w1 => some (x2, w1)))
def F_X7_fullness   (w : xWt) : Option (UInt32 × xWt) :=
  bd (F_X0_number 0 w) (fun x2 w1 => (if 0 < ((w.2.1 0 1) * x2) then bd (F_X2_numberWhere 0 1 w1) (fun x4 w3 => nf (FP.fdiv (FP.i2f x4) (FP.i2f ((w.2.1 0 1) * x2))) (fun x5 => some (x5, w3))) else some (FP.fconst0, w1)))
def F_X7_mixed  (a1 : Int64) (a2 : Int64) (w : xWt) : Option (Int64 × xWt) :=
  some (((31 * a1) + a2), w)
def B_X7_mixedChild_6  (rec : Int64 → Int32 → Int64 → Int32 → xWt → Option ((Int64 × Int32) × xWt)) (l1 : Int64) (l3 : Int32) (l4 : Int64) (l6 : Int32) (w : xWt) : Option ((Int64 × Int32) × xWt) :=
  (if 7 < l6 then some ((l4, l6), w) else bd (F_X6_numberOfChild 0 l3 l6 w) (fun x2 w1 => bd (F_X7_mixed l4 (Int32.toInt64 x2) w1) (fun x4 w3 => rec l1 l3 x4 (l6 + 1) w3)))
def L_X7_mixedChild_6  : Nat → Int64 → Int32 → Int64 → Int32 → xWt → Option ((Int64 × Int32) × xWt)
  | 0 => fun _ _ _ _ _ => none
  | n9 + 1 => B_X7_mixedChild_6  (L_X7_mixedChild_6  n9)
def B_X7_mixedChild_49  (rec : Int64 → Int32 → Int64 → Int32 → Int32 → xWt → Option ((Int64 × Int32) × xWt)) (l1 : Int64) (l3 : Int32) (l4 : Int64) (l6 : Int32) (l7 : Int32) (w : xWt) : Option ((Int64 × Int32) × xWt) :=
  (if 2 < l7 then some ((l4, l7), w) else bd (F_X1_numberOfHook 0 l3 l6 l7 w) (fun x9 w8 => bd (F_X7_mixed l4 (Int32.toInt64 x9) w8) (fun x11 w10 => rec l1 l3 x11 l6 (l7 + 1) w10)))
def L_X7_mixedChild_49  : Nat → Int64 → Int32 → Int64 → Int32 → Int32 → xWt → Option ((Int64 × Int32) × xWt)
  | 0 => fun _ _ _ _ _ _ => none
  | n9 + 1 => B_X7_mixedChild_49  (L_X7_mixedChild_49  n9)
def B_X7_mixedChild_40  (rec : Int64 → Int32 → Int64 → Int32 → xWt → Option ((Int64 × Int32) × xWt)) (l1 : Int64) (l3 : Int32) (l4 : Int64) (l6 : Int32) (w : xWt) : Option ((Int64 × Int32) × xWt) :=
  (if 3 ≤ l6 then some ((l4, l6), w) else bd (L_X7_mixedChild_49 9999 l1 l3 l4 l6 0 w) (fun o13 w14 => bd (F_X6_freedBy 0 l3 l6 w14) (fun x16 w15 => bd (F_X7_mixed o13.1 (Int32.toInt64 x16) w15) (fun x18 w17 => rec l1 l3 x18 (l6 + 1) w17))))
def L_X7_mixedChild_40  : Nat → Int64 → Int32 → Int64 → Int32 → xWt → Option ((Int64 × Int32) × xWt)
  | 0 => fun _ _ _ _ _ => none
  | n9 + 1 => B_X7_mixedChild_40  (L_X7_mixedChild_40  n9)
def B_X7_mixedChild_127  (rec : Int64 → Int32 → Int64 → Int32 → Int32 → xWt → Option ((Int64 × Int32) × xWt)) (l1 : Int64) (l3 : Int32) (l4 : Int64) (l6 : Int32) (l7 : Int32) (w : xWt) : Option ((Int64 × Int32) × xWt) :=
  (if l6 ≤ l7 then some ((l4, l7), w) else bd (F_X0_leafOnHeap 0 l3 l7 w) (fun x25 w24 => bd (F_X7_mixed l4 (Int32.toInt64 x25) w24) (fun x27 w26 => rec l1 l3 x27 l6 (l7 + 1) w26)))
def L_X7_mixedChild_127  : Nat → Int64 → Int32 → Int64 → Int32 → Int32 → xWt → Option ((Int64 × Int32) × xWt)
  | 0 => fun _ _ _ _ _ _ => none
  | n9 + 1 => B_X7_mixedChild_127  (L_X7_mixedChild_127  n9)
def F_X7_mixedChild  (a1 : Int64) (a2 : Int32) (w : xWt) : Option (Int64 × xWt) :=
  bd (L_X7_mixedChild_6 9999 a1 a2 a1 0 w) (fun o6 w7 => bd (L_X7_mixedChild_40 9999 a1 a2 o6.1 0 w7) (fun o20 w21 => bd (R_X4_get 0 11 a2 w21) (fun x23 w22 => bd (L_X7_mixedChild_127 9999 a1 a2 o20.1 x23 0 w22) (fun o29 w30 => bd (F_X6_burnable 0 a2 0 (-1) w30) (fun x32 w31 => bd (F_X7_mixed o29.1 (Int32.toInt64 x32) w31) (fun x34 w33 => bd (F_X6_burnable 0 a2 1 (-1) w33) (fun x36 w35 => bd (F_X7_mixed x34 (Int32.toInt64 x36) w35) (fun x38 w37 => bd (F_X6_burnableIfRested 0 a2 w37) (fun x40 w39 => bd (F_X7_mixed x38 (Int32.toInt64 x40) w39) (fun x42 w41 => some (x42, w41)))))))))))
def B_X7_mixedLeaf_6  (rec : Int64 → Int32 → Int64 → Int32 → xWt → Option ((Int64 × Int32) × xWt)) (l1 : Int64) (l3 : Int32) (l4 : Int64) (l6 : Int32) (w : xWt) : Option ((Int64 × Int32) × xWt) :=
  (if 7 < l6 then some ((l4, l6), w) else bd (F_X6_numberOfLeaf 0 l3 l6 w) (fun x2 w1 => bd (F_X7_mixed l4 (Int32.toInt64 x2) w1) (fun x4 w3 => rec l1 l3 x4 (l6 + 1) w3)))
def L_X7_mixedLeaf_6  : Nat → Int64 → Int32 → Int64 → Int32 → xWt → Option ((Int64 × Int32) × xWt)
  | 0 => fun _ _ _ _ _ => none
  | n9 + 1 => B_X7_mixedLeaf_6  (L_X7_mixedLeaf_6  n9)
def F_X7_mixedLeaf  (a1 : Int64) (a2 : Int32) (w : xWt) : Option (Int64 × xWt) :=
  bd (L_X7_mixedLeaf_6 9999 a1 a2 a1 0 w) (fun o6 w7 => bd (F_X6_whyNotBurnt 0 a2 w7) (fun x9 w8 => bd (F_X7_mixed o6.1 (Int32.toInt64 x9) w8) (fun x11 w10 => some (x11, w10))))
def B_X7_mixedText_16  (rec : Int64 → Int64 → Int32 → xWt → Option ((Int64 × Int32) × xWt)) (l1 : Int64) (l3 : Int64) (l5 : Int32) (w : xWt) : Option ((Int64 × Int32) × xWt) :=
  bd (F_X3_length w) (fun x6 w5 => (if x6 ≤ l5 then some ((l3, l5), w5) else bd (F_X3_signAt l5 w5) (fun x8 w7 => bd (F_X7_mixed l3 (Int32.toInt64 x8) w7) (fun x10 w9 => rec l1 x10 (l5 + 1) w9))))
def L_X7_mixedText_16  : Nat → Int64 → Int64 → Int32 → xWt → Option ((Int64 × Int32) × xWt)
  | 0 => fun _ _ _ _ => none
  | n9 + 1 => B_X7_mixedText_16  (L_X7_mixedText_16  n9)
def F_X7_mixedText  (a1 : Int64) (w : xWt) : Option (Int64 × xWt) :=
  bd (F_X3_length w) (fun x2 w1 => bd (F_X7_mixed a1 (Int32.toInt64 x2) w1) (fun x4 w3 => bd (L_X7_mixedText_16 9999 a1 x4 0 w3) (fun o12 w13 => some (o12.1, w13))))
def B_X7_digest_6  (rec : Int64 → Int32 → xWt → Option ((Int64 × Int32) × xWt)) (l1 : Int64) (l3 : Int32) (w : xWt) : Option ((Int64 × Int32) × xWt) :=
  (if 15 < l3 then some ((l1, l3), w) else bd (F_X7_counted l3 w) (fun x2 w1 => bd (F_X7_mixed l1 (Int32.toInt64 x2) w1) (fun x4 w3 => rec x4 (l3 + 1) w3)))
def L_X7_digest_6  : Nat → Int64 → Int32 → xWt → Option ((Int64 × Int32) × xWt)
  | 0 => fun _ _ _ => none
  | n9 + 1 => B_X7_digest_6  (L_X7_digest_6  n9)
def B_X7_digest_31  (rec : Int64 → Int32 → xWt → Option ((Int64 × Int32) × xWt)) (l1 : Int64) (l3 : Int32) (w : xWt) : Option ((Int64 × Int32) × xWt) :=
  (if 2 ≤ l3 then some ((l1, l3), w) else bd (F_X6_valueOf 0 l3 w) (fun x9 w8 => bd (F_X7_mixed l1 (Int32.toInt64 x9) w8) (fun x11 w10 => rec x11 (l3 + 1) w10)))
def L_X7_digest_31  : Nat → Int64 → Int32 → xWt → Option ((Int64 × Int32) × xWt)
  | 0 => fun _ _ _ => none
  | n9 + 1 => B_X7_digest_31  (L_X7_digest_31  n9)
def B_X7_digest_58  (rec : Int64 → Int32 → xWt → Option ((Int64 × Int32) × xWt)) (l1 : Int64) (l3 : Int32) (w : xWt) : Option ((Int64 × Int32) × xWt) :=
  (if 12 ≤ l3 then some ((l1, l3), w) else bd (R_X4_get 0 0 l3 w) (fun x16 w15 => bd (F_X7_mixed l1 (Int32.toInt64 x16) w15) (fun x18 w17 => rec x18 (l3 + 1) w17)))
def L_X7_digest_58  : Nat → Int64 → Int32 → xWt → Option ((Int64 × Int32) × xWt)
  | 0 => fun _ _ _ => none
  | n9 + 1 => B_X7_digest_58  (L_X7_digest_58  n9)
def B_X7_digest_92  (rec : Int64 → Int32 → xWt → Option ((Int64 × Int32) × xWt)) (l1 : Int64) (l3 : Int32) (w : xWt) : Option ((Int64 × Int32) × xWt) :=
  (if (w.2.1 0 8) ≤ l3 then some ((l1, l3), w) else (if 120 ≤ l3 then some ((l1, l3), w) else bd (F_X7_mixedLeaf l1 l3 w) (fun x23 w22 => rec x23 (l3 + 1) w22)))
def L_X7_digest_92  : Nat → Int64 → Int32 → xWt → Option ((Int64 × Int32) × xWt)
  | 0 => fun _ _ _ => none
  | n9 + 1 => B_X7_digest_92  (L_X7_digest_92  n9)
def B_X7_digest_127  (rec : Int64 → Int32 → xWt → Option ((Int64 × Int32) × xWt)) (l1 : Int64) (l3 : Int32) (w : xWt) : Option ((Int64 × Int32) × xWt) :=
  (if 5 ≤ l3 then some ((l1, l3), w) else bd (F_X0_isHere 0 l3 w) (fun x29 w28 => (if x29 = 0 then rec l1 (l3 + 1) w28 else bd (F_X7_mixedChild l1 l3 w28) (fun x31 w30 => rec x31 (l3 + 1) w30))))
def L_X7_digest_127  : Nat → Int64 → Int32 → xWt → Option ((Int64 × Int32) × xWt)
  | 0 => fun _ _ _ => none
  | n9 + 1 => B_X7_digest_127  (L_X7_digest_127  n9)
def F_X7_digest   (w : xWt) : Option (Int64 × xWt) :=
  bd (L_X7_digest_6 9999 3347 0 w) (fun o6 w7 => bd (L_X7_digest_31 9999 o6.1 0 w7) (fun o13 w14 => bd (L_X7_digest_58 9999 o13.1 0 w14) (fun o20 w21 => bd (L_X7_digest_92 9999 o20.1 0 w21) (fun o26 w27 => bd (L_X7_digest_127 9999 o26.1 0 w27) (fun o34 w35 => bd (F_X6_bestHeap 0 w35) (fun x37 w36 => bd (F_X7_mixed o34.1 (Int32.toInt64 x37) w36) (fun x39 w38 => bd (F_X0_maskOfLate 0 (w38.2.1 0 0) w38) (fun x41 w40 => bd (F_X7_mixed x39 (Int32.toInt64 x41) w40) (fun x43 w42 => bd (F_X6_burnableIfAllRested 0 w42) (fun x45 w44 => bd (F_X7_mixed x43 (Int32.toInt64 x45) w44) (fun x47 w46 => bd (F_X6_mostPinned 0 w46) (fun x49 w48 => bd (F_X7_mixed x47 (Int32.toInt64 x49) w48) (fun x51 w50 => bd (F_X7_burntShare w50) (fun x53 w52 => bd (F_X7_bitsOf x53 52 1023 w52) (fun x55 w54 => bd (F_X7_mixed x51 x55 w54) (fun x57 w56 => bd (F_X7_fullness w56) (fun x59 w58 => nd (FP.f2d x59) (fun x60 => bd (F_X7_bitsOf x60 23 127 w58) (fun x62 w61 => bd (F_X7_mixed x57 x62 w61) (fun x64 w63 => (if (w63.2.1 8 3) = 0 then bd (F_X7_mixed x64 0 w63) (fun x66 w65 => bd (F_X7_mixedText x66 w65) (fun x68 w67 => some (x68, w67))) else bd (F_X7_mixed x64 1 w63) (fun x70 w69 => bd (F_X7_mixedText x70 w69) (fun x72 w71 => some (x72, w71))))))))))))))))))))))))
def F_X7_firstError   (w : xWt) : Option (Int32 × xWt) :=
  bd (F_X3_firstWrong w) (fun x2 w1 => some (x2, w1))
def F_X7_ifAllRested   (w : xWt) : Option (Int32 × xWt) :=
  bd (F_X6_burnableIfAllRested 0 w) (fun x2 w1 => some (x2, w1))
def F_X7_isValueOf  (a1 : Int32) (a2 : Int32) (w : xWt) : Option (Int32 × xWt) :=
  (if a1 = 0 then (if a2 < 1 then some (0, w) else (if 20 < a2 then some (0, w) else some (1, w))) else (if a2 = 0 then some (1, w) else (if a2 = 1 then some (1, w) else some (0, w))))
def F_X7_keep   (w : xWt) : Option (Int32 × xWt) :=
  bd (F_X6_copyFrom 1 0 w) (fun _ w1 => lw (sF w1 8 3 1) (fun w2 => some ((w2.2.1 0 0), w2)))
def F_X7_late   (w : xWt) : Option (Int32 × xWt) :=
  bd (F_X0_maskOfLate 0 (w.2.1 0 0) w) (fun x2 w1 => some (x2, w1))
def F_X7_mostHeld   (w : xWt) : Option (Int32 × xWt) :=
  bd (F_X6_mostPinned 0 w) (fun x2 w1 => some (x2, w1))
