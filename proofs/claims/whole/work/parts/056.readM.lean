def F_Jxe99ae_isNaN_b9ae7  (a1 : UInt64) (w : xWt) : Option (Int32 × xWt) :=
  (if (Op.cmpValue (FP.dcmp a1 a1) .l) = 0 then some (0, w) else some (1, w))
def F_Jxe99ae_doubleToLongBits_ccdee  (a1 : UInt64) (w : xWt) : Option (Int64 × xWt) :=
  bd (F_Jxe99ae_isNaN_b9ae7 a1 w) (fun x2 w1 => (if x2 = 0 then some ((UInt64.toInt64 a1), w1) else some (9221120237041090560, w1)))
def F_Jxf58ca_isNaN_12338  (a1 : UInt32) (w : xWt) : Option (Int32 × xWt) :=
  (if (Op.cmpValue (FP.fcmp a1 a1) .l) = 0 then some (0, w) else some (1, w))
def F_Jxf58ca_floatToIntBits_5c35a  (a1 : UInt32) (w : xWt) : Option (Int32 × xWt) :=
  bd (F_Jxf58ca_isNaN_12338 a1 w) (fun x2 w1 => (if x2 = 0 then some ((UInt32.toInt32 a1), w1) else some (2143289344, w1)))
def F_X8_in  (a1 : Int32) (a2 : Int32) (a3 : Int32) (w : xWt) : Option (Int32 × xWt) :=
  (if a1 < a2 then some (0, w) else (if a3 < a1 then some (0, w) else some (1, w)))
def F_X8_append  (a1 : Int32) (w : xWt) : Option (Int32 × xWt) :=
  bd (F_X8_in a1 33 126 w) (fun x2 w1 => (if x2 = 0 then lw (sF w1 9 0 1) (fun w12 => (if (w12.2.1 9 0) ≤ 0 then ast w12 9 3 (w12.2.1 9 3) a1 (fun w13 => lw (sF w13 9 3 ((w13.2.1 9 3) + 1)) (fun w14 => some ((w14.2.1 9 3), w14))) else some (0, w12))) else (if (w1.2.1 9 3) = 60 then lw (sF w1 9 0 2) (fun w7 => (if (w7.2.1 9 0) ≤ 0 then ast w7 9 3 (w7.2.1 9 3) a1 (fun w8 => lw (sF w8 9 3 ((w8.2.1 9 3) + 1)) (fun w9 => some ((w9.2.1 9 3), w9))) else some (0, w7))) else lw (sF w1 9 0 0) (fun w3 => (if (w3.2.1 9 0) ≤ 0 then ast w3 9 3 (w3.2.1 9 3) a1 (fun w4 => lw (sF w4 9 3 ((w4.2.1 9 3) + 1)) (fun w5 => some ((w5.2.1 9 3), w5))) else some (0, w3))))))
def F_X8_of  (a1 : Int32) (a2 : Int32) (w : xWt) : Option (Int32 × xWt) :=
  ald w 9 0 ((22 + (6 * a1)) + a2) (fun x1 => some (x1, w))
def F_X8_isOnHeap  (a1 : Int32) (a2 : Int32) (w : xWt) : Option (Int32 × xWt) :=
  bd (F_X8_of a1 1 w) (fun x2 w1 => (if x2 = 1 then bd (F_X8_of a1 4 w1) (fun x4 w3 => (if x4 = a2 then some (1, w3) else some (0, w3))) else some (0, w1)))
def F_X8_ofChild  (a1 : Int32) (a2 : Int32) (w : xWt) : Option (Int32 × xWt) :=
  ald w 9 0 ((742 + (15 * a1)) + a2) (fun x1 => some (x1, w))
def F_X8_ofHook  (a1 : Int32) (a2 : Int32) (a3 : Int32) (w : xWt) : Option (Int32 × xWt) :=
  bd (F_X8_ofChild a1 ((6 + (3 * a2)) + a3) w) (fun x2 w1 => some (x2, w1))
def B_X8_holders_14  (rec : Int32 → Int32 → Int32 → Int32 → Int32 → xWt → Option ((Int32 × Int32) × xWt)) (l1 : Int32) (l2 : Int32) (l3 : Int32) (l4 : Int32) (l5 : Int32) (w : xWt) : Option ((Int32 × Int32) × xWt) :=
  (if 3 ≤ l5 then some ((l3, l5), w) else (if l4 = l2 then rec l1 l2 (l3 ||| 0) l4 (l5 + 1) w else bd (F_X8_ofHook l4 l5 0 w) (fun x3 w2 => (if x3 = 2 then bd (F_X8_ofHook l4 l5 1 w2) (fun x6 w5 => (if x6 = l1 then rec l1 l2 (l3 ||| (1 <<< (l4 &&& 31))) l4 (l5 + 1) w5 else rec l1 l2 (l3 ||| 0) l4 (l5 + 1) w5)) else rec l1 l2 (l3 ||| 0) l4 (l5 + 1) w2))))
def L_X8_holders_14  : Nat → Int32 → Int32 → Int32 → Int32 → Int32 → xWt → Option ((Int32 × Int32) × xWt)
  | 0 => fun _ _ _ _ _ _ => none
  | n9 + 1 => B_X8_holders_14  (L_X8_holders_14  n9)
def B_X8_holders_5  (rec : Int32 → Int32 → Int32 → Int32 → xWt → Option ((Int32 × Int32) × xWt)) (l1 : Int32) (l2 : Int32) (l3 : Int32) (l4 : Int32) (w : xWt) : Option ((Int32 × Int32) × xWt) :=
  (if 5 ≤ l4 then some ((l3, l4), w) else bd (L_X8_holders_14 9999 l1 l2 l3 l4 0 w) (fun o13 w14 => rec l1 l2 o13.1 (l4 + 1) w14))
def L_X8_holders_5  : Nat → Int32 → Int32 → Int32 → Int32 → xWt → Option ((Int32 × Int32) × xWt)
  | 0 => fun _ _ _ _ _ => none
  | n9 + 1 => B_X8_holders_5  (L_X8_holders_5  n9)
def F_X8_holders  (a1 : Int32) (a2 : Int32) (w : xWt) : Option (Int32 × xWt) :=
  bd (L_X8_holders_5 9999 a1 a2 0 0 w) (fun o16 w17 => some (o16.1, w17))
def F_X8_mayBurn  (a1 : Int32) (a2 : Int32) (w : xWt) : Option (Int32 × xWt) :=
  (if a2 = 0 then bd (F_X8_holders a1 (-1) w) (fun x6 w5 => (if x6 = 0 then some (1, w5) else some (0, w5))) else ald w 9 0 0 (fun x1 => bd (F_X8_of a1 3 w) (fun x3 w2 => (if (x1 - x3) < 2 then some (0, w2) else some (1, w2)))))
def B_X8_burnable_5  (rec : Int32 → Int32 → Int32 → Int32 → xWt → Option ((Int32 × Int32) × xWt)) (l1 : Int32) (l2 : Int32) (l3 : Int32) (l4 : Int32) (w : xWt) : Option ((Int32 × Int32) × xWt) :=
  ald w 9 0 1 (fun x1 => (if x1 ≤ l4 then some ((l3, l4), w) else bd (F_X8_isOnHeap l4 l1 w) (fun x3 w2 => (if x3 = 0 then rec l1 l2 (l3 + 0) (l4 + 1) w2 else bd (F_X8_mayBurn l4 l2 w2) (fun x5 w4 => (if x5 = 0 then rec l1 l2 (l3 + 0) (l4 + 1) w4 else rec l1 l2 (l3 + 1) (l4 + 1) w4))))))
def L_X8_burnable_5  : Nat → Int32 → Int32 → Int32 → Int32 → xWt → Option ((Int32 × Int32) × xWt)
  | 0 => fun _ _ _ _ _ => none
  | n9 + 1 => B_X8_burnable_5  (L_X8_burnable_5  n9)
def F_X8_burnable  (a1 : Int32) (a2 : Int32) (w : xWt) : Option (Int32 × xWt) :=
  bd (L_X8_burnable_5 9999 a1 a2 0 0 w) (fun o9 w10 => some (o9.1, w10))
def B_X8_heapOf_4  (rec : Int32 → Int32 → Int32 → xWt → Option ((Int32 × Int32) × xWt)) (l1 : Int32) (l2 : Int32) (l3 : Int32) (w : xWt) : Option ((Int32 × Int32) × xWt) :=
  ald w 9 0 1 (fun x1 => (if x1 ≤ l3 then some ((l2, l3), w) else bd (F_X8_isOnHeap l3 l1 w) (fun x3 w2 => (if x3 = 0 then rec l1 (l2 + 0) (l3 + 1) w2 else rec l1 (l2 + 1) (l3 + 1) w2))))
def L_X8_heapOf_4  : Nat → Int32 → Int32 → Int32 → xWt → Option ((Int32 × Int32) × xWt)
  | 0 => fun _ _ _ _ => none
  | n9 + 1 => B_X8_heapOf_4  (L_X8_heapOf_4  n9)
def F_X8_heapOf  (a1 : Int32) (w : xWt) : Option (Int32 × xWt) :=
  bd (L_X8_heapOf_4 9999 a1 0 0 w) (fun o6 w7 => some (o6.1, w7))
def B_X8_findBestRake_6  (rec : Int32 → Int32 → Int32 → xWt → Option ((Int32 × Int32 × Int32) × xWt)) (l1 : Int32) (l2 : Int32) (l3 : Int32) (w : xWt) : Option ((Int32 × Int32 × Int32) × xWt) :=
  (if 5 ≤ l3 then some ((l1, l2, l3), w) else bd (F_X8_ofChild l3 0 w) (fun x2 w1 => (if x2 = 1 then ald w1 9 0 9 (fun x11 => bd (F_X8_burnable l3 x11 w1) (fun x13 w12 => (if l2 < x13 then rec l3 x13 (l3 + 1) w12 else (if x13 ≤ 0 then rec l1 l2 (l3 + 1) w12 else (if x13 = l2 then bd (F_X8_heapOf l3 w12) (fun x15 w14 => bd (F_X8_heapOf l1 w14) (fun x17 w16 => (if x15 ≤ x17 then rec l1 l2 (l3 + 1) w16 else rec l3 x13 (l3 + 1) w16))) else rec l1 l2 (l3 + 1) w12))))) else (if l2 < 0 then rec l3 0 (l3 + 1) w1 else rec l1 l2 (l3 + 1) w1))))
def L_X8_findBestRake_6  : Nat → Int32 → Int32 → Int32 → xWt → Option ((Int32 × Int32 × Int32) × xWt)
  | 0 => fun _ _ _ _ => none
  | n9 + 1 => B_X8_findBestRake_6  (L_X8_findBestRake_6  n9)
def F_X8_findBestRake   (w : xWt) : Option (Int32 × xWt) :=
  bd (L_X8_findBestRake_6 9999 (-1) 0 0 w) (fun o24 w25 => some (o24.1, w25))
def F_X8_bestRake   (w : xWt) : Option (Int32 × xWt) :=
  lw (sF w 9 0 0) (fun w1 => bd (F_X8_findBestRake w1) (fun x3 w2 => some (x3, w2)))
def F_X8_isBranch  (a1 : Int32) (w : xWt) : Option (Int32 × xWt) :=
  bd (F_X8_in a1 0 11 w) (fun x2 w1 => zr x2 (some (x2, w1)))
def F_X8_branch  (a1 : Int32) (w : xWt) : Option (Int32 × xWt) :=
  bd (F_X8_isBranch a1 w) (fun x2 w1 => (if x2 = 0 then lw (sF w1 9 0 1) (fun w3 => (if (w3.2.1 9 0) ≤ 0 then ald w3 9 0 (10 + a1) (fun x4 => some (x4, w3)) else some (0, w3))) else lw (sF w1 9 0 0) (fun w6 => (if (w6.2.1 9 0) ≤ 0 then ald w6 9 0 (10 + a1) (fun x7 => some (x7, w6)) else some (0, w6)))))
def B_X8_burnableWithout_4  (rec : Int32 → Int32 → Int32 → xWt → Option ((Int32 × Int32) × xWt)) (l1 : Int32) (l2 : Int32) (l3 : Int32) (w : xWt) : Option ((Int32 × Int32) × xWt) :=
  ald w 9 0 1 (fun x1 => (if x1 ≤ l3 then some ((l2, l3), w) else ald w 9 0 9 (fun x2 => (if x2 = 0 then bd (F_X8_holders l3 l1 w) (fun x10 w9 => (if x10 = 0 then bd (F_X8_of l3 1 w9) (fun x16 w15 => (if x16 = 1 then rec l1 (l2 + 1) (l3 + 1) w15 else rec l1 (l2 + 0) (l3 + 1) w15)) else bd (F_X8_of l3 1 w9) (fun x12 w11 => (if x12 = 1 then rec l1 (l2 + 0) (l3 + 1) w11 else rec l1 (l2 + 0) (l3 + 1) w11)))) else bd (F_X8_mayBurn l3 1 w) (fun x4 w3 => bd (F_X8_of l3 1 w3) (fun x6 w5 => (if x6 = 1 then (if x4 = 0 then rec l1 (l2 + 0) (l3 + 1) w5 else rec l1 (l2 + 1) (l3 + 1) w5) else rec l1 (l2 + 0) (l3 + 1) w5)))))))
def L_X8_burnableWithout_4  : Nat → Int32 → Int32 → Int32 → xWt → Option ((Int32 × Int32) × xWt)
  | 0 => fun _ _ _ _ => none
  | n9 + 1 => B_X8_burnableWithout_4  (L_X8_burnableWithout_4  n9)
def F_X8_burnableWithout  (a1 : Int32) (w : xWt) : Option (Int32 × xWt) :=
  bd (L_X8_burnableWithout_4 9999 a1 0 0 w) (fun o22 w23 => some (o22.1, w23))
def B_X8_leavesAt_4  (rec : Int32 → Int32 → Int32 → xWt → Option ((Int32 × Int32) × xWt)) (l1 : Int32) (l2 : Int32) (l3 : Int32) (w : xWt) : Option ((Int32 × Int32) × xWt) :=
  ald w 9 0 1 (fun x1 => (if x1 ≤ l3 then some ((l2, l3), w) else bd (F_X8_of l3 1 w) (fun x3 w2 => (if x3 = l1 then rec l1 (l2 + 1) (l3 + 1) w2 else rec l1 (l2 + 0) (l3 + 1) w2))))
def L_X8_leavesAt_4  : Nat → Int32 → Int32 → Int32 → xWt → Option ((Int32 × Int32) × xWt)
  | 0 => fun _ _ _ _ => none
  | n9 + 1 => B_X8_leavesAt_4  (L_X8_leavesAt_4  n9)
def F_X8_leavesAt  (a1 : Int32) (w : xWt) : Option (Int32 × xWt) :=
  bd (L_X8_leavesAt_4 9999 a1 0 0 w) (fun o6 w7 => some (o6.1, w7))
def F_X8_shareOfBurnt   (w : xWt) : Option (UInt64 × xWt) :=
  bd (F_X8_leavesAt 2 w) (fun x2 w1 => bd (F_X8_leavesAt 1 w1) (fun x4 w3 => (if (x2 + x4) = 0 then some (FP.dconst1, w3) else nd (FP.ddiv (FP.i2d x2) (FP.i2d (x2 + x4))) (fun x5 => some (x5, w3)))))
def F_X8_burntShare   (w : xWt) : Option (UInt64 × xWt) :=
  lw (sF w 9 0 0) (fun w1 => bd (F_X8_shareOfBurnt w1) (fun x3 w2 => some (x3, w2)))
def F_X8_isInYard  (a1 : Int32) (w : xWt) : Option (Int32 × xWt) :=
  bd (F_X8_ofChild a1 1 w) (fun x2 w1 => (if x2 = 1 then some (1, w1) else some (0, w1)))
def B_X8_lateOnes_4  (rec : Int32 → Int32 → xWt → Option ((Int32 × Int32) × xWt)) (l1 : Int32) (l2 : Int32) (w : xWt) : Option ((Int32 × Int32) × xWt) :=
  (if 5 ≤ l2 then some ((l1, l2), w) else bd (F_X8_isInYard l2 w) (fun x2 w1 => (if x2 = 0 then rec (l1 ||| 0) (l2 + 1) w1 else bd (F_X8_ofChild l2 2 w1) (fun x4 w3 => ald w3 9 0 0 (fun x5 => (if x4 = x5 then rec (l1 ||| 0) (l2 + 1) w3 else rec (l1 ||| (1 <<< (l2 &&& 31))) (l2 + 1) w3))))))
def L_X8_lateOnes_4  : Nat → Int32 → Int32 → xWt → Option ((Int32 × Int32) × xWt)
  | 0 => fun _ _ _ => none
  | n9 + 1 => B_X8_lateOnes_4  (L_X8_lateOnes_4  n9)
def F_X8_lateOnes   (w : xWt) : Option (Int32 × xWt) :=
  bd (L_X8_lateOnes_4 9999 0 0 w) (fun o9 w10 => some (o9.1, w10))
def F_X8_isChild  (a1 : Int32) (w : xWt) : Option (Int32 × xWt) :=
  bd (F_X8_in a1 0 4 w) (fun x2 w1 => (if x2 = 0 then some (0, w1) else bd (F_X8_ofChild a1 0 w1) (fun x4 w3 => (if x4 = 1 then some (1, w3) else some (0, w3)))))
def F_X8_whyNotEnter  (a1 : Int32) (w : xWt) : Option (Int32 × xWt) :=
  bd (F_X8_isChild a1 w) (fun x2 w1 => (if x2 = 0 then some (1, w1) else bd (F_X8_isInYard a1 w1) (fun x4 w3 => (if x4 = 0 then some (0, w3) else some (2, w3)))))
def F_X8_isColour  (a1 : Int32) (w : xWt) : Option (Int32 × xWt) :=
  bd (F_X8_in a1 0 9 w) (fun x2 w1 => zr x2 (some (x2, w1)))
def F_X8_whyNotGrow  (a1 : Int32) (a2 : Int32) (w : xWt) : Option (Int32 × xWt) :=
  bd (F_X8_isBranch a1 w) (fun x2 w1 => (if x2 = 0 then some (1, w1) else bd (F_X8_isColour a2 w1) (fun x4 w3 => (if x4 = 0 then some (2, w3) else ald w3 9 0 (10 + a1) (fun x5 => (if 0 ≤ x5 then some (3, w3) else ald w3 9 0 1 (fun x6 => (if x6 = 120 then some (3, w3) else some (0, w3)))))))))
def F_X8_isHook  (a1 : Int32) (w : xWt) : Option (Int32 × xWt) :=
  bd (F_X8_in a1 0 2 w) (fun x2 w1 => zr x2 (some (x2, w1)))
def F_X8_whyNotNote  (a1 : Int32) (a2 : Int32) (a3 : Int32) (w : xWt) : Option (Int32 × xWt) :=
  bd (F_X8_isChild a1 w) (fun x2 w1 => (if x2 = 0 then some (1, w1) else bd (F_X8_isHook a2 w1) (fun x4 w3 => (if x4 = 0 then some (1, w3) else bd (F_X8_isBranch a3 w3) (fun x6 w5 => (if x6 = 0 then some (1, w5) else bd (F_X8_isInYard a1 w5) (fun x8 w7 => (if x8 = 0 then some (2, w7) else bd (F_X8_ofHook a1 a2 0 w7) (fun x10 w9 => (if x10 = 0 then ald w9 9 0 (10 + a3) (fun x11 => (if 0 ≤ x11 then some (0, w9) else some (2, w9))) else some (2, w9)))))))))))
def F_X8_whyNotPin  (a1 : Int32) (a2 : Int32) (w : xWt) : Option (Int32 × xWt) :=
  bd (F_X8_isChild a1 w) (fun x2 w1 => (if x2 = 0 then some (1, w1) else bd (F_X8_isHook a2 w1) (fun x4 w3 => (if x4 = 0 then some (1, w3) else bd (F_X8_ofHook a1 a2 0 w3) (fun x6 w5 => (if x6 = 1 then some (0, w5) else some (2, w5)))))))
def F_X8_whyNotRake  (a1 : Int32) (w : xWt) : Option (Int32 × xWt) :=
  bd (F_X8_isChild a1 w) (fun x2 w1 => (if x2 = 0 then some (1, w1) else bd (F_X8_heapOf a1 w1) (fun x4 w3 => (if x4 = 0 then some (2, w3) else some (0, w3)))))
def F_X8_whyNotRest  (a1 : Int32) (w : xWt) : Option (Int32 × xWt) :=
  bd (F_X8_isChild a1 w) (fun x2 w1 => (if x2 = 0 then some (1, w1) else bd (F_X8_isInYard a1 w1) (fun x4 w3 => (if x4 = 0 then some (2, w3) else some (0, w3)))))
def F_X8_whyNotSwap  (a1 : Int32) (a2 : Int32) (a3 : Int32) (w : xWt) : Option (Int32 × xWt) :=
  bd (F_X8_isChild a1 w) (fun x2 w1 => (if x2 = 0 then some (1, w1) else bd (F_X8_isBranch a2 w1) (fun x4 w3 => (if x4 = 0 then some (1, w3) else bd (F_X8_isColour a3 w3) (fun x6 w5 => (if x6 = 0 then some (2, w5) else bd (F_X8_isInYard a1 w5) (fun x8 w7 => (if x8 = 0 then some (3, w7) else ald w7 9 0 (10 + a2) (fun x9 => (if x9 < 0 then some (3, w7) else ald w7 9 0 1 (fun x10 => (if x10 = 120 then some (3, w7) else some (0, w7)))))))))))))
def F_X8_whyNotTake  (a1 : Int32) (a2 : Int32) (w : xWt) : Option (Int32 × xWt) :=
  bd (F_X8_isChild a1 w) (fun x2 w1 => (if x2 = 0 then some (1, w1) else bd (F_X8_isBranch a2 w1) (fun x4 w3 => (if x4 = 0 then some (1, w3) else bd (F_X8_isInYard a1 w3) (fun x6 w5 => (if x6 = 0 then some (2, w5) else ald w5 9 0 (10 + a2) (fun x7 => (if 0 ≤ x7 then some (0, w5) else some (2, w5)))))))))
def F_X8_whyNotUse  (a1 : Int32) (a2 : Int32) (w : xWt) : Option (Int32 × xWt) :=
  bd (F_X8_isChild a1 w) (fun x2 w1 => (if x2 = 0 then some (1, w1) else bd (F_X8_isHook a2 w1) (fun x4 w3 => (if x4 = 0 then some (1, w3) else bd (F_X8_ofHook a1 a2 0 w3) (fun x6 w5 => (if x6 = 0 then some (2, w5) else some (0, w5)))))))
def F_X8_canDo   (w : xWt) : Option (Int32 × xWt) :=
  (if ((w.2.1 9 4)).toInt = 101 then ald w 9 4 1 (fun x105 => bd (F_X8_whyNotEnter x105 w) (fun x107 w106 => (if x107 = 0 then some (1, w106) else some (0, w106)))) else (if ((w.2.1 9 4)).toInt = 102 then bd (F_X8_lateOnes w) (fun x103 w102 => (if x103 = 0 then some (1, w102) else some (0, w102))) else (if ((w.2.1 9 4)).toInt = 103 then ald w 9 4 3 (fun x97 => ald w 9 4 4 (fun x98 => bd (F_X8_whyNotGrow x97 x98 w) (fun x100 w99 => (if x100 = 0 then some (1, w99) else some (0, w99))))) else (if ((w.2.1 9 4)).toInt = 104 then bd (F_X8_lateOnes w) (fun x95 w94 => (if x95 = 0 then some (1, w94) else some (0, w94))) else (if ((w.2.1 9 4)).toInt = 105 then bd (F_X8_lateOnes w) (fun x92 w91 => (if x92 = 0 then some (1, w91) else some (0, w91))) else (if ((w.2.1 9 4)).toInt = 106 then bd (F_X8_lateOnes w) (fun x89 w88 => (if x89 = 0 then some (1, w88) else some (0, w88))) else (if ((w.2.1 9 4)).toInt = 107 then ald w 9 4 1 (fun x84 => bd (F_X8_whyNotRake x84 w) (fun x86 w85 => (if x86 = 0 then some (1, w85) else some (0, w85)))) else (if ((w.2.1 9 4)).toInt = 108 then bd (F_X8_lateOnes w) (fun x82 w81 => (if x82 = 0 then some (1, w81) else some (0, w81))) else (if ((w.2.1 9 4)).toInt = 109 then bd (F_X8_lateOnes w) (fun x79 w78 => (if x79 = 0 then some (1, w78) else some (0, w78))) else (if ((w.2.1 9 4)).toInt = 110 then ald w 9 4 1 (fun x72 => ald w 9 4 2 (fun x73 => ald w 9 4 3 (fun x74 => bd (F_X8_whyNotNote x72 x73 x74 w) (fun x76 w75 => (if x76 = 0 then some (1, w75) else some (0, w75)))))) else (if ((w.2.1 9 4)).toInt = 111 then bd (F_X8_lateOnes w) (fun x70 w69 => (if x70 = 0 then some (1, w69) else some (0, w69))) else (if ((w.2.1 9 4)).toInt = 112 then ald w 9 4 1 (fun x64 => ald w 9 4 2 (fun x65 => bd (F_X8_whyNotPin x64 x65 w) (fun x67 w66 => (if x67 = 0 then some (1, w66) else some (0, w66))))) else (if ((w.2.1 9 4)).toInt = 113 then bd (F_X8_lateOnes w) (fun x62 w61 => (if x62 = 0 then some (1, w61) else some (0, w61))) else (if ((w.2.1 9 4)).toInt = 114 then bd (F_X8_lateOnes w) (fun x59 w58 => (if x59 = 0 then some (1, w58) else some (0, w58))) else (if ((w.2.1 9 4)).toInt = 115 then bd (F_X8_lateOnes w) (fun x56 w55 => (if x56 = 0 then some (1, w55) else some (0, w55))) else (if ((w.2.1 9 4)).toInt = 116 then ald w 9 4 1 (fun x50 => ald w 9 4 3 (fun x51 => bd (F_X8_whyNotTake x50 x51 w) (fun x53 w52 => (if x53 = 0 then some (1, w52) else some (0, w52))))) else (if ((w.2.1 9 4)).toInt = 117 then bd (F_X8_lateOnes w) (fun x48 w47 => (if x48 = 0 then some (1, w47) else some (0, w47))) else (if ((w.2.1 9 4)).toInt = 118 then bd (F_X8_lateOnes w) (fun x45 w44 => (if x45 = 0 then some (1, w44) else some (0, w44))) else (if ((w.2.1 9 4)).toInt = 119 then ald w 9 4 1 (fun x38 => ald w 9 4 3 (fun x39 => ald w 9 4 4 (fun x40 => bd (F_X8_whyNotSwap x38 x39 x40 w) (fun x42 w41 => (if x42 = 0 then some (1, w41) else some (0, w41)))))) else (if ((w.2.1 9 4)).toInt = 120 then ald w 9 4 1 (fun x33 => ald w 9 4 2 (fun x34 => bd (F_X8_whyNotUse x33 x34 w) (fun x36 w35 => (if x36 = 0 then some (1, w35) else some (0, w35))))) else (if ((w.2.1 9 4)).toInt = 121 then bd (F_X8_lateOnes w) (fun x31 w30 => (if x31 = 0 then some (1, w30) else some (0, w30))) else (if ((w.2.1 9 4)).toInt = 122 then ald w 9 4 1 (fun x26 => bd (F_X8_whyNotRest x26 w) (fun x28 w27 => (if x28 = 0 then some (1, w27) else some (0, w27)))) else bd (F_X8_lateOnes w) (fun x2 w1 => (if x2 = 0 then some (1, w1) else some (0, w1)))))))))))))))))))))))))
def B_X8_hooksOf_5  (rec : Int32 → Int32 → Int32 → Int32 → xWt → Option ((Int32 × Int32) × xWt)) (l1 : Int32) (l2 : Int32) (l3 : Int32) (l4 : Int32) (w : xWt) : Option ((Int32 × Int32) × xWt) :=
  (if 3 ≤ l4 then some ((l3, l4), w) else bd (F_X8_ofHook l1 l4 0 w) (fun x2 w1 => (if x2 = l2 then rec l1 l2 (l3 + 1) (l4 + 1) w1 else rec l1 l2 (l3 + 0) (l4 + 1) w1)))
def L_X8_hooksOf_5  : Nat → Int32 → Int32 → Int32 → Int32 → xWt → Option ((Int32 × Int32) × xWt)
  | 0 => fun _ _ _ _ _ => none
  | n9 + 1 => B_X8_hooksOf_5  (L_X8_hooksOf_5  n9)
def F_X8_hooksOf  (a1 : Int32) (a2 : Int32) (w : xWt) : Option (Int32 × xWt) :=
  bd (L_X8_hooksOf_5 9999 a1 a2 0 0 w) (fun o5 w6 => some (o5.1, w6))
def F_X8_childNow  (a1 : Int32) (a2 : Int32) (w : xWt) : Option (Int32 × xWt) :=
  (if (a2).toInt = 0 then bd (F_X8_ofChild a1 1 w) (fun x23 w22 => some (x23, w22)) else (if (a2).toInt = 1 then bd (F_X8_ofChild a1 2 w) (fun x21 w20 => some (x21, w20)) else (if (a2).toInt = 2 then bd (F_X8_hooksOf a1 2 w) (fun x19 w18 => some (x19, w18)) else (if (a2).toInt = 3 then bd (F_X8_hooksOf a1 1 w) (fun x17 w16 => some (x17, w16)) else (if (a2).toInt = 4 then bd (F_X8_heapOf a1 w) (fun x15 w14 => some (x15, w14)) else (if (a2).toInt = 5 then bd (F_X8_ofChild a1 3 w) (fun x13 w12 => some (x13, w12)) else (if (a2).toInt = 6 then bd (F_X8_ofChild a1 4 w) (fun x11 w10 => some (x11, w10)) else bd (F_X8_ofChild a1 5 w) (fun x2 w1 => some (x2, w1)))))))))
def F_X8_child  (a1 : Int32) (a2 : Int32) (w : xWt) : Option (Int32 × xWt) :=
  bd (F_X8_isChild a1 w) (fun x2 w1 => (if x2 = 0 then lw (sF w1 9 0 1) (fun w14 => (if (w14.2.1 9 0) ≤ 0 then bd (F_X8_childNow a1 a2 w14) (fun x16 w15 => some (x16, w15)) else some (0, w14))) else bd (F_X8_in a2 0 7 w1) (fun x4 w3 => (if x4 = 0 then lw (sF w3 9 0 2) (fun w5 => (if (w5.2.1 9 0) ≤ 0 then bd (F_X8_childNow a1 a2 w5) (fun x7 w6 => some (x7, w6)) else some (0, w5))) else lw (sF w3 9 0 0) (fun w9 => (if (w9.2.1 9 0) ≤ 0 then bd (F_X8_childNow a1 a2 w9) (fun x11 w10 => some (x11, w10)) else some (0, w9)))))))
def B_X8_children_4  (rec : Int32 → Int32 → xWt → Option ((Int32 × Int32) × xWt)) (l1 : Int32) (l2 : Int32) (w : xWt) : Option ((Int32 × Int32) × xWt) :=
  (if 5 ≤ l2 then some ((l1, l2), w) else bd (F_X8_ofChild l2 0 w) (fun x2 w1 => rec (l1 + x2) (l2 + 1) w1))
def L_X8_children_4  : Nat → Int32 → Int32 → xWt → Option ((Int32 × Int32) × xWt)
  | 0 => fun _ _ _ => none
  | n9 + 1 => B_X8_children_4  (L_X8_children_4  n9)
def F_X8_children   (w : xWt) : Option (Int32 × xWt) :=
  bd (L_X8_children_4 9999 0 0 w) (fun o4 w5 => some (o4.1, w5))
def F_X8_clearBuffer   (w : xWt) : Option (Int32 × xWt) :=
  lw (sF w 9 0 0) (fun w1 => lw (sF w1 9 3 0) (fun w2 => some ((w1.2.1 9 3), w2)))
def F_X8_setChild  (a1 : Int32) (a2 : Int32) (a3 : Int32) (w : xWt) : Option (Unit × xWt) :=
  ast w 9 0 ((742 + (15 * a1)) + a2) a3 (fun w1 => some ((), w1))
def F_X8_setHook  (a1 : Int32) (a2 : Int32) (a3 : Int32) (a4 : Int32) (a5 : Int32) (w : xWt) : Option (Unit × xWt) :=
  bd (F_X8_setChild a1 ((6 + (3 * a2)) + 0) a3 w) (fun _ w1 => bd (F_X8_setChild a1 ((6 + (3 * a2)) + 1) a4 w1) (fun _ w2 => bd (F_X8_setChild a1 ((6 + (3 * a2)) + 2) a5 w2) (fun _ w3 => some ((), w3))))
def B_X8_emptyHooks_2  (rec : Int32 → Int32 → xWt → Option ((Int32) × xWt)) (l1 : Int32) (l2 : Int32) (w : xWt) : Option ((Int32) × xWt) :=
  (if 3 ≤ l2 then some ((l2), w) else bd (F_X8_setHook l1 l2 0 (-1) (-1) w) (fun _ w1 => rec l1 (l2 + 1) w1))
def L_X8_emptyHooks_2  : Nat → Int32 → Int32 → xWt → Option ((Int32) × xWt)
  | 0 => fun _ _ _ => none
  | n9 + 1 => B_X8_emptyHooks_2  (L_X8_emptyHooks_2  n9)
def F_X8_emptyHooks  (a1 : Int32) (w : xWt) : Option (Unit × xWt) :=
  bd (L_X8_emptyHooks_2 9999 a1 0 w) (fun o3 w4 => some ((), w4))
def B_X8_clearChild_2  (rec : Int32 → Int32 → xWt → Option ((Int32) × xWt)) (l1 : Int32) (l2 : Int32) (w : xWt) : Option ((Int32) × xWt) :=
  (if 6 ≤ l2 then some ((l2), w) else bd (F_X8_setChild l1 l2 0 w) (fun _ w1 => rec l1 (l2 + 1) w1))
def L_X8_clearChild_2  : Nat → Int32 → Int32 → xWt → Option ((Int32) × xWt)
  | 0 => fun _ _ _ => none
  | n9 + 1 => B_X8_clearChild_2  (L_X8_clearChild_2  n9)
def F_X8_clearChild  (a1 : Int32) (w : xWt) : Option (Unit × xWt) :=
  bd (L_X8_clearChild_2 9999 a1 0 w) (fun o3 w4 => bd (F_X8_setChild a1 2 (-1) w4) (fun _ w5 => bd (F_X8_emptyHooks a1 w5) (fun _ w6 => some ((), w6))))
def B_X8_record_52  (rec : Int32 → xWt → Option ((Int32) × xWt)) (l1 : Int32) (w : xWt) : Option ((Int32) × xWt) :=
  (if 817 ≤ l1 then some ((l1), w) else ald w 9 0 l1 (fun x1 => ast w 9 1 ((817 * (w.2.1 9 1)) + l1) x1 (fun w2 => rec (l1 + 1) w2)))
def L_X8_record_52  : Nat → Int32 → xWt → Option ((Int32) × xWt)
  | 0 => fun _ _ => none
  | n9 + 1 => B_X8_record_52  (L_X8_record_52  n9)
def B_X8_record_11  (rec : Int32 → xWt → Option ((Int32) × xWt)) (l1 : Int32) (w : xWt) : Option ((Int32) × xWt) :=
  (if 4085 ≤ l1 then some ((l1), w) else ald w 9 1 (817 + l1) (fun x7 => ast w 9 1 l1 x7 (fun w8 => rec (l1 + 1) w8)))
def L_X8_record_11  : Nat → Int32 → xWt → Option ((Int32) × xWt)
  | 0 => fun _ _ => none
  | n9 + 1 => B_X8_record_11  (L_X8_record_11  n9)
def F_X8_record   (w : xWt) : Option (Unit × xWt) :=
  (if (w.2.1 9 1) = 6 then bd (L_X8_record_11 9999 0 w) (fun o10 w11 => lw (sF w11 9 1 ((w11.2.1 9 1) - 1)) (fun w12 => bd (L_X8_record_52 9999 0 w12) (fun o13 w14 => lw (sF w14 9 1 ((w14.2.1 9 1) + 1)) (fun w15 => some ((), w15))))) else bd (L_X8_record_52 9999 0 w) (fun o4 w5 => lw (sF w5 9 1 ((w5.2.1 9 1) + 1)) (fun w6 => some ((), w6))))
def B_X8_come_32  (rec : Int32 → xWt → Option ((Int32) × xWt)) (l1 : Int32) (w : xWt) : Option ((Int32) × xWt) :=
  bd (F_X8_ofChild l1 0 w) (fun x6 w5 => (if x6 = 1 then rec (l1 + 1) w5 else some ((l1), w5)))
def L_X8_come_32  : Nat → Int32 → xWt → Option ((Int32) × xWt)
  | 0 => fun _ _ => none
  | n9 + 1 => B_X8_come_32  (L_X8_come_32  n9)
def F_X8_come   (w : xWt) : Option (Int32 × xWt) :=
  bd (F_X8_children w) (fun x2 w1 => (if x2 = 5 then lw (sF w1 9 0 1) (fun w13 => (if (w13.2.1 9 0) ≤ 0 then bd (F_X8_record w13) (fun _ w14 => bd (L_X8_come_32 9999 0 w14) (fun o15 w16 => bd (F_X8_clearChild o15 w16) (fun _ w17 => bd (F_X8_setChild o15 0 1 w17) (fun _ w18 => some (o15, w18))))) else some (0, w13))) else lw (sF w1 9 0 0) (fun w3 => (if (w3.2.1 9 0) ≤ 0 then bd (F_X8_record w3) (fun _ w4 => bd (L_X8_come_32 9999 0 w4) (fun o8 w9 => bd (F_X8_clearChild o8 w9) (fun _ w10 => bd (F_X8_setChild o8 0 1 w10) (fun _ w11 => some (o8, w11))))) else some (0, w3)))))
def B_X8_countNow_13  (rec : Int32 → Int32 → Int32 → Int32 → Int32 → Int32 → xWt → Option ((Int32 × Int32 × Int32 × Int32 × Int32) × xWt)) (l1 : Int32) (l2 : Int32) (l3 : Int32) (l4 : Int32) (l5 : Int32) (l6 : Int32) (w : xWt) : Option ((Int32 × Int32 × Int32 × Int32 × Int32) × xWt) :=
  (if 5 ≤ l6 then some ((l2, l3, l4, l5, l6), w) else bd (F_X8_ofChild l6 0 w) (fun x2 w1 => bd (F_X8_ofChild l6 1 w1) (fun x4 w3 => bd (F_X8_hooksOf l6 2 w3) (fun x6 w5 => bd (F_X8_hooksOf l6 1 w5) (fun x8 w7 => rec l1 (l2 ||| (x2 <<< (l6 &&& 31))) (l3 + x4) (l4 + x6) (l5 + x8) (l6 + 1) w7)))))
def L_X8_countNow_13  : Nat → Int32 → Int32 → Int32 → Int32 → Int32 → Int32 → xWt → Option ((Int32 × Int32 × Int32 × Int32 × Int32) × xWt)
  | 0 => fun _ _ _ _ _ _ _ => none
  | n9 + 1 => B_X8_countNow_13  (L_X8_countNow_13  n9)
def F_X8_countNow  (a1 : Int32) (w : xWt) : Option (Int32 × xWt) :=
  bd (L_X8_countNow_13 9999 a1 0 0 0 0 0 w) (fun o10 w11 => (if (a1).toInt = 0 then some (o10.1, w11) else (if (a1).toInt = 1 then bd (F_X8_children w11) (fun x41 w40 => some (x41, w40)) else (if (a1).toInt = 2 then some (o10.2.1, w11) else (if (a1).toInt = 3 then ald w11 9 0 0 (fun x39 => some (x39, w11)) else (if (a1).toInt = 4 then ald w11 9 0 1 (fun x38 => some (x38, w11)) else (if (a1).toInt = 5 then bd (F_X8_leavesAt 0 w11) (fun x37 w36 => some (x37, w36)) else (if (a1).toInt = 6 then bd (F_X8_leavesAt 1 w11) (fun x35 w34 => some (x35, w34)) else (if (a1).toInt = 7 then bd (F_X8_leavesAt 2 w11) (fun x33 w32 => some (x33, w32)) else (if (a1).toInt = 8 then some (o10.2.2.1, w11) else (if (a1).toInt = 9 then some (o10.2.2.2.1, w11) else (if (a1).toInt = 10 then ald w11 9 0 2 (fun x31 => some (x31, w11)) else (if (a1).toInt = 11 then ald w11 9 0 3 (fun x30 => some (x30, w11)) else (if (a1).toInt = 12 then ald w11 9 0 4 (fun x29 => some (x29, w11)) else (if (a1).toInt = 13 then ald w11 9 0 5 (fun x28 => some (x28, w11)) else (if (a1).toInt = 14 then ald w11 9 0 6 (fun x27 => some (x27, w11)) else some ((w11.2.1 9 1), w11)))))))))))))))))
def F_X8_count  (a1 : Int32) (w : xWt) : Option (Int32 × xWt) :=
  bd (F_X8_in a1 0 15 w) (fun x2 w1 => (if x2 = 0 then lw (sF w1 9 0 1) (fun w3 => (if (w3.2.1 9 0) ≤ 0 then bd (F_X8_countNow a1 w3) (fun x5 w4 => some (x5, w4)) else some (0, w3))) else lw (sF w1 9 0 0) (fun w7 => (if (w7.2.1 9 0) ≤ 0 then bd (F_X8_countNow a1 w7) (fun x9 w8 => some (x9, w8)) else some (0, w7)))))
def B_X8_hooksOn_14  (rec : Int32 → Int32 → Int32 → Int32 → Int32 → xWt → Option ((Int32 × Int32) × xWt)) (l1 : Int32) (l2 : Int32) (l3 : Int32) (l4 : Int32) (l5 : Int32) (w : xWt) : Option ((Int32 × Int32) × xWt) :=
  (if 3 ≤ l5 then some ((l3, l5), w) else bd (F_X8_ofHook l4 l5 0 w) (fun x2 w1 => (if x2 = l2 then bd (F_X8_ofHook l4 l5 1 w1) (fun x4 w3 => (if x4 = l1 then rec l1 l2 (l3 + 1) l4 (l5 + 1) w3 else rec l1 l2 (l3 + 0) l4 (l5 + 1) w3)) else rec l1 l2 (l3 + 0) l4 (l5 + 1) w1)))
def L_X8_hooksOn_14  : Nat → Int32 → Int32 → Int32 → Int32 → Int32 → xWt → Option ((Int32 × Int32) × xWt)
  | 0 => fun _ _ _ _ _ _ => none
  | n9 + 1 => B_X8_hooksOn_14  (L_X8_hooksOn_14  n9)
def B_X8_hooksOn_5  (rec : Int32 → Int32 → Int32 → Int32 → xWt → Option ((Int32 × Int32) × xWt)) (l1 : Int32) (l2 : Int32) (l3 : Int32) (l4 : Int32) (w : xWt) : Option ((Int32 × Int32) × xWt) :=
  (if 5 ≤ l4 then some ((l3, l4), w) else bd (L_X8_hooksOn_14 9999 l1 l2 l3 l4 0 w) (fun o8 w9 => rec l1 l2 o8.1 (l4 + 1) w9))
def L_X8_hooksOn_5  : Nat → Int32 → Int32 → Int32 → Int32 → xWt → Option ((Int32 × Int32) × xWt)
  | 0 => fun _ _ _ _ _ => none
  | n9 + 1 => B_X8_hooksOn_5  (L_X8_hooksOn_5  n9)
def F_X8_hooksOn  (a1 : Int32) (a2 : Int32) (w : xWt) : Option (Int32 × xWt) :=
  bd (L_X8_hooksOn_5 9999 a1 a2 0 0 w) (fun o11 w12 => some (o11.1, w12))
def F_X8_freedBy  (a1 : Int32) (a2 : Int32) (w : xWt) : Option (Int32 × xWt) :=
  bd (F_X8_ofHook a1 a2 1 w) (fun x2 w1 => bd (F_X8_ofHook a1 a2 0 w1) (fun x4 w3 => (if x4 = 2 then bd (F_X8_of x2 1 w3) (fun x7 w6 => (if x7 = 1 then bd (F_X8_hooksOn x2 2 w6) (fun x10 w9 => (if x10 = 1 then some (1, w9) else some (0, w9))) else some (0, w6))) else some (0, w3))))
def B_X8_onHeap_22  (rec : Int32 → Int32 → Int32 → Int32 → Int32 → Int32 → xWt → Option ((Int32 × Int32) × xWt)) (l1 : Int32) (l2 : Int32) (l3 : Int32) (l4 : Int32) (l5 : Int32) (l6 : Int32) (w : xWt) : Option ((Int32 × Int32) × xWt) :=
  ald w 9 0 1 (fun x2 => (if x2 ≤ l6 then some ((l5, l6), w) else bd (F_X8_isOnHeap l6 l1 w) (fun x4 w3 => (if x4 = 0 then rec l1 l2 l3 l4 (l5 + 0) (l6 + 1) w3 else bd (F_X8_of l6 5 w3) (fun x6 w5 => bd (F_X8_of l4 5 w5) (fun x8 w7 => (if x8 ≤ x6 then rec l1 l2 l3 l4 (l5 + 0) (l6 + 1) w7 else rec l1 l2 l3 l4 (l5 + 1) (l6 + 1) w7)))))))
def L_X8_onHeap_22  : Nat → Int32 → Int32 → Int32 → Int32 → Int32 → Int32 → xWt → Option ((Int32 × Int32) × xWt)
  | 0 => fun _ _ _ _ _ _ _ => none
  | n9 + 1 => B_X8_onHeap_22  (L_X8_onHeap_22  n9)
def B_X8_onHeap_5  (rec : Int32 → Int32 → Int32 → Int32 → xWt → Option ((Int32 × Int32) × xWt)) (l1 : Int32) (l2 : Int32) (l3 : Int32) (l4 : Int32) (w : xWt) : Option ((Int32 × Int32) × xWt) :=
  ald w 9 0 1 (fun x1 => (if x1 ≤ l4 then some ((l3, l4), w) else bd (L_X8_onHeap_22 9999 l1 l2 l3 l4 0 0 w) (fun o12 w13 => bd (F_X8_isOnHeap l4 l1 w13) (fun x15 w14 => (if x15 = 0 then rec l1 l2 l3 (l4 + 1) w14 else (if o12.1 = l2 then rec l1 l2 l4 (l4 + 1) w14 else rec l1 l2 l3 (l4 + 1) w14))))))
def L_X8_onHeap_5  : Nat → Int32 → Int32 → Int32 → Int32 → xWt → Option ((Int32 × Int32) × xWt)
  | 0 => fun _ _ _ _ _ => none
  | n9 + 1 => B_X8_onHeap_5  (L_X8_onHeap_5  n9)
def F_X8_onHeap  (a1 : Int32) (a2 : Int32) (w : xWt) : Option (Int32 × xWt) :=
  bd (L_X8_onHeap_5 9999 a1 a2 (-1) 0 w) (fun o19 w20 => some (o19.1, w20))
def B_X8_digestOf_6  (rec : Int32 → Int64 → Int64 → Int32 → xWt → Option ((Int64 × Int32) × xWt)) (l1 : Int32) (l2 : Int64) (l4 : Int64) (l6 : Int32) (w : xWt) : Option ((Int64 × Int32) × xWt) :=
  (if 8 ≤ l6 then some ((l4, l6), w) else bd (F_X8_childNow l1 l6 w) (fun x2 w1 => rec l1 l2 ((31 * l4) + (Int32.toInt64 x2)) (l6 + 1) w1))
def L_X8_digestOf_6  : Nat → Int32 → Int64 → Int64 → Int32 → xWt → Option ((Int64 × Int32) × xWt)
  | 0 => fun _ _ _ _ _ => none
  | n9 + 1 => B_X8_digestOf_6  (L_X8_digestOf_6  n9)
def B_X8_digestOf_48  (rec : Int32 → Int64 → Int64 → Int32 → Int32 → xWt → Option ((Int64 × Int32) × xWt)) (l1 : Int32) (l2 : Int64) (l4 : Int64) (l6 : Int32) (l7 : Int32) (w : xWt) : Option ((Int64 × Int32) × xWt) :=
  (if 3 ≤ l7 then some ((l4, l7), w) else bd (F_X8_ofHook l1 l6 l7 w) (fun x7 w6 => rec l1 l2 ((31 * l4) + (Int32.toInt64 x7)) l6 (l7 + 1) w6))
def L_X8_digestOf_48  : Nat → Int32 → Int64 → Int64 → Int32 → Int32 → xWt → Option ((Int64 × Int32) × xWt)
  | 0 => fun _ _ _ _ _ _ => none
  | n9 + 1 => B_X8_digestOf_48  (L_X8_digestOf_48  n9)
def B_X8_digestOf_39  (rec : Int32 → Int64 → Int64 → Int32 → xWt → Option ((Int64 × Int32) × xWt)) (l1 : Int32) (l2 : Int64) (l4 : Int64) (l6 : Int32) (w : xWt) : Option ((Int64 × Int32) × xWt) :=
  (if 3 ≤ l6 then some ((l4, l6), w) else bd (L_X8_digestOf_48 9999 l1 l2 l4 l6 0 w) (fun o9 w10 => bd (F_X8_freedBy l1 l6 w10) (fun x12 w11 => rec l1 l2 ((31 * o9.1) + (Int32.toInt64 x12)) (l6 + 1) w11)))
def L_X8_digestOf_39  : Nat → Int32 → Int64 → Int64 → Int32 → xWt → Option ((Int64 × Int32) × xWt)
  | 0 => fun _ _ _ _ _ => none
  | n9 + 1 => B_X8_digestOf_39  (L_X8_digestOf_39  n9)
def B_X8_digestOf_112  (rec : Int32 → Int64 → Int64 → Int32 → Int32 → xWt → Option ((Int64 × Int32) × xWt)) (l1 : Int32) (l2 : Int64) (l4 : Int64) (l6 : Int32) (l7 : Int32) (w : xWt) : Option ((Int64 × Int32) × xWt) :=
  (if l6 ≤ l7 then some ((l4, l7), w) else bd (F_X8_onHeap l1 l7 w) (fun x19 w18 => rec l1 l2 ((31 * l4) + (Int32.toInt64 x19)) l6 (l7 + 1) w18))
def L_X8_digestOf_112  : Nat → Int32 → Int64 → Int64 → Int32 → Int32 → xWt → Option ((Int64 × Int32) × xWt)
  | 0 => fun _ _ _ _ _ _ => none
  | n9 + 1 => B_X8_digestOf_112  (L_X8_digestOf_112  n9)
def F_X8_digestOf  (a1 : Int32) (a2 : Int64) (w : xWt) : Option (Int64 × xWt) :=
  bd (L_X8_digestOf_6 9999 a1 a2 a2 0 w) (fun o4 w5 => bd (L_X8_digestOf_39 9999 a1 a2 o4.1 0 w5) (fun o14 w15 => bd (F_X8_heapOf a1 w15) (fun x17 w16 => bd (L_X8_digestOf_112 9999 a1 a2 o14.1 x17 0 w16) (fun o21 w22 => bd (F_X8_burnable a1 0 w22) (fun x24 w23 => bd (F_X8_burnable a1 1 w23) (fun x26 w25 => bd (F_X8_burnableWithout a1 w25) (fun x28 w27 => some (((31 * ((31 * ((31 * o21.1) + (Int32.toInt64 x24))) + (Int32.toInt64 x26))) + (Int32.toInt64 x28)), w27))))))))
def B_X8_findMostHeld_6  (rec : Int32 → Int32 → Int32 → xWt → Option ((Int32 × Int32 × Int32) × xWt)) (l1 : Int32) (l2 : Int32) (l3 : Int32) (w : xWt) : Option ((Int32 × Int32 × Int32) × xWt) :=
  ald w 9 0 1 (fun x1 => (if x1 ≤ l3 then some ((l1, l2, l3), w) else bd (F_X8_hooksOn l3 2 w) (fun x3 w2 => (if x3 ≤ l2 then (if x3 ≤ l2 then rec l1 l2 (l3 + 1) w2 else rec l1 x3 (l3 + 1) w2) else (if x3 ≤ l2 then rec l3 l2 (l3 + 1) w2 else rec l3 x3 (l3 + 1) w2)))))
def L_X8_findMostHeld_6  : Nat → Int32 → Int32 → Int32 → xWt → Option ((Int32 × Int32 × Int32) × xWt)
  | 0 => fun _ _ _ _ => none
  | n9 + 1 => B_X8_findMostHeld_6  (L_X8_findMostHeld_6  n9)
def F_X8_findMostHeld   (w : xWt) : Option (Int32 × xWt) :=
  bd (L_X8_findMostHeld_6 9999 (-1) 0 0 w) (fun o8 w9 => some (o8.1, w9))
def F_X8_fullnessNow   (w : xWt) : Option (UInt32 × xWt) :=
  bd (F_X8_leavesAt 1 w) (fun x2 w1 => ald w1 9 0 8 (fun x3 => bd (F_X8_children w1) (fun x5 w4 => nf (FP.fdiv (FP.i2f x2) (FP.i2f (x3 * x5))) (fun x6 => some (x6, w4)))))
def F_X8_leafNow  (a1 : Int32) (a2 : Int32) (w : xWt) : Option (Int32 × xWt) :=
  (if (a2).toInt = 0 then bd (F_X8_of a1 0 w) (fun x26 w25 => some (x26, w25)) else (if (a2).toInt = 1 then bd (F_X8_of a1 1 w) (fun x24 w23 => some (x24, w23)) else (if (a2).toInt = 2 then bd (F_X8_of a1 2 w) (fun x22 w21 => some (x22, w21)) else (if (a2).toInt = 3 then bd (F_X8_of a1 3 w) (fun x20 w19 => some (x20, w19)) else (if (a2).toInt = 4 then bd (F_X8_of a1 1 w) (fun x15 w14 => (if x15 = 1 then bd (F_X8_of a1 4 w14) (fun x17 w16 => some (x17, w16)) else some ((-1), w14))) else (if (a2).toInt = 5 then bd (F_X8_holders a1 (-1) w) (fun x13 w12 => some (x13, w12)) else (if (a2).toInt = 6 then bd (F_X8_hooksOn a1 2 w) (fun x11 w10 => some (x11, w10)) else bd (F_X8_hooksOn a1 1 w) (fun x2 w1 => some (x2, w1)))))))))
def F_X8_whyNot  (a1 : Int32) (w : xWt) : Option (Int32 × xWt) :=
  bd (F_X8_of a1 1 w) (fun x2 w1 => (if x2 = 2 then some (0, w1) else (if x2 = 0 then some (1, w1) else ald w1 9 0 9 (fun x3 => bd (F_X8_mayBurn a1 x3 w1) (fun x5 w4 => (if x5 = 0 then some (2, w4) else some (3, w4)))))))
def B_X8_digest_11  (rec : Int64 → Int32 → xWt → Option ((Int64 × Int32) × xWt)) (l1 : Int64) (l3 : Int32) (w : xWt) : Option ((Int64 × Int32) × xWt) :=
  (if 16 ≤ l3 then some ((l1, l3), w) else bd (F_X8_countNow l3 w) (fun x3 w2 => rec ((31 * l1) + (Int32.toInt64 x3)) (l3 + 1) w2))
def L_X8_digest_11  : Nat → Int64 → Int32 → xWt → Option ((Int64 × Int32) × xWt)
  | 0 => fun _ _ _ => none
  | n9 + 1 => B_X8_digest_11  (L_X8_digest_11  n9)
def B_X8_digest_66  (rec : Int64 → Int32 → xWt → Option ((Int64 × Int32) × xWt)) (l1 : Int64) (l3 : Int32) (w : xWt) : Option ((Int64 × Int32) × xWt) :=
  (if 12 ≤ l3 then some ((l1, l3), w) else ald w 9 0 (10 + l3) (fun x9 => rec ((31 * l1) + (Int32.toInt64 x9)) (l3 + 1) w))
def L_X8_digest_66  : Nat → Int64 → Int32 → xWt → Option ((Int64 × Int32) × xWt)
  | 0 => fun _ _ _ => none
  | n9 + 1 => B_X8_digest_66  (L_X8_digest_66  n9)
def B_X8_digest_110  (rec : Int64 → Int32 → Int32 → xWt → Option ((Int64 × Int32) × xWt)) (l1 : Int64) (l3 : Int32) (l4 : Int32) (w : xWt) : Option ((Int64 × Int32) × xWt) :=
  (if 8 ≤ l4 then some ((l1, l4), w) else bd (F_X8_leafNow l3 l4 w) (fun x15 w14 => rec ((31 * l1) + (Int32.toInt64 x15)) l3 (l4 + 1) w14))
def L_X8_digest_110  : Nat → Int64 → Int32 → Int32 → xWt → Option ((Int64 × Int32) × xWt)
  | 0 => fun _ _ _ _ => none
  | n9 + 1 => B_X8_digest_110  (L_X8_digest_110  n9)
def B_X8_digest_97  (rec : Int64 → Int32 → xWt → Option ((Int64 × Int32) × xWt)) (l1 : Int64) (l3 : Int32) (w : xWt) : Option ((Int64 × Int32) × xWt) :=
  ald w 9 0 1 (fun x13 => (if x13 ≤ l3 then some ((l1, l3), w) else bd (L_X8_digest_110 9999 l1 l3 0 w) (fun o17 w18 => bd (F_X8_whyNot l3 w18) (fun x20 w19 => rec ((31 * o17.1) + (Int32.toInt64 x20)) (l3 + 1) w19))))
def L_X8_digest_97  : Nat → Int64 → Int32 → xWt → Option ((Int64 × Int32) × xWt)
  | 0 => fun _ _ _ => none
  | n9 + 1 => B_X8_digest_97  (L_X8_digest_97  n9)
def B_X8_digest_159  (rec : Int64 → Int32 → xWt → Option ((Int64 × Int32) × xWt)) (l1 : Int64) (l3 : Int32) (w : xWt) : Option ((Int64 × Int32) × xWt) :=
  (if 5 ≤ l3 then some ((l1, l3), w) else bd (F_X8_ofChild l3 0 w) (fun x25 w24 => (if x25 = 1 then bd (F_X8_digestOf l3 l1 w24) (fun x27 w26 => rec x27 (l3 + 1) w26) else rec l1 (l3 + 1) w24)))
def L_X8_digest_159  : Nat → Int64 → Int32 → xWt → Option ((Int64 × Int32) × xWt)
  | 0 => fun _ _ _ => none
  | n9 + 1 => B_X8_digest_159  (L_X8_digest_159  n9)
def B_X8_digest_303  (rec : Int64 → Int32 → xWt → Option ((Int64 × Int32) × xWt)) (l1 : Int64) (l3 : Int32) (w : xWt) : Option ((Int64 × Int32) × xWt) :=
  (if (w.2.1 9 3) ≤ l3 then some ((l1, l3), w) else ald w 9 3 l3 (fun x48 => rec ((31 * l1) + (Int32.toInt64 x48)) (l3 + 1) w))
def L_X8_digest_303  : Nat → Int64 → Int32 → xWt → Option ((Int64 × Int32) × xWt)
  | 0 => fun _ _ _ => none
  | n9 + 1 => B_X8_digest_303  (L_X8_digest_303  n9)
def F_X8_digest   (w : xWt) : Option (Int64 × xWt) :=
  lw (sF w 9 0 0) (fun w1 => bd (L_X8_digest_11 9999 3347 0 w1) (fun o5 w6 => ald w6 9 0 8 (fun x7 => ald w6 9 0 9 (fun x8 => bd (L_X8_digest_66 9999 ((31 * ((31 * o5.1) + (Int32.toInt64 x7))) + (Int32.toInt64 x8)) 0 w6) (fun o11 w12 => bd (L_X8_digest_97 9999 o11.1 0 w12) (fun o22 w23 => bd (L_X8_digest_159 9999 o22.1 0 w23) (fun o30 w31 => bd (F_X8_findBestRake w31) (fun x33 w32 => bd (F_X8_lateOnes w32) (fun x35 w34 => bd (F_X8_leavesAt 1 w34) (fun x37 w36 => bd (F_X8_findMostHeld w36) (fun x39 w38 => bd (F_X8_shareOfBurnt w38) (fun x41 w40 => bd (F_Jxe99ae_doubleToLongBits_ccdee x41 w40) (fun x43 w42 => bd (F_X8_fullnessNow w42) (fun x45 w44 => bd (F_Jxf58ca_floatToIntBits_5c35a x45 w44) (fun x47 w46 => (if (w46.2.1 9 2) = 0 then bd (L_X8_digest_303 9999 ((31 * ((31 * ((31 * ((31 * ((31 * ((31 * ((31 * ((31 * o30.1) + (Int32.toInt64 x33))) + (Int32.toInt64 x35))) + (Int32.toInt64 x37))) + (Int32.toInt64 x39))) + x43)) + (Int32.toInt64 x47))) + (Int32.toInt64 0))) + (Int32.toInt64 (w46.2.1 9 3))) 0 w46) (fun o50 w51 => some (o50.1, w51)) else bd (L_X8_digest_303 9999 ((31 * ((31 * ((31 * ((31 * ((31 * ((31 * ((31 * ((31 * o30.1) + (Int32.toInt64 x33))) + (Int32.toInt64 x35))) + (Int32.toInt64 x37))) + (Int32.toInt64 x39))) + x43)) + (Int32.toInt64 x47))) + (Int32.toInt64 1))) + (Int32.toInt64 (w46.2.1 9 3))) 0 w46) (fun o52 w53 => some (o52.1, w53))))))))))))))))))
def F_X8_doEnter  (a1 : Int32) (w : xWt) : Option (Int32 × xWt) :=
  bd (F_X8_setChild a1 1 1 w) (fun _ w1 => ald w1 9 0 0 (fun x2 => bd (F_X8_setChild a1 2 x2 w1) (fun _ w3 => ald w3 9 0 0 (fun x4 => some (x4, w3)))))
def F_X8_setLeaf  (a1 : Int32) (a2 : Int32) (a3 : Int32) (w : xWt) : Option (Unit × xWt) :=
  ast w 9 0 ((22 + (6 * a1)) + a2) a3 (fun w1 => some ((), w1))
def F_X8_doGrow  (a1 : Int32) (a2 : Int32) (w : xWt) : Option (Int32 × xWt) :=
  ald w 9 0 1 (fun x1 => ald w 9 0 1 (fun x2 => ast w 9 0 1 (x2 + 1) (fun w3 => ast w3 9 0 (10 + a1) x1 (fun w4 => bd (F_X8_setLeaf x1 0 a2 w4) (fun _ w5 => bd (F_X8_setLeaf x1 1 0 w5) (fun _ w6 => bd (F_X8_setLeaf x1 2 a1 w6) (fun _ w7 => bd (F_X8_setLeaf x1 3 (-1) w7) (fun _ w8 => some (x1, w8)))))))))
def F_X8_doLoosen  (a1 : Int32) (a2 : Int32) (w : xWt) : Option (Int32 × xWt) :=
  bd (F_X8_ofHook a1 a2 1 w) (fun x2 w1 => bd (F_X8_setHook a1 a2 0 (-1) (-1) w1) (fun _ w3 => some (x2, w3)))
def F_X8_doNote  (a1 : Int32) (a2 : Int32) (a3 : Int32) (w : xWt) : Option (Int32 × xWt) :=
  ald w 9 0 (10 + a3) (fun x1 => bd (F_X8_setHook a1 a2 1 x1 a3 w) (fun _ w2 => ald w2 9 0 (10 + a3) (fun x3 => some (x3, w2))))
def F_X8_doPin  (a1 : Int32) (a2 : Int32) (w : xWt) : Option (Int32 × xWt) :=
  bd (F_X8_ofHook a1 a2 1 w) (fun x2 w1 => bd (F_X8_ofHook a1 a2 2 w1) (fun x4 w3 => ald w3 9 0 (10 + x4) (fun x5 => (if x5 = x2 then bd (F_X8_setHook a1 a2 2 x2 (-1) w3) (fun _ w17 => some (1, w17)) else bd (F_X8_setHook a1 a2 0 (-1) (-1) w3) (fun _ w6 => ald w6 9 0 4 (fun x7 => ast w6 9 0 4 (x7 + 1) (fun w8 => some (0, w8))))))))
def B_X8_doRake_4  (rec : Int32 → Int32 → Int32 → xWt → Option ((Int32 × Int32) × xWt)) (l1 : Int32) (l2 : Int32) (l3 : Int32) (w : xWt) : Option ((Int32 × Int32) × xWt) :=
  ald w 9 0 1 (fun x1 => (if x1 ≤ l3 then some ((l2, l3), w) else bd (F_X8_isOnHeap l3 l1 w) (fun x3 w2 => (if x3 = 0 then rec l1 l2 (l3 + 1) w2 else ald w2 9 0 9 (fun x4 => bd (F_X8_mayBurn l3 x4 w2) (fun x6 w5 => (if x6 = 0 then rec l1 l2 (l3 + 1) w5 else bd (F_X8_setLeaf l3 1 2 w5) (fun _ w7 => rec l1 (l2 + 1) (l3 + 1) w7))))))))
def L_X8_doRake_4  : Nat → Int32 → Int32 → Int32 → xWt → Option ((Int32 × Int32) × xWt)
  | 0 => fun _ _ _ _ => none
  | n9 + 1 => B_X8_doRake_4  (L_X8_doRake_4  n9)
def F_X8_doRake  (a1 : Int32) (w : xWt) : Option (Int32 × xWt) :=
  bd (L_X8_doRake_4 9999 a1 0 0 w) (fun o11 w12 => ald w12 9 0 2 (fun x13 => ast w12 9 0 2 (x13 + 1) (fun w14 => ald w14 9 0 3 (fun x15 => ald w14 9 0 9 (fun x16 => (if x16 = 0 then bd (F_X8_children w14) (fun x25 w24 => ast w24 9 0 3 (x15 + (3 * x25)) (fun w26 => bd (F_X8_ofChild a1 5 w26) (fun x28 w27 => bd (F_X8_setChild a1 5 (x28 + 1) w27) (fun _ w29 => bd (F_X8_ofChild a1 4 w29) (fun x31 w30 => bd (F_X8_setChild a1 4 (x31 + o11.1) w30) (fun _ w32 => some (o11.1, w32))))))) else ast w14 9 0 3 (x15 + 0) (fun w17 => bd (F_X8_ofChild a1 5 w17) (fun x19 w18 => bd (F_X8_setChild a1 5 (x19 + 1) w18) (fun _ w20 => bd (F_X8_ofChild a1 4 w20) (fun x22 w21 => bd (F_X8_setChild a1 4 (x22 + o11.1) w21) (fun _ w23 => some (o11.1, w23))))))))))))
def F_X8_doRest  (a1 : Int32) (w : xWt) : Option (Int32 × xWt) :=
  bd (F_X8_hooksOf a1 2 w) (fun x2 w1 => bd (F_X8_setChild a1 1 0 w1) (fun _ w3 => bd (F_X8_setChild a1 2 (-1) w3) (fun _ w4 => bd (F_X8_emptyHooks a1 w4) (fun _ w5 => some (x2, w5)))))
def F_X8_doRing   (w : xWt) : Option (Int32 × xWt) :=
  ald w 9 0 0 (fun x1 => ast w 9 0 0 (x1 + 1) (fun w2 => ald w2 9 0 0 (fun x3 => some (x3, w2))))
def F_X8_putOnHeap  (a1 : Int32) (a2 : Int32) (w : xWt) : Option (Unit × xWt) :=
  bd (F_X8_setLeaf a1 1 1 w) (fun _ w1 => bd (F_X8_setLeaf a1 4 a2 w1) (fun _ w2 => ald w2 9 0 7 (fun x3 => bd (F_X8_setLeaf a1 5 x3 w2) (fun _ w4 => ald w4 9 0 7 (fun x5 => ast w4 9 0 7 (x5 + 1) (fun w6 => some ((), w6)))))))
def F_X8_doTake  (a1 : Int32) (a2 : Int32) (w : xWt) : Option (Int32 × xWt) :=
  ald w 9 0 (10 + a2) (fun x1 => ast w 9 0 (10 + a2) (-1) (fun w2 => ald w2 9 0 0 (fun x3 => bd (F_X8_setLeaf x1 3 x3 w2) (fun _ w4 => bd (F_X8_putOnHeap x1 a1 w4) (fun _ w5 => bd (F_X8_ofChild a1 3 w5) (fun x7 w6 => bd (F_X8_setChild a1 3 (x7 + 1) w6) (fun _ w8 => bd (F_X8_heapOf a1 w8) (fun x10 w9 => ald w9 9 0 8 (fun x11 => (if x10 < x11 then bd (F_X8_leavesAt 1 w9) (fun x13 w12 => ald w12 9 0 6 (fun x14 => (if x13 ≤ x14 then ald w12 9 0 6 (fun x15 => ast w12 9 0 6 x15 (fun w16 => some (0, w16))) else ast w12 9 0 6 x13 (fun w17 => some (0, w17))))) else bd (F_X8_doRake a1 w9) (fun x20 w19 => bd (F_X8_leavesAt 1 w19) (fun x22 w21 => ald w21 9 0 6 (fun x23 => (if x22 ≤ x23 then ald w21 9 0 6 (fun x24 => ast w21 9 0 6 x24 (fun w25 => some (x20, w25))) else ast w21 9 0 6 x22 (fun w26 => some (x20, w26))))))))))))))))
def F_X8_doSwap  (a1 : Int32) (a2 : Int32) (a3 : Int32) (w : xWt) : Option (Int32 × xWt) :=
  bd (F_X8_doTake a1 a2 w) (fun x2 w1 => bd (F_X8_doGrow a2 a3 w1) (fun x4 w3 => some (x4, w3)))
def F_X8_doOrder   (w : xWt) : Option (Int32 × xWt) :=
  (if ((w.2.1 9 4)).toInt = 101 then ald w 9 4 1 (fun x83 => bd (F_X8_doEnter x83 w) (fun x85 w84 => some (x85, w84))) else (if ((w.2.1 9 4)).toInt = 102 then bd (F_X8_doRing w) (fun x82 w81 => some (x82, w81)) else (if ((w.2.1 9 4)).toInt = 103 then ald w 9 4 3 (fun x77 => ald w 9 4 4 (fun x78 => bd (F_X8_doGrow x77 x78 w) (fun x80 w79 => some (x80, w79)))) else (if ((w.2.1 9 4)).toInt = 104 then bd (F_X8_doRing w) (fun x76 w75 => some (x76, w75)) else (if ((w.2.1 9 4)).toInt = 105 then bd (F_X8_doRing w) (fun x74 w73 => some (x74, w73)) else (if ((w.2.1 9 4)).toInt = 106 then bd (F_X8_doRing w) (fun x72 w71 => some (x72, w71)) else (if ((w.2.1 9 4)).toInt = 107 then ald w 9 4 1 (fun x68 => bd (F_X8_doRake x68 w) (fun x70 w69 => some (x70, w69))) else (if ((w.2.1 9 4)).toInt = 108 then bd (F_X8_doRing w) (fun x67 w66 => some (x67, w66)) else (if ((w.2.1 9 4)).toInt = 109 then bd (F_X8_doRing w) (fun x65 w64 => some (x65, w64)) else (if ((w.2.1 9 4)).toInt = 110 then ald w 9 4 1 (fun x59 => ald w 9 4 2 (fun x60 => ald w 9 4 3 (fun x61 => bd (F_X8_doNote x59 x60 x61 w) (fun x63 w62 => some (x63, w62))))) else (if ((w.2.1 9 4)).toInt = 111 then bd (F_X8_doRing w) (fun x58 w57 => some (x58, w57)) else (if ((w.2.1 9 4)).toInt = 112 then ald w 9 4 1 (fun x53 => ald w 9 4 2 (fun x54 => bd (F_X8_doPin x53 x54 w) (fun x56 w55 => some (x56, w55)))) else (if ((w.2.1 9 4)).toInt = 113 then bd (F_X8_doRing w) (fun x52 w51 => some (x52, w51)) else (if ((w.2.1 9 4)).toInt = 114 then bd (F_X8_doRing w) (fun x50 w49 => some (x50, w49)) else (if ((w.2.1 9 4)).toInt = 115 then bd (F_X8_doRing w) (fun x48 w47 => some (x48, w47)) else (if ((w.2.1 9 4)).toInt = 116 then ald w 9 4 1 (fun x43 => ald w 9 4 3 (fun x44 => bd (F_X8_doTake x43 x44 w) (fun x46 w45 => some (x46, w45)))) else (if ((w.2.1 9 4)).toInt = 117 then bd (F_X8_doRing w) (fun x42 w41 => some (x42, w41)) else (if ((w.2.1 9 4)).toInt = 118 then bd (F_X8_doRing w) (fun x40 w39 => some (x40, w39)) else (if ((w.2.1 9 4)).toInt = 119 then ald w 9 4 1 (fun x34 => ald w 9 4 3 (fun x35 => ald w 9 4 4 (fun x36 => bd (F_X8_doSwap x34 x35 x36 w) (fun x38 w37 => some (x38, w37))))) else (if ((w.2.1 9 4)).toInt = 120 then ald w 9 4 1 (fun x30 => ald w 9 4 2 (fun x31 => bd (F_X8_doLoosen x30 x31 w) (fun x33 w32 => some (x33, w32)))) else (if ((w.2.1 9 4)).toInt = 121 then bd (F_X8_doRing w) (fun x29 w28 => some (x29, w28)) else (if ((w.2.1 9 4)).toInt = 122 then ald w 9 4 1 (fun x25 => bd (F_X8_doRest x25 w) (fun x27 w26 => some (x27, w26))) else bd (F_X8_doRing w) (fun x2 w1 => some (x2, w1))))))))))))))))))))))))
def F_X8_enter  (a1 : Int32) (w : xWt) : Option (Int32 × xWt) :=
  bd (F_X8_whyNotEnter a1 w) (fun x2 w1 => lw (sF w1 9 0 x2) (fun w3 => (if (w3.2.1 9 0) ≤ 0 then bd (F_X8_record w3) (fun _ w4 => bd (F_X8_doEnter a1 w4) (fun x6 w5 => some (x6, w5))) else some (0, w3))))
def F_X8_shapeOf  (a1 : Int32) (w : xWt) : Option (Int32 × xWt) :=
  (if (a1).toInt = 98 then some (0, w) else (if (a1).toInt = 99 then some ((-1), w) else (if (a1).toInt = 100 then some ((-1), w) else (if (a1).toInt = 101 then some (1, w) else (if (a1).toInt = 102 then some ((-1), w) else (if (a1).toInt = 103 then some (34, w) else (if (a1).toInt = 104 then some ((-1), w) else (if (a1).toInt = 105 then some ((-1), w) else (if (a1).toInt = 106 then some ((-1), w) else (if (a1).toInt = 107 then some (1, w) else (if (a1).toInt = 108 then some ((-1), w) else (if (a1).toInt = 109 then some ((-1), w) else (if (a1).toInt = 110 then some (123, w) else (if (a1).toInt = 111 then some ((-1), w) else (if (a1).toInt = 112 then some (12, w) else (if (a1).toInt = 113 then some ((-1), w) else (if (a1).toInt = 114 then some ((-1), w) else (if (a1).toInt = 115 then some ((-1), w) else (if (a1).toInt = 116 then some (13, w) else (if (a1).toInt = 117 then some ((-1), w) else (if (a1).toInt = 118 then some ((-1), w) else (if (a1).toInt = 119 then some (134, w) else (if (a1).toInt = 120 then some (12, w) else (if (a1).toInt = 121 then some ((-1), w) else (if (a1).toInt = 122 then some (1, w) else some ((-1), w))))))))))))))))))))))))))
def F_X8_valueOf  (a1 : Int32) (a2 : Int32) (w : xWt) : Option (Int32 × xWt) :=
  (if a1 = 3 then (if a1 = 1 then bd (F_X8_in (a2 - 97) 0 4 w) (fun x28 w27 => (if x28 = 0 then some ((-1), w27) else some ((a2 - 97), w27))) else (if a1 = 2 then bd (F_X8_in (a2 - 97) 0 2 w) (fun x24 w23 => (if x24 = 0 then some ((-1), w23) else some ((a2 - 97), w23))) else (if a1 = 3 then bd (F_X8_in (a2 - 97) 0 11 w) (fun x20 w19 => (if x20 = 0 then some ((-1), w19) else some ((a2 - 97), w19))) else bd (F_X8_in (a2 - 97) 0 9 w) (fun x17 w16 => (if x17 = 0 then some ((-1), w16) else some ((a2 - 97), w16)))))) else (if a1 = 1 then bd (F_X8_in (a2 - 48) 0 4 w) (fun x13 w12 => (if x13 = 0 then some ((-1), w12) else some ((a2 - 48), w12))) else (if a1 = 2 then bd (F_X8_in (a2 - 48) 0 2 w) (fun x9 w8 => (if x9 = 0 then some ((-1), w8) else some ((a2 - 48), w8))) else (if a1 = 3 then bd (F_X8_in (a2 - 48) 0 11 w) (fun x5 w4 => (if x5 = 0 then some ((-1), w4) else some ((a2 - 48), w4))) else bd (F_X8_in (a2 - 48) 0 9 w) (fun x2 w1 => (if x2 = 0 then some ((-1), w1) else some ((a2 - 48), w1)))))))
def B_X8_readOrder_57  (rec : Int32 → Int32 → Int32 → Int32 → Int32 → xWt → Option ((Int32 × Int32 × Int32) × xWt)) (l1 : Int32) (l2 : Int32) (l3 : Int32) (l4 : Int32) (l5 : Int32) (w : xWt) : Option ((Int32 × Int32 × Int32) × xWt) :=
  (if l5 ≤ 0 then some ((l3, l4, l5), w) else (if l4 = 0 then dv l2 l5 (fun x4 => rm x4 10 (fun x5 => (if x5 ≤ 0 then dv l5 10 (fun x6 => rec l1 l2 l3 l4 x6 w) else (if (w.2.1 9 3) ≤ l3 then ast w 9 4 x5 (-1) (fun w7 => ald w7 9 4 x5 (fun x8 => (if 0 ≤ x8 then dv l5 10 (fun x9 => rec l1 l2 (l3 + 1) 0 x9 w7) else dv l5 10 (fun x13 => rec l1 l2 (l3 + 0) 1 x13 w7)))) else ald w 9 3 l3 (fun x16 => bd (F_X8_valueOf x5 x16 w) (fun x18 w17 => ast w17 9 4 x5 x18 (fun w19 => ald w19 9 4 x5 (fun x20 => (if 0 ≤ x20 then dv l5 10 (fun x21 => rec l1 l2 (l3 + 1) 0 x21 w19) else dv l5 10 (fun x25 => rec l1 l2 (l3 + 0) 1 x25 w19)))))))))) else some ((l3, l4, l5), w)))
def L_X8_readOrder_57  : Nat → Int32 → Int32 → Int32 → Int32 → Int32 → xWt → Option ((Int32 × Int32 × Int32) × xWt)
  | 0 => fun _ _ _ _ _ _ => none
  | n9 + 1 => B_X8_readOrder_57  (L_X8_readOrder_57  n9)
def F_X8_readOrder  (a1 : Int32) (w : xWt) : Option (Int32 × xWt) :=
  (if (w.2.1 9 3) ≤ a1 then lw (sF w 9 4 0) (fun w1 => bd (F_X8_shapeOf (w1.2.1 9 4) w1) (fun x3 w2 => (if 0 ≤ x3 then (if 0 ≤ x3 then bd (L_X8_readOrder_57 9999 a1 x3 (a1 + 1) 0 100 w2) (fun o32 w33 => (if o32.2.1 = 0 then some (o32.1, w33) else some (((-1) - o32.1), w33))) else bd (L_X8_readOrder_57 9999 a1 x3 (a1 + 1) 1 100 w2) (fun o35 w36 => (if o35.2.1 = 0 then some (o35.1, w36) else some (((-1) - o35.1), w36)))) else (if 0 ≤ x3 then bd (L_X8_readOrder_57 9999 a1 x3 a1 0 100 w2) (fun o39 w40 => (if o39.2.1 = 0 then some (o39.1, w40) else some (((-1) - o39.1), w40))) else bd (L_X8_readOrder_57 9999 a1 x3 a1 1 100 w2) (fun o42 w43 => (if o42.2.1 = 0 then some (o42.1, w43) else some (((-1) - o42.1), w43))))))) else ald w 9 3 a1 (fun x47 => lw (sF w 9 4 x47) (fun w48 => bd (F_X8_shapeOf (w48.2.1 9 4) w48) (fun x50 w49 => (if 0 ≤ x50 then (if 0 ≤ x50 then bd (L_X8_readOrder_57 9999 a1 x50 (a1 + 1) 0 100 w49) (fun o51 w52 => (if o51.2.1 = 0 then some (o51.1, w52) else some (((-1) - o51.1), w52))) else bd (L_X8_readOrder_57 9999 a1 x50 (a1 + 1) 1 100 w49) (fun o54 w55 => (if o54.2.1 = 0 then some (o54.1, w55) else some (((-1) - o54.1), w55)))) else (if 0 ≤ x50 then bd (L_X8_readOrder_57 9999 a1 x50 a1 0 100 w49) (fun o58 w59 => (if o58.2.1 = 0 then some (o58.1, w59) else some (((-1) - o58.1), w59))) else bd (L_X8_readOrder_57 9999 a1 x50 a1 1 100 w49) (fun o61 w62 => (if o61.2.1 = 0 then some (o61.1, w62) else some (((-1) - o61.1), w62)))))))))
def B_X8_findError_7  (rec : Int32 → xWt → Option (((Int32) ⊕ Int32) × xWt)) (l1 : Int32) (w : xWt) : Option (((Int32) ⊕ Int32) × xWt) :=
  bd (F_X8_readOrder l1 w) (fun x3 w2 => (if 0 ≤ x3 then (if x3 = (w2.2.1 9 3) then lw (sF w2 9 5 1) (fun w6 => some (.inr x3, w6)) else ald w2 9 3 x3 (fun x4 => (if x4 = 59 then rec (x3 + 1) w2 else some (.inl (x3), w2)))) else some (.inr ((-1) - x3), w2)))
def L_X8_findError_7  : Nat → Int32 → xWt → Option (((Int32) ⊕ Int32) × xWt)
  | 0 => fun _ _ => none
  | n9 + 1 => B_X8_findError_7  (L_X8_findError_7  n9)
def F_X8_findError   (w : xWt) : Option (Int32 × xWt) :=
  lw (sF w 9 5 0) (fun w1 => bd (L_X8_findError_7 9999 0 w1) (fun o9 w10 => sm o9 (fun x11 => some (x11, w10)) (fun y12 => some (y12, w10))))
def F_X8_firstError   (w : xWt) : Option (Int32 × xWt) :=
  lw (sF w 9 0 0) (fun w1 => bd (F_X8_findError w1) (fun x3 w2 => some (x3, w2)))
def F_X8_fullness   (w : xWt) : Option (UInt32 × xWt) :=
  lw (sF w 9 0 0) (fun w1 => bd (F_X8_fullnessNow w1) (fun x3 w2 => some (x3, w2)))
def B_X8_goBack_31  (rec : Int32 → xWt → Option ((Int32) × xWt)) (l1 : Int32) (w : xWt) : Option ((Int32) × xWt) :=
  (if 817 ≤ l1 then some ((l1), w) else ald w 9 2 l1 (fun x3 => ast w 9 0 l1 x3 (fun w4 => rec (l1 + 1) w4)))
def L_X8_goBack_31  : Nat → Int32 → xWt → Option ((Int32) × xWt)
  | 0 => fun _ _ => none
  | n9 + 1 => B_X8_goBack_31  (L_X8_goBack_31  n9)
def F_X8_goBack   (w : xWt) : Option (Int32 × xWt) :=
  (if (w.2.1 9 2) = 0 then lw (sF w 9 0 1) (fun w1 => (if (w1.2.1 9 0) ≤ 0 then bd (F_X8_record w1) (fun _ w2 => bd (L_X8_goBack_31 9999 0 w2) (fun o6 w7 => ald w7 9 0 0 (fun x8 => some (x8, w7)))) else some (0, w1))) else lw (sF w 9 0 0) (fun w10 => (if (w10.2.1 9 0) ≤ 0 then bd (F_X8_record w10) (fun _ w11 => bd (L_X8_goBack_31 9999 0 w11) (fun o12 w13 => ald w13 9 0 0 (fun x14 => some (x14, w13)))) else some (0, w10))))
def F_X8_grow  (a1 : Int32) (a2 : Int32) (w : xWt) : Option (Int32 × xWt) :=
  bd (F_X8_whyNotGrow a1 a2 w) (fun x2 w1 => lw (sF w1 9 0 x2) (fun w3 => (if (w3.2.1 9 0) ≤ 0 then bd (F_X8_record w3) (fun _ w4 => bd (F_X8_doGrow a1 a2 w4) (fun x6 w5 => some (x6, w5))) else some (0, w3))))
def F_X8_heap  (a1 : Int32) (a2 : Int32) (w : xWt) : Option (Int32 × xWt) :=
  bd (F_X8_isChild a1 w) (fun x2 w1 => (if x2 = 0 then lw (sF w1 9 0 1) (fun w12 => (if (w12.2.1 9 0) ≤ 0 then bd (F_X8_onHeap a1 a2 w12) (fun x14 w13 => some (x14, w13)) else some (0, w12))) else (if 0 ≤ a2 then lw (sF w1 9 0 0) (fun w3 => (if (w3.2.1 9 0) ≤ 0 then bd (F_X8_onHeap a1 a2 w3) (fun x5 w4 => some (x5, w4)) else some (0, w3))) else lw (sF w1 9 0 2) (fun w7 => (if (w7.2.1 9 0) ≤ 0 then bd (F_X8_onHeap a1 a2 w7) (fun x9 w8 => some (x9, w8)) else some (0, w7))))))
def F_X8_hook  (a1 : Int32) (a2 : Int32) (a3 : Int32) (w : xWt) : Option (Int32 × xWt) :=
  bd (F_X8_isChild a1 w) (fun x2 w1 => (if x2 = 0 then lw (sF w1 9 0 1) (fun w3 => (if (w3.2.1 9 0) ≤ 0 then bd (F_X8_ofHook a1 a2 a3 w3) (fun x5 w4 => some (x5, w4)) else some (0, w3))) else bd (F_X8_isHook a2 w1) (fun x8 w7 => (if x8 = 0 then lw (sF w7 9 0 1) (fun w20 => (if (w20.2.1 9 0) ≤ 0 then bd (F_X8_ofHook a1 a2 a3 w20) (fun x22 w21 => some (x22, w21)) else some (0, w20))) else bd (F_X8_in a3 0 2 w7) (fun x10 w9 => (if x10 = 0 then lw (sF w9 9 0 2) (fun w11 => (if (w11.2.1 9 0) ≤ 0 then bd (F_X8_ofHook a1 a2 a3 w11) (fun x13 w12 => some (x13, w12)) else some (0, w11))) else lw (sF w9 9 0 0) (fun w15 => (if (w15.2.1 9 0) ≤ 0 then bd (F_X8_ofHook a1 a2 a3 w15) (fun x17 w16 => some (x17, w16)) else some (0, w15)))))))))
def F_X8_ifAllRested   (w : xWt) : Option (Int32 × xWt) :=
  lw (sF w 9 0 0) (fun w1 => bd (F_X8_leavesAt 1 w1) (fun x3 w2 => some (x3, w2)))
def F_X8_ifLoosened  (a1 : Int32) (a2 : Int32) (w : xWt) : Option (Int32 × xWt) :=
  bd (F_X8_isChild a1 w) (fun x2 w1 => (if x2 = 0 then lw (sF w1 9 0 1) (fun w3 => (if (w3.2.1 9 0) ≤ 0 then bd (F_X8_freedBy a1 a2 w3) (fun x5 w4 => some (x5, w4)) else some (0, w3))) else bd (F_X8_isHook a2 w1) (fun x8 w7 => (if x8 = 0 then lw (sF w7 9 0 1) (fun w13 => (if (w13.2.1 9 0) ≤ 0 then bd (F_X8_freedBy a1 a2 w13) (fun x15 w14 => some (x15, w14)) else some (0, w13))) else lw (sF w7 9 0 0) (fun w9 => (if (w9.2.1 9 0) ≤ 0 then bd (F_X8_freedBy a1 a2 w9) (fun x11 w10 => some (x11, w10)) else some (0, w9)))))))
def F_X8_ifRaked  (a1 : Int32) (a2 : Int32) (w : xWt) : Option (Int32 × xWt) :=
  bd (F_X8_isChild a1 w) (fun x2 w1 => (if x2 = 0 then lw (sF w1 9 0 1) (fun w14 => (if (w14.2.1 9 0) ≤ 0 then bd (F_X8_burnable a1 a2 w14) (fun x16 w15 => some (x16, w15)) else some (0, w14))) else bd (F_X8_in a2 0 1 w1) (fun x4 w3 => (if x4 = 0 then lw (sF w3 9 0 2) (fun w5 => (if (w5.2.1 9 0) ≤ 0 then bd (F_X8_burnable a1 a2 w5) (fun x7 w6 => some (x7, w6)) else some (0, w5))) else lw (sF w3 9 0 0) (fun w9 => (if (w9.2.1 9 0) ≤ 0 then bd (F_X8_burnable a1 a2 w9) (fun x11 w10 => some (x11, w10)) else some (0, w9)))))))
def F_X8_ifRested  (a1 : Int32) (w : xWt) : Option (Int32 × xWt) :=
  bd (F_X8_isChild a1 w) (fun x2 w1 => (if x2 = 0 then lw (sF w1 9 0 1) (fun w3 => (if (w3.2.1 9 0) ≤ 0 then bd (F_X8_burnableWithout a1 w3) (fun x5 w4 => some (x5, w4)) else some (0, w3))) else lw (sF w1 9 0 0) (fun w7 => (if (w7.2.1 9 0) ≤ 0 then bd (F_X8_burnableWithout a1 w7) (fun x9 w8 => some (x9, w8)) else some (0, w7)))))
def F_X8_isLeaf  (a1 : Int32) (w : xWt) : Option (Int32 × xWt) :=
  ald w 9 0 1 (fun x1 => bd (F_X8_in a1 0 (x1 - 1) w) (fun x3 w2 => zr x3 (some (x3, w2))))
def B_X8_keep_7  (rec : Int32 → xWt → Option ((Int32) × xWt)) (l1 : Int32) (w : xWt) : Option ((Int32) × xWt) :=
  (if 817 ≤ l1 then some ((l1), w) else ald w 9 0 l1 (fun x2 => ast w 9 2 l1 x2 (fun w3 => rec (l1 + 1) w3)))
def L_X8_keep_7  : Nat → Int32 → xWt → Option ((Int32) × xWt)
  | 0 => fun _ _ => none
  | n9 + 1 => B_X8_keep_7  (L_X8_keep_7  n9)
def F_X8_keep   (w : xWt) : Option (Int32 × xWt) :=
  lw (sF w 9 0 0) (fun w1 => bd (L_X8_keep_7 9999 0 w1) (fun o5 w6 => lw (sF w6 9 2 1) (fun w7 => ald w7 9 0 0 (fun x8 => some (x8, w7)))))
def F_X8_late   (w : xWt) : Option (Int32 × xWt) :=
  lw (sF w 9 0 0) (fun w1 => bd (F_X8_lateOnes w1) (fun x3 w2 => some (x3, w2)))
def F_X8_leaf  (a1 : Int32) (a2 : Int32) (w : xWt) : Option (Int32 × xWt) :=
  bd (F_X8_isLeaf a1 w) (fun x2 w1 => (if x2 = 0 then lw (sF w1 9 0 1) (fun w14 => (if (w14.2.1 9 0) ≤ 0 then bd (F_X8_leafNow a1 a2 w14) (fun x16 w15 => some (x16, w15)) else some (0, w14))) else bd (F_X8_in a2 0 7 w1) (fun x4 w3 => (if x4 = 0 then lw (sF w3 9 0 2) (fun w5 => (if (w5.2.1 9 0) ≤ 0 then bd (F_X8_leafNow a1 a2 w5) (fun x7 w6 => some (x7, w6)) else some (0, w5))) else lw (sF w3 9 0 0) (fun w9 => (if (w9.2.1 9 0) ≤ 0 then bd (F_X8_leafNow a1 a2 w9) (fun x11 w10 => some (x11, w10)) else some (0, w9)))))))
def B_X8_leave_49  (rec : Int32 → Int32 → xWt → Option ((Int32) × xWt)) (l1 : Int32) (l2 : Int32) (w : xWt) : Option ((Int32) × xWt) :=
  bd (F_X8_ofChild l2 0 w) (fun x9 w8 => (if x9 = 0 then rec l1 (l2 + 1) w8 else some ((l2), w8)))
def L_X8_leave_49  : Nat → Int32 → Int32 → xWt → Option ((Int32) × xWt)
  | 0 => fun _ _ _ => none
  | n9 + 1 => B_X8_leave_49  (L_X8_leave_49  n9)
def B_X8_leave_74  (rec : Int32 → Int32 → Int32 → Int32 → xWt → Option ((Int32 × Int32) × xWt)) (l1 : Int32) (l2 : Int32) (l3 : Int32) (l4 : Int32) (w : xWt) : Option ((Int32 × Int32) × xWt) :=
  (if l4 < 0 then some ((l3, l4), w) else bd (F_X8_putOnHeap l4 l2 w) (fun _ w15 => bd (F_X8_onHeap l1 0 w15) (fun x17 w16 => rec l1 l2 (l3 + 1) x17 w16)))
def L_X8_leave_74  : Nat → Int32 → Int32 → Int32 → Int32 → xWt → Option ((Int32 × Int32) × xWt)
  | 0 => fun _ _ _ _ _ => none
  | n9 + 1 => B_X8_leave_74  (L_X8_leave_74  n9)
def F_X8_leave  (a1 : Int32) (w : xWt) : Option (Int32 × xWt) :=
  bd (F_X8_isChild a1 w) (fun x2 w1 => (if x2 = 0 then lw (sF w1 9 0 1) (fun w33 => (if (w33.2.1 9 0) ≤ 0 then bd (F_X8_record w33) (fun _ w34 => bd (F_X8_clearChild a1 w34) (fun _ w35 => bd (L_X8_leave_49 9999 a1 0 w35) (fun o36 w37 => bd (F_X8_onHeap a1 0 w37) (fun x39 w38 => bd (L_X8_leave_74 9999 a1 o36 0 x39 w38) (fun o40 w41 => some (o40.1, w41)))))) else some (0, w33))) else bd (F_X8_children w1) (fun x4 w3 => (if x4 = 1 then lw (sF w3 9 0 2) (fun w22 => (if (w22.2.1 9 0) ≤ 0 then bd (F_X8_record w22) (fun _ w23 => bd (F_X8_clearChild a1 w23) (fun _ w24 => bd (L_X8_leave_49 9999 a1 0 w24) (fun o25 w26 => bd (F_X8_onHeap a1 0 w26) (fun x28 w27 => bd (L_X8_leave_74 9999 a1 o25 0 x28 w27) (fun o29 w30 => some (o29.1, w30)))))) else some (0, w22))) else lw (sF w3 9 0 0) (fun w5 => (if (w5.2.1 9 0) ≤ 0 then bd (F_X8_record w5) (fun _ w6 => bd (F_X8_clearChild a1 w6) (fun _ w7 => bd (L_X8_leave_49 9999 a1 0 w7) (fun o11 w12 => bd (F_X8_onHeap a1 0 w12) (fun x14 w13 => bd (L_X8_leave_74 9999 a1 o11 0 x14 w13) (fun o19 w20 => some (o19.1, w20)))))) else some (0, w5)))))))
def F_X8_look  (a1 : Int32) (a2 : Int32) (w : xWt) : Option (Int32 × xWt) :=
  bd (F_X8_whyNotUse a1 a2 w) (fun x2 w1 => lw (sF w1 9 0 x2) (fun w3 => (if (w3.2.1 9 0) ≤ 0 then bd (F_X8_record w3) (fun _ w4 => bd (F_X8_ofHook a1 a2 1 w4) (fun x6 w5 => bd (F_X8_ofHook a1 a2 0 w5) (fun x8 w7 => (if x8 = 1 then bd (F_X8_of x6 1 w7) (fun x12 w11 => (if x12 = 2 then ald w11 9 0 5 (fun x15 => ast w11 9 0 5 (x15 + 1) (fun w16 => some ((-1), w16))) else bd (F_X8_of x6 0 w11) (fun x14 w13 => some (x14, w13)))) else bd (F_X8_of x6 0 w7) (fun x10 w9 => some (x10, w9)))))) else some (0, w3))))
def F_X8_loosen  (a1 : Int32) (a2 : Int32) (w : xWt) : Option (Int32 × xWt) :=
  bd (F_X8_whyNotUse a1 a2 w) (fun x2 w1 => lw (sF w1 9 0 x2) (fun w3 => (if (w3.2.1 9 0) ≤ 0 then bd (F_X8_record w3) (fun _ w4 => bd (F_X8_doLoosen a1 a2 w4) (fun x6 w5 => some (x6, w5))) else some (0, w3))))
def F_X8_mostHeld   (w : xWt) : Option (Int32 × xWt) :=
  lw (sF w 9 0 0) (fun w1 => bd (F_X8_findMostHeld w1) (fun x3 w2 => some (x3, w2)))
def F_X8_note  (a1 : Int32) (a2 : Int32) (a3 : Int32) (w : xWt) : Option (Int32 × xWt) :=
  bd (F_X8_whyNotNote a1 a2 a3 w) (fun x2 w1 => lw (sF w1 9 0 x2) (fun w3 => (if (w3.2.1 9 0) ≤ 0 then bd (F_X8_record w3) (fun _ w4 => bd (F_X8_doNote a1 a2 a3 w4) (fun x6 w5 => some (x6, w5))) else some (0, w3))))
def B_X8_obey_40  (rec : Int32 → Int32 → Int32 → xWt → Option ((Int32 × Int32 × Int32) × xWt)) (l1 : Int32) (l2 : Int32) (l3 : Int32) (w : xWt) : Option ((Int32 × Int32 × Int32) × xWt) :=
  (if l2 = 0 then some ((l1, l2, l3), w) else (if (w.2.1 9 3) ≤ l3 then some ((l1, l2, l3), w) else bd (F_X8_readOrder l3 w) (fun x6 w5 => bd (F_X8_canDo w5) (fun x8 w7 => (if x8 = 0 then rec l1 x8 (x6 + 1) w7 else bd (F_X8_doOrder w7) (fun x10 w9 => rec (l1 + 1) x8 (x6 + 1) w9))))))
def L_X8_obey_40  : Nat → Int32 → Int32 → Int32 → xWt → Option ((Int32 × Int32 × Int32) × xWt)
  | 0 => fun _ _ _ _ => none
  | n9 + 1 => B_X8_obey_40  (L_X8_obey_40  n9)
def F_X8_obey   (w : xWt) : Option (Int32 × xWt) :=
  bd (F_X8_findError w) (fun x2 w1 => (if (w1.2.1 9 5) = 0 then lw (sF w1 9 0 1) (fun w3 => (if (w3.2.1 9 0) ≤ 0 then bd (F_X8_record w3) (fun _ w4 => bd (L_X8_obey_40 9999 0 1 0 w4) (fun o14 w15 => lw (sF w15 9 3 0) (fun w16 => some (o14.1, w16)))) else some (0, w3))) else lw (sF w1 9 0 0) (fun w18 => (if (w18.2.1 9 0) ≤ 0 then bd (F_X8_record w18) (fun _ w19 => bd (L_X8_obey_40 9999 0 1 0 w19) (fun o20 w21 => lw (sF w21 9 3 0) (fun w22 => some (o20.1, w22)))) else some (0, w18)))))
def F_X8_pin  (a1 : Int32) (a2 : Int32) (w : xWt) : Option (Int32 × xWt) :=
  bd (F_X8_whyNotPin a1 a2 w) (fun x2 w1 => lw (sF w1 9 0 x2) (fun w3 => (if (w3.2.1 9 0) ≤ 0 then bd (F_X8_record w3) (fun _ w4 => bd (F_X8_doPin a1 a2 w4) (fun x6 w5 => some (x6, w5))) else some (0, w3))))
def F_X8_rake  (a1 : Int32) (w : xWt) : Option (Int32 × xWt) :=
  bd (F_X8_whyNotRake a1 w) (fun x2 w1 => lw (sF w1 9 0 x2) (fun w3 => (if (w3.2.1 9 0) ≤ 0 then bd (F_X8_record w3) (fun _ w4 => bd (F_X8_doRake a1 w4) (fun x6 w5 => some (x6, w5))) else some (0, w3))))
def F_X8_rest  (a1 : Int32) (w : xWt) : Option (Int32 × xWt) :=
  bd (F_X8_whyNotRest a1 w) (fun x2 w1 => lw (sF w1 9 0 x2) (fun w3 => (if (w3.2.1 9 0) ≤ 0 then bd (F_X8_record w3) (fun _ w4 => bd (F_X8_doRest a1 w4) (fun x6 w5 => some (x6, w5))) else some (0, w3))))
def F_X8_ring   (w : xWt) : Option (Int32 × xWt) :=
  bd (F_X8_lateOnes w) (fun x2 w1 => (if x2 = 0 then lw (sF w1 9 0 0) (fun w8 => (if (w8.2.1 9 0) ≤ 0 then bd (F_X8_record w8) (fun _ w9 => bd (F_X8_doRing w9) (fun x11 w10 => some (x11, w10))) else some (0, w8))) else lw (sF w1 9 0 1) (fun w3 => (if (w3.2.1 9 0) ≤ 0 then bd (F_X8_record w3) (fun _ w4 => bd (F_X8_doRing w4) (fun x6 w5 => some (x6, w5))) else some (0, w3)))))
def F_X8_set  (a1 : Int32) (a2 : Int32) (w : xWt) : Option (Int32 × xWt) :=
  (if a1 = 0 then bd (F_X8_in a2 1 20 w) (fun x23 w22 => bd (F_X8_in a1 0 1 w22) (fun x25 w24 => (if x25 = 0 then lw (sF w24 9 0 1) (fun w37 => (if (w37.2.1 9 0) ≤ 0 then bd (F_X8_record w37) (fun _ w38 => ald w38 9 0 (8 + a1) (fun x39 => ast w38 9 0 (8 + a1) a2 (fun w40 => some (x39, w40)))) else some (0, w37))) else (if x23 = 0 then lw (sF w24 9 0 2) (fun w26 => (if (w26.2.1 9 0) ≤ 0 then bd (F_X8_record w26) (fun _ w27 => ald w27 9 0 (8 + a1) (fun x28 => ast w27 9 0 (8 + a1) a2 (fun w29 => some (x28, w29)))) else some (0, w26))) else lw (sF w24 9 0 0) (fun w31 => (if (w31.2.1 9 0) ≤ 0 then bd (F_X8_record w31) (fun _ w32 => ald w32 9 0 (8 + a1) (fun x33 => ast w32 9 0 (8 + a1) a2 (fun w34 => some (x33, w34)))) else some (0, w31))))))) else bd (F_X8_in a2 0 1 w) (fun x2 w1 => bd (F_X8_in a1 0 1 w1) (fun x4 w3 => (if x4 = 0 then lw (sF w3 9 0 1) (fun w16 => (if (w16.2.1 9 0) ≤ 0 then bd (F_X8_record w16) (fun _ w17 => ald w17 9 0 (8 + a1) (fun x18 => ast w17 9 0 (8 + a1) a2 (fun w19 => some (x18, w19)))) else some (0, w16))) else (if x2 = 0 then lw (sF w3 9 0 2) (fun w5 => (if (w5.2.1 9 0) ≤ 0 then bd (F_X8_record w5) (fun _ w6 => ald w6 9 0 (8 + a1) (fun x7 => ast w6 9 0 (8 + a1) a2 (fun w8 => some (x7, w8)))) else some (0, w5))) else lw (sF w3 9 0 0) (fun w10 => (if (w10.2.1 9 0) ≤ 0 then bd (F_X8_record w10) (fun _ w11 => ald w11 9 0 (8 + a1) (fun x12 => ast w11 9 0 (8 + a1) a2 (fun w13 => some (x12, w13)))) else some (0, w10))))))))
def F_X8_setting  (a1 : Int32) (w : xWt) : Option (Int32 × xWt) :=
  bd (F_X8_in a1 0 1 w) (fun x2 w1 => (if x2 = 0 then lw (sF w1 9 0 1) (fun w3 => (if (w3.2.1 9 0) ≤ 0 then ald w3 9 0 (8 + a1) (fun x4 => some (x4, w3)) else some (0, w3))) else lw (sF w1 9 0 0) (fun w6 => (if (w6.2.1 9 0) ≤ 0 then ald w6 9 0 (8 + a1) (fun x7 => some (x7, w6)) else some (0, w6)))))
def F_X8_swap  (a1 : Int32) (a2 : Int32) (a3 : Int32) (w : xWt) : Option (Int32 × xWt) :=
  bd (F_X8_whyNotSwap a1 a2 a3 w) (fun x2 w1 => lw (sF w1 9 0 x2) (fun w3 => (if (w3.2.1 9 0) ≤ 0 then bd (F_X8_record w3) (fun _ w4 => bd (F_X8_doSwap a1 a2 a3 w4) (fun x6 w5 => some (x6, w5))) else some (0, w3))))
def F_X8_take  (a1 : Int32) (a2 : Int32) (w : xWt) : Option (Int32 × xWt) :=
  bd (F_X8_whyNotTake a1 a2 w) (fun x2 w1 => lw (sF w1 9 0 x2) (fun w3 => (if (w3.2.1 9 0) ≤ 0 then bd (F_X8_record w3) (fun _ w4 => bd (F_X8_doTake a1 a2 w4) (fun x6 w5 => some (x6, w5))) else some (0, w3))))
def F_X8_thrown   (w : xWt) : Option (Int32 × xWt) :=
  some ((w.2.1 9 0), w)
def B_X8_undo_37  (rec : Int32 → xWt → Option ((Int32) × xWt)) (l1 : Int32) (w : xWt) : Option ((Int32) × xWt) :=
  (if 817 ≤ l1 then some ((l1), w) else ald w 9 1 ((817 * (w.2.1 9 1)) + l1) (fun x3 => ast w 9 0 l1 x3 (fun w4 => rec (l1 + 1) w4)))
def L_X8_undo_37  : Nat → Int32 → xWt → Option ((Int32) × xWt)
  | 0 => fun _ _ => none
  | n9 + 1 => B_X8_undo_37  (L_X8_undo_37  n9)
def F_X8_undo   (w : xWt) : Option (Int32 × xWt) :=
  (if (w.2.1 9 1) = 0 then lw (sF w 9 0 1) (fun w9 => (if (w9.2.1 9 0) ≤ 0 then lw (sF w9 9 1 ((w9.2.1 9 1) - 1)) (fun w10 => bd (L_X8_undo_37 9999 0 w10) (fun o11 w12 => some ((w12.2.1 9 1), w12))) else some (0, w9))) else lw (sF w 9 0 0) (fun w1 => (if (w1.2.1 9 0) ≤ 0 then lw (sF w1 9 1 ((w1.2.1 9 1) - 1)) (fun w2 => bd (L_X8_undo_37 9999 0 w2) (fun o6 w7 => some ((w7.2.1 9 1), w7))) else some (0, w1))))
def F_X8_why  (a1 : Int32) (w : xWt) : Option (Int32 × xWt) :=
  bd (F_X8_isLeaf a1 w) (fun x2 w1 => (if x2 = 0 then lw (sF w1 9 0 1) (fun w3 => (if (w3.2.1 9 0) ≤ 0 then bd (F_X8_whyNot a1 w3) (fun x5 w4 => some (x5, w4)) else some (0, w3))) else lw (sF w1 9 0 0) (fun w7 => (if (w7.2.1 9 0) ≤ 0 then bd (F_X8_whyNot a1 w7) (fun x9 w8 => some (x9, w8)) else some (0, w7)))))
