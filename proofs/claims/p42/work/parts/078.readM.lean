def F_X8_in  (a1 : Int32) (a2 : Int32) (a3 : Int32) (w : xWt) : Option (Int32 × xWt) :=
  (if a1 < a2 then some (0, w) else (if a3 < a1 then some (0, w) else some (1, w)))
def F_X8_of  (a1 : Int32) (a2 : Int32) (w : xWt) : Option (Int32 × xWt) :=
  ald w 9 0 ((22 + (6 * a1)) + a2) (fun x1 => some (x1, w))
def F_X8_isOnHeap  (a1 : Int32) (a2 : Int32) (w : xWt) : Option (Int32 × xWt) :=
  bd (F_X8_of a1 1 w) (fun x2 w1 => (if x2 = 1 then bd (F_X8_of a1 4 w1) (fun x4 w3 => (if x4 = a2 then some (1, w3) else some (0, w3))) else some (0, w1)))
def F_X8_ofChild  (a1 : Int32) (a2 : Int32) (w : xWt) : Option (Int32 × xWt) :=
  ald w 9 0 ((742 + (15 * a1)) + a2) (fun x1 => some (x1, w))
def F_X8_ofHook  (a1 : Int32) (a2 : Int32) (a3 : Int32) (w : xWt) : Option (Int32 × xWt) :=
  bd (F_X8_ofChild a1 ((6 + (3 * a2)) + a3) w) (fun x2 w1 => some (x2, w1))
def B_X8_holders_14  (rec : Int32 → Int32 → Int32 → Int32 → Int32 → xWt → Option ((Int32 × Int32) × xWt)) (l1 : Int32) (l2 : Int32) (l3 : Int32) (l4 : Int32) (l5 : Int32) (w : xWt) : Option ((Int32 × Int32) × xWt) :=
  (if 3 ≤ l5 then some ((l3, l5), w) else (if l4 = l2 then rec l1 l2 (l3 ||| 0) l4 (l5 + 1) w else bd (F_X8_ofHook l4 l5 0 w) (fun x3 w2 => (if x3 = 2 then bd (F_X8_ofHook l4 l5 1 w2) (fun x6 w5 => (if x6 = l1 then rec l1 l2 (l3 ||| (1 <<< (l4 &&& 31))) l4 (l5 + 1) w5 else rec l1 l2 (l3 ||| 0) l4 (l5 + 1) w5)) else rec l1 l2 (l3 ||| 0) l4 (l5 + 1) w2))))
def L_X8_holders_14  : Nat → Int32 → Int32 → Int32 → Int32 → Int32 → xWt → Option ((Int32 × Int32) × xWt)
  | 0 => fun _ _ _ _ _ _ => none
  | n9 + 1 => B_X8_holders_14  (L_X8_holders_14  n9)
def B_X8_holders_5  (rec : Int32 → Int32 → Int32 → Int32 → xWt → Option ((Int32 × Int32) × xWt)) (l1 : Int32) (l2 : Int32) (l3 : Int32) (l4 : Int32) (w : xWt) : Option ((Int32 × Int32) × xWt) :=
  (if 5 ≤ l4 then some ((l3, l4), w) else bd (L_X8_holders_14 9999 l1 l2 l3 l4 0 w) (fun o13 w14 => rec l1 l2 o13.1 (l4 + 1) w14))
def L_X8_holders_5  : Nat → Int32 → Int32 → Int32 → Int32 → xWt → Option ((Int32 × Int32) × xWt)
  | 0 => fun _ _ _ _ _ => none
  | n9 + 1 => B_X8_holders_5  (L_X8_holders_5  n9)
def F_X8_holders  (a1 : Int32) (a2 : Int32) (w : xWt) : Option (Int32 × xWt) :=
  bd (L_X8_holders_5 9999 a1 a2 0 0 w) (fun o16 w17 => some (o16.1, w17))
def F_X8_mayBurn  (a1 : Int32) (a2 : Int32) (w : xWt) : Option (Int32 × xWt) :=
  (if a2 = 0 then bd (F_X8_holders a1 (-1) w) (fun x6 w5 => (if x6 = 0 then some (1, w5) else some (0, w5))) else ald w 9 0 0 (fun x1 => bd (F_X8_of a1 3 w) (fun x3 w2 => (if (x1 - x3) < 2 then some (0, w2) else some (1, w2)))))
def B_X8_heapOf_4  (rec : Int32 → Int32 → Int32 → xWt → Option ((Int32 × Int32) × xWt)) (l1 : Int32) (l2 : Int32) (l3 : Int32) (w : xWt) : Option ((Int32 × Int32) × xWt) :=
  ald w 9 0 1 (fun x1 => (if x1 ≤ l3 then some ((l2, l3), w) else bd (F_X8_isOnHeap l3 l1 w) (fun x3 w2 => (if x3 = 0 then rec l1 (l2 + 0) (l3 + 1) w2 else rec l1 (l2 + 1) (l3 + 1) w2))))
def L_X8_heapOf_4  : Nat → Int32 → Int32 → Int32 → xWt → Option ((Int32 × Int32) × xWt)
  | 0 => fun _ _ _ _ => none
  | n9 + 1 => B_X8_heapOf_4  (L_X8_heapOf_4  n9)
def F_X8_heapOf  (a1 : Int32) (w : xWt) : Option (Int32 × xWt) :=
  bd (L_X8_heapOf_4 9999 a1 0 0 w) (fun o6 w7 => some (o6.1, w7))
def B_X8_leavesAt_4  (rec : Int32 → Int32 → Int32 → xWt → Option ((Int32 × Int32) × xWt)) (l1 : Int32) (l2 : Int32) (l3 : Int32) (w : xWt) : Option ((Int32 × Int32) × xWt) :=
  ald w 9 0 1 (fun x1 => (if x1 ≤ l3 then some ((l2, l3), w) else bd (F_X8_of l3 1 w) (fun x3 w2 => (if x3 = l1 then rec l1 (l2 + 1) (l3 + 1) w2 else rec l1 (l2 + 0) (l3 + 1) w2))))
def L_X8_leavesAt_4  : Nat → Int32 → Int32 → Int32 → xWt → Option ((Int32 × Int32) × xWt)
  | 0 => fun _ _ _ _ => none
  | n9 + 1 => B_X8_leavesAt_4  (L_X8_leavesAt_4  n9)
def F_X8_leavesAt  (a1 : Int32) (w : xWt) : Option (Int32 × xWt) :=
  bd (L_X8_leavesAt_4 9999 a1 0 0 w) (fun o6 w7 => some (o6.1, w7))
def F_X8_isChild  (a1 : Int32) (w : xWt) : Option (Int32 × xWt) :=
  bd (F_X8_in a1 0 4 w) (fun x2 w1 => (if x2 = 0 then some (0, w1) else bd (F_X8_ofChild a1 0 w1) (fun x4 w3 => (if x4 = 1 then some (1, w3) else some (0, w3)))))
def F_X8_isHook  (a1 : Int32) (w : xWt) : Option (Int32 × xWt) :=
  bd (F_X8_in a1 0 2 w) (fun x2 w1 => zr x2 (some (x2, w1)))
def B_X8_hooksOf_5  (rec : Int32 → Int32 → Int32 → Int32 → xWt → Option ((Int32 × Int32) × xWt)) (l1 : Int32) (l2 : Int32) (l3 : Int32) (l4 : Int32) (w : xWt) : Option ((Int32 × Int32) × xWt) :=
  (if 3 ≤ l4 then some ((l3, l4), w) else bd (F_X8_ofHook l1 l4 0 w) (fun x2 w1 => (if x2 = l2 then rec l1 l2 (l3 + 1) (l4 + 1) w1 else rec l1 l2 (l3 + 0) (l4 + 1) w1)))
def L_X8_hooksOf_5  : Nat → Int32 → Int32 → Int32 → Int32 → xWt → Option ((Int32 × Int32) × xWt)
  | 0 => fun _ _ _ _ _ => none
  | n9 + 1 => B_X8_hooksOf_5  (L_X8_hooksOf_5  n9)
def F_X8_hooksOf  (a1 : Int32) (a2 : Int32) (w : xWt) : Option (Int32 × xWt) :=
  bd (L_X8_hooksOf_5 9999 a1 a2 0 0 w) (fun o5 w6 => some (o5.1, w6))
def B_X8_children_4  (rec : Int32 → Int32 → xWt → Option ((Int32 × Int32) × xWt)) (l1 : Int32) (l2 : Int32) (w : xWt) : Option ((Int32 × Int32) × xWt) :=
  (if 5 ≤ l2 then some ((l1, l2), w) else bd (F_X8_ofChild l2 0 w) (fun x2 w1 => rec (l1 + x2) (l2 + 1) w1))
def L_X8_children_4  : Nat → Int32 → Int32 → xWt → Option ((Int32 × Int32) × xWt)
  | 0 => fun _ _ _ => none
  | n9 + 1 => B_X8_children_4  (L_X8_children_4  n9)
def F_X8_children   (w : xWt) : Option (Int32 × xWt) :=
  bd (L_X8_children_4 9999 0 0 w) (fun o4 w5 => some (o4.1, w5))
def F_X8_setChild  (a1 : Int32) (a2 : Int32) (a3 : Int32) (w : xWt) : Option (Unit × xWt) :=
  ast w 9 0 ((742 + (15 * a1)) + a2) a3 (fun w1 => some ((), w1))
def F_X8_setHook  (a1 : Int32) (a2 : Int32) (a3 : Int32) (a4 : Int32) (a5 : Int32) (w : xWt) : Option (Unit × xWt) :=
  bd (F_X8_setChild a1 ((6 + (3 * a2)) + 0) a3 w) (fun _ w1 => bd (F_X8_setChild a1 ((6 + (3 * a2)) + 1) a4 w1) (fun _ w2 => bd (F_X8_setChild a1 ((6 + (3 * a2)) + 2) a5 w2) (fun _ w3 => some ((), w3))))
def B_X8_emptyHooks_2  (rec : Int32 → Int32 → xWt → Option ((Int32) × xWt)) (l1 : Int32) (l2 : Int32) (w : xWt) : Option ((Int32) × xWt) :=
  (if 3 ≤ l2 then some ((l2), w) else bd (F_X8_setHook l1 l2 0 (-1) (-1) w) (fun _ w1 => rec l1 (l2 + 1) w1))
def L_X8_emptyHooks_2  : Nat → Int32 → Int32 → xWt → Option ((Int32) × xWt)
  | 0 => fun _ _ _ => none
  | n9 + 1 => B_X8_emptyHooks_2  (L_X8_emptyHooks_2  n9)
def F_X8_emptyHooks  (a1 : Int32) (w : xWt) : Option (Unit × xWt) :=
  bd (L_X8_emptyHooks_2 9999 a1 0 w) (fun o3 w4 => some ((), w4))
def B_X8_clearChild_2  (rec : Int32 → Int32 → xWt → Option ((Int32) × xWt)) (l1 : Int32) (l2 : Int32) (w : xWt) : Option ((Int32) × xWt) :=
  (if 6 ≤ l2 then some ((l2), w) else bd (F_X8_setChild l1 l2 0 w) (fun _ w1 => rec l1 (l2 + 1) w1))
def L_X8_clearChild_2  : Nat → Int32 → Int32 → xWt → Option ((Int32) × xWt)
  | 0 => fun _ _ _ => none
  | n9 + 1 => B_X8_clearChild_2  (L_X8_clearChild_2  n9)
def F_X8_clearChild  (a1 : Int32) (w : xWt) : Option (Unit × xWt) :=
  bd (L_X8_clearChild_2 9999 a1 0 w) (fun o3 w4 => bd (F_X8_setChild a1 2 (-1) w4) (fun _ w5 => bd (F_X8_emptyHooks a1 w5) (fun _ w6 => some ((), w6))))
def B_X8_come_32  (rec : Int32 → xWt → Option ((Int32) × xWt)) (l1 : Int32) (w : xWt) : Option ((Int32) × xWt) :=
  bd (F_X8_ofChild l1 0 w) (fun x6 w5 => (if x6 = 1 then rec (l1 + 1) w5 else some ((l1), w5)))
def L_X8_come_32  : Nat → Int32 → xWt → Option ((Int32) × xWt)
  | 0 => fun _ _ => none
  | n9 + 1 => B_X8_come_32  (L_X8_come_32  n9)
def B_X8_onHeap_22  (rec : Int32 → Int32 → Int32 → Int32 → Int32 → Int32 → xWt → Option ((Int32 × Int32) × xWt)) (l1 : Int32) (l2 : Int32) (l3 : Int32) (l4 : Int32) (l5 : Int32) (l6 : Int32) (w : xWt) : Option ((Int32 × Int32) × xWt) :=
  ald w 9 0 1 (fun x2 => (if x2 ≤ l6 then some ((l5, l6), w) else bd (F_X8_isOnHeap l6 l1 w) (fun x4 w3 => (if x4 = 0 then rec l1 l2 l3 l4 (l5 + 0) (l6 + 1) w3 else bd (F_X8_of l6 5 w3) (fun x6 w5 => bd (F_X8_of l4 5 w5) (fun x8 w7 => (if x8 ≤ x6 then rec l1 l2 l3 l4 (l5 + 0) (l6 + 1) w7 else rec l1 l2 l3 l4 (l5 + 1) (l6 + 1) w7)))))))
def L_X8_onHeap_22  : Nat → Int32 → Int32 → Int32 → Int32 → Int32 → Int32 → xWt → Option ((Int32 × Int32) × xWt)
  | 0 => fun _ _ _ _ _ _ _ => none
  | n9 + 1 => B_X8_onHeap_22  (L_X8_onHeap_22  n9)
def B_X8_onHeap_5  (rec : Int32 → Int32 → Int32 → Int32 → xWt → Option ((Int32 × Int32) × xWt)) (l1 : Int32) (l2 : Int32) (l3 : Int32) (l4 : Int32) (w : xWt) : Option ((Int32 × Int32) × xWt) :=
  ald w 9 0 1 (fun x1 => (if x1 ≤ l4 then some ((l3, l4), w) else bd (L_X8_onHeap_22 9999 l1 l2 l3 l4 0 0 w) (fun o12 w13 => bd (F_X8_isOnHeap l4 l1 w13) (fun x15 w14 => (if x15 = 0 then rec l1 l2 l3 (l4 + 1) w14 else (if o12.1 = l2 then rec l1 l2 l4 (l4 + 1) w14 else rec l1 l2 l3 (l4 + 1) w14))))))
def L_X8_onHeap_5  : Nat → Int32 → Int32 → Int32 → Int32 → xWt → Option ((Int32 × Int32) × xWt)
  | 0 => fun _ _ _ _ _ => none
  | n9 + 1 => B_X8_onHeap_5  (L_X8_onHeap_5  n9)
def F_X8_onHeap  (a1 : Int32) (a2 : Int32) (w : xWt) : Option (Int32 × xWt) :=
  bd (L_X8_onHeap_5 9999 a1 a2 (-1) 0 w) (fun o19 w20 => some (o19.1, w20))
def F_X8_doEnter  (a1 : Int32) (w : xWt) : Option (Int32 × xWt) :=
  bd (F_X8_setChild a1 1 1 w) (fun _ w1 => ald w1 9 0 0 (fun x2 => bd (F_X8_setChild a1 2 x2 w1) (fun _ w3 => ald w3 9 0 0 (fun x4 => some (x4, w3)))))
def F_X8_setLeaf  (a1 : Int32) (a2 : Int32) (a3 : Int32) (w : xWt) : Option (Unit × xWt) :=
  ast w 9 0 ((22 + (6 * a1)) + a2) a3 (fun w1 => some ((), w1))
def F_X8_doGrow  (a1 : Int32) (a2 : Int32) (w : xWt) : Option (Int32 × xWt) :=
  ald w 9 0 1 (fun x1 => ald w 9 0 1 (fun x2 => ast w 9 0 1 (x2 + 1) (fun w3 => ast w3 9 0 (10 + a1) x1 (fun w4 => bd (F_X8_setLeaf x1 0 a2 w4) (fun _ w5 => bd (F_X8_setLeaf x1 1 0 w5) (fun _ w6 => bd (F_X8_setLeaf x1 2 a1 w6) (fun _ w7 => bd (F_X8_setLeaf x1 3 (-1) w7) (fun _ w8 => some (x1, w8)))))))))
def F_X8_doLoosen  (a1 : Int32) (a2 : Int32) (w : xWt) : Option (Int32 × xWt) :=
  bd (F_X8_ofHook a1 a2 1 w) (fun x2 w1 => bd (F_X8_setHook a1 a2 0 (-1) (-1) w1) (fun _ w3 => some (x2, w3)))
def F_X8_doNote  (a1 : Int32) (a2 : Int32) (a3 : Int32) (w : xWt) : Option (Int32 × xWt) :=
  ald w 9 0 (10 + a3) (fun x1 => bd (F_X8_setHook a1 a2 1 x1 a3 w) (fun _ w2 => ald w2 9 0 (10 + a3) (fun x3 => some (x3, w2))))
def F_X8_doPin  (a1 : Int32) (a2 : Int32) (w : xWt) : Option (Int32 × xWt) :=
  bd (F_X8_ofHook a1 a2 1 w) (fun x2 w1 => bd (F_X8_ofHook a1 a2 2 w1) (fun x4 w3 => ald w3 9 0 (10 + x4) (fun x5 => (if x5 = x2 then bd (F_X8_setHook a1 a2 2 x2 (-1) w3) (fun _ w17 => some (1, w17)) else bd (F_X8_setHook a1 a2 0 (-1) (-1) w3) (fun _ w6 => ald w6 9 0 4 (fun x7 => ast w6 9 0 4 (x7 + 1) (fun w8 => some (0, w8))))))))
def B_X8_doRake_4  (rec : Int32 → Int32 → Int32 → xWt → Option ((Int32 × Int32) × xWt)) (l1 : Int32) (l2 : Int32) (l3 : Int32) (w : xWt) : Option ((Int32 × Int32) × xWt) :=
  ald w 9 0 1 (fun x1 => (if x1 ≤ l3 then some ((l2, l3), w) else bd (F_X8_isOnHeap l3 l1 w) (fun x3 w2 => (if x3 = 0 then rec l1 l2 (l3 + 1) w2 else ald w2 9 0 9 (fun x4 => bd (F_X8_mayBurn l3 x4 w2) (fun x6 w5 => (if x6 = 0 then rec l1 l2 (l3 + 1) w5 else bd (F_X8_setLeaf l3 1 2 w5) (fun _ w7 => rec l1 (l2 + 1) (l3 + 1) w7))))))))
def L_X8_doRake_4  : Nat → Int32 → Int32 → Int32 → xWt → Option ((Int32 × Int32) × xWt)
  | 0 => fun _ _ _ _ => none
  | n9 + 1 => B_X8_doRake_4  (L_X8_doRake_4  n9)
def F_X8_doRake  (a1 : Int32) (w : xWt) : Option (Int32 × xWt) :=
  bd (L_X8_doRake_4 9999 a1 0 0 w) (fun o11 w12 => ald w12 9 0 2 (fun x13 => ast w12 9 0 2 (x13 + 1) (fun w14 => ald w14 9 0 3 (fun x15 => ald w14 9 0 9 (fun x16 => (if x16 = 0 then bd (F_X8_children w14) (fun x25 w24 => ast w24 9 0 3 (x15 + (3 * x25)) (fun w26 => bd (F_X8_ofChild a1 5 w26) (fun x28 w27 => bd (F_X8_setChild a1 5 (x28 + 1) w27) (fun _ w29 => bd (F_X8_ofChild a1 4 w29) (fun x31 w30 => bd (F_X8_setChild a1 4 (x31 + o11.1) w30) (fun _ w32 => some (o11.1, w32))))))) else ast w14 9 0 3 (x15 + 0) (fun w17 => bd (F_X8_ofChild a1 5 w17) (fun x19 w18 => bd (F_X8_setChild a1 5 (x19 + 1) w18) (fun _ w20 => bd (F_X8_ofChild a1 4 w20) (fun x22 w21 => bd (F_X8_setChild a1 4 (x22 + o11.1) w21) (fun _ w23 => some (o11.1, w23))))))))))))
def F_X8_doRest  (a1 : Int32) (w : xWt) : Option (Int32 × xWt) :=
  bd (F_X8_hooksOf a1 2 w) (fun x2 w1 => bd (F_X8_setChild a1 1 0 w1) (fun _ w3 => bd (F_X8_setChild a1 2 (-1) w3) (fun _ w4 => bd (F_X8_emptyHooks a1 w4) (fun _ w5 => some (x2, w5)))))
def F_X8_doRing   (w : xWt) : Option (Int32 × xWt) :=
  ald w 9 0 0 (fun x1 => ast w 9 0 0 (x1 + 1) (fun w2 => ald w2 9 0 0 (fun x3 => some (x3, w2))))
def F_X8_putOnHeap  (a1 : Int32) (a2 : Int32) (w : xWt) : Option (Unit × xWt) :=
  bd (F_X8_setLeaf a1 1 1 w) (fun _ w1 => bd (F_X8_setLeaf a1 4 a2 w1) (fun _ w2 => ald w2 9 0 7 (fun x3 => bd (F_X8_setLeaf a1 5 x3 w2) (fun _ w4 => ald w4 9 0 7 (fun x5 => ast w4 9 0 7 (x5 + 1) (fun w6 => some ((), w6)))))))
def F_X8_doTake  (a1 : Int32) (a2 : Int32) (w : xWt) : Option (Int32 × xWt) :=
  ald w 9 0 (10 + a2) (fun x1 => ast w 9 0 (10 + a2) (-1) (fun w2 => ald w2 9 0 0 (fun x3 => bd (F_X8_setLeaf x1 3 x3 w2) (fun _ w4 => bd (F_X8_putOnHeap x1 a1 w4) (fun _ w5 => bd (F_X8_ofChild a1 3 w5) (fun x7 w6 => bd (F_X8_setChild a1 3 (x7 + 1) w6) (fun _ w8 => bd (F_X8_heapOf a1 w8) (fun x10 w9 => ald w9 9 0 8 (fun x11 => (if x10 < x11 then bd (F_X8_leavesAt 1 w9) (fun x13 w12 => ald w12 9 0 6 (fun x14 => (if x13 ≤ x14 then ald w12 9 0 6 (fun x15 => ast w12 9 0 6 x15 (fun w16 => some (0, w16))) else ast w12 9 0 6 x13 (fun w17 => some (0, w17))))) else bd (F_X8_doRake a1 w9) (fun x20 w19 => bd (F_X8_leavesAt 1 w19) (fun x22 w21 => ald w21 9 0 6 (fun x23 => (if x22 ≤ x23 then ald w21 9 0 6 (fun x24 => ast w21 9 0 6 x24 (fun w25 => some (x20, w25))) else ast w21 9 0 6 x22 (fun w26 => some (x20, w26))))))))))))))))
def F_X8_doSwap  (a1 : Int32) (a2 : Int32) (a3 : Int32) (w : xWt) : Option (Int32 × xWt) :=
  bd (F_X8_doTake a1 a2 w) (fun x2 w1 => bd (F_X8_doGrow a2 a3 w1) (fun x4 w3 => some (x4, w3)))
def B_X8_leave_49  (rec : Int32 → Int32 → xWt → Option ((Int32) × xWt)) (l1 : Int32) (l2 : Int32) (w : xWt) : Option ((Int32) × xWt) :=
  bd (F_X8_ofChild l2 0 w) (fun x9 w8 => (if x9 = 0 then rec l1 (l2 + 1) w8 else some ((l2), w8)))
def L_X8_leave_49  : Nat → Int32 → Int32 → xWt → Option ((Int32) × xWt)
  | 0 => fun _ _ _ => none
  | n9 + 1 => B_X8_leave_49  (L_X8_leave_49  n9)
def B_X8_leave_74  (rec : Int32 → Int32 → Int32 → Int32 → xWt → Option ((Int32 × Int32) × xWt)) (l1 : Int32) (l2 : Int32) (l3 : Int32) (l4 : Int32) (w : xWt) : Option ((Int32 × Int32) × xWt) :=
  (if l4 < 0 then some ((l3, l4), w) else bd (F_X8_putOnHeap l4 l2 w) (fun _ w15 => bd (F_X8_onHeap l1 0 w15) (fun x17 w16 => rec l1 l2 (l3 + 1) x17 w16)))
def L_X8_leave_74  : Nat → Int32 → Int32 → Int32 → Int32 → xWt → Option ((Int32 × Int32) × xWt)
  | 0 => fun _ _ _ _ _ => none
  | n9 + 1 => B_X8_leave_74  (L_X8_leave_74  n9)
