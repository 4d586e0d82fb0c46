def F_X7_needBranch  (a1 : Int32) (w : xWt) : Option ((Unit ⊕ String) × xWt) :=
  (if a1 < 0 then some (.inr "java/lang/IndexOutOfBoundsException", w) else (if a1 < 12 then some (.inl (), w) else some (.inr "java/lang/IndexOutOfBoundsException", w)))
def F_X7_branch  (a1 : Int32) (w : xWt) : Option ((Int32 ⊕ String) × xWt) :=
  bx (F_X7_needBranch a1 w) (fun _ w1 => bd (R_X4_get 0 0 a1 w1) (fun x3 w2 => some (.inl x3, w2)))
def F_X7_needChild  (a1 : Int32) (w : xWt) : Option ((Unit ⊕ String) × xWt) :=
  bd (F_X0_isHere 0 a1 w) (fun x2 w1 => (if x2 = 0 then some (.inr "java/lang/IndexOutOfBoundsException", w1) else some (.inl (), w1)))
def F_X7_needWhat  (a1 : Int32) (a2 : Int32) (w : xWt) : Option ((Unit ⊕ String) × xWt) :=
  (if a1 < 0 then some (.inr "java/lang/IllegalArgumentException", w) else (if a1 ≤ a2 then some (.inl (), w) else some (.inr "java/lang/IllegalArgumentException", w)))
def F_X7_child  (a1 : Int32) (a2 : Int32) (w : xWt) : Option ((Int32 ⊕ String) × xWt) :=
  bx (F_X7_needChild a1 w) (fun _ w1 => bx (F_X7_needWhat a2 7 w1) (fun _ w2 => bd (F_X6_numberOfChild 0 a1 a2 w2) (fun x4 w3 => some (.inl x4, w3))))
def F_X7_come   (w : xWt) : Option ((Int32 ⊕ String) × xWt) :=
  bd (F_X0_lowestFree 0 w) (fun x2 w1 => (if x2 = (-1) then some (.inr "java/lang/IllegalStateException", w1) else bd (F_X5_push 0 w1) (fun _ w3 => bd (F_X6_addChild 0 w3) (fun x5 w4 => some (.inl x5, w4)))))
def F_X7_count  (a1 : Int32) (w : xWt) : Option ((Int32 ⊕ String) × xWt) :=
  bx (F_X7_needWhat a1 15 w) (fun _ w1 => bd (F_X7_counted a1 w1) (fun x3 w2 => some (.inl x3, w2)))
def F_X7_enter  (a1 : Int32) (w : xWt) : Option ((Int32 ⊕ String) × xWt) :=
  bx (F_X7_needChild a1 w) (fun _ w1 => bd (F_X6_mayGoIn 0 a1 w1) (fun x3 w2 => (if x3 = 0 then some (.inr "java/lang/IllegalStateException", w2) else bd (F_X5_push 0 w2) (fun _ w4 => bd (F_X6_goIn 0 a1 w4) (fun x6 w5 => some (.inl x6, w5))))))
def F_X7_needColour  (a1 : Int32) (w : xWt) : Option ((Unit ⊕ String) × xWt) :=
  (if a1 < 0 then some (.inr "java/lang/IllegalArgumentException", w) else (if a1 < 10 then some (.inl (), w) else some (.inr "java/lang/IllegalArgumentException", w)))
def F_X7_grow  (a1 : Int32) (a2 : Int32) (w : xWt) : Option ((Int32 ⊕ String) × xWt) :=
  bx (F_X7_needBranch a1 w) (fun _ w1 => bx (F_X7_needColour a2 w1) (fun _ w2 => bd (F_X6_maySprout 0 a1 w2) (fun x4 w3 => (if x4 = 0 then some (.inr "java/lang/IllegalStateException", w3) else bd (F_X5_push 0 w3) (fun _ w5 => bd (F_X2_sprout 0 a1 a2 w5) (fun x7 w6 => some (.inl x7, w6)))))))
def F_X7_heap  (a1 : Int32) (a2 : Int32) (w : xWt) : Option ((Int32 ⊕ String) × xWt) :=
  bx (F_X7_needChild a1 w) (fun _ w1 => (if 0 ≤ a2 then bd (F_X0_leafOnHeap 0 a1 a2 w1) (fun x3 w2 => some (.inl x3, w2)) else some (.inr "java/lang/IllegalArgumentException", w1)))
def F_X7_needHook  (a1 : Int32) (a2 : Int32) (w : xWt) : Option ((Unit ⊕ String) × xWt) :=
  bx (F_X7_needChild a1 w) (fun _ w1 => (if a2 < 0 then some (.inr "java/lang/IndexOutOfBoundsException", w1) else (if a2 < 3 then some (.inl (), w1) else some (.inr "java/lang/IndexOutOfBoundsException", w1))))
def F_X7_hook  (a1 : Int32) (a2 : Int32) (a3 : Int32) (w : xWt) : Option ((Int32 ⊕ String) × xWt) :=
  bx (F_X7_needHook a1 a2 w) (fun _ w1 => bx (F_X7_needWhat a3 2 w1) (fun _ w2 => bd (F_X1_numberOfHook 0 a1 a2 a3 w2) (fun x4 w3 => some (.inl x4, w3))))
def F_X7_ifLoosened  (a1 : Int32) (a2 : Int32) (w : xWt) : Option ((Int32 ⊕ String) × xWt) :=
  bx (F_X7_needHook a1 a2 w) (fun _ w1 => bd (F_X6_freedBy 0 a1 a2 w1) (fun x3 w2 => some (.inl x3, w2)))
def F_X7_ifRaked  (a1 : Int32) (a2 : Int32) (w : xWt) : Option ((Int32 ⊕ String) × xWt) :=
  bx (F_X7_needChild a1 w) (fun _ w1 => (if a2 = 0 then bd (F_X6_burnable 0 a1 a2 (-1) w1) (fun x3 w2 => some (.inl x3, w2)) else (if a2 = 1 then bd (F_X6_burnable 0 a1 a2 (-1) w1) (fun x5 w4 => some (.inl x5, w4)) else some (.inr "java/lang/IllegalArgumentException", w1))))
def F_X7_ifRested  (a1 : Int32) (w : xWt) : Option ((Int32 ⊕ String) × xWt) :=
  bx (F_X7_needChild a1 w) (fun _ w1 => bd (F_X6_burnableIfRested 0 a1 w1) (fun x3 w2 => some (.inl x3, w2)))
def F_X7_needLeaf  (a1 : Int32) (w : xWt) : Option ((Unit ⊕ String) × xWt) :=
  (if a1 < 0 then some (.inr "java/lang/IndexOutOfBoundsException", w) else (if a1 < (w.2.1 0 8) then some (.inl (), w) else some (.inr "java/lang/IndexOutOfBoundsException", w)))
def F_X7_leaf  (a1 : Int32) (a2 : Int32) (w : xWt) : Option ((Int32 ⊕ String) × xWt) :=
  bx (F_X7_needLeaf a1 w) (fun _ w1 => bx (F_X7_needWhat a2 7 w1) (fun _ w2 => bd (F_X6_numberOfLeaf 0 a1 a2 w2) (fun x4 w3 => some (.inl x4, w3))))
def F_X7_leave  (a1 : Int32) (w : xWt) : Option ((Int32 ⊕ String) × xWt) :=
  bx (F_X7_needChild a1 w) (fun _ w1 => bd (F_X0_number 0 w1) (fun x3 w2 => (if 1 < x3 then bd (F_X5_push 0 w2) (fun _ w4 => bd (F_X6_removeChild 0 a1 w4) (fun x6 w5 => some (.inl x6, w5))) else some (.inr "java/lang/IllegalStateException", w2))))
def F_X7_look  (a1 : Int32) (a2 : Int32) (w : xWt) : Option ((Int32 ⊕ String) × xWt) :=
  bx (F_X7_needHook a1 a2 w) (fun _ w1 => bd (F_X6_mayRelease 0 a1 a2 w1) (fun x3 w2 => (if x3 = 0 then some (.inr "java/lang/IllegalStateException", w2) else bd (F_X5_push 0 w2) (fun _ w4 => bd (F_X6_lookThrough 0 a1 a2 w4) (fun x6 w5 => some (.inl x6, w5))))))
def F_X7_loosen  (a1 : Int32) (a2 : Int32) (w : xWt) : Option ((Int32 ⊕ String) × xWt) :=
  bx (F_X7_needHook a1 a2 w) (fun _ w1 => bd (F_X6_mayRelease 0 a1 a2 w1) (fun x3 w2 => (if x3 = 0 then some (.inr "java/lang/IllegalStateException", w2) else bd (F_X5_push 0 w2) (fun _ w4 => bd (F_X6_release 0 a1 a2 w4) (fun x6 w5 => some (.inl x6, w5))))))
def F_X7_needSetting  (a1 : Int32) (w : xWt) : Option ((Unit ⊕ String) × xWt) :=
  (if a1 < 0 then some (.inr "java/lang/IndexOutOfBoundsException", w) else (if a1 < 2 then some (.inl (), w) else some (.inr "java/lang/IndexOutOfBoundsException", w)))
def F_X7_note  (a1 : Int32) (a2 : Int32) (a3 : Int32) (w : xWt) : Option ((Int32 ⊕ String) × xWt) :=
  bx (F_X7_needHook a1 a2 w) (fun _ w1 => bx (F_X7_needBranch a3 w1) (fun _ w2 => bd (F_X6_mayWrite 0 a1 a2 a3 w2) (fun x4 w3 => (if x4 = 0 then some (.inr "java/lang/IllegalStateException", w3) else bd (F_X5_push 0 w3) (fun _ w5 => bd (F_X6_write 0 a1 a2 a3 w5) (fun x7 w6 => some (.inl x7, w6)))))))
def F_X7_pin  (a1 : Int32) (a2 : Int32) (w : xWt) : Option ((Int32 ⊕ String) × xWt) :=
  bx (F_X7_needHook a1 a2 w) (fun _ w1 => bd (F_X6_mayFasten 0 a1 a2 w1) (fun x3 w2 => (if x3 = 0 then some (.inr "java/lang/IllegalStateException", w2) else bd (F_X5_push 0 w2) (fun _ w4 => bd (F_X6_fasten 0 a1 a2 w4) (fun x6 w5 => some (.inl x6, w5))))))
def F_X7_rake  (a1 : Int32) (w : xWt) : Option ((Int32 ⊕ String) × xWt) :=
  bx (F_X7_needChild a1 w) (fun _ w1 => bd (F_X6_mayClear 0 a1 w1) (fun x3 w2 => (if x3 = 0 then some (.inr "java/lang/IllegalStateException", w2) else bd (F_X5_push 0 w2) (fun _ w4 => bd (F_X6_clear 0 a1 w4) (fun x6 w5 => some (.inl x6, w5))))))
def F_X7_rest  (a1 : Int32) (w : xWt) : Option ((Int32 ⊕ String) × xWt) :=
  bx (F_X7_needChild a1 w) (fun _ w1 => bd (F_X6_mayLieDown 0 a1 w1) (fun x3 w2 => (if x3 = 0 then some (.inr "java/lang/IllegalStateException", w2) else bd (F_X5_push 0 w2) (fun _ w4 => bd (F_X6_lieDown 0 a1 w4) (fun x6 w5 => some (.inl x6, w5))))))
def F_X7_ring   (w : xWt) : Option ((Int32 ⊕ String) × xWt) :=
  bd (F_X6_mayStrike 0 w) (fun x2 w1 => (if x2 = 0 then some (.inr "java/lang/IllegalStateException", w1) else bd (F_X5_push 0 w1) (fun _ w3 => bd (F_X6_strike 0 w3) (fun x5 w4 => some (.inl x5, w4)))))
def F_X7_set  (a1 : Int32) (a2 : Int32) (w : xWt) : Option ((Int32 ⊕ String) × xWt) :=
  bx (F_X7_needSetting a1 w) (fun _ w1 => bd (F_X7_isValueOf a1 a2 w1) (fun x3 w2 => (if x3 = 0 then some (.inr "java/lang/IllegalArgumentException", w2) else bd (F_X5_push 0 w2) (fun _ w4 => bd (F_X6_change 0 a1 a2 w4) (fun x6 w5 => some (.inl x6, w5))))))
def F_X7_setting  (a1 : Int32) (w : xWt) : Option ((Int32 ⊕ String) × xWt) :=
  bx (F_X7_needSetting a1 w) (fun _ w1 => bd (F_X6_valueOf 0 a1 w1) (fun x3 w2 => some (.inl x3, w2)))
def F_X7_swap  (a1 : Int32) (a2 : Int32) (a3 : Int32) (w : xWt) : Option ((Int32 ⊕ String) × xWt) :=
  bx (F_X7_needChild a1 w) (fun _ w1 => bx (F_X7_needBranch a2 w1) (fun _ w2 => bx (F_X7_needColour a3 w2) (fun _ w3 => bd (F_X6_mayExchange 0 a1 a2 w3) (fun x5 w4 => (if x5 = 0 then some (.inr "java/lang/IllegalStateException", w4) else bd (F_X5_push 0 w4) (fun _ w6 => bd (F_X6_exchange 0 a1 a2 a3 w6) (fun x8 w7 => some (.inl x8, w7))))))))
def F_X7_take  (a1 : Int32) (a2 : Int32) (w : xWt) : Option ((Int32 ⊕ String) × xWt) :=
  bx (F_X7_needChild a1 w) (fun _ w1 => bx (F_X7_needBranch a2 w1) (fun _ w2 => bd (F_X6_mayTakeOff 0 a1 a2 w2) (fun x4 w3 => (if x4 = 0 then some (.inr "java/lang/IllegalStateException", w3) else bd (F_X5_push 0 w3) (fun _ w5 => bd (F_X6_takeOff 0 a1 a2 w5) (fun x7 w6 => some (.inl x7, w6)))))))
def F_X7_undo   (w : xWt) : Option ((Int32 ⊕ String) × xWt) :=
  bd (F_X5_number w) (fun x2 w1 => (if x2 = 0 then some (.inr "java/lang/IllegalStateException", w1) else bd (F_X5_popInto 0 w1) (fun _ w3 => bd (F_X5_number w3) (fun x5 w4 => some (.inl x5, w4)))))
def F_X7_why  (a1 : Int32) (w : xWt) : Option ((Int32 ⊕ String) × xWt) :=
  bx (F_X7_needLeaf a1 w) (fun _ w1 => bd (F_X6_whyNotBurnt 0 a1 w1) (fun x3 w2 => some (.inl x3, w2)))
