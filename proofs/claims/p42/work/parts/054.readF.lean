def F_X7_bestRake   (w : xWt) : Option (Int32 × xWt) :=
  bd (F_X6_bestHeap 0 w) (fun x2 w1 => some (x2, w1))
def F_X7_burntShare   (w : xWt) : Option (UInt64 × xWt) :=
  bd (F_X2_numberWhere 0 2 w) (fun x2 w1 => bd (F_X2_numberWhere 0 1 w1) (fun x4 w3 => (if (x2 + x4) = 0 then some (FP.dconst1, w3) else nd (FP.ddiv (FP.i2d x2) (FP.i2d (x2 + x4))) (fun x5 => some (x5, w3)))))
def F_X7_counted  (a1 : Int32) (w : xWt) : Option (Int32 × xWt) :=
  (if a1 = 15 then bd (F_X5_number w) (fun x4 w3 => some (x4, w3)) else bd (F_X6_numberOfAll 0 a1 w) (fun x2 w1 => some (x2, w1)))
def F_X7_fullness   (w : xWt) : Option (UInt32 × xWt) :=
  bd (F_X0_number 0 w) (fun x2 w1 => (if 0 < ((w.2.1 0 1) * x2) then bd (F_X2_numberWhere 0 1 w1) (fun x4 w3 => nf (FP.fdiv (FP.i2f x4) (FP.i2f ((w.2.1 0 1) * x2))) (fun x5 => some (x5, w3))) else some (FP.fconst0, w1)))
def F_X7_ifAllRested   (w : xWt) : Option (Int32 × xWt) :=
  bd (F_X6_burnableIfAllRested 0 w) (fun x2 w1 => some (x2, w1))
def F_X7_isValueOf  (a1 : Int32) (a2 : Int32) (w : xWt) : Option (Int32 × xWt) :=
  (if a1 = 0 then (if a2 < 1 then some (0, w) else (if 20 < a2 then some (0, w) else some (1, w))) else (if a2 = 0 then some (1, w) else (if a2 = 1 then some (1, w) else some (0, w))))
def F_X7_late   (w : xWt) : Option (Int32 × xWt) :=
  bd (F_X0_maskOfLate 0 (w.2.1 0 0) w) (fun x2 w1 => some (x2, w1))
def F_X7_mostHeld   (w : xWt) : Option (Int32 × xWt) :=
  bd (F_X6_mostPinned 0 w) (fun x2 w1 => some (x2, w1))
