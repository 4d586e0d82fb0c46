def F_X4_copyFrom (k : Nat) (r : Nat) (k2 : Nat) (r2 : Nat)  (w : xWt) : Option (Unit × xWt) :=
  acp w k2 r2 0 k r 0 (if (Int32.ofNat (rl k2 r2)) < (Int32.ofNat (rl k r)) then (Int32.ofNat (rl k2 r2)) else (Int32.ofNat (rl k r))) (fun w1 => some ((), w1))
def F_X0_copyFrom (k : Nat) (k2 : Nat)  (w : xWt) : Option (Unit × xWt) :=
  bd (F_X4_copyFrom k 6 k2 6 w) (fun _ w1 => bd (F_X4_copyFrom k 7 k2 7 w1) (fun _ w2 => bd (F_X4_copyFrom k 8 k2 8 w2) (fun _ w3 => bd (F_X4_copyFrom k 9 k2 9 w3) (fun _ w4 => bd (F_X4_copyFrom k 10 k2 10 w4) (fun _ w5 => bd (F_X4_copyFrom k 11 k2 11 w5) (fun _ w6 => bd (F_X4_copyFrom k 12 k2 12 w6) (fun _ w7 => some ((), w7))))))))
def F_X4_put (n : Nat) (a1 : Int32) (a2 : Int32) (w : (Nat → Int32)) : Option (Unit × (Nat → Int32)) :=
  (if a1 < 0 then some ((), w) else (if (Int32.ofNat n) ≤ a1 then some ((), w) else lst w n a1 a2 (fun w1 => some ((), w1))))
def R_X4_put (k r : Nat) (a1 : Int32) (a2 : Int32) (w : xWt) : Option (Unit × xWt) := liftR w k r (F_X4_put (rl k r) a1 a2 (w.1 k r))
def F_X0_emptyPlace (k : Nat) (a1 : Int32) (w : xWt) : Option (Unit × xWt) :=
  bd (R_X4_put k 6 a1 0 w) (fun _ w1 => bd (R_X4_put k 7 a1 (-1) w1) (fun _ w2 => bd (R_X4_put k 11 a1 0 w2) (fun _ w3 => some ((), w3))))
def F_X0_fillPlace (k : Nat) (a1 : Int32) (w : xWt) : Option (Unit × xWt) :=
  bd (R_X4_put k 6 a1 1 w) (fun _ w1 => bd (R_X4_put k 8 a1 0 w1) (fun _ w2 => bd (R_X4_put k 9 a1 0 w2) (fun _ w3 => bd (R_X4_put k 10 a1 0 w3) (fun _ w4 => some ((), w4)))))
def F_X4_get (n : Nat) (a1 : Int32) (w : (Nat → Int32)) : Option (Int32 × (Nat → Int32)) :=
  (if a1 < 0 then some ((-1), w) else (if (Int32.ofNat n) ≤ a1 then some ((-1), w) else lld w n a1 (fun x1 => some (x1, w))))
def R_X4_get (k r : Nat) (a1 : Int32) (w : xWt) : Option (Int32 × xWt) := liftR w k r (F_X4_get (rl k r) a1 (w.1 k r))
def F_X0_isHere (k : Nat) (a1 : Int32) (w : xWt) : Option (Int32 × xWt) :=
  bd (R_X4_get k 6 a1 w) (fun x2 w1 => (if x2 = 1 then some (1, w1) else some (0, w1)))
def F_X0_isInYard (k : Nat) (a1 : Int32) (w : xWt) : Option (Int32 × xWt) :=
  bd (R_X4_get k 7 a1 w) (fun x2 w1 => (if x2 = (-1) then some (0, w1) else some (1, w1)))
def F_X0_leafOnHeap (k : Nat) (a1 : Int32) (a2 : Int32) (w : xWt) : Option (Int32 × xWt) :=
  (if a2 < 0 then some ((-1), w) else bd (R_X4_get k 11 a1 w) (fun x5 w4 => (if x5 ≤ a2 then some ((-1), w4) else bd (R_X4_get k 12 ((a1 * 120) + a2) w4) (fun x10 w9 => some (x10, w9)))))
def B_X0_lowestBesides_2 (k : Nat) (rec : Int32 → Int32 → xWt → Option (((Int32) ⊕ Int32) × xWt)) (l1 : Int32) (l2 : Int32) (w : xWt) : Option (((Int32) ⊕ Int32) × xWt) :=
  (if 5 ≤ l2 then some (.inl (l2), w) else (if l2 = l1 then rec l1 (l2 + 1) w else bd (F_X0_isHere k l2 w) (fun x2 w1 => (if x2 = 0 then rec l1 (l2 + 1) w1 else some (.inr l2, w1)))))
def L_X0_lowestBesides_2 (k : Nat) : Nat → Int32 → Int32 → xWt → Option (((Int32) ⊕ Int32) × xWt)
  | 0 => fun _ _ _ => none
  | n9 + 1 => B_X0_lowestBesides_2 k (L_X0_lowestBesides_2 k n9)
def F_X0_lowestBesides (k : Nat) (a1 : Int32) (w : xWt) : Option (Int32 × xWt) :=
  bd (L_X0_lowestBesides_2 k 9999 a1 0 w) (fun o6 w7 => sm o6 (fun x8 => some ((-1), w7)) (fun y9 => some (y9, w7)))
def B_X0_lowestFree_2 (k : Nat) (rec : Int32 → xWt → Option (((Int32) ⊕ Int32) × xWt)) (l1 : Int32) (w : xWt) : Option (((Int32) ⊕ Int32) × xWt) :=
  (if 5 ≤ l1 then some (.inl (l1), w) else bd (F_X0_isHere k l1 w) (fun x2 w1 => (if x2 = 0 then some (.inr l1, w1) else rec (l1 + 1) w1)))
def L_X0_lowestFree_2 (k : Nat) : Nat → Int32 → xWt → Option (((Int32) ⊕ Int32) × xWt)
  | 0 => fun _ _ => none
  | n9 + 1 => B_X0_lowestFree_2 k (L_X0_lowestFree_2 k n9)
def F_X0_lowestFree (k : Nat)  (w : xWt) : Option (Int32 × xWt) :=
  bd (L_X0_lowestFree_2 k 9999 0 w) (fun o5 w6 => sm o5 (fun x7 => some ((-1), w6)) (fun y8 => some (y8, w6)))
def B_X0_mask_4 (k : Nat) (rec : Int32 → Int32 → xWt → Option ((Int32 × Int32) × xWt)) (l1 : Int32) (l2 : Int32) (w : xWt) : Option ((Int32 × Int32) × xWt) :=
  (if 5 ≤ l2 then some ((l1, l2), w) else bd (F_X0_isHere k l2 w) (fun x2 w1 => (if x2 = 0 then rec (l1 ||| 0) (l2 + 1) w1 else rec (l1 ||| (1 <<< (l2 &&& 31))) (l2 + 1) w1)))
def L_X0_mask_4 (k : Nat) : Nat → Int32 → Int32 → xWt → Option ((Int32 × Int32) × xWt)
  | 0 => fun _ _ _ => none
  | n9 + 1 => B_X0_mask_4 k (L_X0_mask_4 k n9)
def F_X0_mask (k : Nat)  (w : xWt) : Option (Int32 × xWt) :=
  bd (L_X0_mask_4 k 9999 0 0 w) (fun o5 w6 => some (o5.1, w6))
def B_X0_maskOfLate_4 (k : Nat) (rec : Int32 → Int32 → Int32 → xWt → Option ((Int32 × Int32) × xWt)) (l1 : Int32) (l2 : Int32) (l3 : Int32) (w : xWt) : Option ((Int32 × Int32) × xWt) :=
  (if 5 ≤ l3 then some ((l2, l3), w) else bd (F_X0_isInYard k l3 w) (fun x2 w1 => (if x2 = 0 then rec l1 (l2 ||| 0) (l3 + 1) w1 else bd (R_X4_get k 7 l3 w1) (fun x4 w3 => (if x4 = l1 then rec l1 (l2 ||| 0) (l3 + 1) w3 else rec l1 (l2 ||| (1 <<< (l3 &&& 31))) (l3 + 1) w3)))))
def L_X0_maskOfLate_4 (k : Nat) : Nat → Int32 → Int32 → Int32 → xWt → Option ((Int32 × Int32) × xWt)
  | 0 => fun _ _ _ _ => none
  | n9 + 1 => B_X0_maskOfLate_4 k (L_X0_maskOfLate_4 k n9)
def F_X0_maskOfLate (k : Nat) (a1 : Int32) (w : xWt) : Option (Int32 × xWt) :=
  bd (L_X0_maskOfLate_4 k 9999 a1 0 0 w) (fun o8 w9 => some (o8.1, w9))
def B_X4_number_14 (n : Nat) (rec : Int32 → Int32 → Int32 → Int32 → Int32 → (Nat → Int32) → Option ((Int32 × Int32) × (Nat → Int32))) (l1 : Int32) (l2 : Int32) (l3 : Int32) (l4 : Int32) (l5 : Int32) (w : (Nat → Int32)) : Option ((Int32 × Int32) × (Nat → Int32)) :=
  (if l3 ≤ l5 then some ((l4, l5), w) else (if (Int32.ofNat n) ≤ l5 then some ((l4, l5), w) else lld w n l5 (fun x1 => (if x1 = l1 then rec l1 l2 l3 (l4 + 1) (l5 + 1) w else rec l1 l2 l3 (l4 + 0) (l5 + 1) w))))
def L_X4_number_14 (n : Nat) : Nat → Int32 → Int32 → Int32 → Int32 → Int32 → (Nat → Int32) → Option ((Int32 × Int32) × (Nat → Int32))
  | 0 => fun _ _ _ _ _ _ => none
  | n9 + 1 => B_X4_number_14 n (L_X4_number_14 n n9)
def F_X4_number (n : Nat) (a1 : Int32) (a2 : Int32) (a3 : Int32) (w : (Nat → Int32)) : Option (Int32 × (Nat → Int32)) :=
  (if 0 ≤ a2 then lbd (L_X4_number_14 n 9999 a1 a2 a3 0 a2 w) (fun o5 w6 => some (o5.1, w6)) else lbd (L_X4_number_14 n 9999 a1 a2 a3 0 0 w) (fun o7 w8 => some (o7.1, w8)))
def R_X4_number (k r : Nat) (a1 : Int32) (a2 : Int32) (a3 : Int32) (w : xWt) : Option (Int32 × xWt) := liftR w k r (F_X4_number (rl k r) a1 a2 a3 (w.1 k r))
def F_X0_number (k : Nat)  (w : xWt) : Option (Int32 × xWt) :=
  bd (R_X4_number k 6 1 0 5 w) (fun x2 w1 => some (x2, w1))
def F_X0_numberInYard (k : Nat)  (w : xWt) : Option (Int32 × xWt) :=
  bd (R_X4_number k 7 (-1) 0 5 w) (fun x2 w1 => some ((5 - x2), w1))
def F_X4_add (n : Nat) (a1 : Int32) (a2 : Int32) (w : (Nat → Int32)) : Option (Unit × (Nat → Int32)) :=
  lbd (F_X4_get n a1 w) (fun x2 w1 => lbd (F_X4_put n a1 (x2 + a2) w1) (fun _ w3 => some ((), w3)))
def R_X4_add (k r : Nat) (a1 : Int32) (a2 : Int32) (w : xWt) : Option (Unit × xWt) := liftR w k r (F_X4_add (rl k r) a1 a2 (w.1 k r))
def F_X0_putOnHeap (k : Nat) (a1 : Int32) (a2 : Int32) (w : xWt) : Option (Unit × xWt) :=
  bd (R_X4_get k 11 a1 w) (fun x2 w1 => bd (R_X4_put k 12 ((a1 * 120) + x2) a2 w1) (fun _ w3 => bd (R_X4_add k 11 a1 1 w3) (fun _ w4 => some ((), w4))))
def F_X1_firstOf  (a1 : Int32) (w : xWt) : Option (Int32 × xWt) :=
  some ((a1 * 3), w)
def F_X1_branchOf (k : Nat) (a1 : Int32) (a2 : Int32) (w : xWt) : Option (Int32 × xWt) :=
  bd (F_X1_firstOf a1 w) (fun x2 w1 => bd (R_X4_get k 15 (x2 + a2) w1) (fun x4 w3 => some (x4, w3)))
def F_X1_copyFrom (k : Nat) (k2 : Nat)  (w : xWt) : Option (Unit × xWt) :=
  bd (F_X4_copyFrom k 13 k2 13 w) (fun _ w1 => bd (F_X4_copyFrom k 14 k2 14 w1) (fun _ w2 => bd (F_X4_copyFrom k 15 k2 15 w2) (fun _ w3 => some ((), w3))))
def F_X1_fasten (k : Nat) (a1 : Int32) (a2 : Int32) (w : xWt) : Option (Unit × xWt) :=
  bd (F_X1_firstOf a1 w) (fun x2 w1 => bd (R_X4_get k 14 (x2 + a2) w1) (fun x4 w3 => bd (R_X4_put k 13 (x2 + a2) x4 w3) (fun _ w5 => bd (R_X4_put k 14 (x2 + a2) (-1) w5) (fun _ w6 => bd (R_X4_put k 15 (x2 + a2) (-1) w6) (fun _ w7 => some ((), w7))))))
def F_X1_kindOf (k : Nat) (a1 : Int32) (a2 : Int32) (w : xWt) : Option (Int32 × xWt) :=
  bd (F_X1_firstOf a1 w) (fun x2 w1 => bd (R_X4_get k 13 (x2 + a2) w1) (fun x4 w3 => (if x4 = (-1) then bd (R_X4_get k 14 (x2 + a2) w3) (fun x6 w5 => (if x6 = (-1) then some (0, w5) else some (1, w5))) else some (2, w3))))
def F_X1_leafOf (k : Nat) (a1 : Int32) (a2 : Int32) (w : xWt) : Option (Int32 × xWt) :=
  bd (F_X1_firstOf a1 w) (fun x2 w1 => bd (R_X4_get k 13 (x2 + a2) w1) (fun x4 w3 => (if x4 = (-1) then bd (R_X4_get k 14 (x2 + a2) w3) (fun x6 w5 => some (x6, w5)) else bd (R_X4_get k 13 (x2 + a2) w3) (fun x8 w7 => some (x8, w7)))))
def F_X1_pinsOnBy (k : Nat) (a1 : Int32) (a2 : Int32) (w : xWt) : Option (Int32 × xWt) :=
  bd (F_X1_firstOf a1 w) (fun x2 w1 => bd (F_X1_firstOf a1 w1) (fun x4 w3 => bd (R_X4_number k 13 a2 x2 (x4 + 3) w3) (fun x6 w5 => some (x6, w5))))
def B_X1_maskOfHolders_4 (k : Nat) (rec : Int32 → Int32 → Int32 → xWt → Option ((Int32 × Int32) × xWt)) (l1 : Int32) (l2 : Int32) (l3 : Int32) (w : xWt) : Option ((Int32 × Int32) × xWt) :=
  (if 5 ≤ l3 then some ((l2, l3), w) else bd (F_X1_pinsOnBy k l3 l1 w) (fun x2 w1 => (if x2 ≤ 0 then rec l1 (l2 ||| 0) (l3 + 1) w1 else rec l1 (l2 ||| (1 <<< (l3 &&& 31))) (l3 + 1) w1)))
def L_X1_maskOfHolders_4 (k : Nat) : Nat → Int32 → Int32 → Int32 → xWt → Option ((Int32 × Int32) × xWt)
  | 0 => fun _ _ _ _ => none
  | n9 + 1 => B_X1_maskOfHolders_4 k (L_X1_maskOfHolders_4 k n9)
def F_X1_maskOfHolders (k : Nat) (a1 : Int32) (w : xWt) : Option (Int32 × xWt) :=
  bd (L_X1_maskOfHolders_4 k 9999 a1 0 0 w) (fun o5 w6 => some (o5.1, w6))
def F_X1_notes (k : Nat)  (w : xWt) : Option (Int32 × xWt) :=
  bd (R_X4_number k 14 (-1) 0 15 w) (fun x2 w1 => some ((15 - x2), w1))
def F_X1_notesOfChild (k : Nat) (a1 : Int32) (w : xWt) : Option (Int32 × xWt) :=
  bd (F_X1_firstOf a1 w) (fun x2 w1 => bd (F_X1_firstOf a1 w1) (fun x4 w3 => bd (R_X4_number k 14 (-1) x2 (x4 + 3) w3) (fun x6 w5 => some ((3 - x6), w5))))
def F_X1_notesOn (k : Nat) (a1 : Int32) (w : xWt) : Option (Int32 × xWt) :=
  bd (R_X4_number k 14 a1 0 15 w) (fun x2 w1 => some (x2, w1))
def F_X1_numberOfHook (k : Nat) (a1 : Int32) (a2 : Int32) (a3 : Int32) (w : xWt) : Option (Int32 × xWt) :=
  (if (a3).toInt = 0 then bd (F_X1_kindOf k a1 a2 w) (fun x8 w7 => some (x8, w7)) else (if (a3).toInt = 1 then bd (F_X1_leafOf k a1 a2 w) (fun x6 w5 => some (x6, w5)) else bd (F_X1_branchOf k a1 a2 w) (fun x2 w1 => some (x2, w1))))
def F_X1_pins (k : Nat)  (w : xWt) : Option (Int32 × xWt) :=
  bd (R_X4_number k 13 (-1) 0 15 w) (fun x2 w1 => some ((15 - x2), w1))
def F_X1_pinsOfChild (k : Nat) (a1 : Int32) (w : xWt) : Option (Int32 × xWt) :=
  bd (F_X1_firstOf a1 w) (fun x2 w1 => bd (F_X1_firstOf a1 w1) (fun x4 w3 => bd (R_X4_number k 13 (-1) x2 (x4 + 3) w3) (fun x6 w5 => some ((3 - x6), w5))))
def F_X1_pinsOn (k : Nat) (a1 : Int32) (w : xWt) : Option (Int32 × xWt) :=
  bd (R_X4_number k 13 a1 0 15 w) (fun x2 w1 => some (x2, w1))
def F_X1_release (k : Nat) (a1 : Int32) (a2 : Int32) (w : xWt) : Option (Unit × xWt) :=
  bd (F_X1_firstOf a1 w) (fun x2 w1 => bd (R_X4_put k 13 (x2 + a2) (-1) w1) (fun _ w3 => bd (R_X4_put k 14 (x2 + a2) (-1) w3) (fun _ w4 => bd (R_X4_put k 15 (x2 + a2) (-1) w4) (fun _ w5 => some ((), w5)))))
def B_X1_releaseAll_2 (k : Nat) (rec : Int32 → Int32 → xWt → Option ((Int32) × xWt)) (l1 : Int32) (l2 : Int32) (w : xWt) : Option ((Int32) × xWt) :=
  (if 3 ≤ l2 then some ((l2), w) else bd (F_X1_release k l1 l2 w) (fun _ w1 => rec l1 (l2 + 1) w1))
def L_X1_releaseAll_2 (k : Nat) : Nat → Int32 → Int32 → xWt → Option ((Int32) × xWt)
  | 0 => fun _ _ _ => none
  | n9 + 1 => B_X1_releaseAll_2 k (L_X1_releaseAll_2 k n9)
def F_X1_releaseAll (k : Nat) (a1 : Int32) (w : xWt) : Option (Unit × xWt) :=
  bd (L_X1_releaseAll_2 k 9999 a1 0 w) (fun o3 w4 => some ((), w4))
def F_X1_write (k : Nat) (a1 : Int32) (a2 : Int32) (a3 : Int32) (a4 : Int32) (w : xWt) : Option (Unit × xWt) :=
  bd (F_X1_firstOf a1 w) (fun x2 w1 => bd (R_X4_put k 14 (x2 + a2) a3 w1) (fun _ w3 => bd (R_X4_put k 15 (x2 + a2) a4 w3) (fun _ w4 => some ((), w4))))
def F_X2_burn (k : Nat) (a1 : Int32) (w : xWt) : Option (Unit × xWt) :=
  bd (R_X4_put k 2 a1 2 w) (fun _ w1 => bd (R_X4_put k 5 a1 (-1) w1) (fun _ w2 => some ((), w2)))
def F_X2_copyFrom (k : Nat) (k2 : Nat)  (w : xWt) : Option (Unit × xWt) :=
  lw (sF w k 8 (w.2.1 k2 8)) (fun w1 => bd (F_X4_copyFrom k 0 k2 0 w1) (fun _ w2 => bd (F_X4_copyFrom k 1 k2 1 w2) (fun _ w3 => bd (F_X4_copyFrom k 2 k2 2 w3) (fun _ w4 => bd (F_X4_copyFrom k 3 k2 3 w4) (fun _ w5 => bd (F_X4_copyFrom k 4 k2 4 w5) (fun _ w6 => bd (F_X4_copyFrom k 5 k2 5 w6) (fun _ w7 => some ((), w7))))))))
def F_X2_numberWhere (k : Nat) (a1 : Int32) (w : xWt) : Option (Int32 × xWt) :=
  bd (R_X4_number k 2 a1 0 (w.2.1 k 8) w) (fun x2 w1 => some (x2, w1))
def F_X2_putAside (k : Nat) (a1 : Int32) (a2 : Int32) (a3 : Int32) (w : xWt) : Option (Unit × xWt) :=
  bd (R_X4_get k 3 a1 w) (fun x2 w1 => bd (R_X4_put k 0 x2 (-1) w1) (fun _ w3 => bd (R_X4_put k 2 a1 1 w3) (fun _ w4 => bd (R_X4_put k 4 a1 a3 w4) (fun _ w5 => bd (R_X4_put k 5 a1 a2 w5) (fun _ w6 => some ((), w6))))))
def F_X2_sprout (k : Nat) (a1 : Int32) (a2 : Int32) (w : xWt) : Option (Int32 × xWt) :=
  lw (sF w k 8 ((w.2.1 k 8) + 1)) (fun w1 => bd (R_X4_put k 0 a1 (w.2.1 k 8) w1) (fun _ w2 => bd (R_X4_put k 1 (w.2.1 k 8) a2 w2) (fun _ w3 => bd (R_X4_put k 2 (w.2.1 k 8) 0 w3) (fun _ w4 => bd (R_X4_put k 3 (w.2.1 k 8) a1 w4) (fun _ w5 => bd (R_X4_put k 4 (w.2.1 k 8) (-1) w5) (fun _ w6 => bd (R_X4_put k 5 (w.2.1 k 8) (-1) w6) (fun _ w7 => some ((w.2.1 k 8), w7))))))))
def B_X4_fill_2 (n : Nat) (rec : Int32 → Int32 → (Nat → Int32) → Option ((Int32) × (Nat → Int32))) (l1 : Int32) (l2 : Int32) (w : (Nat → Int32)) : Option ((Int32) × (Nat → Int32)) :=
  (if (Int32.ofNat n) ≤ l2 then some ((l2), w) else lst w n l2 l1 (fun w1 => rec l1 (l2 + 1) w1))
def L_X4_fill_2 (n : Nat) : Nat → Int32 → Int32 → (Nat → Int32) → Option ((Int32) × (Nat → Int32))
  | 0 => fun _ _ _ => none
  | n9 + 1 => B_X4_fill_2 n (L_X4_fill_2 n n9)
def F_X4_fill (n : Nat) (a1 : Int32) (w : (Nat → Int32)) : Option (Unit × (Nat → Int32)) :=
  lbd (L_X4_fill_2 n 9999 a1 0 w) (fun o3 w4 => some ((), w4))
def R_X4_fill (k r : Nat) (a1 : Int32) (w : xWt) : Option (Unit × xWt) := liftR w k r (F_X4_fill (rl k r) a1 (w.1 k r))
def F_X5_number   (w : xWt) : Option (Int32 × xWt) :=
  some ((w.2.1 8 2), w)
def F_X5_placeAt  (a1 : Int32) (w : xWt) : Option ((Option Nat) × xWt) :=
  (if a1 < 0 then some (none, w) else (if 6 ≤ a1 then some (none, w) else yld a1 (fun k1 => some ((some k1), w))))
def F_X6_copyFrom (k : Nat) (k2 : Nat)  (w : xWt) : Option (Unit × xWt) :=
  lw (sF w k 0 (w.2.1 k2 0)) (fun w1 => lw (sF w1 k 1 (w1.2.1 k2 1)) (fun w2 => lw (sF w2 k 2 (w2.2.1 k2 2)) (fun w3 => lw (sF w3 k 3 (w3.2.1 k2 3)) (fun w4 => lw (sF w4 k 4 (w4.2.1 k2 4)) (fun w5 => lw (sF w5 k 5 (w5.2.1 k2 5)) (fun w6 => lw (sF w6 k 6 (w6.2.1 k2 6)) (fun w7 => lw (sF w7 k 7 (w7.2.1 k2 7)) (fun w8 => bd (F_X2_copyFrom k k2 w8) (fun _ w9 => bd (F_X0_copyFrom k k2 w9) (fun _ w10 => bd (F_X1_copyFrom k k2 w10) (fun _ w11 => some ((), w11))))))))))))
def F_X5_popInto (k2 : Nat)  (w : xWt) : Option (Unit × xWt) :=
  (if (w.2.1 8 1) ≤ 0 then bd (F_X5_placeAt 5 w) (fun x2 w1 => oy x2 ((if (w1.2.1 8 2) ≤ 0 then some ((), w1) else some ((), w1))) (fun k3 => (if (w1.2.1 8 2) ≤ 0 then some ((), w1) else bd (F_X6_copyFrom k2 k3 w1) (fun _ w5 => lw (sF w5 8 1 5) (fun w6 => lw (sF w6 8 2 ((w6.2.1 8 2) - 1)) (fun w7 => some ((), w7))))))) else bd (F_X5_placeAt ((w.2.1 8 1) - 1) w) (fun x10 w9 => oy x10 ((if (w9.2.1 8 2) ≤ 0 then some ((), w9) else some ((), w9))) (fun k11 => (if (w9.2.1 8 2) ≤ 0 then some ((), w9) else bd (F_X6_copyFrom k2 k11 w9) (fun _ w13 => lw (sF w13 8 1 ((w.2.1 8 1) - 1)) (fun w14 => lw (sF w14 8 2 ((w14.2.1 8 2) - 1)) (fun w15 => some ((), w15))))))))
def F_X5_push (k2 : Nat)  (w : xWt) : Option (Unit × xWt) :=
  bd (F_X5_placeAt (w.2.1 8 1) w) (fun x2 w1 => oy x2 (some ((), w1)) (fun k3 => bd (F_X6_copyFrom k3 k2 w1) (fun _ w4 => (if 6 ≤ ((w4.2.1 8 1) + 1) then lw (sF w4 8 1 0) (fun w5 => lw (sF w5 8 2 (if 6 < ((w5.2.1 8 2) + 1) then 6 else ((w5.2.1 8 2) + 1))) (fun w6 => some ((), w6))) else lw (sF w4 8 1 ((w4.2.1 8 1) + 1)) (fun w7 => lw (sF w7 8 2 (if 6 < ((w7.2.1 8 2) + 1) then 6 else ((w7.2.1 8 2) + 1))) (fun w8 => some ((), w8)))))))
def F_X6_addChild (k : Nat)  (w : xWt) : Option (Int32 × xWt) :=
  bd (F_X0_lowestFree k w) (fun x2 w1 => bd (F_X0_fillPlace k x2 w1) (fun _ w3 => some (x2, w3)))
def F_X6_mayBurn (k : Nat) (a1 : Int32) (a2 : Int32) (a3 : Int32) (w : xWt) : Option (Int32 × xWt) :=
  (if a2 = 1 then bd (R_X4_get k 4 a1 w) (fun x13 w12 => (if ((w.2.1 k 0) - x13) < 2 then some (0, w12) else some (1, w12))) else bd (F_X1_firstOf a3 w) (fun x2 w1 => (if a3 = (-1) then bd (R_X4_number k 13 a1 0 15 w1) (fun x9 w8 => (if x9 = 0 then some (1, w8) else some (0, w8))) else bd (R_X4_number k 13 a1 x2 (x2 + 3) w1) (fun x4 w3 => bd (R_X4_number k 13 a1 0 15 w3) (fun x6 w5 => (if x6 = x4 then some (1, w5) else some (0, w5)))))))
def B_X6_burnable_19 (k : Nat) (rec : Int32 → Int32 → Int32 → Int32 → Int32 → Int32 → xWt → Option ((Int32 × Int32) × xWt)) (l1 : Int32) (l2 : Int32) (l3 : Int32) (l4 : Int32) (l5 : Int32) (l6 : Int32) (w : xWt) : Option ((Int32 × Int32) × xWt) :=
  (if l4 ≤ l6 then some ((l5, l6), w) else bd (F_X0_leafOnHeap k l1 l6 w) (fun x4 w3 => bd (F_X6_mayBurn k x4 l2 l3 w3) (fun x6 w5 => (if x6 = 0 then rec l1 l2 l3 l4 (l5 + 0) (l6 + 1) w5 else rec l1 l2 l3 l4 (l5 + 1) (l6 + 1) w5))))
def L_X6_burnable_19 (k : Nat) : Nat → Int32 → Int32 → Int32 → Int32 → Int32 → Int32 → xWt → Option ((Int32 × Int32) × xWt)
  | 0 => fun _ _ _ _ _ _ _ => none
  | n9 + 1 => B_X6_burnable_19 k (L_X6_burnable_19 k n9)
def F_X6_burnable (k : Nat) (a1 : Int32) (a2 : Int32) (a3 : Int32) (w : xWt) : Option (Int32 × xWt) :=
  bd (R_X4_get k 11 a1 w) (fun x2 w1 => bd (L_X6_burnable_19 k 9999 a1 a2 a3 x2 0 0 w1) (fun o9 w10 => some (o9.1, w10)))
def B_X6_bestHeap_6 (k : Nat) (rec : Int32 → Int32 → Int32 → xWt → Option ((Int32 × Int32 × Int32) × xWt)) (l1 : Int32) (l2 : Int32) (l3 : Int32) (w : xWt) : Option ((Int32 × Int32 × Int32) × xWt) :=
  (if 5 ≤ l3 then some ((l1, l2, l3), w) else bd (F_X6_burnable k l3 (w.2.1 k 2) (-1) w) (fun x2 w1 => bd (R_X4_get k 11 l3 w1) (fun x4 w3 => bd (R_X4_get k 11 l1 w3) (fun x6 w5 => (if x4 ≤ x6 then (if l2 < x2 then rec l3 x2 (l3 + 1) w5 else (if x2 ≤ 0 then rec l1 l2 (l3 + 1) w5 else (if x2 = l2 then rec l1 l2 (l3 + 1) w5 else rec l1 l2 (l3 + 1) w5))) else (if l2 < x2 then rec l3 x2 (l3 + 1) w5 else (if x2 ≤ 0 then rec l1 l2 (l3 + 1) w5 else (if x2 = l2 then rec l3 x2 (l3 + 1) w5 else rec l1 l2 (l3 + 1) w5))))))))
def L_X6_bestHeap_6 (k : Nat) : Nat → Int32 → Int32 → Int32 → xWt → Option ((Int32 × Int32 × Int32) × xWt)
  | 0 => fun _ _ _ _ => none
  | n9 + 1 => B_X6_bestHeap_6 k (L_X6_bestHeap_6 k n9)
def F_X6_bestHeap (k : Nat)  (w : xWt) : Option (Int32 × xWt) :=
  bd (L_X6_bestHeap_6 k 9999 (-1) 0 0 w) (fun o17 w18 => some (o17.1, w18))
def B_X6_burnableIfAllRested_4 (k : Nat) (rec : Int32 → Int32 → xWt → Option ((Int32 × Int32) × xWt)) (l1 : Int32) (l2 : Int32) (w : xWt) : Option ((Int32 × Int32) × xWt) :=
  (if (w.2.1 k 8) ≤ l2 then some ((l1, l2), w) else (if 120 ≤ l2 then some ((l1, l2), w) else (if (w.2.1 k 2) = 0 then bd (R_X4_get k 2 l2 w) (fun x2 w1 => (if x2 = 1 then rec (l1 + 1) (l2 + 1) w1 else rec (l1 + 0) (l2 + 1) w1)) else bd (R_X4_get k 4 l2 w) (fun x6 w5 => (if (((w.2.1 k 0) + 2) - x6) < 2 then bd (R_X4_get k 2 l2 w5) (fun x8 w7 => (if x8 = 1 then rec (l1 + 0) (l2 + 1) w7 else rec (l1 + 0) (l2 + 1) w7)) else bd (R_X4_get k 2 l2 w5) (fun x12 w11 => (if x12 = 1 then rec (l1 + 1) (l2 + 1) w11 else rec (l1 + 0) (l2 + 1) w11)))))))
def L_X6_burnableIfAllRested_4 (k : Nat) : Nat → Int32 → Int32 → xWt → Option ((Int32 × Int32) × xWt)
  | 0 => fun _ _ _ => none
  | n9 + 1 => B_X6_burnableIfAllRested_4 k (L_X6_burnableIfAllRested_4 k n9)
def F_X6_burnableIfAllRested (k : Nat)  (w : xWt) : Option (Int32 × xWt) :=
  bd (L_X6_burnableIfAllRested_4 k 9999 0 0 w) (fun o19 w20 => some (o19.1, w20))
def B_X6_burnableIfRested_4 (k : Nat) (rec : Int32 → Int32 → Int32 → xWt → Option ((Int32 × Int32) × xWt)) (l1 : Int32) (l2 : Int32) (l3 : Int32) (w : xWt) : Option ((Int32 × Int32) × xWt) :=
  (if 5 ≤ l3 then some ((l2, l3), w) else bd (F_X6_burnable k l3 (w.2.1 k 2) l1 w) (fun x2 w1 => rec l1 (l2 + x2) (l3 + 1) w1))
def L_X6_burnableIfRested_4 (k : Nat) : Nat → Int32 → Int32 → Int32 → xWt → Option ((Int32 × Int32) × xWt)
  | 0 => fun _ _ _ _ => none
  | n9 + 1 => B_X6_burnableIfRested_4 k (L_X6_burnableIfRested_4 k n9)
def F_X6_burnableIfRested (k : Nat) (a1 : Int32) (w : xWt) : Option (Int32 × xWt) :=
  bd (L_X6_burnableIfRested_4 k 9999 a1 0 0 w) (fun o4 w5 => some (o4.1, w5))
def F_X6_valueOf (k : Nat) (a1 : Int32) (w : xWt) : Option (Int32 × xWt) :=
  (if a1 = 0 then some ((w.2.1 k 1), w) else some ((w.2.1 k 2), w))
def F_X6_change (k : Nat) (a1 : Int32) (a2 : Int32) (w : xWt) : Option (Int32 × xWt) :=
  bd (F_X6_valueOf k a1 w) (fun x2 w1 => (if a1 = 0 then lw (sF w1 k 1 a2) (fun w4 => some (x2, w4)) else lw (sF w1 k 2 a2) (fun w3 => some (x2, w3))))
def B_X6_clear_23 (k : Nat) (rec : Int32 → Int32 → Int32 → Int32 → Int32 → xWt → Option ((Int32 × Int32) × xWt)) (l1 : Int32) (l2 : Int32) (l3 : Int32) (l4 : Int32) (l5 : Int32) (w : xWt) : Option ((Int32 × Int32) × xWt) :=
  (if l2 ≤ l5 then some ((l4, l5), w) else bd (R_X4_get k 12 (l3 + l5) w) (fun x4 w3 => bd (F_X6_mayBurn k x4 (w3.2.1 k 2) (-1) w3) (fun x6 w5 => (if x6 = 0 then bd (R_X4_put k 12 (l3 + l4) x4 w5) (fun _ w7 => rec l1 l2 l3 (l4 + 1) (l5 + 1) w7) else bd (F_X2_burn k x4 w5) (fun _ w8 => rec l1 l2 l3 l4 (l5 + 1) w8)))))
def L_X6_clear_23 (k : Nat) : Nat → Int32 → Int32 → Int32 → Int32 → Int32 → xWt → Option ((Int32 × Int32) × xWt)
  | 0 => fun _ _ _ _ _ _ => none
  | n9 + 1 => B_X6_clear_23 k (L_X6_clear_23 k n9)
def F_X6_clear (k : Nat) (a1 : Int32) (w : xWt) : Option (Int32 × xWt) :=
  bd (R_X4_get k 11 a1 w) (fun x2 w1 => bd (L_X6_clear_23 k 9999 a1 x2 (a1 * 120) 0 0 w1) (fun o11 w12 => bd (R_X4_put k 11 a1 o11.1 w12) (fun _ w13 => bd (R_X4_add k 9 a1 (x2 - o11.1) w13) (fun _ w14 => bd (R_X4_add k 10 a1 1 w14) (fun _ w15 => lw (sF w15 k 3 ((w15.2.1 k 3) + 1)) (fun w16 => (if (w16.2.1 k 2) = 0 then bd (F_X0_number k w16) (fun x19 w18 => lw (sF w18 k 4 ((w16.2.1 k 4) + (3 * x19))) (fun w20 => some ((x2 - o11.1), w20))) else lw (sF w16 k 4 ((w16.2.1 k 4) + 0)) (fun w17 => some ((x2 - o11.1), w17)))))))))
def F_X6_takeOff (k : Nat) (a1 : Int32) (a2 : Int32) (w : xWt) : Option (Int32 × xWt) :=
  bd (R_X4_get k 0 a2 w) (fun x2 w1 => bd (F_X2_putAside k x2 a1 (w1.2.1 k 0) w1) (fun _ w3 => bd (F_X0_putOnHeap k a1 x2 w3) (fun _ w4 => bd (R_X4_add k 8 a1 1 w4) (fun _ w5 => bd (R_X4_get k 11 a1 w5) (fun x7 w6 => (if x7 < (w6.2.1 k 1) then bd (F_X2_numberWhere k 1 w6) (fun x9 w8 => lw (sF w8 k 7 (if (w6.2.1 k 7) < x9 then x9 else (w6.2.1 k 7))) (fun w10 => some (0, w10))) else bd (F_X6_clear k a1 w6) (fun x12 w11 => bd (F_X2_numberWhere k 1 w11) (fun x14 w13 => lw (sF w13 k 7 (if (w11.2.1 k 7) < x14 then x14 else (w11.2.1 k 7))) (fun w15 => some (x12, w15))))))))))
def F_X6_exchange (k : Nat) (a1 : Int32) (a2 : Int32) (a3 : Int32) (w : xWt) : Option (Int32 × xWt) :=
  bd (F_X6_takeOff k a1 a2 w) (fun x2 w1 => bd (F_X2_sprout k a2 a3 w1) (fun x4 w3 => some (x4, w3)))
def F_X6_fasten (k : Nat) (a1 : Int32) (a2 : Int32) (w : xWt) : Option (Int32 × xWt) :=
  bd (F_X1_leafOf k a1 a2 w) (fun x2 w1 => bd (F_X1_branchOf k a1 a2 w1) (fun x4 w3 => bd (R_X4_get k 0 x4 w3) (fun x6 w5 => (if x6 = x2 then bd (F_X1_fasten k a1 a2 w5) (fun _ w9 => some (1, w9)) else bd (F_X1_release k a1 a2 w5) (fun _ w7 => lw (sF w7 k 5 ((w7.2.1 k 5) + 1)) (fun w8 => some (0, w8)))))))
def F_X6_freedBy (k : Nat) (a1 : Int32) (a2 : Int32) (w : xWt) : Option (Int32 × xWt) :=
  bd (F_X1_leafOf k a1 a2 w) (fun x2 w1 => bd (F_X1_kindOf k a1 a2 w1) (fun x4 w3 => (if x4 = 2 then bd (R_X4_get k 2 x2 w3) (fun x10 w9 => (if x10 = 1 then bd (F_X1_pinsOn k x2 w9) (fun x16 w15 => (if x16 = 1 then some (1, w15) else some (0, w15))) else some (0, w9))) else some (0, w3))))
def F_X6_goIn (k : Nat) (a1 : Int32) (w : xWt) : Option (Int32 × xWt) :=
  bd (R_X4_put k 7 a1 (w.2.1 k 0) w) (fun _ w1 => some ((w1.2.1 k 0), w1))
def F_X6_lieDown (k : Nat) (a1 : Int32) (w : xWt) : Option (Int32 × xWt) :=
  bd (F_X1_pinsOfChild k a1 w) (fun x2 w1 => bd (R_X4_put k 7 a1 (-1) w1) (fun _ w3 => bd (F_X1_releaseAll k a1 w3) (fun _ w4 => some (x2, w4))))
def F_X6_lookThrough (k : Nat) (a1 : Int32) (a2 : Int32) (w : xWt) : Option (Int32 × xWt) :=
  bd (F_X1_leafOf k a1 a2 w) (fun x2 w1 => bd (F_X1_kindOf k a1 a2 w1) (fun x4 w3 => (if x4 = 1 then bd (R_X4_get k 2 x2 w3) (fun x8 w7 => (if x8 = 2 then lw (sF w7 k 6 ((w7.2.1 k 6) + 1)) (fun w11 => some ((-1), w11)) else bd (R_X4_get k 1 x2 w7) (fun x10 w9 => some (x10, w9)))) else bd (R_X4_get k 1 x2 w3) (fun x6 w5 => some (x6, w5)))))
def F_X6_mayClear (k : Nat) (a1 : Int32) (w : xWt) : Option (Int32 × xWt) :=
  bd (R_X4_get k 11 a1 w) (fun x2 w1 => (if x2 ≤ 0 then some (0, w1) else some (1, w1)))
def F_X6_mayTakeOff (k : Nat) (a1 : Int32) (a2 : Int32) (w : xWt) : Option (Int32 × xWt) :=
  bd (F_X0_isInYard k a1 w) (fun x2 w1 => (if x2 = 0 then some (0, w1) else bd (R_X4_get k 0 a2 w1) (fun x4 w3 => (if x4 = (-1) then some (0, w3) else some (1, w3)))))
def F_X6_mayExchange (k : Nat) (a1 : Int32) (a2 : Int32) (w : xWt) : Option (Int32 × xWt) :=
  bd (F_X6_mayTakeOff k a1 a2 w) (fun x2 w1 => (if x2 = 0 then some (0, w1) else (if 120 ≤ (w1.2.1 k 8) then some (0, w1) else some (1, w1))))
def F_X6_mayFasten (k : Nat) (a1 : Int32) (a2 : Int32) (w : xWt) : Option (Int32 × xWt) :=
  bd (F_X1_kindOf k a1 a2 w) (fun x2 w1 => (if x2 = 1 then some (1, w1) else some (0, w1)))
def F_X6_mayGoIn (k : Nat) (a1 : Int32) (w : xWt) : Option (Int32 × xWt) :=
  bd (F_X0_isHere k a1 w) (fun x2 w1 => (if x2 = 0 then some (0, w1) else bd (F_X0_isInYard k a1 w1) (fun x4 w3 => (if x4 = 0 then some (1, w3) else some (0, w3)))))
def F_X6_mayLieDown (k : Nat) (a1 : Int32) (w : xWt) : Option (Int32 × xWt) :=
  bd (F_X0_isInYard k a1 w) (fun x2 w1 => zr x2 (some (x2, w1)))
def F_X6_mayRelease (k : Nat) (a1 : Int32) (a2 : Int32) (w : xWt) : Option (Int32 × xWt) :=
  bd (F_X1_kindOf k a1 a2 w) (fun x2 w1 => (if x2 = 0 then some (0, w1) else some (1, w1)))
def F_X6_maySprout (k : Nat) (a1 : Int32) (w : xWt) : Option (Int32 × xWt) :=
  bd (R_X4_get k 0 a1 w) (fun x2 w1 => (if x2 = (-1) then (if 120 ≤ (w1.2.1 k 8) then some (0, w1) else some (1, w1)) else some (0, w1)))
def F_X6_mayStrike (k : Nat)  (w : xWt) : Option (Int32 × xWt) :=
  bd (F_X0_maskOfLate k (w.2.1 k 0) w) (fun x2 w1 => (if x2 = 0 then some (1, w1) else some (0, w1)))
def F_X6_mayWrite (k : Nat) (a1 : Int32) (a2 : Int32) (a3 : Int32) (w : xWt) : Option (Int32 × xWt) :=
  bd (F_X0_isInYard k a1 w) (fun x2 w1 => (if x2 = 0 then some (0, w1) else bd (F_X1_kindOf k a1 a2 w1) (fun x4 w3 => (if x4 = 0 then bd (R_X4_get k 0 a3 w3) (fun x6 w5 => (if x6 = (-1) then some (0, w5) else some (1, w5))) else some (0, w3)))))
def B_X6_mostPinned_6 (k : Nat) (rec : Int32 → Int32 → Int32 → xWt → Option ((Int32 × Int32 × Int32) × xWt)) (l1 : Int32) (l2 : Int32) (l3 : Int32) (w : xWt) : Option ((Int32 × Int32 × Int32) × xWt) :=
  (if (w.2.1 k 8) ≤ l3 then some ((l1, l2, l3), w) else (if 120 ≤ l3 then some ((l1, l2, l3), w) else bd (F_X1_pinsOn k l3 w) (fun x2 w1 => (if x2 ≤ l2 then rec l1 l2 (l3 + 1) w1 else rec l3 x2 (l3 + 1) w1))))
def L_X6_mostPinned_6 (k : Nat) : Nat → Int32 → Int32 → Int32 → xWt → Option ((Int32 × Int32 × Int32) × xWt)
  | 0 => fun _ _ _ _ => none
  | n9 + 1 => B_X6_mostPinned_6 k (L_X6_mostPinned_6 k n9)
def F_X6_mostPinned (k : Nat)  (w : xWt) : Option (Int32 × xWt) :=
  bd (L_X6_mostPinned_6 k 9999 (-1) 0 0 w) (fun o6 w7 => some (o6.1, w7))
def F_X6_numberOfAll (k : Nat) (a1 : Int32) (w : xWt) : Option (Int32 × xWt) :=
  (if (a1).toInt = 0 then bd (F_X0_mask k w) (fun x30 w29 => some (x30, w29)) else (if (a1).toInt = 1 then bd (F_X0_number k w) (fun x28 w27 => some (x28, w27)) else (if (a1).toInt = 2 then bd (F_X0_numberInYard k w) (fun x26 w25 => some (x26, w25)) else (if (a1).toInt = 3 then some ((w.2.1 k 0), w) else (if (a1).toInt = 4 then some ((w.2.1 k 8), w) else (if (a1).toInt = 5 then bd (F_X2_numberWhere k 0 w) (fun x24 w23 => some (x24, w23)) else (if (a1).toInt = 6 then bd (F_X2_numberWhere k 1 w) (fun x22 w21 => some (x22, w21)) else (if (a1).toInt = 7 then bd (F_X2_numberWhere k 2 w) (fun x20 w19 => some (x20, w19)) else (if (a1).toInt = 8 then bd (F_X1_pins k w) (fun x18 w17 => some (x18, w17)) else (if (a1).toInt = 9 then bd (F_X1_notes k w) (fun x16 w15 => some (x16, w15)) else (if (a1).toInt = 10 then some ((w.2.1 k 3), w) else (if (a1).toInt = 11 then some ((w.2.1 k 4), w) else (if (a1).toInt = 12 then some ((w.2.1 k 5), w) else (if (a1).toInt = 13 then some ((w.2.1 k 6), w) else some ((w.2.1 k 7), w)))))))))))))))
def F_X6_numberOfChild (k : Nat) (a1 : Int32) (a2 : Int32) (w : xWt) : Option (Int32 × xWt) :=
  (if (a2).toInt = 0 then bd (F_X0_isInYard k a1 w) (fun x23 w22 => (if x23 = 0 then some (0, w22) else some (1, w22))) else (if (a2).toInt = 1 then bd (R_X4_get k 7 a1 w) (fun x21 w20 => some (x21, w20)) else (if (a2).toInt = 2 then bd (F_X1_pinsOfChild k a1 w) (fun x19 w18 => some (x19, w18)) else (if (a2).toInt = 3 then bd (F_X1_notesOfChild k a1 w) (fun x17 w16 => some (x17, w16)) else (if (a2).toInt = 4 then bd (R_X4_get k 11 a1 w) (fun x15 w14 => some (x15, w14)) else (if (a2).toInt = 5 then bd (R_X4_get k 8 a1 w) (fun x13 w12 => some (x13, w12)) else (if (a2).toInt = 6 then bd (R_X4_get k 9 a1 w) (fun x11 w10 => some (x11, w10)) else bd (R_X4_get k 10 a1 w) (fun x2 w1 => some (x2, w1)))))))))
def F_X6_numberOfLeaf (k : Nat) (a1 : Int32) (a2 : Int32) (w : xWt) : Option (Int32 × xWt) :=
  (if (a2).toInt = 0 then bd (R_X4_get k 1 a1 w) (fun x23 w22 => some (x23, w22)) else (if (a2).toInt = 1 then bd (R_X4_get k 2 a1 w) (fun x21 w20 => some (x21, w20)) else (if (a2).toInt = 2 then bd (R_X4_get k 3 a1 w) (fun x19 w18 => some (x19, w18)) else (if (a2).toInt = 3 then bd (R_X4_get k 4 a1 w) (fun x17 w16 => some (x17, w16)) else (if (a2).toInt = 4 then bd (R_X4_get k 5 a1 w) (fun x15 w14 => some (x15, w14)) else (if (a2).toInt = 5 then bd (F_X1_maskOfHolders k a1 w) (fun x13 w12 => some (x13, w12)) else (if (a2).toInt = 6 then bd (F_X1_pinsOn k a1 w) (fun x11 w10 => some (x11, w10)) else bd (F_X1_notesOn k a1 w) (fun x2 w1 => some (x2, w1)))))))))
def F_X6_release (k : Nat) (a1 : Int32) (a2 : Int32) (w : xWt) : Option (Int32 × xWt) :=
  bd (F_X1_leafOf k a1 a2 w) (fun x2 w1 => bd (F_X1_release k a1 a2 w1) (fun _ w3 => some (x2, w3)))
def B_X6_removeChild_24 (k : Nat) (rec : Int32 → Int32 → Int32 → Int32 → xWt → Option ((Int32) × xWt)) (l1 : Int32) (l2 : Int32) (l3 : Int32) (l4 : Int32) (w : xWt) : Option ((Int32) × xWt) :=
  (if l2 ≤ l4 then some ((l4), w) else bd (F_X0_leafOnHeap k l1 l4 w) (fun x6 w5 => bd (F_X0_putOnHeap k l3 x6 w5) (fun _ w7 => bd (R_X4_put k 5 x6 l3 w7) (fun _ w8 => rec l1 l2 l3 (l4 + 1) w8))))
def L_X6_removeChild_24 (k : Nat) : Nat → Int32 → Int32 → Int32 → Int32 → xWt → Option ((Int32) × xWt)
  | 0 => fun _ _ _ _ _ => none
  | n9 + 1 => B_X6_removeChild_24 k (L_X6_removeChild_24 k n9)
def F_X6_removeChild (k : Nat) (a1 : Int32) (w : xWt) : Option (Int32 × xWt) :=
  bd (R_X4_get k 11 a1 w) (fun x2 w1 => bd (F_X0_lowestBesides k a1 w1) (fun x4 w3 => bd (L_X6_removeChild_24 k 9999 a1 x2 x4 0 w3) (fun o10 w11 => bd (F_X0_emptyPlace k a1 w11) (fun _ w12 => bd (F_X1_releaseAll k a1 w12) (fun _ w13 => some (x2, w13))))))
def F_X6_strike (k : Nat)  (w : xWt) : Option (Int32 × xWt) :=
  lw (sF w k 0 ((w.2.1 k 0) + 1)) (fun w1 => some ((w1.2.1 k 0), w1))
def F_X6_whyNotBurnt (k : Nat) (a1 : Int32) (w : xWt) : Option (Int32 × xWt) :=
  bd (R_X4_get k 2 a1 w) (fun x2 w1 => (if x2 = 2 then some (0, w1) else (if x2 = 0 then some (1, w1) else bd (F_X6_mayBurn k a1 (w1.2.1 k 2) (-1) w1) (fun x4 w3 => (if x4 = 0 then some (2, w3) else some (3, w3))))))
def F_X6_write (k : Nat) (a1 : Int32) (a2 : Int32) (a3 : Int32) (w : xWt) : Option (Int32 × xWt) :=
  bd (R_X4_get k 0 a3 w) (fun x2 w1 => bd (F_X1_write k a1 a2 x2 a3 w1) (fun _ w3 => some (x2, w3)))
