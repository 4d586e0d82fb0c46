theorem kb_44 : (Int8.ofInt 44).toInt32 = 44 := by decide
def B_law (xs : Nat → Int32) (L : Nat) (rec : Int32 → xWt → Option Unit) (l8 : Int32) (w : xWt) : Option Unit :=
  (if 44 ≤ l8 then bi (F_X7_count 15 w) (fun x1 w2 => (if 6 < x1 then none else bi (F_X7_count 15 w2) (fun x3 w4 => (if x3 ≤ 0 then none else some ())))) else bd (F_L_cell xs L (2 * l8) w) (fun x7 w8 => bd (F_L_cell xs L ((2 * l8) + 1) w8) (fun x9 w10 => bd (α := Int32) ((if 2 ≤ l8 then bd (F_L_low (x7 >>> (12 &&& 31)) 9 w10) (fun x14 w13 => some (x14, w13)) else some (0, w10))) (fun o12 w11 => bd (α := Int32) ((if 2 ≤ l8 then (if 2 ≤ o12 then (if 5 ≤ o12 then bd (F_L_leaves x7 x9 w11) (fun x19 w18 => some (x19, w18)) else bd (F_L_hooks x7 x9 w11) (fun x21 w20 => some (x21, w20))) else bd (F_L_goes x7 x9 w11) (fun x24 w23 => some (x24, w23))) else bd (F_L_goes 0 l8 w11) (fun x27 w26 => some (x27, w26)))) (fun o17 w16 => (if o17 = 0 then none else bd (F_L_isSo w16) (fun x30 w29 => (if x30 = 0 then none else rec (l8 + 1) w29))))))))
def L_law (xs : Nat → Int32) (L : Nat) : Nat → Int32 → xWt → Option Unit
  | 0 => fun _ _ => none
  | n9 + 1 => B_law xs L (L_law xs L n9)
def B_L_law_50 (rec : Int32 → xWt → Option ((Int32) × xWt)) (l8 : Int32) (w : xWt) : Option ((Int32) × xWt) :=
  (if 12 ≤ l8 then some ((l8), w) else ast w 10 1 l8 (-1) (fun w35 => rec (l8 + 1) w35))
def L_L_law_50 : Nat → Int32 → xWt → Option ((Int32) × xWt)
  | 0 => fun _ _ => none
  | n9 + 1 => B_L_law_50 (L_L_law_50 n9)
def B_L_law_71 (rec : Int32 → xWt → Option ((Int32) × xWt)) (l8 : Int32) (w : xWt) : Option ((Int32) × xWt) :=
  (if 5 ≤ l8 then some ((l8), w) else bd (F_L_without l8 w) (fun _ w39 => rec (l8 + 1) w39))
def L_L_law_71 : Nat → Int32 → xWt → Option ((Int32) × xWt)
  | 0 => fun _ _ => none
  | n9 + 1 => B_L_law_71 (L_L_law_71 n9)
def F_law (xs : Nat → Int32) (L : Nat) (w : xWt) : Option Unit :=
  ast w 10 0 7 4 (fun w34 => bd (L_L_law_50 9999 0 w34) (fun o37 w38 => bd (L_L_law_71 9999 0 w38) (fun o41 w42 => ast w42 10 4 0 1 (fun w43 => ast w43 10 4 6 1 (fun w44 => bd (F_L_isSo w44) (fun x46 w45 => (if x46 = 0 then none else bd (F_L_undo w45) (fun x47 w48 => (if x47 = (-33) then L_law xs L 45 0 w48 else none)))))))))
