/-! a turn of the law that asks for a leaf -/
section V1
variable {z z' z1 : Nat → Int32} {w w1 w' : xWt} {B T B' T' c h b l e i q : Nat} {a a2 a3 x2 x4 x7 x9 x11 o14 o17 v x y t : Int32} {R R' : Nat → Nat → Int32} {hp : List Nat}
theorem TK.b1 (hb : b < 12) (hK : TK z b c l v z') : z' (10 + b) = -1 := by
  obtain ⟨z1, hA, hK⟩ := hK
  rcases hK with ⟨-, -, hM⟩ | ⟨-, -, z2, hR, hM⟩
  · unfold MO at hM
    rw [hM, upd_ne _ _ (by omega)]
    exact hA.2.1
  · unfold MO at hM
    rw [hM, upd_ne _ _ (by omega), hR.G (by omega) (by omega) (by omega)]
    exact hA.2.1
theorem TK.v0 (hW : WF z B T) (hK : TK z b c l v z') : ¬ v < 0 := by
  have h120 := hW.g120
  obtain ⟨z1, hA, hK⟩ := hK
  rcases hK with ⟨-, rfl, hM⟩ | ⟨-, rfl, z2, hR, hM⟩
  · decide
  · have := cn_le (bnB z1 c) (gN z1)
    rw [hA.g] at this ⊢
    exact nI_pos (by omega)
/-- whether a leaf may be taken -/
def MT (z : Nat → Int32) (b c : Nat) (o17 : Int32) : Prop := (o17 = 0 ∧ (¬ yI z c = true ∨ z (10 + b) = -1)) ∨ (o17 = 1 ∧ zC z c 0 = 1 ∧ yI z c = true ∧ ∃ l, l < gN z ∧ z (10 + b) = nI l)
theorem v_take (hI : IN z w B T) (hB : B < 2 ^ 18) (hT : T < 2 ^ 30) (hc : c < 5) (hb : b < 12) (h14 : o14 = if zC z c 0 = 1 then 1 else 0) (h17 : MT z b c o17) : ST w (B + 1) (T + 121) (V_take (nI c) (nI b) x9 o14 o17 w) := by
  have hI0 := hI
  obtain ⟨hW, hY, hR, hS⟩ := hI
  unfold V_take
  rcases h17 with ⟨rfl, hx⟩ | ⟨rfl, ht, hy, l, hl, hbr⟩
  · refine ST.no hI0 ?_ (by omega) (by omega)
    by_cases ht : zC z c 0 = 1
    · rw [if_pos ht] at h14
      subst h14
      rw [if_pos rfl, o_take3 hW hY hc ht hb hx, bd_s, if_neg (by decide), bd_s, if_pos rfl]
    · rw [if_neg ht] at h14
      subst h14
      rw [if_pos rfl, o_take1 hY hc ht, bd_s, if_pos rfl, bd_s, if_pos rfl]
  · obtain ⟨v0, wE, -, tk0⟩ := e_take hW hY (gz_z z) hT hc ht hb hl hbr
    obtain ⟨w1, e1, hd, -⟩ := l_taken hW hB hT hR hc ht hb hl hbr tk0
    obtain ⟨v, z', tk, hO⟩ := o_take hW (hY.dL hd) (hS.dL hd) hT hc ht hy hb hl hbr
    obtain ⟨w1', e1', -, hL⟩ := l_taken hW hB hT hR hc ht hb hl hbr tk
    have e := e1.symm.trans e1'
    cases e
    rw [if_neg (by decide), e1, bd_s]
    exact (STs.ok hO hL (fun w' _ => by rw [if_pos rfl]) (by omega) (by omega)).o
theorem v_rake (hI : IN z w B T) (hB : B < 2 ^ 18) (hc : c < 5) (h14 : o14 = if zC z c 0 = 1 then 1 else 0) : ST w (B + 1) (T + 121) (V_rake (nI c) x7 x9 o14 o17 w) := by
  have hI0 := hI
  obtain ⟨hW, hY, hR, hS⟩ := hI
  have h120 := hW.g120
  have hle : hN z c ≤ gN z := cn_le _ _
  unfold V_rake
  by_cases ht : zC z c 0 = 1
  · rw [if_pos ht] at h14
    subst h14
    rw [if_neg (by decide), l_heap hW hB hR hc, bd_s]
    by_cases h0 : hN z c = 0
    · refine ST.no hI0 ?_ (by omega) (by omega)
      rw [h0, if_pos (show nI 0 = 0 from rfl), o_rake3 hW hY hc ht h0, bd_s, if_neg (by decide), bd_s, if_pos rfl]
    · obtain ⟨w1, e1, hd, hL⟩ := l_raked hW hB hR hc ht
      obtain ⟨z', hK, hO⟩ := o_rake hW (hY.dL hd) (hS.dL hd) hc ht h0
      rw [if_neg (nI_ne0 (by omega) (by omega)), e1, bd_s]
      exact (STs.ok hO (hL z' hK) (fun w' _ => by rw [if_pos rfl]) (by omega) (by omega)).o
  · rw [if_neg ht] at h14
    subst h14
    refine ST.no hI0 ?_ (by omega) (by omega)
    rw [if_pos rfl, o_rake1 hY hc ht, bd_s, if_pos rfl, bd_s, if_pos rfl]
theorem v_swap (hI : IN z w B T) (hB : B < 2 ^ 18) (hT : T < 2 ^ 30) (hc : c < 5) (hb : b < 12) (hq : q < 10) (hg : gN z < 40) (h14 : o14 = if zC z c 0 = 1 then 1 else 0) (h17 : MT z b c o17) : ST w (B + 1) (T + 121) (V_swap (nI c) (nI b) (nI q) o14 o17 w) := by
  have hI0 := hI
  obtain ⟨hW, hY, hR, hS⟩ := hI
  unfold V_swap
  rcases h17 with ⟨rfl, hx⟩ | ⟨rfl, ht, hy, l, hl, hbr⟩
  · refine ST.no hI0 ?_ (by omega) (by omega)
    by_cases ht : zC z c 0 = 1
    · rw [if_pos ht] at h14
      subst h14
      rw [if_pos rfl, o_swap3 hW hY hc ht hb hx hq, bd_s, if_neg (by decide), bd_s, if_pos rfl, o_swapI hY hc, bd_s, if_pos rfl]
    · rw [if_neg ht] at h14
      subst h14
      rw [if_pos rfl, o_swap1 hY hc ht, bd_s, if_pos rfl, bd_s, if_pos rfl, o_swapI hY hc, bd_s, if_pos rfl]
  · obtain ⟨v0, wE, em, tk0⟩ := e_take hW hY (gz_z z) hT hc ht hb hl hbr
    have hW0 : WF (zz wE) B (T + 1) := (DO.ex hY (fun w hY => (d_take hW hY hT hc ht hb hl hbr).o) em).1
    obtain ⟨w1, e1, hd, hR0⟩ := l_taken hW hB hT hR hc ht hb hl hbr tk0
    have eg0 : gN (zz wE) = gN z := tk0.g hb
    obtain ⟨w2, e2, hd2, r0, r1, r2, r3⟩ := l_grown (z := zz wE) (w := w1) (b := b) (by rw [hR0.g.2.1]; exact hW0.g) (by omega) hb q
    rw [eg0] at e2 r0 r1 r2
    obtain ⟨v, z1, z', tk, hW1, hG, hO⟩ := o_swap hW (hY.dL (hd.trans hd2)) (hS.dL (hd.trans hd2)) hT hc ht hy hb hl hbr (by omega) hq
    obtain ⟨w1', e1', -, hL⟩ := l_taken hW hB hT hR hc ht hb hl hbr tk
    have e := e1.symm.trans e1'
    cases e
    have eg1 : gN z1 = gN z := tk.g hb
    rw [if_neg (by decide), e1, bd_s, e2, bd_s, if_neg (tk0.v0 hW)]
    refine (STs.ok hO ?_ (fun w' _ => by rw [if_pos rfl]) (by omega) (by omega)).o
    exact LR.grown hW1 hL (by omega) hb hq (tk.b1 hb) hG (by rw [eg1]; exact r0) (by rw [eg1]; exact r1) (by rw [eg1]; exact r2) r3
theorem v_grown (hI : IN z w B T) (hb : b < 12) (hq : q < 10) (hg : gN z < 40) (hbr : z (10 + b) = -1) : ST w (B + 1) (T + 121) (V_grown x2 (nI b) (nI q) o14 o17 w) := by
  obtain ⟨hW, hY, hR, hS⟩ := hI
  obtain ⟨w2, e2, hd2, r0, r1, r2, r3⟩ := l_grown (z := z) (w := w) (b := b) (by rw [hR.g.2.1]; exact hW.g) hg hb q
  obtain ⟨z', hG, hO⟩ := o_grow hW (hY.dL hd2) (hS.dL hd2) hb (by omega) hbr hq
  unfold V_grown
  rw [e2, bd_s]
  exact (STs.ok hO (LR.grown hW hR hg hb hq hbr hG r0 r1 r2 r3) (fun w' _ => by rw [if_pos rfl]) (by omega) (by omega)).o
theorem v_three (hI : IN z w B T) (hb : b < 12) (hq : q < 10) (hbr : z (10 + b) ≠ -1) : ST w (B + 1) (T + 121) (V_three x2 (nI b) (nI q) o14 o17 w) := by
  refine ST.no hI ?_ (by omega) (by omega)
  unfold V_three
  rw [o_grow3 hI.1 hI.2.1 hb hbr hq, bd_s, if_pos rfl, o_growI, bd_s, if_pos rfl, o_growA hb, bd_s, if_pos rfl]
theorem v_tail (hI : IN z w B T) (hB : B < 2 ^ 18) (hT : T < 2 ^ 30) (hc : c < 5) (hb : b < 12) (hq : q < 10) (h14 : o14 = if zC z c 0 = 1 then 1 else 0) (h17 : MT z b c o17) (x11 : Int32) : ST w (B + 1) (T + 121) (V_tail (nI c) (nI b) (nI q) o14 o17 x11 w) := by
  have h120 := hI.1.g120
  unfold V_tail
  by_cases q1 : 5 ≤ x11
  · rw [if_pos q1]
    by_cases q2 : x11 = 5
    · rw [if_pos q2, a0_1, hI.2.2.1.g.2.1, hI.1.g]
      by_cases q3 : 40 ≤ gN z
      · rw [if_pos (show (40 : Int32) ≤ nI (gN z) from nI_le (a := 40) q3 (by omega))]
        exact v_rake hI hB hc h14
      · rw [if_neg (show ¬ (40 : Int32) ≤ nI (gN z) from nI_ge (b := 40) (by omega) (by omega))]
        exact v_swap hI hB hT hc hb hq (by omega) h14 h17
    · rw [if_neg q2]
      exact v_rake hI hB hc h14
  · rw [if_neg q1]
    exact v_take hI hB hT hc hb h14 h17
theorem v_two (hI : IN z w B T) (hB : B < 2 ^ 18) (hT : T < 2 ^ 30) (hc : c < 5) (hb : b < 12) (hq : q < 10) (h14 : o14 = if zC z c 0 = 1 then 1 else 0) (h17 : MT z b c o17) (x11 : Int32) : ST w (B + 1) (T + 121) (if 3 ≤ x11 then V_tail (nI c) (nI b) (nI q) o14 o17 x11 w else ald w 10 1 (nI b) (fun x99 => (if 0 ≤ x99 then V_tail (nI c) (nI b) (nI q) o14 o17 x11 w else ald w 10 0 1 (fun x176 => (if 40 ≤ x176 then V_tail (nI c) (nI b) (nI q) o14 o17 x11 w else V_grown (nI c) (nI b) (nI q) o14 o17 w))))) := by
  have h120 := hI.1.g120
  by_cases q1 : 3 ≤ x11
  · rw [if_pos q1]
    exact v_tail hI hB hT hc hb hq h14 h17 x11
  · rw [if_neg q1, a1 hb, hI.2.2.1.b b hb]
    rcases brs hI.1 hb with r | ⟨l, hl, r⟩
    · rw [if_neg (show ¬ 0 ≤ z (10 + b) by rw [r]; decide), a0_1, hI.2.2.1.g.2.1, hI.1.g]
      by_cases q3 : 40 ≤ gN z
      · rw [if_pos (show (40 : Int32) ≤ nI (gN z) from nI_le (a := 40) q3 (by omega))]
        exact v_tail hI hB hT hc hb hq h14 h17 x11
      · rw [if_neg (show ¬ (40 : Int32) ≤ nI (gN z) from nI_ge (b := 40) (by omega) (by omega))]
        exact v_grown hI hb hq (by omega) r
    · rw [if_pos (show 0 ≤ z (10 + b) by rw [r]; exact nI_pos' (by omega))]
      exact v_tail hI hB hT hc hb hq h14 h17 x11
theorem v_all (hI : IN z w B T) (hB : B < 2 ^ 18) (hT : T < 2 ^ 30) (hc : c < 5) (hb : b < 12) (hq : q < 10) (h14 : o14 = if zC z c 0 = 1 then 1 else 0) (h17 : MT z b c o17) (x11 : Int32) : ST w (B + 1) (T + 121) (V_all (nI c) (nI b) (nI q) o14 o17 x11 w) := by
  have h120 := hI.1.g120
  unfold V_all
  by_cases q1 : 2 ≤ x11
  · rw [if_pos q1]
    exact v_two hI hB hT hc hb hq h14 h17 x11
  · rw [if_neg q1, a1 hb, hI.2.2.1.b b hb]
    rcases brs hI.1 hb with r | ⟨l, hl, r⟩
    · rw [if_pos (show z (10 + b) < 0 by rw [r]; decide)]
      exact v_two hI hB hT hc hb hq h14 h17 x11
    · rw [if_neg (show ¬ z (10 + b) < 0 by rw [r]; exact nI_pos (by omega))]
      exact v_three hI hb hq (by rw [r]; exact nI_m1 (by omega))
theorem st_leaves (hI : IN z w B T) (hB : B < 2 ^ 18) (hT : T < 2 ^ 30) : ST w (B + 1) (T + 121) (F_L_leaves a2 a3 w) := by
  have hR := hI.2.2.1
  have h120 := hI.1.g120
  obtain ⟨c, hc, ec⟩ := l_low a3 (n := 5) (by omega) (by omega) w
  obtain ⟨n, n0, n12, en⟩ : ∃ n, 0 < n ∧ n ≤ 12 ∧ (if ((a3 >>> (3 &&& 31)) &&& 1) = 0 then some ((4 : Int32), w) else some (12, w)) = some (nI n, w) := by
    by_cases q : ((a3 >>> (3 &&& 31)) &&& 1) = 0
    · exact ⟨4, by omega, by omega, if_pos q⟩
    · exact ⟨12, by omega, by omega, if_neg q⟩
  obtain ⟨b, hb, eb⟩ := l_low (a3 >>> (4 &&& 31)) (n := n) n0 (by omega) w
  obtain ⟨q, hq, eq⟩ := l_low (a3 >>> (9 &&& 31)) (n := 10) (by omega) (by omega) w
  obtain ⟨k, hk7, ek⟩ := l_low a2 (n := 7) (by omega) (by omega) w
  have hb' : b < 12 := by omega
  rw [leaves_eq, show F_L_low a3 5 w = some (nI c, w) from ec, bd_s, en, bd_s, eb, bd_s, show F_L_low (a3 >>> (9 &&& 31)) 10 w = some (nI q, w) from eq, bd_s, show F_L_low a2 7 w = some (nI k, w) from ek, bd_s, ix60, a4 (by omega), (hR.c c hc).1]
  by_cases ht : zC z c 0 = 1
  · rw [if_pos ht, bd_s, if_neg (by decide), ← ix60, ix6c1, a4 (by omega), (hR.c c hc).2.1]
    by_cases hy : zC z c 1 = 1
    · rw [if_pos hy, a1 hb', hR.b b hb']
      rcases brs hI.1 hb' with r | ⟨l, hl, r⟩
      · rw [if_pos (show z (10 + b) < 0 by rw [r]; decide), bd_s]
        exact v_all hI hB hT hc hb' hq (by rw [if_pos ht]) (Or.inl ⟨rfl, Or.inr r⟩) _
      · rw [if_neg (show ¬ z (10 + b) < 0 by rw [r]; exact nI_pos (by omega)), bd_s]
        exact v_all hI hB hT hc hb' hq (by rw [if_pos ht]) (Or.inr ⟨rfl, ht, yI_iff.mpr hy, l, hl, r⟩) _
    · rw [if_neg hy, bd_s]
      exact v_all hI hB hT hc hb' hq (by rw [if_pos ht]) (Or.inl ⟨rfl, Or.inl (fun r => hy (yI_iff.mp r))⟩) _
  · rw [if_neg ht, bd_s, if_pos rfl, bd_s]
    exact v_all hI hB hT hc hb' hq (by rw [if_neg ht]) (Or.inl ⟨rfl, Or.inl (by rw [(hI.1.abs hc ht).1]; decide)⟩) _
end V1
