/-! what the law reads of leaves and branches -/
theorem bi_l {α β : Type} (a : α) (w : xWt) (f : α → xWt → Option β) : bi (some ((.inl a : α ⊕ String), w)) f = f a w := rfl
theorem or_3' (s x : Int32) (b0 b1 b2 : Bool) : ((s ||| (if b0 then x else 0)) ||| (if b1 then x else 0)) ||| (if b2 then x else 0) = s ||| (if b0 || b1 || b2 then x else 0) := or_3 s x b0 b1 b2
def mq (p : Nat → Bool) : Nat → Int32
  | 0 => 0
  | n + 1 => mq p n ||| (if p n then bit (n / 3) else 0)
theorem mq3 (p : Nat → Bool) (c : Nat) : mq p (3 * c + 3) = mq p (3 * c) ||| (if p (3 * c + 0) || p (3 * c + 1) || p (3 * c + 2) then bit c else 0) := by
  rw [← or_3']
  show ((mq p (3 * c) ||| (if p (3 * c) then bit ((3 * c) / 3) else 0)) ||| (if p (3 * c + 1) then bit ((3 * c + 1) / 3) else 0)) ||| (if p (3 * c + 2) then bit ((3 * c + 2) / 3) else 0) = _
  rw [show (3 * c) / 3 = c by omega, show (3 * c + 1) / 3 = c by omega, show (3 * c + 2) / 3 = c by omega]
  rfl
theorem mq_mk (p : Nat → Bool) : ∀ n, mq p (3 * n) = mk (fun c => p (3 * c + 0) || p (3 * c + 1) || p (3 * c + 2)) n := by
  intro n
  induction n with
  | zero => rfl
  | succ n ih =>
    rw [show 3 * (n + 1) = 3 * n + 3 by omega, mq3, ih]
    rfl
def whyV (z : Nat → Int32) (l : Nat) : Int32 := if zL z l 1 = 2 then 0 else if zL z l 1 = 0 then 1 else if mB z l (z 9) then 3 else 2
section LL
variable {z : Nat → Int32} {w : xWt} {B T c l h b : Nat} {hp : List Nat}
theorem x_leaf (hW : WF z B T) (hY : YR 0 z w) (hl : l < gN z) {k : Nat} (hk : k < 8) : F_X7_leaf (nI l) (nI k) w = some (.inl (leafV z l k), w) := by
  unfold F_X7_leaf
  rw [p_needLeafY hW hY hl, bx_l, show F_X7_needWhat (nI k) 7 w = some (.inl (), w) from p_needWhatY (N := 7) (by omega) (by decide), bx_l, p_leafV hW hY hl hk, bd_s]
theorem x_leaf0 (hW : WF z B T) (hY : YR 0 z w) (hl : l < gN z) : F_X7_leaf (nI l) 0 w = some (.inl (zL z l 0), w) := x_leaf hW hY hl (k := 0) (by decide)
theorem x_leaf1 (hW : WF z B T) (hY : YR 0 z w) (hl : l < gN z) : F_X7_leaf (nI l) 1 w = some (.inl (zL z l 1), w) := x_leaf hW hY hl (k := 1) (by decide)
theorem x_leaf2 (hW : WF z B T) (hY : YR 0 z w) (hl : l < gN z) : F_X7_leaf (nI l) 2 w = some (.inl (zL z l 2), w) := x_leaf hW hY hl (k := 2) (by decide)
theorem x_leaf3 (hW : WF z B T) (hY : YR 0 z w) (hl : l < gN z) : F_X7_leaf (nI l) 3 w = some (.inl (zL z l 3), w) := x_leaf hW hY hl (k := 3) (by decide)
theorem x_leaf4 (hW : WF z B T) (hY : YR 0 z w) (hl : l < gN z) : F_X7_leaf (nI l) 4 w = some (.inl (if zL z l 1 = 1 then zL z l 4 else -1), w) := x_leaf hW hY hl (k := 4) (by decide)
theorem x_leaf5 (hW : WF z B T) (hY : YR 0 z w) (hl : l < gN z) : F_X7_leaf (nI l) 5 w = some (.inl (mk (hP z (nI l)) 5), w) := x_leaf hW hY hl (k := 5) (by decide)
theorem x_leaf6 (hW : WF z B T) (hY : YR 0 z w) (hl : l < gN z) : F_X7_leaf (nI l) 6 w = some (.inl (nI (cn (hB z 2 (nI l)) 15)), w) := x_leaf hW hY hl (k := 6) (by decide)
theorem x_leaf7 (hW : WF z B T) (hY : YR 0 z w) (hl : l < gN z) : F_X7_leaf (nI l) 7 w = some (.inl (nI (cn (hB z 1 (nI l)) 15)), w) := x_leaf hW hY hl (k := 7) (by decide)
theorem x_why (hW : WF z B T) (hY : YR 0 z w) (hl : l < gN z) : F_X7_why (nI l) w = some (.inl (whyV z l), w) := by
  unfold F_X7_why whyV
  rw [p_needLeafY hW hY hl, bx_l, p_whyNotBurnt hW hY hl, bd_s]
theorem x_branch (hY : YR 0 z w) (hb : b < 12) : F_X7_branch (nI b) w = some (.inl (z (10 + b)), w) := by
  unfold F_X7_branch
  rw [p_needBranchY hb, bx_l, R_get, bd_s, g_12 hb, hY.b b hb]
theorem l_w1 (hW : WF z B T) (hl : l < gN z) (w : xWt) : (if whV z l = (-1) then some ((0 : Int32), w) else (if whV z l = (-2) then some (2, w) else some (1, w))) = some (zL z l 1, w) := by
  by_cases q : zL z l 1 = 0
  · rw [if_pos ((wh_m1 hW hl).mpr q), q]
  · rw [if_neg (fun r => q ((wh_m1 hW hl).mp r))]
    by_cases q2 : zL z l 1 = 2
    · rw [if_pos ((wh_m2 hW hl).mpr q2), q2]
    · rw [if_neg (fun r => q2 ((wh_m2 hW hl).mp r))]
      rcases wh_cases hW hl with ⟨r, -⟩ | ⟨r, -⟩ | ⟨r, -⟩
      · exact absurd r q
      · exact absurd r q2
      · rw [r]
theorem l_w4 (hW : WF z B T) (hl : l < gN z) (w : xWt) : (if 0 ≤ whV z l then some (whV z l, w) else some ((-1 : Int32), w)) = some (if zL z l 1 = 1 then zL z l 4 else -1, w) := by
  by_cases q : zL z l 1 = 1
  · rw [if_pos ((wh_pos hW hl).mpr q), if_pos q]
    rcases wh_cases hW hl with ⟨r, -⟩ | ⟨r, -⟩ | ⟨-, d, s, r1, r2, r3, r4, -, e⟩
    · rw [q] at r; exact absurd r (by decide)
    · rw [q] at r; exact absurd r (by decide)
    · rw [e, r3]
  · rw [if_neg (fun r => q ((wh_pos hW hl).mp r)), if_neg q]
theorem z9 (hW : WF z B T) : z 9 = 0 ∨ z 9 = 1 := hW.s.2.2.2.2.2.2.2
theorem l_wy (hW : WF z B T) (hB : B < 2 ^ 18) (hR : LR z (w.1 10)) (hl : l < gN z) : (if whV z l = (-2) then some ((0 : Int32), w) else (if whV z l = (-1) then some (1, w) else ald w 10 0 8 (fun x51 => bd (F_L_may (nI l) x51 (-1) w) (fun x53 w52 => (if x53 = 0 then some (2, w52) else some (3, w52)))))) = some (whyV z l, w) := by
  unfold whyV
  by_cases q : zL z l 1 = 2
  · rw [if_pos ((wh_m2 hW hl).mpr q), if_pos q]
  · rw [if_neg (fun r => q ((wh_m2 hW hl).mp r)), if_neg q]
    by_cases q2 : zL z l 1 = 0
    · rw [if_pos ((wh_m1 hW hl).mpr q2), if_pos q2]
    · rw [if_neg (fun r => q2 ((wh_m1 hW hl).mp r)), if_neg q2]
      have q3 : zL z l 1 = 1 := by
        rcases wh_cases hW hl with ⟨r, -⟩ | ⟨r, -⟩ | ⟨r, -⟩
        · exact absurd r q2
        · exact absurd r q
        · exact r
      rw [a0_8, hR.g.2.2.2.2.2.2.2.2, l_may hW hB hR hl (z9 hW) (Or.inr q3), bd_s]
      by_cases q4 : mB z l (z 9) = true
      · rw [if_pos q4, if_neg (by decide), if_pos q4]
      · rw [if_neg q4, if_pos rfl, if_neg q4]
theorem l_mask (hK : rK z (w.1 10)) (a x : Int32) : ∃ j, L_L_areLeaves_25 9999 a x 0 0 w = some ((mk (hP z a) 5, j), w) := by
  have h := (up_loop (fun n i s => L_L_areLeaves_25 n a x s (nI i) w) (fun k s => s ||| (if hB z 2 a k then bit (k / 3) else 0)) (fun s => ((s, nI 15), w)) 15 (fun k s => s = mq (hB z 2 a) k)
    (fun n i s hi hI => ⟨by
      obtain ⟨k0, k1⟩ := hK.i hi
      show B_L_areLeaves_25 (L_L_areLeaves_25 n) a x s (nI i) w = _
      unfold B_L_areLeaves_25
      rw [if_neg (lt15 hi), ix2, a5 (by omega), k0, nI_1 (2 * i), a5 (by omega), k1, nI_1]
      unfold hB
      by_cases q1 : zH z (i / 3) (i % 3) 0 = 2
      · rw [if_pos q1]
        by_cases q2 : zH z (i / 3) (i % 3) 1 = a
        · rw [if_pos q2, show (3 : Int32) = nI 3 from rfl, dv_n (by omega) (by omega) (by omega), bd_s, if_pos (by simp [q1, q2])]
          rfl
        · rw [if_neg q2, bd_s, if_neg (by simp [q2])]
      · rw [if_neg q1, bd_s, if_neg (by simp [q1])], by rw [hI]; rfl⟩)
    (fun n s _ => by
      show B_L_areLeaves_25 (L_L_areLeaves_25 n) a x s (nI 15) w = _
      unfold B_L_areLeaves_25
      rw [if_pos (show (15 : Int32) ≤ nI 15 from Int32.le_refl _)]) 15 0 0 9999 (by omega) (by omega) rfl)
  have h1 := h.1
  rw [h.2] at h1
  refine ⟨nI 15, ?_⟩
  have e : mq (hB z 2 a) 15 = mk (hP z a) 5 := mq_mk (hB z 2 a) 5
  rw [← e]
  exact h1
theorem l_areLeaves3 (hW : WF z B T) (hB : B < 2 ^ 18) (hY : YR 0 z w) (hR : LR z (w.1 10)) : L_L_areLeaves_3 9999 0 w = some (nI (gN z), w) :=
  (up_loop (fun n i (_ : Unit) => L_L_areLeaves_3 n (nI i) w) (fun _ s => s) (fun _ => (nI (gN z), w)) (gN z) (fun _ _ => True)
    (fun n i s hi _ => ⟨by
      obtain ⟨j, hj⟩ := l_mask hR.k (nI i) (whV z i)
      have hn := hR.n
      show B_L_areLeaves_3 (L_L_areLeaves_3 n) (nI i) w = _
      unfold B_L_areLeaves_3
      rw [a0_1, hR.g.2.1, hW.g, if_neg (nI_ge hi (by omega)), l_wh hW hB hR hi, bd_s, hj, bd_s, x_leaf0 hW hY hi, bi_l, l_col hW hB hR hi, if_pos rfl, x_leaf1 hW hY hi, bi_l, l_w1 hW hi, bd_s, if_pos rfl, x_leaf2 hW hY hi, bi_l, l_br hW hB hR hi, bd_s, if_pos rfl, x_leaf3 hW hY hi, bi_l, l_no hW hB hR hi, bd_s, if_pos rfl, x_leaf4 hW hY hi, bi_l, l_w4 hW hi, bd_s, if_pos rfl, x_leaf5 hW hY hi, bi_l, if_pos rfl, x_leaf6 hW hY hi, bi_l, l_pins hR.k, pn9, bd_s, if_pos rfl, x_leaf7 hW hY hi, bi_l, l_pins hR.k, pn9, bd_s, if_pos rfl, x_why hW hY hi, bi_l, l_wy hW hB hR hi, bd_s, if_pos rfl, nI_1], trivial⟩)
    (fun n s _ => by
      show B_L_areLeaves_3 (L_L_areLeaves_3 n) (nI (gN z)) w = _
      unfold B_L_areLeaves_3
      rw [a0_1, hR.g.2.1, hW.g, if_pos (Int32.le_refl _)]) (gN z) 0 () 9999 (by omega) (by have := hR.n; omega) trivial).1
theorem l_areBr (hY : YR 0 z w) (hR : LR z (w.1 10)) : L_L_areLeaves_307 9999 0 w = some (nI 12, w) :=
  (up_loop (fun n i (_ : Unit) => L_L_areLeaves_307 n (nI i) w) (fun _ s => s) (fun _ => (nI 12, w)) 12 (fun _ _ => True)
    (fun n i s hi _ => ⟨by
      show B_L_areLeaves_307 (L_L_areLeaves_307 n) (nI i) w = _
      unfold B_L_areLeaves_307
      rw [if_neg (lt12 hi), x_branch hY hi, bi_l, a1 hi, hR.b i hi, if_pos rfl, nI_1], trivial⟩)
    (fun n s _ => by
      show B_L_areLeaves_307 (L_L_areLeaves_307 n) (nI 12) w = _
      unfold B_L_areLeaves_307
      rw [if_pos (show (12 : Int32) ≤ nI 12 from Int32.le_refl _)]) 12 0 () 9999 (by omega) (by omega) trivial).1
theorem l_areLeaves (hW : WF z B T) (hB : B < 2 ^ 18) (hY : YR 0 z w) (hR : LR z (w.1 10)) : F_L_areLeaves w = some (1, w) := by
  unfold F_L_areLeaves
  rw [l_areLeaves3 hW hB hY hR, bd_s, l_areBr hY hR, bd_s]
end LL
