/-! the program's reads of the yard, in the reference's numbers -/
theorem nI_sub {a b : Nat} (h : b ≤ a) : nI a - nI b = nI (a - b) := by
  have h2 : nI a = nI (a - b) + nI b := by rw [nI_add]; congr 1; omega
  rw [h2, Int32.add_sub_cancel]
theorem cn_not (p : Nat → Bool) (n : Nat) : cn p n + cn (fun i => !p i) n = n := by
  induction n with
  | zero => rfl
  | succ n ih =>
    unfold cn
    by_cases q : p n = true
    · simp only [q]; simp; omega
    · simp only [Bool.eq_false_iff.mpr q]; simp; omega
theorem cn_not' (p q : Nat → Bool) (n : Nat) (h : ∀ i, i < n → q i = !p i) : n - cn q n = cn p n := by
  rw [cn_congr h]
  have := cn_not p n
  omega
theorem g_5 {w : xWt} {c r : Nat} (hc : c < 5) (hr : rl 0 r = 5) : gt w 0 r (nI c) = w.1 0 r c := gt_in (by rw [hr]; exact hc) (by rw [hr]; decide)
theorem g_120 {w : xWt} {l r : Nat} (hl : l < 120) (hr : rl 0 r = 120) : gt w 0 r (nI l) = w.1 0 r l := gt_in (by rw [hr]; exact hl) (by rw [hr]; decide)
theorem g_15 {w : xWt} {i r : Nat} (hi : i < 15) (hr : rl 0 r = 15) : gt w 0 r (nI i) = w.1 0 r i := gt_in (by rw [hr]; exact hi) (by rw [hr]; decide)
theorem g_12 {w : xWt} {b : Nat} (hb : b < 12) : gt w 0 0 (nI b) = w.1 0 0 b := gt_in (k := 0) (r := 0) hb (by decide)
theorem g_m1 {w : xWt} {r : Nat} : gt w 0 r (-1) = -1 := gt_out (Or.inl (by decide))
theorem ixK (c h : Nat) : nI c * 3 + nI h = nI (3 * c + h) := by
  rw [show (3 : Int32) = nI 3 from rfl, nI_mul, nI_add, Nat.mul_comm]
theorem ixP (c p : Nat) : nI c * 120 + nI p = nI (120 * c + p) := by
  rw [show (120 : Int32) = nI 120 from rfl, nI_mul, nI_add, Nat.mul_comm]
theorem z_i1 {a : Int32} (h : a = 0 ∨ a = 1) : a = if decide (a = 1) then 1 else 0 := by
  rcases h with h | h <;> rw [h] <;> rfl
section PR
variable {z : Nat → Int32} {w : xWt} {B T c l h b g : Nat}
theorem tn_lt (a : Int32) : a.toNatClampNeg < 2 ^ 31 := by
  by_cases h : a < 0
  · have h2 : a.toNatClampNeg = a.toInt.toNat := rfl
    have h3 := Int32.toInt_lt a
    omega
  · obtain ⟨j, h1, rfl⟩ := nI_of h
    rw [nI_clamp h1]; exact h1
theorem WF.yI0 (hW : WF z B T) (hc : c < 5) : yI z c = false ↔ zC z c 2 = -1 := by
  unfold yI
  rw [decide_eq_false_iff_not]
  have hb : bN z < 2 ^ 31 := tn_lt _
  rcases hW.c c hc with ⟨-, q1, q2, -⟩ | ⟨-, ⟨q1, q2⟩ | ⟨q1, s, hs, q2⟩⟩
  · rw [q1, q2]; exact ⟨fun _ => rfl, fun _ => by decide⟩
  · rw [q1, q2]; exact ⟨fun _ => rfl, fun _ => by decide⟩
  · rw [q1, q2]
    exact ⟨fun q => absurd rfl q, fun q => absurd q (nI_m1 (by omega))⟩
theorem WF.th (hW : WF z B T) (hc : c < 5) : zC z c 0 = 0 ∨ zC z c 0 = 1 := by
  rcases hW.c c hc with ⟨q, -⟩ | ⟨q, -⟩
  · exact Or.inl q
  · exact Or.inr q
theorem p_isHere (hY : YR 0 z w) (hc : c < 5) : F_X0_isHere 0 (nI c) w = some (if ch z c then 1 else 0, w) := by
  unfold F_X0_isHere ch
  rw [R_get, bd_s, g_5 hc rfl, (hY.c c hc).1]
  by_cases q : zC z c 0 = 1
  · rw [if_pos q, if_pos (by simp [q])]
  · rw [if_neg q, if_neg (by simp [q])]
theorem p_isHere_out {a : Int32} (h : a < 0 ∨ 5 ≤ a.toNatClampNeg) : F_X0_isHere 0 a w = some (0, w) := by
  unfold F_X0_isHere
  rw [R_get, bd_s, gt_out h]
  rfl
theorem p_isInYard (hW : WF z B T) (hY : YR 0 z w) (hc : c < 5) : F_X0_isInYard 0 (nI c) w = some (if yI z c then 1 else 0, w) := by
  unfold F_X0_isInYard
  rw [R_get, bd_s, g_5 hc rfl, (hY.c c hc).2.1]
  by_cases q : yI z c = true
  · rw [if_neg (fun r => by rw [(hW.yI0 hc).mpr r] at q; cases q), if_pos q]
  · rw [if_pos ((hW.yI0 hc).mp (Bool.eq_false_iff.mpr q)), if_neg q]
theorem p_number (hY : YR 0 z w) : F_X0_number 0 w = some (nI (cn (ch z) 5), w) := by
  unfold F_X0_number
  rw [show (5 : Int32) = nI 5 from rfl, R_number0 w 0 6 1 (N := 5) (by decide), bd_s]
  congr 3
  refine cn_congr fun c hc => ?_
  rw [(hY.c c hc).1]
  unfold ch
  rw [Bool.eq_iff_iff]; simp
theorem p_numberInYard (hW : WF z B T) (hY : YR 0 z w) : F_X0_numberInYard 0 w = some (nI (cn (yI z) 5), w) := by
  unfold F_X0_numberInYard
  rw [show R_X4_number 0 7 (-1) 0 5 w = R_X4_number 0 7 (-1) 0 (nI 5) w from rfl, R_number0 w 0 7 (-1) (N := 5) (by decide), bd_s]
  congr 2
  show nI 5 - nI _ = _
  rw [nI_sub (cn_le _ _), cn_not' (yI z)]
  intro c hc
  rw [(hY.c c hc).2.1]
  by_cases q : yI z c = true
  · rw [q]
    have : zC z c 2 ≠ -1 := fun r => by rw [(hW.yI0 hc).mpr r] at q; cases q
    simp [this]
  · rw [(hW.yI0 hc).mp (Bool.eq_false_iff.mpr q), Bool.eq_false_iff.mpr q]; rfl
theorem p_mask (hY : YR 0 z w) : F_X0_mask 0 w = some (mk (ch z) 5, w) := by
  have h := (up_loop (fun n i s => L_X0_mask_4 0 n s (nI i) w) (fun c s => s ||| (if ch z c then bit c else 0)) (fun s => ((s, nI 5), w)) 5 (fun c s => s = mk (ch z) c)
    (fun n i s hi hI => ⟨by
      show B_X0_mask_4 0 (L_X0_mask_4 0 n) s (nI i) w = _
      unfold B_X0_mask_4
      rw [if_neg (lt5 hi), p_isHere hY hi, bd_s, nI_1]
      by_cases q : ch z i = true
      · rw [if_pos q, if_neg (by decide), if_pos q]; rfl
      · rw [if_neg q, if_pos rfl, if_neg q], by rw [hI]; rfl⟩)
    (fun n s _ => by
      show B_X0_mask_4 0 (L_X0_mask_4 0 n) s (nI 5) w = _
      unfold B_X0_mask_4
      rw [if_pos (show (5 : Int32) ≤ nI 5 from Int32.le_refl _)]) 5 0 0 9999 (by omega) (by omega) rfl)
  have h2 : L_X0_mask_4 0 9999 0 0 w = some ((mk (ch z) 5, nI 5), w) := by
    have := h.1
    rw [h.2] at this
    exact this
  unfold F_X0_mask
  rw [h2]
  rfl
theorem p_maskOfLate (hW : WF z B T) (hY : YR 0 z w) : F_X0_maskOfLate 0 (z 0) w = some (mk (lO z) 5, w) := by
  have h := (up_loop (fun n i s => L_X0_maskOfLate_4 0 n (z 0) s (nI i) w) (fun c s => s ||| (if lO z c then bit c else 0)) (fun s => ((s, nI 5), w)) 5 (fun c s => s = mk (lO z) c)
    (fun n i s hi hI => ⟨by
      show B_X0_maskOfLate_4 0 (L_X0_maskOfLate_4 0 n) (z 0) s (nI i) w = _
      unfold B_X0_maskOfLate_4 lO
      rw [if_neg (lt5 hi), p_isInYard hW hY hi, bd_s, nI_1]
      by_cases q : yI z i = true
      · rw [if_pos q, if_neg (by decide), R_get, bd_s, g_5 hi rfl, (hY.c i hi).2.1]
        by_cases q2 : zC z i 2 = z 0
        · rw [if_pos q2, if_neg (by simp [q2])]
        · rw [if_neg q2, if_pos (by simp [q, q2])]; rfl
      · rw [if_neg q, if_pos rfl, if_neg (by simp [q])], by rw [hI]; rfl⟩)
    (fun n s _ => by
      show B_X0_maskOfLate_4 0 (L_X0_maskOfLate_4 0 n) (z 0) s (nI 5) w = _
      unfold B_X0_maskOfLate_4
      rw [if_pos (show (5 : Int32) ≤ nI 5 from Int32.le_refl _)]) 5 0 0 9999 (by omega) (by omega) rfl)
  have h2 : L_X0_maskOfLate_4 0 9999 (z 0) 0 0 w = some ((mk (lO z) 5, nI 5), w) := by
    have := h.1
    rw [h.2] at this
    exact this
  unfold F_X0_maskOfLate
  rw [h2]
  rfl
theorem p_heap (hW : WF z B T) (hY : YR 0 z w) (hc : c < 5) : ∃ hl : List Nat, HL z c hl ∧ hl.length ≤ 120 ∧ gt w 0 11 (nI c) = nI hl.length ∧ ∀ p l, hl[p]? = some l → w.1 0 12 (120 * c + p) = nI l := by
  obtain ⟨hl, q1, q2, q3⟩ := hY.p c hc
  exact ⟨hl, q1, q1.le hW.g120, by rw [g_5 hc rfl]; exact q2, q3⟩
theorem p_leafOnHeap {hl : List Nat} (hc : c < 5) (hlen : hl.length ≤ 120) (h1 : gt w 0 11 (nI c) = nI hl.length) (h2 : ∀ p l, hl[p]? = some l → w.1 0 12 (120 * c + p) = nI l) (a : Int32) : F_X0_leafOnHeap 0 (nI c) a w = some (at9 hl a, w) := by
  unfold F_X0_leafOnHeap at9
  by_cases h0 : a < 0
  · rw [if_pos h0, if_pos h0]
  · rw [if_neg h0, if_neg h0]
    obtain ⟨p, hp, rfl⟩ := nI_of h0
    rw [R_get, bd_s, h1, nI_clamp hp]
    by_cases q : hl.length ≤ p
    · rw [if_pos (nI_le q hp), List.getElem?_eq_none q]
    · have hlt : p < hl.length := by omega
      rw [if_neg (nI_ge hlt (by omega)), ixP, R_get, bd_s, gt_in (show 120 * c + p < rl 0 12 from by show 120 * c + p < 600; omega) (by decide), List.getElem?_eq_getElem hlt]
      rw [h2 p _ (List.getElem?_eq_getElem hlt)]
theorem p_numberWhere (hW : WF z B T) (hY : YR 0 z w) (v : Int32) : F_X2_numberWhere 0 v w = some (nI (cn (fun l => zL z l 1 == v) (gN z)), w) := by
  have hg := hW.g120
  unfold F_X2_numberWhere
  rw [show w.2.1 0 8 = z 1 from hY.f.2.2.2.2.2.2.2.2, hW.g, R_number0 w 0 2 v (N := gN z) hg, bd_s]
  congr 3
  refine cn_congr fun l hl => ?_
  rw [(hY.l l hl).2.1]
/-! hooks -/
theorem WF.k0 (hW : WF z B T) (hc : c < 5) (hh : h < 3) : (zH z c h 0 = 2 ∨ zH z c h 0 = 1) → zH z c h 1 ≠ -1 := by
  have h120 := hW.g120
  intro q
  rcases hW.h c h hc hh with ⟨q1, -, -⟩ | ⟨q1, l, b, hl, hb, q2, -⟩ | ⟨q1, l, hl, q2, -⟩
  · rw [q1] at q; rcases q with q | q <;> cases q
  · rw [q2]; exact nI_m1 (by omega)
  · rw [q2]; exact nI_m1 (by omega)
theorem WF.k3 (hW : WF z B T) (hc : c < 5) (hh : h < 3) : zH z c h 0 = 0 ∨ zH z c h 0 = 1 ∨ zH z c h 0 = 2 := by
  rcases hW.h c h hc hh with ⟨q1, -, -⟩ | ⟨q1, -⟩ | ⟨q1, -⟩
  · exact Or.inl q1
  · exact Or.inr (Or.inl q1)
  · exact Or.inr (Or.inr q1)
theorem p_kindOf (hW : WF z B T) (hY : YR 0 z w) (hc : c < 5) (hh : h < 3) : F_X1_kindOf 0 (nI c) (nI h) w = some (zH z c h 0, w) := by
  unfold F_X1_kindOf F_X1_firstOf
  obtain ⟨y1, y2, y3⟩ := hY.h c h hc hh
  rw [bd_s, ixK, R_get, bd_s, g_15 (by omega) rfl, y1]
  by_cases q : zH z c h 0 = 2
  · rw [if_pos q, if_neg (hW.k0 hc hh (Or.inl q)), q]
  · rw [if_neg q, if_pos rfl, R_get, bd_s, g_15 (by omega) rfl, y2]
    by_cases q2 : zH z c h 0 = 1
    · rw [if_pos q2, if_neg (hW.k0 hc hh (Or.inr q2)), q2]
    · rw [if_neg q2, if_pos rfl]
      rcases hW.k3 hc hh with r | r | r
      · rw [r]
      · exact absurd r q2
      · exact absurd r q
theorem p_leafOf (hW : WF z B T) (hY : YR 0 z w) (hc : c < 5) (hh : h < 3) : F_X1_leafOf 0 (nI c) (nI h) w = some (zH z c h 1, w) := by
  unfold F_X1_leafOf F_X1_firstOf
  obtain ⟨y1, y2, y3⟩ := hY.h c h hc hh
  rw [bd_s, ixK, R_get, bd_s, g_15 (by omega) rfl, y1]
  by_cases q : zH z c h 0 = 2
  · rw [if_pos q, if_neg (hW.k0 hc hh (Or.inl q)), R_get, bd_s, g_15 (by omega) rfl, y1, if_pos q]
  · rw [if_neg q, if_pos rfl, R_get, bd_s, g_15 (by omega) rfl, y2]
    by_cases q2 : zH z c h 0 = 1
    · rw [if_pos q2]
    · rw [if_neg q2]
      rcases hW.h c h hc hh with ⟨-, r, -⟩ | ⟨r, -⟩ | ⟨r, -⟩
      · rw [r]
      · exact absurd r q2
      · exact absurd r q
theorem p_branchOf (hY : YR 0 z w) (hc : c < 5) (hh : h < 3) : F_X1_branchOf 0 (nI c) (nI h) w = some (zH z c h 2, w) := by
  unfold F_X1_branchOf F_X1_firstOf
  rw [bd_s, ixK, R_get, bd_s, g_15 (by omega) rfl, (hY.h c h hc hh).2.2]
theorem y13 (hY : YR 0 z w) {i : Nat} (hi : i < 15) : w.1 0 13 i = (if zH z (i / 3) (i % 3) 0 = 2 then zH z (i / 3) (i % 3) 1 else -1) := by
  have := (hY.h (i / 3) (i % 3) (by omega) (by omega)).1
  rw [show 3 * (i / 3) + i % 3 = i by omega] at this
  exact this
theorem y14 (hY : YR 0 z w) {i : Nat} (hi : i < 15) : w.1 0 14 i = (if zH z (i / 3) (i % 3) 0 = 1 then zH z (i / 3) (i % 3) 1 else -1) := by
  have := (hY.h (i / 3) (i % 3) (by omega) (by omega)).2.1
  rw [show 3 * (i / 3) + i % 3 = i by omega] at this
  exact this
theorem y13b (hY : YR 0 z w) (hl : l < 2 ^ 31) {i : Nat} (hi : i < 15) : (w.1 0 13 i == nI l) = hB z 2 (nI l) i := by
  have hm : ¬ (-1 : Int32) = nI l := fun q => nI_m1 hl q.symm
  rw [y13 hY hi]
  unfold hB
  by_cases q : zH z (i / 3) (i % 3) 0 = 2
  · rw [if_pos q, q]; simp
  · rw [if_neg q, beq_eq_false_iff_ne.mpr hm, beq_eq_false_iff_ne.mpr q]; rfl
theorem y14b (hY : YR 0 z w) (hl : l < 2 ^ 31) {i : Nat} (hi : i < 15) : (w.1 0 14 i == nI l) = hB z 1 (nI l) i := by
  have hm : ¬ (-1 : Int32) = nI l := fun q => nI_m1 hl q.symm
  rw [y14 hY hi]
  unfold hB
  by_cases q : zH z (i / 3) (i % 3) 0 = 1
  · rw [if_pos q, q]; simp
  · rw [if_neg q, beq_eq_false_iff_ne.mpr hm, beq_eq_false_iff_ne.mpr q]; rfl
theorem p_pinsOn (hY : YR 0 z w) (hl : l < 2 ^ 31) : F_X1_pinsOn 0 (nI l) w = some (nI (cn (hB z 2 (nI l)) 15), w) := by
  unfold F_X1_pinsOn
  rw [show R_X4_number 0 13 (nI l) 0 15 w = R_X4_number 0 13 (nI l) 0 (nI 15) w from rfl, R_number0 w 0 13 (nI l) (N := 15) (by decide), bd_s]
  congr 3
  exact cn_congr fun i hi => y13b hY hl hi
theorem p_notesOn (hY : YR 0 z w) (hl : l < 2 ^ 31) : F_X1_notesOn 0 (nI l) w = some (nI (cn (hB z 1 (nI l)) 15), w) := by
  unfold F_X1_notesOn
  rw [show R_X4_number 0 14 (nI l) 0 15 w = R_X4_number 0 14 (nI l) 0 (nI 15) w from rfl, R_number0 w 0 14 (nI l) (N := 15) (by decide), bd_s]
  congr 3
  exact cn_congr fun i hi => y14b hY hl hi
/-- kind of the hook of this number -/
def kB (z : Nat → Int32) (v : Int32) (i : Nat) : Bool := zH z (i / 3) (i % 3) 0 == v
theorem y13n (hW : WF z B T) (hY : YR 0 z w) {i : Nat} (hi : i < 15) : (w.1 0 13 i == -1) = !kB z 2 i := by
  rw [y13 hY hi]
  unfold kB
  by_cases q : zH z (i / 3) (i % 3) 0 = 2
  · rw [if_pos q]; simp [q, hW.k0 (c := i / 3) (h := i % 3) (by omega) (by omega) (Or.inl q)]
  · rw [if_neg q]; simp [q]
theorem y14n (hW : WF z B T) (hY : YR 0 z w) {i : Nat} (hi : i < 15) : (w.1 0 14 i == -1) = !kB z 1 i := by
  rw [y14 hY hi]
  unfold kB
  by_cases q : zH z (i / 3) (i % 3) 0 = 1
  · rw [if_pos q]; simp [q, hW.k0 (c := i / 3) (h := i % 3) (by omega) (by omega) (Or.inr q)]
  · rw [if_neg q]; simp [q]
theorem p_pins (hW : WF z B T) (hY : YR 0 z w) : F_X1_pins 0 w = some (nI (cn (kB z 2) 15), w) := by
  unfold F_X1_pins
  rw [show R_X4_number 0 13 (-1) 0 15 w = R_X4_number 0 13 (-1) 0 (nI 15) w from rfl, R_number0 w 0 13 (-1) (N := 15) (by decide), bd_s]
  congr 2
  show nI 15 - nI _ = _
  rw [nI_sub (cn_le _ _), cn_not' (kB z 2) _ _ (fun i hi => y13n hW hY hi)]
theorem p_notes (hW : WF z B T) (hY : YR 0 z w) : F_X1_notes 0 w = some (nI (cn (kB z 1) 15), w) := by
  unfold F_X1_notes
  rw [show R_X4_number 0 14 (-1) 0 15 w = R_X4_number 0 14 (-1) 0 (nI 15) w from rfl, R_number0 w 0 14 (-1) (N := 15) (by decide), bd_s]
  congr 2
  show nI 15 - nI _ = _
  rw [nI_sub (cn_le _ _), cn_not' (kB z 1) _ _ (fun i hi => y14n hW hY hi)]
theorem ixF (c : Nat) : nI c * 3 = nI (3 * c) := by
  have := ixK c 0
  rwa [nI_0', Int32.add_zero] at this
theorem ixF3 (c : Nat) : nI c * 3 + 3 = nI (3 * c + 3) := ixK c 3
theorem p_pinsOfChild (hW : WF z B T) (hY : YR 0 z w) (hc : c < 5) : F_X1_pinsOfChild 0 (nI c) w = some (nI (cn (fun h => zH z c h 0 == 2) 3), w) := by
  unfold F_X1_pinsOfChild F_X1_firstOf
  rw [bd_s, bd_s, ixF3, ixF, R_number w 0 13 (-1) (by omega) (show 3 * c + 3 ≤ rl 0 13 from by show 3 * c + 3 ≤ 15; omega), bd_s]
  congr 2
  show nI 3 - nI _ = _
  rw [cn_add, Nat.add_sub_cancel_left, nI_sub (cn_le _ _), cn_not' (fun h => zH z c h 0 == 2)]
  intro h hh
  rw [y13n hW hY (by omega)]
  unfold kB
  rw [show (3 * c + h) / 3 = c by omega, show (3 * c + h) % 3 = h by omega]
theorem p_notesOfChild (hW : WF z B T) (hY : YR 0 z w) (hc : c < 5) : F_X1_notesOfChild 0 (nI c) w = some (nI (cn (fun h => zH z c h 0 == 1) 3), w) := by
  unfold F_X1_notesOfChild F_X1_firstOf
  rw [bd_s, bd_s, ixF3, ixF, R_number w 0 14 (-1) (by omega) (show 3 * c + 3 ≤ rl 0 14 from by show 3 * c + 3 ≤ 15; omega), bd_s]
  congr 2
  show nI 3 - nI _ = _
  rw [cn_add, Nat.add_sub_cancel_left, nI_sub (cn_le _ _), cn_not' (fun h => zH z c h 0 == 1)]
  intro h hh
  rw [y14n hW hY (by omega)]
  unfold kB
  rw [show (3 * c + h) / 3 = c by omega, show (3 * c + h) % 3 = h by omega]
theorem p_pinsOnBy (hY : YR 0 z w) (hc : c < 5) (hl : l < 2 ^ 31) : F_X1_pinsOnBy 0 (nI c) (nI l) w = some (nI (cn (fun h => hB z 2 (nI l) (3 * c + h)) 3), w) := by
  unfold F_X1_pinsOnBy F_X1_firstOf
  rw [bd_s, bd_s, ixF3, ixF, R_number w 0 13 (nI l) (by omega) (show 3 * c + 3 ≤ rl 0 13 from by show 3 * c + 3 ≤ 15; omega), bd_s]
  congr 3
  rw [cn_add, Nat.add_sub_cancel_left]
  exact cn_congr fun h hh => y13b hY hl (by omega)
theorem cn3_pos {z : Nat → Int32} {a : Int32} {c : Nat} : cn (fun h => hB z 2 a (3 * c + h)) 3 = 0 ↔ hP z a c = false := by
  rw [cn_0, hP_f]
theorem p_maskOfHolders (hY : YR 0 z w) (hl : l < 2 ^ 31) : F_X1_maskOfHolders 0 (nI l) w = some (mk (hP z (nI l)) 5, w) := by
  have h := (up_loop (fun n i s => L_X1_maskOfHolders_4 0 n (nI l) s (nI i) w) (fun c s => s ||| (if hP z (nI l) c then bit c else 0)) (fun s => ((s, nI 5), w)) 5 (fun c s => s = mk (hP z (nI l)) c)
    (fun n i s hi hI => ⟨by
      show B_X1_maskOfHolders_4 0 (L_X1_maskOfHolders_4 0 n) (nI l) s (nI i) w = _
      unfold B_X1_maskOfHolders_4
      have hle := cn_le (fun h => hB z 2 (nI l) (3 * i + h)) 3
      rw [if_neg (lt5 hi), p_pinsOnBy hY hi hl, bd_s, nI_1]
      by_cases q : hP z (nI l) i = true
      · have : cn (fun h => hB z 2 (nI l) (3 * i + h)) 3 ≠ 0 := fun r => by rw [cn3_pos.mp r] at q; cases q
        rw [if_neg (nI_nle (by omega) (by omega)), if_pos q]; rfl
      · rw [cn3_pos.mpr (Bool.eq_false_iff.mpr q), if_pos (by decide), if_neg q], by rw [hI]; rfl⟩)
    (fun n s _ => by
      show B_X1_maskOfHolders_4 0 (L_X1_maskOfHolders_4 0 n) (nI l) s (nI 5) w = _
      unfold B_X1_maskOfHolders_4
      rw [if_pos (show (5 : Int32) ≤ nI 5 from Int32.le_refl _)]) 5 0 0 9999 (by omega) (by omega) rfl)
  have h2 : L_X1_maskOfHolders_4 0 9999 (nI l) 0 0 w = some ((mk (hP z (nI l)) 5, nI 5), w) := by
    have := h.1
    rw [h.2] at this
    exact this
  unfold F_X1_maskOfHolders
  rw [h2]
  rfl
end PR

