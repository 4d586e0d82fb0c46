/-! the best rake -/
def hN (z : Nat → Int32) (c : Nat) : Nat := cn (fun l => oB z c l) (gN z)
def bR (z : Nat → Int32) (c : Nat) : Nat := cn (fun l => oB z c l && mB z l (z 9)) (gN z)
def bI : Option Nat → Int32
  | none => -1
  | some c => nI c
def bS (z : Nat → Int32) (c : Nat) (s : Option Nat × Nat) : Option Nat × Nat :=
  if s.2 < bR z c then (some c, bR z c) else if bR z c = 0 then s else if bR z c = s.2 then (match s.1 with
    | some b => if hN z c ≤ hN z b then s else (some c, bR z c)
    | none => s) else s
def bV (s : Option Nat × Nat) : Prop := s.2 ≤ 120 ∧ (s.1 = none → s.2 = 0) ∧ ∀ b, s.1 = some b → b < 5
section BEST
variable {z : Nat → Int32} {w : xWt} {B T c l h b g : Nat}
theorem bR_le (z : Nat → Int32) (c : Nat) : bR z c ≤ gN z := cn_le _ _
theorem hN_le (z : Nat → Int32) (c : Nat) : hN z c ≤ gN z := cn_le _ _
theorem bV_step (h120 : gN z ≤ 120) (hc : c < 5) {s : Option Nat × Nat} (hs : bV s) : bV (bS z c s) := by
  have := bR_le z c
  unfold bS
  split
  · exact ⟨by show bR z c ≤ 120; omega, fun q => (by cases q), fun b q => by cases q; exact hc⟩
  · split
    · exact hs
    · split
      · split
        · split
          · exact hs
          · exact ⟨by show bR z c ≤ 120; omega, fun q => (by cases q), fun b q => by cases q; exact hc⟩
        · exact hs
      · exact hs
theorem p_heapN (hW : WF z B T) (hY : YR 0 z w) (hc : c < 5) : gt w 0 11 (nI c) = nI (hN z c) := by
  obtain ⟨hl, q1, q2, q3, q4⟩ := p_heap hW hY hc
  rw [q3, ← q1.len]
  rfl
theorem p_bestHeap (hW : WF z B T) (hY : YR 0 z w) : F_X6_bestHeap 0 w = some (bI (iter (bS z) 0 5 (none, 0)).1, w) := by
  have h120 := hW.g120
  have hs9 : z 9 = 0 ∨ z 9 = 1 := hW.s.2.2.2.2.2.2.2
  have h := (up_loop (fun n i s => L_X6_bestHeap_6 0 n (bI s.1) (nI s.2) (nI i) w) (bS z) (fun s => ((bI s.1, nI s.2, nI 5), w)) 5 (fun _ s => bV s)
    (fun n i s hi hI => ⟨by
      show B_X6_bestHeap_6 0 (L_X6_bestHeap_6 0 n) (bI s.1) (nI s.2) (nI i) w = _
      unfold B_X6_bestHeap_6
      have b1 := bR_le z i
      have b2 := hN_le z i
      have b3 := hI.1
      rw [if_neg (lt5 hi), show w.2.1 0 2 = z 9 from hY.f.2.2.1, p_burnable hW hY hi hs9, bd_s, R_get, bd_s, R_get, bd_s, p_heapN hW hY hi, nI_1]
      show (if nI (hN z i) ≤ gt w 0 11 (bI s.1) then (if nI s.2 < nI (bR z i) then _ else (if nI (bR z i) ≤ 0 then _ else (if nI (bR z i) = nI s.2 then _ else _))) else (if nI s.2 < nI (bR z i) then _ else (if nI (bR z i) ≤ 0 then _ else (if nI (bR z i) = nI s.2 then _ else _)))) = _
      unfold bS
      by_cases q1 : s.2 < bR z i
      · have e1 : nI s.2 < nI (bR z i) := nI_lt q1 (by omega)
        rw [if_pos e1, if_pos e1, if_pos q1, ite_self]
        rfl
      · have e1 : ¬ nI s.2 < nI (bR z i) := nI_nlt (by omega) (by omega)
        rw [if_neg e1, if_neg e1, if_neg q1]
        by_cases q2 : bR z i = 0
        · have e2 : nI (bR z i) ≤ 0 := by rw [q2]; decide
          rw [if_pos e2, if_pos e2, if_pos q2, ite_self]
        · have e2 : ¬ nI (bR z i) ≤ 0 := nI_nle (by omega) (by omega)
          rw [if_neg e2, if_neg e2, if_neg q2]
          by_cases q3 : bR z i = s.2
          · have e3 : nI (bR z i) = nI s.2 := congrArg nI q3
            rw [if_pos e3, if_pos e3, if_pos q3]
            cases hs1 : s.1 with
            | none => exact absurd ((hI.2.1 hs1)) (by omega)
            | some b =>
              have hb := hI.2.2 b hs1
              have b4 := hN_le z b
              show (if nI (hN z i) ≤ gt w 0 11 (nI b) then _ else _) = _
              rw [p_heapN hW hY hb]
              dsimp only
              by_cases q4 : hN z i ≤ hN z b
              · rw [if_pos (nI_le q4 (by omega)), if_pos q4, hs1]
              · rw [if_neg (nI_ge (by omega) (by omega)), if_neg q4]
                rfl
          · have e3 : ¬ nI (bR z i) = nI s.2 := fun r => q3 (nI_inj (by omega) (by omega) r)
            rw [if_neg e3, if_neg e3, if_neg q3, ite_self], bV_step h120 hi hI⟩)
    (fun n s _ => by
      show B_X6_bestHeap_6 0 (L_X6_bestHeap_6 0 n) (bI s.1) (nI s.2) (nI 5) w = _
      unfold B_X6_bestHeap_6
      rw [if_pos (show (5 : Int32) ≤ nI 5 from Int32.le_refl _)]) 5 0 (none, 0) 9999 (by omega) (by omega) ⟨by decide, fun _ => rfl, fun b q => by cases q⟩).1
  unfold F_X6_bestHeap
  exact (congrArg (fun o => bd o _) h).trans rfl
theorem absent_heap (hW : WF z B T) (hc : c < 5) (h0 : zC z c 0 ≠ 1) : ∀ l, l < gN z → oB z c l = false := by
  intro l hl
  rw [Bool.eq_false_iff]
  intro r
  obtain ⟨r1, r2⟩ := oB_iff.mp r
  rcases hW.l l hl with q | q | ⟨-, d, s, t, a1, a2, a3, a4, a5, a6, a7⟩
  · rw [q] at r1; cases r1
  · rw [q] at r1; cases r1
  · have e : c = d := nI_inj (by omega) (by omega) (r2.symm.trans a4)
    rw [e] at h0
    exact h0 a7
end BEST

