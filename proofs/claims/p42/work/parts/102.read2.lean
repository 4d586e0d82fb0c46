/-! numbers of a leaf, of a child -/
def leafV (z : Nat → Int32) (l : Nat) : Nat → Int32
  | 0 => zL z l 0
  | 1 => zL z l 1
  | 2 => zL z l 2
  | 3 => zL z l 3
  | 4 => if zL z l 1 = 1 then zL z l 4 else -1
  | 5 => mk (hP z (nI l)) 5
  | 6 => nI (cn (hB z 2 (nI l)) 15)
  | _ => nI (cn (hB z 1 (nI l)) 15)
def childV (z : Nat → Int32) (c : Nat) : Nat → Int32
  | 0 => zC z c 1
  | 1 => zC z c 2
  | 2 => nI (cn (fun h => zH z c h 0 == 2) 3)
  | 3 => nI (cn (fun h => zH z c h 0 == 1) 3)
  | 4 => nI (hN z c)
  | 5 => zC z c 3
  | 6 => zC z c 4
  | _ => zC z c 5
section RD2
variable {z : Nat → Int32} {xs : Nat → Int32} {L i B T b c l h : Nat} {rec : Int32 → xWt → Option Unit} {w : xWt} {a : Int32}
theorem p_leafV (hW : WF z B T) (hY : YR 0 z w) (hl : l < gN z) {k : Nat} (hk : k < 8) : F_X6_numberOfLeaf 0 (nI l) (nI k) w = some (leafV z l k, w) := by
  have h120 := hW.g120
  obtain ⟨y1, y2, y3, y4, y5⟩ := hY.l l hl
  unfold F_X6_numberOfLeaf
  match k, hk with
  | 0, _ => rw [if_pos (by decide), R_get, bd_s, g_120 (by omega) rfl, y1]; rfl
  | 1, _ => rw [if_neg (by decide), if_pos (by decide), R_get, bd_s, g_120 (by omega) rfl, y2]; rfl
  | 2, _ => rw [if_neg (by decide), if_neg (by decide), if_pos (by decide), R_get, bd_s, g_120 (by omega) rfl, y3]; rfl
  | 3, _ => rw [if_neg (by decide), if_neg (by decide), if_neg (by decide), if_pos (by decide), R_get, bd_s, g_120 (by omega) rfl, y4]; rfl
  | 4, _ => rw [if_neg (by decide), if_neg (by decide), if_neg (by decide), if_neg (by decide), if_pos (by decide), R_get, bd_s, g_120 (by omega) rfl, y5]; rfl
  | 5, _ => rw [if_neg (by decide), if_neg (by decide), if_neg (by decide), if_neg (by decide), if_neg (by decide), if_pos (by decide), p_maskOfHolders hY (by omega), bd_s]; rfl
  | 6, _ => rw [if_neg (by decide), if_neg (by decide), if_neg (by decide), if_neg (by decide), if_neg (by decide), if_neg (by decide), if_pos (by decide), p_pinsOn hY (by omega), bd_s]; rfl
  | 7, _ => rw [if_neg (by decide), if_neg (by decide), if_neg (by decide), if_neg (by decide), if_neg (by decide), if_neg (by decide), if_neg (by decide), p_notesOn hY (by omega), bd_s]; rfl
  | n + 8, hk => exact absurd hk (by omega)
theorem p_childV (hW : WF z B T) (hY : YR 0 z w) (hc : c < 5) (ht : zC z c 0 = 1) {k : Nat} (hk : k < 8) : F_X6_numberOfChild 0 (nI c) (nI k) w = some (childV z c k, w) := by
  obtain ⟨y1, y2, y3⟩ := hY.c c hc
  obtain ⟨y3, y4, y5⟩ := y3 ht
  unfold F_X6_numberOfChild
  match k, hk with
  | 0, _ =>
    rw [if_pos (by decide), p_isInYard hW hY hc, bd_s]
    unfold childV yI
    rcases hW.c c hc with ⟨q, -⟩ | ⟨-, ⟨q, -⟩ | ⟨q, -⟩⟩
    · rw [q] at ht; cases ht
    · rw [q]; rfl
    · rw [q]; rfl
  | 1, _ => rw [if_neg (by decide), if_pos (by decide), R_get, bd_s, g_5 hc rfl, y2]; rfl
  | 2, _ => rw [if_neg (by decide), if_neg (by decide), if_pos (by decide), p_pinsOfChild hW hY hc, bd_s]; rfl
  | 3, _ => rw [if_neg (by decide), if_neg (by decide), if_neg (by decide), if_pos (by decide), p_notesOfChild hW hY hc, bd_s]; rfl
  | 4, _ => rw [if_neg (by decide), if_neg (by decide), if_neg (by decide), if_neg (by decide), if_pos (by decide), R_get, bd_s, p_heapN hW hY hc]; rfl
  | 5, _ => rw [if_neg (by decide), if_neg (by decide), if_neg (by decide), if_neg (by decide), if_neg (by decide), if_pos (by decide), R_get, bd_s, g_5 hc rfl, y3]; rfl
  | 6, _ => rw [if_neg (by decide), if_neg (by decide), if_neg (by decide), if_neg (by decide), if_neg (by decide), if_neg (by decide), if_pos (by decide), R_get, bd_s, g_5 hc rfl, y4]; rfl
  | 7, _ => rw [if_neg (by decide), if_neg (by decide), if_neg (by decide), if_neg (by decide), if_neg (by decide), if_neg (by decide), if_neg (by decide), R_get, bd_s, g_5 hc rfl, y5]; rfl
  | n + 8, hk => exact absurd hk (by omega)
/-! who is there -/
theorem m_isChildY (hc : c < 5) (ht : zC (zz w) c 0 = 1) : F_X8_isChild (nI c) w = some (1, w) := by
  unfold F_X8_isChild
  rw [show F_X8_in (nI c) 0 4 w = some (1, w) from m_inY (N := 4) (by omega) (by decide), bd_s, if_neg (by decide), m_ofC0 hc, bd_s, if_pos ht]
theorem p_needChildY (hY : YR 0 z w) (hc : c < 5) (ht : zC z c 0 = 1) : F_X7_needChild (nI c) w = some (.inl (), w) := by
  unfold F_X7_needChild
  rw [p_isHere hY hc, bd_s]
  unfold ch
  rw [ht]
  rfl
theorem childs (hY : YR 0 z w) (a : Int32) : (∃ c, c < 5 ∧ a = nI c ∧ zC z c 0 = 1) ∨ (F_X7_needChild a w = some (.inr "java/lang/IndexOutOfBoundsException", w) ∧ ∀ w1, zz w1 = z → F_X8_isChild a w1 = some (0, w1)) := by
  rcases i_cases a 5 (by decide) with ⟨c, hc, rfl⟩ | h
  · by_cases ht : zC z c 0 = 1
    · exact Or.inl ⟨c, hc, rfl, ht⟩
    · refine Or.inr ⟨?_, fun w1 hz => ?_⟩
      · unfold F_X7_needChild
        rw [p_isHere hY hc, bd_s]
        unfold ch
        rw [decide_eq_false ht]
        rfl
      · unfold F_X8_isChild
        rw [show F_X8_in (nI c) 0 4 w1 = some (1, w1) from m_inY (N := 4) (by omega) (by decide), bd_s, if_neg (by decide), m_ofC0 hc, bd_s, hz, if_neg ht]
  · refine Or.inr ⟨?_, fun w1 _ => ?_⟩
    · unfold F_X7_needChild
      rw [p_isHere_out h, bd_s, if_pos rfl]
    · unfold F_X8_isChild
      rw [show F_X8_in a 0 4 w1 = some (0, w1) from m_inN (N := 4) h (by decide), bd_s, if_pos rfl]
theorem p_needLeafY (hW : WF z B T) (hY : YR 0 z w) (hl : l < gN z) : F_X7_needLeaf (nI l) w = some (.inl (), w) := by
  have := hW.g120
  unfold F_X7_needLeaf
  rw [if_neg (nI_pos (by omega)), show w.2.1 0 8 = z 1 from hY.f.2.2.2.2.2.2.2.2, hW.g, if_pos (nI_lt hl (by omega))]
theorem p_needLeafN (hW : WF z B T) (hY : YR 0 z w) (h : a < 0 ∨ gN z ≤ a.toNatClampNeg) : F_X7_needLeaf a w = some (.inr "java/lang/IndexOutOfBoundsException", w) := by
  unfold F_X7_needLeaf
  by_cases h0 : a < 0
  · rw [if_pos h0]
  · rw [if_neg h0, show w.2.1 0 8 = z 1 from hY.f.2.2.2.2.2.2.2.2, hW.g, if_neg (ltI h h0)]
theorem p_needWhatY {k N : Nat} (h : k ≤ N) (hN : N < 2 ^ 31) : F_X7_needWhat (nI k) (nI N) w = some (.inl (), w) := by
  unfold F_X7_needWhat
  rw [if_neg (nI_pos (by omega)), if_pos (nI_le h hN)]
theorem p_needWhatN {N : Nat} (h : a < 0 ∨ N + 1 ≤ a.toNatClampNeg) (hN : N + 1 < 2 ^ 31) : F_X7_needWhat a (nI N) w = some (.inr "java/lang/IllegalArgumentException", w) := by
  unfold F_X7_needWhat
  by_cases h0 : a < 0
  · rw [if_pos h0]
  · rw [if_neg h0, if_neg]
    obtain ⟨j, h1, rfl⟩ := nI_of h0
    rcases h with h | h
    · exact absurd h h0
    · rw [nI_clamp h1] at h
      exact nI_ge (by omega) h1
end RD2

