/-! the law's calls that change nothing -/
theorem m_inY {w : xWt} {j N : Nat} (h : j ≤ N) (hN : N < 2 ^ 31) : F_X8_in (nI j) 0 (nI N) w = some (1, w) := by
  rw [m_in, if_neg]
  exact fun q => q.elim (nI_pos (by omega)) (nI_nlt h hN)
theorem m_inN {w : xWt} {a : Int32} {N : Nat} (h : a < 0 ∨ N + 1 ≤ a.toNatClampNeg) (hN : N + 1 < 2 ^ 31) : F_X8_in a 0 (nI N) w = some (0, w) := by
  rw [m_in, if_pos]
  rcases h with h | h
  · exact Or.inl h
  · by_cases h0 : a < 0
    · exact Or.inl h0
    · obtain ⟨j, h1, rfl⟩ := nI_of h0
      rw [nI_clamp h1] at h
      exact Or.inr (nI_lt (by omega) h1)
section RD
variable {xs : Nat → Int32} {L i B T b c l h : Nat} {rec : Int32 → xWt → Option Unit} {w : xWt} {a : Int32}
theorem ltI {a : Int32} {N : Nat} (h : a < 0 ∨ N ≤ a.toNatClampNeg) (h0 : ¬ a < 0) : ¬ a < nI N := by
  obtain ⟨j, h1, rfl⟩ := nI_of h0
  rcases h with h | h
  · exact absurd h h0
  · rw [nI_clamp h1] at h
    exact nI_nlt h h1
theorem p_needBranchY (hb : b < 12) : F_X7_needBranch (nI b) w = some (.inl (), w) := by
  unfold F_X7_needBranch
  rw [if_neg (nI_pos (by omega)), if_pos (show nI b < 12 from nI_lt (b := 12) hb (by decide))]
theorem p_needBranchN (h : a < 0 ∨ 12 ≤ a.toNatClampNeg) : F_X7_needBranch a w = some (.inr "java/lang/IndexOutOfBoundsException", w) := by
  unfold F_X7_needBranch
  by_cases h0 : a < 0
  · rw [if_pos h0]
  · rw [if_neg h0, if_neg (show ¬ a < 12 from ltI (N := 12) h h0)]
theorem bx_l {α β : Type} (x : α) (w : xWt) (f : α → xWt → Option ((β ⊕ String) × xWt)) : bx (some (.inl x, w)) f = f x w := rfl
theorem bx_r {α β : Type} (E : String) (w : xWt) (f : α → xWt → Option ((β ⊕ String) × xWt)) : bx (some ((.inr E : α ⊕ String), w)) f = some (.inr E, w) := rfl
end RD

