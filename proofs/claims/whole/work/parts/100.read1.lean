/-! the law's calls that change nothing -/
theorem sld_1 {β : Type} {xs : Nat → Int32} {L i : Nat} (h : i + 4 ≤ L) (hL : L < 2 ^ 31) (f : Int32 → Option β) : sld xs L (nI i + 1) f = f (xs (i + 1)) := sld_k (k := 1) (by omega) hL
theorem sld_2 {β : Type} {xs : Nat → Int32} {L i : Nat} (h : i + 4 ≤ L) (hL : L < 2 ^ 31) (f : Int32 → Option β) : sld xs L (nI i + 2) f = f (xs (i + 2)) := sld_k (k := 2) (by omega) hL
theorem sld_3 {β : Type} {xs : Nat → Int32} {L i : Nat} (h : i + 4 ≤ L) (hL : L < 2 ^ 31) (f : Int32 → Option β) : sld xs L (nI i + 3) f = f (xs (i + 3)) := sld_k (k := 3) (by omega) hL
theorem call_ret {rec : Int32 → xWt → Option Unit} {l4 v : Int32} {fP : Option ((Int32 ⊕ String) × xWt)} {fM : xWt → Option (Int32 × xWt)} {Es : List String} {w1 wM : xWt} (hP : fP = some (.inl v, w1)) (ho : w1.2.2 ≠ none) (hM : fM (sO w1 v.toInt64) = some (v, wM)) (ht : wM.2.1 9 0 = 0) (hmo : wM.2.2 = some v.toInt64) : bd (lwrap fP Es) (fun k w1 => bd (fM w1) (fun b w2 => tl rec l4 k b w2)) = rec (l4 + 4) wM := by
  rw [hP, lwrap_ret ho, bd_s, hM, bd_s, tl_ret ht hmo]
theorem call_thr {rec : Int32 → xWt → Option Unit} {l4 k b : Int32} {E : String} {fP : Option ((Int32 ⊕ String) × xWt)} {fM : xWt → Option (Int32 × xWt)} {Es : List String} {w1 wM : xWt} (hP : fP = some (.inr E, w1)) (hc : hcode Es 1 E = some k) (hk : k ≠ 0) (hM : fM w1 = some (b, wM)) (ht : wM.2.1 9 0 = k) : bd (lwrap fP Es) (fun k w1 => bd (fM w1) (fun b w2 => tl rec l4 k b w2)) = rec (l4 + 4) wM := by
  rw [hP]
  unfold lwrap
  dsimp only
  rw [hc]
  show bd (some (k, w1)) _ = _
  rw [bd_s, hM, bd_s, tl_thr hk ht]
theorem lw_thr {A : xWt → Option (Int32 × xWt)} {n : Int32} (w : xWt) (h : ¬ n ≤ 0) : lw (sF w 9 0 n) (fun w3 => if (w3.2.1 9 0) ≤ 0 then A w3 else some (0, w3)) = some (0, sF w 9 0 n) := by
  unfold lw
  dsimp only
  rw [sF_eq, if_neg h]
theorem lw_ok {A : xWt → Option (Int32 × xWt)} (w : xWt) : lw (sF w 9 0 0) (fun w3 => if (w3.2.1 9 0) ≤ 0 then A w3 else some (0, w3)) = A (sF w 9 0 0) := by
  unfold lw
  dsimp only
  rw [sF_eq, if_pos (by decide)]
theorem m_inY {w : xWt} {j N : Nat} (h : j ≤ N) (hN : N < 2 ^ 31) : F_X8_in (nI j) 0 (nI N) w = some (1, w) := by
  rw [m_in, if_neg]
  exact fun q => q.elim (nI_pos (by omega)) (nI_nlt h hN)
theorem m_inN {w : xWt} {a : Int32} {N : Nat} (h : a < 0 ∨ N + 1 ≤ a.toNatClampNeg) (hN : N + 1 < 2 ^ 31) : F_X8_in a 0 (nI N) w = some (0, w) := by
  rw [m_in, if_pos]
  rcases h with h | h
  · exact Or.inl h
  · by_cases h0 : a < 0
    · exact Or.inl h0
    · obtain ⟨j, h1, rfl⟩ := nI_of h0
      rw [nI_clamp h1] at h
      exact Or.inr (nI_lt (by omega) h1)
section RD
variable {xs : Nat → Int32} {L i B T b c l h : Nat} {rec : Int32 → xWt → Option Unit} {w : xWt} {a : Int32}
theorem m_isBranchY (hb : b < 12) : F_X8_isBranch (nI b) w = some (1, w) := by
  unfold F_X8_isBranch
  rw [show F_X8_in (nI b) 0 11 w = some (1, w) from m_inY (N := 11) (by omega) (by decide), bd_s, zr_1]
theorem m_isBranchN (h : a < 0 ∨ 12 ≤ a.toNatClampNeg) : F_X8_isBranch a w = some (0, w) := by
  unfold F_X8_isBranch
  rw [show F_X8_in a 0 11 w = some (0, w) from m_inN (N := 11) h (by decide), bd_s, zr_0]
theorem ltI {a : Int32} {N : Nat} (h : a < 0 ∨ N ≤ a.toNatClampNeg) (h0 : ¬ a < 0) : ¬ a < nI N := by
  obtain ⟨j, h1, rfl⟩ := nI_of h0
  rcases h with h | h
  · exact absurd h h0
  · rw [nI_clamp h1] at h
    exact nI_nlt h h1
theorem p_needBranchY (hb : b < 12) : F_X7_needBranch (nI b) w = some (.inl (), w) := by
  unfold F_X7_needBranch
  rw [if_neg (nI_pos (by omega)), if_pos (show nI b < 12 from nI_lt (b := 12) hb (by decide))]
theorem p_needBranchN (h : a < 0 ∨ 12 ≤ a.toNatClampNeg) : F_X7_needBranch a w = some (.inr "java/lang/IndexOutOfBoundsException", w) := by
  unfold F_X7_needBranch
  by_cases h0 : a < 0
  · rw [if_pos h0]
  · rw [if_neg h0, if_neg (show ¬ a < 12 from ltI (N := 12) h h0)]
theorem bx_l {α β : Type} (x : α) (w : xWt) (f : α → xWt → Option ((β ⊕ String) × xWt)) : bx (some (.inl x, w)) f = f x w := rfl
theorem bx_r {α β : Type} (E : String) (w : xWt) (f : α → xWt → Option ((β ⊕ String) × xWt)) : bx (some ((.inr E : α ⊕ String), w)) f = some (.inr E, w) := rfl
theorem K21 (hI : INV w B T) (hi : i + 4 ≤ L) (hL : L ≤ 2048) : ∃ w', K_law_21 xs L rec (nI i) w = rec (nI i + 4) w' ∧ sim w w' := by
  unfold K_law_21
  simp only [sld_1 hi (show L < 2 ^ 31 by omega)]
  generalize xs (i + 1) = a
  have ho := hI.2.2.2.2
  obtain ⟨hW, hY⟩ := hI.1
  rcases i_cases a 12 (by decide) with ⟨b, hb, rfl⟩ | h
  · refine ⟨_, call_ret (Es := [eI']) (v := zz w (10 + b)) (w1 := w) (fM := fun w1 => F_X8_branch (nI b) w1) (wM := sF (sO w (zz w (10 + b)).toInt64) 9 0 0) ?_ ho ?_ (sF_eq _ _ _ _) rfl, (sim.out _ _).trans (sim.thr _ _)⟩
    · unfold F_X7_branch
      rw [p_needBranchY hb, bx_l, R_get, bd_s, g_12 hb, hY.b b hb]
    · show F_X8_branch (nI b) _ = _
      unfold F_X8_branch
      rw [m_isBranchY hb, bd_s, if_neg (by decide), lw_ok, m_br hb]
      rfl
  · refine ⟨_, call_thr (Es := [eI']) (w1 := w) (k := 1) (b := 0) (E := "java/lang/IndexOutOfBoundsException") (fM := fun w1 => F_X8_branch a w1) (wM := sF w 9 0 1) ?_ rfl (by decide) ?_ (sF_eq _ _ _ _), sim.thr _ _⟩
    · unfold F_X7_branch
      rw [p_needBranchN h, bx_r]
    · show F_X8_branch a w = _
      unfold F_X8_branch
      rw [m_isBranchN h, bd_s, if_pos rfl, lw_thr _ (by decide)]
end RD
