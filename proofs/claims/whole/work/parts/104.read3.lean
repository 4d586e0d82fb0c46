/-! calls 22 to 35 -/
section RD3
variable {z : Nat → Int32} {xs : Nat → Int32} {L i B T b c l h : Nat} {rec : Int32 → xWt → Option Unit} {w : xWt} {a : Int32}
theorem K22 (hI : INV w B T) (hi : i + 4 ≤ L) (hL : L ≤ 2048) : ∃ w', K_law_22 xs L rec (nI i) w = rec (nI i + 4) w' ∧ sim w w' := by
  unfold K_law_22
  simp only [sld_1 hi (show L < 2 ^ 31 by omega), sld_2 hi (show L < 2 ^ 31 by omega)]
  generalize xs (i + 1) = a
  generalize xs (i + 2) = a2
  have ho := hI.2.2.2.2
  obtain ⟨hW, hY⟩ := hI.1
  have h120 := hW.g120
  rcases i_cases a (gN (zz w)) (by omega) with ⟨l, hl, rfl⟩ | h
  · rcases i_cases a2 8 (by decide) with ⟨k, hk, rfl⟩ | h2
    · refine rd_ret (Es := [eI', eA']) (v := leafV (zz w) l k) (fM := fun w1 => F_X8_leaf (nI l) (nI k) w1) ho ?_ ?_
      · unfold F_X7_leaf
        rw [p_needLeafY hW hY hl, bx_l, show F_X7_needWhat (nI k) 7 w = some (.inl (), w) from p_needWhatY (N := 7) (by omega) (by decide), bx_l, p_leafV hW hY hl hk, bd_s]
      · show F_X8_leaf (nI l) (nI k) _ = _
        unfold F_X8_leaf
        rw [m_isLeafY (w := sO w _) hW hl, bd_s, if_neg (by decide), show F_X8_in (nI k) 0 7 (sO w _) = some (1, sO w _) from m_inY (N := 7) (by omega) (by decide), bd_s, if_neg (by decide), lw_ok, m_leafV (by omega) hk, bd_s]
        rfl
    · refine rd_thr (Es := [eI', eA']) (k := 2) (b := 0) (E := "java/lang/IllegalArgumentException") (fM := fun w1 => F_X8_leaf (nI l) a2 w1) ?_ rfl (by decide) ?_
      · unfold F_X7_leaf
        rw [p_needLeafY hW hY hl, bx_l, show F_X7_needWhat a2 7 w = _ from p_needWhatN (N := 7) h2 (by decide), bx_r]
      · show F_X8_leaf (nI l) a2 w = _
        unfold F_X8_leaf
        rw [m_isLeafY hW hl, bd_s, if_neg (by decide), show F_X8_in a2 0 7 w = some (0, w) from m_inN (N := 7) h2 (by decide), bd_s, if_pos rfl, lw_thr _ (by decide)]
  · refine rd_thr (Es := [eI', eA']) (k := 1) (b := 0) (E := "java/lang/IndexOutOfBoundsException") (fM := fun w1 => F_X8_leaf a a2 w1) ?_ rfl (by decide) ?_
    · unfold F_X7_leaf
      rw [p_needLeafN hW hY h, bx_r]
    · show F_X8_leaf a a2 w = _
      unfold F_X8_leaf
      rw [m_isLeafN hW h, bd_s, if_pos rfl, lw_thr _ (by decide)]
theorem K28 (hI : INV w B T) (hi : i + 4 ≤ L) (hL : L ≤ 2048) : ∃ w', K_law_28 xs L rec (nI i) w = rec (nI i + 4) w' ∧ sim w w' := by
  unfold K_law_28
  simp only [sld_1 hi (show L < 2 ^ 31 by omega)]
  generalize xs (i + 1) = a
  have ho := hI.2.2.2.2
  obtain ⟨hW, hY⟩ := hI.1
  have h120 := hW.g120
  rcases i_cases a (gN (zz w)) (by omega) with ⟨l, hl, rfl⟩ | h
  · refine rd_ret (Es := [eI']) (v := if zL (zz w) l 1 = 2 then 0 else if zL (zz w) l 1 = 0 then 1 else if mB (zz w) l (zz w 9) then 3 else 2) (fM := fun w1 => F_X8_why (nI l) w1) ho ?_ ?_
    · unfold F_X7_why
      rw [p_needLeafY hW hY hl, bx_l, p_whyNotBurnt hW hY hl, bd_s]
    · show F_X8_why (nI l) _ = _
      unfold F_X8_why
      rw [m_isLeafY (w := sO w _) hW hl, bd_s, if_neg (by decide), lw_ok, m_whyNot (by omega), bd_s]
      rfl
  · refine rd_thr (Es := [eI']) (k := 1) (b := 0) (E := "java/lang/IndexOutOfBoundsException") (fM := fun w1 => F_X8_why a w1) ?_ rfl (by decide) ?_
    · unfold F_X7_why
      rw [p_needLeafN hW hY h, bx_r]
    · show F_X8_why a w = _
      unfold F_X8_why
      rw [m_isLeafN hW h, bd_s, if_pos rfl, lw_thr _ (by decide)]
theorem K23 (hI : INV w B T) (hi : i + 4 ≤ L) (hL : L ≤ 2048) : ∃ w', K_law_23 xs L rec (nI i) w = rec (nI i + 4) w' ∧ sim w w' := by
  unfold K_law_23
  simp only [sld_1 hi (show L < 2 ^ 31 by omega), sld_2 hi (show L < 2 ^ 31 by omega)]
  generalize xs (i + 1) = a
  generalize xs (i + 2) = a2
  have ho := hI.2.2.2.2
  obtain ⟨hW, hY⟩ := hI.1
  rcases childs hY a with ⟨c, hc, rfl, ht⟩ | ⟨h1, h2⟩
  · rcases i_cases a2 8 (by decide) with ⟨k, hk, rfl⟩ | h2
    · refine rd_ret (Es := [eI', eA']) (v := childV (zz w) c k) (fM := fun w1 => F_X8_child (nI c) (nI k) w1) ho ?_ ?_
      · unfold F_X7_child
        rw [p_needChildY hY hc ht, bx_l, show F_X7_needWhat (nI k) 7 w = some (.inl (), w) from p_needWhatY (N := 7) (by omega) (by decide), bx_l, p_childV hW hY hc ht hk, bd_s]
      · show F_X8_child (nI c) (nI k) _ = _
        unfold F_X8_child
        rw [m_isChildY (w := sO w _) hc ht, bd_s, if_neg (by decide), show F_X8_in (nI k) 0 7 (sO w _) = some (1, sO w _) from m_inY (N := 7) (by omega) (by decide), bd_s, if_neg (by decide), lw_ok, m_childV (w := sF (sO w _) 9 0 0) hW hc hk, bd_s]
        rfl
    · refine rd_thr (Es := [eI', eA']) (k := 2) (b := 0) (E := "java/lang/IllegalArgumentException") (fM := fun w1 => F_X8_child (nI c) a2 w1) ?_ rfl (by decide) ?_
      · unfold F_X7_child
        rw [p_needChildY hY hc ht, bx_l, show F_X7_needWhat a2 7 w = _ from p_needWhatN (N := 7) h2 (by decide), bx_r]
      · show F_X8_child (nI c) a2 w = _
        unfold F_X8_child
        rw [m_isChildY hc ht, bd_s, if_neg (by decide), show F_X8_in a2 0 7 w = some (0, w) from m_inN (N := 7) h2 (by decide), bd_s, if_pos rfl, lw_thr _ (by decide)]
  · refine rd_thr (Es := [eI', eA']) (k := 1) (b := 0) (E := "java/lang/IndexOutOfBoundsException") (fM := fun w1 => F_X8_child a a2 w1) ?_ rfl (by decide) ?_
    · unfold F_X7_child
      rw [h1, bx_r]
    · show F_X8_child a a2 w = _
      unfold F_X8_child
      rw [h2 w rfl, bd_s, if_pos rfl, lw_thr _ (by decide)]
theorem K33 (hI : INV w B T) (hi : i + 4 ≤ L) (hL : L ≤ 2048) : ∃ w', K_law_33 xs L rec (nI i) w = rec (nI i + 4) w' ∧ sim w w' := by
  unfold K_law_33
  simp only [sld_1 hi (show L < 2 ^ 31 by omega)]
  generalize xs (i + 1) = a
  have ho := hI.2.2.2.2
  obtain ⟨hW, hY⟩ := hI.1
  rcases childs hY a with ⟨c, hc, rfl, ht⟩ | ⟨h1, h2⟩
  · refine rd_ret (Es := [eI']) (v := nI (cn (mW (zz w) c) (gN (zz w)))) (fM := fun w1 => F_X8_ifRested (nI c) w1) ho ?_ ?_
    · unfold F_X7_ifRested
      rw [p_needChildY hY hc ht, bx_l, p_burnableIfRested hW hY hc, bd_s]
      rfl
    · show F_X8_ifRested (nI c) _ = _
      unfold F_X8_ifRested
      rw [m_isChildY (w := sO w _) hc ht, bd_s, if_neg (by decide), lw_ok, m_burnableWithout (w := sF (sO w _) 9 0 0) hc hW.g hW.g120, bd_s]
      rfl
  · refine rd_thr (Es := [eI']) (k := 1) (b := 0) (E := "java/lang/IndexOutOfBoundsException") (fM := fun w1 => F_X8_ifRested a w1) ?_ rfl (by decide) ?_
    · unfold F_X7_ifRested
      rw [h1, bx_r]
    · show F_X8_ifRested a w = _
      unfold F_X8_ifRested
      rw [h2 w rfl, bd_s, if_pos rfl, lw_thr _ (by decide)]
theorem K25 (hI : INV w B T) (hi : i + 4 ≤ L) (hL : L ≤ 2048) (hT : T < 2 ^ 30) : ∃ w', K_law_25 xs L rec (nI i) w = rec (nI i + 4) w' ∧ sim w w' := by
  unfold K_law_25
  simp only [sld_1 hi (show L < 2 ^ 31 by omega), sld_2 hi (show L < 2 ^ 31 by omega)]
  generalize xs (i + 1) = a
  generalize xs (i + 2) = a2
  have ho := hI.2.2.2.2
  obtain ⟨hW, hY⟩ := hI.1
  have hgt := hW.g120
  rcases childs hY a with ⟨c, hc, rfl, ht⟩ | ⟨h1, h2⟩
  · by_cases h0 : a2 < 0
    · refine rd_thr (Es := [eI', eA']) (k := 2) (b := 0) (E := "java/lang/IllegalArgumentException") (fM := fun w1 => F_X8_heap (nI c) a2 w1) ?_ rfl (by decide) ?_
      · unfold F_X7_heap
        rw [p_needChildY hY hc ht, bx_l, if_neg (Int32.not_le.mpr h0)]
      · show F_X8_heap (nI c) a2 w = _
        unfold F_X8_heap
        rw [m_isChildY hc ht, bd_s, if_neg (by decide)]
        first
          | rw [if_pos h0, lw_thr _ (by decide)]
          | rw [if_neg (Int32.not_le.mpr h0), lw_thr _ (by decide)]
    · obtain ⟨hl, q1, q2, q3, q4⟩ := p_heap hW hY hc
      have hTt : ∀ l, l ∈ hl → zL (zz w) l 5 = nI (tu (zz w) l) ∧ tu (zz w) l < 2 ^ 31 := fun l hm => by
        obtain ⟨e1, e2⟩ := (q1.1 l).mp hm
        obtain ⟨e2, e3⟩ := oB_iff.mp e2
        rcases hW.l l e1 with q | q | ⟨-, d, s, t, a1, a2, a3, a4, a5, a6, a7⟩
        · rw [q] at e2; cases e2
        · rw [q] at e2; cases e2
        · have := hW.s.2.2.2.2.2.1
          unfold tu
          rw [a6, nI_clamp (by omega)]
          exact ⟨rfl, by omega⟩
      refine rd_ret (Es := [eI', eA']) (v := at9 hl a2) (fM := fun w1 => F_X8_heap (nI c) a2 w1) ho ?_ ?_
      · unfold F_X7_heap
        rw [p_needChildY hY hc ht, bx_l, if_pos (Int32.not_lt.mp h0), p_leafOnHeap hc q2 q3 q4, bd_s]
      · show F_X8_heap (nI c) a2 _ = _
        unfold F_X8_heap
        rw [m_isChildY (w := sO w _) hc ht, bd_s, if_neg (by decide)]
        first
          | rw [if_neg h0, lw_ok, m_onHeap (w := sF (sO w _) 9 0 0) hc hW.g hW.g120 q1 hTt, bd_s]
          | rw [if_pos (Int32.not_lt.mp h0), lw_ok, m_onHeap (w := sF (sO w _) 9 0 0) hc hW.g hW.g120 q1 hTt, bd_s]
  · refine rd_thr (Es := [eI', eA']) (k := 1) (b := 0) (E := "java/lang/IndexOutOfBoundsException") (fM := fun w1 => F_X8_heap a a2 w1) ?_ rfl (by decide) ?_
    · unfold F_X7_heap
      rw [h1, bx_r]
    · show F_X8_heap a a2 w = _
      unfold F_X8_heap
      rw [h2 w rfl, bd_s, if_pos rfl, lw_thr _ (by decide)]
end RD3
