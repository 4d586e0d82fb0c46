/-! the law's loop: every script -/
section LOOP
variable {xs : Nat → Int32} {L : Nat}
theorem neg4 : ∀ L, L < 4 → nI L - 4 < 0 := by decide +kernel
theorem law_loop (hL : L ≤ 2048) : ∀ (n i : Nat) (w : xWt) (B T : Nat), INV w B T → i ≤ 4000 → L < 4 * n + i + 4 → B + 60 * n < 2 ^ 28 → T + 200 * n < 2 ^ 28 → L_law xs L (n + 1) (nI i) w = some () := by
  intro n
  induction n with
  | zero =>
    intro i w B T hI hi4 hn _ _
    show B_law xs L (L_law xs L 0) (nI i) w = some ()
    unfold B_law
    refine if_pos ?_
    by_cases q : L < 4
    · exact Int32.lt_of_lt_of_le (neg4 L q) (nI_pos' (by omega))
    · show nI L - nI 4 < nI i
      rw [nI_sub (by omega)]
      exact nI_lt (by omega) (by omega)
  | succ n ih =>
    intro i w B T hI hi4 hn hB hT
    show B_law xs L (L_law xs L (n + 1)) (nI i) w = some ()
    unfold B_law
    by_cases hex : (Int32.ofNat L) - 4 < nI i
    · rw [if_pos hex]
    have hi : i + 4 ≤ L := by
      rcases nI_sub4 (by omega) hex (by omega) with q | q
      · exact q
      · exact absurd (Int32.lt_of_lt_of_le (neg4 L q) (nI_pos' (by omega))) hex
    rw [if_neg hex]
    unfold sld
    rw [if_neg (nI_in (by omega) (by omega)), nI_clamp (by omega)]
    have hB30 : B < 2 ^ 30 := by omega
    have hT30 : T < 2 ^ 30 := by omega
    have hB29 : B < 2 ^ 29 := by omega
    have hT29 : T < 2 ^ 29 := by omega
    have nxt : ∀ w', INV w' (B + 60) (T + 200) → L_law xs L (n + 1) (nI i + 4) w' = some () := fun w' h => by
      rw [show nI i + 4 = nI (i + 4) from nI_add i 4]
      exact ih (i + 4) w' (B + 60) (T + 200) h (by omega) (by omega) (by omega) (by omega)
    have d1 : ∀ X : Option Unit, (∃ w', X = L_law xs L (n + 1) (nI i + 4) w' ∧ INV w' (B + 60) (T + 200)) → X = some () := fun X h => by
      obtain ⟨w', e, hI'⟩ := h
      rw [e]; exact nxt w' hI'
    have d2 : ∀ X : Option Unit, (∃ w', X = L_law xs L (n + 1) (nI i + 4) w' ∧ INV w' B T) → X = some () := fun X h => by
      obtain ⟨w', e, hI'⟩ := h
      rw [e]; exact nxt w' (hI'.mono (by omega) (by omega))
    have d3 : ∀ X : Option Unit, (∃ w', X = L_law xs L (n + 1) (nI i + 4) w' ∧ sim w w') → X = some () := fun X h => by
      obtain ⟨w', e, hs⟩ := h
      rw [e]; exact nxt w' ((hI.sim hs).mono (by omega) (by omega))
    dsimp only
    generalize (xs i &&& 63).toInt = x
    by_cases q : x = 0
    · rw [if_pos q]
      exact d1 _ (K0 hI)
    rw [if_neg q]
    clear q
    by_cases q : x = 1
    · rw [if_pos q]
      exact d1 _ (K1 hI hi hL hT30)
    rw [if_neg q]
    clear q
    by_cases q : x = 2
    · rw [if_pos q]
      exact d1 _ (K2 hI hi hL)
    rw [if_neg q]
    clear q
    by_cases q : x = 3
    · rw [if_pos q]
      exact d1 _ (K3 hI hi hL)
    rw [if_neg q]
    clear q
    by_cases q : x = 4
    · rw [if_pos q]
      exact d1 _ (K4 hI hB30)
    rw [if_neg q]
    clear q
    by_cases q : x = 5
    · rw [if_pos q]
      exact d1 _ (K5 hI hi hL)
    rw [if_neg q]
    clear q
    by_cases q : x = 6
    · rw [if_pos q]
      exact d1 _ (K6 hI hi hL)
    rw [if_neg q]
    clear q
    by_cases q : x = 7
    · rw [if_pos q]
      exact d1 _ (K7 hI hi hL)
    rw [if_neg q]
    clear q
    by_cases q : x = 8
    · rw [if_pos q]
      exact d1 _ (K8 hI hi hL)
    rw [if_neg q]
    clear q
    by_cases q : x = 9
    · rw [if_pos q]
      exact d1 _ (K9 hI hi hL)
    rw [if_neg q]
    clear q
    by_cases q : x = 10
    · rw [if_pos q]
      exact d1 _ (K10 hI hi hL hT30)
    rw [if_neg q]
    clear q
    by_cases q : x = 11
    · rw [if_pos q]
      exact d1 _ (K11 hI hi hL hT30)
    rw [if_neg q]
    clear q
    by_cases q : x = 12
    · rw [if_pos q]
      exact d1 _ (K12 hI hi hL)
    rw [if_neg q]
    clear q
    by_cases q : x = 13
    · rw [if_pos q]
      exact d1 _ (K13 hI hi hL)
    rw [if_neg q]
    clear q
    by_cases q : x = 14
    · rw [if_pos q]
      exact d2 _ (K14 hI hi hL)
    rw [if_neg q]
    clear q
    by_cases q : x = 15
    · rw [if_pos q]
      exact d2 _ (K15 hI)
    rw [if_neg q]
    clear q
    by_cases q : x = 16
    · rw [if_pos q]
      exact d1 _ (K16 hI)
    rw [if_neg q]
    clear q
    by_cases q : x = 17
    · rw [if_pos q]
      exact d1 _ (K17 hI hB29 hT29)
    rw [if_neg q]
    clear q
    by_cases q : x = 18
    · rw [if_pos q]
      exact d2 _ (K18 hI)
    rw [if_neg q]
    clear q
    by_cases q : x = 19
    · rw [if_pos q]
      exact d1 _ (K19 hI)
    rw [if_neg q]
    clear q
    by_cases q : x = 20
    · rw [if_pos q]
      exact d1 _ (K20 hI)
    rw [if_neg q]
    clear q
    by_cases q : x = 21
    · rw [if_pos q]
      exact d3 _ (K21 hI hi hL)
    rw [if_neg q]
    clear q
    by_cases q : x = 22
    · rw [if_pos q]
      exact d3 _ (K22 hI hi hL)
    rw [if_neg q]
    clear q
    by_cases q : x = 23
    · rw [if_pos q]
      exact d3 _ (K23 hI hi hL)
    rw [if_neg q]
    clear q
    by_cases q : x = 24
    · rw [if_pos q]
      exact d3 _ (K24 hI hi hL)
    rw [if_neg q]
    clear q
    by_cases q : x = 25
    · rw [if_pos q]
      exact d3 _ (K25 hI hi hL hT30)
    rw [if_neg q]
    clear q
    by_cases q : x = 26
    · rw [if_pos q]
      exact d3 _ (K26 hI hi hL)
    rw [if_neg q]
    clear q
    by_cases q : x = 27
    · rw [if_pos q]
      exact d3 _ (K27 hI hi hL)
    rw [if_neg q]
    clear q
    by_cases q : x = 28
    · rw [if_pos q]
      exact d3 _ (K28 hI hi hL)
    rw [if_neg q]
    clear q
    by_cases q : x = 29
    · rw [if_pos q]
      exact d3 _ (K29 hI hi hL)
    rw [if_neg q]
    clear q
    by_cases q : x = 30
    · rw [if_pos q]
      exact d3 _ (K30 hI)
    rw [if_neg q]
    clear q
    by_cases q : x = 31
    · rw [if_pos q]
      exact d3 _ (K31 hI hi hL)
    rw [if_neg q]
    clear q
    by_cases q : x = 32
    · rw [if_pos q]
      exact d3 _ (K32 hI)
    rw [if_neg q]
    clear q
    by_cases q : x = 33
    · rw [if_pos q]
      exact d3 _ (K33 hI hi hL)
    rw [if_neg q]
    clear q
    by_cases q : x = 34
    · rw [if_pos q]
      exact d3 _ (K34 hI hB30)
    rw [if_neg q]
    clear q
    by_cases q : x = 35
    · rw [if_pos q]
      exact d3 _ (K35 hI)
    rw [if_neg q]
    clear q
    by_cases q : x = 36
    · rw [if_pos q]
      exact d1 _ (K36 hI)
    rw [if_neg q]
    clear q
    by_cases q : x = 37
    · rw [if_pos q]
      exact d1 _ (K37 hI)
    rw [if_neg q]
    clear q
    by_cases q : x = 38
    · rw [if_pos q]
      exact d1 _ (K38 hI hB30 hT30)
    rw [if_neg q]
    clear q
    exact nxt w (hI.mono (by omega) (by omega))
theorem law_pure {w : xWt} (hL : L ≤ 2048) (hI : INV w 0 0) : L_law xs L 600 0 w = some () :=
  law_loop hL 599 0 w 0 0 hI (by omega) (by omega) (by omega) (by omega)
end LOOP
