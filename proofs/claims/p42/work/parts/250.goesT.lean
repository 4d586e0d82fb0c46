/-! every turn of the law -/
section TN
variable {z z' : Nat → Int32} {w w1 w' : xWt} {B T c i : Nat} {a2 a3 : Int32} {xs : Nat → Int32} {L : Nat}
theorem st_goes (hI : IN z w B T) (hB : B < 2 ^ 18) (hT : T < 2 ^ 30) : ST w (B + 1) (T + 121) (F_L_goes a2 a3 w) := by
  have hR := hI.2.2.1
  obtain ⟨c, hc, ec⟩ := l_low a3 (n := 5) (by omega) (by omega) w
  obtain ⟨k, hk, ek⟩ := l_low a2 (n := 10) (by omega) (by omega) w
  have e7 : ∀ f : Int32 → xWt → Option (Int32 × xWt), bd (α := Int32) (if zC z c 0 = 1 then some (1, w) else some (0, w)) f = f (if zC z c 0 = 1 then 1 else 0) w := fun f => by
    by_cases q : zC z c 0 = 1
    · rw [if_pos q, if_pos q, bd_s]
    · rw [if_neg q, if_neg q, bd_s]
  have e11 : ∀ f : Int32 → xWt → Option (Int32 × xWt), bd (α := Int32) (if zC z c 1 = 1 then some (1, w) else some (0, w)) f = f (if zC z c 1 = 1 then 1 else 0) w := fun f => by
    by_cases q : zC z c 1 = 1
    · rw [if_pos q, if_pos q, bd_s]
    · rw [if_neg q, if_neg q, bd_s]
  rw [goes_eq, show F_L_low a3 5 w = some (nI c, w) from ec, bd_s, show F_L_low a2 10 w = some (nI k, w) from ek, bd_s, ix60, a4 (by omega), (hR.c c hc).1, e7, ← ix60, ix6c1, a4 (by omega), (hR.c c hc).2.1, e11]
  by_cases q2 : 2 ≤ nI k
  · rw [if_pos q2]
    by_cases q4 : 4 ≤ nI k
    · rw [if_pos q4]
      by_cases q7 : 7 ≤ nI k
      · rw [if_pos q7]
        by_cases q70 : nI k = 7
        · rw [if_pos q70]
          exact g_come hI
        · rw [if_neg q70]
          by_cases q8 : nI k = 8
          · rw [if_pos q8]
            exact g_set hI
          · rw [if_neg q8]
            exact g_leave hI hB hT hc rfl
      · rw [if_neg q7]
        exact g_ring hI hB
    · rw [if_neg q4]
      exact g_rest hI hc rfl rfl
  · rw [if_neg q2]
    exact g_enter hI hc rfl rfl
theorem l_low0 (k : Nat) (h0 : 0 < k) (hk : k < 2 ^ 31) (w : xWt) : F_L_low 0 (nI k) w = some (0, w) := by
  unfold F_L_low
  rw [show ((0 : Int32) &&& 2147483647) = nI 0 by decide, rm_n (by omega) h0 hk, Nat.zero_mod]
  rfl
/-- the very first turn -/
theorem st_first (hI : IN z w B T) (ht : zC z 0 0 = 1) (hy : zC z 0 1 ≠ 1) : STs w (B + 1) (T + 121) (F_L_goes 0 (nI 0) w) := by
  have hR := hI.2.2.1
  have h := hR.c 0 (by omega)
  rw [goes_eq, show F_L_low (nI 0) 5 w = some (0, w) from l_low0 5 (by omega) (by omega) w, bd_s, show F_L_low 0 10 w = some (0, w) from l_low0 10 (by omega) (by omega) w, bd_s, show (6 * (0 : Int32)) = nI (6 * 0) from rfl, a4 (by omega), h.1, if_pos ht, bd_s, show nI (6 * 0) + 1 = nI (6 * 0 + 1) from rfl, a4 (by omega), h.2.1, if_neg hy, bd_s, if_neg (by decide)]
  exact g_enterS (c := 0) hI (by omega) ht hy
theorem l_cell (hL : L ≤ 260) {a : Nat} (ha : a < 2 ^ 31) (w : xWt) : ∃ v, F_L_cell xs L (nI a) w = some (v, w) := by
  unfold F_L_cell
  by_cases q : Int32.ofNat L ≤ nI a
  · rw [if_pos q]
    exact ⟨_, rfl⟩
  · rw [if_neg q]
    have hlt : a < L := Nat.lt_of_not_le (fun h => q (nI_le (a := L) h ha))
    have e : sld xs L (nI a) (fun x3 => some (x3, w)) = some (xs a, w) := by
      unfold sld
      rw [nI_clamp ha, if_neg (fun r => r.elim (fun s => nI_pos ha s) (fun s => absurd s (by omega)))]
    rw [e]
    exact ⟨_, rfl⟩
theorem turn_end {rec : Int32 → xWt → Option Unit} {o : Option (Int32 × xWt)} (hB : B < 2 ^ 18) (h : ∃ z' w', o = some (1, w') ∧ IN z' w' B T ∧ (SV1 w → SV1 w')) (i : Nat) : ∃ w', bd (bd o (fun x w => some (x, w))) (fun o17 w16 => (if o17 = 0 then none else bd (F_L_isSo w16) (fun x30 w29 => (if x30 = 0 then none else rec (nI i + 1) w29)))) = rec (nI (i + 1)) w' ∧ (∃ z', IN z' w' B T) ∧ (SV1 w → SV1 w') := by
  obtain ⟨z', w', e, hI, hS⟩ := h
  refine ⟨w', ?_, ⟨z', hI⟩, hS⟩
  rw [e, bd_s, bd_s, if_neg (by decide), l_isSo hI.1 hB hI.2.1 hI.2.2.1 hI.2.2.2, bd_s, if_neg (by decide), nI_1]
theorem law_turn {rec : Int32 → xWt → Option Unit} (hL : L ≤ 260) (hI : IN z w B T) (hB : B + 1 < 2 ^ 18) (hT : T < 2 ^ 30) (hi : i < 44) : ∃ w', B_law xs L rec (nI i) w = rec (nI (i + 1)) w' ∧ (∃ z', IN z' w' (B + 1) (T + 121)) ∧ (SV1 w → SV1 w') := by
  obtain ⟨x7, e7⟩ := l_cell (xs := xs) hL (a := 2 * i) (by omega) w
  obtain ⟨x9, e9⟩ := l_cell (xs := xs) hL (a := 2 * i + 1) (by omega) w
  obtain ⟨q, hq, eq⟩ := l_low (x7 >>> (12 &&& 31)) (n := 9) (by omega) (by omega) w
  unfold B_law
  rw [if_neg (show ¬ (44 : Int32) ≤ nI i from nI_ge (b := 44) hi (by omega)), ix2, e7, bd_s, nI_1, e9, bd_s]
  by_cases q2 : (2 : Int32) ≤ nI i
  · rw [if_pos q2, show F_L_low (x7 >>> (12 &&& 31)) 9 w = some (nI q, w) from eq, bd_s, bd_s, if_pos q2]
    by_cases k2 : (2 : Int32) ≤ nI q
    · rw [if_pos k2]
      by_cases k5 : (5 : Int32) ≤ nI q
      · rw [if_pos k5]
        exact turn_end hB (st_leaves hI (by omega) hT) i
      · rw [if_neg k5]
        exact turn_end hB (st_hooks hI (by omega)) i
    · rw [if_neg k2]
      exact turn_end hB (st_goes hI (by omega) hT) i
  · rw [if_neg q2, bd_s, if_neg q2]
    exact turn_end hB (st_goes hI (by omega) hT) i
theorem law_first {rec : Int32 → xWt → Option Unit} (hL : L ≤ 260) (hI : IN z w B T) (hB : B + 1 < 2 ^ 18) (ht : zC z 0 0 = 1) (hy : zC z 0 1 ≠ 1) : ∃ w', B_law xs L rec (nI 0) w = rec (nI (0 + 1)) w' ∧ (∃ z', IN z' w' (B + 1) (T + 121)) ∧ SV1 w' := by
  obtain ⟨x7, e7⟩ := l_cell (xs := xs) hL (a := 2 * 0) (by omega) w
  obtain ⟨x9, e9⟩ := l_cell (xs := xs) hL (a := 2 * 0 + 1) (by omega) w
  obtain ⟨z', w', e, hI', hS⟩ := st_first hI ht hy
  obtain ⟨w2, f1, f2, f3⟩ := turn_end (w := w') (rec := rec) (o := F_L_goes 0 (nI 0) w) hB ⟨z', w', e, hI', fun q => q⟩ 0
  refine ⟨w2, ?_, f2, f3 hS⟩
  unfold B_law
  rw [if_neg (by decide), ix2, e7, bd_s, nI_1, e9, bd_s, if_neg (by decide), bd_s, if_neg (by decide)]
  exact f1
theorem law_end {rec : Int32 → xWt → Option Unit} (hI : IN z w B T) (hS : SV1 w) : B_law xs L rec (nI 44) w = some () := by
  obtain ⟨s, nx, h1, h2, h3, h4, h5⟩ := hS
  have e : F_X7_count 15 w = some (.inl (nI s), w) := x_count hI.1 hI.2.1 h4 (k := 15) (by omega)
  unfold B_law
  rw [if_pos (show (44 : Int32) ≤ nI 44 from Int32.le_refl _), e, bi_l, if_neg (show ¬ (6 : Int32) < nI s from nI_nlt (a := 6) (b := s) h2 (by omega)), e, bi_l, if_neg (show ¬ nI s ≤ 0 from nI_nle (by omega) (by omega))]
theorem law_loop (hL : L ≤ 260) : ∀ (m i : Nat) (z : Nat → Int32) (w : xWt), i + m = 44 → IN z w i (121 * i) → SV1 w → L_law xs L (m + 1) (nI i) w = some () := by
  intro m
  induction m with
  | zero =>
    intro i z w h hI hS
    have hi : i = 44 := by omega
    subst hi
    exact law_end hI hS
  | succ m ih =>
    intro i z w h hI hS
    obtain ⟨w', e, ⟨z', hI'⟩, hS'⟩ := law_turn (xs := xs) (rec := L_law xs L (m + 1)) hL hI (by omega) (by omega) (i := i) (by omega)
    refine Eq.trans e (ih (i + 1) z' w' (by omega) ?_ (hS' hS))
    exact ⟨hI'.1.mono (by omega) (by omega), hI'.2⟩
theorem law_all (hL : L ≤ 260) (hI : IN z w 0 0) (ht : zC z 0 0 = 1) (hy : zC z 0 1 ≠ 1) : L_law xs L 45 0 w = some () := by
  obtain ⟨w', e, ⟨z', hI'⟩, hS'⟩ := law_first (xs := xs) (rec := L_law xs L 44) hL hI (by omega) ht hy
  exact Eq.trans e (law_loop hL 43 1 z' w' (by omega) ⟨hI'.1.mono (by omega) (by omega), hI'.2⟩ hS')
end TN
