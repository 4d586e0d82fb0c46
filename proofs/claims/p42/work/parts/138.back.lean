/-! calls 19 and 20: goBack, undo -/
theorem bd_assoc {α β γ : Type} (m : Option (α × xWt)) (f : α → xWt → Option (β × xWt)) (g : β → xWt → Option γ) : bd (bd m f) g = bd m (fun a w => bd (f a w) g) := by
  match m with
  | some (a, w) => rfl
  | none => rfl
section BK
variable {xs : Nat → Int32} {L i B T : Nat} {rec : Int32 → xWt → Option Unit} {w : xWt}
theorem p_pop {s nx : Nat} (c1 : 1 ≤ s) (c2 : nx < 6) (c4 : w.2.1 8 2 = nI s) (c5 : w.2.1 8 1 = nI nx) (h6 : s ≤ 6) : ∃ w', F_X5_popInto 0 w = some ((), w') ∧ CP 0 ((if nx = 0 then 5 else nx - 1) + 2) 16 9 w (sF (sF w' 8 1 (nI nx)) 8 2 (nI s)) ∧ w'.2.1 8 1 = nI (if nx = 0 then 5 else nx - 1) ∧ w'.2.1 8 2 = nI (s - 1) := by
  have key : ∀ j, j < 6 → ∃ w4, F_X6_copyFrom 0 (j + 2) w = some ((), w4) ∧ CP 0 (j + 2) 16 9 w (sF (sF (sF (sF w4 8 1 (nI j)) 8 2 (nI (s - 1))) 8 1 (nI nx)) 8 2 (nI s)) ∧ w4.2.1 8 2 = nI s := fun j hj => by
    obtain ⟨w4, e4, h1, h2, h3, h4, h5⟩ := p_copy (k := 0) (k2 := j + 2) (by omega) (by omega) (by omega) w
    refine ⟨w4, e4, ⟨h1, fun j' hj' => ?_, h3, fun k' j' hk => ?_, h5⟩, (h4 8 2 (by omega)).trans c4⟩
    · rw [sF_ne _ _ (by omega), sF_ne _ _ (by omega), sF_ne _ _ (by omega), sF_ne _ _ (by omega)]
      exact h2 j' hj'
    · by_cases q2 : k' = 8 ∧ j' = 2
      · obtain ⟨rfl, rfl⟩ := q2
        rw [sF_eq]; exact c4.symm
      · rw [sF_ne _ _ q2]
        by_cases q1 : k' = 8 ∧ j' = 1
        · obtain ⟨rfl, rfl⟩ := q1
          rw [sF_eq]; exact c5.symm
        · rw [sF_ne _ _ q1, sF_ne _ _ q2, sF_ne _ _ q1]
          exact h4 k' j' hk
  have e1 : nI s - 1 = nI (s - 1) := nI_sub (b := 1) c1
  unfold F_X5_popInto
  rw [c5]
  by_cases e : nx = 0
  · obtain ⟨w4, e4, cp, e5⟩ := key 5 (by omega)
    subst e
    rw [if_pos (by decide), if_pos rfl, show F_X5_placeAt 5 w = some (some (5 + 2), w) from p_placeAt (j := 5) (by decide), bd_s, oy_k (by omega), c4, if_neg (nI_nle c1 (by omega)), e4, bd_s]
    unfold lw
    dsimp only
    rw [sF_ne (k' := 8) (j' := 2) _ _ (by decide), e5, e1]
    exact ⟨_, rfl, cp, by rw [sF_ne _ _ (by decide), sF_eq]; rfl, sF_eq _ _ _ _⟩
  · obtain ⟨w4, e4, cp, e5⟩ := key (nx - 1) (by omega)
    rw [if_neg (nI_nle (by omega) (by omega)), if_neg e, show nI nx - 1 = nI (nx - 1) from nI_sub (b := 1) (by omega), p_placeAt (by omega), bd_s, oy_k (by omega), c4, if_neg (nI_nle c1 (by omega)), e4, bd_s]
    unfold lw
    dsimp only
    rw [sF_ne (k' := 8) (j' := 2) _ _ (by decide), e5, e1]
    exact ⟨_, rfl, cp, by rw [sF_ne _ _ (by decide), sF_eq], sF_eq _ _ _ _⟩
end BK

