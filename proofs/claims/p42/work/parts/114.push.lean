/-! both sides save -/
section PUSH
variable {w : xWt} {s nx : Nat} {z : Nat → Int32} {B T : Nat}
theorem p_placeAt {j : Nat} (hj : j < 6) : F_X5_placeAt (nI j) w = some (some (j + 2), w) := by
  unfold F_X5_placeAt yld
  rw [if_neg (nI_pos (by omega)), if_neg (show ¬ (6 : Int32) ≤ nI j from nI_ge (b := 6) hj (by decide)), if_neg (nI_in (N := 6) hj (by decide)), nI_clamp (by omega)]
theorem oy_k {β : Type} {k : Nat} (hk : k < 8) (a : Option β) (f : Nat → Option β) : oy (some k) a f = f k := if_pos hk
theorem p_push (hn : w.2.1 8 1 = nI nx) (hx : nx < 6) (hs : w.2.1 8 2 = nI s) (h6 : s ≤ 6) : ∃ w', F_X5_push 0 w = some ((), w') ∧ CP (nx + 2) 0 16 9 w (sF (sF w' 8 1 (nI nx)) 8 2 (nI s)) ∧ w'.2.1 8 1 = nI (if nx = 5 then 0 else nx + 1) ∧ w'.2.1 8 2 = nI (if s = 6 then 6 else s + 1) := by
  obtain ⟨w4, e4, c4⟩ := p_copy (k := nx + 2) (k2 := 0) (by omega) (by omega) (by omega) w
  obtain ⟨h1, h2, h3, h4, h5⟩ := c4
  have a1 : w4.2.1 8 1 = nI nx := (h4 8 1 (by omega)).trans hn
  have a2 : w4.2.1 8 2 = nI s := (h4 8 2 (by omega)).trans hs
  have hcp : ∀ (x y : Int32), CP (nx + 2) 0 16 9 w (sF (sF (sF (sF w4 8 1 x) 8 2 y) 8 1 (nI nx)) 8 2 (nI s)) := fun x y => by
    refine ⟨h1, fun j hj => ?_, h3, fun k' j hk => ?_, h5⟩
    · rw [sF_ne _ _ (by omega), sF_ne _ _ (by omega), sF_ne _ _ (by omega), sF_ne _ _ (by omega)]
      exact h2 j hj
    · by_cases q2 : k' = 8 ∧ j = 2
      · obtain ⟨rfl, rfl⟩ := q2
        rw [sF_eq]; exact hs.symm
      · rw [sF_ne _ _ q2]
        by_cases q1 : k' = 8 ∧ j = 1
        · obtain ⟨rfl, rfl⟩ := q1
          rw [sF_eq]; exact hn.symm
        · rw [sF_ne _ _ q1, sF_ne _ _ q2, sF_ne _ _ q1]
          exact h4 k' j hk
  have hmin : (if (6 : Int32) < nI s + 1 then (6 : Int32) else nI s + 1) = nI (if s = 6 then 6 else s + 1) := by
    rw [nI_1]
    by_cases e : s = 6
    · subst e; rfl
    · rw [if_neg (show ¬ (6 : Int32) < nI (s + 1) from nI_nlt (a := 6) (b := s + 1) (by omega) (by decide)), if_neg e]
  unfold F_X5_push
  rw [hn, p_placeAt hx, bd_s, oy_k (by omega), e4, bd_s, a1, nI_1]
  unfold lw
  dsimp only
  by_cases e : nx = 5
  · subst e
    rw [if_pos (by decide), sF_ne (k' := 8) (j' := 2) _ _ (by decide), a2, hmin]
    exact ⟨_, rfl, hcp _ _, by rw [sF_ne _ _ (by decide), sF_eq]; rfl, sF_eq _ _ _ _⟩
  · rw [if_neg (show ¬ (6 : Int32) ≤ nI (nx + 1) from nI_ge (b := 6) (by omega) (by decide)), sF_ne (k' := 8) (j' := 2) _ _ (by decide), a2, hmin]
    exact ⟨_, rfl, hcp _ _, by rw [sF_ne _ _ (by decide), sF_eq, if_neg e], sF_eq _ _ _ _⟩
end PUSH

