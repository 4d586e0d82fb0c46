/-! the saved states behind a save -/
theorem iSaved.push {w w1 wE : xWt} {B T s nx : Nat} (hN : iNow w B T) (hs6 : s ≤ 6) (hx : nx < 6) (hsv : ∀ j, j < s → WF (sv w j) B T ∧ YR (rg nx s j) (sv w j) w) (hcp : CP (nx + 2) 0 16 9 w w1)
    (hrow : ∀ k, 2 ≤ k → k < 8 → ∀ r, wE.1 k r = w1.1 k r) (hfd : ∀ k, 2 ≤ k → k < 8 → ∀ j, wE.2.1 k j = w1.2.1 k j)
    (e1 : wE.2.1 9 1 = nI (if s = 6 then 6 else s + 1)) (e2 : wE.2.1 8 2 = nI (if s = 6 then 6 else s + 1)) (e3 : wE.2.1 8 1 = nI (if nx = 5 then 0 else nx + 1))
    (g1 : ∀ i, i < 817 → wE.1 9 1 (817 * (if s = 6 then 5 else s) + i) = zz w i) (g2 : ∀ j, j < (if s = 6 then 5 else s) → ∀ i, i < 817 → wE.1 9 1 (817 * j + i) = w.1 9 1 (817 * (if s = 6 then j + 1 else j) + i)) : iSaved wE B T := by
  refine ⟨if s = 6 then 6 else s + 1, if nx = 5 then 0 else nx + 1, by split <;> omega, by split <;> omega, e1, e2, e3, fun j hj => ?_⟩
  by_cases hnew : j = (if s = 6 then 5 else s)
  · have hz : ∀ i, i < 817 → zz w i = sv wE j i := fun i hi => by
      unfold sv
      rw [hnew]
      exact (g1 i hi).symm
    have hr : rg (if nx = 5 then 0 else nx + 1) (if s = 6 then 6 else s + 1) j = nx + 2 := by
      rw [hnew]
      unfold rg
      split <;> split <;> omega
    refine ⟨hN.1.congr hz, ?_⟩
    rw [hr]
    exact (((hN.2.copy (by omega) hN.1 hcp).rows (by omega) (fun r => hrow _ (by omega) (by omega) r) (fun j => hfd _ (by omega) (by omega) j))).congr hz hN.1.g120
  · have hjo : j < (if s = 6 then 5 else s) := by
      revert hj hnew
      split <;> intro hj hnew <;> omega
    have hjs : (if s = 6 then j + 1 else j) < s := by
      revert hjo
      split <;> intro hjo <;> omega
    obtain ⟨a1, a2⟩ := hsv _ hjs
    have hz : ∀ i, i < 817 → sv w (if s = 6 then j + 1 else j) i = sv wE j i := fun i hi => (g2 j hjo i hi).symm
    have hr : rg (if nx = 5 then 0 else nx + 1) (if s = 6 then 6 else s + 1) j = rg nx s (if s = 6 then j + 1 else j) := by
      revert hjo
      unfold rg
      split <;> split <;> intro hjo <;> omega
    have hne : rg nx s (if s = 6 then j + 1 else j) ≠ nx + 2 := by
      revert hjo
      unfold rg
      split <;> intro hjo <;> omega
    have hlt := rg_lt nx s (if s = 6 then j + 1 else j)
    have hge : 2 ≤ rg nx s (if s = 6 then j + 1 else j) := by unfold rg; omega
    refine ⟨a1.congr hz, ?_⟩
    rw [hr]
    have b1 : YR (rg nx s (if s = 6 then j + 1 else j)) (sv w (if s = 6 then j + 1 else j)) w1 := a2.rows hlt (fun r => hcp.2.2.1 _ r hne) (fun j => hcp.2.2.2.1 _ j hne)
    exact ((b1.rows hlt (fun r => hrow _ hge hlt r) (fun j => hfd _ hge hlt j))).congr hz a1.g120
