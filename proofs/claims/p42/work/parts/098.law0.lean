/-! one call of the law -/
theorem YR.rows {k : Nat} {z : Nat → Int32} {w w' : xWt} (hk : k < 8) (h1 : ∀ r, w'.1 k r = w.1 k r) (h2 : ∀ j, w'.2.1 k j = w.2.1 k j) (hY : YR k z w) : YR k z w' := by
  refine ⟨?_, ?_, ?_, ?_, ?_, ?_⟩
  · have q := hY.f
    unfold yF at q ⊢
    rw [h2, h2, h2, h2, h2, h2, h2, h2, h2]
    exact q
  · intro b hb; rw [h1]; exact hY.b b hb
  · intro l hl; rw [h1, h1, h1, h1, h1]; exact hY.l l hl
  · intro c hc; rw [h1, h1, h1, h1, h1]; exact hY.c c hc
  · intro c h hc hh; rw [h1, h1, h1]; exact hY.h c h hc hh
  · intro c hc; rw [h1, h1]; exact hY.p c hc
theorem WF.mono {z : Nat → Int32} {B T B' T' : Nat} (hB : B ≤ B') (hT : T ≤ T') (h : WF z B T) : WF z B' T' := by
  obtain ⟨⟨a1, a2, a3, a4, a5, a6, a7, a8⟩, r⟩ := h
  exact ⟨⟨a1, Nat.le_trans a2 hB, a3, a4, a5, Nat.le_trans a6 hT, a7, a8⟩, r⟩
