/-! what must hold before a call, on both sides; the calls enter, rest, ring, note, pin, loosen, look, set -/
theorem DO.mono {z : Nat → Int32} {w : xWt} {B T B' T' : Nat} {fP fM : xWt → Option (Int32 × xWt)} (hB : B ≤ B') (hT : T ≤ T') (h : DO z B T w fP fM) : DO z B' T' w fP fM := fun wr hz => by
  obtain ⟨v, wq, wE, a1, a2, a3, a4, a5, a6⟩ := h wr hz
  exact ⟨v, wq, wE, a1, a2, a3, a4, a5, a6.mono hB hT⟩
section T1
variable {z : Nat → Int32} {xs : Nat → Int32} {L i B T b c l h : Nat} {rec : Int32 → xWt → Option Unit} {w : xWt} {a : Int32}
theorem WF.abs (hW : WF z B T) (hc : c < 5) (h0 : zC z c 0 ≠ 1) : yI z c = false ∧ ∀ h, h < 3 → zH z c h 0 = 0 := by
  rcases hW.c c hc with ⟨-, q1, -, q2⟩ | ⟨q, -⟩
  · exact ⟨by unfold yI; rw [q1]; rfl, q2⟩
  · exact absurd q h0
theorem brs (hW : WF z B T) (hb : b < 12) : z (10 + b) = -1 ∨ ∃ l, l < gN z ∧ z (10 + b) = nI l := by
  rcases hW.b b hb with q | ⟨l, q1, q2, -⟩
  · exact Or.inl q
  · exact Or.inr ⟨l, q1, q2⟩
end T1

