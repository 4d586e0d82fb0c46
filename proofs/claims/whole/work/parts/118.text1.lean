/-! calls 15 and 14: the buffer -/
def simT (w w' : xWt) : Prop := (∀ k r, ¬ (k = 9 ∧ (r = 3 ∨ r = 4)) → ¬ (k = 8 ∧ r = 0) → w'.1 k r = w.1 k r) ∧ (∀ k j, ¬ (k = 9 ∧ (j = 0 ∨ j = 3 ∨ j = 4 ∨ j = 5)) → ¬ (k = 8 ∧ j = 0) → w'.2.1 k j = w.2.1 k j) ∧ (w.2.2 ≠ none → w'.2.2 ≠ none)
theorem YR.simT {k : Nat} {z : Nat → Int32} {w w' : xWt} (hk : k < 8) (h : simT w w') (hY : YR k z w) : YR k z w' :=
  hY.rows hk (fun r => h.1 k r (by omega) (by omega)) (fun j => h.2.1 k j (by omega) (by omega))
theorem INV.text {w w' : xWt} {B T : Nat} (h : simT w w') (hI : INV w B T) (ht : iText w') : INV w' B T := by
  obtain ⟨⟨a1, a2⟩, ⟨b1, b2⟩, ⟨s, nx, c1, c2, c3, c4, c5, c6⟩, -, e⟩ := hI
  have ez : zz w' = zz w := h.1 9 0 (by omega) (by omega)
  have e1 : w'.1 9 1 = w.1 9 1 := h.1 9 1 (by omega) (by omega)
  have e2 : w'.1 9 2 = w.1 9 2 := h.1 9 2 (by omega) (by omega)
  refine ⟨⟨by rw [ez]; exact a1, by rw [ez]; exact a2.simT (by omega) h⟩, ⟨by rw [h.2.1 8 3 (by omega) (by omega), h.2.1 9 2 (by omega) (by omega)]; exact b1, ?_⟩, ⟨s, nx, c1, c2, by rw [h.2.1 9 1 (by omega) (by omega)]; exact c3, by rw [h.2.1 8 2 (by omega) (by omega)]; exact c4, by rw [h.2.1 8 1 (by omega) (by omega)]; exact c5, fun j hj => ?_⟩, ht, h.2.2 e⟩
  · rw [h.2.1 9 2 (by omega) (by omega), e2]
    rcases b2 with q | ⟨q1, q2, q3⟩
    · exact Or.inl q
    · exact Or.inr ⟨q1, q2, q3.simT (by omega) h⟩
  · have es : sv w' j = sv w j := by unfold sv; rw [e1]
    rw [es]
    exact ⟨(c6 j hj).1, (c6 j hj).2.simT (rg_lt _ _ _) h⟩
section TX1
variable {xs : Nat → Int32} {L i B T : Nat} {rec : Int32 → xWt → Option Unit} {w : xWt}
theorem K15 (hI : INV w B T) : ∃ w', K_law_15 xs L rec (nI i) w = rec (nI i + 4) w' ∧ INV w' B T := by
  obtain ⟨ln, d1, d2, d3, d4⟩ := hI.2.2.2.1
  unfold K_law_15 F_X7_clearBuffer F_X3_empty F_X8_clearBuffer lw
  dsimp only
  rw [bd_s, bd_s, bd_s, d2]
  refine ⟨_, if_pos ?_, INV.text (w := w) ⟨fun k r _ _ => rfl, fun k j h1 h2 => ?_, fun q => q⟩ hI ⟨0, by omega, ?_, ?_, fun i hi => absurd hi (by omega)⟩⟩
  · rw [sF_ne _ _ (by decide), sF_ne _ _ (by decide)]; exact d3.symm
  · rw [sF_ne _ _ (by omega), sF_ne _ _ (by omega), sF_ne _ _ (by omega)]
  · rw [sF_ne _ _ (by decide), sF_ne _ _ (by decide), sF_eq]; rfl
  · rw [sF_eq]; rfl
end TX1
