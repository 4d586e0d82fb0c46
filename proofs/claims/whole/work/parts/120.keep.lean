/-! call 18: keep -/
section KEEP
variable {xs : Nat → Int32} {L i B T : Nat} {rec : Int32 → xWt → Option Unit} {w : xWt}
theorem m_keep7 : ∃ f : Nat → Int32, L_X8_keep_7 9999 0 w = some (nI 817, sRow w 9 2 f) ∧ ∀ i, i < 817 → f i = zz w i := by
  have h := up_loop (fun n i (f : Nat → Int32) => L_X8_keep_7 n (nI i) (sRow w 9 2 f)) (fun i f => upd f i (zz w i)) (fun f => (nI 817, sRow w 9 2 f)) 817 (fun i f => ∀ j, j < i → f j = zz w j)
    (fun n i f hi hI => ⟨by
      show B_X8_keep_7 (L_X8_keep_7 n) (nI i) (sRow w 9 2 f) = _
      unfold B_X8_keep_7
      rw [if_neg (lt817 hi), m_z (by omega), ast_in (k := 9) (r := 2) (by show i < 817; omega), sRow_eq, sRow_sRow, nI_1]
      rfl, fun j hj => by
        by_cases e : j = i
        · subst e; exact upd_eq _ _ _
        · rw [upd_ne _ _ (by omega)]; exact hI j (by omega)⟩)
    (fun n f _ => by
      show B_X8_keep_7 (L_X8_keep_7 n) (nI 817) (sRow w 9 2 f) = _
      unfold B_X8_keep_7
      rw [if_pos (show (817 : Int32) ≤ nI 817 from Int32.le_refl _)]) 817 0 (w.1 9 2) 9999 (by omega) (by omega) (fun j hj => absurd hj (by omega))
  refine ⟨_, ?_, h.2⟩
  have h1 := h.1
  rw [sRow_self] at h1
  exact h1
theorem K18 (hI : INV w B T) : ∃ w', K_law_18 xs L rec (nI i) w = rec (nI i + 4) w' ∧ INV w' B T := by
  obtain ⟨hN, hK, ⟨s, nx, c1, c2, c3, c4, c5, c6⟩, ⟨ln, d1, d2, d3, d4⟩, hO⟩ := hI
  obtain ⟨w1, e1, cp⟩ := p_copy (k := 1) (k2 := 0) (by omega) (by omega) (by omega) w
  have hY1 : YR 1 (zz w) w1 := hN.2.copy (by omega) hN.1 cp
  obtain ⟨-, -, h3, h4, h5⟩ := cp
  have z1 : zz w1 = zz w := h3 9 0 (by omega)
  obtain ⟨f, e2, g⟩ := m_keep7 (w := sF (sF w1 8 3 1) 9 0 0)
  have g' : ∀ i, i < 817 → zz w i = f i := fun i hi => ((g i hi).trans (congrFun z1 i)).symm
  unfold K_law_18 F_X7_keep F_X8_keep lw
  dsimp only
  rw [e1, bd_s, bd_s, e2, bd_s, m_z0, bd_s]
  refine ⟨_, if_pos ?_, ⟨⟨?_, ?_⟩, ⟨?_, Or.inr ⟨sF_eq _ _ _ _, ?_, ?_⟩⟩, ⟨s, nx, c1, c2, ?_, ?_, ?_, fun j hj => ?_⟩, ⟨ln, d1, ?_, ?_, fun i hi => ?_⟩, ?_⟩⟩
  · show w1.2.1 0 0 = zz w1 0
    rw [h4 0 0 (by omega), z1]
    exact hN.2.f.1
  · show WF (zz w1) B T
    rw [z1]; exact hN.1
  · show YR 0 (zz w1) _
    rw [z1]
    exact hN.2.rows (by omega) (fun r => h3 0 r (by omega)) (fun j => by rw [sF_ne _ _ (by omega), sRow_2, sF_ne _ _ (by omega), sF_ne _ _ (by omega)]; exact h4 0 j (by omega))
  · rw [sF_eq, sF_ne _ _ (by decide), sRow_2, sF_ne _ _ (by decide), sF_eq]
  · rw [sF_1, sRow_eq]
    exact hN.1.congr g'
  · rw [sF_1, sRow_eq]
    exact (hY1.congr g' hN.1.g120).rows (by omega) (fun r => by rw [sF_1, sRow_ne _ _ (by omega), sF_1, sF_1]) (fun j => by rw [sF_ne _ _ (by omega), sRow_2, sF_ne _ _ (by omega), sF_ne _ _ (by omega)])
  · rw [sF_ne _ _ (by decide), sRow_2, sF_ne _ _ (by decide), sF_ne _ _ (by decide), h4 9 1 (by omega)]; exact c3
  · rw [sF_ne _ _ (by decide), sRow_2, sF_ne _ _ (by decide), sF_ne _ _ (by decide), h4 8 2 (by omega)]; exact c4
  · rw [sF_ne _ _ (by decide), sRow_2, sF_ne _ _ (by decide), sF_ne _ _ (by decide), h4 8 1 (by omega)]; exact c5
  · have es : sv (sF (sRow (sF (sF w1 8 3 1) 9 0 0) 9 2 f) 9 2 1) j = sv w j := by
      unfold sv
      rw [sF_1, sRow_ne _ _ (by decide), sF_1, sF_1, h3 9 1 (by omega)]
    have hge : 2 ≤ rg nx s j := by unfold rg; omega
    rw [es]
    exact ⟨(c6 j hj).1, (c6 j hj).2.rows (rg_lt _ _ _) (fun r => by rw [sF_1, sRow_ne _ _ (by have := rg_lt nx s j; omega), sF_1, sF_1]; exact h3 _ r (by omega)) (fun j' => by
      have := rg_lt nx s j
      rw [sF_ne _ _ (by omega), sRow_2, sF_ne _ _ (by omega), sF_ne _ _ (by omega)]; exact h4 _ j' (by omega))⟩
  · rw [sF_ne _ _ (by decide), sRow_2, sF_ne _ _ (by decide), sF_ne _ _ (by decide), h4 8 0 (by omega)]; exact d2
  · rw [sF_ne _ _ (by decide), sRow_2, sF_ne _ _ (by decide), sF_ne _ _ (by decide), h4 9 3 (by omega)]; exact d3
  · rw [sF_1, sRow_ne _ _ (by decide), sRow_ne _ _ (by decide), sF_1, sF_1, h3 8 0 (by omega), h3 9 3 (by omega)]; exact d4 i hi
  · show w1.2.2 ≠ none
    rw [h5]; exact hO
end KEEP
