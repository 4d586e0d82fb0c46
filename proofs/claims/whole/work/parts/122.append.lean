/-! call 14: append -/
section APP
variable {xs : Nat → Int32} {L i B T : Nat} {rec : Int32 → xWt → Option Unit} {w : xWt}
theorem K14 (hI : INV w B T) (hi : i + 4 ≤ L) (hL : L ≤ 2048) : ∃ w', K_law_14 xs L rec (nI i) w = rec (nI i + 4) w' ∧ INV w' B T := by
  unfold K_law_14
  simp only [sld_1 hi (show L < 2 ^ 31 by omega)]
  generalize xs (i + 1) = a
  obtain ⟨ln, d1, d2, d3, d4⟩ := hI.2.2.2.1
  have ho := hI.2.2.2.2
  by_cases hr : a < 33 ∨ 126 < a
  · obtain ⟨w', e, hs⟩ := rd_thr (rec := rec) (l4 := nI i) (w := w) (fP := F_X7_append a w) (Es := [eA', eS']) (k := 1) (b := 0) (E := "java/lang/IllegalArgumentException") (fM := fun w1 => F_X8_append a w1) (by
      unfold F_X7_append
      by_cases h1 : a < 33
      · rw [if_pos h1]
      · rw [if_neg h1, if_neg (Int32.not_le.mpr (hr.resolve_left h1))]) rfl (by decide) (by
      show F_X8_append a w = _
      unfold F_X8_append
      rw [m_in, if_pos hr, bd_s, if_pos rfl, lw_thr _ (by decide)])
    exact ⟨w', e, hI.sim hs⟩
  · have h1 : ¬ a < 33 := fun q => hr (Or.inl q)
    have h2 : a ≤ 126 := Int32.not_lt.mp fun q => hr (Or.inr q)
    by_cases hf : ln = 60
    · obtain ⟨w', e, hs⟩ := rd_thr (rec := rec) (l4 := nI i) (w := w) (fP := F_X7_append a w) (Es := [eA', eS']) (k := 2) (b := 0) (E := "java/lang/IllegalStateException") (fM := fun w1 => F_X8_append a w1) (by
        unfold F_X7_append F_X3_length
        rw [if_neg h1, if_pos h2, bd_s, d2, hf, if_neg (by decide)]) rfl (by decide) (by
        show F_X8_append a w = _
        unfold F_X8_append
        rw [m_in, if_neg hr, bd_s, if_neg (by decide), d3, hf, if_pos (by rfl), lw_thr _ (by decide)])
      exact ⟨w', e, hI.sim hs⟩
    · have hp : pt w 8 0 (nI ln) a = sRow w 8 0 (upd (w.1 8 0) ln a) := pt_in (show ln < 60 by omega) (by decide)
      have hP : F_X7_append a w = some (.inl (nI (ln + 1)), sF (sRow w 8 0 (upd (w.1 8 0) ln a)) 8 0 (nI (ln + 1))) := by
        unfold F_X7_append F_X3_length F_X3_add lw
        dsimp only
        rw [if_neg h1, if_pos h2, bd_s, d2, if_pos (show nI ln < 60 from nI_lt (b := 60) (by omega) (by decide)), R_put, bd_s, hp, show (sRow w 8 0 (upd (w.1 8 0) ln a)).2.1 8 0 = nI ln from d2, nI_1, bd_s, sF_eq]
      have hM : F_X8_append a (sO (sF (sRow w 8 0 (upd (w.1 8 0) ln a)) 8 0 (nI (ln + 1))) (nI (ln + 1)).toInt64) = some (nI (ln + 1), sF (sRow (sF (sO (sF (sRow w 8 0 (upd (w.1 8 0) ln a)) 8 0 (nI (ln + 1))) (nI (ln + 1)).toInt64) 9 0 0) 9 3 (upd (w.1 9 3) ln a)) 9 3 (nI (ln + 1))) := by
        have e3 : (sO (sF (sRow w 8 0 (upd (w.1 8 0) ln a)) 8 0 (nI (ln + 1))) (nI (ln + 1)).toInt64).2.1 9 3 = nI ln := d3
        unfold F_X8_append
        rw [m_in, if_neg hr, bd_s, if_neg (by decide), e3, if_neg (show ¬ nI ln = 60 from fun q => hf (nI_inj (b := 60) (by omega) (by decide) q)), lw_ok]
        obtain ⟨X, hX⟩ : ∃ X, X = sF (sO (sF (sRow w 8 0 (upd (w.1 8 0) ln a)) 8 0 (nI (ln + 1))) (nI (ln + 1)).toInt64) 9 0 0 := ⟨_, rfl⟩
        rw [← hX]
        have e5 : X.2.1 9 3 = nI ln := by rw [hX]; exact d3
        have e6 : X.1 9 3 = w.1 9 3 := by rw [hX, sF_1]; exact sRow_ne w (k := 8) (r := 0) (k' := 9) (r' := 3) (upd (w.1 8 0) ln a) (by decide)
        rw [e5, ast_in (k := 9) (r := 3) (show ln < 60 by omega)]
        unfold lw
        dsimp only
        rw [sF_eq, sRow_2, e5, e6, nI_1]
      refine ⟨_, call_ret (Es := [eA', eS']) (fM := fun w1 => F_X8_append a w1) hP ho hM (by rw [sF_ne _ _ (by decide), sRow_2, sF_eq]) rfl, INV.text (w := w) ⟨fun k r g1 g2 => ?_, fun k j g1 g2 => ?_, fun _ q => by cases q⟩ hI ⟨ln + 1, by omega, ?_, sF_eq _ _ _ _, fun j hj => ?_⟩⟩
      · rw [sF_1, sRow_ne _ _ (by omega), sF_1]
        exact sRow_ne _ _ (by omega)
      · rw [sF_ne _ _ (by omega), sRow_2, sF_ne _ _ (by omega)]
        exact sF_ne _ _ (by omega)
      · rw [sF_ne _ _ (by decide), sRow_2, sF_ne _ _ (by decide)]
        exact sF_eq (sRow w 8 0 (upd (w.1 8 0) ln a)) 8 0 (nI (ln + 1))
      · rw [sF_1, sRow_ne _ _ (by decide), sRow_eq, sF_1]
        refine (congrFun (sRow_eq w 8 0 (upd (w.1 8 0) ln a)) j).trans ?_
        by_cases e : j = ln
        · subst e; rw [upd_eq, upd_eq]
        · rw [upd_ne _ _ e, upd_ne _ _ e]; exact d4 j (by omega)
end APP
