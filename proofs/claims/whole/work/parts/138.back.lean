/-! calls 19 and 20: goBack, undo -/
theorem bd_assoc {α β γ : Type} (m : Option (α × xWt)) (f : α → xWt → Option (β × xWt)) (g : β → xWt → Option γ) : bd (bd m f) g = bd m (fun a w => bd (f a w) g) := by
  match m with
  | some (a, w) => rfl
  | none => rfl
section BK
variable {xs : Nat → Int32} {L i B T : Nat} {rec : Int32 → xWt → Option Unit} {w : xWt}
theorem m_back31 : ∃ f : Nat → Int32, L_X8_goBack_31 9999 0 w = some (nI 817, sRow w 9 0 f) ∧ ∀ i, i < 817 → f i = w.1 9 2 i := by
  have h := up_loop (fun n i (f : Nat → Int32) => L_X8_goBack_31 n (nI i) (sRow w 9 0 f)) (fun i f => upd f i (w.1 9 2 i)) (fun f => (nI 817, sRow w 9 0 f)) 817 (fun i f => ∀ j, j < i → f j = w.1 9 2 j)
    (fun n i f hi hI => ⟨by
      show B_X8_goBack_31 (L_X8_goBack_31 n) (nI i) (sRow w 9 0 f) = _
      unfold B_X8_goBack_31
      rw [if_neg (lt817 hi), ald_in (k := 9) (r := 2) (by show i < 817; omega), ast_in (k := 9) (r := 0) (by show i < 817; omega), sRow_eq, sRow_sRow, nI_1]
      rfl, fun j hj => by
        by_cases e : j = i
        · subst e; exact upd_eq _ _ _
        · rw [upd_ne _ _ (by omega)]; exact hI j (by omega)⟩)
    (fun n f _ => by
      show B_X8_goBack_31 (L_X8_goBack_31 n) (nI 817) (sRow w 9 0 f) = _
      unfold B_X8_goBack_31
      rw [if_pos (show (817 : Int32) ≤ nI 817 from Int32.le_refl _)]) 817 0 (w.1 9 0) 9999 (by omega) (by omega) (fun j hj => absurd hj (by omega))
  refine ⟨_, ?_, h.2⟩
  have h1 := h.1
  rw [sRow_self] at h1
  exact h1
theorem m_undo37 {s : Nat} (hs : w.2.1 9 1 = nI s) (h5 : s ≤ 5) : ∃ f : Nat → Int32, L_X8_undo_37 9999 0 w = some (nI 817, sRow w 9 0 f) ∧ ∀ i, i < 817 → f i = w.1 9 1 (817 * s + i) := by
  have h := up_loop (fun n i (f : Nat → Int32) => L_X8_undo_37 n (nI i) (sRow w 9 0 f)) (fun i f => upd f i (w.1 9 1 (817 * s + i))) (fun f => (nI 817, sRow w 9 0 f)) 817 (fun i f => ∀ j, j < i → f j = w.1 9 1 (817 * s + j))
    (fun n i f hi hI => ⟨by
      show B_X8_undo_37 (L_X8_undo_37 n) (nI i) (sRow w 9 0 f) = _
      unfold B_X8_undo_37
      rw [if_neg (lt817 hi), show (sRow w 9 0 f).2.1 9 1 = nI s from hs, ix817, ald_in (k := 9) (r := 1) (by rw [rl91]; omega), ast_in (k := 9) (r := 0) (by show i < 817; omega), sRow_eq, sRow_sRow, nI_1]
      rfl, fun j hj => by
        by_cases e : j = i
        · subst e; exact upd_eq _ _ _
        · rw [upd_ne _ _ (by omega)]; exact hI j (by omega)⟩)
    (fun n f _ => by
      show B_X8_undo_37 (L_X8_undo_37 n) (nI 817) (sRow w 9 0 f) = _
      unfold B_X8_undo_37
      rw [if_pos (show (817 : Int32) ≤ nI 817 from Int32.le_refl _)]) 817 0 (w.1 9 0) 9999 (by omega) (by omega) (fun j hj => absurd hj (by omega))
  refine ⟨_, ?_, h.2⟩
  have h1 := h.1
  rw [sRow_self] at h1
  exact h1
theorem K19 (hI : INV w B T) : ∃ w', K_law_19 xs L rec (nI i) w = rec (nI i + 4) w' ∧ INV w' (B + 60) (T + 200) := by
  obtain ⟨k1, k2⟩ := hI.2.1
  obtain ⟨ln, d1, d2, d3, d4⟩ := hI.2.2.2.1
  unfold K_law_19
  rcases k2 with k2 | ⟨k2, k3, k4⟩
  · refine do_thr (Es := [eS']) (k := 1) (b := 0) (E := "java/lang/IllegalStateException") (fMc := fun w1 => F_X8_goBack w1) hI (by omega) (by omega) ?_ rfl (by decide) ?_
    · unfold F_X7_goBack
      rw [k1, if_pos k2]
    · show F_X8_goBack w = _
      unfold F_X8_goBack
      rw [if_pos k2, lw_thr _ (by decide)]
  · have h120 := k3.g120
    obtain ⟨v, w1, a1, a2, a3, a4, a5⟩ := call_any (fP := fun w1 => bd (F_X6_copyFrom 0 1 w1) (fun _ w2 => some (w2.2.1 0 0, w2))) (fM := fun w11 => bd (L_X8_goBack_31 9999 0 w11) (fun o12 w13 => ald w13 9 0 0 (fun x14 => some (x14, w13)))) hI (B' := B + 60) (T' := T + 200) (by omega) (by omega) (fun wp hYp hfp wr hfr => by
      obtain ⟨wq, e1, cp⟩ := p_copy (k := 0) (k2 := 1) (by omega) (by omega) (by omega) wp
      obtain ⟨f, e2, g⟩ := m_back31 (w := wr)
      have hz : ∀ i, i < 817 → w.1 9 2 i = f i := fun i hi => by rw [g i hi, hfr.2.1]
      have hY1 : YR 1 (w.1 9 2) wp := k4.rows (by omega) (fun r => hfp.1 1 r (Or.inl rfl)) hfp.2.1
      have hY0 : YR 0 f wq := (hY1.copy (by omega) k3 cp).congr hz h120
      have zE : zz (sRow wr 9 0 f) = f := sRow_eq _ _ _ _
      have p1 : ∀ k r, k ≠ 0 → wq.1 k r = wp.1 k r := cp.2.2.1
      have p2 : ∀ k j, k ≠ 0 → wq.2.1 k j = wp.2.1 k j := cp.2.2.2.1
      refine ⟨wq.2.1 0 0, wq, sRow wr 9 0 f, ?_, ⟨p1, fun k j hk _ => p2 k j hk, cp.2.2.2.2⟩, ?_, ⟨fun k r hk => sRow_ne _ _ (by omega), fun k j _ => rfl, rfl⟩, by rw [zE]; exact hY0, by rw [zE]; exact (k3.congr hz).mono (by omega) (by omega), ln, d1, ?_, ?_, fun i hi => ?_⟩
      · rw [e1, bd_s]
      · rw [e2, bd_s, m_z0, zE, hY0.f.1]
      · rw [p2 8 0 (by decide), hfp.2.2]; exact d2
      · show wr.2.1 9 3 = nI ln
        rw [hfr.2.2.2]; exact d3
      · rw [p1 8 0 (by decide), hfp.1 8 0 (Or.inr rfl), sRow_ne _ _ (by decide), hfr.2.2.1]; exact d4 i hi)
    obtain ⟨wE, b1, b2, b3, b4⟩ := a5 (sF (sO w1 v.toInt64) 9 0 0) ((sim.out _ _).trans (sim.thr _ _))
    refine ⟨wE, call_ret (Es := [eS']) (fM := fun w1 => F_X8_goBack w1) ?_ a2 ?_ (b2.trans (sF_eq _ _ _ _)) b3, b4⟩
    · rw [← a1]
      unfold F_X7_goBack
      rw [k1, if_neg (by rw [k2]; decide)]
      refine congrArg (bd _) (funext fun _ => funext fun w3 => ?_)
      rw [bd_assoc]
      rfl
    · rw [← b1]
      show F_X8_goBack (sO w1 v.toInt64) = _
      unfold F_X8_goBack
      rw [show (sO w1 v.toInt64).2.1 9 2 = 1 from (a4 2).trans k2, if_neg (by decide), lw_ok]
      exact congrArg (bd _) (funext fun _ => funext fun w4 => (bd_eta _).symm)
theorem p_pop {s nx : Nat} (c1 : 1 ≤ s) (c2 : nx < 6) (c4 : w.2.1 8 2 = nI s) (c5 : w.2.1 8 1 = nI nx) (h6 : s ≤ 6) : ∃ w', F_X5_popInto 0 w = some ((), w') ∧ CP 0 ((if nx = 0 then 5 else nx - 1) + 2) 16 9 w (sF (sF w' 8 1 (nI nx)) 8 2 (nI s)) ∧ w'.2.1 8 1 = nI (if nx = 0 then 5 else nx - 1) ∧ w'.2.1 8 2 = nI (s - 1) := by
  have key : ∀ j, j < 6 → ∃ w4, F_X6_copyFrom 0 (j + 2) w = some ((), w4) ∧ CP 0 (j + 2) 16 9 w (sF (sF (sF (sF w4 8 1 (nI j)) 8 2 (nI (s - 1))) 8 1 (nI nx)) 8 2 (nI s)) ∧ w4.2.1 8 2 = nI s := fun j hj => by
    obtain ⟨w4, e4, h1, h2, h3, h4, h5⟩ := p_copy (k := 0) (k2 := j + 2) (by omega) (by omega) (by omega) w
    refine ⟨w4, e4, ⟨h1, fun j' hj' => ?_, h3, fun k' j' hk => ?_, h5⟩, (h4 8 2 (by omega)).trans c4⟩
    · rw [sF_ne _ _ (by omega), sF_ne _ _ (by omega), sF_ne _ _ (by omega), sF_ne _ _ (by omega)]
      exact h2 j' hj'
    · by_cases q2 : k' = 8 ∧ j' = 2
      · obtain ⟨rfl, rfl⟩ := q2
        rw [sF_eq]; exact c4.symm
      · rw [sF_ne _ _ q2]
        by_cases q1 : k' = 8 ∧ j' = 1
        · obtain ⟨rfl, rfl⟩ := q1
          rw [sF_eq]; exact c5.symm
        · rw [sF_ne _ _ q1, sF_ne _ _ q2, sF_ne _ _ q1]
          exact h4 k' j' hk
  have e1 : nI s - 1 = nI (s - 1) := nI_sub (b := 1) c1
  unfold F_X5_popInto
  rw [c5]
  by_cases e : nx = 0
  · obtain ⟨w4, e4, cp, e5⟩ := key 5 (by omega)
    subst e
    rw [if_pos (by decide), if_pos rfl, show F_X5_placeAt 5 w = some (some (5 + 2), w) from p_placeAt (j := 5) (by decide), bd_s, oy_k (by omega), c4, if_neg (nI_nle c1 (by omega)), e4, bd_s]
    unfold lw
    dsimp only
    rw [sF_ne (k' := 8) (j' := 2) _ _ (by decide), e5, e1]
    exact ⟨_, rfl, cp, by rw [sF_ne _ _ (by decide), sF_eq]; rfl, sF_eq _ _ _ _⟩
  · obtain ⟨w4, e4, cp, e5⟩ := key (nx - 1) (by omega)
    rw [if_neg (nI_nle (by omega) (by omega)), if_neg e, show nI nx - 1 = nI (nx - 1) from nI_sub (b := 1) (by omega), p_placeAt (by omega), bd_s, oy_k (by omega), c4, if_neg (nI_nle c1 (by omega)), e4, bd_s]
    unfold lw
    dsimp only
    rw [sF_ne (k' := 8) (j' := 2) _ _ (by decide), e5, e1]
    exact ⟨_, rfl, cp, by rw [sF_ne _ _ (by decide), sF_eq], sF_eq _ _ _ _⟩
theorem K20 (hI : INV w B T) : ∃ w', K_law_20 xs L rec (nI i) w = rec (nI i + 4) w' ∧ INV w' (B + 60) (T + 200) := by
  obtain ⟨hN, hK, ⟨s, nx, c1, c2, c3, c4, c5, c6⟩, ⟨ln, d1, d2, d3, d4⟩, hO⟩ := id hI
  unfold K_law_20
  by_cases hs : s = 0
  · subst hs
    refine do_thr (Es := [eS']) (k := 1) (b := 0) (E := "java/lang/IllegalStateException") (fMc := fun w1 => F_X8_undo w1) hI (by omega) (by omega) ?_ rfl (by decide) ?_
    · unfold F_X7_undo F_X5_number
      rw [bd_s, c4, if_pos (show nI 0 = 0 from rfl)]
    · show F_X8_undo w = _
      unfold F_X8_undo
      rw [c3, if_pos (show nI 0 = 0 from rfl), lw_thr _ (by decide)]
  · obtain ⟨w1, e1, cp, n1, n2⟩ := p_pop (w := w) (by omega) c2 c4 c5 c1
    have f1 : ∀ k r, k ≠ 0 → w1.1 k r = w.1 k r := fun k r hk => cp.2.2.1 k r hk
    have f2 : ∀ k j, k ≠ 0 → ¬ (k = 8 ∧ (j = 1 ∨ j = 2)) → w1.2.1 k j = w.2.1 k j := fun k j hk h => by
      have h3 := cp.2.2.2.1 k j hk
      rw [sF_ne _ _ (by omega), sF_ne _ _ (by omega)] at h3
      exact h3
    have f3 : w1.2.2 = w.2.2 := cp.2.2.2.2
    have hpl : (if nx = 0 then 5 else nx - 1) + 2 = rg nx s (s - 1) := by
      unfold rg
      split <;> omega
    obtain ⟨b1, b2⟩ := c6 (s - 1) (by omega)
    have hY0 : YR 0 (sv w (s - 1)) w1 := by
      have q := cp
      rw [hpl] at q
      exact YR.rows (w := sF (sF w1 8 1 (nI nx)) 8 2 (nI s)) (by omega) (fun r => rfl) (fun j => by rw [sF_ne _ _ (by omega), sF_ne _ _ (by omega)]) (b2.copy (by omega) b1 q)
    obtain ⟨f, e2, g⟩ := m_undo37 (w := sF (sF (sO w1 (nI (s - 1)).toInt64) 9 0 0) 9 1 (nI (s - 1))) (s := s - 1) (sF_eq _ _ _ _) (by omega)
    have hz : ∀ i, i < 817 → sv w (s - 1) i = f i := fun i hi => by
      rw [g i hi]
      show _ = w1.1 9 1 _
      rw [f1 9 1 (by decide)]
      rfl
    refine ⟨_, call_ret (Es := [eS']) (fM := fun w1 => F_X8_undo w1) (v := nI (s - 1)) (w1 := w1) (wM := sRow (sF (sF (sO w1 (nI (s - 1)).toInt64) 9 0 0) 9 1 (nI (s - 1))) 9 0 f) ?_ (by rw [f3]; exact hO) ?_ ?_ ?_, (?_ : INV _ _ _)⟩
    · unfold F_X7_undo F_X5_number
      rw [bd_s, c4, if_neg (nI_ne0 (by omega) (by omega)), e1, bd_s, bd_s, n2]
    · show F_X8_undo (sO w1 (nI (s - 1)).toInt64) = _
      unfold F_X8_undo
      rw [show (sO w1 (nI (s - 1)).toInt64).2.1 9 1 = nI s from (f2 9 1 (by decide) (by decide)).trans c3, if_neg (nI_ne0 (by omega) (by omega)), lw_ok]
      unfold lw
      dsimp only
      rw [show (sF (sO w1 (nI (s - 1)).toInt64) 9 0 0).2.1 9 1 = nI s from (f2 9 1 (by decide) (by decide)).trans c3, show nI s - 1 = nI (s - 1) from nI_sub (b := 1) (by omega), e2, bd_s, sRow_2, sF_eq]
    · rw [sRow_2, sF_ne _ _ (by decide), sF_eq]
    · rfl
    · have aR : ∀ k r, k ≠ 0 → ¬ (k = 9 ∧ r = 0) → (sRow (sF (sF (sO w1 (nI (s - 1)).toInt64) 9 0 0) 9 1 (nI (s - 1))) 9 0 f).1 k r = w.1 k r := fun k r h1 h2 => by
        rw [sRow_ne _ _ h2]
        exact f1 k r h1
      have aF : ∀ k j, k ≠ 0 → ¬ (k = 8 ∧ (j = 1 ∨ j = 2)) → ¬ (k = 9 ∧ (j = 0 ∨ j = 1)) → (sRow (sF (sF (sO w1 (nI (s - 1)).toInt64) 9 0 0) 9 1 (nI (s - 1))) 9 0 f).2.1 k j = w.2.1 k j := fun k j h1 h2 h3 => by
        rw [sRow_2, sF_ne _ _ (by omega), sF_ne _ _ (by omega)]
        exact f2 k j h1 h2
      have zE : zz (sRow (sF (sF (sO w1 (nI (s - 1)).toInt64) 9 0 0) 9 1 (nI (s - 1))) 9 0 f) = f := sRow_eq _ _ _ _
      refine (?_ : INV _ B T).mono (by omega) (by omega)
      refine ⟨⟨by rw [zE]; exact b1.congr hz, by rw [zE]; exact (hY0.congr hz b1.g120).rows (by omega) (fun r => by rw [sRow_ne _ _ (by omega)]; rfl) (fun j => by rw [sRow_2, sF_ne _ _ (by omega), sF_ne _ _ (by omega)]; rfl)⟩, ⟨?_, ?_⟩, ⟨s - 1, if nx = 0 then 5 else nx - 1, by omega, by split <;> omega, ?_, ?_, ?_, fun j hj => ?_⟩, ⟨ln, d1, ?_, ?_, fun i hi => ?_⟩, fun q => by cases q⟩
      · rw [aF 8 3 (by decide) (by decide) (by decide), aF 9 2 (by decide) (by decide) (by decide)]; exact hK.1
      · rw [aF 9 2 (by decide) (by decide) (by decide), aR 9 2 (by decide) (by decide)]
        rcases hK.2 with q | ⟨q1, q2, q3⟩
        · exact Or.inl q
        · exact Or.inr ⟨q1, q2, q3.rows (by omega) (fun r => aR 1 r (by omega) (by omega)) (fun j => aF 1 j (by omega) (by omega) (by omega))⟩
      · rw [sRow_2, sF_eq]
      · exact n2
      · exact n1
      · have es : sv (sRow (sF (sF (sO w1 (nI (s - 1)).toInt64) 9 0 0) 9 1 (nI (s - 1))) 9 0 f) j = sv w j := by
          unfold sv
          rw [aR 9 1 (by decide) (by decide)]
        have hr : rg (if nx = 0 then 5 else nx - 1) (s - 1) j = rg nx s j := by
          unfold rg
          split <;> omega
        have hge : 2 ≤ rg nx s j := by unfold rg; omega
        have hlt := rg_lt nx s j
        rw [es, hr]
        exact ⟨(c6 j (by omega)).1, (c6 j (by omega)).2.rows hlt (fun r => aR _ r (by omega) (by omega)) (fun j' => aF _ j' (by omega) (by omega) (by omega))⟩
      · rw [aF 8 0 (by decide) (by decide) (by decide)]; exact d2
      · rw [aF 9 3 (by decide) (by decide) (by decide)]; exact d3
      · rw [aR 8 0 (by decide) (by decide), aR 9 3 (by decide) (by decide)]; exact d4 i hi
end BK
