/-! call 5: grow -/
section GR
variable {z z' : Nat → Int32} {xs : Nat → Int32} {L i B T b c l h : Nat} {rec : Int32 → xWt → Option Unit} {w w' : xWt} {a : Int32}
theorem WF.grow (hW : WF z B T) (hb : b < 12) (hg : gN z < 120) (hA : ∀ i, i ≠ 1 → i ≠ 10 + b → (i < 22 + 6 * gN z ∨ 26 + 6 * gN z ≤ i) → z' i = z i) (h1 : z' 1 = nI (gN z + 1)) (hbr : z' (10 + b) = nI (gN z)) (l1 : zL z' (gN z) 1 = 0) (l2 : zL z' (gN z) 2 = nI b) : WF z' B T := by
  have eg : gN z' = gN z + 1 := by
    show (z' 1).toNatClampNeg = _
    rw [h1, nI_clamp (by omega)]
  have eb : bN z' = bN z := by unfold bN; rw [hA 0 (by omega) (by omega) (by omega)]
  have et : tN z' = tN z := by unfold tN; rw [hA 7 (by omega) (by omega) (by omega)]
  have hL : ∀ l k, l ≠ gN z → k < 6 → zL z' l k = zL z l k := fun l k hl hk => hA _ (by omega) (by omega) (by omega)
  have hC : ∀ c k, zC z' c k = zC z c k := fun l k => hA _ (by omega) (by omega) (by omega)
  have hH : ∀ c h k, zH z' c h k = zH z c h k := fun l h k => hA _ (by omega) (by omega) (by omega)
  refine ⟨?_, ?_, ?_, ?_, ?_, ?_⟩
  · obtain ⟨a1, a2, a3, a4, a5, a6, a7, a8⟩ := hW.s
    refine ⟨?_, ?_, ?_, ?_, ?_, ?_, ?_, ?_⟩
    · rw [eb, hA 0 (by omega) (by omega) (by omega)]; exact a1
    · rw [eb]; exact a2
    · rw [eg]; exact h1
    · rw [eg]; omega
    · rw [et, hA 7 (by omega) (by omega) (by omega)]; exact a5
    · rw [et]; exact a6
    · rw [hA 8 (by omega) (by omega) (by omega)]; exact a7
    · rw [hA 9 (by omega) (by omega) (by omega)]; exact a8
  · intro b' hb'
    by_cases e : b' = b
    · rw [e]
      exact Or.inr ⟨gN z, by omega, hbr, l1, l2⟩
    · rw [hA (10 + b') (by omega) (by omega) (by omega)]
      rcases hW.b b' hb' with q | ⟨l, q1, q2, q3, q4⟩
      · exact Or.inl q
      · exact Or.inr ⟨l, by omega, q2, by rw [hL l 1 (by omega) (by omega)]; exact q3, by rw [hL l 2 (by omega) (by omega)]; exact q4⟩
  · intro l hl
    by_cases e : l = gN z
    · rw [e]; exact Or.inl l1
    · rw [hL l 1 e (by omega)]
      rcases hW.l l (by omega) with q | q | ⟨q, d, s, t, r1, r2, r3, r4, r5, r6, r7⟩
      · exact Or.inl q
      · exact Or.inr (Or.inl q)
      · exact Or.inr (Or.inr ⟨q, d, s, t, r1, by rw [eb]; exact r2, by rw [et]; exact r3, by rw [hL l 4 e (by omega)]; exact r4, by rw [hL l 3 e (by omega)]; exact r5, by rw [hL l 5 e (by omega)]; exact r6, by rw [hC]; exact r7⟩)
  · intro c hc
    simp only [hC, hH, eb]
    exact hW.c c hc
  · intro c h hc hh
    unfold wK
    simp only [hH, eg]
    rcases hW.h c h hc hh with q | ⟨q, l, b', q1, q2⟩ | ⟨q, l, q1, q2⟩
    · exact Or.inl q
    · exact Or.inr (Or.inl ⟨q, l, b', by omega, q2⟩)
    · exact Or.inr (Or.inr ⟨q, l, by omega, q2⟩)
  · simp only [hC]
    exact hW.one
theorem YR.grow (hW : WF z B T) (hY : YR 0 z w) (hb : b < 12) (hg : gN z < 120) (hA : ∀ i, i ≠ 1 → i ≠ 10 + b → (i < 22 + 6 * gN z ∨ 26 + 6 * gN z ≤ i) → z' i = z i) (h1 : z' 1 = nI (gN z + 1)) (hbr : z' (10 + b) = nI (gN z)) (l0 : zL z' (gN z) 0 = a) (l1 : zL z' (gN z) 1 = 0) (l2 : zL z' (gN z) 2 = nI b) (l3 : zL z' (gN z) 3 = -1)
    (f8 : w'.2.1 0 8 = nI (gN z + 1)) (fo : ∀ j, j ≠ 8 → w'.2.1 0 j = w.2.1 0 j) (r0 : w'.1 0 0 = upd (w.1 0 0) b (nI (gN z))) (r1 : w'.1 0 1 = upd (w.1 0 1) (gN z) a) (r2 : w'.1 0 2 = upd (w.1 0 2) (gN z) 0) (r3 : w'.1 0 3 = upd (w.1 0 3) (gN z) (nI b)) (r4 : w'.1 0 4 = upd (w.1 0 4) (gN z) (-1)) (r5 : w'.1 0 5 = upd (w.1 0 5) (gN z) (-1)) (ro : ∀ r, 6 ≤ r → w'.1 0 r = w.1 0 r) : YR 0 z' w' := by
  have eg : gN z' = gN z + 1 := by
    show (z' 1).toNatClampNeg = _
    rw [h1, nI_clamp (by omega)]
  have hL : ∀ l k, l ≠ gN z → k < 6 → zL z' l k = zL z l k := fun l k hl hk => hA _ (by omega) (by omega) (by omega)
  have hC : ∀ c k, zC z' c k = zC z c k := fun l k => hA _ (by omega) (by omega) (by omega)
  have hH : ∀ c h k, zH z' c h k = zH z c h k := fun l h k => hA _ (by omega) (by omega) (by omega)
  refine ⟨?_, ?_, ?_, ?_, ?_, ?_⟩
  · have q := hY.f
    unfold yF at q ⊢
    rw [fo 0 (by omega), fo 1 (by omega), fo 2 (by omega), fo 3 (by omega), fo 4 (by omega), fo 5 (by omega), fo 6 (by omega), fo 7 (by omega), f8, h1, hA 0 (by omega) (by omega) (by omega), hA 8 (by omega) (by omega) (by omega), hA 9 (by omega) (by omega) (by omega), hA 2 (by omega) (by omega) (by omega), hA 3 (by omega) (by omega) (by omega), hA 4 (by omega) (by omega) (by omega), hA 5 (by omega) (by omega) (by omega), hA 6 (by omega) (by omega) (by omega)]
    obtain ⟨q0, q1, q2, q3, q4, q5, q6, q7, q8⟩ := q
    exact ⟨q0, q1, q2, q3, q4, q5, q6, q7, rfl⟩
  · intro b' hb'
    rw [r0]
    by_cases e : b' = b
    · rw [e, upd_eq, hbr]
    · rw [upd_ne _ _ e, hA (10 + b') (by omega) (by omega) (by omega)]
      exact hY.b b' hb'
  · intro l hl
    rw [r1, r2, r3, r4, r5]
    by_cases e : l = gN z
    · rw [e, upd_eq, upd_eq, upd_eq, upd_eq, upd_eq, l0, l1, l2, l3]
      exact ⟨rfl, rfl, rfl, rfl, rfl⟩
    · rw [upd_ne _ _ e, upd_ne _ _ e, upd_ne _ _ e, upd_ne _ _ e, upd_ne _ _ e, hL l 0 e (by omega), hL l 1 e (by omega), hL l 2 e (by omega), hL l 3 e (by omega), hL l 4 e (by omega)]
      exact hY.l l (by omega)
  · intro c hc
    simp only [hC, ro 6 (by omega), ro 7 (by omega), ro 8 (by omega), ro 9 (by omega), ro 10 (by omega)]
    exact hY.c c hc
  · intro c h hc hh
    simp only [hH, ro 13 (by omega), ro 14 (by omega), ro 15 (by omega)]
    exact hY.h c h hc hh
  · intro c hc
    obtain ⟨hl, q1, q2, q3⟩ := hY.p c hc
    refine ⟨hl, ⟨fun l => ?_, ?_⟩, by rw [ro 11 (by omega)]; exact q2, by rw [ro 12 (by omega)]; exact q3⟩
    · rw [q1.1 l, eg, oB_iff, oB_iff]
      by_cases e : l = gN z
      · rw [e, l1]
        constructor
        · rintro ⟨q, -⟩; exact absurd q (by omega)
        · rintro ⟨-, q, -⟩; exact absurd q (by decide)
      · rw [hL l 1 e (by omega), hL l 4 e (by omega)]
        constructor
        · rintro ⟨q, r⟩; exact ⟨by omega, r⟩
        · rintro ⟨q, r⟩; exact ⟨by omega, r⟩
    · refine List.Pairwise.imp_of_mem (fun {x y} hx hy q => ?_) q1.2
      have hx' := ((q1.1 x).mp hx).1
      have hy' := ((q1.1 y).mp hy).1
      unfold tu at q ⊢
      rw [hL x 5 (by omega) (by omega), hL y 5 (by omega) (by omega)]
      exact q
theorem d_grow (hW : WF z B T) (hY : YR 0 z w) (hb : b < 12) (hg : gN z < 120) (a : Int32) : DV z B T w (F_X2_sprout 0 (nI b) a) (F_X8_doGrow (nI b) a) := by
  intro wr hz
  have e8 : w.2.1 0 8 = nI (gN z) := hY.f.2.2.2.2.2.2.2.2.trans hW.g
  have hz1 : zz wr 1 = nI (gN z) := by rw [hz]; exact hW.g
  obtain ⟨W1, hW1⟩ : ∃ W1, W1 = zs wr 1 (nI (gN z + 1)) := ⟨_, rfl⟩
  obtain ⟨W2, hW2⟩ : ∃ W2, W2 = zs W1 (10 + b) (nI (gN z)) := ⟨_, rfl⟩
  obtain ⟨W3, hW3⟩ : ∃ W3, W3 = zs W2 (22 + 6 * gN z + 0) a := ⟨_, rfl⟩
  obtain ⟨W4, hW4⟩ : ∃ W4, W4 = zs W3 (22 + 6 * gN z + 1) 0 := ⟨_, rfl⟩
  obtain ⟨W5, hW5⟩ : ∃ W5, W5 = zs W4 (22 + 6 * gN z + 2) (nI b) := ⟨_, rfl⟩
  obtain ⟨W6, hW6⟩ : ∃ W6, W6 = zs W5 (22 + 6 * gN z + 3) (-1) := ⟨_, rfl⟩
  have z6 : zz W6 = upd (upd (upd (upd (upd (upd z 1 (nI (gN z + 1))) (10 + b) (nI (gN z))) (22 + 6 * gN z + 0) a) (22 + 6 * gN z + 1) 0) (22 + 6 * gN z + 2) (nI b)) (22 + 6 * gN z + 3) (-1) := by
    rw [hW6, zs_z, hW5, zs_z, hW4, zs_z, hW3, zs_z, hW2, zs_z, hW1, zs_z, hz]
  have hA : ∀ i, i ≠ 1 → i ≠ 10 + b → (i < 22 + 6 * gN z ∨ 26 + 6 * gN z ≤ i) → zz W6 i = z i := fun i h1 h2 h3 => by
    rw [z6, upd_ne _ _ (by omega), upd_ne _ _ (by omega), upd_ne _ _ (by omega), upd_ne _ _ (by omega), upd_ne _ _ (by omega), upd_ne _ _ (by omega)]
  have h1 : zz W6 1 = nI (gN z + 1) := by
    rw [z6, upd_ne _ _ (by omega), upd_ne _ _ (by omega), upd_ne _ _ (by omega), upd_ne _ _ (by omega), upd_ne _ _ (by omega), upd_eq]
  have hbr : zz W6 (10 + b) = nI (gN z) := by
    rw [z6, upd_ne _ _ (by omega), upd_ne _ _ (by omega), upd_ne _ _ (by omega), upd_ne _ _ (by omega), upd_eq]
  have l0 : zL (zz W6) (gN z) 0 = a := by
    rw [z6, zL_ne _ (by omega), zL_ne _ (by omega), zL_ne _ (by omega), zL_eq]
  have l1 : zL (zz W6) (gN z) 1 = 0 := by
    rw [z6, zL_ne _ (by omega), zL_ne _ (by omega), zL_eq]
  have l2 : zL (zz W6) (gN z) 2 = nI b := by
    rw [z6, zL_ne _ (by omega), zL_eq]
  have l3 : zL (zz W6) (gN z) 3 = -1 := by
    rw [z6, zL_eq]
  refine ⟨nI (gN z), sRow (sRow (sRow (sRow (sRow (sRow (sF w 0 8 (nI (gN z + 1))) 0 0 (upd (w.1 0 0) b (nI (gN z)))) 0 1 (upd (w.1 0 1) (gN z) a)) 0 2 (upd (w.1 0 2) (gN z) 0)) 0 3 (upd (w.1 0 3) (gN z) (nI b))) 0 4 (upd (w.1 0 4) (gN z) (-1))) 0 5 (upd (w.1 0 5) (gN z) (-1)), W6, ?_, ((((((dP.rf w).fd _ _).row _ _).row _ _).row _ _).row _ _ |>.row _ _).row _ _, ?_, ?_, ?_, ?_, nI_m1 (by omega)⟩
  · unfold F_X2_sprout lw
    dsimp only
    rw [e8, nI_1, R_put, bd_s, p12 hb, R_put, bd_s, p120 hg rfl, R_put, bd_s, p120 hg rfl, R_put, bd_s, p120 hg rfl, R_put, bd_s, p120 hg rfl, R_put, bd_s, p120 hg rfl]
    rfl
  · unfold F_X8_doGrow
    rw [m_z1, hz1, m_z1, hz1, nI_1, show ∀ f : xWt → Option (Int32 × xWt), ast wr 9 0 1 (nI (gN z + 1)) f = f W1 from fun f => by rw [hW1]; exact m_zs (i := 1) (by omega), ixB, show ∀ f : xWt → Option (Int32 × xWt), ast W1 9 0 (nI (10 + b)) (nI (gN z)) f = f W2 from fun f => by rw [hW2]; exact m_zs (by omega), show F_X8_setLeaf (nI (gN z)) 0 a W2 = some ((), W3) from by rw [hW3]; exact m_setL hg (k := 0) (by omega) a, bd_s, show F_X8_setLeaf (nI (gN z)) 1 0 W3 = some ((), W4) from by rw [hW4]; exact m_setL hg (k := 1) (by omega) 0, bd_s, show F_X8_setLeaf (nI (gN z)) 2 (nI b) W4 = some ((), W5) from by rw [hW5]; exact m_setL hg (k := 2) (by omega) (nI b), bd_s, show F_X8_setLeaf (nI (gN z)) 3 (-1) W5 = some ((), W6) from by rw [hW6]; exact m_setL hg (k := 3) (by omega) (-1), bd_s]
  · rw [hW6, hW5, hW4, hW3, hW2, hW1]
    exact ((((((dM.rf wr).zs _ _).zs _ _).zs _ _).zs _ _).zs _ _).zs _ _
  · refine hY.grow hW hb hg hA h1 hbr l0 l1 l2 l3 ?_ (fun j hj => ?_) rfl rfl rfl rfl rfl rfl (fun r hr => ?_)
    · exact sF_eq _ _ _ _
    · exact sF_ne _ _ (by omega)
    · rw [sRow_ne _ _ (by omega), sRow_ne _ _ (by omega), sRow_ne _ _ (by omega), sRow_ne _ _ (by omega), sRow_ne _ _ (by omega), sRow_ne _ _ (by omega)]
      rfl
  · exact hW.grow hb hg hA h1 hbr l1 l2
theorem p_needColourY {q : Nat} (hq : q < 10) : F_X7_needColour (nI q) w = some (.inl (), w) := by
  unfold F_X7_needColour
  rw [if_neg (nI_pos (by omega)), if_pos (show nI q < 10 from nI_lt (b := 10) hq (by decide))]
theorem p_needColourN (h : a < 0 ∨ 10 ≤ a.toNatClampNeg) : F_X7_needColour a w = some (.inr "java/lang/IllegalArgumentException", w) := by
  unfold F_X7_needColour
  by_cases h0 : a < 0
  · rw [if_pos h0]
  · rw [if_neg h0, if_neg (show ¬ a < 10 from ltI (N := 10) h h0)]
end GR

