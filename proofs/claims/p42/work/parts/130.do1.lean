/-! enter, rest, ring, set on both sides -/
/-- as DO, and the answer is no -1 -/
def DV (z : Nat → Int32) (B' T' : Nat) (wp : xWt) (fP fM : xWt → Option (Int32 × xWt)) : Prop := ∀ wr, zz wr = z → ∃ v wq wE, fP wp = some (v, wq) ∧ dP wp wq ∧ fM wr = some (v, wE) ∧ dM wr wE ∧ YR 0 (zz wE) wq ∧ WF (zz wE) B' T' ∧ v ≠ -1
theorem DV.mono {z : Nat → Int32} {w : xWt} {B T B' T' : Nat} {fP fM : xWt → Option (Int32 × xWt)} (hB : B ≤ B') (hT : T ≤ T') (h : DV z B T w fP fM) : DO z B' T' w fP fM := fun wr hz => by
  obtain ⟨v, wq, wE, a1, a2, a3, a4, a5, a6, -⟩ := h wr hz
  exact ⟨v, wq, wE, a1, a2, a3, a4, a5, a6.mono hB hT⟩
section D1
variable {z z' : Nat → Int32} {w w' : xWt} {B T B' c h l b : Nat}
theorem WF.glob (hW : WF z B T) (ho : ∀ i, i ≠ 0 → i ≠ 8 → i ≠ 9 → z' i = z i) {b' : Nat} (h0 : z' 0 = nI b') (hb : bN z ≤ b') (hb2 : b' ≤ B') (hlt : b' < 2 ^ 31) (h8 : ∃ s, 1 ≤ s ∧ s ≤ 20 ∧ z' 8 = nI s) (h9 : z' 9 = 0 ∨ z' 9 = 1) : WF z' B' T := by
  have h120 := hW.g120
  have eg : gN z' = gN z := by unfold gN; rw [ho 1 (by omega) (by omega) (by omega)]
  have eb : bN z' = b' := by unfold bN; rw [h0, nI_clamp hlt]
  have et : tN z' = tN z := by unfold tN; rw [ho 7 (by omega) (by omega) (by omega)]
  have hL : ∀ l k, zL z' l k = zL z l k := fun l k => ho _ (by omega) (by omega) (by omega)
  have hC : ∀ l k, zC z' l k = zC z l k := fun l k => ho _ (by omega) (by omega) (by omega)
  have hH : ∀ l h k, zH z' l h k = zH z l h k := fun l h k => ho _ (by omega) (by omega) (by omega)
  refine ⟨?_, ?_, ?_, ?_, ?_, ?_⟩
  · obtain ⟨a1, a2, a3, a4, a5, a6, a7, a8⟩ := hW.s
    refine ⟨by rw [eb]; exact h0, by rw [eb]; exact hb2, ?_, ?_, ?_, ?_, h8, h9⟩
    · rw [eg, ho 1 (by omega) (by omega) (by omega)]; exact a3
    · rw [eg]; exact a4
    · rw [et, ho 7 (by omega) (by omega) (by omega)]; exact a5
    · rw [et]; exact a6
  · intro b hb
    rw [ho (10 + b) (by omega) (by omega) (by omega), eg]
    simp only [hL]
    exact hW.b b hb
  · intro l hl
    rw [hL]
    rcases hW.l l (by rw [← eg]; exact hl) with q | q | ⟨q, d, s, t, r1, r2, r3, r4, r5, r6, r7⟩
    · exact Or.inl q
    · exact Or.inr (Or.inl q)
    · exact Or.inr (Or.inr ⟨q, d, s, t, r1, by rw [eb]; omega, by rw [et]; exact r3, by rw [hL]; exact r4, by rw [hL]; exact r5, by rw [hL]; exact r6, by rw [hC]; exact r7⟩)
  · intro c hc
    simp only [hC, hH, eb]
    rcases hW.c c hc with q | ⟨q1, q2 | ⟨q2, s, q3, q4⟩⟩
    · exact Or.inl q
    · exact Or.inr ⟨q1, Or.inl q2⟩
    · exact Or.inr ⟨q1, Or.inr ⟨q2, s, by omega, q4⟩⟩
  · intro c h hc hh
    unfold wK
    simp only [hH, eg]
    exact hW.h c h hc hh
  · simp only [hC]
    exact hW.one
theorem YR.glob (hY : YR 0 z w) (ho : ∀ i, i ≠ 0 → i ≠ 8 → i ≠ 9 → z' i = z i) (hr : ∀ r, w'.1 0 r = w.1 0 r) (hf : yF 0 z' w') : YR 0 z' w' := by
  have eg : gN z' = gN z := by unfold gN; rw [ho 1 (by omega) (by omega) (by omega)]
  have hL : ∀ l k, zL z' l k = zL z l k := fun l k => ho _ (by omega) (by omega) (by omega)
  have hC : ∀ l k, zC z' l k = zC z l k := fun l k => ho _ (by omega) (by omega) (by omega)
  have hH : ∀ l h k, zH z' l h k = zH z l h k := fun l h k => ho _ (by omega) (by omega) (by omega)
  refine ⟨hf, ?_, ?_, ?_, ?_, ?_⟩
  · intro b hb
    rw [hr, ho (10 + b) (by omega) (by omega) (by omega)]
    exact hY.b b hb
  · intro l hl
    simp only [hL, hr]
    exact hY.l l (by rw [← eg]; exact hl)
  · intro c hc
    simp only [hC, hr]
    exact hY.c c hc
  · intro c h hc hh
    simp only [hH, hr]
    exact hY.h c h hc hh
  · intro c hc
    obtain ⟨hl, q1, q2, q3⟩ := hY.p c hc
    refine ⟨hl, ⟨fun l => ?_, ?_⟩, by rw [hr]; exact q2, by rw [hr]; exact q3⟩
    · rw [q1.1 l, eg, oB_iff, oB_iff, hL, hL]
    · unfold tu
      simp only [hL]
      exact q1.2
theorem d_ring (hW : WF z B T) (hB : B < 2 ^ 30) (hY : YR 0 z w) : DV z (B + 1) T w (F_X6_strike 0) F_X8_doRing := by
  intro wr hz
  obtain ⟨a1, a2, a3, a4, a5, a6, a7, a8⟩ := hW.s
  have e1 : z 0 + 1 = nI (bN z + 1) := by rw [a1, nI_1]
  have hz' : zz (zs wr 0 (z 0 + 1)) = upd z 0 (z 0 + 1) := by rw [zs_z, hz]
  have ho : ∀ i, i ≠ 0 → i ≠ 8 → i ≠ 9 → upd z 0 (z 0 + 1) i = z i := fun i h _ _ => upd_ne _ _ h
  refine ⟨z 0 + 1, sF w 0 0 (z 0 + 1), zs wr 0 (z 0 + 1), ?_, (dP.rf w).fd _ _, ?_, (dM.rf wr).zs _ _, ?_, ?_, by rw [e1]; exact nI_m1 (by omega)⟩
  · unfold F_X6_strike lw
    dsimp only
    rw [sF_eq, hY.f.1]
  · unfold F_X8_doRing
    rw [m_z0, hz, show ast wr 9 0 0 (z 0 + 1) = fun f : xWt → Option (Int32 × xWt) => f (zs wr 0 (z 0 + 1)) from funext fun f => m_zs (i := 0) (by omega)]
    dsimp only
    rw [m_z0, hz', upd_eq]
  · rw [hz']
    refine hY.glob ho (fun r => rfl) ?_
    obtain ⟨q0, q1, q2, q3, q4, q5, q6, q7, q8⟩ := hY.f
    exact ⟨(sF_eq _ _ _ _).trans (upd_eq _ _ _).symm, q1, q2, q3, q4, q5, q6, q7, q8⟩
  · rw [hz']
    exact hW.glob ho (b' := bN z + 1) (by rw [upd_eq]; exact e1) (by omega) (by omega) (by omega) (by rw [upd_ne _ _ (by omega)]; exact a7) (by rw [upd_ne _ _ (by omega)]; exact a8)
theorem d_set0 (hW : WF z B T) (hY : YR 0 z w) {s : Nat} (h1 : 1 ≤ s) (h2 : s ≤ 20) : DO z B T w (F_X6_change 0 0 (nI s)) (fun w3 => ald w3 9 0 (8 + 0) (fun x => ast w3 9 0 (8 + 0) (nI s) (fun w5 => some (x, w5)))) := by
  intro wr hz
  obtain ⟨a1, a2, a3, a4, a5, a6, a7, a8⟩ := hW.s
  have hlt : bN z < 2 ^ 31 := tn_lt _
  have hz' : zz (zs wr 8 (nI s)) = upd z 8 (nI s) := by rw [zs_z, hz]
  have ho : ∀ i, i ≠ 0 → i ≠ 8 → i ≠ 9 → upd z 8 (nI s) i = z i := fun i _ h _ => upd_ne _ _ h
  refine ⟨z 8, sF w 0 1 (nI s), zs wr 8 (nI s), ?_, (dP.rf w).fd _ _, ?_, (dM.rf wr).zs _ _, ?_, ?_⟩
  · unfold F_X6_change F_X6_valueOf lw
    rw [if_pos rfl, bd_s, if_pos rfl, hY.f.2.1]
  · show ald wr 9 0 8 (fun x => ast wr 9 0 8 (nI s) (fun w5 => some (x, w5))) = _
    rw [m_z8, hz]
    exact m_zs (i := 8) (by omega)
  · rw [hz']
    refine hY.glob ho (fun r => rfl) ?_
    obtain ⟨q0, q1, q2, q3, q4, q5, q6, q7, q8⟩ := hY.f
    exact ⟨q0, (sF_eq _ _ _ _).trans (upd_eq _ _ _).symm, q2, q3, q4, q5, q6, q7, q8⟩
  · rw [hz']
    exact hW.glob ho (b' := bN z) (by rw [upd_ne _ _ (by omega)]; exact a1) (by omega) a2 hlt ⟨s, h1, h2, upd_eq _ _ _⟩ (by rw [upd_ne _ _ (by omega)]; exact a8)
theorem d_set1 (hW : WF z B T) (hY : YR 0 z w) {v : Int32} (hv : v = 0 ∨ v = 1) : DO z B T w (F_X6_change 0 1 v) (fun w3 => ald w3 9 0 (8 + 1) (fun x => ast w3 9 0 (8 + 1) v (fun w5 => some (x, w5)))) := by
  intro wr hz
  obtain ⟨a1, a2, a3, a4, a5, a6, a7, a8⟩ := hW.s
  have hlt : bN z < 2 ^ 31 := tn_lt _
  have hz' : zz (zs wr 9 v) = upd z 9 v := by rw [zs_z, hz]
  have ho : ∀ i, i ≠ 0 → i ≠ 8 → i ≠ 9 → upd z 9 v i = z i := fun i _ _ h => upd_ne _ _ h
  refine ⟨z 9, sF w 0 2 v, zs wr 9 v, ?_, (dP.rf w).fd _ _, ?_, (dM.rf wr).zs _ _, ?_, ?_⟩
  · unfold F_X6_change F_X6_valueOf lw
    rw [if_neg (by decide), bd_s, if_neg (by decide), hY.f.2.2.1]
  · show ald wr 9 0 9 (fun x => ast wr 9 0 9 v (fun w5 => some (x, w5))) = _
    rw [m_z9, hz]
    exact m_zs (i := 9) (by omega)
  · rw [hz']
    refine hY.glob ho (fun r => rfl) ?_
    obtain ⟨q0, q1, q2, q3, q4, q5, q6, q7, q8⟩ := hY.f
    exact ⟨q0, q1, (sF_eq _ _ _ _).trans (upd_eq _ _ _).symm, q3, q4, q5, q6, q7, q8⟩
  · rw [hz']
    exact hW.glob ho (b' := bN z) (by rw [upd_ne _ _ (by omega)]; exact a1) (by omega) a2 hlt (by rw [upd_ne _ _ (by omega)]; exact a7) (by rw [upd_eq]; exact hv)
theorem d_enter (hW : WF z B T) (hY : YR 0 z w) (hc : c < 5) (ht : zC z c 0 = 1) : DV z B T w (F_X6_goIn 0 (nI c)) (F_X8_doEnter (nI c)) := by
  intro wr hz
  obtain ⟨y1, y2, y3⟩ := hY.c c hc
  have hz1 : zz (zs wr (742 + 15 * c + 1) 1) = upd z (742 + 15 * c + 1) 1 := by rw [zs_z, hz]
  have hz' : zz (zs (zs wr (742 + 15 * c + 1) 1) (742 + 15 * c + 2) (z 0)) = upd (upd z (742 + 15 * c + 1) 1) (742 + 15 * c + 2) (z 0) := by rw [zs_z, hz1]
  have ho : chO z (upd (upd z (742 + 15 * c + 1) 1) (742 + 15 * c + 2) (z 0)) c := ⟨fun i hi => by rw [upd_ne _ _ (by omega), upd_ne _ _ (by omega)], fun d hd hne k hk => by rw [zC_ne _ (by omega), zC_ne _ (by omega)]⟩
  have hC : ∀ k, k ≠ 1 → k ≠ 2 → zC (upd (upd z (742 + 15 * c + 1) 1) (742 + 15 * c + 2) (z 0)) c k = zC z c k := fun k h1 h2 => by rw [zC_ne _ (by omega), zC_ne _ (by omega)]
  have hH : ∀ h k, zH (upd (upd z (742 + 15 * c + 1) 1) (742 + 15 * c + 2) (z 0)) c h k = zH z c h k := fun h k => by rw [zH_ne _ (by omega), zH_ne _ (by omega)]
  refine ⟨z 0, sRow w 0 7 (upd (w.1 0 7) c (z 0)), zs (zs wr (742 + 15 * c + 1) 1) (742 + 15 * c + 2) (z 0), ?_, (dP.rf w).row _ _, ?_, ((dM.rf wr).zs _ _).zs _ _, ?_, ?_, by rw [hW.s.1]; exact nI_m1 (tn_lt _)⟩
  · unfold F_X6_goIn
    rw [R_put, bd_s, p5 hc rfl, sRow_2, show w.2.1 0 0 = z 0 from hY.f.1]
  · unfold F_X8_doEnter
    rw [show F_X8_setChild (nI c) 1 1 wr = some ((), zs wr (742 + 15 * c + 1) 1) from m_setC hc (k := 1) (by omega) 1, bd_s, m_z0, hz1, upd_ne _ _ (by omega), show F_X8_setChild (nI c) 2 (z 0) (zs wr (742 + 15 * c + 1) 1) = some ((), zs (zs wr (742 + 15 * c + 1) 1) (742 + 15 * c + 2) (z 0)) from m_setC hc (k := 2) (by omega) (z 0), bd_s, m_z0, hz', upd_ne _ _ (by omega), upd_ne _ _ (by omega)]
  · rw [hz']
    refine hY.child hW ho (fun r hr => ?_) (fun j => rfl) (fun r d h1 h2 hne => ?_) (fun r i h1 h2 _ => ?_) ⟨?_, ?_, fun _ => ?_⟩ (fun h hh => ?_)
    · rw [sRow_ne _ _ (by omega)]
    · by_cases e : r = 7
      · rw [e, sRow_eq, upd_ne _ _ hne]
      · rw [sRow_ne _ _ (by omega)]
    · rw [sRow_ne _ _ (by omega)]
    · rw [hC 0 (by omega) (by omega)]; exact y1
    · rw [zC_eq, sRow_eq, upd_eq]
    · rw [hC 3 (by omega) (by omega), hC 4 (by omega) (by omega), hC 5 (by omega) (by omega)]; exact y3 ht
    · unfold yH1
      simp only [hH]
      exact hY.h c h hc hh
  · rw [hz']
    refine hW.child ho (hC 0 (by omega) (by omega)) (Or.inr ⟨by rw [hC 0 (by omega) (by omega)]; exact ht, Or.inr ⟨by rw [zC_ne _ (by omega), zC_eq], bN z, by rw [ho.b]; exact Nat.le_refl _, by rw [zC_eq]; exact hW.s.1⟩⟩) (fun h hh => ?_)
    unfold wK
    simp only [hH, ho.g]
    exact hW.h c h hc hh
theorem d_rest (hW : WF z B T) (hY : YR 0 z w) (hc : c < 5) (ht : zC z c 0 = 1) : DV z B T w (F_X6_lieDown 0 (nI c)) (F_X8_doRest (nI c)) := by
  intro wr hz
  obtain ⟨y1, y2, y3⟩ := hY.c c hc
  obtain ⟨wE, eE, dE, k1, k2⟩ := m_emptyHooks (w := zs (zs wr (742 + 15 * c + 1) 0) (742 + 15 * c + 2) (-1)) hc
  obtain ⟨wq, eq, dq, p1, p2, p3⟩ := p_releaseAll (w := sRow w 0 7 (upd (w.1 0 7) c (-1))) hc
  have hz1 : ∀ i, i < 748 + 15 * c ∨ 757 + 15 * c ≤ i → zz wE i = upd (upd z (742 + 15 * c + 1) 0) (742 + 15 * c + 2) (-1) i := fun i hi => by rw [k2 i hi, zs_z, zs_z, hz]
  have ho : chO z (zz wE) c := ⟨fun i hi => by rw [hz1 i (by omega), upd_ne _ _ (by omega), upd_ne _ _ (by omega)], fun d hd hne k hk => by
    unfold zC
    rw [hz1 _ (by omega), upd_ne _ _ (by omega), upd_ne _ _ (by omega)]⟩
  have hC : ∀ k, k < 6 → k ≠ 1 → k ≠ 2 → zC (zz wE) c k = zC z c k := fun k h0 h1 h2 => by
    unfold zC
    rw [hz1 _ (by omega), upd_ne _ _ (by omega), upd_ne _ _ (by omega)]
  have hC1 : zC (zz wE) c 1 = 0 := by
    unfold zC
    rw [hz1 _ (by omega), upd_ne _ _ (by omega), upd_eq]
  have hC2 : zC (zz wE) c 2 = -1 := by
    unfold zC
    rw [hz1 _ (by omega), upd_eq]
  refine ⟨nI (cn (fun h => zH z c h 0 == 2) 3), wq, wE, ?_, ((dP.rf w).row _ _).trans dq, ?_, (((dM.rf wr).zs _ _).zs _ _).trans dE, ?_, ?_, nI_m1 (by have := cn_le (fun h => zH z c h 0 == 2) 3; omega)⟩
  · unfold F_X6_lieDown
    rw [p_pinsOfChild hW hY hc, bd_s, R_put, bd_s, p5 hc rfl, eq, bd_s]
  · unfold F_X8_doRest
    rw [m_hooksOf hc, bd_s, hz, show F_X8_setChild (nI c) 1 0 wr = some ((), zs wr (742 + 15 * c + 1) 0) from m_setC hc (k := 1) (by omega) 0, bd_s, show F_X8_setChild (nI c) 2 (-1) (zs wr (742 + 15 * c + 1) 0) = some ((), zs (zs wr (742 + 15 * c + 1) 0) (742 + 15 * c + 2) (-1)) from m_setC hc (k := 2) (by omega) (-1), bd_s, eE, bd_s]
  · refine hY.child hW ho (fun r hr => ?_) (fun j => ?_) (fun r d h1 h2 hne => ?_) (fun r i h1 h2 hne => ?_) ⟨?_, ?_, fun _ => ?_⟩ (fun h hh => ?_)
    · rw [p1 r (by omega), sRow_ne _ _ (by omega)]
    · rw [p2]; rfl
    · rw [p1 r (by omega)]
      by_cases e : r = 7
      · rw [e, sRow_eq, upd_ne _ _ hne]
      · rw [sRow_ne _ _ (by omega)]
    · rw [p3 r h1 h2, if_neg hne, sRow_ne _ _ (by omega)]
    · rw [p1 6 (by omega), hC 0 (by omega) (by omega) (by omega)]; exact y1
    · rw [p1 7 (by omega), hC2, sRow_eq, upd_eq]
    · rw [p1 8 (by omega), p1 9 (by omega), p1 10 (by omega), hC 3 (by omega) (by omega) (by omega), hC 4 (by omega) (by omega) (by omega), hC 5 (by omega) (by omega) (by omega)]; exact y3 ht
    · obtain ⟨a0, a1, a2⟩ := k1 h hh
      refine ⟨?_, ?_, ?_⟩
      · rw [p3 13 (by omega) (by omega), if_pos (by omega), a0]; rfl
      · rw [p3 14 (by omega) (by omega), if_pos (by omega), a0]; rfl
      · rw [p3 15 (by omega) (by omega), if_pos (by omega), a2]
  · refine hW.child ho (hC 0 (by omega) (by omega) (by omega)) (Or.inr ⟨by rw [hC 0 (by omega) (by omega) (by omega)]; exact ht, Or.inl ⟨hC1, hC2⟩⟩) (fun h hh => Or.inl (k1 h hh))
end D1

