/-! the record of one child changed; a counter changed -/
def wC1 (z : Nat → Int32) (c : Nat) : Prop := (zC z c 0 = 0 ∧ zC z c 1 = 0 ∧ zC z c 2 = -1 ∧ ∀ h, h < 3 → zH z c h 0 = 0) ∨ (zC z c 0 = 1 ∧ ((zC z c 1 = 0 ∧ zC z c 2 = -1) ∨ (zC z c 1 = 1 ∧ ∃ s, s ≤ bN z ∧ zC z c 2 = nI s)))
def yC1 (z : Nat → Int32) (w : xWt) (c : Nat) : Prop := w.1 0 6 c = zC z c 0 ∧ w.1 0 7 c = zC z c 2 ∧ (zC z c 0 = 1 → w.1 0 8 c = zC z c 3 ∧ w.1 0 9 c = zC z c 4 ∧ w.1 0 10 c = zC z c 5)
def yH1 (z : Nat → Int32) (w : xWt) (c h : Nat) : Prop := w.1 0 13 (3 * c + h) = (if zH z c h 0 = 2 then zH z c h 1 else -1) ∧ w.1 0 14 (3 * c + h) = (if zH z c h 0 = 1 then zH z c h 1 else -1) ∧ w.1 0 15 (3 * c + h) = zH z c h 2
/-- z' is z but for the record of child c -/
def chO (z z' : Nat → Int32) (c : Nat) : Prop := (∀ i, i < 742 → z' i = z i) ∧ ∀ d, d < 5 → d ≠ c → ∀ k, k < 15 → zC z' d k = zC z d k
section CH
variable {z z' : Nat → Int32} {w w' : xWt} {B T c : Nat}
theorem chO.g (h : chO z z' c) : gN z' = gN z := by unfold gN; rw [h.1 1 (by omega)]
theorem chO.b (h : chO z z' c) : bN z' = bN z := by unfold bN; rw [h.1 0 (by omega)]
theorem chO.t (h : chO z z' c) : tN z' = tN z := by unfold tN; rw [h.1 7 (by omega)]
theorem chO.L (h : chO z z' c) {l k : Nat} (hl : l < 120) (hk : k < 6) : zL z' l k = zL z l k := h.1 _ (by omega)
theorem chO.H (h : chO z z' c) {d h' k : Nat} (hd : d < 5) (hne : d ≠ c) (hh : h' < 3) (hk : k < 3) : zH z' d h' k = zH z d h' k := h.2 d hd hne (6 + 3 * h' + k) (by omega)
theorem WF.child (hW : WF z B T) (ho : chO z z' c) (h0 : zC z' c 0 = zC z c 0) (h1 : wC1 z' c) (h2 : ∀ h, h < 3 → wK z' c h) : WF z' B T := by
  have h120 := hW.g120
  have hall : ∀ d, d < 5 → zC z' d 0 = zC z d 0 := fun d hd => by
    by_cases e : d = c
    · rw [e]; exact h0
    · exact ho.2 d hd e 0 (by omega)
  refine ⟨?_, ?_, ?_, ?_, ?_, ?_⟩
  · have q := hW.s
    unfold wS at q ⊢
    rw [ho.g, ho.b, ho.t, ho.1 0 (by omega), ho.1 1 (by omega), ho.1 7 (by omega), ho.1 8 (by omega), ho.1 9 (by omega)]
    exact q
  · intro b hb
    rw [ho.1 (10 + b) (by omega), ho.g]
    rcases hW.b b hb with q | ⟨l, q1, q2, q3, q4⟩
    · exact Or.inl q
    · exact Or.inr ⟨l, q1, q2, by rw [ho.L (by omega) (by omega)]; exact q3, by rw [ho.L (by omega) (by omega)]; exact q4⟩
  · intro l hl
    rw [ho.g] at hl
    rw [ho.L (by omega) (by omega)]
    rcases hW.l l hl with q | q | ⟨q, d, s, t, r1, r2, r3, r4, r5, r6, r7⟩
    · exact Or.inl q
    · exact Or.inr (Or.inl q)
    · refine Or.inr (Or.inr ⟨q, d, s, t, r1, by rw [ho.b]; exact r2, by rw [ho.t]; exact r3, ?_, ?_, ?_, ?_⟩)
      · rw [ho.L (by omega) (by omega)]; exact r4
      · rw [ho.L (by omega) (by omega)]; exact r5
      · rw [ho.L (by omega) (by omega)]; exact r6
      · rw [hall d r1]; exact r7
  · intro d hd
    by_cases e : d = c
    · rw [e]; exact h1
    · rw [ho.2 d hd e 0 (by omega), ho.2 d hd e 1 (by omega), ho.2 d hd e 2 (by omega), ho.b]
      rcases hW.c d hd with ⟨q1, q2, q3, q4⟩ | q
      · exact Or.inl ⟨q1, q2, q3, fun h hh => by rw [ho.H hd e hh (by omega)]; exact q4 h hh⟩
      · exact Or.inr q
  · intro d h hd hh
    by_cases e : d = c
    · rw [e]; exact h2 h hh
    · have q := hW.h d h hd hh
      unfold wK at q ⊢
      rw [ho.H hd e hh (by omega), ho.H hd e hh (by omega), ho.H hd e hh (by omega), ho.g]
      exact q
  · obtain ⟨d, hd, q⟩ := hW.one
    exact ⟨d, hd, by rw [hall d hd]; exact q⟩
theorem YR.child (hW : WF z B T) (hY : YR 0 z w) (ho : chO z z' c) (r1 : ∀ r, r < 6 ∨ r = 11 ∨ r = 12 → w'.1 0 r = w.1 0 r) (r2 : ∀ j, w'.2.1 0 j = w.2.1 0 j) (r3 : ∀ r d, 6 ≤ r → r ≤ 10 → d ≠ c → w'.1 0 r d = w.1 0 r d) (r4 : ∀ r i, 13 ≤ r → r ≤ 15 → i / 3 ≠ c → w'.1 0 r i = w.1 0 r i) (h1 : yC1 z' w' c) (h2 : ∀ h, h < 3 → yH1 z' w' c h) : YR 0 z' w' := by
  have h120 := hW.g120
  refine ⟨?_, ?_, ?_, ?_, ?_, ?_⟩
  · have q := hY.f
    unfold yF at q ⊢
    rw [r2, r2, r2, r2, r2, r2, r2, r2, r2, ho.1 0 (by omega), ho.1 1 (by omega), ho.1 2 (by omega), ho.1 3 (by omega), ho.1 4 (by omega), ho.1 5 (by omega), ho.1 6 (by omega), ho.1 8 (by omega), ho.1 9 (by omega)]
    exact q
  · intro b hb
    rw [ho.1 (10 + b) (by omega), r1 0 (by omega)]
    exact hY.b b hb
  · intro l hl
    rw [ho.g] at hl
    rw [r1 1 (by omega), r1 2 (by omega), r1 3 (by omega), r1 4 (by omega), r1 5 (by omega), ho.L (by omega) (by omega), ho.L (by omega) (by omega), ho.L (by omega) (by omega), ho.L (by omega) (by omega), ho.L (by omega) (by omega)]
    exact hY.l l hl
  · intro d hd
    by_cases e : d = c
    · rw [e]; exact h1
    · rw [r3 6 d (by omega) (by omega) e, r3 7 d (by omega) (by omega) e, r3 8 d (by omega) (by omega) e, r3 9 d (by omega) (by omega) e, r3 10 d (by omega) (by omega) e, ho.2 d hd e 0 (by omega), ho.2 d hd e 2 (by omega), ho.2 d hd e 3 (by omega), ho.2 d hd e 4 (by omega), ho.2 d hd e 5 (by omega)]
      exact hY.c d hd
  · intro d h hd hh
    by_cases e : d = c
    · rw [e]; exact h2 h hh
    · rw [r4 13 _ (by omega) (by omega) (by omega), r4 14 _ (by omega) (by omega) (by omega), r4 15 _ (by omega) (by omega) (by omega), ho.H hd e hh (by omega), ho.H hd e hh (by omega), ho.H hd e hh (by omega)]
      exact hY.h d h hd hh
  · intro d hd
    obtain ⟨hl, q1, q2, q3⟩ := hY.p d hd
    refine ⟨hl, ⟨fun l => ?_, ?_⟩, ?_, ?_⟩
    · rw [q1.1 l, ho.g]
      refine and_congr_right fun hlt => ?_
      rw [oB_iff, oB_iff, ho.L (by omega) (by omega), ho.L (by omega) (by omega)]
    · refine List.Pairwise.imp_of_mem (fun {a b'} ha hb q => ?_) q1.2
      have ha' := ((q1.1 a).mp ha).1
      have hb' := ((q1.1 b').mp hb).1
      unfold tu at q ⊢
      rw [ho.L (by omega) (by omega), ho.L (by omega) (by omega)]
      exact q
    · rw [r1 11 (by omega)]; exact q2
    · rw [r1 12 (by omega)]; exact q3
/-- a counter -/
theorem WF.cnt {j : Nat} (h2 : 2 ≤ j) (h6 : j ≤ 6) (v : Int32) (hW : WF z B T) : WF (upd z j v) B T := by
  have h120 := hW.g120
  have hn : ∀ i, i < 2 ∨ 7 ≤ i → upd z j v i = z i := fun i hi => upd_ne _ _ (by omega)
  have eg : gN (upd z j v) = gN z := by unfold gN; rw [hn 1 (by omega)]
  have eb : bN (upd z j v) = bN z := by unfold bN; rw [hn 0 (by omega)]
  have et : tN (upd z j v) = tN z := by unfold tN; rw [hn 7 (by omega)]
  have hL : ∀ l k, zL (upd z j v) l k = zL z l k := fun l k => hn _ (by omega)
  have hC : ∀ l k, zC (upd z j v) l k = zC z l k := fun l k => hn _ (by omega)
  have hH : ∀ l h k, zH (upd z j v) l h k = zH z l h k := fun l h k => hn _ (by omega)
  refine ⟨?_, ?_, ?_, ?_, ?_, ?_⟩
  · have q := hW.s
    unfold wS at q ⊢
    rw [eg, eb, et, hn 0 (by omega), hn 1 (by omega), hn 7 (by omega), hn 8 (by omega), hn 9 (by omega)]
    exact q
  · intro b hb
    rw [hn (10 + b) (by omega), eg]
    simp only [hL]
    exact hW.b b hb
  · intro l hl
    unfold wA
    simp only [hL, hC, eb, et]
    exact hW.l l (by rw [← eg]; exact hl)
  · intro c hc
    simp only [hC, hH, eb]
    exact hW.c c hc
  · intro c h hc hh
    unfold wK
    simp only [hH, eg]
    exact hW.h c h hc hh
  · simp only [hC]
    exact hW.one
theorem YR.cnt {j : Nat} (h2 : 2 ≤ j) (h6 : j ≤ 6) (v : Int32) (hY : YR 0 z w) : YR 0 (upd z j v) (sF w 0 (j + 1) v) := by
  have hn : ∀ i, i < 2 ∨ 7 ≤ i → upd z j v i = z i := fun i hi => upd_ne _ _ (by omega)
  have eg : gN (upd z j v) = gN z := by unfold gN; rw [hn 1 (by omega)]
  have hL : ∀ l k, zL (upd z j v) l k = zL z l k := fun l k => hn _ (by omega)
  have hC : ∀ l k, zC (upd z j v) l k = zC z l k := fun l k => hn _ (by omega)
  have hH : ∀ l h k, zH (upd z j v) l h k = zH z l h k := fun l h k => hn _ (by omega)
  have hf : ∀ i, 2 ≤ i → i ≤ 6 → w.2.1 0 (i + 1) = z i → (sF w 0 (j + 1) v).2.1 0 (i + 1) = upd z j v i := fun i g1 g2 g => by
    by_cases e : i = j
    · rw [e, sF_eq, upd_eq]
    · rw [sF_ne _ _ (by omega), upd_ne _ _ e]; exact g
  refine ⟨?_, ?_, ?_, ?_, ?_, ?_⟩
  · obtain ⟨q0, q1, q2, q3, q4, q5, q6, q7, q8⟩ := hY.f
    refine ⟨?_, ?_, ?_, hf 2 (by omega) (by omega) q3, hf 3 (by omega) (by omega) q4, hf 4 (by omega) (by omega) q5, hf 5 (by omega) (by omega) q6, hf 6 (by omega) (by omega) q7, ?_⟩
    · rw [sF_ne _ _ (by omega), hn 0 (by omega)]; exact q0
    · rw [sF_ne _ _ (by omega), hn 8 (by omega)]; exact q1
    · rw [sF_ne _ _ (by omega), hn 9 (by omega)]; exact q2
    · rw [sF_ne _ _ (by omega), hn 1 (by omega)]; exact q8
  · intro b hb
    rw [sF_1, hn (10 + b) (by omega)]
    exact hY.b b hb
  · intro l hl
    simp only [hL, sF_1]
    exact hY.l l (by rw [← eg]; exact hl)
  · intro c hc
    simp only [hC, sF_1]
    exact hY.c c hc
  · intro c h hc hh
    simp only [hH, sF_1]
    exact hY.h c h hc hh
  · intro c hc
    obtain ⟨hl, q1, q2, q3⟩ := hY.p c hc
    refine ⟨hl, ⟨fun l => ?_, ?_⟩, q2, q3⟩
    · rw [q1.1 l, eg, oB_iff, oB_iff, hL, hL]
    · unfold tu
      simp only [hL]
      exact q1.2
end CH

