/-! what holds at the start -/
theorem inv_of {w : xWt} (z0 : w.1 9 0 0 = 0) (z1 : w.1 9 0 1 = 0) (z7 : w.1 9 0 7 = 0) (z8 : w.1 9 0 8 = 4) (z9 : w.1 9 0 9 = 0) (zb : ∀ b, b < 12 → w.1 9 0 (10 + b) = -1) (z26 : ∀ j, j < 5 → w.1 9 0 (2 + j) = 0)
    (zc0 : ∀ c, c < 5 → zC (w.1 9 0) c 0 = if c < 2 then 1 else 0) (zc : ∀ c, c < 5 → ∀ k, k < 6 → k ≠ 0 → zC (w.1 9 0) c k = if k = 2 then -1 else 0) (zh : ∀ c, c < 5 → ∀ h, h < 3 → ∀ k, k < 3 → zH (w.1 9 0) c h k = if k = 0 then 0 else -1)
    (f0 : w.2.1 0 0 = 0) (f1 : w.2.1 0 1 = 4) (f2 : ∀ j, j < 7 → w.2.1 0 (2 + j) = 0) (r0 : ∀ b, b < 12 → w.1 0 0 b = -1) (r6 : ∀ c, c < 5 → w.1 0 6 c = if c < 2 then 1 else 0) (r7 : ∀ c, c < 5 → w.1 0 7 c = -1) (r8 : ∀ c, c < 5 → w.1 0 8 c = 0) (r9 : ∀ c, c < 5 → w.1 0 9 c = 0) (r10 : ∀ c, c < 5 → w.1 0 10 c = 0) (r11 : ∀ c, c < 5 → w.1 0 11 c = 0) (r13 : ∀ i, i < 15 → w.1 0 13 i = -1) (r14 : ∀ i, i < 15 → w.1 0 14 i = -1) (r15 : ∀ i, i < 15 → w.1 0 15 i = -1)
    (g0 : w.2.1 8 0 = 0) (g1 : w.2.1 8 1 = 0) (g2 : w.2.1 8 2 = 0) (g3 : w.2.1 8 3 = 0) (m1 : w.2.1 9 1 = 0) (m2 : w.2.1 9 2 = 0) (m3 : w.2.1 9 3 = 0) (ho : w.2.2 ≠ none) : INV w 0 0 := by
  have eg : gN (zz w) = 0 := by
    show (w.1 9 0 1).toNatClampNeg = 0
    rw [z1]; rfl
  have eb : bN (zz w) = 0 := by
    show (w.1 9 0 0).toNatClampNeg = 0
    rw [z0]; rfl
  have et : tN (zz w) = 0 := by
    show (w.1 9 0 7).toNatClampNeg = 0
    rw [z7]; rfl
  refine ⟨⟨⟨⟨?_, ?_, ?_, ?_, ?_, ?_, ⟨4, by omega, by omega, z8⟩, Or.inl z9⟩, fun b hb => Or.inl (zb b hb), fun l hl => ?_, fun c hc => ?_, fun c h hc hh => Or.inl ⟨?_, ?_, ?_⟩, 0, by omega, ?_⟩, ⟨⟨?_, ?_, ?_, ?_, ?_, ?_, ?_, ?_, ?_⟩, ?_, ?_, ?_, ?_, ?_⟩⟩, ⟨?_, Or.inl m2⟩, ⟨0, 0, by omega, by omega, m1, g2, g1, fun j hj => absurd hj (by omega)⟩, ⟨0, by omega, g0, m3, fun i hi => absurd hi (by omega)⟩, ho⟩
  · rw [eb]; exact z0
  · rw [eb]; exact Nat.le_refl _
  · rw [eg]; exact z1
  · rw [eg]; omega
  · rw [et]; exact z7
  · rw [et]; exact Nat.le_refl _
  · rw [eg] at hl; omega
  · have a0 := zc0 c hc
    have a1 := zc c hc 1 (by omega) (by omega)
    have a2 := zc c hc 2 (by omega) (by omega)
    by_cases q : c < 2
    · rw [if_pos q] at a0
      exact Or.inr ⟨a0, Or.inl ⟨a1, a2⟩⟩
    · rw [if_neg q] at a0
      exact Or.inl ⟨a0, a1, a2, fun h hh => zh c hc h hh 0 (by omega)⟩
  · exact zh c hc h hh 0 (by omega)
  · exact zh c hc h hh 1 (by omega)
  · exact zh c hc h hh 2 (by omega)
  · exact zc0 0 (by omega)
  · rw [f0]; exact z0.symm
  · rw [f1]; exact z8.symm
  · exact (f2 0 (by omega)).trans z9.symm
  · exact (f2 1 (by omega)).trans (z26 0 (by omega)).symm
  · exact (f2 2 (by omega)).trans (z26 1 (by omega)).symm
  · exact (f2 3 (by omega)).trans (z26 2 (by omega)).symm
  · exact (f2 4 (by omega)).trans (z26 3 (by omega)).symm
  · exact (f2 5 (by omega)).trans (z26 4 (by omega)).symm
  · exact (f2 6 (by omega)).trans z1.symm
  · intro b hb
    rw [r0 b hb]; exact (zb b hb).symm
  · intro l hl
    rw [eg] at hl; omega
  · intro c hc
    refine ⟨(r6 c hc).trans (zc0 c hc).symm, (r7 c hc).trans (zc c hc 2 (by omega) (by omega)).symm, fun _ => ⟨(r8 c hc).trans (zc c hc 3 (by omega) (by omega)).symm, (r9 c hc).trans (zc c hc 4 (by omega) (by omega)).symm, (r10 c hc).trans (zc c hc 5 (by omega) (by omega)).symm⟩⟩
  · intro c h hc hh
    have k0 : zH (zz w) c h 0 = 0 := zh c hc h hh 0 (by omega)
    have k2 : zH (zz w) c h 2 = -1 := zh c hc h hh 2 (by omega)
    rw [k0, k2, if_neg (by decide), if_neg (by decide)]
    exact ⟨r13 _ (by omega), r14 _ (by omega), r15 _ (by omega)⟩
  · intro c hc
    refine ⟨[], ⟨fun l => ?_, List.Pairwise.nil⟩, r11 c hc, fun p l hp => by simp at hp⟩
    rw [eg]
    constructor
    · intro q; simp at q
    · rintro ⟨q, -⟩; omega
  · rw [g3]; exact m2.symm
theorem inv_out (v : xWt) (z0 : v.1 9 0 0 = 0) (z1 : v.1 9 0 1 = 0) (z7 : v.1 9 0 7 = 0) (z8 : v.1 9 0 8 = 4) (z9 : v.1 9 0 9 = 0) (zb : ∀ b, b < 12 → v.1 9 0 (10 + b) = -1) (z26 : ∀ j, j < 5 → v.1 9 0 (2 + j) = 0)
    (zc0 : ∀ c, c < 5 → zC (v.1 9 0) c 0 = if c < 2 then 1 else 0) (zc : ∀ c, c < 5 → ∀ k, k < 6 → k ≠ 0 → zC (v.1 9 0) c k = if k = 2 then -1 else 0) (zh : ∀ c, c < 5 → ∀ h, h < 3 → ∀ k, k < 3 → zH (v.1 9 0) c h k = if k = 0 then 0 else -1)
    (f0 : v.2.1 0 0 = 0) (f1 : v.2.1 0 1 = 4) (f2 : ∀ j, j < 7 → v.2.1 0 (2 + j) = 0) (r0 : ∀ b, b < 12 → v.1 0 0 b = -1) (r6 : ∀ c, c < 5 → v.1 0 6 c = if c < 2 then 1 else 0) (r7 : ∀ c, c < 5 → v.1 0 7 c = -1) (r8 : ∀ c, c < 5 → v.1 0 8 c = 0) (r9 : ∀ c, c < 5 → v.1 0 9 c = 0) (r10 : ∀ c, c < 5 → v.1 0 10 c = 0) (r11 : ∀ c, c < 5 → v.1 0 11 c = 0) (r13 : ∀ i, i < 15 → v.1 0 13 i = -1) (r14 : ∀ i, i < 15 → v.1 0 14 i = -1) (r15 : ∀ i, i < 15 → v.1 0 15 i = -1)
    (g0 : v.2.1 8 0 = 0) (g1 : v.2.1 8 1 = 0) (g2 : v.2.1 8 2 = 0) (g3 : v.2.1 8 3 = 0) (m1 : v.2.1 9 1 = 0) (m2 : v.2.1 9 2 = 0) (m3 : v.2.1 9 3 = 0) : INV (v.1, v.2.1, some 0) 0 0 :=
  inv_of (w := (v.1, v.2.1, some 0)) z0 z1 z7 z8 z9 zb z26 zc0 zc zh f0 f1 f2 r0 r6 r7 r8 r9 r10 r11 r13 r14 r15 g0 g1 g2 g3 m1 m2 m3 (fun q => by cases q)
