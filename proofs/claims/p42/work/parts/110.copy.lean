/-! a yard copied onto another -/
theorem rl_k {k r : Nat} (hk : k < 8) : rl k r = rl 0 r := by
  unfold rl
  rw [if_pos hk, if_pos (show 0 < 8 by decide)]
def CP (k k2 n m : Nat) (w w' : xWt) : Prop := (∀ r, r < n → ∀ i, i < rl k r → w'.1 k r i = w.1 k2 r i) ∧ (∀ j, j < m → w'.2.1 k j = w.2.1 k2 j) ∧ (∀ k' r, k' ≠ k → w'.1 k' r = w.1 k' r) ∧ (∀ k' j, k' ≠ k → w'.2.1 k' j = w.2.1 k' j) ∧ w'.2.2 = w.2.2
theorem CP.rf (k k2 : Nat) (w : xWt) : CP k k2 0 0 w w := ⟨fun r h => absurd h (by omega), fun j h => absurd h (by omega), fun _ _ _ => rfl, fun _ _ _ => rfl, rfl⟩
theorem CP.fd {k k2 n m : Nat} {w w1 : xWt} (hne : k2 ≠ k) (h : CP k k2 n m w w1) : CP k k2 n (m + 1) w (sF w1 k m (w1.2.1 k2 m)) := by
  obtain ⟨h1, h2, h3, h4, h5⟩ := h
  refine ⟨h1, fun j hj => ?_, h3, fun k' j hk => ?_, h5⟩
  · by_cases e : j = m
    · subst e
      rw [sF_eq, h4 k2 j hne]
    · rw [sF_ne _ _ (fun q => e q.2)]
      exact h2 j (by omega)
  · rw [sF_ne _ _ (fun q => hk q.1)]
    exact h4 k' j hk
theorem CP.rw9 {k k2 n m : Nat} {w w1 : xWt} (hne : k2 ≠ k) (h : CP k k2 n m w w1) : CP k k2 (n + 1) m w (sRow w1 k n (va_cpy (w1.1 k2 n) (w1.1 k n) 0 0 (rl k n))) := by
  obtain ⟨h1, h2, h3, h4, h5⟩ := h
  refine ⟨fun r hr i hi => ?_, h2, fun k' r hk => ?_, h4, h5⟩
  · by_cases e : r = n
    · subst e
      rw [sRow_eq]
      unfold va_cpy
      rw [if_pos ⟨by omega, by omega⟩, h3 k2 r hne, Nat.sub_zero, Nat.zero_add]
    · rw [sRow_ne _ _ (fun q => e q.2)]
      exact h1 r (by omega) i hi
  · rw [sRow_ne _ _ (fun q => hk q.1)]
    exact h3 k' r hk
theorem p_crow {k k2 : Nat} (hk : k < 8) (hk2 : k2 < 8) (r : Nat) (w : xWt) : F_X4_copyFrom k r k2 r w = some ((), sRow w k r (va_cpy (w.1 k2 r) (w.1 k r) 0 0 (rl k r))) := by
  have hb := rl_lt k r
  unfold F_X4_copyFrom acp
  rw [rl_k hk2, ← rl_k hk, ite_self]
  show (if (0 : Int32) < 0 ∨ (0 : Int32) < 0 ∨ nI (rl k r) < 0 ∨ rl k r < (0 : Int32).toNatClampNeg + (nI (rl k r)).toNatClampNeg ∨ rl k r < (0 : Int32).toNatClampNeg + (nI (rl k r)).toNatClampNeg then none else some ((), sRow w k r (va_cpy (w.1 k2 r) (w.1 k r) (0 : Int32).toNatClampNeg (0 : Int32).toNatClampNeg (nI (rl k r)).toNatClampNeg))) = _
  rw [nI_clamp (by omega), show (0 : Int32).toNatClampNeg = 0 from rfl, if_neg]
  rintro (q | q | q | q | q)
  · exact absurd q (by decide)
  · exact absurd q (by decide)
  · exact nI_pos (by omega) q
  · omega
  · omega
section CPY
variable {k k2 : Nat} {z : Nat → Int32} {w w' : xWt} {B T : Nat}
theorem p_copy2 (hk : k < 8) (hk2 : k2 < 8) (hne : k2 ≠ k) {w1 : xWt} (h : CP k k2 0 8 w w1) : ∃ w2, F_X2_copyFrom k k2 w1 = some ((), w2) ∧ CP k k2 6 9 w w2 := by
  unfold F_X2_copyFrom lw
  dsimp only
  rw [p_crow hk hk2 0, bd_s, p_crow hk hk2 1, bd_s, p_crow hk hk2 2, bd_s, p_crow hk hk2 3, bd_s, p_crow hk hk2 4, bd_s, p_crow hk hk2 5, bd_s]
  exact ⟨_, rfl, ((((((h.fd hne).rw9 hne).rw9 hne).rw9 hne).rw9 hne).rw9 hne).rw9 hne⟩
theorem p_copy0 (hk : k < 8) (hk2 : k2 < 8) (hne : k2 ≠ k) {w1 : xWt} (h : CP k k2 6 9 w w1) : ∃ w2, F_X0_copyFrom k k2 w1 = some ((), w2) ∧ CP k k2 13 9 w w2 := by
  unfold F_X0_copyFrom
  rw [p_crow hk hk2 6, bd_s, p_crow hk hk2 7, bd_s, p_crow hk hk2 8, bd_s, p_crow hk hk2 9, bd_s, p_crow hk hk2 10, bd_s, p_crow hk hk2 11, bd_s, p_crow hk hk2 12, bd_s]
  exact ⟨_, rfl, ((((((h.rw9 hne).rw9 hne).rw9 hne).rw9 hne).rw9 hne).rw9 hne).rw9 hne⟩
theorem p_copy1 (hk : k < 8) (hk2 : k2 < 8) (hne : k2 ≠ k) {w1 : xWt} (h : CP k k2 13 9 w w1) : ∃ w2, F_X1_copyFrom k k2 w1 = some ((), w2) ∧ CP k k2 16 9 w w2 := by
  unfold F_X1_copyFrom
  rw [p_crow hk hk2 13, bd_s, p_crow hk hk2 14, bd_s, p_crow hk hk2 15, bd_s]
  exact ⟨_, rfl, ((h.rw9 hne).rw9 hne).rw9 hne⟩
theorem p_copy (hk : k < 8) (hk2 : k2 < 8) (hne : k2 ≠ k) (w : xWt) : ∃ w', F_X6_copyFrom k k2 w = some ((), w') ∧ CP k k2 16 9 w w' := by
  unfold F_X6_copyFrom lw
  dsimp only
  obtain ⟨w2, e2, c2⟩ := p_copy2 (w := w) hk hk2 hne ((((((((CP.rf k k2 w).fd hne).fd hne).fd hne).fd hne).fd hne).fd hne).fd hne |>.fd hne)
  rw [e2, bd_s]
  obtain ⟨w3, e3, c3⟩ := p_copy0 hk hk2 hne c2
  rw [e3, bd_s]
  obtain ⟨w4, e4, c4⟩ := p_copy1 hk hk2 hne c3
  rw [e4, bd_s]
  exact ⟨w4, rfl, c4⟩
theorem YR.copy (hk : k < 8) (hW : WF z B T) (h : CP k k2 16 9 w w') (hY : YR k2 z w) : YR k z w' := by
  obtain ⟨h1, h2, -, -, -⟩ := h
  have h120 := hW.g120
  refine ⟨?_, ?_, ?_, ?_, ?_, ?_⟩
  · have q := hY.f
    unfold yF at q ⊢
    rw [h2 0 (by omega), h2 1 (by omega), h2 2 (by omega), h2 3 (by omega), h2 4 (by omega), h2 5 (by omega), h2 6 (by omega), h2 7 (by omega), h2 8 (by omega)]
    exact q
  · intro b hb
    rw [h1 0 (by omega) b (by rw [rl_k hk]; exact hb)]; exact hY.b b hb
  · intro l hl
    have e : ∀ r, 1 ≤ r → r < 6 → l < rl k r := fun r a1 a2 => by
      rw [rl_k hk]
      unfold rl
      rw [if_pos (by decide), if_neg (by omega), if_pos a2]
      omega
    rw [h1 1 (by omega) l (e 1 (by omega) (by omega)), h1 2 (by omega) l (e 2 (by omega) (by omega)), h1 3 (by omega) l (e 3 (by omega) (by omega)), h1 4 (by omega) l (e 4 (by omega) (by omega)), h1 5 (by omega) l (e 5 (by omega) (by omega))]
    exact hY.l l hl
  · intro c hc
    have e : ∀ r, 6 ≤ r → r < 12 → c < rl k r := fun r a1 a2 => by
      rw [rl_k hk]
      unfold rl
      rw [if_pos (by decide), if_neg (by omega), if_neg (by omega), if_pos a2]
      omega
    rw [h1 6 (by omega) c (e 6 (by omega) (by omega)), h1 7 (by omega) c (e 7 (by omega) (by omega)), h1 8 (by omega) c (e 8 (by omega) (by omega)), h1 9 (by omega) c (e 9 (by omega) (by omega)), h1 10 (by omega) c (e 10 (by omega) (by omega))]
    exact hY.c c hc
  · intro c h hc hh
    have e : ∀ r, 13 ≤ r → 3 * c + h < rl k r := fun r a1 => by
      rw [rl_k hk]
      unfold rl
      rw [if_pos (by decide), if_neg (by omega), if_neg (by omega), if_neg (by omega), if_neg (by omega)]
      omega
    rw [h1 13 (by omega) _ (e 13 (by omega)), h1 14 (by omega) _ (e 14 (by omega)), h1 15 (by omega) _ (e 15 (by omega))]
    exact hY.h c h hc hh
  · intro c hc
    obtain ⟨hl, q1, q2, q3⟩ := hY.p c hc
    have hlen := q1.le h120
    refine ⟨hl, q1, ?_, fun p l hp => ?_⟩
    · rw [h1 11 (by omega) c (by rw [rl_k hk]; exact hc)]; exact q2
    · have hp' := (List.getElem?_eq_some_iff.mp hp).1
      rw [h1 12 (by omega) (120 * c + p) (by rw [rl_k hk]; show 120 * c + p < 600; omega)]; exact q3 p l hp
end CPY

