/-! a state is saved -/
theorem sRow_sRow (w : xWt) (k r : Nat) (f g : Nat → Int32) : sRow (sRow w k r f) k r g = sRow w k r g := by
  unfold sRow
  congr 1
  funext k' r'
  dsimp only
  split
  · rfl
  · rfl
theorem rl91 : rl 9 1 = 4902 := rfl
theorem ix817 (s i : Nat) : 817 * nI s + nI i = nI (817 * s + i) := by
  rw [show (817 : Int32) = nI 817 from rfl, nI_mul, nI_add]
theorem lt817 {i : Nat} (h : i < 817) : ¬ (817 : Int32) ≤ nI i := nI_ge (b := 817) h (by decide)
theorem lt4085 {i : Nat} (h : i < 4085) : ¬ (4085 : Int32) ≤ nI i := nI_ge (b := 4085) h (by decide)
section REC
variable {w : xWt} {s nx : Nat} {z : Nat → Int32} {B T : Nat}
theorem m_rec52 (hs : w.2.1 9 1 = nI s) (h5 : s ≤ 5) : ∃ f : Nat → Int32, L_X8_record_52 9999 0 w = some (nI 817, sRow w 9 1 f) ∧ (∀ i, i < 817 → f (817 * s + i) = zz w i) ∧ ∀ m, m < 817 * s → f m = w.1 9 1 m := by
  have h := up_loop (fun n i (f : Nat → Int32) => L_X8_record_52 n (nI i) (sRow w 9 1 f)) (fun i f => upd f (817 * s + i) (zz w i)) (fun f => (nI 817, sRow w 9 1 f)) 817 (fun i f => (∀ j, j < i → f (817 * s + j) = zz w j) ∧ ∀ m, m < 817 * s → f m = w.1 9 1 m)
    (fun n i f hi hI => ⟨by
      show B_X8_record_52 (L_X8_record_52 n) (nI i) (sRow w 9 1 f) = _
      unfold B_X8_record_52
      rw [if_neg (lt817 hi), m_z (by omega), show (sRow w 9 1 f).2.1 9 1 = nI s from hs, ix817, ast_in (k := 9) (r := 1) (by rw [rl91]; omega), sRow_eq, sRow_sRow, nI_1]
      rfl, fun j hj => by
        by_cases e : j = i
        · subst e; exact upd_eq _ _ _
        · rw [upd_ne _ _ (by omega)]; exact hI.1 j (by omega), fun m hm => by
        rw [upd_ne _ _ (by omega)]; exact hI.2 m hm⟩)
    (fun n f _ => by
      show B_X8_record_52 (L_X8_record_52 n) (nI 817) (sRow w 9 1 f) = _
      unfold B_X8_record_52
      rw [if_pos (show (817 : Int32) ≤ nI 817 from Int32.le_refl _)]) 817 0 (w.1 9 1) 9999 (by omega) (by omega) ⟨fun j hj => absurd hj (by omega), fun _ _ => rfl⟩
  refine ⟨_, ?_, h.2.1, h.2.2⟩
  have h1 := h.1
  rw [sRow_self] at h1
  exact h1
theorem m_rec11 : ∃ f : Nat → Int32, L_X8_record_11 9999 0 w = some (nI 4085, sRow w 9 1 f) ∧ ∀ m, m < 4085 → f m = w.1 9 1 (817 + m) := by
  have h := up_loop (fun n i (f : Nat → Int32) => L_X8_record_11 n (nI i) (sRow w 9 1 f)) (fun i f => upd f i (f (817 + i))) (fun f => (nI 4085, sRow w 9 1 f)) 4085 (fun i f => (∀ j, j < i → f j = w.1 9 1 (817 + j)) ∧ ∀ m, i ≤ m → f m = w.1 9 1 m)
    (fun n i f hi hI => ⟨by
      show B_X8_record_11 (L_X8_record_11 n) (nI i) (sRow w 9 1 f) = _
      unfold B_X8_record_11
      rw [if_neg (lt4085 hi), show (817 : Int32) + nI i = nI (817 + i) from nI_add 817 i, ald_in (k := 9) (r := 1) (by rw [rl91]; omega), ast_in (k := 9) (r := 1) (by rw [rl91]; omega), sRow_eq, sRow_sRow, nI_1], fun j hj => by
        by_cases e : j = i
        · subst e; rw [upd_eq]; exact hI.2 _ (by omega)
        · rw [upd_ne _ _ (by omega)]; exact hI.1 j (by omega), fun m hm => by
        rw [upd_ne _ _ (by omega)]; exact hI.2 m (by omega)⟩)
    (fun n f _ => by
      show B_X8_record_11 (L_X8_record_11 n) (nI 4085) (sRow w 9 1 f) = _
      unfold B_X8_record_11
      rw [if_pos (show (4085 : Int32) ≤ nI 4085 from Int32.le_refl _)]) 4085 0 (w.1 9 1) 9999 (by omega) (by omega) ⟨fun j hj => absurd hj (by omega), fun _ _ => rfl⟩
  refine ⟨_, ?_, h.2.1⟩
  have h1 := h.1
  rw [sRow_self] at h1
  exact h1
end REC
