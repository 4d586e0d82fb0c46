/-! the calls note, pin, loosen, look, set -/
theorem bd_eta {α : Type} (m : Option (α × xWt)) : bd m (fun x w => some (x, w)) = m := by
  match m with
  | some (a, w) => rfl
  | none => rfl
section T2
variable {z : Nat → Int32} {xs : Nat → Int32} {L i B T b c l h : Nat} {rec : Int32 → xWt → Option Unit} {w : xWt} {a : Int32}
theorem hooks (hY : YR 0 z w) (a a2 : Int32) : (∃ c h, c < 5 ∧ h < 3 ∧ a = nI c ∧ a2 = nI h ∧ zC z c 0 = 1 ∧ F_X7_needHook (nI c) (nI h) w = some (.inl (), w)) ∨ (F_X7_needHook a a2 w = some (.inr "java/lang/IndexOutOfBoundsException", w) ∧ ((∀ w1, zz w1 = z → F_X8_isChild a w1 = some (0, w1)) ∨ ((∀ w1, zz w1 = z → F_X8_isChild a w1 = some (1, w1)) ∧ ∀ w1, F_X8_isHook a2 w1 = some (0, w1)))) := by
  rcases childs hY a with ⟨c, hc, rfl, ht⟩ | ⟨h1, h2⟩
  · rcases i_cases a2 3 (by decide) with ⟨h, hh, rfl⟩ | h2
    · exact Or.inl ⟨c, h, hc, hh, rfl, rfl, ht, p_needHookY hY hc ht hh⟩
    · exact Or.inr ⟨p_needHookN hY hc ht h2, Or.inr ⟨fun w1 hz => m_isChildY hc (by rw [hz]; exact ht), fun w1 => m_isHookN h2⟩⟩
  · refine Or.inr ⟨?_, Or.inl h2⟩
    unfold F_X7_needHook
    rw [h1, bx_r]
theorem bits2 {a a2 : Int32} {w1 : xWt} {f : Int32 → xWt → Option (Int32 × xWt)} (h : F_X8_isChild a w1 = some (0, w1) ∨ (F_X8_isChild a w1 = some (1, w1) ∧ F_X8_isHook a2 w1 = some (0, w1))) : bd (F_X8_isChild a w1) (fun x2 w1 => (if x2 = 0 then some (1, w1) else bd (F_X8_isHook a2 w1) (fun x4 w3 => (if x4 = 0 then some (1, w3) else f x4 w3)))) = some (1, w1) := by
  rcases h with q | ⟨q1, q2⟩
  · rw [q, bd_s, if_pos rfl]
  · rw [q1, bd_s, if_neg (by decide), q2, bd_s, if_pos rfl]
theorem i_rng {v : Int32} {lo hi : Nat} (hhi : hi < 2 ^ 31) (h : ¬ (v < nI lo ∨ nI hi < v)) (hlo : lo < 2 ^ 31) : ∃ s, lo ≤ s ∧ s ≤ hi ∧ v = nI s := by
  have h0 : ¬ v < 0 := fun q => h (Or.inl (Int32.lt_of_lt_of_le q (nI_pos' hlo)))
  obtain ⟨s, h1, rfl⟩ := nI_of h0
  refine ⟨s, ?_, ?_, rfl⟩
  · by_cases q : lo ≤ s
    · exact q
    · exact absurd (Or.inl (nI_lt (by omega) hlo)) h
  · by_cases q : s ≤ hi
    · exact q
    · exact absurd (Or.inr (nI_lt (by omega) h1)) h
end T2

