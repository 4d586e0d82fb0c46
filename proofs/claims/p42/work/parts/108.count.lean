/-! call 26: count -/
section CNT
variable {z : Nat → Int32} {xs : Nat → Int32} {L i B T b c l h : Nat} {rec : Int32 → xWt → Option Unit} {w : xWt} {a : Int32}
theorem p_countV (hW : WF z B T) (hY : YR 0 z w) {s : Nat} (hs : w.2.1 8 2 = nI s) {k : Nat} (hk : k < 16) : F_X7_counted (nI k) w = some (countV z s k, w) := by
  obtain ⟨f0, f1, f2, f3, f4, f5, f6, f7, f8⟩ := hY.f
  unfold F_X7_counted F_X6_numberOfAll F_X5_number
  match k, hk with
  | 0, _ => rw [if_neg (by decide), if_pos (by decide), p_mask hY, bd_s, bd_s]; rfl
  | 1, _ => rw [if_neg (by decide), if_neg (by decide), if_pos (by decide), p_number hY, bd_s, bd_s]; rfl
  | 2, _ => iterate 3 rw [if_neg (by decide)]
            rw [if_pos (by decide), p_numberInYard hW hY, bd_s, bd_s]; rfl
  | 3, _ => iterate 4 rw [if_neg (by decide)]
            rw [if_pos (by decide), f0, bd_s]; rfl
  | 4, _ => iterate 5 rw [if_neg (by decide)]
            rw [if_pos (by decide), f8, bd_s]; rfl
  | 5, _ => iterate 6 rw [if_neg (by decide)]
            rw [if_pos (by decide), p_numberWhere hW hY, bd_s, bd_s]; rfl
  | 6, _ => iterate 7 rw [if_neg (by decide)]
            rw [if_pos (by decide), p_numberWhere hW hY, bd_s, bd_s]; rfl
  | 7, _ => iterate 8 rw [if_neg (by decide)]
            rw [if_pos (by decide), p_numberWhere hW hY, bd_s, bd_s]; rfl
  | 8, _ => iterate 9 rw [if_neg (by decide)]
            rw [if_pos (by decide), p_pins hW hY, bd_s, bd_s]; rfl
  | 9, _ => iterate 10 rw [if_neg (by decide)]
            rw [if_pos (by decide), p_notes hW hY, bd_s, bd_s]; rfl
  | 10, _ => iterate 11 rw [if_neg (by decide)]
             rw [if_pos (by decide), f3, bd_s]; rfl
  | 11, _ => iterate 12 rw [if_neg (by decide)]
             rw [if_pos (by decide), f4, bd_s]; rfl
  | 12, _ => iterate 13 rw [if_neg (by decide)]
             rw [if_pos (by decide), f5, bd_s]; rfl
  | 13, _ => iterate 14 rw [if_neg (by decide)]
             rw [if_pos (by decide), f6, bd_s]; rfl
  | 14, _ => iterate 15 rw [if_neg (by decide)]
             rw [f7, bd_s]; rfl
  | 15, _ => rw [if_pos (by decide), bd_s, hs]; rfl
  | n + 16, hk => exact absurd hk (by omega)
end CNT

