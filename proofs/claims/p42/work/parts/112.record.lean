/-! a state is saved -/
theorem sRow_sRow (w : xWt) (k r : Nat) (f g : Nat → Int32) : sRow (sRow w k r f) k r g = sRow w k r g := by
  unfold sRow
  congr 1
  funext k' r'
  dsimp only
  split
  · rfl
  · rfl
theorem rl91 : rl 9 1 = 4902 := rfl
theorem ix817 (s i : Nat) : 817 * nI s + nI i = nI (817 * s + i) := by
  rw [show (817 : Int32) = nI 817 from rfl, nI_mul, nI_add]
theorem lt817 {i : Nat} (h : i < 817) : ¬ (817 : Int32) ≤ nI i := nI_ge (b := 817) h (by decide)
theorem lt4085 {i : Nat} (h : i < 4085) : ¬ (4085 : Int32) ≤ nI i := nI_ge (b := 4085) h (by decide)
section REC
variable {w : xWt} {s nx : Nat} {z : Nat → Int32} {B T : Nat}
end REC

