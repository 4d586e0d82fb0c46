/-! calls 24, 26, 27, 29 to 35 -/
theorem kB_at {z : Nat → Int32} {v : Int32} {c h : Nat} (hh : h < 3) : kB z v (3 * c + h) = (zH z c h 0 == v) := by
  unfold kB
  rw [show (3 * c + h) / 3 = c by omega, show (3 * c + h) % 3 = h by omega]
def countV (z : Nat → Int32) (s : Nat) : Nat → Int32
  | 0 => mk (ch z) 5
  | 1 => nI (cn (ch z) 5)
  | 2 => nI (cn (yI z) 5)
  | 3 => z 0
  | 4 => z 1
  | 5 => nI (cn (fun l => zL z l 1 == 0) (gN z))
  | 6 => nI (cn (fun l => zL z l 1 == 1) (gN z))
  | 7 => nI (cn (fun l => zL z l 1 == 2) (gN z))
  | 8 => nI (cn (kB z 2) 15)
  | 9 => nI (cn (kB z 1) 15)
  | 10 => z 2
  | 11 => z 3
  | 12 => z 4
  | 13 => z 5
  | 14 => z 6
  | _ => nI s
theorem shl_01 : ∀ c, c < 5 → ((0 : Int32) <<< (nI c &&& 31)) = 0 := by decide +kernel
section RD4
variable {z : Nat → Int32} {xs : Nat → Int32} {L i B T b c l h : Nat} {rec : Int32 → xWt → Option Unit} {w : xWt} {a : Int32}
theorem m_isHookN (h : a < 0 ∨ 3 ≤ a.toNatClampNeg) : F_X8_isHook a w = some (0, w) := by
  unfold F_X8_isHook
  rw [show F_X8_in a 0 2 w = some (0, w) from m_inN (N := 2) h (by decide), bd_s, zr_0]
theorem p_needHookY (hY : YR 0 z w) (hc : c < 5) (ht : zC z c 0 = 1) (hh : h < 3) : F_X7_needHook (nI c) (nI h) w = some (.inl (), w) := by
  unfold F_X7_needHook
  rw [p_needChildY hY hc ht, bx_l, if_neg (nI_pos (by omega)), if_pos (show nI h < 3 from nI_lt (b := 3) hh (by decide))]
theorem p_needHookN (hY : YR 0 z w) (hc : c < 5) (ht : zC z c 0 = 1) (h : a < 0 ∨ 3 ≤ a.toNatClampNeg) : F_X7_needHook (nI c) a w = some (.inr "java/lang/IndexOutOfBoundsException", w) := by
  unfold F_X7_needHook
  rw [p_needChildY hY hc ht, bx_l]
  by_cases h0 : a < 0
  · rw [if_pos h0]
  · rw [if_neg h0, if_neg (show ¬ a < 3 from ltI (N := 3) h h0)]
theorem p_numberOfHook (hW : WF z B T) (hY : YR 0 z w) (hc : c < 5) (hh : h < 3) {k : Nat} (hk : k < 3) : F_X1_numberOfHook 0 (nI c) (nI h) (nI k) w = some (zH z c h k, w) := by
  unfold F_X1_numberOfHook
  match k, hk with
  | 0, _ => rw [if_pos (by decide), p_kindOf hW hY hc hh, bd_s]
  | 1, _ => rw [if_neg (by decide), if_pos (by decide), p_leafOf hW hY hc hh, bd_s]
  | 2, _ => rw [if_neg (by decide), if_neg (by decide), p_branchOf hY hc hh, bd_s]
  | n + 3, hk => exact absurd hk (by omega)
end RD4

