/-! calls 10 and 11: take, swap: the tests and the calls -/
section SW
variable {z z' : Nat → Int32} {xs : Nat → Int32} {L i B T b c l : Nat} {rec : Int32 → xWt → Option Unit} {w w' : xWt} {a : Int32}
theorem d_swap (hW : WF z B T) (hY : YR 0 z w) (hT : T < 2 ^ 30) (hc : c < 5) (ht : zC z c 0 = 1) (hb : b < 12) (hl : l < gN z) (hbr : z (10 + b) = nI l) (hg : gN z < 120) (a : Int32) : DV z B (T + 1) w (F_X6_exchange 0 (nI c) (nI b) a) (F_X8_doSwap (nI c) (nI b) a) := by
  intro wr hz
  obtain ⟨v, wq, wE, a1, a2, a3, a4, a5, a6, a7, a8⟩ := d_take hW hY hT hc ht hb hl hbr wr hz
  obtain ⟨v', wq', wE', b1, b2, b3, b4, b5, b6, b7⟩ := d_grow a6 a5 hb (by rw [a7]; exact hg) a wE rfl
  refine ⟨v', wq', wE', ?_, a2.trans b2, ?_, a4.trans b4, b5, b6, b7⟩
  · unfold F_X6_exchange
    rw [a1, bd_s, b1, bd_s]
  · unfold F_X8_doSwap
    rw [a3, bd_s, b3, bd_s]
theorem p_mayTakeOff (hW : WF z B T) (hY : YR 0 z w) (hc : c < 5) (hb : b < 12) : F_X6_mayTakeOff 0 (nI c) (nI b) w = some (if yI z c = true then (if z (10 + b) = -1 then 0 else 1) else 0, w) := by
  unfold F_X6_mayTakeOff
  rw [p_isInYard hW hY hc, bd_s]
  by_cases hy : yI z c = true
  · rw [if_pos hy, if_neg (by decide), if_pos hy, R_get, bd_s, g_12 hb, hY.b b hb]
    by_cases q : z (10 + b) = -1
    · rw [if_pos q, if_pos q]
    · rw [if_neg q, if_neg q]
  · rw [if_neg hy, if_pos rfl, if_neg hy]
end SW

