/-! calls 36 and 37: burntShare, fullness -/
section FRC
variable {z : Nat → Int32} {xs : Nat → Int32} {L i B T : Nat} {rec : Int32 → xWt → Option Unit} {w : xWt}
theorem nd_some {β : Type} {r : UInt64} (h : r &&& 0x7fffffffffffffff ≤ 0x7ff0000000000000) (f : UInt64 → Option β) : nd r f = f r := if_pos h
theorem nf_some {β : Type} {r : UInt32} (h : r &&& 0x7fffffff ≤ 0x7f800000) (f : UInt32 → Option β) : nf r f = f r := if_pos h
theorem okD_1 {r : UInt64} (h : okD r = true) : r &&& 0x7fffffffffffffff ≤ 0x7ff0000000000000 ∧ (Op.cmpValue (FP.dcmp r r) .l) = 0 := by
  unfold okD at h
  rw [Bool.and_eq_true] at h
  exact ⟨of_decide_eq_true h.1, of_decide_eq_true h.2⟩
theorem okF_1 {r : UInt32} (h : okF r = true) : r &&& 0x7fffffff ≤ 0x7f800000 ∧ (Op.cmpValue (FP.fcmp r r) .l) = 0 ∧ okD (FP.f2d r) = true := by
  unfold okF at h
  rw [Bool.and_eq_true, Bool.and_eq_true] at h
  exact ⟨of_decide_eq_true h.1.1, of_decide_eq_true h.1.2, h.2⟩
def brN (z : Nat → Int32) : Nat := cn (fun l => zL z l 1 == 2) (gN z)
def asN (z : Nat → Int32) : Nat := cn (fun l => zL z l 1 == 1) (gN z)
theorem br_as (z : Nat → Int32) : brN z + asN z ≤ gN z := by
  refine cn_two _ _ _ fun i _ h => ?_
  have h1 : zL z i 1 = 2 := by simpa using h.1
  have h2 : zL z i 1 = 1 := by simpa using h.2
  rw [h1] at h2
  exact absurd h2 (by decide)
def shV (z : Nat → Int32) : UInt64 := if brN z + asN z = 0 then FP.dconst1 else shr (brN z) (brN z + asN z)
theorem okD_c1 : okD FP.dconst1 = true := by decide +kernel
theorem shV_ok (h120 : gN z ≤ 120) : okD (shV z) = true := by
  have h := br_as z
  unfold shV
  by_cases q : brN z + asN z = 0
  · rw [if_pos q]; exact okD_c1
  · rw [if_neg q]
    have := chk1_all (a := brN z) (s := brN z + asN z) (by omega) (by omega) (by omega)
    unfold chk1 at this
    rw [Bool.and_eq_true] at this
    exact this.1
theorem p_share (hW : WF z B T) (hY : YR 0 z w) : F_X7_burntShare w = some (shV z, w) := by
  have h120 := hW.g120
  have hb := br_as z
  have hok := okD_1 (shV_ok (z := z) h120)
  unfold F_X7_burntShare
  rw [p_numberWhere hW hY, bd_s, p_numberWhere hW hY, bd_s]
  show (if nI (brN z) + nI (asN z) = 0 then some (FP.dconst1, w) else nd (FP.ddiv (FP.i2d (nI (brN z))) (FP.i2d (nI (brN z) + nI (asN z)))) (fun x5 => some (x5, w))) = _
  rw [nI_add]
  unfold shV at hok ⊢
  by_cases q : brN z + asN z = 0
  · rw [if_pos q, q, if_pos (show nI 0 = 0 from rfl)]
  · rw [if_neg q] at hok ⊢
    rw [if_neg (nI_ne0 (by omega) (by omega))]
    exact nd_some hok.1 _
def roN (z : Nat → Int32) : Nat := (z 8).toNatClampNeg * cn (ch z) 5
def fuV (z : Nat → Int32) : UInt32 := ful (asN z) (roN z)
theorem ro_in (hW : WF z B T) : z 8 = nI (z 8).toNatClampNeg ∧ (z 8).toNatClampNeg ≤ 20 ∧ roN z ∈ rooms ∧ 0 < roN z ∧ roN z ≤ 100 := by
  obtain ⟨s, s1, s2, e⟩ := hW.s.2.2.2.2.2.2.1
  have hs : (z 8).toNatClampNeg = s := by rw [e, nI_clamp (by omega)]
  have h5 := cn_le (ch z) 5
  have h1 : 1 ≤ cn (ch z) 5 := by
    obtain ⟨c, hc, h⟩ := hW.one
    rcases Nat.eq_zero_or_pos (cn (ch z) 5) with q | q
    · have := (cn_0 _ _).mp q c hc
      unfold ch at this
      rw [decide_eq_true h] at this
      exact Bool.noConfusion this
    · exact q
  unfold roN
  rw [hs]
  have hm := rooms_all (s - 1) (by omega) (cn (ch z) 5 - 1) (by omega)
  rw [show s - 1 + 1 = s by omega, show cn (ch z) 5 - 1 + 1 = cn (ch z) 5 by omega] at hm
  refine ⟨e, s2, List.contains_iff_mem.mp hm, Nat.mul_pos (by omega) (by omega), ?_⟩
  have := Nat.mul_le_mul s2 h5
  omega
theorem fuV_ok (hW : WF z B T) : okF (fuV z) = true := by
  have h120 := hW.g120
  have h := br_as z
  have := chk2_all (a := asN z) (ro_in hW).2.2.1 (by omega)
  unfold chk2 at this
  rw [Bool.and_eq_true] at this
  exact this.1
theorem p_full (hW : WF z B T) (hY : YR 0 z w) : F_X7_fullness w = some (fuV z, w) := by
  obtain ⟨e8, r1, r2, r3, r4⟩ := ro_in hW
  have hok := okF_1 (fuV_ok hW)
  unfold F_X7_fullness
  rw [p_number hY, bd_s, hY.f.2.1, e8, nI_mul]
  show (if 0 < nI (roN z) then bd (F_X2_numberWhere 0 1 w) (fun x4 w3 => nf (FP.fdiv (FP.i2f x4) (FP.i2f (nI (roN z)))) (fun x5 => some (x5, w3))) else some (FP.fconst0, w)) = _
  rw [if_pos (show (0 : Int32) < nI (roN z) from nI_lt (a := 0) r3 (by omega)), p_numberWhere hW hY, bd_s]
  exact nf_some hok.1 _
/-! the bits that the program makes by hand -/
end FRC

