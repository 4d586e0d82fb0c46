/-! calls 36 and 37: burntShare, fullness -/
section FRC
variable {z : Nat → Int32} {xs : Nat → Int32} {L i B T : Nat} {rec : Int32 → xWt → Option Unit} {w : xWt}
theorem nd_some {β : Type} {r : UInt64} (h : r &&& 0x7fffffffffffffff ≤ 0x7ff0000000000000) (f : UInt64 → Option β) : nd r f = f r := if_pos h
theorem nf_some {β : Type} {r : UInt32} (h : r &&& 0x7fffffff ≤ 0x7f800000) (f : UInt32 → Option β) : nf r f = f r := if_pos h
theorem okD_1 {r : UInt64} (h : okD r = true) : r &&& 0x7fffffffffffffff ≤ 0x7ff0000000000000 ∧ (Op.cmpValue (FP.dcmp r r) .l) = 0 := by
  unfold okD at h
  rw [Bool.and_eq_true] at h
  exact ⟨of_decide_eq_true h.1, of_decide_eq_true h.2⟩
theorem okF_1 {r : UInt32} (h : okF r = true) : r &&& 0x7fffffff ≤ 0x7f800000 ∧ (Op.cmpValue (FP.fcmp r r) .l) = 0 ∧ okD (FP.f2d r) = true := by
  unfold okF at h
  rw [Bool.and_eq_true, Bool.and_eq_true] at h
  exact ⟨of_decide_eq_true h.1.1, of_decide_eq_true h.1.2, h.2⟩
def brN (z : Nat → Int32) : Nat := cn (fun l => zL z l 1 == 2) (gN z)
def asN (z : Nat → Int32) : Nat := cn (fun l => zL z l 1 == 1) (gN z)
theorem br_as (z : Nat → Int32) : brN z + asN z ≤ gN z := by
  refine cn_two _ _ _ fun i _ h => ?_
  have h1 : zL z i 1 = 2 := by simpa using h.1
  have h2 : zL z i 1 = 1 := by simpa using h.2
  rw [h1] at h2
  exact absurd h2 (by decide)
def shV (z : Nat → Int32) : UInt64 := if brN z + asN z = 0 then FP.dconst1 else shr (brN z) (brN z + asN z)
theorem okD_c1 : okD FP.dconst1 = true := by decide +kernel
theorem shV_ok (h120 : gN z ≤ 120) : okD (shV z) = true := by
  have h := br_as z
  unfold shV
  by_cases q : brN z + asN z = 0
  · rw [if_pos q]; exact okD_c1
  · rw [if_neg q]
    have := chk1_all (a := brN z) (s := brN z + asN z) (by omega) (by omega) (by omega)
    unfold chk1 at this
    rw [Bool.and_eq_true] at this
    exact this.1
theorem p_share (hW : WF z B T) (hY : YR 0 z w) : F_X7_burntShare w = some (shV z, w) := by
  have h120 := hW.g120
  have hb := br_as z
  have hok := okD_1 (shV_ok (z := z) h120)
  unfold F_X7_burntShare
  rw [p_numberWhere hW hY, bd_s, p_numberWhere hW hY, bd_s]
  show (if nI (brN z) + nI (asN z) = 0 then some (FP.dconst1, w) else nd (FP.ddiv (FP.i2d (nI (brN z))) (FP.i2d (nI (brN z) + nI (asN z)))) (fun x5 => some (x5, w))) = _
  rw [nI_add]
  unfold shV at hok ⊢
  by_cases q : brN z + asN z = 0
  · rw [if_pos q, q, if_pos (show nI 0 = 0 from rfl)]
  · rw [if_neg q] at hok ⊢
    rw [if_neg (nI_ne0 (by omega) (by omega))]
    exact nd_some hok.1 _
theorem m_share (hW : WF (zz w) B T) : F_X8_shareOfBurnt w = some (shV (zz w), w) := by
  have h120 := hW.g120
  have hb := br_as (zz w)
  have hok := okD_1 (shV_ok (z := zz w) h120)
  unfold F_X8_shareOfBurnt
  rw [m_leavesAt hW.g h120, bd_s, m_leavesAt hW.g h120, bd_s]
  show (if nI (brN (zz w)) + nI (asN (zz w)) = 0 then some (FP.dconst1, w) else nd (FP.ddiv (FP.i2d (nI (brN (zz w)))) (FP.i2d (nI (brN (zz w)) + nI (asN (zz w))))) (fun x5 => some (x5, w))) = _
  rw [nI_add]
  unfold shV at hok ⊢
  by_cases q : brN (zz w) + asN (zz w) = 0
  · rw [if_pos q, q, if_pos (show nI 0 = 0 from rfl)]
  · rw [if_neg q] at hok ⊢
    rw [if_neg (nI_ne0 (by omega) (by omega))]
    exact nd_some hok.1 _
theorem K36 (hI : INV w B T) : ∃ w', K_law_36 xs L rec (nI i) w = rec (nI i + 4) w' ∧ INV w' (B + 60) (T + 200) := by
  obtain ⟨hW, hY⟩ := hI.1
  have hok := okD_1 (shV_ok (z := zz w) hW.g120)
  refine ⟨sF w 9 0 0, ?_, (hI.sim (sim.thr _ _)).mono (by omega) (by omega)⟩
  unfold K_law_36 F_X8_burntShare lw
  dsimp only
  rw [p_share hW hY, bd_s, m_share (w := sF w 9 0 0) hW, bd_s, bd_s]
  exact if_pos hok.2
def roN (z : Nat → Int32) : Nat := (z 8).toNatClampNeg * cn (ch z) 5
def fuV (z : Nat → Int32) : UInt32 := ful (asN z) (roN z)
theorem ro_in (hW : WF z B T) : z 8 = nI (z 8).toNatClampNeg ∧ (z 8).toNatClampNeg ≤ 20 ∧ roN z ∈ rooms ∧ 0 < roN z ∧ roN z ≤ 100 := by
  obtain ⟨s, s1, s2, e⟩ := hW.s.2.2.2.2.2.2.1
  have hs : (z 8).toNatClampNeg = s := by rw [e, nI_clamp (by omega)]
  have h5 := cn_le (ch z) 5
  have h1 : 1 ≤ cn (ch z) 5 := by
    obtain ⟨c, hc, h⟩ := hW.one
    rcases Nat.eq_zero_or_pos (cn (ch z) 5) with q | q
    · have := (cn_0 _ _).mp q c hc
      unfold ch at this
      rw [decide_eq_true h] at this
      exact Bool.noConfusion this
    · exact q
  unfold roN
  rw [hs]
  have hm := rooms_all (s - 1) (by omega) (cn (ch z) 5 - 1) (by omega)
  rw [show s - 1 + 1 = s by omega, show cn (ch z) 5 - 1 + 1 = cn (ch z) 5 by omega] at hm
  refine ⟨e, s2, List.contains_iff_mem.mp hm, Nat.mul_pos (by omega) (by omega), ?_⟩
  have := Nat.mul_le_mul s2 h5
  omega
theorem fuV_ok (hW : WF z B T) : okF (fuV z) = true := by
  have h120 := hW.g120
  have h := br_as z
  have := chk2_all (a := asN z) (ro_in hW).2.2.1 (by omega)
  unfold chk2 at this
  rw [Bool.and_eq_true] at this
  exact this.1
theorem p_full (hW : WF z B T) (hY : YR 0 z w) : F_X7_fullness w = some (fuV z, w) := by
  obtain ⟨e8, r1, r2, r3, r4⟩ := ro_in hW
  have hok := okF_1 (fuV_ok hW)
  unfold F_X7_fullness
  rw [p_number hY, bd_s, hY.f.2.1, e8, nI_mul]
  show (if 0 < nI (roN z) then bd (F_X2_numberWhere 0 1 w) (fun x4 w3 => nf (FP.fdiv (FP.i2f x4) (FP.i2f (nI (roN z)))) (fun x5 => some (x5, w3))) else some (FP.fconst0, w)) = _
  rw [if_pos (show (0 : Int32) < nI (roN z) from nI_lt (a := 0) r3 (by omega)), p_numberWhere hW hY, bd_s]
  exact nf_some hok.1 _
theorem m_full (hW : WF (zz w) B T) : F_X8_fullnessNow w = some (fuV (zz w), w) := by
  obtain ⟨e8, r1, r2, r3, r4⟩ := ro_in hW
  have hok := okF_1 (fuV_ok hW)
  unfold F_X8_fullnessNow
  rw [m_leavesAt hW.g hW.g120, bd_s, m_z8, m_children (fun c hc => hW.th hc), bd_s, e8, nI_mul]
  exact nf_some hok.1 _
theorem K37 (hI : INV w B T) : ∃ w', K_law_37 xs L rec (nI i) w = rec (nI i + 4) w' ∧ INV w' (B + 60) (T + 200) := by
  obtain ⟨hW, hY⟩ := hI.1
  have hok := okD_1 (okF_1 (fuV_ok hW)).2.2
  refine ⟨sF w 9 0 0, ?_, (hI.sim (sim.thr _ _)).mono (by omega) (by omega)⟩
  unfold K_law_37 F_X8_fullness lw
  dsimp only
  rw [p_full hW hY, bd_s, nd_some hok.1, m_full (w := sF w 9 0 0) hW, bd_s, bd_s, show zz (sF w 9 0 0) = zz w from rfl, nd_some hok.1]
  exact if_pos hok.2
/-! the bits that the program makes by hand -/
theorem bits17 (l0 : UInt64) (l2 l3 : Int32) : ∀ (n : Nat) (x : UInt64) (e k : Int32), L_X7_bitsOf_17 n l0 l2 l3 x e k w = (pw1 n x e k).map (fun r => (r, w)) := by
  intro n
  induction n with
  | zero => intro x e k; rfl
  | succ n ih =>
    intro x e k
    show B_X7_bitsOf_17 (L_X7_bitsOf_17 n) l0 l2 l3 x e k w = _
    unfold B_X7_bitsOf_17 pw1
    by_cases q1 : 1000 ≤ k
    · rw [if_pos q1, if_pos q1]; rfl
    · rw [if_neg q1, if_neg q1]
      by_cases q2 : 0 ≤ (Op.cmpValue (FP.dcmp x FP.dconst1) .g)
      · rw [if_pos q2, if_pos q2]; rfl
      · rw [if_neg q2, if_neg q2]
        unfold nd ndO
        by_cases q3 : FP.dmul x 4611686018427387904 &&& 0x7fffffffffffffff ≤ 0x7ff0000000000000
        · rw [if_pos q3, if_pos q3]
          exact ih _ _ _
        · rw [if_neg q3, if_neg q3]; rfl
theorem bits52 (l0 : UInt64) (l2 l3 : Int32) : ∀ (n : Nat) (x : UInt64) (e k : Int32), L_X7_bitsOf_52 n l0 l2 l3 x e k w = (pw2 n x e k).map (fun r => (r, w)) := by
  intro n
  induction n with
  | zero => intro x e k; rfl
  | succ n ih =>
    intro x e k
    show B_X7_bitsOf_52 (L_X7_bitsOf_52 n) l0 l2 l3 x e k w = _
    unfold B_X7_bitsOf_52 pw2
    by_cases q1 : 1000 ≤ k
    · rw [if_pos q1, if_pos q1]; rfl
    · rw [if_neg q1, if_neg q1]
      by_cases q2 : (Op.cmpValue (FP.dcmp x 4611686018427387904) .l) < 0
      · rw [if_pos q2, if_pos q2]; rfl
      · rw [if_neg q2, if_neg q2]
        unfold nd ndO
        by_cases q3 : FP.ddiv x 4611686018427387904 &&& 0x7fffffffffffffff ≤ 0x7ff0000000000000
        · rw [if_pos q3, if_pos q3]
          exact ih _ _ _
        · rw [if_neg q3, if_neg q3]; rfl
theorem pw1_more {r : UInt64 × Int32 × Int32} (m : Nat) : ∀ (n : Nat) (x : UInt64) (e k : Int32), pw1 n x e k = some r → pw1 (n + m) x e k = some r := by
  intro n
  induction n with
  | zero => intro x e k h; cases h
  | succ n ih =>
    intro x e k h
    rw [Nat.succ_add]
    unfold pw1 at h ⊢
    by_cases q1 : 1000 ≤ k
    · rw [if_pos q1] at h ⊢; exact h
    · rw [if_neg q1] at h ⊢
      by_cases q2 : 0 ≤ (Op.cmpValue (FP.dcmp x FP.dconst1) .g)
      · rw [if_pos q2] at h ⊢; exact h
      · rw [if_neg q2] at h ⊢
        cases hd : ndO (FP.dmul x 4611686018427387904) with
        | none => rw [hd] at h; cases h
        | some y =>
          rw [hd] at h
          exact ih _ _ _ h
theorem pw2_more {r : UInt64 × Int32 × Int32} (m : Nat) : ∀ (n : Nat) (x : UInt64) (e k : Int32), pw2 n x e k = some r → pw2 (n + m) x e k = some r := by
  intro n
  induction n with
  | zero => intro x e k h; cases h
  | succ n ih =>
    intro x e k h
    rw [Nat.succ_add]
    unfold pw2 at h ⊢
    by_cases q1 : 1000 ≤ k
    · rw [if_pos q1] at h ⊢; exact h
    · rw [if_neg q1] at h ⊢
      by_cases q2 : (Op.cmpValue (FP.dcmp x 4611686018427387904) .l) < 0
      · rw [if_pos q2] at h ⊢; exact h
      · rw [if_neg q2] at h ⊢
        cases hd : ndO (FP.ddiv x 4611686018427387904) with
        | none => rw [hd] at h; cases h
        | some y =>
          rw [hd] at h
          exact ih _ _ _ h
theorem p_bitsOf {x : UInt64} {a2 a3 : Int32} {r : Int64} (h : pbits x a2 a3 = some r) : F_X7_bitsOf x a2 a3 w = some (r, w) := by
  unfold pbits at h
  unfold F_X7_bitsOf
  by_cases q : 0 < (Op.cmpValue (FP.dcmp x FP.dconst0) .l)
  · rw [if_pos q] at h ⊢
    cases h1 : pw1 9 x 0 0 with
    | none => rw [h1] at h; cases h
    | some p1 =>
      rw [h1] at h
      have e1 : L_X7_bitsOf_17 9999 x a2 a3 x 0 0 w = some (p1, w) := by
        rw [bits17, show 9999 = 9 + 9990 from rfl, pw1_more 9990 9 x 0 0 h1]
        rfl
      dsimp only at h
      rw [e1, bd_s]
      cases h2 : pw2 9 p1.1 p1.2.1 0 with
      | none => rw [h2] at h; cases h
      | some p2 =>
        rw [h2] at h
        have e2 : L_X7_bitsOf_52 9999 x a2 a3 p1.1 p1.2.1 0 w = some (p2, w) := by
          rw [bits52, show 9999 = 9 + 9990 from rfl, pw2_more 9990 9 p1.1 p1.2.1 0 h2]
          rfl
        dsimp only at h
        rw [e2, bd_s]
        unfold ndO at h
        by_cases q1 : FP.dsub p2.1 FP.dconst1 &&& 0x7fffffffffffffff ≤ 0x7ff0000000000000
        · rw [if_pos q1] at h
          rw [nd_some q1]
          dsimp only at h
          by_cases q2 : FP.dmul (FP.dsub p2.1 FP.dconst1) (FP.l2d (1 <<< (Int32.toInt64 a2 &&& 63))) &&& 0x7fffffffffffffff ≤ 0x7ff0000000000000
          · rw [if_pos q2] at h
            rw [nd_some q2]
            dsimp only at h
            exact congrArg (Option.map fun v => (v, w)) h
          · rw [if_neg q2] at h; cases h
        · rw [if_neg q1] at h; cases h
  · rw [if_neg q] at h ⊢
    exact congrArg (Option.map fun v => (v, w)) h
end FRC
