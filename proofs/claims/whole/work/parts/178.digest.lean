/-! call 38: digest -/
theorem hloop {ρ : Type} (f : Nat → Nat → Int64 → Option ρ) (step : Nat → Int64 → Int64) (fin : Int64 → ρ) (N : Nat) (hN : N < 9999) (h1 : ∀ n i h, i < N → f (n + 1) i h = f n (i + 1) (step i h)) (h2 : ∀ n h, f (n + 1) N h = some (fin h)) (h0 : Int64) : f 9999 0 h0 = some (fin (iter step 0 N h0)) :=
  (up_loop f step fin N (fun _ _ => True) (fun n i s hi _ => ⟨h1 n i s hi, trivial⟩) (fun n s _ => h2 n s) N 0 h0 9999 (by omega) hN trivial).1
def fo (f : Nat → Int32) (n : Nat) (h : Int64) : Int64 := iter (fun k h => 31 * h + (f k).toInt64) 0 n h
def whV (z : Nat → Int32) (l : Nat) : Int32 := if zL z l 1 = 2 then 0 else if zL z l 1 = 0 then 1 else if mB z l (z 9) then 3 else 2
def hLeaf (z : Nat → Int32) (l : Nat) (h : Int64) : Int64 := 31 * fo (leafV z l) 8 h + (whV z l).toInt64
def frV (z : Nat → Int32) (c h : Nat) : Int32 := if zH z c h 0 = 2 ∧ zL z (zH z c h 1).toNatClampNeg 1 = 1 ∧ cn (hB z 2 (nI (zH z c h 1).toNatClampNeg)) 15 = 1 then 1 else 0
def hHook (z : Nat → Int32) (c k : Nat) (h : Int64) : Int64 := 31 * fo (fun j => zH z c k j) 3 h + (frV z c k).toInt64
def hChild (z : Nat → Int32) (c : Nat) (hl : List Nat) (h : Int64) : Int64 := 31 * (31 * (31 * fo (fun p => at9 hl (nI p)) hl.length (iter (hHook z c) 0 3 (fo (childV z c) 8 h)) + (nI (cn (fun l => oB z c l && mB z l 0) (gN z))).toInt64) + (nI (cn (fun l => oB z c l && mB z l 1) (gN z))).toInt64) + (nI (cn (mW z c) (gN z))).toInt64
theorem p_mixed (a b : Int64) (w : xWt) : F_X7_mixed a b w = some ((31 * a) + b, w) := rfl
theorem nl7 {i : Nat} (h : i ≤ 7) : ¬ (7 : Int32) < nI i := nI_nlt (a := 7) h (by decide)
theorem nl15 {i : Nat} (h : i ≤ 15) : ¬ (15 : Int32) < nI i := nI_nlt (a := 15) h (by decide)
theorem nl2 {i : Nat} (h : i ≤ 2) : ¬ (2 : Int32) < nI i := nI_nlt (a := 2) h (by decide)
theorem lt8 {i : Nat} (h : i < 8) : ¬ (8 : Int32) ≤ nI i := nI_ge (b := 8) h (by decide)
theorem lt16 {i : Nat} (h : i < 16) : ¬ (16 : Int32) ≤ nI i := nI_ge (b := 16) h (by decide)
theorem lt2 {i : Nat} (h : i < 2) : ¬ (2 : Int32) ≤ nI i := nI_ge (b := 2) h (by decide)
section DGT
variable {z : Nat → Int32} {xs : Nat → Int32} {L i B T c l : Nat} {rec : Int32 → xWt → Option Unit} {w : xWt} {hl : List Nat}
theorem p_bits_share (h120 : gN z ≤ 120) : F_X7_bitsOf (shV z) 52 1023 w = some (UInt64.toInt64 (shV z), w) := by
  refine p_bitsOf ?_
  have h := br_as z
  unfold shV
  by_cases q : brN z + asN z = 0
  · rw [if_pos q]
    decide +kernel
  · rw [if_neg q]
    have := chk1_all (a := brN z) (s := brN z + asN z) (by omega) (by omega) (by omega)
    unfold chk1 at this
    rw [Bool.and_eq_true] at this
    exact of_decide_eq_true this.2
theorem p_bits_full (hW : WF z B T) : F_X7_bitsOf (FP.f2d (fuV z)) 23 127 w = some (Int32.toInt64 (UInt32.toInt32 (fuV z)), w) := by
  refine p_bitsOf ?_
  have h120 := hW.g120
  have h := br_as z
  have := chk2_all (a := asN z) (ro_in hW).2.2.1 (by omega)
  unfold chk2 at this
  rw [Bool.and_eq_true] at this
  exact of_decide_eq_true this.2
theorem m_d2b {r : UInt64} (h : okD r = true) : F_Jxe99ae_doubleToLongBits_ccdee r w = some (UInt64.toInt64 r, w) := by
  unfold F_Jxe99ae_doubleToLongBits_ccdee F_Jxe99ae_isNaN_b9ae7
  rw [if_pos (okD_1 h).2, bd_s, if_pos rfl]
theorem m_f2b {r : UInt32} (h : okF r = true) : F_Jxf58ca_floatToIntBits_5c35a r w = some (UInt32.toInt32 r, w) := by
  unfold F_Jxf58ca_floatToIntBits_5c35a F_Jxf58ca_isNaN_12338
  rw [if_pos (okF_1 h).2.1, bd_s, if_pos rfl]
theorem p_mixedLeaf (hW : WF z B T) (hY : YR 0 z w) (hl : l < gN z) (h : Int64) : F_X7_mixedLeaf h (nI l) w = some (hLeaf z l h, w) := by
  have e := hloop (fun n i h' => L_X7_mixedLeaf_6 n h (nI l) h' (nI i) w) (fun k h => 31 * h + (leafV z l k).toInt64) (fun h' => ((h', nI 8), w)) 8 (by decide)
    (fun n i h' hi => by
      show B_X7_mixedLeaf_6 (L_X7_mixedLeaf_6 n) h (nI l) h' (nI i) w = _
      unfold B_X7_mixedLeaf_6
      rw [if_neg (nl7 (by omega)), p_leafV hW hY hl hi, bd_s, p_mixed, bd_s, nI_1])
    (fun n h' => by
      show B_X7_mixedLeaf_6 (L_X7_mixedLeaf_6 n) h (nI l) h' (nI 8) w = _
      unfold B_X7_mixedLeaf_6
      rw [if_pos (by decide)]) h
  have e' : L_X7_mixedLeaf_6 9999 h (nI l) h 0 w = some ((fo (leafV z l) 8 h, nI 8), w) := e
  unfold F_X7_mixedLeaf
  rw [e', bd_s, p_whyNotBurnt hW hY hl, bd_s, p_mixed, bd_s]
  rfl
theorem m_mixedLeaf (hW : WF (zz w) B T) (hl : l < gN (zz w)) (h : Int64) : L_X8_digest_110 9999 h (nI l) 0 w = some ((fo (leafV (zz w) l) 8 h, nI 8), w) := by
  have h120 := hW.g120
  exact hloop (fun n i h' => L_X8_digest_110 n h' (nI l) (nI i) w) (fun k h => 31 * h + (leafV (zz w) l k).toInt64) (fun h' => ((h', nI 8), w)) 8 (by decide)
    (fun n i h' hi => by
      show B_X8_digest_110 (L_X8_digest_110 n) h' (nI l) (nI i) w = _
      unfold B_X8_digest_110
      rw [if_neg (lt8 hi), m_leafV (by omega) hi, bd_s, nI_1])
    (fun n h' => by
      show B_X8_digest_110 (L_X8_digest_110 n) h' (nI l) (nI 8) w = _
      unfold B_X8_digest_110
      rw [if_pos (by decide)]) h
theorem fr_l0 (hW : WF z B T) (hc : c < 5) {k : Nat} (hk : k < 3) : zH z c k 0 = 2 → zH z c k 1 = nI (zH z c k 1).toNatClampNeg ∧ (zH z c k 1).toNatClampNeg < gN z := by
  have h120 := hW.g120
  intro q
  rcases hW.h c k hc hk with ⟨r, -⟩ | ⟨r, -⟩ | ⟨-, l, hl, r, -⟩
  · rw [q] at r; exact absurd r (by decide)
  · rw [q] at r; exact absurd r (by decide)
  · rw [r, nI_clamp (by omega)]
    exact ⟨rfl, hl⟩
theorem p_mixedChild (hW : WF z B T) (hY : YR 0 z w) (hc : c < 5) (ht : zC z c 0 = 1) (q1 : HL z c hl) (q2 : hl.length ≤ 120) (q3 : gt w 0 11 (nI c) = nI hl.length) (q4 : ∀ p l, hl[p]? = some l → w.1 0 12 (120 * c + p) = nI l) (h : Int64) : F_X7_mixedChild h (nI c) w = some (hChild z c hl h, w) := by
  have e1 : ∀ h0, L_X7_mixedChild_6 9999 h (nI c) h0 0 w = some ((fo (childV z c) 8 h0, nI 8), w) := fun h0 => hloop (fun n i h' => L_X7_mixedChild_6 n h (nI c) h' (nI i) w) (fun k h => 31 * h + (childV z c k).toInt64) (fun h' => ((h', nI 8), w)) 8 (by decide)
    (fun n i h' hi => by
      show B_X7_mixedChild_6 (L_X7_mixedChild_6 n) h (nI c) h' (nI i) w = _
      unfold B_X7_mixedChild_6
      rw [if_neg (nl7 (by omega)), p_childV hW hY hc ht hi, bd_s, p_mixed, bd_s, nI_1])
    (fun n h' => by
      show B_X7_mixedChild_6 (L_X7_mixedChild_6 n) h (nI c) h' (nI 8) w = _
      unfold B_X7_mixedChild_6
      rw [if_pos (by decide)]) h0
  have e2 : ∀ k, k < 3 → ∀ h0, L_X7_mixedChild_49 9999 h (nI c) h0 (nI k) 0 w = some ((fo (fun j => zH z c k j) 3 h0, nI 3), w) := fun k hk h0 => hloop (fun n i h' => L_X7_mixedChild_49 n h (nI c) h' (nI k) (nI i) w) (fun j h => 31 * h + (zH z c k j).toInt64) (fun h' => ((h', nI 3), w)) 3 (by decide)
    (fun n i h' hi => by
      show B_X7_mixedChild_49 (L_X7_mixedChild_49 n) h (nI c) h' (nI k) (nI i) w = _
      unfold B_X7_mixedChild_49
      rw [if_neg (nl2 (by omega)), p_numberOfHook hW hY hc hk hi, bd_s, p_mixed, bd_s, nI_1])
    (fun n h' => by
      show B_X7_mixedChild_49 (L_X7_mixedChild_49 n) h (nI c) h' (nI k) (nI 3) w = _
      unfold B_X7_mixedChild_49
      rw [if_pos (by decide)]) h0
  have e3 : ∀ h0, L_X7_mixedChild_40 9999 h (nI c) h0 0 w = some ((iter (hHook z c) 0 3 h0, nI 3), w) := fun h0 => hloop (fun n i h' => L_X7_mixedChild_40 n h (nI c) h' (nI i) w) (hHook z c) (fun h' => ((h', nI 3), w)) 3 (by decide)
    (fun n i h' hi => by
      show B_X7_mixedChild_40 (L_X7_mixedChild_40 n) h (nI c) h' (nI i) w = _
      unfold B_X7_mixedChild_40
      rw [if_neg (lt3 hi), e2 i hi, bd_s, p_freedBy hW hY hc hi (fr_l0 hW hc hi), bd_s, p_mixed, bd_s, nI_1]
      rfl)
    (fun n h' => by
      show B_X7_mixedChild_40 (L_X7_mixedChild_40 n) h (nI c) h' (nI 3) w = _
      unfold B_X7_mixedChild_40
      rw [if_pos (by decide)]) h0
  have e4 : ∀ h0, L_X7_mixedChild_127 9999 h (nI c) h0 (nI hl.length) 0 w = some ((fo (fun p => at9 hl (nI p)) hl.length h0, nI hl.length), w) := fun h0 => hloop (fun n i h' => L_X7_mixedChild_127 n h (nI c) h' (nI hl.length) (nI i) w) (fun p h => 31 * h + (at9 hl (nI p)).toInt64) (fun h' => ((h', nI hl.length), w)) hl.length (by omega)
    (fun n i h' hi => by
      show B_X7_mixedChild_127 (L_X7_mixedChild_127 n) h (nI c) h' (nI hl.length) (nI i) w = _
      unfold B_X7_mixedChild_127
      rw [if_neg (nI_ge hi (by omega)), p_leafOnHeap hc q2 q3 q4, bd_s, p_mixed, bd_s, nI_1])
    (fun n h' => by
      show B_X7_mixedChild_127 (L_X7_mixedChild_127 n) h (nI c) h' (nI hl.length) (nI hl.length) w = _
      unfold B_X7_mixedChild_127
      rw [if_pos (Int32.le_refl _)]) h0
  unfold F_X7_mixedChild
  rw [e1, bd_s, e3, bd_s, R_get, bd_s, q3, e4, bd_s, p_burnable hW hY hc (Or.inl rfl), bd_s, p_mixed, bd_s, p_burnable hW hY hc (Or.inr rfl), bd_s, p_mixed, bd_s, p_burnableIfRested hW hY hc, bd_s, p_mixed, bd_s]
  rfl
theorem m_digestOf (hW : WF (zz w) B T) (hT : T < 2 ^ 30) (hc : c < 5) (q1 : HL (zz w) c hl) (h : Int64) : F_X8_digestOf (nI c) h w = some (hChild (zz w) c hl h, w) := by
  have h120 := hW.g120
  have hlen := q1.le h120
  have htN := hW.s.2.2.2.2.2.1
  have hTt : ∀ l, l ∈ hl → zL (zz w) l 5 = nI (tu (zz w) l) ∧ tu (zz w) l < 2 ^ 31 := fun l hm => by
    obtain ⟨x1, x2⟩ := (q1.1 l).mp hm
    obtain ⟨t, y1, y2⟩ := hW.turn x1 (oB_iff.mp x2).1
    unfold tu
    rw [y2, nI_clamp (by omega)]
    exact ⟨rfl, by omega⟩
  have e1 : ∀ h0, L_X8_digestOf_6 9999 (nI c) h h0 0 w = some ((fo (childV (zz w) c) 8 h0, nI 8), w) := fun h0 => hloop (fun n i h' => L_X8_digestOf_6 n (nI c) h h' (nI i) w) (fun k h => 31 * h + (childV (zz w) c k).toInt64) (fun h' => ((h', nI 8), w)) 8 (by decide)
    (fun n i h' hi => by
      show B_X8_digestOf_6 (L_X8_digestOf_6 n) (nI c) h h' (nI i) w = _
      unfold B_X8_digestOf_6
      rw [if_neg (lt8 hi), m_childV hW hc hi, bd_s, nI_1])
    (fun n h' => by
      show B_X8_digestOf_6 (L_X8_digestOf_6 n) (nI c) h h' (nI 8) w = _
      unfold B_X8_digestOf_6
      rw [if_pos (by decide)]) h0
  have e2 : ∀ k, k < 3 → ∀ h0, L_X8_digestOf_48 9999 (nI c) h h0 (nI k) 0 w = some ((fo (fun j => zH (zz w) c k j) 3 h0, nI 3), w) := fun k hk h0 => hloop (fun n i h' => L_X8_digestOf_48 n (nI c) h h' (nI k) (nI i) w) (fun j h => 31 * h + (zH (zz w) c k j).toInt64) (fun h' => ((h', nI 3), w)) 3 (by decide)
    (fun n i h' hi => by
      show B_X8_digestOf_48 (L_X8_digestOf_48 n) (nI c) h h' (nI k) (nI i) w = _
      unfold B_X8_digestOf_48
      rw [if_neg (lt3 hi), m_ofH hc hk hi, bd_s, nI_1])
    (fun n h' => by
      show B_X8_digestOf_48 (L_X8_digestOf_48 n) (nI c) h h' (nI k) (nI 3) w = _
      unfold B_X8_digestOf_48
      rw [if_pos (by decide)]) h0
  have e3 : ∀ h0, L_X8_digestOf_39 9999 (nI c) h h0 0 w = some ((iter (hHook (zz w) c) 0 3 h0, nI 3), w) := fun h0 => hloop (fun n i h' => L_X8_digestOf_39 n (nI c) h h' (nI i) w) (hHook (zz w) c) (fun h' => ((h', nI 3), w)) 3 (by decide)
    (fun n i h' hi => by
      show B_X8_digestOf_39 (L_X8_digestOf_39 n) (nI c) h h' (nI i) w = _
      unfold B_X8_digestOf_39
      rw [if_neg (lt3 hi), e2 i hi, bd_s, m_freedBy (l0 := (zH (zz w) c i 1).toNatClampNeg) hc hi (fun q => ⟨(fr_l0 hW hc hi q).1, by have := (fr_l0 hW hc hi q).2; omega⟩), bd_s, nI_1]
      rfl)
    (fun n h' => by
      show B_X8_digestOf_39 (L_X8_digestOf_39 n) (nI c) h h' (nI 3) w = _
      unfold B_X8_digestOf_39
      rw [if_pos (by decide)]) h0
  have e4 : ∀ h0, L_X8_digestOf_112 9999 (nI c) h h0 (nI hl.length) 0 w = some ((fo (fun p => at9 hl (nI p)) hl.length h0, nI hl.length), w) := fun h0 => hloop (fun n i h' => L_X8_digestOf_112 n (nI c) h h' (nI hl.length) (nI i) w) (fun p h => 31 * h + (at9 hl (nI p)).toInt64) (fun h' => ((h', nI hl.length), w)) hl.length (by omega)
    (fun n i h' hi => by
      show B_X8_digestOf_112 (L_X8_digestOf_112 n) (nI c) h h' (nI hl.length) (nI i) w = _
      unfold B_X8_digestOf_112
      rw [if_neg (nI_ge hi (by omega)), m_onHeap hc hW.g h120 q1 hTt, bd_s, nI_1])
    (fun n h' => by
      show B_X8_digestOf_112 (L_X8_digestOf_112 n) (nI c) h h' (nI hl.length) (nI hl.length) w = _
      unfold B_X8_digestOf_112
      rw [if_pos (Int32.le_refl _)]) h0
  unfold F_X8_digestOf
  rw [e1, bd_s, e3, bd_s, m_heapOf hW.g h120, bd_s, q1.len, e4, bd_s, m_burnable hW.g h120, bd_s, m_burnable hW.g h120, bd_s, m_burnableWithout hc hW.g h120, bd_s]
  rfl
end DGT
