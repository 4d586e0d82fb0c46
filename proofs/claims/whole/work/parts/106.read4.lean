/-! calls 24, 26, 27, 29 to 35 -/
theorem kB_at {z : Nat → Int32} {v : Int32} {c h : Nat} (hh : h < 3) : kB z v (3 * c + h) = (zH z c h 0 == v) := by
  unfold kB
  rw [show (3 * c + h) / 3 = c by omega, show (3 * c + h) % 3 = h by omega]
def countV (z : Nat → Int32) (s : Nat) : Nat → Int32
  | 0 => mk (ch z) 5
  | 1 => nI (cn (ch z) 5)
  | 2 => nI (cn (yI z) 5)
  | 3 => z 0
  | 4 => z 1
  | 5 => nI (cn (fun l => zL z l 1 == 0) (gN z))
  | 6 => nI (cn (fun l => zL z l 1 == 1) (gN z))
  | 7 => nI (cn (fun l => zL z l 1 == 2) (gN z))
  | 8 => nI (cn (kB z 2) 15)
  | 9 => nI (cn (kB z 1) 15)
  | 10 => z 2
  | 11 => z 3
  | 12 => z 4
  | 13 => z 5
  | 14 => z 6
  | _ => nI s
theorem shl_01 : ∀ c, c < 5 → ((0 : Int32) <<< (nI c &&& 31)) = 0 := by decide +kernel
section RD4
variable {z : Nat → Int32} {xs : Nat → Int32} {L i B T b c l h : Nat} {rec : Int32 → xWt → Option Unit} {w : xWt} {a : Int32}
theorem m_isHookY (hh : h < 3) : F_X8_isHook (nI h) w = some (1, w) := by
  unfold F_X8_isHook
  rw [show F_X8_in (nI h) 0 2 w = some (1, w) from m_inY (N := 2) (by omega) (by decide), bd_s, zr_1]
theorem m_isHookN (h : a < 0 ∨ 3 ≤ a.toNatClampNeg) : F_X8_isHook a w = some (0, w) := by
  unfold F_X8_isHook
  rw [show F_X8_in a 0 2 w = some (0, w) from m_inN (N := 2) h (by decide), bd_s, zr_0]
theorem p_needHookY (hY : YR 0 z w) (hc : c < 5) (ht : zC z c 0 = 1) (hh : h < 3) : F_X7_needHook (nI c) (nI h) w = some (.inl (), w) := by
  unfold F_X7_needHook
  rw [p_needChildY hY hc ht, bx_l, if_neg (nI_pos (by omega)), if_pos (show nI h < 3 from nI_lt (b := 3) hh (by decide))]
theorem p_needHookN (hY : YR 0 z w) (hc : c < 5) (ht : zC z c 0 = 1) (h : a < 0 ∨ 3 ≤ a.toNatClampNeg) : F_X7_needHook (nI c) a w = some (.inr "java/lang/IndexOutOfBoundsException", w) := by
  unfold F_X7_needHook
  rw [p_needChildY hY hc ht, bx_l]
  by_cases h0 : a < 0
  · rw [if_pos h0]
  · rw [if_neg h0, if_neg (show ¬ a < 3 from ltI (N := 3) h h0)]
theorem p_numberOfHook (hW : WF z B T) (hY : YR 0 z w) (hc : c < 5) (hh : h < 3) {k : Nat} (hk : k < 3) : F_X1_numberOfHook 0 (nI c) (nI h) (nI k) w = some (zH z c h k, w) := by
  unfold F_X1_numberOfHook
  match k, hk with
  | 0, _ => rw [if_pos (by decide), p_kindOf hW hY hc hh, bd_s]
  | 1, _ => rw [if_neg (by decide), if_pos (by decide), p_leafOf hW hY hc hh, bd_s]
  | 2, _ => rw [if_neg (by decide), if_neg (by decide), p_branchOf hY hc hh, bd_s]
  | n + 3, hk => exact absurd hk (by omega)
theorem K24 (hI : INV w B T) (hi : i + 4 ≤ L) (hL : L ≤ 2048) : ∃ w', K_law_24 xs L rec (nI i) w = rec (nI i + 4) w' ∧ sim w w' := by
  unfold K_law_24
  simp only [sld_1 hi (show L < 2 ^ 31 by omega), sld_2 hi (show L < 2 ^ 31 by omega), sld_3 hi (show L < 2 ^ 31 by omega)]
  generalize xs (i + 1) = a
  generalize xs (i + 2) = a2
  generalize xs (i + 3) = a3
  have ho := hI.2.2.2.2
  obtain ⟨hW, hY⟩ := hI.1
  rcases childs hY a with ⟨c, hc, rfl, ht⟩ | ⟨h1, h2⟩
  · rcases i_cases a2 3 (by decide) with ⟨h, hh, rfl⟩ | h2
    · rcases i_cases a3 3 (by decide) with ⟨k, hk, rfl⟩ | h3
      · refine rd_ret (Es := [eI', eA']) (v := zH (zz w) c h k) (fM := fun w1 => F_X8_hook (nI c) (nI h) (nI k) w1) ho ?_ ?_
        · unfold F_X7_hook
          rw [p_needHookY hY hc ht hh, bx_l, show F_X7_needWhat (nI k) 2 w = some (.inl (), w) from p_needWhatY (N := 2) (by omega) (by decide), bx_l, p_numberOfHook hW hY hc hh hk, bd_s]
        · show F_X8_hook (nI c) (nI h) (nI k) _ = _
          unfold F_X8_hook
          rw [m_isChildY (w := sO w _) hc ht, bd_s, if_neg (by decide), m_isHookY hh, bd_s, if_neg (by decide), show F_X8_in (nI k) 0 2 (sO w _) = some (1, sO w _) from m_inY (N := 2) (by omega) (by decide), bd_s, if_neg (by decide), lw_ok, m_ofH hc hh hk, bd_s]
          rfl
      · refine rd_thr (Es := [eI', eA']) (k := 2) (b := 0) (E := "java/lang/IllegalArgumentException") (fM := fun w1 => F_X8_hook (nI c) (nI h) a3 w1) ?_ rfl (by decide) ?_
        · unfold F_X7_hook
          rw [p_needHookY hY hc ht hh, bx_l, show F_X7_needWhat a3 2 w = _ from p_needWhatN (N := 2) h3 (by decide), bx_r]
        · show F_X8_hook (nI c) (nI h) a3 w = _
          unfold F_X8_hook
          rw [m_isChildY hc ht, bd_s, if_neg (by decide), m_isHookY hh, bd_s, if_neg (by decide), show F_X8_in a3 0 2 w = some (0, w) from m_inN (N := 2) h3 (by decide), bd_s, if_pos rfl, lw_thr _ (by decide)]
    · refine rd_thr (Es := [eI', eA']) (k := 1) (b := 0) (E := "java/lang/IndexOutOfBoundsException") (fM := fun w1 => F_X8_hook (nI c) a2 a3 w1) ?_ rfl (by decide) ?_
      · unfold F_X7_hook
        rw [p_needHookN hY hc ht h2, bx_r]
      · show F_X8_hook (nI c) a2 a3 w = _
        unfold F_X8_hook
        rw [m_isChildY hc ht, bd_s, if_neg (by decide), m_isHookN h2, bd_s, if_pos rfl, lw_thr _ (by decide)]
  · refine rd_thr (Es := [eI', eA']) (k := 1) (b := 0) (E := "java/lang/IndexOutOfBoundsException") (fM := fun w1 => F_X8_hook a a2 a3 w1) ?_ rfl (by decide) ?_
    · unfold F_X7_hook F_X7_needHook
      rw [h1, bx_r, bx_r]
    · show F_X8_hook a a2 a3 w = _
      unfold F_X8_hook
      rw [h2 w rfl, bd_s, if_pos rfl, lw_thr _ (by decide)]
theorem K31 (hI : INV w B T) (hi : i + 4 ≤ L) (hL : L ≤ 2048) : ∃ w', K_law_31 xs L rec (nI i) w = rec (nI i + 4) w' ∧ sim w w' := by
  unfold K_law_31
  simp only [sld_1 hi (show L < 2 ^ 31 by omega), sld_2 hi (show L < 2 ^ 31 by omega)]
  generalize xs (i + 1) = a
  generalize xs (i + 2) = a2
  have ho := hI.2.2.2.2
  obtain ⟨hW, hY⟩ := hI.1
  have h120 := hW.g120
  rcases childs hY a with ⟨c, hc, rfl, ht⟩ | ⟨h1, h2⟩
  · rcases i_cases a2 3 (by decide) with ⟨h, hh, rfl⟩ | h2
    · obtain ⟨l0, hl0⟩ : ∃ l0, zH (zz w) c h 0 = 2 → zH (zz w) c h 1 = nI l0 ∧ l0 < gN (zz w) := by
        rcases hW.h c h hc hh with ⟨q, -⟩ | ⟨q, -⟩ | ⟨-, l, hl, q, -⟩
        · exact ⟨0, fun r => by rw [q] at r; cases r⟩
        · exact ⟨0, fun r => by rw [q] at r; cases r⟩
        · exact ⟨l, fun _ => ⟨q, hl⟩⟩
      refine rd_ret (Es := [eI']) (v := if zH (zz w) c h 0 = 2 ∧ zL (zz w) l0 1 = 1 ∧ cn (hB (zz w) 2 (nI l0)) 15 = 1 then 1 else 0) (fM := fun w1 => F_X8_ifLoosened (nI c) (nI h) w1) ho ?_ ?_
      · unfold F_X7_ifLoosened
        rw [p_needHookY hY hc ht hh, bx_l, p_freedBy hW hY hc hh hl0, bd_s]
      · show F_X8_ifLoosened (nI c) (nI h) _ = _
        unfold F_X8_ifLoosened
        rw [m_isChildY (w := sO w _) hc ht, bd_s, if_neg (by decide), m_isHookY hh, bd_s, if_neg (by decide), lw_ok, m_freedBy (w := sF (sO w _) 9 0 0) (l0 := l0) hc hh (fun r => ⟨(hl0 r).1, by have := (hl0 r).2; omega⟩), bd_s]
        rfl
    · refine rd_thr (Es := [eI']) (k := 1) (b := 0) (E := "java/lang/IndexOutOfBoundsException") (fM := fun w1 => F_X8_ifLoosened (nI c) a2 w1) ?_ rfl (by decide) ?_
      · unfold F_X7_ifLoosened
        rw [p_needHookN hY hc ht h2, bx_r]
      · show F_X8_ifLoosened (nI c) a2 w = _
        unfold F_X8_ifLoosened
        rw [m_isChildY hc ht, bd_s, if_neg (by decide), m_isHookN h2, bd_s, if_pos rfl, lw_thr _ (by decide)]
  · refine rd_thr (Es := [eI']) (k := 1) (b := 0) (E := "java/lang/IndexOutOfBoundsException") (fM := fun w1 => F_X8_ifLoosened a a2 w1) ?_ rfl (by decide) ?_
    · unfold F_X7_ifLoosened F_X7_needHook
      rw [h1, bx_r, bx_r]
    · show F_X8_ifLoosened a a2 w = _
      unfold F_X8_ifLoosened
      rw [h2 w rfl, bd_s, if_pos rfl, lw_thr _ (by decide)]
theorem K29 (hI : INV w B T) (hi : i + 4 ≤ L) (hL : L ≤ 2048) : ∃ w', K_law_29 xs L rec (nI i) w = rec (nI i + 4) w' ∧ sim w w' := by
  unfold K_law_29
  simp only [sld_1 hi (show L < 2 ^ 31 by omega), sld_2 hi (show L < 2 ^ 31 by omega)]
  generalize xs (i + 1) = a
  generalize xs (i + 2) = a2
  have ho := hI.2.2.2.2
  obtain ⟨hW, hY⟩ := hI.1
  rcases childs hY a with ⟨c, hc, rfl, ht⟩ | ⟨h1, h2⟩
  · rcases i_cases a2 2 (by decide) with ⟨k, hk, rfl⟩ | h2
    · have hk1 : nI k = 0 ∨ nI k = 1 := by
        rcases (show k = 0 ∨ k = 1 by omega) with rfl | rfl
        · exact Or.inl rfl
        · exact Or.inr rfl
      refine rd_ret (Es := [eI', eA']) (v := nI (cn (fun l => oB (zz w) c l && mB (zz w) l (nI k)) (gN (zz w)))) (fM := fun w1 => F_X8_ifRaked (nI c) (nI k) w1) ho ?_ ?_
      · unfold F_X7_ifRaked
        rw [p_needChildY hY hc ht, bx_l, p_burnable hW hY hc hk1, bd_s]
        rcases hk1 with q | q
        · rw [if_pos q]
        · rw [if_neg (by rw [q]; decide), if_pos q]
      · show F_X8_ifRaked (nI c) (nI k) _ = _
        unfold F_X8_ifRaked
        rw [m_isChildY (w := sO w _) hc ht, bd_s, if_neg (by decide), show F_X8_in (nI k) 0 1 (sO w _) = some (1, sO w _) from m_inY (N := 1) (by omega) (by decide), bd_s, if_neg (by decide), lw_ok, m_burnable (w := sF (sO w _) 9 0 0) hW.g hW.g120, bd_s]
        rfl
    · refine rd_thr (Es := [eI', eA']) (k := 2) (b := 0) (E := "java/lang/IllegalArgumentException") (fM := fun w1 => F_X8_ifRaked (nI c) a2 w1) ?_ rfl (by decide) ?_
      · have n0 : ¬ a2 = 0 := fun q => by rw [q] at h2; revert h2; decide
        have n1 : ¬ a2 = 1 := fun q => by rw [q] at h2; revert h2; decide
        unfold F_X7_ifRaked
        rw [p_needChildY hY hc ht, bx_l, if_neg n0, if_neg n1]
      · show F_X8_ifRaked (nI c) a2 w = _
        unfold F_X8_ifRaked
        rw [m_isChildY hc ht, bd_s, if_neg (by decide), show F_X8_in a2 0 1 w = some (0, w) from m_inN (N := 1) h2 (by decide), bd_s, if_pos rfl, lw_thr _ (by decide)]
  · refine rd_thr (Es := [eI', eA']) (k := 1) (b := 0) (E := "java/lang/IndexOutOfBoundsException") (fM := fun w1 => F_X8_ifRaked a a2 w1) ?_ rfl (by decide) ?_
    · unfold F_X7_ifRaked
      rw [h1, bx_r]
    · show F_X8_ifRaked a a2 w = _
      unfold F_X8_ifRaked
      rw [h2 w rfl, bd_s, if_pos rfl, lw_thr _ (by decide)]
theorem K27 (hI : INV w B T) (hi : i + 4 ≤ L) (hL : L ≤ 2048) : ∃ w', K_law_27 xs L rec (nI i) w = rec (nI i + 4) w' ∧ sim w w' := by
  unfold K_law_27
  simp only [sld_1 hi (show L < 2 ^ 31 by omega)]
  generalize xs (i + 1) = a
  have ho := hI.2.2.2.2
  obtain ⟨hW, hY⟩ := hI.1
  rcases i_cases a 2 (by decide) with ⟨k, hk, rfl⟩ | h
  · refine rd_ret (Es := [eI']) (v := zz w (8 + k)) (fM := fun w1 => F_X8_setting (nI k) w1) ho ?_ ?_
    · unfold F_X7_setting F_X7_needSetting F_X6_valueOf
      rw [if_neg (nI_pos (by omega)), if_pos (show nI k < 2 from nI_lt (b := 2) hk (by decide)), bx_l]
      rcases (show k = 0 ∨ k = 1 by omega) with rfl | rfl
      · rw [if_pos (show nI 0 = 0 from rfl), bd_s, hY.f.2.1]
      · rw [if_neg (by decide), bd_s, hY.f.2.2.1]
    · show F_X8_setting (nI k) _ = _
      unfold F_X8_setting
      rw [show F_X8_in (nI k) 0 1 (sO w _) = some (1, sO w _) from m_inY (N := 1) (by omega) (by decide), bd_s, if_neg (by decide), lw_ok, show (8 : Int32) + nI k = nI (8 + k) from nI_add 8 k, m_z (by omega)]
      rfl
  · refine rd_thr (Es := [eI']) (k := 1) (b := 0) (E := "java/lang/IndexOutOfBoundsException") (fM := fun w1 => F_X8_setting a w1) ?_ rfl (by decide) ?_
    · unfold F_X7_setting F_X7_needSetting
      by_cases h0 : a < 0
      · rw [if_pos h0, bx_r]
      · rw [if_neg h0, if_neg (show ¬ a < 2 from ltI (N := 2) h h0), bx_r]
    · show F_X8_setting a w = _
      unfold F_X8_setting
      rw [show F_X8_in a 0 1 w = some (0, w) from m_inN (N := 1) h (by decide), bd_s, if_pos rfl, lw_thr _ (by decide)]
theorem K30 (hI : INV w B T) : ∃ w', K_law_30 xs L rec (nI i) w = rec (nI i + 4) w' ∧ sim w w' := by
  obtain ⟨hW, hY⟩ := hI.1
  unfold K_law_30 F_X7_bestRake F_X8_bestRake
  rw [p_bestHeap hW hY, bd_s, bd_s]
  unfold lw
  dsimp only
  rw [m_findBestRake (w := sF w 9 0 0) hW, bd_s, bd_s]
  exact ⟨_, if_pos rfl, sim.thr _ _⟩
theorem K32 (hI : INV w B T) : ∃ w', K_law_32 xs L rec (nI i) w = rec (nI i + 4) w' ∧ sim w w' := by
  obtain ⟨hW, hY⟩ := hI.1
  unfold K_law_32 F_X7_late F_X8_late
  rw [show w.2.1 0 0 = zz w 0 from hY.f.1, p_maskOfLate hW hY, bd_s, bd_s]
  unfold lw
  dsimp only
  rw [m_lateOnes (w := sF w 9 0 0), bd_s, bd_s]
  exact ⟨_, if_pos rfl, sim.thr _ _⟩
theorem K34 (hI : INV w B T) (hB : B < 2 ^ 30) : ∃ w', K_law_34 xs L rec (nI i) w = rec (nI i + 4) w' ∧ sim w w' := by
  obtain ⟨hW, hY⟩ := hI.1
  unfold K_law_34 F_X7_ifAllRested F_X8_ifAllRested
  rw [p_burnableIfAllRested hW hB hY, bd_s, bd_s]
  unfold lw
  dsimp only
  rw [m_leavesAt (w := sF w 9 0 0) hW.g hW.g120, bd_s, bd_s]
  exact ⟨_, if_pos rfl, sim.thr _ _⟩
theorem K35 (hI : INV w B T) : ∃ w', K_law_35 xs L rec (nI i) w = rec (nI i + 4) w' ∧ sim w w' := by
  obtain ⟨hW, hY⟩ := hI.1
  unfold K_law_35 F_X7_mostHeld F_X8_mostHeld
  rw [p_mostPinned hW hY, bd_s, bd_s]
  unfold lw
  dsimp only
  rw [m_findMostHeld (w := sF w 9 0 0) hW.g hW.g120, bd_s, bd_s]
  exact ⟨_, if_pos rfl, sim.thr _ _⟩
end RD4
