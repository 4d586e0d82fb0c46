/-! call 26: count -/
section CNT
variable {z : Nat → Int32} {xs : Nat → Int32} {L i B T b c l h : Nat} {rec : Int32 → xWt → Option Unit} {w : xWt} {a : Int32}
theorem m_count_loop (hW : WF (zz w) B T) (a : Int32) : L_X8_countNow_13 9999 a 0 0 0 0 0 w = some ((mk (ch (zz w)) 5, nI (cn (yI (zz w)) 5), nI (cn (kB (zz w) 2) 15), nI (cn (kB (zz w) 1) 15), nI 5), w) := by
  have h := (up_loop (fun n i (s : Int32 × Nat × Nat × Nat) => L_X8_countNow_13 n a s.1 (nI s.2.1) (nI s.2.2.1) (nI s.2.2.2) (nI i) w) (fun c _ => (mk (ch (zz w)) (c + 1), cn (yI (zz w)) (c + 1), cn (kB (zz w) 2) (3 * c + 3), cn (kB (zz w) 1) (3 * c + 3))) (fun s => ((s.1, nI s.2.1, nI s.2.2.1, nI s.2.2.2, nI 5), w)) 5 (fun c s => s = (mk (ch (zz w)) c, cn (yI (zz w)) c, cn (kB (zz w) 2) (3 * c), cn (kB (zz w) 1) (3 * c)))
    (fun n i s hi hI => ⟨by
      subst hI
      show B_X8_countNow_13 (L_X8_countNow_13 n) a (mk (ch (zz w)) i) (nI (cn (yI (zz w)) i)) (nI (cn (kB (zz w) 2) (3 * i))) (nI (cn (kB (zz w) 1) (3 * i))) (nI i) w = L_X8_countNow_13 n a (mk (ch (zz w)) (i + 1)) (nI (cn (yI (zz w)) (i + 1))) (nI (cn (kB (zz w) 2) (3 * i + 3))) (nI (cn (kB (zz w) 1) (3 * i + 3))) (nI (i + 1)) w
      unfold B_X8_countNow_13
      have e2 : cn (fun h => zH (zz w) i h 0 == 2) 3 = cn (fun j => kB (zz w) 2 (3 * i + j)) 3 := cn_congr fun h hh => (kB_at hh).symm
      have e1 : cn (fun h => zH (zz w) i h 0 == 1) 3 = cn (fun j => kB (zz w) 1 (3 * i + j)) 3 := cn_congr fun h hh => (kB_at hh).symm
      rw [if_neg (lt5 hi), m_ofC0 hi, bd_s, m_ofC1 hi, bd_s, m_hooksOf hi, bd_s, m_hooksOf hi, bd_s, nI_1, nI_add, nI_add, e1, e2, ← cn_add, ← cn_add]
      have ec : mk (ch (zz w)) i ||| (zC (zz w) i 0 <<< (nI i &&& 31)) = mk (ch (zz w)) (i + 1) := by
        show _ = mk (ch (zz w)) i ||| (if ch (zz w) i then bit i else 0)
        unfold ch
        rcases hW.th hi with q | q
        · rw [q, shl_01 i hi]; rfl
        · rw [q]; rfl
      have ey : nI (cn (yI (zz w)) i) + zC (zz w) i 1 = nI (cn (yI (zz w)) (i + 1)) := by
        show _ = nI (cn (yI (zz w)) i + (if yI (zz w) i then 1 else 0))
        unfold yI
        rcases hW.c i hi with ⟨-, q, -⟩ | ⟨-, ⟨q, -⟩ | ⟨q, -⟩⟩
        · rw [q]; exact nI_add0 _
        · rw [q]; exact nI_add0 _
        · rw [q]; exact nI_1 _
      rw [ec, ey], rfl⟩)
    (fun n s _ => by
      show B_X8_countNow_13 (L_X8_countNow_13 n) a s.1 (nI s.2.1) (nI s.2.2.1) (nI s.2.2.2) (nI 5) w = _
      unfold B_X8_countNow_13
      rw [if_pos (show (5 : Int32) ≤ nI 5 from Int32.le_refl _)]) 5 0 (0, 0, 0, 0) 9999 (by omega) (by omega) rfl)
  have := h.1
  rw [h.2] at this
  exact this
theorem m_countV (hW : WF (zz w) B T) {s : Nat} (hs : w.2.1 9 1 = nI s) {k : Nat} (hk : k < 16) : F_X8_countNow (nI k) w = some (countV (zz w) s k, w) := by
  unfold F_X8_countNow
  rw [m_count_loop hW, bd_s]
  have hg := hW.g
  have h120 := hW.g120
  match k, hk with
  | 0, _ => rw [if_pos (by decide)]; rfl
  | 1, _ => rw [if_neg (by decide), if_pos (by decide), m_children (fun c hc => hW.th hc), bd_s]; rfl
  | 2, _ => iterate 2 rw [if_neg (by decide)]
            rw [if_pos (by decide)]; rfl
  | 3, _ => iterate 3 rw [if_neg (by decide)]
            rw [if_pos (by decide), m_z0]; rfl
  | 4, _ => iterate 4 rw [if_neg (by decide)]
            rw [if_pos (by decide), m_z1]; rfl
  | 5, _ => iterate 5 rw [if_neg (by decide)]
            rw [if_pos (by decide), m_leavesAt hg h120, bd_s]; rfl
  | 6, _ => iterate 6 rw [if_neg (by decide)]
            rw [if_pos (by decide), m_leavesAt hg h120, bd_s]; rfl
  | 7, _ => iterate 7 rw [if_neg (by decide)]
            rw [if_pos (by decide), m_leavesAt hg h120, bd_s]; rfl
  | 8, _ => iterate 8 rw [if_neg (by decide)]
            rw [if_pos (by decide)]; rfl
  | 9, _ => iterate 9 rw [if_neg (by decide)]
            rw [if_pos (by decide)]; rfl
  | 10, _ => iterate 10 rw [if_neg (by decide)]
             rw [if_pos (by decide), show ∀ f : Int32 → Option (Int32 × xWt), ald w 9 0 2 f = f (zz w 2) from fun f => m_z (i := 2) (by decide)]; rfl
  | 11, _ => iterate 11 rw [if_neg (by decide)]
             rw [if_pos (by decide), show ∀ f : Int32 → Option (Int32 × xWt), ald w 9 0 3 f = f (zz w 3) from fun f => m_z (i := 3) (by decide)]; rfl
  | 12, _ => iterate 12 rw [if_neg (by decide)]
             rw [if_pos (by decide), show ∀ f : Int32 → Option (Int32 × xWt), ald w 9 0 4 f = f (zz w 4) from fun f => m_z (i := 4) (by decide)]; rfl
  | 13, _ => iterate 13 rw [if_neg (by decide)]
             rw [if_pos (by decide), show ∀ f : Int32 → Option (Int32 × xWt), ald w 9 0 5 f = f (zz w 5) from fun f => m_z (i := 5) (by decide)]; rfl
  | 14, _ => iterate 14 rw [if_neg (by decide)]
             rw [if_pos (by decide), show ∀ f : Int32 → Option (Int32 × xWt), ald w 9 0 6 f = f (zz w 6) from fun f => m_z (i := 6) (by decide)]; rfl
  | 15, _ => iterate 15 rw [if_neg (by decide)]
             rw [hs]; rfl
  | n + 16, hk => exact absurd hk (by omega)
theorem p_countV (hW : WF z B T) (hY : YR 0 z w) {s : Nat} (hs : w.2.1 8 2 = nI s) {k : Nat} (hk : k < 16) : F_X7_counted (nI k) w = some (countV z s k, w) := by
  obtain ⟨f0, f1, f2, f3, f4, f5, f6, f7, f8⟩ := hY.f
  unfold F_X7_counted F_X6_numberOfAll F_X5_number
  match k, hk with
  | 0, _ => rw [if_neg (by decide), if_pos (by decide), p_mask hY, bd_s, bd_s]; rfl
  | 1, _ => rw [if_neg (by decide), if_neg (by decide), if_pos (by decide), p_number hY, bd_s, bd_s]; rfl
  | 2, _ => iterate 3 rw [if_neg (by decide)]
            rw [if_pos (by decide), p_numberInYard hW hY, bd_s, bd_s]; rfl
  | 3, _ => iterate 4 rw [if_neg (by decide)]
            rw [if_pos (by decide), f0, bd_s]; rfl
  | 4, _ => iterate 5 rw [if_neg (by decide)]
            rw [if_pos (by decide), f8, bd_s]; rfl
  | 5, _ => iterate 6 rw [if_neg (by decide)]
            rw [if_pos (by decide), p_numberWhere hW hY, bd_s, bd_s]; rfl
  | 6, _ => iterate 7 rw [if_neg (by decide)]
            rw [if_pos (by decide), p_numberWhere hW hY, bd_s, bd_s]; rfl
  | 7, _ => iterate 8 rw [if_neg (by decide)]
            rw [if_pos (by decide), p_numberWhere hW hY, bd_s, bd_s]; rfl
  | 8, _ => iterate 9 rw [if_neg (by decide)]
            rw [if_pos (by decide), p_pins hW hY, bd_s, bd_s]; rfl
  | 9, _ => iterate 10 rw [if_neg (by decide)]
            rw [if_pos (by decide), p_notes hW hY, bd_s, bd_s]; rfl
  | 10, _ => iterate 11 rw [if_neg (by decide)]
             rw [if_pos (by decide), f3, bd_s]; rfl
  | 11, _ => iterate 12 rw [if_neg (by decide)]
             rw [if_pos (by decide), f4, bd_s]; rfl
  | 12, _ => iterate 13 rw [if_neg (by decide)]
             rw [if_pos (by decide), f5, bd_s]; rfl
  | 13, _ => iterate 14 rw [if_neg (by decide)]
             rw [if_pos (by decide), f6, bd_s]; rfl
  | 14, _ => iterate 15 rw [if_neg (by decide)]
             rw [f7, bd_s]; rfl
  | 15, _ => rw [if_pos (by decide), bd_s, hs]; rfl
  | n + 16, hk => exact absurd hk (by omega)
theorem K26 (hI : INV w B T) (hi : i + 4 ≤ L) (hL : L ≤ 2048) : ∃ w', K_law_26 xs L rec (nI i) w = rec (nI i + 4) w' ∧ sim w w' := by
  unfold K_law_26
  simp only [sld_1 hi (show L < 2 ^ 31 by omega)]
  generalize xs (i + 1) = a
  have ho := hI.2.2.2.2
  obtain ⟨hW, hY⟩ := hI.1
  obtain ⟨s, nx, s1, s2, s3, s4, -⟩ := hI.2.2.1
  rcases i_cases a 16 (by decide) with ⟨k, hk, rfl⟩ | h
  · refine rd_ret (Es := [eA']) (v := countV (zz w) s k) (fM := fun w1 => F_X8_count (nI k) w1) ho ?_ ?_
    · unfold F_X7_count
      rw [show F_X7_needWhat (nI k) 15 w = some (.inl (), w) from p_needWhatY (N := 15) (by omega) (by decide), bx_l, p_countV hW hY s4 hk, bd_s]
    · show F_X8_count (nI k) _ = _
      unfold F_X8_count
      rw [show F_X8_in (nI k) 0 15 (sO w _) = some (1, sO w _) from m_inY (N := 15) (by omega) (by decide), bd_s, if_neg (by decide), lw_ok, m_countV (w := sF (sO w _) 9 0 0) hW (s := s) s3 hk, bd_s]
      rfl
  · refine rd_thr (Es := [eA']) (k := 1) (b := 0) (E := "java/lang/IllegalArgumentException") (fM := fun w1 => F_X8_count a w1) ?_ rfl (by decide) ?_
    · unfold F_X7_count
      rw [show F_X7_needWhat a 15 w = _ from p_needWhatN (N := 15) h (by decide), bx_r]
    · show F_X8_count a w = _
      unfold F_X8_count
      rw [show F_X8_in a 0 15 w = some (0, w) from m_inN (N := 15) h (by decide), bd_s, if_pos rfl, lw_thr _ (by decide)]
end CNT
