/-! note, pin, loosen, look on both sides -/
section D2
variable {z z' : Nat → Int32} {w w' : xWt} {B T B' c h l b : Nat}
theorem WF.hook (hW : WF z B T) (hc : c < 5) (hh : h < 3) (ht : zC z c 0 = 1) (ho : ∀ i, i < 748 + 15 * c + 3 * h ∨ 751 + 15 * c + 3 * h ≤ i → z' i = z i) (hk : wK z' c h) : WF z' B T := by
  have hO : chO z z' c := ⟨fun i hi => ho i (by omega), fun d hd hne k hk => ho _ (by omega)⟩
  have hC : ∀ k, k < 6 → zC z' c k = zC z c k := fun k h0 => ho _ (by omega)
  have hH : ∀ h' k, h' < 3 → h' ≠ h → k < 3 → zH z' c h' k = zH z c h' k := fun h' k h0 h1 h2 => ho _ (by omega)
  refine hW.child hO (hC 0 (by omega)) ?_ (fun h' hh' => ?_)
  · unfold wC1
    rw [hC 0 (by omega), hC 1 (by omega), hC 2 (by omega), hO.b]
    rcases hW.c c hc with q | q
    · rw [ht] at q
      exact absurd q.1 (by decide)
    · exact Or.inr q
  · by_cases e : h' = h
    · rw [e]; exact hk
    · unfold wK
      rw [hH h' 0 hh' e (by omega), hH h' 1 hh' e (by omega), hH h' 2 hh' e (by omega), hO.g]
      exact hW.h c h' hc hh'
theorem YR.hook (hW : WF z B T) (hY : YR 0 z w) (hc : c < 5) (hh : h < 3) (ho : ∀ i, i < 748 + 15 * c + 3 * h ∨ 751 + 15 * c + 3 * h ≤ i → z' i = z i) (r1 : ∀ r, r < 13 → w'.1 0 r = w.1 0 r) (r2 : ∀ j, w'.2.1 0 j = w.2.1 0 j) (r4 : ∀ r i, 13 ≤ r → r ≤ 15 → i ≠ 3 * c + h → w'.1 0 r i = w.1 0 r i) (hk : yH1 z' w' c h) : YR 0 z' w' := by
  have hO : chO z z' c := ⟨fun i hi => ho i (by omega), fun d hd hne k hk => ho _ (by omega)⟩
  have hC : ∀ k, k < 6 → zC z' c k = zC z c k := fun k h0 => ho _ (by omega)
  have hH : ∀ h' k, h' < 3 → h' ≠ h → k < 3 → zH z' c h' k = zH z c h' k := fun h' k h0 h1 h2 => ho _ (by omega)
  refine hY.child hW hO (fun r hr => r1 r (by omega)) r2 (fun r d h1 h2 hne => by rw [r1 r (by omega)]) (fun r i h1 h2 hne => r4 r i h1 h2 (by omega)) ?_ (fun h' hh' => ?_)
  · unfold yC1
    rw [r1 6 (by omega), r1 7 (by omega), r1 8 (by omega), r1 9 (by omega), r1 10 (by omega), hC 0 (by omega), hC 2 (by omega), hC 3 (by omega), hC 4 (by omega), hC 5 (by omega)]
    exact hY.c c hc
  · by_cases e : h' = h
    · rw [e]; exact hk
    · unfold yH1
      rw [r4 13 _ (by omega) (by omega) (by omega), r4 14 _ (by omega) (by omega) (by omega), r4 15 _ (by omega) (by omega) (by omega), hH h' 0 hh' e (by omega), hH h' 1 hh' e (by omega), hH h' 2 hh' e (by omega)]
      exact hY.h c h' hc hh'
theorem kz_ho (wr : xWt) (hz : zz wr = z) (a b' d : Int32) : ∀ i, i < 748 + 15 * c + 3 * h ∨ 751 + 15 * c + 3 * h ≤ i → zz (kz wr c h a b' d) i = z i := fun i hi => by rw [kz_o _ _ _ _ _ _ hi, hz]
theorem d_note (hW : WF z B T) (hY : YR 0 z w) (hc : c < 5) (ht : zC z c 0 = 1) (hh : h < 3) (hb : b < 12) (hk : zH z c h 0 = 0) (hl : l < gN z) (hbr : z (10 + b) = nI l) : DV z B T w (F_X6_write 0 (nI c) (nI h) (nI b)) (F_X8_doNote (nI c) (nI h) (nI b)) := by
  intro wr hz
  obtain ⟨y1, y2, y3⟩ := hY.h c h hc hh
  have ho := kz_ho (c := c) (h := h) wr hz 1 (nI l) (nI b)
  have g0 := kz_0 wr c h 1 (nI l) (nI b)
  have g1 := kz_1 wr c h 1 (nI l) (nI b)
  have g2 := kz_2 wr c h 1 (nI l) (nI b)
  have eg : gN (zz (kz wr c h 1 (nI l) (nI b))) = gN z := by unfold gN; rw [ho 1 (by omega)]
  refine ⟨nI l, sRow (sRow w 0 14 (upd (w.1 0 14) (3 * c + h) (nI l))) 0 15 (upd (w.1 0 15) (3 * c + h) (nI b)), kz wr c h 1 (nI l) (nI b), ?_, ((dP.rf w).row _ _).row _ _, ?_, kz_dM _ _ _ _ _ _, ?_, ?_, nI_m1 (by have := hW.g120; omega)⟩
  · unfold F_X6_write F_X1_write F_X1_firstOf
    rw [R_get, bd_s, g_12 hb, hY.b b hb, hbr, bd_s, ixK, R_put, bd_s, p15 (by omega) rfl, R_put, bd_s, p15 (by omega) rfl]
    rfl
  · unfold F_X8_doNote
    rw [m_br hb, hz, hbr, m_setHook hc hh, bd_s, m_br hb, ho (10 + b) (by omega), hbr]
  · refine hY.hook hW hc hh ho (fun r hr => ?_) (fun j => rfl) (fun r i h1 h2 hne => ?_) ⟨?_, ?_, ?_⟩
    · rw [sRow_ne _ _ (by omega), sRow_ne _ _ (by omega)]
    · rcases (show r = 13 ∨ r = 14 ∨ r = 15 by omega) with rfl | rfl | rfl
      · rfl
      · rw [sRow_ne _ _ (by omega), sRow_eq, upd_ne _ _ hne]
      · rw [sRow_eq, upd_ne _ _ hne]
    · rw [g0, if_neg (by decide), sRow_ne _ _ (by omega), sRow_ne _ _ (by omega), y1, if_neg (by rw [hk]; decide)]
    · rw [g0, if_pos rfl, g1, sRow_ne _ _ (by omega), sRow_eq, upd_eq]
    · rw [g2, sRow_eq, upd_eq]
  · exact hW.hook hc hh ht ho (Or.inr (Or.inl ⟨g0, l, b, by rw [eg]; exact hl, hb, g1, g2⟩))
theorem d_empty (hW : WF z B T) (hY : YR 0 z w) (hc : c < 5) (ht : zC z c 0 = 1) (hh : h < 3) {wr : xWt} (hz : zz wr = z) : YR 0 (zz (kz wr c h 0 (-1) (-1))) (rlW w (3 * c + h)) ∧ WF (zz (kz wr c h 0 (-1) (-1))) B T := by
  have ho := kz_ho (c := c) (h := h) wr hz 0 (-1) (-1)
  have g0 := kz_0 wr c h 0 (-1) (-1)
  have g1 := kz_1 wr c h 0 (-1) (-1)
  have g2 := kz_2 wr c h 0 (-1) (-1)
  refine ⟨hY.hook hW hc hh ho (fun r hr => rlW_o _ _ hr) (fun j => rfl) (fun r i h1 h2 hne => by rw [rlW_3 _ _ h1 h2, upd_ne _ _ hne]) ⟨?_, ?_, ?_⟩, hW.hook hc hh ht ho (Or.inl ⟨g0, g1, g2⟩)⟩
  · rw [g0, if_neg (by decide), rlW_3 _ _ (by omega) (by omega), upd_eq]
  · rw [g0, if_neg (by decide), rlW_3 _ _ (by omega) (by omega), upd_eq]
  · rw [g2, rlW_3 _ _ (by omega) (by omega), upd_eq]
theorem d_loosen (hW : WF z B T) (hY : YR 0 z w) (hc : c < 5) (ht : zC z c 0 = 1) (hh : h < 3) (hk : zH z c h 0 ≠ 0) : DV z B T w (F_X6_release 0 (nI c) (nI h)) (F_X8_doLoosen (nI c) (nI h)) := by
  intro wr hz
  refine ⟨zH z c h 1, rlW w (3 * c + h), kz wr c h 0 (-1) (-1), ?_, rlW_dP _ _, ?_, kz_dM _ _ _ _ _ _, (d_empty hW hY hc ht hh hz).1, (d_empty hW hY hc ht hh hz).2, hW.k0 hc hh (((hW.k3 hc hh).resolve_left hk).symm)⟩
  · unfold F_X6_release
    rw [p_leafOf hW hY hc hh, bd_s, p_release hc hh, bd_s]
  · unfold F_X8_doLoosen
    rw [m_ofH1 hc hh, bd_s, hz, m_setHook hc hh, bd_s]
theorem d_pin (hW : WF z B T) (hY : YR 0 z w) (hc : c < 5) (ht : zC z c 0 = 1) (hh : h < 3) (hk : zH z c h 0 = 1) : DV z B T w (F_X6_fasten 0 (nI c) (nI h)) (F_X8_doPin (nI c) (nI h)) := by
  intro wr hz
  obtain ⟨y1, y2, y3⟩ := hY.h c h hc hh
  obtain ⟨l, b, hl, hb, e1, e2⟩ : ∃ l b, l < gN z ∧ b < 12 ∧ zH z c h 1 = nI l ∧ zH z c h 2 = nI b := by
    rcases hW.h c h hc hh with ⟨q, -⟩ | ⟨-, q⟩ | ⟨q, -⟩
    · rw [hk] at q; exact absurd q (by decide)
    · exact q
    · rw [hk] at q; exact absurd q (by decide)
  by_cases hs : z (10 + b) = nI l
  · have ho := kz_ho (c := c) (h := h) wr hz 2 (nI l) (-1)
    have g0 := kz_0 wr c h 2 (nI l) (-1)
    have g1 := kz_1 wr c h 2 (nI l) (-1)
    have g2 := kz_2 wr c h 2 (nI l) (-1)
    have eg : gN (zz (kz wr c h 2 (nI l) (-1))) = gN z := by unfold gN; rw [ho 1 (by omega)]
    refine ⟨1, sRow (sRow (sRow w 0 13 (upd (w.1 0 13) (3 * c + h) (nI l))) 0 14 (upd (w.1 0 14) (3 * c + h) (-1))) 0 15 (upd (w.1 0 15) (3 * c + h) (-1)), kz wr c h 2 (nI l) (-1), ?_, (((dP.rf w).row _ _).row _ _).row _ _, ?_, kz_dM _ _ _ _ _ _, ?_, ?_, by decide⟩
    · unfold F_X6_fasten
      rw [p_leafOf hW hY hc hh, bd_s, p_branchOf hY hc hh, bd_s, e2, R_get, bd_s, g_12 hb, hY.b b hb, hs, e1, if_pos rfl]
      unfold F_X1_fasten F_X1_firstOf
      rw [bd_s, ixK, R_get, bd_s, g_15 (by omega) rfl, y2, if_pos hk, e1, R_put, bd_s, p15 (by omega) rfl, R_put, bd_s, p15 (by omega) rfl, R_put, bd_s, p15 (by omega) rfl]
      rfl
    · unfold F_X8_doPin
      rw [m_ofH1 hc hh, bd_s, m_ofH2 hc hh, bd_s, hz, e1, e2, m_br hb, hz, hs, if_pos rfl, m_setHook hc hh, bd_s]
    · refine hY.hook hW hc hh ho (fun r hr => ?_) (fun j => rfl) (fun r i h1 h2 hne => ?_) ⟨?_, ?_, ?_⟩
      · rw [sRow_ne _ _ (by omega), sRow_ne _ _ (by omega), sRow_ne _ _ (by omega)]
      · rcases (show r = 13 ∨ r = 14 ∨ r = 15 by omega) with rfl | rfl | rfl
        · rw [sRow_ne _ _ (by omega), sRow_ne _ _ (by omega), sRow_eq, upd_ne _ _ hne]
        · rw [sRow_ne _ _ (by omega), sRow_eq, upd_ne _ _ hne]
        · rw [sRow_eq, upd_ne _ _ hne]
      · rw [g0, if_pos rfl, g1, sRow_ne _ _ (by omega), sRow_ne _ _ (by omega), sRow_eq, upd_eq]
      · rw [g0, if_neg (by decide), sRow_ne _ _ (by omega), sRow_eq, upd_eq]
      · rw [g2, sRow_eq, upd_eq]
    · exact hW.hook hc hh ht ho (Or.inr (Or.inr ⟨g0, l, by rw [eg]; exact hl, g1, g2⟩))
  · obtain ⟨hY1, hW1⟩ := d_empty hW hY hc ht hh hz
    have e4 : zz (kz wr c h 0 (-1) (-1)) 4 = z 4 := kz_ho wr hz 0 (-1) (-1) 4 (by omega)
    have hz' : zz (zs (kz wr c h 0 (-1) (-1)) 4 (z 4 + 1)) = upd (zz (kz wr c h 0 (-1) (-1))) 4 (z 4 + 1) := zs_z _ _ _
    refine ⟨0, sF (rlW w (3 * c + h)) 0 5 (z 4 + 1), zs (kz wr c h 0 (-1) (-1)) 4 (z 4 + 1), ?_, (rlW_dP _ _).fd _ _, ?_, (kz_dM _ _ _ _ _ _).zs _ _, ?_, ?_, by decide⟩
    · unfold F_X6_fasten lw
      rw [p_leafOf hW hY hc hh, bd_s, p_branchOf hY hc hh, bd_s, e2, R_get, bd_s, g_12 hb, hY.b b hb, e1, if_neg hs, p_release hc hh, bd_s]
      dsimp only
      rw [rlW_f, hY.f.2.2.2.2.2.1]
    · unfold F_X8_doPin
      rw [m_ofH1 hc hh, bd_s, m_ofH2 hc hh, bd_s, hz, e1, e2, m_br hb, hz, if_neg hs, m_setHook hc hh, bd_s, show ∀ f : Int32 → Option (Int32 × xWt), ald (kz wr c h 0 (-1) (-1)) 9 0 4 f = f (zz (kz wr c h 0 (-1) (-1)) 4) from fun f => m_z (i := 4) (by decide), e4]
      exact m_zs (i := 4) (by decide)
    · rw [hz']
      exact hY1.cnt (j := 4) (by omega) (by omega) _
    · rw [hz']
      exact hW1.cnt (j := 4) (by omega) (by omega) _
/-- look: nothing changes but the number of dangers -/
theorem d_look (hW : WF z B T) (hY : YR 0 z w) (hc : c < 5) (ht : zC z c 0 = 1) (hh : h < 3) (hk : zH z c h 0 ≠ 0) : DO z B T w (F_X6_lookThrough 0 (nI c) (nI h)) (fun w4 => bd (F_X8_ofHook (nI c) (nI h) 1 w4) (fun x6 w5 => bd (F_X8_ofHook (nI c) (nI h) 0 w5) (fun x8 w7 => (if x8 = 1 then bd (F_X8_of x6 1 w7) (fun x12 w11 => (if x12 = 2 then ald w11 9 0 5 (fun x15 => ast w11 9 0 5 (x15 + 1) (fun w16 => some ((-1), w16))) else bd (F_X8_of x6 0 w11) (fun x14 w13 => some (x14, w13)))) else bd (F_X8_of x6 0 w7) (fun x10 w9 => some (x10, w9)))))) := by
  intro wr hz
  have h120 := hW.g120
  obtain ⟨l, hl, e1⟩ : ∃ l, l < gN z ∧ zH z c h 1 = nI l := by
    rcases hW.h c h hc hh with ⟨q, -⟩ | ⟨-, l, b, q1, -, q2, -⟩ | ⟨-, l, q1, q2, -⟩
    · exact absurd q hk
    · exact ⟨l, q1, q2⟩
    · exact ⟨l, q1, q2⟩
  obtain ⟨y1, y2, y3, y4, y5⟩ := hY.l l hl
  have hno : ∀ v, F_X6_lookThrough 0 (nI c) (nI h) w = some (v, w) → (fun w4 => bd (F_X8_ofHook (nI c) (nI h) 1 w4) (fun x6 w5 => bd (F_X8_ofHook (nI c) (nI h) 0 w5) (fun x8 w7 => (if x8 = 1 then bd (F_X8_of x6 1 w7) (fun x12 w11 => (if x12 = 2 then ald w11 9 0 5 (fun x15 => ast w11 9 0 5 (x15 + 1) (fun w16 => some ((-1), w16))) else bd (F_X8_of x6 0 w11) (fun x14 w13 => some (x14, w13)))) else bd (F_X8_of x6 0 w7) (fun x10 w9 => some (x10, w9)))))) wr = some (v, wr) → ∃ v wq wE, F_X6_lookThrough 0 (nI c) (nI h) w = some (v, wq) ∧ dP w wq ∧ (fun w4 => bd (F_X8_ofHook (nI c) (nI h) 1 w4) (fun x6 w5 => bd (F_X8_ofHook (nI c) (nI h) 0 w5) (fun x8 w7 => (if x8 = 1 then bd (F_X8_of x6 1 w7) (fun x12 w11 => (if x12 = 2 then ald w11 9 0 5 (fun x15 => ast w11 9 0 5 (x15 + 1) (fun w16 => some ((-1), w16))) else bd (F_X8_of x6 0 w11) (fun x14 w13 => some (x14, w13)))) else bd (F_X8_of x6 0 w7) (fun x10 w9 => some (x10, w9)))))) wr = some (v, wE) ∧ dM wr wE ∧ YR 0 (zz wE) wq ∧ WF (zz wE) B T := fun v g1 g2 => ⟨v, w, wr, g1, dP.rf w, g2, dM.rf wr, by rw [hz]; exact hY, by rw [hz]; exact hW⟩
  by_cases k1 : zH z c h 0 = 1
  · by_cases k2 : zL z l 1 = 2
    · refine ⟨-1, sF w 0 6 (z 5 + 1), zs wr 5 (z 5 + 1), ?_, (dP.rf w).fd _ _, ?_, (dM.rf wr).zs _ _, ?_, ?_⟩
      · unfold F_X6_lookThrough lw
        rw [p_leafOf hW hY hc hh, bd_s, p_kindOf hW hY hc hh, bd_s, if_pos k1, e1, R_get, bd_s, g_120 (by omega) rfl, y2, if_pos k2]
        dsimp only
        rw [hY.f.2.2.2.2.2.2.1]
      · dsimp only
        rw [m_ofH1 hc hh, bd_s, m_ofH0 hc hh, bd_s, hz, if_pos k1, e1, m_of1 (by omega), bd_s, hz, if_pos k2, show ∀ f : Int32 → Option (Int32 × xWt), ald wr 9 0 5 f = f (zz wr 5) from fun f => m_z (i := 5) (by decide), hz]
        exact m_zs (i := 5) (by decide)
      · rw [zs_z, hz]
        exact hY.cnt (j := 5) (by omega) (by omega) _
      · rw [zs_z, hz]
        exact hW.cnt (j := 5) (by omega) (by omega) _
    · refine hno (zL z l 0) ?_ ?_
      · unfold F_X6_lookThrough
        rw [p_leafOf hW hY hc hh, bd_s, p_kindOf hW hY hc hh, bd_s, if_pos k1, e1, R_get, bd_s, g_120 (by omega) rfl, y2, if_neg k2, R_get, bd_s, g_120 (by omega) rfl, y1]
      · dsimp only
        rw [m_ofH1 hc hh, bd_s, m_ofH0 hc hh, bd_s, hz, if_pos k1, e1, m_of1 (by omega), bd_s, hz, if_neg k2, m_of0 (by omega), bd_s, hz]
  · refine hno (zL z l 0) ?_ ?_
    · unfold F_X6_lookThrough
      rw [p_leafOf hW hY hc hh, bd_s, p_kindOf hW hY hc hh, bd_s, if_neg k1, e1, R_get, bd_s, g_120 (by omega) rfl, y1]
    · dsimp only
      rw [m_ofH1 hc hh, bd_s, m_ofH0 hc hh, bd_s, hz, if_neg k1, e1, m_of0 (by omega), bd_s, hz]
end D2

