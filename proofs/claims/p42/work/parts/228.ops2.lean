/-! the calls on hooks and leaves -/
section OPT
variable {z : Nat → Int32} {w wr : xWt} {B T c h b l e : Nat} {a : Int32} {hl : List Nat}
theorem p_needHookI (hY : YR 0 z w) (hc : c < 5) (hx : zC z c 0 ≠ 1 ∨ 3 ≤ h) (h4 : h < 4) : F_X7_needHook (nI c) (nI h) w = some (.inr eI', w) := by
  by_cases ht : zC z c 0 = 1
  · have q : 3 ≤ h := hx.resolve_left (fun r => r ht)
    exact p_needHookN hY hc ht (Or.inr (by rw [nI_clamp (by omega)]; exact q))
  · unfold F_X7_needHook
    rw [p_needChildN hY hc ht, bx_r]
theorem p_mayWrite (hW : WF z B T) (hY : YR 0 z w) (hc : c < 5) (hh : h < 3) (hb : b < 12) : F_X6_mayWrite 0 (nI c) (nI h) (nI b) w = some (if yI z c = true then (if zH z c h 0 = 0 then (if z (10 + b) = -1 then 0 else 1) else 0) else 0, w) := by
  unfold F_X6_mayWrite
  rw [p_isInYard hW hY hc, bd_s]
  by_cases hy : yI z c = true
  · rw [if_pos hy, if_neg (by decide), if_pos hy, p_kindOf hW hY hc hh, bd_s]
    by_cases hk : zH z c h 0 = 0
    · rw [if_pos hk, if_pos hk, R_get, bd_s, g_12 hb, hY.b b hb]
      by_cases q : z (10 + b) = -1
      · rw [if_pos q, if_pos q]
      · rw [if_neg q, if_neg q]
    · rw [if_neg hk, if_neg hk]
  · rw [if_neg hy, if_pos rfl, if_neg hy]
theorem o_note (hW : WF z B T) (hY : YR 0 z w) (hS : SV w) (hc : c < 5) (ht : zC z c 0 = 1) (hh : h < 3) (hb : b < 12) (hy : yI z c = true) (hk : zH z c h 0 = 0) (hl : l < gN z) (hbr : z (10 + b) = nI l) : ∃ z', KZ z c h 1 (nI l) (nI b) z' ∧ OK z' w B T (nI l) (F_L_note (nI c) (nI h) (nI b) w) := by
  have h120 := hW.g120
  refine ⟨_, kz_KZ (gz_z z) c h 1 (nI l) (nI b), op_ok (Es := [(eI', (-31)), (eS', (-33))]) hY hS (fun w hY => (d_note hW hY hc ht hh hb hk hl hbr).mono (Nat.le_refl _) (Nat.le_refl _)) (e_note (gz_z z) hc hh hb hbr) ?_⟩
  unfold F_L_note F_X7_note
  rw [p_needHookY hY hc ht hh, bx_l, p_needBranchY hb, bx_l, p_mayWrite hW hY hc hh hb, bd_s, if_pos hy, if_pos hk, if_neg (show ¬ z (10 + b) = -1 by rw [hbr]; exact nI_m1 (by omega)), if_neg (by decide)]
theorem o_note3 (hW : WF z B T) (hY : YR 0 z w) (hc : c < 5) (ht : zC z c 0 = 1) (hh : h < 3) (hb : b < 12) (hx : ¬ yI z c = true ∨ zH z c h 0 ≠ 0 ∨ z (10 + b) = -1) : F_L_note (nI c) (nI h) (nI b) w = some (-33, w) := by
  have e : (if yI z c = true then (if zH z c h 0 = 0 then (if z (10 + b) = -1 then (0 : Int32) else 1) else 0) else 0) = 0 := by
    by_cases q1 : yI z c = true
    · rw [if_pos q1]
      by_cases q2 : zH z c h 0 = 0
      · rw [if_pos q2]
        rcases hx with r | r | r
        · exact absurd q1 r
        · exact absurd q2 r
        · rw [if_pos r]
      · rw [if_neg q2]
    · rw [if_neg q1]
  unfold F_L_note F_X7_note
  rw [p_needHookY hY hc ht hh, bx_l, p_needBranchY hb, bx_l, p_mayWrite hW hY hc hh hb, bd_s, e, if_pos rfl]
  exact l_3 w
theorem o_note1 (hY : YR 0 z w) (hc : c < 5) (hx : zC z c 0 ≠ 1 ∨ 3 ≤ h) (h4 : h < 4) (a : Int32) : F_L_note (nI c) (nI h) a w = some (-31, w) := by
  unfold F_L_note F_X7_note
  rw [p_needHookI hY hc hx h4, bx_r]
  exact l_1 w
theorem o_note1b (hY : YR 0 z w) (hc : c < 5) (ht : zC z c 0 = 1) (hh : h < 3) : F_L_note (nI c) (nI h) (nI 12) w = some (-31, w) := by
  unfold F_L_note F_X7_note
  rw [p_needHookY hY hc ht hh, bx_l, p_needBranchN (Or.inr (by rw [nI_clamp (by omega)]; exact Nat.le_refl _)), bx_r]
  exact l_1 w
theorem p_mayFasten (hW : WF z B T) (hY : YR 0 z w) (hc : c < 5) (hh : h < 3) : F_X6_mayFasten 0 (nI c) (nI h) w = some (if zH z c h 0 = 1 then 1 else 0, w) := by
  unfold F_X6_mayFasten
  rw [p_kindOf hW hY hc hh, bd_s]
  by_cases q : zH z c h 0 = 1
  · rw [if_pos q, if_pos q]
  · rw [if_neg q, if_neg q]
theorem o_pin1 (hW : WF z B T) (hY : YR 0 z w) (hS : SV w) (hc : c < 5) (ht : zC z c 0 = 1) (hh : h < 3) (hb : b < 12) (hk : zH z c h 0 = 1) (e1 : zH z c h 1 = nI l) (e2 : zH z c h 2 = nI b) (hs : z (10 + b) = nI l) : ∃ z', KZ z c h 2 (nI l) (-1) z' ∧ OK z' w B T 1 (F_L_pin (nI c) (nI h) w) := by
  refine ⟨_, kz_KZ (gz_z z) c h 2 (nI l) (-1), op_ok (Es := [(eI', (-31)), (eS', (-33))]) hY hS (fun w hY => (d_pin hW hY hc ht hh hk).mono (Nat.le_refl _) (Nat.le_refl _)) (e_pin1 (gz_z z) hc hh hb e1 e2 hs) ?_⟩
  unfold F_L_pin F_X7_pin
  rw [p_needHookY hY hc ht hh, bx_l, p_mayFasten hW hY hc hh, bd_s, if_pos hk, if_neg (by decide)]
theorem o_pin0 (hW : WF z B T) (hY : YR 0 z w) (hS : SV w) (hc : c < 5) (ht : zC z c 0 = 1) (hh : h < 3) (hb : b < 12) (hk : zH z c h 0 = 1) (e1 : zH z c h 1 = nI l) (e2 : zH z c h 2 = nI b) (hs : z (10 + b) ≠ nI l) : ∃ z1, KZ z c h 0 (-1) (-1) z1 ∧ OK (upd z1 4 (z 4 + 1)) w B T 0 (F_L_pin (nI c) (nI h) w) := by
  have q : zz (zs (kz (gz z) c h 0 (-1) (-1)) 4 (z 4 + 1)) = upd (zz (kz (gz z) c h 0 (-1) (-1))) 4 (z 4 + 1) := zs_z _ _ _
  refine ⟨_, kz_KZ (gz_z z) c h 0 (-1) (-1), ?_⟩
  rw [← q]
  refine op_ok (Es := [(eI', (-31)), (eS', (-33))]) hY hS (fun w hY => (d_pin hW hY hc ht hh hk).mono (Nat.le_refl _) (Nat.le_refl _)) (e_pin0 (gz_z z) hc hh hb e1 e2 hs) ?_
  unfold F_L_pin F_X7_pin
  rw [p_needHookY hY hc ht hh, bx_l, p_mayFasten hW hY hc hh, bd_s, if_pos hk, if_neg (by decide)]
theorem o_pin3 (hW : WF z B T) (hY : YR 0 z w) (hc : c < 5) (ht : zC z c 0 = 1) (hh : h < 3) (hk : zH z c h 0 ≠ 1) : F_L_pin (nI c) (nI h) w = some (-33, w) := by
  unfold F_L_pin F_X7_pin
  rw [p_needHookY hY hc ht hh, bx_l, p_mayFasten hW hY hc hh, bd_s, if_neg hk, if_pos rfl]
  exact l_3 w
theorem o_pinI (hY : YR 0 z w) (hc : c < 5) (hx : zC z c 0 ≠ 1 ∨ 3 ≤ h) (h4 : h < 4) : F_L_pin (nI c) (nI h) w = some (-31, w) := by
  unfold F_L_pin F_X7_pin
  rw [p_needHookI hY hc hx h4, bx_r]
  exact l_1 w
theorem p_mayRelease (hW : WF z B T) (hY : YR 0 z w) (hc : c < 5) (hh : h < 3) : F_X6_mayRelease 0 (nI c) (nI h) w = some (if zH z c h 0 = 0 then 0 else 1, w) := by
  unfold F_X6_mayRelease
  rw [p_kindOf hW hY hc hh, bd_s]
  by_cases q : zH z c h 0 = 0
  · rw [if_pos q, if_pos q]
  · rw [if_neg q, if_neg q]
theorem o_loosen (hW : WF z B T) (hY : YR 0 z w) (hS : SV w) (hc : c < 5) (ht : zC z c 0 = 1) (hh : h < 3) (hk : zH z c h 0 ≠ 0) : ∃ z', KZ z c h 0 (-1) (-1) z' ∧ OK z' w B T (zH z c h 1) (F_L_loosen (nI c) (nI h) w) := by
  refine ⟨_, kz_KZ (gz_z z) c h 0 (-1) (-1), op_ok (Es := [(eI', (-31)), (eS', (-33))]) hY hS (fun w hY => (d_loosen hW hY hc ht hh hk).mono (Nat.le_refl _) (Nat.le_refl _)) (e_loosen (gz_z z) hc hh) ?_⟩
  unfold F_L_loosen F_X7_loosen
  rw [p_needHookY hY hc ht hh, bx_l, p_mayRelease hW hY hc hh, bd_s, if_neg hk, if_neg (by decide)]
theorem o_loosen3 (hW : WF z B T) (hY : YR 0 z w) (hc : c < 5) (ht : zC z c 0 = 1) (hh : h < 3) (hk : zH z c h 0 = 0) : F_L_loosen (nI c) (nI h) w = some (-33, w) := by
  unfold F_L_loosen F_X7_loosen
  rw [p_needHookY hY hc ht hh, bx_l, p_mayRelease hW hY hc hh, bd_s, if_pos hk, if_pos rfl]
  exact l_3 w
theorem o_loosen1 (hY : YR 0 z w) (hc : c < 5) (hx : zC z c 0 ≠ 1 ∨ 3 ≤ h) (h4 : h < 4) : F_L_loosen (nI c) (nI h) w = some (-31, w) := by
  unfold F_L_loosen F_X7_loosen
  rw [p_needHookI hY hc hx h4, bx_r]
  exact l_1 w
theorem o_look3 (hW : WF z B T) (hY : YR 0 z w) (hc : c < 5) (ht : zC z c 0 = 1) (hh : h < 3) (hk : zH z c h 0 = 0) : F_L_look (nI c) (nI h) w = some (-33, w) := by
  unfold F_L_look F_X7_look
  rw [p_needHookY hY hc ht hh, bx_l, p_mayRelease hW hY hc hh, bd_s, if_pos hk, if_pos rfl]
  exact l_3 w
theorem o_look1 (hY : YR 0 z w) (hc : c < 5) (hx : zC z c 0 ≠ 1 ∨ 3 ≤ h) (h4 : h < 4) : F_L_look (nI c) (nI h) w = some (-31, w) := by
  unfold F_L_look F_X7_look
  rw [p_needHookI hY hc hx h4, bx_r]
  exact l_1 w
/-- looked at: a danger, or the colour -/
theorem o_lookD (hW : WF z B T) (hY : YR 0 z w) (hS : SV w) (hc : c < 5) (ht : zC z c 0 = 1) (hh : h < 3) (hk : zH z c h 0 = 1) (hl : l < gN z) (e1 : zH z c h 1 = nI l) (k2 : zL z l 1 = 2) : OK (upd z 5 (z 5 + 1)) w B T (-1) (F_L_look (nI c) (nI h) w) := by
  have h120 := hW.g120
  have hk0 : zH z c h 0 ≠ 0 := by rw [hk]; decide
  have q : zz (zs (gz z) 5 (z 5 + 1)) = upd z 5 (z 5 + 1) := by rw [zs_z, gz_z]
  rw [← q]
  refine op_ok (Es := [(eI', (-31)), (eS', (-33))]) hY hS (fun w hY => d_look hW hY hc ht hh hk0) ?_ ?_
  · rw [m_ofH1 hc hh, bd_s, m_ofH0 hc hh, bd_s, gz_z, if_pos hk, e1, m_of1 (by omega), bd_s, gz_z, if_pos k2, show ∀ f : Int32 → Option (Int32 × xWt), ald (gz z) 9 0 5 f = f (zz (gz z) 5) from fun f => m_z (i := 5) (by decide), gz_z]
    exact m_zs (i := 5) (by decide)
  · unfold F_L_look F_X7_look
    rw [p_needHookY hY hc ht hh, bx_l, p_mayRelease hW hY hc hh, bd_s, if_neg hk0, if_neg (by decide)]
theorem o_lookC (hW : WF z B T) (hY : YR 0 z w) (hS : SV w) (hc : c < 5) (ht : zC z c 0 = 1) (hh : h < 3) (hk0 : zH z c h 0 ≠ 0) (hl : l < gN z) (e1 : zH z c h 1 = nI l) (k2 : zH z c h 0 ≠ 1 ∨ zL z l 1 ≠ 2) : OK z w B T (zL z l 0) (F_L_look (nI c) (nI h) w) := by
  have h120 := hW.g120
  have q : zz (gz z) = z := gz_z z
  suffices H : OK (zz (gz z)) w B T (zL z l 0) (F_L_look (nI c) (nI h) w) by rw [q] at H; exact H
  refine op_ok (Es := [(eI', (-31)), (eS', (-33))]) hY hS (fun w hY => d_look hW hY hc ht hh hk0) ?_ ?_
  · rw [m_ofH1 hc hh, bd_s, m_ofH0 hc hh, bd_s, gz_z, e1]
    by_cases k1 : zH z c h 0 = 1
    · rw [if_pos k1, m_of1 (by omega), bd_s, gz_z, if_neg (k2.resolve_left (fun r => r k1)), m_of0 (by omega), bd_s, gz_z]
    · rw [if_neg k1, m_of0 (by omega), bd_s, gz_z]
  · unfold F_L_look F_X7_look
    rw [p_needHookY hY hc ht hh, bx_l, p_mayRelease hW hY hc hh, bd_s, if_neg hk0, if_neg (by decide)]
/-! leaves -/
theorem p_maySprout (hY : YR 0 z w) (hW : WF z B T) (hb : b < 12) : F_X6_maySprout 0 (nI b) w = some (if z (10 + b) = -1 then (if 120 ≤ gN z then 0 else 1) else 0, w) := by
  have h120 := hW.g120
  have e8 : w.2.1 0 8 = nI (gN z) := hY.f.2.2.2.2.2.2.2.2.trans hW.g
  unfold F_X6_maySprout
  rw [R_get, bd_s, g_12 hb, hY.b b hb, e8]
  by_cases q : z (10 + b) = -1
  · rw [if_pos q, if_pos q]
    by_cases q2 : 120 ≤ gN z
    · rw [if_pos q2, if_pos (show (120 : Int32) ≤ nI (gN z) from nI_le (a := 120) q2 (by omega))]
    · rw [if_neg q2, if_neg (show ¬ (120 : Int32) ≤ nI (gN z) from nI_ge (b := 120) (by omega) (by omega))]
  · rw [if_neg q, if_neg q]
theorem o_grow (hW : WF z B T) (hY : YR 0 z w) (hS : SV w) (hb : b < 12) (hg : gN z < 120) (hbr : z (10 + b) = -1) {q : Nat} (hq : q < 10) : ∃ z', GZ z b (nI q) z' ∧ OK z' w B T (nI (gN z)) (F_L_grow (nI b) (nI q) w) := by
  obtain ⟨wE, e1, e2⟩ := e_grow hW (gz_z z) hb hg (nI q)
  refine ⟨_, e2, op_ok (Es := [(eI', (-31)), (eA', (-32)), (eS', (-33))]) hY hS (fun w hY => (d_grow hW hY hb hg (nI q)).mono (Nat.le_refl _) (Nat.le_refl _)) e1 ?_⟩
  unfold F_L_grow F_X7_grow
  rw [p_needBranchY hb, bx_l, p_needColourY hq, bx_l, p_maySprout hY hW hb, bd_s, if_pos hbr, if_neg (show ¬ 120 ≤ gN z by omega), if_neg (by decide)]
theorem o_grow3 (hW : WF z B T) (hY : YR 0 z w) (hb : b < 12) (hbr : z (10 + b) ≠ -1) {q : Nat} (hq : q < 10) : F_L_grow (nI b) (nI q) w = some (-33, w) := by
  unfold F_L_grow F_X7_grow
  rw [p_needBranchY hb, bx_l, p_needColourY hq, bx_l, p_maySprout hY hW hb, bd_s, if_neg hbr, if_pos rfl]
  exact lw_3 neSI neSA _ _ _ _ _
theorem o_growI (w : xWt) : F_L_grow 12 0 w = some (-31, w) := by
  unfold F_L_grow F_X7_grow
  rw [show (12 : Int32) = nI 12 from rfl, p_needBranchN (Or.inr (by rw [nI_clamp (by omega)]; exact Nat.le_refl _)), bx_r]
  exact lw_1 _ _ _ _
theorem o_growA (hb : b < 12) (w : xWt) : F_L_grow (nI b) 10 w = some (-32, w) := by
  unfold F_L_grow F_X7_grow
  rw [p_needBranchY hb, bx_l, show (10 : Int32) = nI 10 from rfl, p_needColourN (Or.inr (by rw [nI_clamp (by omega)]; exact Nat.le_refl _)), bx_r]
  exact lw_2 neAI _ _ _ _
theorem o_take (hW : WF z B T) (hY : YR 0 z w) (hS : SV w) (hT : T < 2 ^ 30) (hc : c < 5) (ht : zC z c 0 = 1) (hy : yI z c = true) (hb : b < 12) (hl : l < gN z) (hbr : z (10 + b) = nI l) : ∃ v z', TK z b c l v z' ∧ OK z' w B (T + 1) v (F_L_take (nI c) (nI b) w) := by
  have h120 := hW.g120
  obtain ⟨v, wE, e1, e2⟩ := e_take hW hY (gz_z z) hT hc ht hb hl hbr
  refine ⟨v, _, e2, op_ok (Es := [(eI', (-31)), (eS', (-33))]) hY hS (fun w hY => (d_take hW hY hT hc ht hb hl hbr).o) e1 ?_⟩
  unfold F_L_take F_X7_take
  rw [p_needChildY hY hc ht, bx_l, p_needBranchY hb, bx_l, p_mayTakeOff hW hY hc hb, bd_s, if_pos hy, if_neg (show ¬ z (10 + b) = -1 by rw [hbr]; exact nI_m1 (by omega)), if_neg (by decide)]
theorem o_take3 (hW : WF z B T) (hY : YR 0 z w) (hc : c < 5) (ht : zC z c 0 = 1) (hb : b < 12) (hx : ¬ yI z c = true ∨ z (10 + b) = -1) : F_L_take (nI c) (nI b) w = some (-33, w) := by
  have e : (if yI z c = true then (if z (10 + b) = -1 then (0 : Int32) else 1) else 0) = 0 := by
    by_cases q1 : yI z c = true
    · rw [if_pos q1, if_pos (hx.resolve_left (fun r => r q1))]
    · rw [if_neg q1]
  unfold F_L_take F_X7_take
  rw [p_needChildY hY hc ht, bx_l, p_needBranchY hb, bx_l, p_mayTakeOff hW hY hc hb, bd_s, e, if_pos rfl]
  exact l_3 w
theorem o_take1 (hY : YR 0 z w) (hc : c < 5) (ht : zC z c 0 ≠ 1) (a : Int32) : F_L_take (nI c) a w = some (-31, w) := by
  unfold F_L_take F_X7_take
  rw [p_needChildN hY hc ht, bx_r]
  exact l_1 w
theorem TK.g (hb : b < 12) {v : Int32} {z' : Nat → Int32} (h : TK z b c l v z') : gN z' = gN z := by
  obtain ⟨z1, hA, h⟩ := h
  have e : z' 1 = z 1 := by
    rw [← hA.G (i := 1) (by omega)]
    rcases h with ⟨-, -, q⟩ | ⟨-, -, z2, r, q⟩
    · rw [q, upd_ne _ _ (by omega)]
    · rw [q, upd_ne _ _ (by omega)]
      exact r.2.1 1 (fun l hl => by omega) (by omega) (by omega) (by omega) (by omega)
  unfold gN
  rw [e]
theorem o_swap (hW : WF z B T) (hY : YR 0 z w) (hS : SV w) (hT : T < 2 ^ 30) (hc : c < 5) (ht : zC z c 0 = 1) (hy : yI z c = true) (hb : b < 12) (hl : l < gN z) (hbr : z (10 + b) = nI l) (hg : gN z < 120) {q : Nat} (hq : q < 10) : ∃ v z1 z', TK z b c l v z1 ∧ WF z1 B (T + 1) ∧ GZ z1 b (nI q) z' ∧ OK z' w B (T + 1) (nI (gN z)) (F_L_swap (nI c) (nI b) (nI q) w) := by
  have h120 := hW.g120
  have e8 : w.2.1 0 8 = nI (gN z) := hY.f.2.2.2.2.2.2.2.2.trans hW.g
  obtain ⟨v, wE, e1, e2⟩ := e_take hW hY (gz_z z) hT hc ht hb hl hbr
  have hW1 : WF (zz wE) B (T + 1) := (DO.ex hY (fun w hY => (d_take hW hY hT hc ht hb hl hbr).o) e1).1
  have eg := e2.g hb
  obtain ⟨wF, f1, f2⟩ := e_grow hW1 rfl hb (by rw [eg]; exact hg) (nI q)
  refine ⟨v, _, _, e2, hW1, f2, op_ok (Es := [(eI', (-31)), (eA', (-32)), (eS', (-33))]) hY hS (fun w hY => (d_swap hW hY hT hc ht hb hl hbr hg (nI q)).mono (Nat.le_refl _) (Nat.le_refl _)) (show F_X8_doSwap (nI c) (nI b) (nI q) (gz z) = some (nI (gN z), wF) by unfold F_X8_doSwap; rw [e1, bd_s, f1, bd_s, eg]) ?_⟩
  unfold F_L_swap F_X7_swap F_X6_mayExchange
  rw [p_needChildY hY hc ht, bx_l, p_needBranchY hb, bx_l, p_needColourY hq, bx_l, p_mayTakeOff hW hY hc hb, bd_s, if_pos hy, if_neg (show ¬ z (10 + b) = -1 by rw [hbr]; exact nI_m1 (by omega)), if_neg (by decide), e8, if_neg (show ¬ (120 : Int32) ≤ nI (gN z) from nI_ge (b := 120) hg (by omega)), bd_s, if_neg (by decide)]
theorem o_swap3 (hW : WF z B T) (hY : YR 0 z w) (hc : c < 5) (ht : zC z c 0 = 1) (hb : b < 12) (hx : ¬ yI z c = true ∨ z (10 + b) = -1) {q : Nat} (hq : q < 10) : F_L_swap (nI c) (nI b) (nI q) w = some (-33, w) := by
  have e : (if yI z c = true then (if z (10 + b) = -1 then (0 : Int32) else 1) else 0) = 0 := by
    by_cases q1 : yI z c = true
    · rw [if_pos q1, if_pos (hx.resolve_left (fun r => r q1))]
    · rw [if_neg q1]
  unfold F_L_swap F_X7_swap F_X6_mayExchange
  rw [p_needChildY hY hc ht, bx_l, p_needBranchY hb, bx_l, p_needColourY hq, bx_l, p_mayTakeOff hW hY hc hb, bd_s, e, if_pos rfl, bd_s, if_pos rfl]
  exact lw_3 neSI neSA _ _ _ _ _
theorem o_swap1 (hY : YR 0 z w) (hc : c < 5) (ht : zC z c 0 ≠ 1) (a d : Int32) : F_L_swap (nI c) a d w = some (-31, w) := by
  unfold F_L_swap F_X7_swap
  rw [p_needChildN hY hc ht, bx_r]
  exact lw_1 _ _ _ _
theorem o_swapI (hY : YR 0 z w) (hc : c < 5) (d : Int32) : F_L_swap (nI c) 12 d w = some (-31, w) := by
  by_cases ht : zC z c 0 = 1
  · unfold F_L_swap F_X7_swap
    rw [p_needChildY hY hc ht, bx_l, show (12 : Int32) = nI 12 from rfl, p_needBranchN (Or.inr (by rw [nI_clamp (by omega)]; exact Nat.le_refl _)), bx_r]
    exact lw_1 _ _ _ _
  · exact o_swap1 hY hc ht _ _
theorem p_mayClear (hW : WF z B T) (hY : YR 0 z w) (hc : c < 5) : F_X6_mayClear 0 (nI c) w = some (if hN z c = 0 then 0 else 1, w) := by
  have h120 := hW.g120
  obtain ⟨hp, q1, q2, q3, q4⟩ := p_heap hW hY hc
  have e : hN z c = hp.length := q1.len
  have hle := q1.le h120
  unfold F_X6_mayClear
  rw [R_get, bd_s, q3, e]
  by_cases q : hp.length = 0
  · rw [if_pos q, q, if_pos (show nI 0 ≤ 0 from Int32.le_refl _)]
  · rw [if_neg q, if_neg (show ¬ nI hp.length ≤ 0 from nI_nle (by omega) (by omega))]
theorem o_rake (hW : WF z B T) (hY : YR 0 z w) (hS : SV w) (hc : c < 5) (ht : zC z c 0 = 1) (h0 : hN z c ≠ 0) : ∃ z', RK z c z' ∧ OK z' w B T (nI (cn (bnB z c) (gN z))) (F_L_rake (nI c) w) := by
  obtain ⟨wE, e1, e2⟩ := e_rake hW (gz_z z) hc ht
  refine ⟨_, e2, op_ok (Es := [(eI', (-31)), (eS', (-33))]) hY hS (fun w hY => (d_clear hW hY hc ht).o) e1 ?_⟩
  unfold F_L_rake F_X7_rake
  rw [p_needChildY hY hc ht, bx_l, p_mayClear hW hY hc, bd_s, if_neg h0, if_neg (by decide)]
theorem o_rake3 (hW : WF z B T) (hY : YR 0 z w) (hc : c < 5) (ht : zC z c 0 = 1) (h0 : hN z c = 0) : F_L_rake (nI c) w = some (-33, w) := by
  unfold F_L_rake F_X7_rake
  rw [p_needChildY hY hc ht, bx_l, p_mayClear hW hY hc, bd_s, if_pos h0, if_pos rfl]
  exact l_3 w
theorem o_rake1 (hY : YR 0 z w) (hc : c < 5) (ht : zC z c 0 ≠ 1) : F_L_rake (nI c) w = some (-31, w) := by
  unfold F_L_rake F_X7_rake
  rw [p_needChildN hY hc ht, bx_r]
  exact l_1 w
theorem o_undo (h0 : w.2.1 8 2 = 0) : F_L_undo w = some (-33, w) := by
  unfold F_L_undo F_X7_undo F_X5_number
  rw [bd_s, if_pos h0]
  exact lw_1 _ _ _ _
end OPT
