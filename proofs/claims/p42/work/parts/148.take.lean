/-! calls 10 and 11: take, swap -/
def moP (v : Int32) (w6 : xWt) : Option (Int32 × xWt) := bd (F_X2_numberWhere 0 1 w6) (fun x9 w8 => lw (sF w8 0 7 (if (w6.2.1 0 7) < x9 then x9 else (w6.2.1 0 7))) (fun w10 => some (v, w10)))
def moM (v : Int32) (w9 : xWt) : Option (Int32 × xWt) := bd (F_X8_leavesAt 1 w9) (fun x13 w12 => ald w12 9 0 6 (fun x14 => (if x13 ≤ x14 then ald w12 9 0 6 (fun x15 => ast w12 9 0 6 x15 (fun w16 => some (v, w16))) else ast w12 9 0 6 x13 (fun w17 => some (v, w17)))))
def tkP (c : Nat) (w5 : xWt) : Option (Int32 × xWt) := bd (R_X4_get 0 11 (nI c) w5) (fun x7 w6 => (if x7 < (w6.2.1 0 1) then moP 0 w6 else bd (F_X6_clear 0 (nI c) w6) moP))
def tkM (c : Nat) (w8 : xWt) : Option (Int32 × xWt) := bd (F_X8_heapOf (nI c) w8) (fun x10 w9 => ald w9 9 0 8 (fun x11 => (if x10 < x11 then moM 0 w9 else bd (F_X8_doRake (nI c) w9) moM)))
section TK
variable {z z' : Nat → Int32} {xs : Nat → Int32} {L i B T b c l : Nat} {rec : Int32 → xWt → Option Unit} {w w' : xWt} {a : Int32}
theorem d_most (hW : WF z B T) (hY : YR 0 z w) (v : Int32) (hv : v ≠ -1) : DG z B T w (moP v) (moM v) := by
  intro wr hz
  obtain ⟨m, hm⟩ : ∃ m, m = if nI (cn (fun l => zL z l 1 == 1) (gN z)) ≤ z 6 then z 6 else nI (cn (fun l => zL z l 1 == 1) (gN z)) := ⟨_, rfl⟩
  have z6 : ∀ f : Int32 → Option (Int32 × xWt), ald wr 9 0 6 f = f (zz wr 6) := fun f => m_z (i := 6) (by decide)
  refine ⟨v, sF w 0 7 m, zs wr 6 m, ?_, (dP.rf w).fd _ _, ?_, (dM.rf wr).zs _ _, ?_, ?_, ?_, hv⟩
  · unfold moP lw
    rw [p_numberWhere hW hY, bd_s]
    dsimp only
    rw [hY.f.2.2.2.2.2.2.2.1, hm]
    by_cases q : nI (cn (fun l => zL z l 1 == 1) (gN z)) ≤ z 6
    · rw [if_pos q, if_neg (Int32.not_lt.mpr q)]
    · rw [if_neg q, if_pos (Int32.not_le.mp q)]
  · unfold moM
    rw [m_leavesAt (g := gN z) (by rw [hz]; exact hW.g) hW.g120, bd_s, z6, hz, hm]
    by_cases q : nI (cn (fun l => zL z l 1 == 1) (gN z)) ≤ z 6
    · rw [if_pos q, if_pos q, z6, hz]
      exact m_zs (i := 6) (by decide)
    · rw [if_neg q, if_neg q]
      exact m_zs (i := 6) (by decide)
  · rw [zs_z, hz]
    exact hY.cnt (j := 6) (by omega) (by omega) m
  · rw [zs_z, hz]
    exact hW.cnt (j := 6) (by omega) (by omega) m
  · rw [zs_z, hz]
    unfold gN
    rw [upd_ne _ _ (by omega)]
theorem d_tail (hW : WF z B T) (hY : YR 0 z w) (hc : c < 5) (ht : zC z c 0 = 1) : DG z B T w (tkP c) (tkM c) := by
  have h120 := hW.g120
  obtain ⟨s, s1, s2, e8⟩ := hW.s.2.2.2.2.2.2.1
  have hP : tkP c w = if nI (hN z c) < nI s then moP 0 w else bd (F_X6_clear 0 (nI c) w) moP := by
    unfold tkP
    rw [R_get, bd_s, p_heapN hW hY hc, hY.f.2.1, e8]
  have hM : ∀ wr, zz wr = z → tkM c wr = if nI (hN z c) < nI s then moM 0 wr else bd (F_X8_doRake (nI c) wr) moM := fun wr hz => by
    unfold tkM
    rw [m_heapOf (g := gN z) (by rw [hz]; exact hW.g) h120, bd_s, m_z8, hz, e8]
    rfl
  by_cases q : nI (hN z c) < nI s
  · intro wr hz
    obtain ⟨v, wq, wE, b1, b2, b3, b4⟩ := d_most hW hY 0 (by decide) wr hz
    exact ⟨v, wq, wE, by rw [hP, if_pos q]; exact b1, b2, by rw [hM wr hz, if_pos q]; exact b3, b4⟩
  · intro wr hz
    obtain ⟨v, wq, wE, b1, b2, b3, b4⟩ := DG.seq (gP := moP) (gM := moM) (d_clear hW hY hc ht) (fun v wq z1 g1 g2 g3 g4 => d_most g2 g1 v g4) wr hz
    exact ⟨v, wq, wE, by rw [hP, if_neg q]; exact b1, b2, by rw [hM wr hz, if_neg q]; exact b3, b4⟩
theorem d_take (hW : WF z B T) (hY : YR 0 z w) (hT : T < 2 ^ 30) (hc : c < 5) (ht : zC z c 0 = 1) (hb : b < 12) (hl : l < gN z) (hbr : z (10 + b) = nI l) : DG z B (T + 1) w (F_X6_takeOff 0 (nI c) (nI b)) (F_X8_doTake (nI c) (nI b)) := by
  intro wr hz
  have h120 := hW.g120
  obtain ⟨l1, l2⟩ : zL z l 1 = 0 ∧ zL z l 2 = nI b := by
    rcases hW.b b hb with q | ⟨l', q1, q2, q3, q4⟩
    · rw [hbr] at q
      exact absurd q (nI_m1 (by omega))
    · have e : l = l' := nI_inj (by omega) (by omega) (hbr.symm.trans q2)
      rw [e]; exact ⟨q3, q4⟩
  obtain ⟨hp, q1, q2, q3, q4⟩ := p_heap hW hY hc
  have q3' : w.1 0 11 c = nI hp.length := by
    rw [g_5 hc rfl] at q3; exact q3
  have e7 : z 7 = nI (tN z) := hW.s.2.2.2.2.1
  obtain ⟨y1, y2, y3, y4, y5⟩ := hY.l l hl
  obtain ⟨V1, hV1⟩ : ∃ V, V = zs wr (10 + b) (-1) := ⟨_, rfl⟩
  obtain ⟨V2, hV2⟩ : ∃ V, V = zs V1 (22 + 6 * l + 3) (z 0) := ⟨_, rfl⟩
  obtain ⟨V3, hV3⟩ : ∃ V, V = zs V2 (22 + 6 * l + 1) 1 := ⟨_, rfl⟩
  obtain ⟨V4, hV4⟩ : ∃ V, V = zs V3 (22 + 6 * l + 4) (nI c) := ⟨_, rfl⟩
  obtain ⟨V5, hV5⟩ : ∃ V, V = zs V4 (22 + 6 * l + 5) (nI (tN z)) := ⟨_, rfl⟩
  obtain ⟨V6, hV6⟩ : ∃ V, V = zs V5 7 (nI (tN z + 1)) := ⟨_, rfl⟩
  obtain ⟨V7, hV7⟩ : ∃ V, V = zs V6 (742 + 15 * c + 3) (zC z c 3 + 1) := ⟨_, rfl⟩
  have zE : zz V7 = upd (upd (upd (upd (upd (upd (upd z (10 + b) (-1)) (22 + 6 * l + 3) (z 0)) (22 + 6 * l + 1) 1) (22 + 6 * l + 4) (nI c)) (22 + 6 * l + 5) (nI (tN z))) 7 (nI (tN z + 1))) (742 + 15 * c + 3) (zC z c 3 + 1) := by
    rw [hV7, zs_z, hV6, zs_z, hV5, zs_z, hV4, zs_z, hV3, zs_z, hV2, zs_z, hV1, zs_z, hz]
  have hAZ : AZ z b c l (zz V7) := by
    refine ⟨fun i h1 h2 h3 h4 h5 h6 h7 => ?_, ?_, ?_, ?_, ?_, ?_, ?_, ?_⟩
    · rw [zE, upd_ne _ _ h7, upd_ne _ _ h2, upd_ne _ _ h6, upd_ne _ _ h5, upd_ne _ _ h3, upd_ne _ _ h4, upd_ne _ _ h1]
    · rw [zE, upd_ne _ _ (by omega), upd_ne _ _ (by omega), upd_ne _ _ (by omega), upd_ne _ _ (by omega), upd_ne _ _ (by omega), upd_ne _ _ (by omega), upd_eq]
    · rw [zE, upd_ne _ _ (by omega), upd_eq]
    · rw [zE, zL_ne _ (by omega), zL_ne _ (by omega), zL_ne _ (by omega), zL_ne _ (by omega), zL_eq]
    · rw [zE, zL_ne _ (by omega), zL_ne _ (by omega), zL_ne _ (by omega), zL_ne _ (by omega), zL_ne _ (by omega), zL_eq]
    · rw [zE, zL_ne _ (by omega), zL_ne _ (by omega), zL_ne _ (by omega), zL_eq]
    · rw [zE, zL_ne _ (by omega), zL_ne _ (by omega), zL_eq]
    · rw [zE, zC_eq]
  obtain ⟨W1, hW1⟩ : ∃ W, W = sRow (sRow (sRow (sRow (sRow (sRow (sRow w 0 0 (upd (w.1 0 0) b (-1))) 0 2 (upd (w.1 0 2) l 1)) 0 4 (upd (w.1 0 4) l (z 0))) 0 5 (upd (w.1 0 5) l (nI c))) 0 12 (upd (w.1 0 12) (120 * c + hp.length) (nI l))) 0 11 (upd (w.1 0 11) c (nI (hp.length + 1)))) 0 8 (upd (w.1 0 8) c (w.1 0 8 c + 1)) := ⟨_, rfl⟩
  have hlen : (hp ++ [l]).length ≤ 120 := (HL.aside hW hAZ hT hb hl l1 q1).le (by rw [hAZ.g]; exact h120)
  rw [List.length_append] at hlen
  have hlen : hp.length + 1 ≤ 120 := hlen
  have hYA : YR 0 (zz V7) W1 := by
    refine hY.aside hW hAZ hT hc ht hb hl l1 q1 q3' q4 ?_ ?_ ?_ ?_ ?_ ?_ ?_ (fun r h0 h2 h4 h5 h8 h11 h12 => ?_) (fun j => ?_)
    · rw [hW1]; rfl
    · rw [hW1]; rfl
    · rw [hW1]; rfl
    · rw [hW1]; rfl
    · rw [hW1]; rfl
    · rw [hW1]; rfl
    · rw [hW1]; rfl
    · rw [hW1, sRow_ne _ _ (by omega), sRow_ne _ _ (by omega), sRow_ne _ _ (by omega), sRow_ne _ _ (by omega), sRow_ne _ _ (by omega), sRow_ne _ _ (by omega), sRow_ne _ _ (by omega)]
    · rw [hW1]; rfl
  have hWA : WF (zz V7) B (T + 1) := hW.aside hAZ hT hc ht hb hl l2
  have htA : zC (zz V7) c 0 = 1 := by rw [hAZ.C hb (by omega) (by omega) (Or.inr (by omega))]; exact ht
  have dPA : dP w W1 := by
    rw [hW1]
    exact (((((((dP.rf w).row _ _).row _ _).row _ _).row _ _).row _ _).row _ _).row _ _
  have dMA : dM wr V7 := by
    rw [hV7, hV6, hV5, hV4, hV3, hV2, hV1]
    exact (((((((dM.rf wr).zs _ _).zs _ _).zs _ _).zs _ _).zs _ _).zs _ _).zs _ _
  have hPA : F_X6_takeOff 0 (nI c) (nI b) w = tkP c W1 := by
    unfold F_X6_takeOff F_X2_putAside F_X0_putOnHeap
    rw [R_get, bd_s, g_12 hb, hY.b b hb, hbr, hY.f.1, R_get, bd_s, g_120 (by omega) rfl, y3, l2, R_put, bd_s, p12 hb, R_put, bd_s, p120 (by omega) rfl, R_put, bd_s, p120 (by omega) rfl, R_put, bd_s, p120 (by omega) rfl, bd_s, R_get, bd_s, g_5 hc rfl]
    rw [show (sRow (sRow (sRow (sRow w 0 0 (upd (w.1 0 0) b (-1))) 0 2 (upd ((sRow w 0 0 (upd (w.1 0 0) b (-1))).1 0 2) l 1)) 0 4 (upd ((sRow (sRow w 0 0 (upd (w.1 0 0) b (-1))) 0 2 (upd ((sRow w 0 0 (upd (w.1 0 0) b (-1))).1 0 2) l 1)).1 0 4) l (z 0))) 0 5 (upd ((sRow (sRow (sRow w 0 0 (upd (w.1 0 0) b (-1))) 0 2 (upd ((sRow w 0 0 (upd (w.1 0 0) b (-1))).1 0 2) l 1)) 0 4 (upd ((sRow (sRow w 0 0 (upd (w.1 0 0) b (-1))) 0 2 (upd ((sRow w 0 0 (upd (w.1 0 0) b (-1))).1 0 2) l 1)).1 0 4) l (z 0))).1 0 5) l (nI c))).1 0 11 c = nI hp.length from q3']
    rw [ixP, R_put, bd_s, pt_in (show 120 * c + hp.length < rl 0 12 from by show 120 * c + hp.length < 600; omega) (by decide), R_add, bd_s, g_5 hc rfl]
    rw [sRow_ne (k' := 0) (r' := 11) _ _ (by decide), sRow_ne (k' := 0) (r' := 11) _ _ (by decide), sRow_ne (k' := 0) (r' := 11) _ _ (by decide), sRow_ne (k' := 0) (r' := 11) _ _ (by decide), sRow_ne (k' := 0) (r' := 11) _ _ (by decide), q3', nI_1, p5 hc rfl, bd_s, R_add, bd_s, g_5 hc rfl, p5 hc rfl]
    rw [hW1]
    rfl
  have hMA : F_X8_doTake (nI c) (nI b) wr = tkM c V7 := by
    have e0 : zz V1 0 = z 0 := by rw [hV1, zs_z, upd_ne _ _ (by omega), hz]
    have e74 : zz V4 7 = nI (tN z) := by rw [hV4, zs_z, upd_ne _ _ (by omega), hV3, zs_z, upd_ne _ _ (by omega), hV2, zs_z, upd_ne _ _ (by omega), hV1, zs_z, upd_ne _ _ (by omega), hz, e7]
    have e75 : zz V5 7 = nI (tN z) := by rw [hV5, zs_z, upd_ne _ _ (by omega), e74]
    have eC : zC (zz V6) c 3 = zC z c 3 := by rw [hV6, zs_z, zC_ne _ (by omega), hV5, zs_z, zC_ne _ (by omega), hV4, zs_z, zC_ne _ (by omega), hV3, zs_z, zC_ne _ (by omega), hV2, zs_z, zC_ne _ (by omega), hV1, zs_z, zC_ne _ (by omega), hz]
    have a7 : ∀ (V : xWt) (f : Int32 → Option (Unit × xWt)), ald V 9 0 7 f = f (zz V 7) := fun V f => m_z (i := 7) (by decide)
    unfold F_X8_doTake F_X8_putOnHeap
    rw [m_br hb, hz, hbr, ixB, show ∀ f : xWt → Option (Int32 × xWt), ast wr 9 0 (nI (10 + b)) (-1) f = f V1 from fun f => by rw [hV1]; exact m_zs (by omega), m_z0, e0, show F_X8_setLeaf (nI l) 3 (z 0) V1 = some ((), V2) from by rw [hV2]; exact m_setL (by omega) (k := 3) (by omega) _, bd_s, show F_X8_setLeaf (nI l) 1 1 V2 = some ((), V3) from by rw [hV3]; exact m_setL (by omega) (k := 1) (by omega) _, bd_s, show F_X8_setLeaf (nI l) 4 (nI c) V3 = some ((), V4) from by rw [hV4]; exact m_setL (by omega) (k := 4) (by omega) _, bd_s, a7, e74, show F_X8_setLeaf (nI l) 5 (nI (tN z)) V4 = some ((), V5) from by rw [hV5]; exact m_setL (by omega) (k := 5) (by omega) _, bd_s, a7, e75, nI_1, show ∀ f : xWt → Option (Unit × xWt), ast V5 9 0 7 (nI (tN z + 1)) f = f V6 from fun f => by rw [hV6]; exact m_zs (i := 7) (by omega), bd_s, m_ofC3 hc, bd_s, eC, show F_X8_setChild (nI c) 3 (zC z c 3 + 1) V6 = some ((), V7) from by rw [hV7]; exact m_setC hc (k := 3) (by omega) _, bd_s]
    rfl
  obtain ⟨v, wq, wE, b1, b2, b3, b4, b5, b6, b7, b8⟩ := d_tail hWA hYA hc htA V7 rfl
  exact ⟨v, wq, wE, by rw [hPA]; exact b1, dPA.trans b2, by rw [hMA]; exact b3, dMA.trans b4, b5, b6, b7.trans hAZ.g, b8⟩
end TK

