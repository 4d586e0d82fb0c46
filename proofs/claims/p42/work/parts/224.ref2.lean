/-! the reference's steps: rake, take, swap, come, leave -/
def RK (z : Nat → Int32) (c : Nat) (z' : Nat → Int32) : Prop := (∀ l, l < 120 → zL z' l 1 = if l < gN z ∧ bnB z c l = true then 2 else zL z l 1) ∧ (∀ i, (∀ l, l < 120 → i ≠ 22 + 6 * l + 1) → i ≠ 2 → i ≠ 3 → i ≠ 742 + 15 * c + 4 → i ≠ 742 + 15 * c + 5 → z' i = z i) ∧ z' 2 = z 2 + 1 ∧ z' 3 = z 3 + (if z 9 = 0 then 3 * nI (cn (ch z) 5) else 0) ∧ zC z' c 4 = zC z c 4 + nI (cn (bnB z c) (gN z)) ∧ zC z' c 5 = zC z c 5 + 1
def MO (z z' : Nat → Int32) : Prop := z' = upd z 6 (if nI (asN z) ≤ z 6 then z 6 else nI (asN z))
def TK (z : Nat → Int32) (b c l : Nat) (v : Int32) (z' : Nat → Int32) : Prop := ∃ z1, AZ z b c l z1 ∧ ((nI (hN z1 c) < z1 8 ∧ v = 0 ∧ MO z1 z') ∨ (¬ nI (hN z1 c) < z1 8 ∧ v = nI (cn (bnB z1 c) (gN z1)) ∧ ∃ z2, RK z1 c z2 ∧ MO z2 z'))
def CZ (z : Nat → Int32) (c : Nat) (z' : Nat → Int32) : Prop := (∀ k, k < 6 → zC z' c k = if k = 0 then 1 else if k = 2 then -1 else 0) ∧ (∀ h, h < 3 → zH z' c h 0 = 0 ∧ zH z' c h 1 = -1 ∧ zH z' c h 2 = -1) ∧ chO z z' c
def LZ (z : Nat → Int32) (c e : Nat) (hl : List Nat) (z' : Nat → Int32) : Prop := MZ z e hl hl.length z' ∧ (∀ k, k < 6 → zC z' c k = if k = 2 then -1 else 0) ∧ (∀ h, h < 3 → zH z' c h 0 = 0 ∧ zH z' c h 1 = -1 ∧ zH z' c h 2 = -1) ∧ ∀ d, d < 5 → d ≠ c → ∀ k, k < 15 → zC z' d k = zC z d k
section RF2
variable {z : Nat → Int32} {wr w : xWt} {B T c e h b l : Nat} {hl : List Nat}
theorem e_rake (hW : WF z B T) (hz : zz wr = z) (hc : c < 5) (ht : zC z c 0 = 1) : ∃ wE, F_X8_doRake (nI c) wr = some (nI (cn (bnB z c) (gN z)), wE) ∧ RK z c (zz wE) := by
  obtain ⟨wb, eb, db, hz1⟩ := m_rakeL (c := c) hW hz
  have hW1 := hW.burn hz1
  have ht1 : zC (zz wb) c 0 = 1 := by rw [hz1.C]; exact ht
  obtain ⟨t, htd⟩ : ∃ t, t = if zz wb 9 = 0 then zz wb 3 + 3 * nI (cn (ch (zz wb)) 5) else zz wb 3 + 0 := ⟨_, rfl⟩
  obtain ⟨v4, hv4⟩ : ∃ v4, v4 = zs (zs (zs (zs wb 2 (zz wb 2 + 1)) 3 t) (742 + 15 * c + 5) (zC (zz wb) c 5 + 1)) (742 + 15 * c + 4) (zC (zz wb) c 4 + nI (cn (bnB z c) (gN z))) := ⟨_, rfl⟩
  have z4 : zz v4 = upd (upd (upd (upd (zz wb) 2 (zz wb 2 + 1)) 3 t) (742 + 15 * c + 5) (zC (zz wb) c 5 + 1)) (742 + 15 * c + 4) (zC (zz wb) c 4 + nI (cn (bnB z c) (gN z))) := by
    rw [hv4, zs_z, zs_z, zs_z, zs_z]
  have hG : ∀ i, i < 22 → zz wb i = z i := fun i hi => hz1.2 i (fun l hl => by omega)
  have hCB : ∀ d k, zC (zz wb) d k = zC z d k := fun d k => hz1.C d k
  have hcb : cn (ch (zz wb)) 5 = cn (ch z) 5 := cn_congr fun d hd => by unfold ch; rw [hCB]
  refine ⟨v4, ?_, fun l hl => ?_, fun i h1 h2 h3 h4 h5 => ?_, ?_, ?_, ?_, ?_⟩
  · unfold F_X8_doRake
    rw [eb, bd_s]
    dsimp only
    rw [show ∀ f : Int32 → Option (Int32 × xWt), ald wb 9 0 2 f = f (zz wb 2) from fun f => m_z (i := 2) (by decide), show ∀ f : xWt → Option (Int32 × xWt), ast wb 9 0 2 (zz wb 2 + 1) f = f (zs wb 2 (zz wb 2 + 1)) from fun f => m_zs (i := 2) (by decide)]
    obtain ⟨v1, hv1⟩ : ∃ v1, v1 = zs wb 2 (zz wb 2 + 1) := ⟨_, rfl⟩
    rw [← hv1]
    have z1' : zz v1 = upd (zz wb) 2 (zz wb 2 + 1) := by rw [hv1, zs_z]
    have hch : ∀ d k, zC (zz v1) d k = zC (zz wb) d k := fun d k => by rw [z1', zC_ne _ (by omega)]
    have hcn : cn (ch (zz v1)) 5 = cn (ch (zz wb)) 5 := cn_congr fun d hd => by unfold ch; rw [hch]
    rw [show ∀ f : Int32 → Option (Int32 × xWt), ald v1 9 0 3 f = f (zz v1 3) from fun f => m_z (i := 3) (by decide), m_z9, show zz v1 3 = zz wb 3 from by rw [z1', upd_ne _ _ (by omega)], show zz v1 9 = zz wb 9 from by rw [z1', upd_ne _ _ (by omega)]]
    have tail : ∀ v2, v2 = zs v1 3 t → bd (F_X8_ofChild (nI c) 5 v2) (fun x28 w27 => bd (F_X8_setChild (nI c) 5 (x28 + 1) w27) (fun _ w29 => bd (F_X8_ofChild (nI c) 4 w29) (fun x31 w30 => bd (F_X8_setChild (nI c) 4 (x31 + nI (cn (bnB z c) (gN z))) w30) (fun _ w32 => some (nI (cn (bnB z c) (gN z)), w32))))) = some (nI (cn (bnB z c) (gN z)), v4) := fun v2 hv2 => by
      have e5 : zC (zz v2) c 5 = zC (zz wb) c 5 := by rw [hv2, zs_z, zC_ne _ (by omega), hch]
      have e4 : zC (zz (zs v2 (742 + 15 * c + 5) (zC (zz wb) c 5 + 1))) c 4 = zC (zz wb) c 4 := by rw [zs_z, zC_ne _ (by omega), hv2, zs_z, zC_ne _ (by omega), hch]
      rw [m_ofC5 hc, bd_s, e5, show F_X8_setChild (nI c) 5 (zC (zz wb) c 5 + 1) v2 = some ((), zs v2 (742 + 15 * c + 5) (zC (zz wb) c 5 + 1)) from m_setC hc (k := 5) (by omega) _, bd_s, m_ofC4 hc, bd_s, e4, show F_X8_setChild (nI c) 4 (zC (zz wb) c 4 + nI (cn (bnB z c) (gN z))) (zs v2 (742 + 15 * c + 5) (zC (zz wb) c 5 + 1)) = some ((), v4) from by rw [hv4, ← hv1, ← hv2]; exact m_setC hc (k := 4) (by omega) _, bd_s]
    by_cases q : zz wb 9 = 0
    · rw [if_pos q] at htd
      rw [if_pos q, m_children (fun d hd => by rw [hch]; exact hW1.th hd), bd_s, hcn, ← htd, show ∀ f : xWt → Option (Int32 × xWt), ast v1 9 0 3 t f = f (zs v1 3 t) from fun f => m_zs (i := 3) (by decide)]
      exact tail _ rfl
    · rw [if_neg q] at htd
      rw [if_neg q, ← htd, show ∀ f : xWt → Option (Int32 × xWt), ast v1 9 0 3 t f = f (zs v1 3 t) from fun f => m_zs (i := 3) (by decide)]
      exact tail _ rfl
  · rw [z4, zL_ne _ (by omega), zL_ne _ (by omega), zL_ne _ (by omega), zL_ne _ (by omega)]
    exact hz1.1 l hl
  · rw [z4, upd_ne _ _ h4, upd_ne _ _ h5, upd_ne _ _ h3, upd_ne _ _ h2]
    exact hz1.2 i h1
  · rw [z4, upd_ne _ _ (by omega), upd_ne _ _ (by omega), upd_ne _ _ (by omega), upd_eq, hG 2 (by omega)]
  · rw [z4, upd_ne _ _ (by omega), upd_ne _ _ (by omega), upd_eq, htd, hG 9 (by omega), hG 3 (by omega), hcb]
    split <;> rfl
  · rw [z4, zC_eq, hCB]
  · rw [z4, zC_ne _ (by omega), zC_eq, hCB]
theorem e_mo (hW : WF z B T) (hz : zz wr = z) (v : Int32) : ∃ wE, moM v wr = some (v, wE) ∧ MO z (zz wE) := by
  have z6 : ∀ f : Int32 → Option (Int32 × xWt), ald wr 9 0 6 f = f (zz wr 6) := fun f => m_z (i := 6) (by decide)
  refine ⟨zs wr 6 (if nI (asN z) ≤ z 6 then z 6 else nI (asN z)), ?_, by unfold MO; rw [zs_z, hz]⟩
  unfold moM
  rw [m_leavesAt (g := gN z) (by rw [hz]; exact hW.g) hW.g120, bd_s, z6, hz]
  show (if nI (asN z) ≤ z 6 then _ else _) = _
  by_cases q : nI (asN z) ≤ z 6
  · rw [if_pos q, if_pos q, z6, hz]
    exact m_zs (i := 6) (by decide)
  · rw [if_neg q, if_neg q]
    exact m_zs (i := 6) (by decide)
theorem RK.W (hW : WF z B T) (hY : YR 0 z w) (hc : c < 5) (ht : zC z c 0 = 1) (hz : zz wr = z) {wE : xWt} (h : F_X8_doRake (nI c) wr = some (nI (cn (bnB z c) (gN z)), wE)) : WF (zz wE) B T := by
  obtain ⟨v, wq, wE', -, -, a3, -, -, a6, -, -⟩ := d_clear hW hY hc ht wr hz
  have e := a3.symm.trans h
  cases e
  exact a6
theorem e_tail (hW : WF z B T) (hY : YR 0 z w) (hz : zz wr = z) (hc : c < 5) (ht : zC z c 0 = 1) : ∃ v wE, tkM c wr = some (v, wE) ∧ ((nI (hN z c) < z 8 ∧ v = 0 ∧ MO z (zz wE)) ∨ (¬ nI (hN z c) < z 8 ∧ v = nI (cn (bnB z c) (gN z)) ∧ ∃ z2, RK z c z2 ∧ MO z2 (zz wE))) := by
  have h120 := hW.g120
  have hM : tkM c wr = if nI (hN z c) < z 8 then moM 0 wr else bd (F_X8_doRake (nI c) wr) moM := by
    unfold tkM
    rw [m_heapOf (g := gN z) (by rw [hz]; exact hW.g) h120, bd_s, m_z8, hz]
    rfl
  by_cases q : nI (hN z c) < z 8
  · obtain ⟨wE, e1, e2⟩ := e_mo hW hz 0
    exact ⟨0, wE, by rw [hM, if_pos q]; exact e1, Or.inl ⟨q, rfl, e2⟩⟩
  · obtain ⟨wb, e1, e2⟩ := e_rake hW hz hc ht
    obtain ⟨wE, e3, e4⟩ := e_mo (RK.W hW hY hc ht hz e1) rfl (nI (cn (bnB z c) (gN z)))
    exact ⟨_, wE, by rw [hM, if_neg q, e1, bd_s]; exact e3, Or.inr ⟨q, rfl, zz wb, e2, e4⟩⟩
theorem e_take (hW : WF z B T) (hY : YR 0 z w) (hz : zz wr = z) (hT : T < 2 ^ 30) (hc : c < 5) (ht : zC z c 0 = 1) (hb : b < 12) (hl : l < gN z) (hbr : z (10 + b) = nI l) : ∃ v wE, F_X8_doTake (nI c) (nI b) wr = some (v, wE) ∧ TK z b c l v (zz wE) := by
  have h120 := hW.g120
  obtain ⟨l1, l2⟩ : zL z l 1 = 0 ∧ zL z l 2 = nI b := by
    rcases hW.b b hb with q | ⟨l', q1, q2, q3, q4⟩
    · rw [hbr] at q
      exact absurd q (nI_m1 (by omega))
    · have e : l = l' := nI_inj (by omega) (by omega) (hbr.symm.trans q2)
      rw [e]; exact ⟨q3, q4⟩
  obtain ⟨hp, q1, q2, q3, q4⟩ := p_heap hW hY hc
  have q3' : w.1 0 11 c = nI hp.length := by
    rw [g_5 hc rfl] at q3; exact q3
  have e7 : z 7 = nI (tN z) := hW.s.2.2.2.2.1
  obtain ⟨y1, y2, y3, y4, y5⟩ := hY.l l hl
  obtain ⟨V1, hV1⟩ : ∃ V, V = zs wr (10 + b) (-1) := ⟨_, rfl⟩
  obtain ⟨V2, hV2⟩ : ∃ V, V = zs V1 (22 + 6 * l + 3) (z 0) := ⟨_, rfl⟩
  obtain ⟨V3, hV3⟩ : ∃ V, V = zs V2 (22 + 6 * l + 1) 1 := ⟨_, rfl⟩
  obtain ⟨V4, hV4⟩ : ∃ V, V = zs V3 (22 + 6 * l + 4) (nI c) := ⟨_, rfl⟩
  obtain ⟨V5, hV5⟩ : ∃ V, V = zs V4 (22 + 6 * l + 5) (nI (tN z)) := ⟨_, rfl⟩
  obtain ⟨V6, hV6⟩ : ∃ V, V = zs V5 7 (nI (tN z + 1)) := ⟨_, rfl⟩
  obtain ⟨V7, hV7⟩ : ∃ V, V = zs V6 (742 + 15 * c + 3) (zC z c 3 + 1) := ⟨_, rfl⟩
  have zE : zz V7 = upd (upd (upd (upd (upd (upd (upd z (10 + b) (-1)) (22 + 6 * l + 3) (z 0)) (22 + 6 * l + 1) 1) (22 + 6 * l + 4) (nI c)) (22 + 6 * l + 5) (nI (tN z))) 7 (nI (tN z + 1))) (742 + 15 * c + 3) (zC z c 3 + 1) := by
    rw [hV7, zs_z, hV6, zs_z, hV5, zs_z, hV4, zs_z, hV3, zs_z, hV2, zs_z, hV1, zs_z, hz]
  have hAZ : AZ z b c l (zz V7) := by
    refine ⟨fun i h1 h2 h3 h4 h5 h6 h7 => ?_, ?_, ?_, ?_, ?_, ?_, ?_, ?_⟩
    · rw [zE, upd_ne _ _ h7, upd_ne _ _ h2, upd_ne _ _ h6, upd_ne _ _ h5, upd_ne _ _ h3, upd_ne _ _ h4, upd_ne _ _ h1]
    · rw [zE, upd_ne _ _ (by omega), upd_ne _ _ (by omega), upd_ne _ _ (by omega), upd_ne _ _ (by omega), upd_ne _ _ (by omega), upd_ne _ _ (by omega), upd_eq]
    · rw [zE, upd_ne _ _ (by omega), upd_eq]
    · rw [zE, zL_ne _ (by omega), zL_ne _ (by omega), zL_ne _ (by omega), zL_ne _ (by omega), zL_eq]
    · rw [zE, zL_ne _ (by omega), zL_ne _ (by omega), zL_ne _ (by omega), zL_ne _ (by omega), zL_ne _ (by omega), zL_eq]
    · rw [zE, zL_ne _ (by omega), zL_ne _ (by omega), zL_ne _ (by omega), zL_eq]
    · rw [zE, zL_ne _ (by omega), zL_ne _ (by omega), zL_eq]
    · rw [zE, zC_eq]
  obtain ⟨W1, hW1⟩ : ∃ W, W = sRow (sRow (sRow (sRow (sRow (sRow (sRow w 0 0 (upd (w.1 0 0) b (-1))) 0 2 (upd (w.1 0 2) l 1)) 0 4 (upd (w.1 0 4) l (z 0))) 0 5 (upd (w.1 0 5) l (nI c))) 0 12 (upd (w.1 0 12) (120 * c + hp.length) (nI l))) 0 11 (upd (w.1 0 11) c (nI (hp.length + 1)))) 0 8 (upd (w.1 0 8) c (w.1 0 8 c + 1)) := ⟨_, rfl⟩
  have hYA : YR 0 (zz V7) W1 := by
    refine hY.aside hW hAZ hT hc ht hb hl l1 q1 q3' q4 ?_ ?_ ?_ ?_ ?_ ?_ ?_ (fun r h0 h2 h4 h5 h8 h11 h12 => ?_) (fun j => ?_)
    · rw [hW1]; rfl
    · rw [hW1]; rfl
    · rw [hW1]; rfl
    · rw [hW1]; rfl
    · rw [hW1]; rfl
    · rw [hW1]; rfl
    · rw [hW1]; rfl
    · rw [hW1, sRow_ne _ _ (by omega), sRow_ne _ _ (by omega), sRow_ne _ _ (by omega), sRow_ne _ _ (by omega), sRow_ne _ _ (by omega), sRow_ne _ _ (by omega), sRow_ne _ _ (by omega)]
    · rw [hW1]; rfl
  have hWA : WF (zz V7) B (T + 1) := hW.aside hAZ hT hc ht hb hl l2
  have htA : zC (zz V7) c 0 = 1 := by rw [hAZ.C hb (by omega) (by omega) (Or.inr (by omega))]; exact ht
  have hMA : F_X8_doTake (nI c) (nI b) wr = tkM c V7 := by
    have e0 : zz V1 0 = z 0 := by rw [hV1, zs_z, upd_ne _ _ (by omega), hz]
    have e74 : zz V4 7 = nI (tN z) := by rw [hV4, zs_z, upd_ne _ _ (by omega), hV3, zs_z, upd_ne _ _ (by omega), hV2, zs_z, upd_ne _ _ (by omega), hV1, zs_z, upd_ne _ _ (by omega), hz, e7]
    have e75 : zz V5 7 = nI (tN z) := by rw [hV5, zs_z, upd_ne _ _ (by omega), e74]
    have eC : zC (zz V6) c 3 = zC z c 3 := by rw [hV6, zs_z, zC_ne _ (by omega), hV5, zs_z, zC_ne _ (by omega), hV4, zs_z, zC_ne _ (by omega), hV3, zs_z, zC_ne _ (by omega), hV2, zs_z, zC_ne _ (by omega), hV1, zs_z, zC_ne _ (by omega), hz]
    have a7 : ∀ (V : xWt) (f : Int32 → Option (Unit × xWt)), ald V 9 0 7 f = f (zz V 7) := fun V f => m_z (i := 7) (by decide)
    unfold F_X8_doTake F_X8_putOnHeap
    rw [m_br hb, hz, hbr, ixB, show ∀ f : xWt → Option (Int32 × xWt), ast wr 9 0 (nI (10 + b)) (-1) f = f V1 from fun f => by rw [hV1]; exact m_zs (by omega), m_z0, e0, show F_X8_setLeaf (nI l) 3 (z 0) V1 = some ((), V2) from by rw [hV2]; exact m_setL (by omega) (k := 3) (by omega) _, bd_s, show F_X8_setLeaf (nI l) 1 1 V2 = some ((), V3) from by rw [hV3]; exact m_setL (by omega) (k := 1) (by omega) _, bd_s, show F_X8_setLeaf (nI l) 4 (nI c) V3 = some ((), V4) from by rw [hV4]; exact m_setL (by omega) (k := 4) (by omega) _, bd_s, a7, e74, show F_X8_setLeaf (nI l) 5 (nI (tN z)) V4 = some ((), V5) from by rw [hV5]; exact m_setL (by omega) (k := 5) (by omega) _, bd_s, a7, e75, nI_1, show ∀ f : xWt → Option (Unit × xWt), ast V5 9 0 7 (nI (tN z + 1)) f = f V6 from fun f => by rw [hV6]; exact m_zs (i := 7) (by omega), bd_s, m_ofC3 hc, bd_s, eC, show F_X8_setChild (nI c) 3 (zC z c 3 + 1) V6 = some ((), V7) from by rw [hV7]; exact m_setC hc (k := 3) (by omega) _, bd_s]
    rfl
  obtain ⟨v, wE, t1, t2⟩ := e_tail hWA hYA rfl hc htA
  exact ⟨v, wE, by rw [hMA]; exact t1, zz V7, hAZ, t2⟩
theorem e_come (hz : zz wr = z) (hc : c < 5) (h0 : zC z c 0 ≠ 1) (hl : ∀ d, d < c → zC z d 0 = 1) : ∃ wE, bd (L_X8_come_32 9999 0 wr) (fun o8 w9 => bd (F_X8_clearChild o8 w9) (fun _ w10 => bd (F_X8_setChild o8 0 1 w10) (fun _ w11 => some (o8, w11)))) = some (nI c, wE) ∧ CZ z c (zz wE) := by
  obtain ⟨wa, ea, da, k1, k2, k3⟩ := m_clearChild (w := wr) hc
  have zE : zz (zs wa (742 + 15 * c + 0) 1) = upd (zz wa) (742 + 15 * c + 0) 1 := zs_z _ _ _
  refine ⟨zs wa (742 + 15 * c + 0) 1, ?_, fun k hk => ?_, fun h hh => ?_, fun i hi => ?_, fun d hd hne k hk => ?_⟩
  · rw [m_comeL hc (by rw [hz]; exact h0) (fun d hd => by rw [hz]; exact hl d hd), bd_s, ea, bd_s, show F_X8_setChild (nI c) 0 1 wa = some ((), zs wa (742 + 15 * c + 0) 1) from m_setC hc (k := 0) (by omega) _, bd_s]
  · rw [zE]
    by_cases e : k = 0
    · rw [e, zC_eq, if_pos rfl]
    · rw [zC_ne _ (by omega), k1 k hk, if_neg e]
  · rw [zE, zH_ne _ (by omega), zH_ne _ (by omega), zH_ne _ (by omega)]
    exact k2 h hh
  · rw [zE, upd_ne _ _ (by omega), k3 i (by omega), hz]
  · rw [zE, zC_ne _ (by omega)]
    unfold zC
    rw [k3 _ (by omega), hz]
theorem e_leave (hW : WF z B T) (hz : zz wr = z) (hT : T < 2 ^ 30) (hc : c < 5) (he : e < 5) (hne : e ≠ c) (hte : zC z e 0 = 1) (hl0 : ∀ d, d < e → d = c ∨ zC z d 0 ≠ 1) (q1 : HL z c hl) : ∃ wE, bd (F_X8_clearChild (nI c) wr) (fun _ w7 => bd (L_X8_leave_49 9999 (nI c) 0 w7) (fun o11 w12 => bd (F_X8_onHeap (nI c) 0 w12) (fun x14 w13 => bd (L_X8_leave_74 9999 (nI c) o11 0 x14 w13) (fun o19 w20 => some (o19.1, w20))))) = some (nI hl.length, wE) ∧ LZ z c e hl (zz wE) := by
  have h120 := hW.g120
  have htN := hW.s.2.2.2.2.2.1
  obtain ⟨wa, ea, da, k1, k2, k3⟩ := m_clearChild (w := wr) hc
  have hb : ∀ i, i < 742 → zz wa i = z i := fun i hi => by rw [k3 i (by omega), hz]
  have hoa : ∀ d, d < 5 → d ≠ c → ∀ k, k < 15 → zC (zz wa) d k = zC z d k := fun d hd hn k hk => by
    unfold zC
    rw [k3 _ (by omega), hz]
  obtain ⟨wb, eb, db, mz, mo⟩ := m_leaveL hW hT hc he hne q1 hb
  have hTt : ∀ l, l ∈ hl → zL (zz wa) l 5 = nI (tu (zz wa) l) ∧ tu (zz wa) l < 2 ^ 31 := fun l hm => by
    obtain ⟨x1, x2⟩ := (q1.1 l).mp hm
    obtain ⟨t, y1, y2⟩ := hW.turn x1 (oB_iff.mp x2).1
    have q5 : zL (zz wa) l 5 = nI t := by rw [← y2]; exact hb _ (by omega)
    unfold tu
    rw [q5, nI_clamp (by omega)]
    exact ⟨rfl, by omega⟩
  have hga : gN (zz wa) = gN z := by unfold gN; rw [hb 1 (by omega)]
  have hHa : HL (zz wa) c hl := by
    refine ⟨fun x => ?_, ?_⟩
    · rw [q1.1 x, hga]
      refine and_congr_right fun hlt => ?_
      rw [oB_iff, oB_iff, show zL (zz wa) x 1 = zL z x 1 from hb _ (by omega), show zL (zz wa) x 4 = zL z x 4 from hb _ (by omega)]
    · refine List.Pairwise.imp_of_mem (fun {x y} hx hy q => ?_) q1.2
      have hx' := ((q1.1 x).mp hx).1
      have hy' := ((q1.1 y).mp hy).1
      unfold tu at q ⊢
      rw [show zL (zz wa) x 5 = zL z x 5 from hb _ (by omega), show zL (zz wa) y 5 = zL z y 5 from hb _ (by omega)]
      exact q
  refine ⟨wb, ?_, mz, fun k hk => ?_, fun h hh => ?_, fun d hd hn k hk => ?_⟩
  · rw [ea, bd_s, m_heirL he (by rw [hoa e he hne 0 (by omega), hte]; decide) (fun d hd => by
      by_cases q : d = c
      · rw [q, k1 0 (by omega)]; rfl
      · rw [hoa d (by omega) q 0 (by omega)]
        rcases hW.th (c := d) (by omega) with r | r
        · exact r
        · exact absurd r ((hl0 d hd).resolve_left q)), bd_s, m_onHeap hc (by rw [hga, hb 1 (by omega)]; exact hW.g) (by rw [hga]; exact h120) hHa hTt, bd_s, eb, bd_s]
  · rw [← k1 k hk]
    exact mo _ (by omega)
  · have e0 : ∀ k, zH (zz wb) c h k = zH (zz wa) c h k := fun k => mo _ (by omega)
    rw [e0, e0, e0]
    exact k2 h hh
  · rw [← hoa d hd hn k hk]
    exact mo _ (by omega)
end RF2
