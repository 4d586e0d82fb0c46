/-! the reference's steps, by what they write -/
/-- the hooks of child c are emptied -/
def RZ (z : Nat → Int32) (c : Nat) (z' : Nat → Int32) : Prop := (∀ h, h < 3 → zH z' c h 0 = 0 ∧ zH z' c h 1 = -1 ∧ zH z' c h 2 = -1) ∧ zC z' c 1 = 0 ∧ zC z' c 2 = -1 ∧ ∀ i, ¬ (743 + 15 * c ≤ i ∧ i ≤ 744 + 15 * c) → (i < 748 + 15 * c ∨ 757 + 15 * c ≤ i) → z' i = z i
/-- hook h of child c is written -/
def KZ (z : Nat → Int32) (c h : Nat) (a b d : Int32) (z' : Nat → Int32) : Prop := zH z' c h 0 = a ∧ zH z' c h 1 = b ∧ zH z' c h 2 = d ∧ ∀ i, (i < 748 + 15 * c + 3 * h ∨ 751 + 15 * c + 3 * h ≤ i) → z' i = z i
/-- a leaf grows on branch b -/
def GZ (z : Nat → Int32) (b : Nat) (a : Int32) (z' : Nat → Int32) : Prop := (∀ i, i ≠ 1 → i ≠ 10 + b → (i < 22 + 6 * gN z ∨ 26 + 6 * gN z ≤ i) → z' i = z i) ∧ z' 1 = nI (gN z + 1) ∧ z' (10 + b) = nI (gN z) ∧ zL z' (gN z) 0 = a ∧ zL z' (gN z) 1 = 0 ∧ zL z' (gN z) 2 = nI b ∧ zL z' (gN z) 3 = -1
section RF
variable {z : Nat → Int32} {wr w : xWt} {B T c h b l : Nat}
theorem kz_KZ (hz : zz wr = z) (c h : Nat) (a b d : Int32) : KZ z c h a b d (zz (kz wr c h a b d)) := ⟨kz_0 _ _ _ _ _ _, kz_1 _ _ _ _ _ _, kz_2 _ _ _ _ _ _, fun i hi => by rw [kz_o _ _ _ _ _ _ hi, hz]⟩
theorem e_ring (hz : zz wr = z) : F_X8_doRing wr = some (z 0 + 1, zs wr 0 (z 0 + 1)) := by
  have hz' : zz (zs wr 0 (z 0 + 1)) = upd z 0 (z 0 + 1) := by rw [zs_z, hz]
  unfold F_X8_doRing
  rw [m_z0, hz, show ast wr 9 0 0 (z 0 + 1) = fun f : xWt → Option (Int32 × xWt) => f (zs wr 0 (z 0 + 1)) from funext fun f => m_zs (i := 0) (by omega)]
  dsimp only
  rw [m_z0, hz', upd_eq]
theorem e_enter (hz : zz wr = z) (hc : c < 5) : F_X8_doEnter (nI c) wr = some (z 0, zs (zs wr (742 + 15 * c + 1) 1) (742 + 15 * c + 2) (z 0)) := by
  have hz1 : zz (zs wr (742 + 15 * c + 1) 1) = upd z (742 + 15 * c + 1) 1 := by rw [zs_z, hz]
  have hz' : zz (zs (zs wr (742 + 15 * c + 1) 1) (742 + 15 * c + 2) (z 0)) = upd (upd z (742 + 15 * c + 1) 1) (742 + 15 * c + 2) (z 0) := by rw [zs_z, hz1]
  unfold F_X8_doEnter
  rw [show F_X8_setChild (nI c) 1 1 wr = some ((), zs wr (742 + 15 * c + 1) 1) from m_setC hc (k := 1) (by omega) 1, bd_s, m_z0, hz1, upd_ne _ _ (by omega), show F_X8_setChild (nI c) 2 (z 0) (zs wr (742 + 15 * c + 1) 1) = some ((), zs (zs wr (742 + 15 * c + 1) 1) (742 + 15 * c + 2) (z 0)) from m_setC hc (k := 2) (by omega) (z 0), bd_s, m_z0, hz', upd_ne _ _ (by omega), upd_ne _ _ (by omega)]
theorem e_rest (hz : zz wr = z) (hc : c < 5) : ∃ wE, F_X8_doRest (nI c) wr = some (nI (cn (fun h => zH z c h 0 == 2) 3), wE) ∧ RZ z c (zz wE) := by
  obtain ⟨wE, e, -, k1, k2⟩ := m_emptyHooks (w := zs (zs wr (742 + 15 * c + 1) 0) (742 + 15 * c + 2) (-1)) hc
  have z1 : zz (zs (zs wr (742 + 15 * c + 1) 0) (742 + 15 * c + 2) (-1)) = upd (upd z (742 + 15 * c + 1) 0) (742 + 15 * c + 2) (-1) := by rw [zs_z, zs_z, hz]
  refine ⟨wE, ?_, k1, ?_, ?_, fun i h1 h2 => ?_⟩
  · unfold F_X8_doRest
    rw [m_hooksOf hc, bd_s, hz, show F_X8_setChild (nI c) 1 0 wr = some ((), zs wr (742 + 15 * c + 1) 0) from m_setC hc (k := 1) (by omega) 0, bd_s, show F_X8_setChild (nI c) 2 (-1) (zs wr (742 + 15 * c + 1) 0) = some ((), zs (zs wr (742 + 15 * c + 1) 0) (742 + 15 * c + 2) (-1)) from m_setC hc (k := 2) (by omega) (-1), bd_s, e, bd_s]
  · unfold zC
    rw [k2 _ (by omega), z1, upd_ne _ _ (by omega), upd_eq]
  · unfold zC
    rw [k2 _ (by omega), z1, upd_eq]
  · rw [k2 i (by omega), z1, upd_ne _ _ (by omega), upd_ne _ _ (by omega)]
theorem e_set0 (hz : zz wr = z) (s : Int32) : ald wr 9 0 (8 + 0) (fun x => ast wr 9 0 (8 + 0) s (fun w5 => some (x, w5))) = some (z 8, zs wr 8 s) := by
  show ald wr 9 0 8 (fun x => ast wr 9 0 8 s (fun w5 => some (x, w5))) = _
  rw [m_z8, hz]
  exact m_zs (i := 8) (by omega)
theorem e_set1 (hz : zz wr = z) (s : Int32) : ald wr 9 0 (8 + 1) (fun x => ast wr 9 0 (8 + 1) s (fun w5 => some (x, w5))) = some (z 9, zs wr 9 s) := by
  show ald wr 9 0 9 (fun x => ast wr 9 0 9 s (fun w5 => some (x, w5))) = _
  rw [m_z9, hz]
  exact m_zs (i := 9) (by omega)
theorem e_note (hz : zz wr = z) (hc : c < 5) (hh : h < 3) (hb : b < 12) (hbr : z (10 + b) = nI l) : F_X8_doNote (nI c) (nI h) (nI b) wr = some (nI l, kz wr c h 1 (nI l) (nI b)) := by
  have ho := kz_ho (c := c) (h := h) wr hz 1 (nI l) (nI b)
  unfold F_X8_doNote
  rw [m_br hb, hz, hbr, m_setHook hc hh, bd_s, m_br hb, ho (10 + b) (by omega), hbr]
theorem e_loosen (hz : zz wr = z) (hc : c < 5) (hh : h < 3) : F_X8_doLoosen (nI c) (nI h) wr = some (zH z c h 1, kz wr c h 0 (-1) (-1)) := by
  unfold F_X8_doLoosen
  rw [m_ofH1 hc hh, bd_s, hz, m_setHook hc hh, bd_s]
theorem e_pin1 (hz : zz wr = z) (hc : c < 5) (hh : h < 3) (hb : b < 12) (e1 : zH z c h 1 = nI l) (e2 : zH z c h 2 = nI b) (hs : z (10 + b) = nI l) : F_X8_doPin (nI c) (nI h) wr = some (1, kz wr c h 2 (nI l) (-1)) := by
  unfold F_X8_doPin
  rw [m_ofH1 hc hh, bd_s, m_ofH2 hc hh, bd_s, hz, e1, e2, m_br hb, hz, hs, if_pos rfl, m_setHook hc hh, bd_s]
theorem e_pin0 (hz : zz wr = z) (hc : c < 5) (hh : h < 3) (hb : b < 12) (e1 : zH z c h 1 = nI l) (e2 : zH z c h 2 = nI b) (hs : z (10 + b) ≠ nI l) : F_X8_doPin (nI c) (nI h) wr = some (0, zs (kz wr c h 0 (-1) (-1)) 4 (z 4 + 1)) := by
  have e4 : zz (kz wr c h 0 (-1) (-1)) 4 = z 4 := kz_ho wr hz 0 (-1) (-1) 4 (by omega)
  unfold F_X8_doPin
  rw [m_ofH1 hc hh, bd_s, m_ofH2 hc hh, bd_s, hz, e1, e2, m_br hb, hz, if_neg hs, m_setHook hc hh, bd_s, show ∀ f : Int32 → Option (Int32 × xWt), ald (kz wr c h 0 (-1) (-1)) 9 0 4 f = f (zz (kz wr c h 0 (-1) (-1)) 4) from fun f => m_z (i := 4) (by decide), e4]
  exact m_zs (i := 4) (by decide)
theorem e_grow (hW : WF z B T) (hz : zz wr = z) (hb : b < 12) (hg : gN z < 120) (a : Int32) : ∃ wE, F_X8_doGrow (nI b) a wr = some (nI (gN z), wE) ∧ GZ z b a (zz wE) := by
  have hz1 : zz wr 1 = nI (gN z) := by rw [hz]; exact hW.g
  obtain ⟨W1, hW1⟩ : ∃ W1, W1 = zs wr 1 (nI (gN z + 1)) := ⟨_, rfl⟩
  obtain ⟨W2, hW2⟩ : ∃ W2, W2 = zs W1 (10 + b) (nI (gN z)) := ⟨_, rfl⟩
  obtain ⟨W3, hW3⟩ : ∃ W3, W3 = zs W2 (22 + 6 * gN z + 0) a := ⟨_, rfl⟩
  obtain ⟨W4, hW4⟩ : ∃ W4, W4 = zs W3 (22 + 6 * gN z + 1) 0 := ⟨_, rfl⟩
  obtain ⟨W5, hW5⟩ : ∃ W5, W5 = zs W4 (22 + 6 * gN z + 2) (nI b) := ⟨_, rfl⟩
  obtain ⟨W6, hW6⟩ : ∃ W6, W6 = zs W5 (22 + 6 * gN z + 3) (-1) := ⟨_, rfl⟩
  have z6 : zz W6 = upd (upd (upd (upd (upd (upd z 1 (nI (gN z + 1))) (10 + b) (nI (gN z))) (22 + 6 * gN z + 0) a) (22 + 6 * gN z + 1) 0) (22 + 6 * gN z + 2) (nI b)) (22 + 6 * gN z + 3) (-1) := by
    rw [hW6, zs_z, hW5, zs_z, hW4, zs_z, hW3, zs_z, hW2, zs_z, hW1, zs_z, hz]
  refine ⟨W6, ?_, fun i h1 h2 h3 => ?_, ?_, ?_, ?_, ?_, ?_, ?_⟩
  · unfold F_X8_doGrow
    rw [m_z1, hz1, m_z1, hz1, nI_1, show ∀ f : xWt → Option (Int32 × xWt), ast wr 9 0 1 (nI (gN z + 1)) f = f W1 from fun f => by rw [hW1]; exact m_zs (i := 1) (by omega), ixB, show ∀ f : xWt → Option (Int32 × xWt), ast W1 9 0 (nI (10 + b)) (nI (gN z)) f = f W2 from fun f => by rw [hW2]; exact m_zs (by omega), show F_X8_setLeaf (nI (gN z)) 0 a W2 = some ((), W3) from by rw [hW3]; exact m_setL hg (k := 0) (by omega) a, bd_s, show F_X8_setLeaf (nI (gN z)) 1 0 W3 = some ((), W4) from by rw [hW4]; exact m_setL hg (k := 1) (by omega) 0, bd_s, show F_X8_setLeaf (nI (gN z)) 2 (nI b) W4 = some ((), W5) from by rw [hW5]; exact m_setL hg (k := 2) (by omega) (nI b), bd_s, show F_X8_setLeaf (nI (gN z)) 3 (-1) W5 = some ((), W6) from by rw [hW6]; exact m_setL hg (k := 3) (by omega) (-1), bd_s]
  · rw [z6, upd_ne _ _ (by omega), upd_ne _ _ (by omega), upd_ne _ _ (by omega), upd_ne _ _ (by omega), upd_ne _ _ (by omega), upd_ne _ _ (by omega)]
  · rw [z6, upd_ne _ _ (by omega), upd_ne _ _ (by omega), upd_ne _ _ (by omega), upd_ne _ _ (by omega), upd_ne _ _ (by omega), upd_eq]
  · rw [z6, upd_ne _ _ (by omega), upd_ne _ _ (by omega), upd_ne _ _ (by omega), upd_ne _ _ (by omega), upd_eq]
  · rw [z6, zL_ne _ (by omega), zL_ne _ (by omega), zL_ne _ (by omega), zL_eq]
  · rw [z6, zL_ne _ (by omega), zL_ne _ (by omega), zL_eq]
  · rw [z6, zL_ne _ (by omega), zL_eq]
  · rw [z6, zL_eq]
end RF
