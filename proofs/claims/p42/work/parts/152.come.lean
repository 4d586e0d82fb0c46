/-! call 0: come -/
theorem least (p : Nat → Bool) : ∀ n, (∃ d, d < n ∧ p d = true) → ∃ e, e < n ∧ p e = true ∧ ∀ d, d < e → p d = false := by
  intro n
  induction n with
  | zero => rintro ⟨d, hd, -⟩; omega
  | succ n ih =>
    rintro ⟨d, hd, hp⟩
    by_cases h : ∃ d, d < n ∧ p d = true
    · obtain ⟨e, h1, h2, h3⟩ := ih h
      exact ⟨e, by omega, h2, h3⟩
    · have hn : ∀ d, d < n → p d = false := fun d hd => Bool.eq_false_iff.mpr fun q => h ⟨d, hd, q⟩
      have : d = n := by
        by_cases q : d < n
        · exact absurd ⟨d, q, hp⟩ h
        · omega
      subst this
      exact ⟨d, by omega, hp, hn⟩
theorem cn_all {p : Nat → Bool} {n : Nat} : cn p n = n ↔ ∀ i, i < n → p i = true := by
  induction n with
  | zero => exact ⟨fun _ i hi => by omega, fun _ => rfl⟩
  | succ n ih =>
    have := cn_le p n
    unfold cn
    constructor
    · intro q i hi
      by_cases hp : p n = true
      · rw [if_pos hp] at q
        by_cases e : i = n
        · rw [e]; exact hp
        · exact ih.mp (by omega) i (by omega)
      · rw [if_neg hp] at q
        omega
    · intro q
      rw [ih.mpr (fun i hi => q i (by omega)), if_pos (q n (by omega))]
section CM
variable {z z' : Nat → Int32} {xs : Nat → Int32} {L i B T b c l : Nat} {rec : Int32 → xWt → Option Unit} {w w' : xWt} {a : Int32}
theorem WF.child2 (hW : WF z B T) (ho : chO z z' c) (h0 : zC z c 0 = 1 → zC z' c 0 = 1) (h1 : wC1 z' c) (h2 : ∀ h, h < 3 → wK z' c h) : WF z' B T := by
  have h120 := hW.g120
  have hall : ∀ d, d < 5 → zC z d 0 = 1 → zC z' d 0 = 1 := fun d hd q => by
    by_cases e : d = c
    · rw [e] at q ⊢; exact h0 q
    · rw [ho.2 d hd e 0 (by omega)]; exact q
  refine ⟨?_, ?_, ?_, ?_, ?_, ?_⟩
  · have q := hW.s
    unfold wS at q ⊢
    rw [ho.g, ho.b, ho.t, ho.1 0 (by omega), ho.1 1 (by omega), ho.1 7 (by omega), ho.1 8 (by omega), ho.1 9 (by omega)]
    exact q
  · intro b hb
    rw [ho.1 (10 + b) (by omega), ho.g]
    rcases hW.b b hb with q | ⟨l, q1, q2, q3, q4⟩
    · exact Or.inl q
    · exact Or.inr ⟨l, q1, q2, by rw [ho.L (by omega) (by omega)]; exact q3, by rw [ho.L (by omega) (by omega)]; exact q4⟩
  · intro l hl
    rw [ho.g] at hl
    rw [ho.L (by omega) (by omega)]
    rcases hW.l l hl with q | q | ⟨q, d, s, t, r1, r2, r3, r4, r5, r6, r7⟩
    · exact Or.inl q
    · exact Or.inr (Or.inl q)
    · refine Or.inr (Or.inr ⟨q, d, s, t, r1, by rw [ho.b]; exact r2, by rw [ho.t]; exact r3, ?_, ?_, ?_, hall d r1 r7⟩)
      · rw [ho.L (by omega) (by omega)]; exact r4
      · rw [ho.L (by omega) (by omega)]; exact r5
      · rw [ho.L (by omega) (by omega)]; exact r6
  · intro d hd
    by_cases e : d = c
    · rw [e]; exact h1
    · rw [ho.2 d hd e 0 (by omega), ho.2 d hd e 1 (by omega), ho.2 d hd e 2 (by omega), ho.b]
      rcases hW.c d hd with ⟨q1, q2, q3, q4⟩ | q
      · exact Or.inl ⟨q1, q2, q3, fun h hh => by rw [ho.H hd e hh (by omega)]; exact q4 h hh⟩
      · exact Or.inr q
  · intro d h hd hh
    by_cases e : d = c
    · rw [e]; exact h2 h hh
    · have q := hW.h d h hd hh
      unfold wK at q ⊢
      rw [ho.H hd e hh (by omega), ho.H hd e hh (by omega), ho.H hd e hh (by omega), ho.g]
      exact q
  · obtain ⟨d, hd, q⟩ := hW.one
    exact ⟨d, hd, hall d hd q⟩
theorem lt6 {i : Nat} (h : i < 6) : ¬ (6 : Int32) ≤ nI i := nI_ge (b := 6) h (by decide)
theorem m_clearChild (hc : c < 5) : ∃ w', F_X8_clearChild (nI c) w = some ((), w') ∧ dM w w' ∧ (∀ k, k < 6 → zC (zz w') c k = if k = 2 then -1 else 0) ∧ (∀ h, h < 3 → zH (zz w') c h 0 = 0 ∧ zH (zz w') c h 1 = -1 ∧ zH (zz w') c h 2 = -1) ∧ ∀ i, i < 742 + 15 * c ∨ 757 + 15 * c ≤ i → zz w' i = zz w i := by
  have h := up_loop (fun n i (s : xWt) => L_X8_clearChild_2 n (nI c) (nI i) s) (fun i s => zs s (742 + 15 * c + i) 0) (fun s => (nI 6, s)) 6 (fun j s => dM w s ∧ (∀ k, k < j → zC (zz s) c k = 0) ∧ ∀ i, i < 742 + 15 * c ∨ 748 + 15 * c ≤ i → zz s i = zz w i)
    (fun n i s hi hI => ⟨by
      show B_X8_clearChild_2 (L_X8_clearChild_2 n) (nI c) (nI i) s = _
      unfold B_X8_clearChild_2
      rw [if_neg (lt6 hi), m_setC hc (by omega), bd_s, nI_1], hI.1.zs _ _, fun k hk => by
        rw [zs_z]
        by_cases e : k = i
        · rw [e, zC_eq]
        · rw [zC_ne _ (by omega)]; exact hI.2.1 k (by omega), fun i' hi' => by
        rw [zs_z, upd_ne _ _ (by omega)]; exact hI.2.2 i' hi'⟩)
    (fun n s _ => by
      show B_X8_clearChild_2 (L_X8_clearChild_2 n) (nI c) (nI 6) s = _
      unfold B_X8_clearChild_2
      rw [if_pos (show (6 : Int32) ≤ nI 6 from Int32.le_refl _)]) 6 0 w 9999 (by omega) (by omega) ⟨dM.rf w, fun k hk => absurd hk (by omega), fun _ _ => rfl⟩
  obtain ⟨e1, d1, h1, h2⟩ := h
  obtain ⟨wE, e2, d2, k1, k2⟩ := m_emptyHooks (w := zs (iter (fun i s => zs s (742 + 15 * c + i) 0) 0 6 w) (742 + 15 * c + 2) (-1)) hc
  refine ⟨wE, ?_, (d1.zs _ _).trans d2, fun k hk => ?_, k1, fun i hi => ?_⟩
  · unfold F_X8_clearChild
    have e1' : L_X8_clearChild_2 9999 (nI c) 0 w = some (nI 6, iter (fun i s => zs s (742 + 15 * c + i) 0) 0 6 w) := e1
    rw [e1', bd_s, show ∀ v : xWt, F_X8_setChild (nI c) 2 (-1) v = some ((), zs v (742 + 15 * c + 2) (-1)) from fun v => m_setC hc (k := 2) (by omega) _, bd_s, e2, bd_s]
  · unfold zC
    rw [k2 _ (by omega), zs_z]
    by_cases e : k = 2
    · rw [e, upd_eq, if_pos rfl]
    · rw [upd_ne _ _ (by omega), if_neg e]
      exact h1 k hk
  · rw [k2 i (by omega), zs_z, upd_ne _ _ (by omega)]
    exact h2 i (by omega)
theorem p_lowestFree (h6 : ∀ d, d < 5 → w.1 0 6 d = zC z d 0) (hc : c < 5) (h0 : zC z c 0 ≠ 1) (hl : ∀ d, d < c → zC z d 0 = 1) : F_X0_lowestFree 0 w = some (nI c, w) := by
  have hh : ∀ d, d < 5 → F_X0_isHere 0 (nI d) w = some (if zC z d 0 = 1 then 1 else 0, w) := fun d hd => by
    unfold F_X0_isHere
    rw [R_get, bd_s, g_5 hd rfl, h6 d hd]
    by_cases q : zC z d 0 = 1
    · rw [if_pos q, if_pos q]
    · rw [if_neg q, if_neg q]
  have h := (up_loop (fun n i (_ : Unit) => L_X0_lowestFree_2 0 n (nI i) w) (fun _ s => s) (fun _ => ((.inr (nI c) : Int32 ⊕ Int32), w)) c (fun _ _ => True)
    (fun n i s hi _ => ⟨by
      show B_X0_lowestFree_2 0 (L_X0_lowestFree_2 0 n) (nI i) w = _
      unfold B_X0_lowestFree_2
      rw [if_neg (lt5 (by omega)), hh i (by omega), bd_s, if_pos (hl i hi), if_neg (by decide), nI_1], trivial⟩)
    (fun n s _ => by
      show B_X0_lowestFree_2 0 (L_X0_lowestFree_2 0 n) (nI c) w = _
      unfold B_X0_lowestFree_2
      rw [if_neg (lt5 hc), hh c hc, bd_s, if_neg h0, if_pos rfl]) c 0 () 9999 (by omega) (by omega) trivial).1
  have h' : L_X0_lowestFree_2 0 9999 0 w = some ((.inr (nI c) : Int32 ⊕ Int32), w) := h
  unfold F_X0_lowestFree
  rw [h', bd_s]
  rfl
theorem p_noneFree (h6 : ∀ d, d < 5 → w.1 0 6 d = zC z d 0) (hl : ∀ d, d < 5 → zC z d 0 = 1) : F_X0_lowestFree 0 w = some (-1, w) := by
  have hh : ∀ d, d < 5 → F_X0_isHere 0 (nI d) w = some (1, w) := fun d hd => by
    unfold F_X0_isHere
    rw [R_get, bd_s, g_5 hd rfl, h6 d hd, if_pos (hl d hd)]
  have h := (up_loop (fun n i (_ : Unit) => L_X0_lowestFree_2 0 n (nI i) w) (fun _ s => s) (fun _ => ((.inl (nI 5) : Int32 ⊕ Int32), w)) 5 (fun _ _ => True)
    (fun n i s hi _ => ⟨by
      show B_X0_lowestFree_2 0 (L_X0_lowestFree_2 0 n) (nI i) w = _
      unfold B_X0_lowestFree_2
      rw [if_neg (lt5 hi), hh i hi, bd_s, if_neg (by decide), nI_1], trivial⟩)
    (fun n s _ => by
      show B_X0_lowestFree_2 0 (L_X0_lowestFree_2 0 n) (nI 5) w = _
      unfold B_X0_lowestFree_2
      rw [if_pos (show (5 : Int32) ≤ nI 5 from Int32.le_refl _)]) 5 0 () 9999 (by omega) (by omega) trivial).1
  have h' : L_X0_lowestFree_2 0 9999 0 w = some ((.inl (nI 5) : Int32 ⊕ Int32), w) := h
  unfold F_X0_lowestFree
  rw [h', bd_s]
  rfl
theorem m_comeL (hc : c < 5) (h0 : zC (zz w) c 0 ≠ 1) (hl : ∀ d, d < c → zC (zz w) d 0 = 1) : L_X8_come_32 9999 0 w = some (nI c, w) :=
  (up_loop (fun n i (_ : Unit) => L_X8_come_32 n (nI i) w) (fun _ s => s) (fun _ => (nI c, w)) c (fun _ _ => True)
    (fun n i s hi _ => ⟨by
      show B_X8_come_32 (L_X8_come_32 n) (nI i) w = _
      unfold B_X8_come_32
      rw [m_ofC0 (by omega), bd_s, if_pos (hl i hi), nI_1], trivial⟩)
    (fun n s _ => by
      show B_X8_come_32 (L_X8_come_32 n) (nI c) w = _
      unfold B_X8_come_32
      rw [m_ofC0 hc, bd_s, if_neg h0]) c 0 () 9999 (by omega) (by omega) trivial).1
theorem d_come (hW : WF z B T) (hY : YR 0 z w) (hc : c < 5) (h0 : zC z c 0 ≠ 1) (hl : ∀ d, d < c → zC z d 0 = 1) : DO z B T w (F_X6_addChild 0) (fun w4 => bd (L_X8_come_32 9999 0 w4) (fun o8 w9 => bd (F_X8_clearChild o8 w9) (fun _ w10 => bd (F_X8_setChild o8 0 1 w10) (fun _ w11 => some (o8, w11))))) := by
  intro wr hz
  obtain ⟨y1, y2, y3⟩ := hY.c c hc
  obtain ⟨a1, a2⟩ := hW.abs hc h0
  obtain ⟨wa, ea, da, k1, k2, k3⟩ := m_clearChild (w := wr) hc
  have zE : zz (zs wa (742 + 15 * c + 0) 1) = upd (zz wa) (742 + 15 * c + 0) 1 := zs_z _ _ _
  have hC : ∀ k, k < 6 → zC (upd (zz wa) (742 + 15 * c + 0) 1) c k = if k = 0 then 1 else if k = 2 then -1 else 0 := fun k hk => by
    by_cases e : k = 0
    · rw [e, zC_eq, if_pos rfl]
    · rw [zC_ne _ (by omega), k1 k hk, if_neg e]
  have hH : ∀ h, h < 3 → zH (upd (zz wa) (742 + 15 * c + 0) 1) c h 0 = 0 ∧ zH (upd (zz wa) (742 + 15 * c + 0) 1) c h 1 = -1 ∧ zH (upd (zz wa) (742 + 15 * c + 0) 1) c h 2 = -1 := fun h hh => by
    rw [zH_ne _ (by omega), zH_ne _ (by omega), zH_ne _ (by omega)]
    exact k2 h hh
  have ho : chO z (upd (zz wa) (742 + 15 * c + 0) 1) c := ⟨fun i hi => by rw [upd_ne _ _ (by omega), k3 i (by omega), hz], fun d hd hne k hk => by
    rw [zC_ne _ (by omega)]
    unfold zC
    rw [k3 _ (by omega), hz]⟩
  refine ⟨nI c, sRow (sRow (sRow (sRow w 0 6 (upd (w.1 0 6) c 1)) 0 8 (upd (w.1 0 8) c 0)) 0 9 (upd (w.1 0 9) c 0)) 0 10 (upd (w.1 0 10) c 0), zs wa (742 + 15 * c + 0) 1, ?_, ((((dP.rf w).row _ _).row _ _).row _ _).row _ _, ?_, da.zs _ _, ?_, ?_⟩
  · unfold F_X6_addChild F_X0_fillPlace
    rw [p_lowestFree (z := z) (fun d hd => (hY.c d hd).1) hc h0 hl, bd_s, R_put, bd_s, p5 hc rfl, R_put, bd_s, p5 hc rfl, R_put, bd_s, p5 hc rfl, R_put, bd_s, p5 hc rfl, bd_s]
    rfl
  · dsimp only
    rw [m_comeL hc (by rw [hz]; exact h0) (fun d hd => by rw [hz]; exact hl d hd), bd_s, ea, bd_s, show F_X8_setChild (nI c) 0 1 wa = some ((), zs wa (742 + 15 * c + 0) 1) from m_setC hc (k := 0) (by omega) _, bd_s]
  · rw [zE]
    refine hY.child hW ho (fun r hr => ?_) (fun j => rfl) (fun r d h1 h2 hne => ?_) (fun r i h1 h2 _ => ?_) ⟨?_, ?_, fun _ => ⟨?_, ?_, ?_⟩⟩ (fun h hh => ?_)
    · rw [sRow_ne _ _ (by omega), sRow_ne _ _ (by omega), sRow_ne _ _ (by omega), sRow_ne _ _ (by omega)]
    · rcases (show r = 6 ∨ r = 7 ∨ r = 8 ∨ r = 9 ∨ r = 10 by omega) with rfl | rfl | rfl | rfl | rfl
      · rw [sRow_ne _ _ (by omega), sRow_ne _ _ (by omega), sRow_ne _ _ (by omega), sRow_eq, upd_ne _ _ hne]
      · rw [sRow_ne _ _ (by omega), sRow_ne _ _ (by omega), sRow_ne _ _ (by omega), sRow_ne _ _ (by omega)]
      · rw [sRow_ne _ _ (by omega), sRow_ne _ _ (by omega), sRow_eq, upd_ne _ _ hne]
      · rw [sRow_ne _ _ (by omega), sRow_eq, upd_ne _ _ hne]
      · rw [sRow_eq, upd_ne _ _ hne]
    · rw [sRow_ne _ _ (by omega), sRow_ne _ _ (by omega), sRow_ne _ _ (by omega), sRow_ne _ _ (by omega)]
    · rw [hC 0 (by omega), sRow_ne _ _ (by omega), sRow_ne _ _ (by omega), sRow_ne _ _ (by omega), sRow_eq, upd_eq]; rfl
    · rw [hC 2 (by omega), sRow_ne _ _ (by omega), sRow_ne _ _ (by omega), sRow_ne _ _ (by omega), sRow_ne _ _ (by omega), y2, (hW.yI0 hc).mp a1]; rfl
    · rw [hC 3 (by omega), sRow_ne _ _ (by omega), sRow_ne _ _ (by omega), sRow_eq, upd_eq]; rfl
    · rw [hC 4 (by omega), sRow_ne _ _ (by omega), sRow_eq, upd_eq]; rfl
    · rw [hC 5 (by omega), sRow_eq, upd_eq]; rfl
    · obtain ⟨x1, x2, x3⟩ := hY.h c h hc hh
      obtain ⟨g0, g1, g2⟩ := hH h hh
      have hk0 := a2 h hh
      refine ⟨?_, ?_, ?_⟩
      · rw [g0, if_neg (by decide), sRow_ne _ _ (by omega), sRow_ne _ _ (by omega), sRow_ne _ _ (by omega), sRow_ne _ _ (by omega), x1, hk0, if_neg (by decide)]
      · rw [g0, if_neg (by decide), sRow_ne _ _ (by omega), sRow_ne _ _ (by omega), sRow_ne _ _ (by omega), sRow_ne _ _ (by omega), x2, hk0, if_neg (by decide)]
      · rw [g2, sRow_ne _ _ (by omega), sRow_ne _ _ (by omega), sRow_ne _ _ (by omega), sRow_ne _ _ (by omega), x3]
        rcases hW.h c h hc hh with ⟨-, -, q⟩ | ⟨q, -⟩ | ⟨q, -⟩
        · exact q
        · rw [hk0] at q; exact absurd q (by decide)
        · rw [hk0] at q; exact absurd q (by decide)
  · rw [zE]
    exact hW.child2 ho (fun _ => by rw [hC 0 (by omega)]; rfl) (Or.inr ⟨by rw [hC 0 (by omega)]; rfl, Or.inl ⟨by rw [hC 1 (by omega)]; rfl, by rw [hC 2 (by omega)]; rfl⟩⟩) (fun h hh => Or.inl (hH h hh))
end CM

