/-! a turn of the law that asks for a hook -/
section H1
variable {z z' z1 : Nat → Int32} {w w1 w' : xWt} {B T B' T' c h b l e : Nat} {a a2 a3 x2 x4 x9 o7 o11 o18 o22 v x y d : Int32} {R R' : Nat → Nat → Int32}
theorem KZ.ho (h1 : KZ z c h x y d z') (hc : c < 5) (hh : h < 3) : chO z z' c := ⟨fun i hi => h1.2.2.2 i (by omega), fun e he hne k hk => h1.2.2.2 _ (by omega)⟩
theorem KZ.o (h1 : KZ z c h x y d z') (hh : h < 3) {h' k : Nat} (hne : h' ≠ h) (hk : k < 3) : zH z' c h' k = zH z c h' k := h1.2.2.2 _ (by omega)
theorem KZ.cc (h1 : KZ z c h x y d z') (hh : h < 3) {k : Nat} (hk : k < 6) : zC z' c k = zC z c k := h1.2.2.2 _ (by omega)
theorem LR.hook (hW : WF z B T) (hR : LR z R) (hc : c < 5) (hh : h < 3) (hK : KZ z c h x y d z') (r0 : ∀ r, r ≠ 5 → R' r = R r) (h5 : R' 5 = upd (upd (R 5) (6 * c + 2 * h) x) (6 * c + 2 * h + 1) y) (hN : x = 1 → d = zL z y.toNatClampNeg 2) (hN2 : x = 1 → y.toNatClampNeg < 120) : LR z' R' := by
  refine LR.child hW hR hc (hK.ho hc hh) (fun r hr => r0 r (by omega)) (fun i _ => by rw [r0 4 (by omega)]) (fun i hi => by rw [h5, upd_ne _ _ (by omega), upd_ne _ _ (by omega)]) ?_ (fun h' hh' => ?_) (fun h' hh' q => ?_) (fun h' hh' q => ?_)
  · rw [r0 4 (by omega), hK.cc hh (k := 0) (by omega), hK.cc hh (k := 1) (by omega), hK.cc hh (k := 2) (by omega), hK.cc hh (k := 3) (by omega), hK.cc hh (k := 4) (by omega), hK.cc hh (k := 5) (by omega)]
    exact hR.c c hc
  · by_cases q : h' = h
    · rw [q, hK.1, hK.2.1, h5, upd_ne _ _ (by omega), upd_eq, upd_eq]
      exact ⟨rfl, rfl⟩
    · rw [hK.o hh q (by omega), hK.o hh q (by omega), h5, upd_ne _ _ (by omega), upd_ne _ _ (by omega), upd_ne _ _ (by omega), upd_ne _ _ (by omega)]
      exact hR.k c h' hc hh'
  · by_cases r : h' = h
    · rw [r, hK.1] at q
      rw [r, hK.2.1, hK.2.2.1]
      exact hN q
    · rw [hK.o hh r (by omega)] at q
      rw [hK.o hh r (by omega), hK.o hh r (by omega)]
      exact hR.e.1 c h' hc hh' q
  · by_cases r : h' = h
    · rw [r, hK.1] at q
      rw [r, hK.2.1]
      exact hN2 q
    · rw [hK.o hh r (by omega)] at q
      rw [hK.o hh r (by omega)]
      exact hk_lt hW hc hh' q
theorem h_note0 (hI : IN z w B T) (hc : c < 5) (hx : zC z c 0 ≠ 1 ∨ 3 ≤ h) (h4 : h < 4) : ST w (B + 1) (T + 121) (H_note (nI c) (nI h) x9 0 o18 o22 w) := by
  refine ST.no hI ?_ (by omega) (by omega)
  unfold H_note
  rw [if_pos rfl, bd_s, if_pos rfl, bd_s, o_note1 hI.2.1 hc hx h4, bd_s, if_pos rfl, bd_s, if_pos rfl]
theorem h_note1 (hI : IN z w B T) (hc : c < 5) (ht : zC z c 0 = 1) (hh : h < 3) (hb : b < 13) (h18 : o18 = zH z c h 0) : ST w (B + 1) (T + 121) (H_note (nI c) (nI h) (nI b) 1 o18 o22 w) := by
  have hI0 := hI
  obtain ⟨hW, hY, hR, hS⟩ := hI
  have h120 := hW.g120
  subst h18
  unfold H_note
  by_cases hb2 : b = 12
  · subst hb2
    refine ST.no hI0 ?_ (by omega) (by omega)
    rw [if_neg (by decide), if_pos (show (12 : Int32) ≤ nI 12 from Int32.le_refl _), bd_s, if_pos rfl, bd_s, o_note1b hY hc ht hh, bd_s, if_neg (by decide), if_pos (show nI 12 = 12 from rfl), bd_s, if_pos rfl]
  · have hb' : b < 12 := by omega
    have n12 : ¬ nI b = 12 := fun r => hb2 (nI_inj (b := 12) (by omega) (by omega) r)
    have no : (¬ yI z c = true ∨ zH z c h 0 ≠ 0 ∨ z (10 + b) = -1) → (bd (α := Unit) ((if (0 : Int32) = 0 then some ((), w) else ast w 10 5 ((6 * nI c) + (2 * nI h)) 1 (fun w126 => ald w126 10 1 (nI b) (fun x127 => ast w126 10 5 (((6 * nI c) + (2 * nI h)) + 1) x127 (fun w128 => some ((), w128)))))) (fun o125 w124 => bd (F_L_note (nI c) (nI h) (nI b) w124) (fun x130 w131 => bd (α := Int32) ((if (1 : Int32) = 0 then some ((-31), w131) else (if (nI b) = 12 then some ((-31), w131) else (if (0 : Int32) = 0 then some ((-33), w131) else ald w131 10 1 (nI b) (fun x134 => some (x134, w131)))))) (fun o133 w132 => (if x130 = o133 then some (1, w132) else none))))) = some ((1 : Int32), w) := fun hx => by
      rw [if_pos rfl, bd_s, o_note3 hW hY hc ht hh hb' hx, bd_s, if_neg (by decide), if_neg n12, if_pos rfl, bd_s, if_pos rfl]
    rw [if_neg (by decide), if_neg (show ¬ (12 : Int32) ≤ nI b from nI_ge (b := 12) hb' (by omega)), ix6c1, a4 (by omega), (hR.c c hc).2.1]
    by_cases hy : zC z c 1 = 1
    · rw [if_pos hy]
      by_cases hk : zH z c h 0 = 0
      · rw [if_pos hk, a1 hb', hR.b b hb']
        rcases brs hW hb' with q | ⟨l, hl, q⟩
        · rw [if_pos (show z (10 + b) < 0 by rw [q]; decide), bd_s]
          exact ST.no hI0 (no (Or.inr (Or.inr q))) (by omega) (by omega)
        · obtain ⟨z', hZ, hO⟩ : ∃ z', KZ z c h 1 (nI l) (nI b) z' ∧ OK z' (lS (lS w 5 (6 * c + 2 * h) 1) 5 (6 * c + 2 * h + 1) (nI l)) B T (nI l) (F_L_note (nI c) (nI h) (nI b) (lS (lS w 5 (6 * c + 2 * h) 1) 5 (6 * c + 2 * h + 1) (nI l))) :=
            o_note hW (hY.dL (((dL.rf w).s _ _ _).s _ _ _)) (hS.dL (((dL.rf w).s _ _ _).s _ _ _)) hc ht hh hb' (yI_iff.mpr hy) hk hl q
          obtain ⟨l1, l2⟩ : zL z l 1 = 0 ∧ zL z l 2 = nI b := by
            rcases hW.b b hb' with r | ⟨l', r1, r2, r3, r4⟩
            · rw [q] at r
              exact absurd r (nI_m1 (by omega))
            · have e : l = l' := nI_inj (by omega) (by omega) (q.symm.trans r2)
              rw [e]; exact ⟨r3, r4⟩
          rw [if_neg (show ¬ z (10 + b) < 0 by rw [q]; exact nI_pos (by omega)), bd_s, if_neg (by decide), ix62, s5 (by omega), a1 hb', lS_ne _ _ _ (by omega), hR.b b hb', q, nI_1, s5 (by omega), bd_s]
          refine (STs.ok hO ?_ (fun w' e => ?_) (by omega) (by omega)).o
          · refine hR.hook hW hc hh hZ (fun r hr => by rw [lS_ne _ _ _ hr, lS_ne _ _ _ hr]) (by rw [lS_eq, lS_eq]) (fun _ => ?_) (fun _ => ?_)
            · rw [nI_clamp (by omega)]; exact l2.symm
            · rw [nI_clamp (by omega)]; omega
          · rw [if_neg (by decide), if_neg n12, if_neg (by decide), a1 hb', e, lS_ne _ _ _ (by omega), lS_ne _ _ _ (by omega), hR.b b hb', q, bd_s, if_pos rfl]
      · rw [if_neg hk, bd_s]
        exact ST.no hI0 (no (Or.inr (Or.inl hk))) (by omega) (by omega)
    · rw [if_neg hy, bd_s]
      exact ST.no hI0 (no (Or.inl (fun r => hy (yI_iff.mp r)))) (by omega) (by omega)
theorem hk_one (hW : WF z B T) (hR : LR z R) (hc : c < 5) (hh : h < 3) (q : zH z c h 0 = 1) : ∃ l b, l < gN z ∧ b < 12 ∧ zH z c h 1 = nI l ∧ zH z c h 2 = nI b ∧ zL z l 2 = nI b := by
  have h120 := hW.g120
  rcases hW.h c h hc hh with ⟨k0, -⟩ | ⟨-, l, b, hl, hb, k1, k2⟩ | ⟨k0, -⟩
  · rw [q] at k0; exact absurd k0 (by decide)
  · refine ⟨l, b, hl, hb, k1, k2, ?_⟩
    have := hR.e.1 c h hc hh q
    rw [k1, k2, nI_clamp (by omega)] at this
    exact this.symm
  · rw [q] at k0; exact absurd k0 (by decide)
theorem hk_any (hW : WF z B T) (hc : c < 5) (hh : h < 3) (q : zH z c h 0 ≠ 0) : ∃ l, l < gN z ∧ zH z c h 1 = nI l := by
  rcases hW.h c h hc hh with ⟨k0, -⟩ | ⟨-, l, b, hl, hb, k1, k2⟩ | ⟨-, l, hl, k1, -⟩
  · exact absurd k0 q
  · exact ⟨l, hl, k1⟩
  · exact ⟨l, hl, k1⟩
theorem h_pin0 (hI : IN z w B T) (hc : c < 5) (hx : zC z c 0 ≠ 1 ∨ 3 ≤ h) (h4 : h < 4) : ST w (B + 1) (T + 121) (H_pin (nI c) (nI h) x9 0 o18 o22 w) := by
  refine ST.no hI ?_ (by omega) (by omega)
  unfold H_pin
  rw [if_pos rfl, o_pinI hI.2.1 hc hx h4, bd_s, if_pos rfl, bd_s, if_pos rfl]
theorem h_pin1 (hI : IN z w B T) (hB : B < 2 ^ 18) (hc : c < 5) (ht : zC z c 0 = 1) (hh : h < 3) (h18 : o18 = zH z c h 0) (h22 : o22 = zH z c h 1) : ST w (B + 1) (T + 121) (H_pin (nI c) (nI h) x9 1 o18 o22 w) := by
  have hI0 := hI
  obtain ⟨hW, hY, hR, hS⟩ := hI
  have h120 := hW.g120
  subst h18 h22
  unfold H_pin
  rw [if_neg (by decide)]
  by_cases hk : zH z c h 0 = 1
  · obtain ⟨l, b, hl, hb, e1, e2, e3⟩ := hk_one hW hR hc hh hk
    rw [if_pos hk, e1, l_wh hW hB hR hl, bd_s]
    by_cases q : zL z l 1 = 0
    · have hbr : z (10 + b) = nI l := hR.e.2 l b hl hb q e3
      obtain ⟨w1, hw1⟩ : ∃ w1, w1 = lS (lS w 5 (6 * c + 2 * h) 2) 5 (6 * c + 2 * h + 1) (nI l) := ⟨_, rfl⟩
      have hd : dL w w1 := by rw [hw1]; exact ((dL.rf w).s _ _ _).s _ _ _
      obtain ⟨z', hZ, hO⟩ := o_pin1 hW (hY.dL hd) (hS.dL hd) hc ht hh hb hk e1 e2 hbr
      have e0 : lS w1 0 4 (z 4 + 0) = w1 := lS_same w1 0 4 (by rw [hw1, lS_ne _ _ _ (by omega), lS_ne _ _ _ (by omega), hR.g.2.2.2.2.1]; grind)
      rw [if_pos ((wh_m1 hW hl).mpr q), bd_s, if_neg (by decide), bd_s, ix62, s5 (by omega), if_neg (by decide), bd_s, nI_1, s5 (by omega), ← hw1, a0_4, show w1.1 10 0 4 = z 4 from by rw [hw1, lS_ne _ _ _ (by omega), lS_ne _ _ _ (by omega), hR.g.2.2.2.2.1], if_neg (by decide), bd_s, s0_4, e0]
      refine (STs.ok hO ?_ (fun w' _ => by rw [if_neg (by decide), bd_s, if_pos rfl]) (by omega) (by omega)).o
      exact hR.hook hW hc hh hZ (fun r hr => by rw [hw1, lS_ne _ _ _ hr, lS_ne _ _ _ hr]) (by rw [hw1, lS_eq, lS_eq]) (fun r => absurd r (by decide)) (fun r => absurd r (by decide))
    · have hbr : z (10 + b) ≠ nI l := fun r => q (by
        rcases hW.b b hb with s | ⟨l', s1, s2, s3, s4⟩
        · rw [r] at s
          exact absurd s (nI_m1 (by omega))
        · have e : l = l' := nI_inj (by omega) (by omega) (r.symm.trans s2)
          rw [e]; exact s3)
      obtain ⟨w1, hw1⟩ : ∃ w1, w1 = lS (lS w 5 (6 * c + 2 * h) 0) 5 (6 * c + 2 * h + 1) (-1) := ⟨_, rfl⟩
      obtain ⟨w2, hw2⟩ : ∃ w2, w2 = lS w1 0 4 (z 4 + 1) := ⟨_, rfl⟩
      have hd : dL w w2 := by rw [hw2, hw1]; exact (((dL.rf w).s _ _ _).s _ _ _).s _ _ _
      obtain ⟨z1, hZ, hO⟩ := o_pin0 hW (hY.dL hd) (hS.dL hd) hc ht hh hb hk e1 e2 hbr
      rw [if_neg (fun r => q ((wh_m1 hW hl).mp r)), bd_s, if_pos rfl, bd_s, ix62, s5 (by omega), if_pos rfl, bd_s, nI_1, s5 (by omega), ← hw1, a0_4, show w1.1 10 0 4 = z 4 from by rw [hw1, lS_ne _ _ _ (by omega), lS_ne _ _ _ (by omega), hR.g.2.2.2.2.1], if_pos rfl, bd_s, s0_4, ← hw2]
      refine (STs.ok hO ?_ (fun w' _ => by rw [if_pos rfl, bd_s, if_pos rfl]) (by omega) (by omega)).o
      have h1 : LR z1 (w1.1 10) := hR.hook hW hc hh hZ (fun r hr => by rw [hw1, lS_ne _ _ _ hr, lS_ne _ _ _ hr]) (by rw [hw1, lS_eq, lS_eq]) (fun r => absurd r (by decide)) (fun r => absurd r (by decide))
      exact h1.cnt4 _ (fun r hr => by rw [hw2, lS_ne _ _ _ (by omega)]) (by rw [hw2, lS_eq])
  · rw [if_neg hk]
    refine ST.no hI0 ?_ (by omega) (by omega)
    rw [o_pin3 hW hY hc ht hh hk, bd_s, if_neg (by decide), bd_s, if_pos rfl]
theorem h_no (hI : IN z w B T) (hc : c < 5) (hx : zC z c 0 ≠ 1 ∨ 3 ≤ h) (h4 : h < 4) : ST w (B + 1) (T + 121) (H_no (nI c) (nI h) x9 0 o18 o22 w) := by
  refine ST.no hI ?_ (by omega) (by omega)
  unfold H_no
  rw [o_loosen1 hI.2.1 hc hx h4, bd_s, if_pos rfl, bd_s, if_pos rfl, o_look1 hI.2.1 hc hx h4, bd_s, if_pos rfl, bd_s, if_pos rfl]
theorem h_em (hI : IN z w B T) (hc : c < 5) (ht : zC z c 0 = 1) (hh : h < 3) (hk : zH z c h 0 = 0) : ST w (B + 1) (T + 121) (H_em (nI c) (nI h) x9 1 o18 o22 w) := by
  refine ST.no hI ?_ (by omega) (by omega)
  unfold H_em
  rw [o_loosen3 hI.1 hI.2.1 hc ht hh hk, bd_s, if_neg (by decide), bd_s, if_pos rfl, o_look3 hI.1 hI.2.1 hc ht hh hk, bd_s, if_neg (by decide), bd_s, if_pos rfl]
theorem h_loosen (hI : IN z w B T) (hc : c < 5) (ht : zC z c 0 = 1) (hh : h < 3) (hk : zH z c h 0 ≠ 0) (h22 : o22 = zH z c h 1) : ST w (B + 1) (T + 121) (H_loosen (nI c) (nI h) x9 1 o18 o22 w) := by
  obtain ⟨hW, hY, hR, hS⟩ := hI
  subst h22
  obtain ⟨w1, hw1⟩ : ∃ w1, w1 = lS (lS w 5 (6 * c + 2 * h) 0) 5 (6 * c + 2 * h + 1) (-1) := ⟨_, rfl⟩
  have hd : dL w w1 := by rw [hw1]; exact ((dL.rf w).s _ _ _).s _ _ _
  obtain ⟨z', hZ, hO⟩ := o_loosen hW (hY.dL hd) (hS.dL hd) hc ht hh hk
  unfold H_loosen
  rw [ix62, s5 (by omega), nI_1, s5 (by omega), ← hw1]
  refine (STs.ok hO ?_ (fun w' _ => by rw [if_pos rfl]) (by omega) (by omega)).o
  exact hR.hook hW hc hh hZ (fun r hr => by rw [hw1, lS_ne _ _ _ hr, lS_ne _ _ _ hr]) (by rw [hw1, lS_eq, lS_eq]) (fun r => absurd r (by decide)) (fun r => absurd r (by decide))
theorem h_look (hI : IN z w B T) (hB : B < 2 ^ 18) (hc : c < 5) (ht : zC z c 0 = 1) (hh : h < 3) (hk : zH z c h 0 ≠ 0) (h18 : o18 = zH z c h 0) (h22 : o22 = zH z c h 1) : ST w (B + 1) (T + 121) (H_look (nI c) (nI h) x9 1 o18 o22 w) := by
  have hI0 := hI
  obtain ⟨hW, hY, hR, hS⟩ := hI
  have h120 := hW.g120
  subst h18 h22
  obtain ⟨l, hl, e1⟩ := hk_any hW hc hh hk
  have hlk : (zH z c h 0 ≠ 1 ∨ zL z l 1 ≠ 2) → ST w (B + 1) (T + 121) (bd (F_L_look (nI c) (nI h) w) (fun x48 w49 => bd (α := Int32) ((if (0 : Int32) = 0 then ald w49 10 2 (nI l) (fun x52 => rm x52 10 (fun x53 => some (x53, w49))) else some ((-1), w49))) (fun o51 w50 => (if x48 = o51 then some (1, w50) else none)))) := fun hx => by
    refine (STs.ok (o_lookC hW hY hS hc ht hh hk hl e1 hx) hR (fun w' e => ?_) (by omega) (by omega)).o
    rw [if_pos rfl, l_col hW hB (by rw [e]; exact hR) hl, bd_s, if_pos rfl]
  have e0 : lS w 0 5 (z 5 + 0) = w := lS_same w 0 5 (by rw [hR.g.2.2.2.2.2.1]; grind)
  unfold H_look
  rw [e1]
  by_cases k1 : zH z c h 0 = 1
  · rw [if_pos k1, l_wh hW hB hR hl, bd_s]
    by_cases k2 : zL z l 1 = 2
    · obtain ⟨w1, hw1⟩ : ∃ w1, w1 = lS w 0 5 (z 5 + 1) := ⟨_, rfl⟩
      have hd : dL w w1 := by rw [hw1]; exact (dL.rf w).s _ _ _
      rw [if_pos ((wh_m2 hW hl).mpr k2), bd_s, a0_5, hR.g.2.2.2.2.2.1, if_neg (by decide), bd_s, s0_5, ← hw1]
      refine (STs.ok (o_lookD hW (hY.dL hd) (hS.dL hd) hc ht hh k1 hl e1 k2) ?_ (fun w' _ => by rw [if_neg (by decide), bd_s, if_pos rfl]) (by omega) (by omega)).o
      exact hR.cnt5 _ (fun r hr => by rw [hw1, lS_ne _ _ _ (by omega)]) (by rw [hw1, lS_eq])
    · rw [if_neg (fun r => k2 ((wh_m2 hW hl).mp r)), bd_s, a0_5, hR.g.2.2.2.2.2.1, if_pos rfl, bd_s, s0_5, e0]
      exact hlk (Or.inr k2)
  · rw [if_neg k1, bd_s, a0_5, hR.g.2.2.2.2.2.1, if_pos rfl, bd_s, s0_5, e0]
    exact hlk (Or.inl k1)
theorem st_hooks (hI : IN z w B T) (hB : B < 2 ^ 18) : ST w (B + 1) (T + 121) (F_L_hooks a2 a3 w) := by
  have hR := hI.2.2.1
  obtain ⟨c, hc, ec⟩ := l_low a3 (n := 5) (by omega) (by omega) w
  obtain ⟨h, hh4, eh⟩ := l_low (a3 >>> (4 &&& 31)) (n := 4) (by omega) (by omega) w
  obtain ⟨n, n0, n13, en⟩ : ∃ n, 0 < n ∧ n ≤ 13 ∧ (if ((a3 >>> (6 &&& 31)) &&& 1) = 0 then some ((4 : Int32), w) else some (13, w)) = some (nI n, w) := by
    by_cases q : ((a3 >>> (6 &&& 31)) &&& 1) = 0
    · exact ⟨4, by omega, by omega, if_pos q⟩
    · exact ⟨13, by omega, by omega, if_neg q⟩
  obtain ⟨b, hb, eb⟩ := l_low (a3 >>> (7 &&& 31)) (n := n) n0 (by omega) w
  obtain ⟨k, hk6, ek⟩ := l_low a2 (n := 6) (by omega) (by omega) w
  rw [hooks_eq, show F_L_low a3 5 w = some (nI c, w) from ec, bd_s, show F_L_low (a3 >>> (4 &&& 31)) 4 w = some (nI h, w) from eh, bd_s, en, bd_s, eb, bd_s, show F_L_low a2 6 w = some (nI k, w) from ek, bd_s]
  by_cases hx : zC z c 0 ≠ 1 ∨ 3 ≤ h
  · have e13 : (if 3 ≤ nI h then some ((0 : Int32), w) else ald w 10 4 (6 * nI c) (fun x14 => (if x14 = 1 then some (1, w) else some (0, w)))) = some (0, w) := by
      by_cases q : 3 ≤ h
      · rw [if_pos (show (3 : Int32) ≤ nI h from nI_le (a := 3) q (by omega))]
      · rw [if_neg (show ¬ (3 : Int32) ≤ nI h from nI_ge (b := 3) (by omega) (by omega)), ix60, a4 (by omega), (hR.c c hc).1, if_neg (hx.resolve_right q)]
    rw [e13, bd_s, if_pos rfl, bd_s, if_pos rfl, bd_s]
    by_cases q : 3 ≤ k
    · rw [if_pos (show (3 : Int32) ≤ nI k from nI_le (a := 3) q (by omega))]
      by_cases q2 : nI k = 3
      · rw [if_pos q2]
        exact h_pin0 hI hc hx hh4
      · rw [if_neg q2, if_pos rfl]
        exact h_no hI hc hx hh4
    · rw [if_neg (show ¬ (3 : Int32) ≤ nI k from nI_ge (b := 3) (by omega) (by omega))]
      exact h_note0 hI hc hx hh4
  · have ht : zC z c 0 = 1 := Classical.byContradiction (fun r => hx (Or.inl r))
    have hh : h < 3 := by
      have : ¬ 3 ≤ h := fun r => hx (Or.inr r)
      omega
    rw [if_neg (show ¬ (3 : Int32) ≤ nI h from nI_ge (b := 3) hh (by omega)), ix60, a4 (by omega), (hR.c c hc).1, if_pos ht, bd_s, if_neg (by decide), ← ix60, ix62, a5 (by omega), (hR.k c h hc hh).1, bd_s, if_neg (by decide), nI_1, a5 (by omega), (hR.k c h hc hh).2, bd_s]
    by_cases q : 3 ≤ k
    · rw [if_pos (show (3 : Int32) ≤ nI k from nI_le (a := 3) q (by omega))]
      by_cases q2 : nI k = 3
      · rw [if_pos q2]
        exact h_pin1 hI hB hc ht hh rfl rfl
      · rw [if_neg q2, if_neg (by decide)]
        by_cases q3 : zH z c h 0 = 0
        · rw [if_pos q3]
          exact h_em hI hc ht hh q3
        · rw [if_neg q3]
          by_cases q4 : nI k = 4
          · rw [if_pos q4]
            exact h_loosen hI hc ht hh q3 rfl
          · rw [if_neg q4]
            exact h_look hI hB hc ht hh q3 rfl rfl
    · rw [if_neg (show ¬ (3 : Int32) ≤ nI k from nI_ge (b := 3) (by omega) (by omega))]
      exact h_note1 hI hc ht hh (by omega) rfl
end H1
