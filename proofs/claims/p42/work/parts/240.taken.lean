/-! the law's taking and growing -/
section TKS
variable {z z' z1 : Nat → Int32} {w w1 w' : xWt} {B T B' T' c h b l e i q : Nat} {a a2 a3 x2 x4 x9 v x y t : Int32} {R R' : Nat → Nat → Int32} {hp : List Nat}
theorem LR.aside (hW : WF z B T) (hT : T < 2 ^ 30) (hR : LR z R) (hP : rP z R hp) (hc : c < 5) (hb : b < 12) (hl : l < gN z) (hl1 : zL z l 1 = 0) (hbr : z (10 + b) = nI l) (hA : AZ z b c l z1) {cc bb : Nat} (q1 : cc < 10) (q2 : bb < 12) (q3 : zL z l 0 = nI cc) (q4 : zL z l 2 = nI bb) (h0 : R' 0 = upd (R 0) 9 (nI (hp.length + 1))) (h1 : R' 1 = upd (R 1) b (-1)) (h2 : ∀ l', l' ≠ l → R' 2 l' = R 2 l') (h2l : R' 2 l = nI (en cc bb (c + 2) (bN z + 1))) (h3 : R' 3 = upd (R 3) hp.length (nI l)) (h4 : R' 4 = upd (R 4) (6 * c + 3) (zC z c 3 + 1)) (h5 : R' 5 = R 5) : LR z1 R' := by
  have h120 := hW.g120
  have eg := hA.g
  have eb := hA.bb
  have htN := hW.s.2.2.2.2.2.1
  have hnl : ∀ l', l' ∈ hp → l' ≠ l := fun l' hm e => by
    have := ((hP.1 l').mp hm).2
    rw [e, hl1] at this
    exact absurd this (by decide)
  have htl : tu z1 l = tN z := by
    unfold tu
    rw [hA.2.2.2.2.2.2.1, nI_clamp (by omega)]
  have hts : ∀ l', l' < gN z → l' ≠ l → tu z1 l' = tu z l' := fun l' h' hne => by
    unfold tu
    rw [hA.LL hb (by omega) (by omega) (Or.inl hne)]
  refine ⟨?_, ?_, ?_, ?_, ?_, ?_, ?_, ?_, ?_⟩
  · obtain ⟨g0, g1, g2, g3, g4, g5, g6, g7, g8⟩ := hR.g
    unfold rG
    rw [h0, hA.G (i := 0) (by omega), hA.G (i := 1) (by omega), hA.G (i := 2) (by omega), hA.G (i := 3) (by omega), hA.G (i := 4) (by omega), hA.G (i := 5) (by omega), hA.G (i := 6) (by omega), hA.G (i := 8) (by omega), hA.G (i := 9) (by omega)]
    exact ⟨g0, g1, g2, g3, g4, g5, g6, g7, g8⟩
  · intro b' hb'
    rw [h1]
    by_cases e : b' = b
    · rw [e, upd_eq, hA.2.1]
    · rw [upd_ne _ _ e, hA.BR hb' e]
      exact hR.b b' hb'
  · intro l' hl'
    rw [eg] at hl'
    by_cases e : l' = l
    · subst e
      refine ⟨cc, bb, bN z + 1, q1, q2, by omega, by rw [hA.LL hb (by omega) (by omega) (Or.inr (Or.inl rfl))]; exact q3, by rw [hA.LL hb (by omega) (by omega) (Or.inr (Or.inr rfl))]; exact q4, ?_, ?_⟩
      · rw [hA.2.2.2.2.1, hW.s.1]
        exact (nI_sub (a := bN z + 1) (b := 1) (by omega)).symm
      · rw [h2l]
        congr 2
        unfold whN
        rw [hA.2.2.2.1, if_neg (by decide), if_neg (by decide), hA.2.2.2.2.2.1, nI_clamp (by omega)]
    · obtain ⟨c', b', t', c1, c2, c3, c4, c5, c6, c7⟩ := hR.l l' hl'
      exact ⟨c', b', t', c1, c2, by rw [eb]; exact c3, by rw [hA.LL hb (by omega) (by omega) (Or.inl e)]; exact c4, by rw [hA.LL hb (by omega) (by omega) (Or.inl e)]; exact c5, by rw [hA.LL hb (by omega) (by omega) (Or.inl e)]; exact c6, by rw [h2 l' e, whN_same (hA.LL hb (by omega) (by omega) (Or.inl e)) (hA.LL hb (by omega) (by omega) (Or.inl e))]; exact c7⟩
  · intro d hd
    by_cases e : d = c
    · subst e
      obtain ⟨k1, k2, k3, k4⟩ := hR.c d hd
      rw [h4, hA.C hb (by omega) (k := 0) (by omega) (by omega), hA.C hb (by omega) (k := 1) (by omega) (by omega), hA.C hb (by omega) (k := 2) (by omega) (by omega), hA.2.2.2.2.2.2.2, hA.C hb (by omega) (k := 4) (by omega) (by omega), hA.C hb (by omega) (k := 5) (by omega) (by omega), upd_ne _ _ (by omega), upd_ne _ _ (by omega), upd_ne _ _ (by omega), upd_eq, upd_ne _ _ (by omega), upd_ne _ _ (by omega)]
      exact ⟨k1, k2, k3, fun q => ⟨rfl, (k4 q).2⟩⟩
    · rw [h4, upd_ne _ _ (by omega), upd_ne _ _ (by omega), upd_ne _ _ (by omega), upd_ne _ _ (by omega), upd_ne _ _ (by omega), upd_ne _ _ (by omega), hA.C hb (by omega) (k := 0) (by omega) (Or.inl e), hA.C hb (by omega) (k := 1) (by omega) (Or.inl e), hA.C hb (by omega) (k := 2) (by omega) (Or.inl e), hA.C hb (by omega) (k := 3) (by omega) (Or.inl e), hA.C hb (by omega) (k := 4) (by omega) (Or.inl e), hA.C hb (by omega) (k := 5) (by omega) (Or.inl e)]
      exact hR.c d hd
  · intro d h hd hh
    rw [h5, hA.H hb (by omega) hh (by omega), hA.H hb (by omega) hh (by omega)]
    exact hR.k d h hd hh
  · refine ⟨hp ++ [l], fun l' => ?_, ?_, ?_, fun p l' h => ?_⟩
    · rw [List.mem_append, List.mem_singleton, eg]
      by_cases e : l' = l
      · subst e
        exact ⟨fun _ => ⟨hl, hA.2.2.2.1⟩, fun _ => Or.inr rfl⟩
      · rw [hP.1 l']
        constructor
        · rintro (⟨r1, r2⟩ | r)
          · exact ⟨r1, by rw [hA.LL hb (by omega) (by omega) (Or.inl e)]; exact r2⟩
          · exact absurd r e
        · rintro ⟨r1, r2⟩
          rw [hA.LL hb (by omega) (by omega) (Or.inl e)] at r2
          exact Or.inl ⟨r1, r2⟩
    · refine List.pairwise_append.mpr ⟨List.Pairwise.imp_of_mem (fun {x y} hx hy q => ?_) hP.2.1, List.pairwise_singleton _ _, fun x hx y hy => ?_⟩
      · rw [hts x ((hP.1 x).mp hx).1 (hnl x hx), hts y ((hP.1 y).mp hy).1 (hnl y hy)]
        exact q
      · rw [List.mem_singleton] at hy
        obtain ⟨r1, r2⟩ := (hP.1 x).mp hx
        obtain ⟨t, s1, s2⟩ := hW.turn r1 r2
        rw [hy, htl, hts x r1 (hnl x hx)]
        unfold tu
        rw [s2, nI_clamp (by omega)]
        exact s1
    · rw [h0, upd_eq, List.length_append]
      rfl
    · rw [h3]
      by_cases e : p = hp.length
      · rw [e, List.getElem?_concat_length] at h
        cases h
        rw [e, upd_eq]
      · rw [upd_ne _ _ e]
        have hlt : p < hp.length := by
          have h2 := (List.getElem?_eq_some_iff.mp h).1
          rw [List.length_append] at h2
          have : [l].length = 1 := rfl
          omega
        rw [List.getElem?_append_left hlt] at h
        exact hP.2.2.2 p l' h
  · rw [eg]; exact hR.n
  · intro d h hd hh r
    rw [hA.H hb (by omega) hh (by omega)] at r
    rw [hA.H hb (by omega) hh (by omega), hA.H hb (by omega) hh (by omega), hA.LL hb (hk_lt hW hd hh r) (by omega) (Or.inr (Or.inr rfl))]
    exact hR.e.1 d h hd hh r
  · intro l' b' hl' hb' r1 r2
    rw [eg] at hl'
    by_cases e : l' = l
    · rw [e, hA.2.2.2.1] at r1
      exact absurd r1 (by decide)
    · rw [hA.LL hb (by omega) (by omega) (Or.inl e)] at r1 r2
      have r3 := hR.e.2 l' b' hl' hb' r1 r2
      rw [hA.BR hb' (fun e2 => e (by
        rw [e2, hbr] at r3
        exact (nI_inj (by omega) (by omega) r3).symm))]
      exact r3
theorem br_leaf (hW : WF z B T) (hb : b < 12) (hl : l < gN z) (hbr : z (10 + b) = nI l) : zL z l 1 = 0 ∧ zL z l 2 = nI b := by
  have h120 := hW.g120
  rcases hW.b b hb with q | ⟨l', q1, q2, q3, q4⟩
  · rw [hbr] at q
    exact absurd q (nI_m1 (by omega))
  · have e : l = l' := nI_inj (by omega) (by omega) (hbr.symm.trans q2)
    rw [e]; exact ⟨q3, q4⟩
theorem hp_lt (hP : rP z R hp) (hl : l < gN z) (hl1 : zL z l 1 = 0) : hp.length < gN z := by
  have h1 := cn_or (fun l => zL z l 1 == 1) hl (show (zL z l 1 == 1) = false by rw [hl1]; rfl)
  have h2 := cn_le (fun i => i == l || zL z i 1 == 1) (gN z)
  have h3 := hP.len
  omega
theorem l_taken (hW : WF z B T) (hB : B < 2 ^ 18) (hT : T < 2 ^ 30) (hR : LR z (w.1 10)) (hc : c < 5) (ht : zC z c 0 = 1) (hb : b < 12) (hl : l < gN z) (hbr : z (10 + b) = nI l) (hTK : TK z b c l v z') : ∃ w1, F_L_taken (nI c) (nI b) w = some (v, w1) ∧ dL w w1 ∧ LR z' (w1.1 10) := by
  have h120 := hW.g120
  have h40 := hR.n
  have hbN := hW.s.2.1
  obtain ⟨z1, hA, hTK⟩ := hTK
  obtain ⟨hl1, hl2⟩ := br_leaf hW hb hl hbr
  obtain ⟨hp, hP⟩ := hR.p
  have hplt := hp_lt hP hl hl1
  obtain ⟨cc, bb, tt, c1, c2, c3, c4, c5, c6, c7⟩ := hR.l l hl
  have hwh8 := wh_lt hW hl
  obtain ⟨g0, g1, g2, g3, g4, g5, g6, g7, g8⟩ := hR.g
  obtain ⟨k1, k2, k3, k4⟩ := hR.c c hc
  obtain ⟨wa, ha⟩ : ∃ wa, wa = lS w 1 b (-1) := ⟨_, rfl⟩
  obtain ⟨wb, hwb⟩ : ∃ wb, wb = lS wa 2 l (nI (en cc bb (whN z l) (bN z + 1))) := ⟨_, rfl⟩
  obtain ⟨wc, hwc⟩ : ∃ wc, wc = lS wb 2 l (nI (en cc bb (c + 2) (bN z + 1))) := ⟨_, rfl⟩
  obtain ⟨wd, hwd⟩ : ∃ wd, wd = lS wc 3 hp.length (nI l) := ⟨_, rfl⟩
  obtain ⟨we, hwe⟩ : ∃ we, we = lS wd 0 9 (nI (hp.length + 1)) := ⟨_, rfl⟩
  obtain ⟨wf, hwf⟩ : ∃ wf, wf = lS we 4 (6 * c + 3) (zC z c 3 + 1) := ⟨_, rfl⟩
  have r2a : wa.1 10 2 = w.1 10 2 := by rw [ha, lS_ne _ _ _ (by omega)]
  have r0a : wa.1 10 0 = w.1 10 0 := by rw [ha, lS_ne _ _ _ (by omega)]
  have r2b : wb.1 10 2 l = nI (en cc bb (whN z l) (bN z + 1)) := by rw [hwb, lS_eq, upd_eq]
  have r0c : wc.1 10 0 = w.1 10 0 := by rw [hwc, lS_ne _ _ _ (by omega), hwb, lS_ne _ _ _ (by omega), r0a]
  have r0d : wd.1 10 0 = w.1 10 0 := by rw [hwd, lS_ne _ _ _ (by omega), r0c]
  have r4e : we.1 10 4 = w.1 10 4 := by rw [hwe, lS_ne _ _ _ (by omega), hwd, lS_ne _ _ _ (by omega), hwc, lS_ne _ _ _ (by omega), hwb, lS_ne _ _ _ (by omega), ha, lS_ne _ _ _ (by omega)]
  have hd : dL w wf := by rw [hwf, hwe, hwd, hwc, hwb, ha]; exact ((((((dL.rf w).s _ _ _).s _ _ _).s _ _ _).s _ _ _).s _ _ _).s _ _ _
  have hRA : LR z1 (wf.1 10) := by
    refine LR.aside hW hT hR hP hc hb hl hl1 hbr hA c1 c2 c4 c5 ?_ ?_ (fun l' hne => ?_) ?_ ?_ ?_ ?_
    · rw [hwf, lS_ne _ _ _ (by omega), hwe, lS_eq, r0d]
    · rw [hwf, lS_ne _ _ _ (by omega), hwe, lS_ne _ _ _ (by omega), hwd, lS_ne _ _ _ (by omega), hwc, lS_ne _ _ _ (by omega), hwb, lS_ne _ _ _ (by omega), ha, lS_eq]
    · rw [hwf, lS_ne _ _ _ (by omega), hwe, lS_ne _ _ _ (by omega), hwd, lS_ne _ _ _ (by omega), hwc, lS_eq, upd_ne _ _ hne, hwb, lS_eq, upd_ne _ _ hne, r2a]
    · rw [hwf, lS_ne _ _ _ (by omega), hwe, lS_ne _ _ _ (by omega), hwd, lS_ne _ _ _ (by omega), hwc, lS_eq, upd_eq]
    · rw [hwf, lS_ne _ _ _ (by omega), hwe, lS_ne _ _ _ (by omega), hwd, lS_eq, hwc, lS_ne _ _ _ (by omega), hwb, lS_ne _ _ _ (by omega), ha, lS_ne _ _ _ (by omega)]
    · rw [hwf, lS_eq, r4e]
    · rw [hwf, lS_ne _ _ _ (by omega), hwe, lS_ne _ _ _ (by omega), hwd, lS_ne _ _ _ (by omega), hwc, lS_ne _ _ _ (by omega), hwb, lS_ne _ _ _ (by omega), ha, lS_ne _ _ _ (by omega)]
  have hWA : WF z1 B (T + 1) := hW.aside hA hT hc ht hb hl hl2
  have ht1 : zC z1 c 0 = 1 := by rw [hA.C hb (by omega) (by omega) (Or.inr (by omega))]; exact ht
  have hput : F_L_put (nI l) (nI c) wb = some ((), wc) := by
    have := l_put (w := wb) (by omega) r2b c1 c2 hwh8 (by omega) (c + 2)
    rw [show nI (c + 2) - 2 = nI c from nI_sub (a := c + 2) (b := 2) (by omega), ← hwc] at this
    exact this
  have hn : en cc bb (whN z l) tt < 2 ^ 31 := by unfold en; omega
  have hrm : ∀ f : Int32 → Option (Int32 × xWt), rm (nI (en cc bb (whN z l) tt)) 960 f = f (nI (cc + 10 * bb + 120 * whN z l)) := fun f => by
    rw [show (960 : Int32) = nI 960 from rfl, rm_n hn (by omega) (by omega), show en cc bb (whN z l) tt % 960 = cc + 10 * bb + 120 * whN z l by unfold en; omega]
  have hen : nI (cc + 10 * bb + 120 * whN z l) + 960 * (nI (bN z) + 1) = nI (en cc bb (whN z l) (bN z + 1)) := by
    rw [nI_1, show (960 : Int32) = nI 960 from rfl, nI_mul, nI_add]
    rfl
  have head : F_L_taken (nI c) (nI b) w = bd (α := Int32) ((if nI (hN z1 c) < z1 8 then some (0, wf) else bd (F_L_raked (nI c) wf) (fun x20 w19 => some (x20, w19)))) (fun o18 w17 => ald w17 10 0 9 (fun x22 => ald w17 10 0 6 (fun x23 => bd (α := Int32) ((if x22 ≤ x23 then ald w17 10 0 6 (fun x26 => some (x26, w17)) else ald w17 10 0 9 (fun x27 => some (x27, w17)))) (fun o25 w24 => ast w24 10 0 6 o25 (fun w29 => some (o18, w29)))))) := by
    unfold F_L_taken
    rw [a1 hb, hR.b b hb, hbr, s1 hb, ← ha, a2 (by omega), r2a, c7, hrm, a0_0, r0a, g0, hW.s.1, hen, s2 (by omega), ← hwb, hput, bd_s, a0_9, r0c, hP.2.2.1, s3 (by omega), ← hwd, a0_9, r0d, hP.2.2.1, nI_1, s0_9, ← hwe, ix6c3, a4 (by omega), r4e, (k4 ht).1, s4 (by omega), ← hwf, l_heap hWA hB hRA hc, bd_s, a0_7, hRA.g.2.2.2.2.2.2.2.1]
  rcases hTK with ⟨q, rfl, hM⟩ | ⟨q, rfl, z2, hK, hM⟩
  · obtain ⟨w1, e, hd1, hL⟩ := l_mo hRA (fun w29 => some ((0 : Int32), w29))
    refine ⟨w1, ?_, hd.trans hd1, hL z' hM⟩
    rw [head, if_pos q, bd_s]
    exact e
  · obtain ⟨w2, e2, hd2, hL2⟩ := l_raked hWA hB hRA hc ht1
    obtain ⟨w1, e, hd1, hL⟩ := l_mo (hL2 z2 hK) (fun w29 => some (nI (cn (bnB z1 c) (gN z1)), w29))
    refine ⟨w1, ?_, (hd.trans hd2).trans hd1, hL z' hM⟩
    rw [head, if_neg q, e2, bd_s, bd_s]
    exact e
/-! grown -/
theorem l_grown (h1 : w.1 10 0 1 = nI (gN z)) (hg : gN z < 40) (hb : b < 12) (q : Nat) : ∃ w1, F_L_grown (nI b) (nI q) w = some (nI (gN z), w1) ∧ dL w w1 ∧ w1.1 10 0 = upd (w.1 10 0) 1 (nI (gN z + 1)) ∧ w1.1 10 1 = upd (w.1 10 1) b (nI (gN z)) ∧ w1.1 10 2 = upd (w.1 10 2) (gN z) (nI (en q b 1 0)) ∧ ∀ r, 2 < r → w1.1 10 r = w.1 10 r := by
  have hn : (120 + (10 * nI b)) + nI q = nI (en q b 1 0) := by
    rw [show (120 : Int32) = nI 120 from rfl, show (10 : Int32) = nI 10 from rfl, nI_mul, nI_add, nI_add]
    congr 1
    unfold en
    omega
  refine ⟨lS (lS (lS w 2 (gN z) (nI (en q b 1 0))) 1 b (nI (gN z))) 0 1 (nI (gN z + 1)), ?_, (((dL.rf w).s _ _ _).s _ _ _).s _ _ _, ?_, ?_, ?_, fun r hr => ?_⟩
  · unfold F_L_grown
    rw [a0_1, h1, hn, s2 hg, s1 hb, a0_1, lS_ne _ _ _ (by omega), lS_ne _ _ _ (by omega), h1, nI_1, s0_1]
  · rw [lS_eq, lS_ne _ _ _ (by omega), lS_ne _ _ _ (by omega)]
  · rw [lS_ne _ _ _ (by omega), lS_eq, lS_ne _ _ _ (by omega)]
  · rw [lS_ne _ _ _ (by omega), lS_ne _ _ _ (by omega), lS_eq]
  · rw [lS_ne _ _ _ (by omega), lS_ne _ _ _ (by omega), lS_ne _ _ _ (by omega)]
theorem LR.grown (hW : WF z B T) (hR : LR z R) (hg : gN z < 40) (hb : b < 12) (hq : q < 10) (hbr : z (10 + b) = -1) (hG : GZ z b (nI q) z') (h0 : R' 0 = upd (R 0) 1 (nI (gN z + 1))) (h1 : R' 1 = upd (R 1) b (nI (gN z))) (h2 : R' 2 = upd (R 2) (gN z) (nI (en q b 1 0))) (h3 : ∀ r, 2 < r → R' r = R r) : LR z' R' := by
  have eg : gN z' = gN z + 1 := by
    show (z' 1).toNatClampNeg = _
    rw [hG.2.1, nI_clamp (by omega)]
  have hL : ∀ l k, l < gN z → k < 6 → zL z' l k = zL z l k := fun l k hl hk => hG.1 _ (by omega) (by omega) (by omega)
  have hC : ∀ d k, zC z' d k = zC z d k := fun d k => hG.1 _ (by omega) (by omega) (by omega)
  have hH : ∀ d h k, zH z' d h k = zH z d h k := fun d h k => hG.1 _ (by omega) (by omega) (by omega)
  have hZ : ∀ i, i < 10 → i ≠ 1 → z' i = z i := fun i hi hne => hG.1 i hne (by omega) (by omega)
  have eb : bN z' = bN z := by unfold bN; rw [hZ 0 (by omega) (by omega)]
  refine ⟨?_, ?_, ?_, ?_, ?_, ?_, ?_, ?_, ?_⟩
  · obtain ⟨g0, g1, g2, g3, g4, g5, g6, g7, g8⟩ := hR.g
    unfold rG
    rw [h0, hG.2.1, hZ 0 (by omega) (by omega), hZ 2 (by omega) (by omega), hZ 3 (by omega) (by omega), hZ 4 (by omega) (by omega), hZ 5 (by omega) (by omega), hZ 6 (by omega) (by omega), hZ 8 (by omega) (by omega), hZ 9 (by omega) (by omega)]
    exact ⟨g0, rfl, g2, g3, g4, g5, g6, g7, g8⟩
  · intro b' hb'
    rw [h1]
    by_cases e : b' = b
    · rw [e, upd_eq, hG.2.2.1]
    · rw [upd_ne _ _ e, hG.1 _ (by omega) (by omega) (by omega)]
      exact hR.b b' hb'
  · intro l hl
    rw [eg] at hl
    by_cases e : l = gN z
    · subst e
      refine ⟨q, b, 0, hq, hb, by omega, hG.2.2.2.1, hG.2.2.2.2.2.1, by rw [hG.2.2.2.2.2.2]; decide, ?_⟩
      rw [h2, upd_eq]
      congr 2
      unfold whN
      rw [hG.2.2.2.2.1, if_pos rfl]
    · have hl' : l < gN z := by omega
      obtain ⟨c', b', t', c1, c2, c3, c4, c5, c6, c7⟩ := hR.l l hl'
      exact ⟨c', b', t', c1, c2, by rw [eb]; exact c3, by rw [hL _ _ hl' (by omega)]; exact c4, by rw [hL _ _ hl' (by omega)]; exact c5, by rw [hL _ _ hl' (by omega)]; exact c6, by rw [h2, upd_ne _ _ e, whN_same (hL _ _ hl' (by omega)) (hL _ _ hl' (by omega))]; exact c7⟩
  · intro d hd
    simp only [hC, h3 4 (by omega)]
    exact hR.c d hd
  · intro d h hd hh
    simp only [hH, h3 5 (by omega)]
    exact hR.k d h hd hh
  · obtain ⟨hp, hP⟩ := hR.p
    refine ⟨hp, fun l => ?_, ?_, by rw [h0, upd_ne _ _ (by omega)]; exact hP.2.2.1, fun p l r => by rw [h3 3 (by omega)]; exact hP.2.2.2 p l r⟩
    · rw [hP.1 l, eg]
      constructor
      · rintro ⟨r1, r2⟩
        exact ⟨by omega, by rw [hL l 1 r1 (by omega)]; exact r2⟩
      · rintro ⟨r1, r2⟩
        by_cases e : l = gN z
        · rw [e, hG.2.2.2.2.1] at r2
          exact absurd r2 (by decide)
        · rw [hL l 1 (by omega) (by omega)] at r2
          exact ⟨by omega, r2⟩
    · refine List.Pairwise.imp_of_mem (fun {x y} hx hy r => ?_) hP.2.1
      have hx' := ((hP.1 x).mp hx).1
      have hy' := ((hP.1 y).mp hy).1
      unfold tu at r ⊢
      rw [hL _ _ hx' (by omega), hL _ _ hy' (by omega)]
      exact r
  · rw [eg]; omega
  · intro d h hd hh r
    simp only [hH] at r ⊢
    obtain ⟨l, b', hl, hb', e1, e2, e3⟩ := hk_one hW hR hd hh r
    rw [e1, e2, nI_clamp (by omega), hL l 2 hl (by omega), e3]
  · intro l b' hl hb' r1 r2
    rw [eg] at hl
    by_cases e : l = gN z
    · subst e
      rw [hG.2.2.2.2.2.1] at r2
      have : b = b' := nI_inj (by omega) (by omega) r2
      rw [← this]
      exact hG.2.2.1
    · have hl' : l < gN z := by omega
      rw [hL l 1 hl' (by omega)] at r1
      rw [hL l 2 hl' (by omega)] at r2
      have r3 := hR.e.2 l b' hl' hb' r1 r2
      by_cases e2 : b' = b
      · rw [e2, hbr] at r3
        exact absurd r3.symm (nI_m1 (by omega))
      · rw [hG.1 _ (by omega) (by omega) (by omega)]
        exact r3
end TKS
