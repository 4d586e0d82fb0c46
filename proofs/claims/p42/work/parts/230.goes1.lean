/-! a turn of the law that asks for enter, rest, ring, come, set -/
/-- as ST, and the buffer holds something afterwards -/
def STs (w : xWt) (B T : Nat) (o : Option (Int32 × xWt)) : Prop := ∃ z' w', o = some (1, w') ∧ IN z' w' B T ∧ SV1 w'
theorem STs.o {w : xWt} {B T : Nat} {o : Option (Int32 × xWt)} (h : STs w B T o) : ST w B T o := by
  obtain ⟨z', w', a, b, c⟩ := h
  exact ⟨z', w', a, b, fun _ => c⟩
theorem ix6c1 (c : Nat) : (6 * nI c) + 1 = nI (6 * c + 1) := ix6 c 1
theorem ix6c2 (c : Nat) : (6 * nI c) + 2 = nI (6 * c + 2) := ix6 c 2
theorem ix6c3 (c : Nat) : (6 * nI c) + 3 = nI (6 * c + 3) := ix6 c 3
theorem ix6c4 (c : Nat) : (6 * nI c) + 4 = nI (6 * c + 4) := ix6 c 4
theorem ix6c5 (c : Nat) : (6 * nI c) + 5 = nI (6 * c + 5) := ix6 c 5
theorem ix6c6 (c : Nat) : (6 * nI c) + 6 = nI (6 * c + 6) := ix6 c 6
theorem upd_self (f : Nat → Int32) (i : Nat) : upd f i (f i) = f := by
  funext j
  unfold upd
  split
  · rename_i h; rw [h]
  · rfl
theorem lS_same (w : xWt) (r i : Nat) {x : Int32} (h : w.1 10 r i = x) : lS w r i x = w := by
  unfold lS
  rw [← h, upd_self, sRow_self]
section G1
variable {z z' : Nat → Int32} {w w1 w' : xWt} {B T B' T' c h b l e : Nat} {a a2 a3 x4 o7 o11 v : Int32} {R R' : Nat → Nat → Int32}
theorem SV.dL (h : dL w w') (hS : SV w) : SV w' := by
  obtain ⟨s, nx, a, b, q1, q2⟩ := hS
  exact ⟨s, nx, a, b, by rw [h.2]; exact q1, by rw [h.2]; exact q2⟩
theorem ST.no (hI : IN z w B T) {o : Option (Int32 × xWt)} (e : o = some (1, w)) (hB : B ≤ B') (hT : T ≤ T') : ST w B' T' o := ⟨z, w, e, ⟨hI.1.mono hB hT, hI.2⟩, fun q => q⟩
theorem STs.ok {o : Option (Int32 × xWt)} {K : Int32 → xWt → Option (Int32 × xWt)} (h : OK z' w1 B T v o) (hR : LR z' (w1.1 10)) (hK : ∀ w', w'.1 10 = w1.1 10 → K v w' = some (1, w')) (hB : B ≤ B') (hT : T ≤ T') : STs w B' T' (bd o K) := by
  obtain ⟨h1, w', e, h3, h4, h5⟩ := h
  exact ⟨z', w', by rw [e, bd_s]; exact hK w' h5, ⟨h1.mono hB hT, h3, by rw [h5]; exact hR, h4.o⟩, h4⟩
theorem hk_lt (hW : WF z B T) (hc : c < 5) (hh : h < 3) (q : zH z c h 0 = 1) : (zH z c h 1).toNatClampNeg < 120 := by
  have h120 := hW.g120
  rcases hW.h c h hc hh with ⟨k0, -⟩ | ⟨-, l, b, hl, hb, k1, -⟩ | ⟨k0, -⟩
  · rw [q] at k0; exact absurd k0 (by decide)
  · rw [k1, nI_clamp (by omega)]; omega
  · rw [q] at k0; exact absurd k0 (by decide)
/-- a child's record but for its hooks -/
theorem LR.childC (hW : WF z B T) (hR : LR z R) (hc : c < 5) (ho : chO z z' c) (r0 : ∀ r, r < 4 → R' r = R r) (r4 : ∀ i, i < 6 * c ∨ 6 * c + 6 ≤ i → R' 4 i = R 4 i) (r5 : R' 5 = R 5)
    (hC : R' 4 (6 * c) = zC z' c 0 ∧ R' 4 (6 * c + 1) = zC z' c 1 ∧ R' 4 (6 * c + 2) = zC z' c 2 ∧ (zC z' c 0 = 1 → R' 4 (6 * c + 3) = zC z' c 3 ∧ R' 4 (6 * c + 4) = zC z' c 4 ∧ R' 4 (6 * c + 5) = zC z' c 5))
    (hH : ∀ h k, h < 3 → k < 3 → zH z' c h k = zH z c h k) : LR z' R' := by
  refine LR.child hW hR hc ho r0 r4 (fun i _ => by rw [r5]) hC (fun h hh => ?_) (fun h hh q => ?_) (fun h hh q => ?_)
  · rw [r5, hH h 0 hh (by omega), hH h 1 hh (by omega)]
    exact hR.k c h hc hh
  · rw [hH h 0 hh (by omega)] at q
    rw [hH h 2 hh (by omega), hH h 1 hh (by omega)]
    exact hR.e.1 c h hc hh q
  · rw [hH h 0 hh (by omega)] at q
    rw [hH h 1 hh (by omega)]
    exact hk_lt hW hc hh q
theorem g_enterS (hI : IN z w B T) (hc : c < 5) (ht : zC z c 0 = 1) (hy : zC z c 1 ≠ 1) : STs w (B + 1) (T + 121) (G_enter a2 a3 (nI c) x4 1 0 w) := by
  obtain ⟨hW, hY, hR, hS⟩ := hI
  have hyI : ¬ yI z c = true := fun q => hy (yI_iff.mp q)
  obtain ⟨w1, hw1⟩ : ∃ w1, w1 = lS (lS w 4 (6 * c + 1) 1) 4 (6 * c + 2) (z 0) := ⟨_, rfl⟩
  have hd : dL w w1 := by rw [hw1]; exact ((dL.rf w).s _ _ _).s _ _ _
  have hr : ∀ r, r ≠ 4 → w1.1 10 r = w.1 10 r := fun r hr => by rw [hw1, lS_ne _ _ _ hr, lS_ne _ _ _ hr]
  have h4 : w1.1 10 4 = upd (upd (w.1 10 4) (6 * c + 1) 1) (6 * c + 2) (z 0) := by rw [hw1, lS_eq, lS_eq]
  obtain ⟨k1, k2, k3, k4⟩ := hR.c c hc
  unfold G_enter
  rw [if_neg (by decide), if_pos rfl, ix6c1, s4 (by omega), a0_0, lS_ne _ _ _ (by omega), hR.g.1, ix6c2, s4 (by omega), ← hw1, bd_s]
  refine STs.ok (o_enter hW (hY.dL hd) (hS.dL hd) hc ht hyI) ?_ (fun w' e => ?_) (by omega) (by omega)
  · refine LR.childC hW hR hc ⟨fun i hi => by rw [upd_ne _ _ (by omega), upd_ne _ _ (by omega)], fun d hd5 hne k hk => by rw [zC_ne _ (by omega), zC_ne _ (by omega)]⟩ (fun r h => hr r (by omega)) (fun i hi => by rw [h4, upd_ne _ _ (by omega), upd_ne _ _ (by omega)]) (hr 5 (by omega)) ?_ (fun h k hh hk => by rw [zH_ne _ (by omega), zH_ne _ (by omega)])
    rw [h4, upd_ne _ _ (by omega), upd_ne _ _ (by omega), upd_ne _ _ (by omega), upd_eq, upd_eq, zC_ne _ (by omega), zC_ne _ (by omega), zC_ne _ (by omega), zC_eq, zC_eq]
    refine ⟨k1, rfl, rfl, fun q => ?_⟩
    obtain ⟨m1, m2, m3⟩ := k4 q
    rw [upd_ne _ _ (by omega), upd_ne _ _ (by omega), upd_ne _ _ (by omega), upd_ne _ _ (by omega), upd_ne _ _ (by omega), upd_ne _ _ (by omega), zC_ne _ (by omega), zC_ne _ (by omega), zC_ne _ (by omega), zC_ne _ (by omega), zC_ne _ (by omega), zC_ne _ (by omega)]
    exact ⟨m1, m2, m3⟩
  · rw [if_neg (by decide), if_pos rfl, a0_0, e, hr 0 (by omega), hR.g.1, bd_s, if_pos rfl]
theorem g_enter (hI : IN z w B T) (hc : c < 5) (h7 : o7 = if zC z c 0 = 1 then 1 else 0) (h11 : o11 = if zC z c 1 = 1 then 1 else 0) : ST w (B + 1) (T + 121) (G_enter a2 a3 (nI c) x4 o7 o11 w) := by
  by_cases ht : zC z c 0 = 1
  · rw [if_pos ht] at h7
    subst h7
    by_cases hy : zC z c 1 = 1
    · rw [if_pos hy] at h11
      subst h11
      refine ST.no hI ?_ (by omega) (by omega)
      unfold G_enter
      rw [if_neg (by decide), if_neg (by decide), bd_s, o_enter3 hI.1 hI.2.1 hc ht (yI_iff.mpr hy), bd_s, if_neg (by decide), if_neg (by decide), bd_s, if_pos rfl]
    · rw [if_neg hy] at h11
      subst h11
      exact (g_enterS hI hc ht hy).o
  · rw [if_neg ht] at h7
    subst h7
    refine ST.no hI ?_ (by omega) (by omega)
    unfold G_enter
    rw [if_pos rfl, bd_s, o_enter1 hI.2.1 hc ht, bd_s, if_pos rfl, bd_s, if_pos rfl]
/-! without -/
theorem wo_step (n : Nat) (w : xWt) {k : Nat} (hc : c < 5) (hk : k < 3) : L_L_without_23 (n + 1) (nI c) (nI (6 * c + 2 * k)) w = L_L_without_23 n (nI c) (nI (6 * c + 2 * (k + 1))) (lS (lS w 5 (6 * c + 2 * k) 0) 5 (6 * c + 2 * k + 1) (-1)) := by
  show B_L_without_23 (L_L_without_23 n) (nI c) (nI (6 * c + 2 * k)) w = _
  unfold B_L_without_23
  rw [ix6c6, if_neg (show ¬ nI (6 * c + 6) ≤ nI (6 * c + 2 * k) from nI_ge (by omega) (by omega)), s5 (by omega), nI_1, s5 (by omega), show nI (6 * c + 2 * k) + 2 = nI (6 * c + 2 * (k + 1)) from nI_add (6 * c + 2 * k) 2]
theorem wo_end (n : Nat) (w : xWt) (hc : c < 5) : L_L_without_23 (n + 1) (nI c) (nI (6 * c + 2 * 3)) w = some (nI (6 * c + 6), w) := by
  show B_L_without_23 (L_L_without_23 n) (nI c) (nI (6 * c + 6)) w = _
  unfold B_L_without_23
  rw [ix6c6, if_pos (Int32.le_refl _)]
theorem l_without (w : xWt) (hc : c < 5) : ∃ w1, F_L_without (nI c) w = some ((), w1) ∧ dL w w1 ∧ (∀ r, r < 4 → w1.1 10 r = w.1 10 r) ∧ w1.1 10 4 = upd (upd (w.1 10 4) (6 * c + 1) 0) (6 * c + 2) (-1) ∧ (∀ i, i < 6 * c ∨ 6 * c + 6 ≤ i → w1.1 10 5 i = w.1 10 5 i) ∧ ∀ h, h < 3 → w1.1 10 5 (6 * c + 2 * h) = 0 ∧ w1.1 10 5 (6 * c + 2 * h + 1) = -1 := by
  obtain ⟨wa, ha⟩ : ∃ wa, wa = lS (lS w 4 (6 * c + 1) 0) 4 (6 * c + 2) (-1) := ⟨_, rfl⟩
  obtain ⟨wb, hb⟩ : ∃ wb, wb = lS (lS wa 5 (6 * c + 2 * 0) 0) 5 (6 * c + 2 * 0 + 1) (-1) := ⟨_, rfl⟩
  obtain ⟨wc, hwc⟩ : ∃ wc, wc = lS (lS wb 5 (6 * c + 2 * 1) 0) 5 (6 * c + 2 * 1 + 1) (-1) := ⟨_, rfl⟩
  obtain ⟨wd, hd⟩ : ∃ wd, wd = lS (lS wc 5 (6 * c + 2 * 2) 0) 5 (6 * c + 2 * 2 + 1) (-1) := ⟨_, rfl⟩
  have e5 : wd.1 10 5 = upd (upd (upd (upd (upd (upd (w.1 10 5) (6 * c + 2 * 0) 0) (6 * c + 2 * 0 + 1) (-1)) (6 * c + 2 * 1) 0) (6 * c + 2 * 1 + 1) (-1)) (6 * c + 2 * 2) 0) (6 * c + 2 * 2 + 1) (-1) := by
    rw [hd, lS_eq, lS_eq, hwc, lS_eq, lS_eq, hb, lS_eq, lS_eq, ha, lS_ne _ _ _ (by omega), lS_ne _ _ _ (by omega)]
  refine ⟨wd, ?_, ?_, fun r hr => ?_, ?_, fun i hi => ?_, fun h hh => ?_⟩
  · unfold F_L_without
    rw [ix6c1, s4 (by omega), ix6c2, s4 (by omega), ← ha, ix60, show L_L_without_23 9999 (nI c) (nI (6 * c)) wa = some (nI (6 * c + 6), wd) from by
      rw [show (9999 : Nat) = 9995 + 1 + 1 + 1 + 1 from rfl, show nI (6 * c) = nI (6 * c + 2 * 0) from rfl, wo_step _ _ hc (by omega), ← hb, wo_step _ _ hc (by omega), ← hwc, wo_step _ _ hc (by omega), ← hd, wo_end _ _ hc], bd_s]
  · rw [hd, hwc, hb, ha]
    exact ((((((((dL.rf w).s _ _ _).s _ _ _).s _ _ _).s _ _ _).s _ _ _).s _ _ _).s _ _ _).s _ _ _
  · rw [hd, lS_ne _ _ _ (by omega), lS_ne _ _ _ (by omega), hwc, lS_ne _ _ _ (by omega), lS_ne _ _ _ (by omega), hb, lS_ne _ _ _ (by omega), lS_ne _ _ _ (by omega), ha, lS_ne _ _ _ (by omega), lS_ne _ _ _ (by omega)]
  · rw [hd, lS_ne _ _ _ (by omega), lS_ne _ _ _ (by omega), hwc, lS_ne _ _ _ (by omega), lS_ne _ _ _ (by omega), hb, lS_ne _ _ _ (by omega), lS_ne _ _ _ (by omega), ha, lS_eq, lS_eq]
  · rw [e5, upd_ne _ _ (by omega), upd_ne _ _ (by omega), upd_ne _ _ (by omega), upd_ne _ _ (by omega), upd_ne _ _ (by omega), upd_ne _ _ (by omega)]
  · rw [e5]
    obtain rfl | rfl | rfl : h = 0 ∨ h = 1 ∨ h = 2 := by omega
    · constructor
      · rw [upd_ne _ _ (by omega), upd_ne _ _ (by omega), upd_ne _ _ (by omega), upd_ne _ _ (by omega), upd_ne _ _ (by omega), upd_eq]
      · rw [upd_ne _ _ (by omega), upd_ne _ _ (by omega), upd_ne _ _ (by omega), upd_ne _ _ (by omega), upd_eq]
    · constructor
      · rw [upd_ne _ _ (by omega), upd_ne _ _ (by omega), upd_ne _ _ (by omega), upd_eq]
      · rw [upd_ne _ _ (by omega), upd_ne _ _ (by omega), upd_eq]
    · constructor
      · rw [upd_ne _ _ (by omega), upd_eq]
      · rw [upd_eq]
/-! rest -/
theorem l_145 (hR : LR z (w.1 10)) (hc : c < 5) : L_L_goes_145 9999 a2 a3 (nI c) x4 o7 o11 0 0 w = some ((nI (cn (fun h => zH z c h 0 == 2) 3), nI 3), w) := by
  refine cn_loop (fun n i s => L_L_goes_145 n a2 a3 (nI c) x4 o7 o11 (nI s) (nI i) w) (fun h => zH z c h 0 == 2) (fun s => ((nI s, nI 3), w)) 3 (fun n i s hi => ?_) (fun n s => ?_) 9999 (by omega)
  · show B_L_goes_145 (L_L_goes_145 n) a2 a3 (nI c) x4 o7 o11 (nI s) (nI i) w = _
    unfold B_L_goes_145
    rw [if_neg (show ¬ (3 : Int32) ≤ nI i from nI_ge (b := 3) hi (by omega)), ix62, a5 (by omega), (hR.k c i hc hi).1, nI_1]
    by_cases q : zH z c i 0 = 2
    · rw [if_pos q, bd_s, nI_1, if_pos (by simp [q])]
    · rw [if_neg q, bd_s, nI_add0, if_neg (by simp [q])]
  · show B_L_goes_145 (L_L_goes_145 n) a2 a3 (nI c) x4 o7 o11 (nI s) (nI 3) w = _
    unfold B_L_goes_145
    rw [if_pos (show (3 : Int32) ≤ nI 3 from Int32.le_refl _)]
theorem RZ.ho (h : RZ z c z') (hc : c < 5) : chO z z' c := ⟨fun i hi => h.2.2.2 i (by omega) (by omega), fun d hd hne k hk => h.2.2.2 _ (by omega) (by omega)⟩
theorem g_rest (hI : IN z w B T) (hc : c < 5) (h7 : o7 = if zC z c 0 = 1 then 1 else 0) (h11 : o11 = if zC z c 1 = 1 then 1 else 0) : ST w (B + 1) (T + 121) (G_rest a2 a3 (nI c) x4 o7 o11 w) := by
  have hI0 := hI
  obtain ⟨hW, hY, hR, hS⟩ := hI
  by_cases ht : zC z c 0 = 1
  · rw [if_pos ht] at h7
    subst h7
    by_cases hy : zC z c 1 = 1
    · rw [if_pos hy] at h11
      subst h11
      obtain ⟨w1, e1, hd, hr, h4, h5, h6⟩ := l_without w hc
      obtain ⟨z', hZ, hO⟩ := o_rest hW (hY.dL hd) (hS.dL hd) hc ht (yI_iff.mpr hy)
      obtain ⟨k1, k2, k3, k4⟩ := hR.c c hc
      unfold G_rest
      rw [l_145 hR hc, bd_s, if_neg (by decide), e1, bd_s, bd_s]
      refine (STs.ok hO ?_ (fun w' e => ?_) (by omega) (by omega)).o
      · have hC : ∀ k, k ≠ 1 → k ≠ 2 → k < 6 → zC z' c k = zC z c k := fun k q1 q2 q3 => hZ.2.2.2 _ (by omega) (by omega)
        refine LR.child hW hR hc (hZ.ho hc) hr (fun i hi => by rw [h4, upd_ne _ _ (by omega), upd_ne _ _ (by omega)]) h5 ?_ (fun h hh => ?_) (fun h hh q => ?_) (fun h hh q => ?_)
        · rw [h4, upd_ne _ _ (by omega), upd_ne _ _ (by omega), upd_ne _ _ (by omega), upd_eq, upd_eq, hC 0 (by omega) (by omega) (by omega), hZ.2.1, hZ.2.2.1]
          refine ⟨k1, rfl, rfl, fun q => ?_⟩
          obtain ⟨m1, m2, m3⟩ := k4 q
          rw [upd_ne _ _ (by omega), upd_ne _ _ (by omega), upd_ne _ _ (by omega), upd_ne _ _ (by omega), upd_ne _ _ (by omega), upd_ne _ _ (by omega), hC 3 (by omega) (by omega) (by omega), hC 4 (by omega) (by omega) (by omega), hC 5 (by omega) (by omega) (by omega)]
          exact ⟨m1, m2, m3⟩
        · rw [(hZ.1 h hh).1, (hZ.1 h hh).2.1]
          exact h6 h hh
        · rw [(hZ.1 h hh).1] at q; exact absurd q (by decide)
        · rw [(hZ.1 h hh).1] at q; exact absurd q (by decide)
      · rw [if_neg (by decide), if_neg (by decide), bd_s, if_pos rfl]
    · rw [if_neg hy] at h11
      subst h11
      refine ST.no hI0 ?_ (by omega) (by omega)
      unfold G_rest
      rw [l_145 hR hc, bd_s, if_pos rfl, bd_s, o_rest3 hW hY hc ht (fun q => hy (yI_iff.mp q)), bd_s, if_neg (by decide), if_pos rfl, bd_s, if_pos rfl]
  · have hy : zC z c 1 ≠ 1 := fun q => by
      have r := (hW.abs hc ht).1
      rw [yI_iff.mpr q] at r
      exact absurd r (by decide)
    rw [if_neg ht] at h7
    rw [if_neg hy] at h11
    subst h7 h11
    refine ST.no hI0 ?_ (by omega) (by omega)
    unfold G_rest
    rw [l_145 hR hc, bd_s, if_pos rfl, bd_s, o_rest1 hY hc ht, bd_s, if_pos rfl, bd_s, if_pos rfl]
/-! ring -/
theorem g_ring (hI : IN z w B T) (h18 : B < 2 ^ 18) {x2 : Int32} : ST w (B + 1) (T + 121) (G_ring a2 a3 x2 x4 o7 o11 w) := by
  have hI0 := hI
  obtain ⟨hW, hY, hR, hS⟩ := hI
  unfold G_ring
  rw [l_late hR, bd_s]
  by_cases q : mk (lO z) 5 = 0
  · obtain ⟨w1, hw1⟩ : ∃ w1, w1 = lS w 0 0 (z 0 + 1) := ⟨_, rfl⟩
    have hd : dL w w1 := by rw [hw1]; exact (dL.rf w).s _ _ _
    have hr : ∀ r, 0 < r → w1.1 10 r = w.1 10 r := fun r hr => by rw [hw1, lS_ne _ _ _ (by omega)]
    have h0 : w1.1 10 0 = upd (w.1 10 0) 0 (z 0 + 1) := by rw [hw1, lS_eq]
    have hb0 : z 0 = nI (bN z) := hW.s.1
    have hbB := hW.s.2.1
    rw [if_pos q, bd_s, a0_0, hR.g.1, if_neg (by decide), bd_s, s0_0, ← hw1]
    refine (STs.ok (o_ring hW h18 (hY.dL hd) (hS.dL hd) q) ?_ (fun w' e => ?_) (by omega) (by omega)).o
    · refine LR.glob hR (fun i h0 _ _ _ => upd_ne _ _ h0) ?_ hr (by rw [h0, upd_ne _ _ (by omega)]) ?_
      · unfold bN
        rw [upd_eq, hb0, nI_1, nI_clamp (by omega), nI_clamp (by omega)]
        omega
      · obtain ⟨g0, g1, g2, g3, g4, g5, g6, g7, g8⟩ := hR.g
        unfold rG
        rw [h0]
        exact ⟨by rw [upd_eq, upd_eq], by rw [upd_ne _ _ (by omega), upd_ne _ _ (by omega)]; exact g1, by rw [upd_ne _ _ (by omega), upd_ne _ _ (by omega)]; exact g2, by rw [upd_ne _ _ (by omega), upd_ne _ _ (by omega)]; exact g3, by rw [upd_ne _ _ (by omega), upd_ne _ _ (by omega)]; exact g4, by rw [upd_ne _ _ (by omega), upd_ne _ _ (by omega)]; exact g5, by rw [upd_ne _ _ (by omega), upd_ne _ _ (by omega)]; exact g6, by rw [upd_ne _ _ (by omega), upd_ne _ _ (by omega)]; exact g7, by rw [upd_ne _ _ (by omega), upd_ne _ _ (by omega)]; exact g8⟩
    · rw [if_neg (by decide), a0_0, e, h0, upd_eq, bd_s, if_pos rfl]
  · have e : lS w 0 0 (z 0 + 0) = w := lS_same w 0 0 (by rw [hR.g.1]; grind)
    refine ST.no hI0 ?_ (by omega) (by omega)
    rw [if_neg q, bd_s, a0_0, hR.g.1, if_pos rfl, bd_s, s0_0, e, o_ring3 hW hY q, bd_s, if_pos rfl, bd_s, if_pos rfl]
end G1
