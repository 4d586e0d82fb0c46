/-! the relation after a raking, and the most aside -/
section RKE
variable {z z' z1 : Nat → Int32} {w w1 w' : xWt} {B T B' T' c h b l e i : Nat} {a a2 a3 x2 x4 x9 v x y t : Int32} {R R' : Nat → Nat → Int32} {hp : List Nat}
theorem RK.L (hK : RK z c z') {l k : Nat} (hl : l < 120) (hk : k < 6) (h1 : k ≠ 1) : zL z' l k = zL z l k := hK.2.1 _ (fun m hm => by omega) (by omega) (by omega) (by omega) (by omega)
theorem RK.C (hK : RK z c z') {d k : Nat} (hk : k < 15) (hne : d ≠ c ∨ (k ≠ 4 ∧ k ≠ 5)) : zC z' d k = zC z d k := hK.2.1 _ (fun m hm => by omega) (by omega) (by omega) (by omega) (by omega)
theorem RK.H (hK : RK z c z') {d h k : Nat} (hh : h < 3) (hk : k < 3) : zH z' d h k = zH z d h k := hK.2.1 _ (fun m hm => by omega) (by omega) (by omega) (by omega) (by omega)
theorem RK.G (hK : RK z c z') {i : Nat} (hi : i < 22) (h2 : i ≠ 2) (h3 : i ≠ 3) : z' i = z i := hK.2.1 _ (fun m hm => by omega) h2 h3 (by omega) (by omega)
theorem LR.raked (hW : WF z B T) (hR : LR z R) (hP : rP z R hp) (hc : c < 5) (hK : RK z c z') (ht : t = if z 9 = 0 then 3 * nI (cn (ch z) 5) else 0) (h0 : R' 0 = upd (upd (upd (R 0) 9 (nI (hp.filter (kp z c)).length)) 2 (z 2 + 1)) 3 (z 3 + t)) (h1 : R' 1 = R 1) (h2 : ∀ l, l < gN z → rLe z R' l (if l ∈ hp ∧ bnB z c l = true then 0 else whN z l)) (h3 : ∀ p l, (hp.filter (kp z c))[p]? = some l → R' 3 p = nI l) (h4 : R' 4 = upd (upd (R 4) (6 * c + 4) (zC z c 4 + nI (cn (bnB z c) (gN z)))) (6 * c + 5) (zC z c 5 + 1)) (h5 : R' 5 = R 5) : LR z' R' := by
  have h120 := hW.g120
  have eg : gN z' = gN z := by unfold gN; rw [hK.G (by omega) (by omega) (by omega)]
  have eb : bN z' = bN z := by unfold bN; rw [hK.G (by omega) (by omega) (by omega)]
  have hwh : ∀ l, l < gN z → whN z' l = if l ∈ hp ∧ bnB z c l = true then 0 else whN z l := fun l hl => by
    by_cases q : bnB z c l = true
    · have hm : l ∈ hp := by
        refine (hP.1 l).mpr ⟨hl, ?_⟩
        unfold bnB at q
        rw [Bool.and_eq_true] at q
        exact (oB_iff.mp q.1).1
      have e1 : zL z' l 1 = 2 := by rw [hK.1 l (by omega), if_pos ⟨hl, q⟩]
      rw [if_pos ⟨hm, q⟩]
      unfold whN
      rw [e1, if_neg (by decide), if_pos rfl]
    · rw [if_neg (fun r => q r.2)]
      exact whN_same (by rw [hK.1 l (by omega), if_neg (fun r => q r.2)]) (hK.L (by omega) (by omega) (by omega))
  refine ⟨?_, ?_, ?_, ?_, ?_, ?_, ?_, ?_, ?_⟩
  · obtain ⟨g0, g1, g2, g3, g4, g5, g6, g7, g8⟩ := hR.g
    unfold rG
    rw [h0, hK.2.2.1, hK.2.2.2.1, ← ht, hK.G (i := 0) (by omega) (by omega) (by omega), hK.G (i := 1) (by omega) (by omega) (by omega), hK.G (i := 4) (by omega) (by omega) (by omega), hK.G (i := 5) (by omega) (by omega) (by omega), hK.G (i := 6) (by omega) (by omega) (by omega), hK.G (i := 8) (by omega) (by omega) (by omega), hK.G (i := 9) (by omega) (by omega) (by omega)]
    exact ⟨g0, g1, rfl, rfl, g4, g5, g6, g7, g8⟩
  · intro b hb
    rw [h1, hK.G (by omega) (by omega) (by omega)]
    exact hR.b b hb
  · intro l hl
    rw [eg] at hl
    obtain ⟨c', b', t', c1, c2, c3, c4, c5, c6, c7⟩ := h2 l hl
    exact ⟨c', b', t', c1, c2, by rw [eb]; exact c3, by rw [hK.L (by omega) (by omega) (by omega)]; exact c4, by rw [hK.L (by omega) (by omega) (by omega)]; exact c5, by rw [hK.L (by omega) (by omega) (by omega)]; exact c6, by rw [hwh l hl]; exact c7⟩
  · intro d hd
    by_cases e : d = c
    · subst e
      obtain ⟨k1, k2, k3, k4⟩ := hR.c d hd
      rw [h4, hK.C (k := 0) (by omega) (by omega), hK.C (k := 1) (by omega) (by omega), hK.C (k := 2) (by omega) (by omega), hK.C (k := 3) (by omega) (by omega), hK.2.2.2.2.1, hK.2.2.2.2.2, upd_ne _ _ (by omega), upd_ne _ _ (by omega), upd_ne _ _ (by omega), upd_ne _ _ (by omega), upd_ne _ _ (by omega), upd_ne _ _ (by omega), upd_ne _ _ (by omega), upd_ne _ _ (by omega), upd_ne _ _ (by omega), upd_eq, upd_eq]
      exact ⟨k1, k2, k3, fun q => ⟨(k4 q).1, rfl, rfl⟩⟩
    · rw [h4, upd_ne _ _ (by omega), upd_ne _ _ (by omega), upd_ne _ _ (by omega), upd_ne _ _ (by omega), upd_ne _ _ (by omega), upd_ne _ _ (by omega), upd_ne _ _ (by omega), upd_ne _ _ (by omega), upd_ne _ _ (by omega), upd_ne _ _ (by omega), upd_ne _ _ (by omega), upd_ne _ _ (by omega), hK.C (k := 0) (by omega) (Or.inl e), hK.C (k := 1) (by omega) (Or.inl e), hK.C (k := 2) (by omega) (Or.inl e), hK.C (k := 3) (by omega) (Or.inl e), hK.C (k := 4) (by omega) (Or.inl e), hK.C (k := 5) (by omega) (Or.inl e)]
      exact hR.c d hd
  · intro d h hd hh
    rw [h5, hK.H hh (by omega), hK.H hh (by omega)]
    exact hR.k d h hd hh
  · refine ⟨hp.filter (kp z c), fun l => ?_, ?_, ?_, h3⟩
    · rw [List.mem_filter, hP.1 l, eg]
      constructor
      · rintro ⟨⟨q1, q2⟩, q3⟩
        refine ⟨q1, ?_⟩
        rw [hK.1 l (by omega), if_neg (fun r => by
          unfold kp at q3
          rw [r.2] at q3
          exact absurd q3 (by decide))]
        exact q2
      · rintro ⟨q1, q2⟩
        rw [hK.1 l (by omega)] at q2
        by_cases q : bnB z c l = true
        · rw [if_pos ⟨q1, q⟩] at q2
          exact absurd q2 (by decide)
        · rw [if_neg (fun r => q r.2)] at q2
          exact ⟨⟨q1, q2⟩, by unfold kp; rw [Bool.eq_false_iff.mpr q]; rfl⟩
    · refine List.Pairwise.imp_of_mem (fun {x y} hx hy q => ?_) (hP.2.1.filter _)
      have hx' := ((hP.1 x).mp (List.mem_filter.mp hx).1).1
      have hy' := ((hP.1 y).mp (List.mem_filter.mp hy).1).1
      unfold tu at q ⊢
      rw [hK.L (by omega) (by omega) (by omega), hK.L (by omega) (by omega) (by omega)]
      exact q
    · rw [h0, upd_ne _ _ (by omega), upd_ne _ _ (by omega), upd_eq]
  · rw [eg]; exact hR.n
  · intro d h hd hh q
    rw [hK.H hh (by omega)] at q
    rw [hK.H hh (by omega), hK.H hh (by omega), hK.L (hk_lt hW hd hh q) (by omega) (by omega)]
    exact hR.e.1 d h hd hh q
  · intro l b hl hb q1 q2
    rw [eg] at hl
    rw [hK.1 l (by omega)] at q1
    rw [hK.L (by omega) (by omega) (by omega)] at q2
    rw [hK.G (by omega) (by omega) (by omega)]
    by_cases q : bnB z c l = true
    · rw [if_pos ⟨hl, q⟩] at q1
      exact absurd q1 (by decide)
    · rw [if_neg (fun r => q r.2)] at q1
      exact hR.e.2 l b hl hb q1 q2
theorem l_raked (hW : WF z B T) (hB : B < 2 ^ 18) (hR : LR z (w.1 10)) (hc : c < 5) (ht : zC z c 0 = 1) : ∃ w1, F_L_raked (nI c) w = some (nI (cn (bnB z c) (gN z)), w1) ∧ dL w w1 ∧ ∀ z', RK z c z' → LR z' (w1.1 10) := by
  obtain ⟨hp, hP⟩ := hR.p
  obtain ⟨wa, e1, hd, hr, hL, hk, -⟩ := rj_loop hW hB hR hP hc hp.length 0 9999 w (by omega) (by have := hP.le; have := hR.n; omega) (rj_0 hR hP)
  have hlen := kp_len hP c
  obtain ⟨K, hKd⟩ : ∃ K, K = (hp.filter (kp z c)).length := ⟨_, rfl⟩
  obtain ⟨t, htd⟩ : ∃ t : Int32, t = if z 9 = 0 then 3 * nI (cn (ch z) 5) else 0 := ⟨_, rfl⟩
  obtain ⟨wb, hb⟩ : ∃ wb, wb = lS wa 0 9 (nI K) := ⟨_, rfl⟩
  obtain ⟨wc, hwc⟩ : ∃ wc, wc = lS wb 0 2 (z 2 + 1) := ⟨_, rfl⟩
  obtain ⟨wd, hwd⟩ : ∃ wd, wd = lS wc 0 3 (z 3 + t) := ⟨_, rfl⟩
  obtain ⟨we, hwe⟩ : ∃ we, we = lS wd 4 (6 * c + 4) (zC z c 4 + nI (cn (bnB z c) (gN z))) := ⟨_, rfl⟩
  obtain ⟨wf, hwf⟩ : ∃ wf, wf = lS we 4 (6 * c + 5) (zC z c 5 + 1) := ⟨_, rfl⟩
  obtain ⟨g0, g1, g2, g3, g4, g5, g6, g7, g8⟩ := hR.g
  have r0a : wa.1 10 0 = w.1 10 0 := hr 0 (by omega) (by omega)
  have r4a : wa.1 10 4 = w.1 10 4 := hr 4 (by omega) (by omega)
  have r0c : wc.1 10 0 = upd (upd (w.1 10 0) 9 (nI K)) 2 (z 2 + 1) := by rw [hwc, lS_eq, hb, lS_eq, r0a]
  have r4d : wd.1 10 4 = w.1 10 4 := by rw [hwd, lS_ne _ _ _ (by omega), hwc, lS_ne _ _ _ (by omega), hb, lS_ne _ _ _ (by omega), r4a]
  have r4c : wc.1 10 4 = w.1 10 4 := by rw [hwc, lS_ne _ _ _ (by omega), hb, lS_ne _ _ _ (by omega), r4a]
  obtain ⟨k1, k2, k3, k4⟩ := hR.c c hc
  obtain ⟨m1, m2, m3⟩ := k4 ht
  have hsub : nI hp.length - nI K = nI (cn (bnB z c) (gN z)) := by
    rw [nI_sub (by omega)]
    congr 1
    omega
  have hch : (if z 9 = 0 then bd (F_L_children wc) (fun x26 w25 => some ((3 * x26), w25)) else some (0, wc)) = some (t, wc) := by
    by_cases q : z 9 = 0
    · rw [if_pos q, l_childrenC hW (by unfold rC; rw [r4c]; exact hR.c), bd_s, htd, if_pos q]
    · rw [if_neg q, htd, if_neg q]
  refine ⟨wf, ?_, ?_, fun z' hK => ?_⟩
  · unfold F_L_raked
    rw [a0_9, hP.2.2.1, show L_L_raked_12 9999 (nI c) 0 (nI hp.length) 0 w = some ((nI K, nI hp.length), wa) from by rw [hKd]; exact e1, bd_s]
    dsimp only
    rw [hsub, s0_9, ← hb, a0_2, show wb.1 10 0 2 = z 2 from by rw [hb, lS_eq, r0a, upd_ne _ _ (by omega)]; exact g2, s0_2, ← hwc, a0_3, r0c, upd_ne _ _ (by omega), upd_ne _ _ (by omega), g3, a0_8, r0c, upd_ne _ _ (by omega), upd_ne _ _ (by omega), g8, hch, bd_s, s0_3, ← hwd, ix6c4, a4 (by omega), r4d, m2, s4 (by omega), ← hwe, ix6c5, a4 (by omega), show we.1 10 4 (6 * c + 5) = zC z c 5 from by rw [hwe, lS_eq, upd_ne _ _ (by omega), r4d]; exact m3, s4 (by omega), ← hwf]
  · rw [hwf, hwe, hwd, hwc, hb]
    exact ((((hd.s _ _ _).s _ _ _).s _ _ _).s _ _ _).s _ _ _
  · refine LR.raked hW hR hP hc hK htd ?_ ?_ (fun l hl => ?_) (fun p l q => ?_) ?_ ?_
    · rw [hwf, lS_ne _ _ _ (by omega), hwe, lS_ne _ _ _ (by omega), hwd, lS_eq, r0c, hKd]
    · rw [hwf, lS_ne _ _ _ (by omega), hwe, lS_ne _ _ _ (by omega), hwd, lS_ne _ _ _ (by omega), hwc, lS_ne _ _ _ (by omega), hb, lS_ne _ _ _ (by omega), hr 1 (by omega) (by omega)]
    · have := hL l hl
      rw [List.take_length] at this
      unfold rLe at this ⊢
      rw [hwf, lS_ne _ _ _ (by omega), hwe, lS_ne _ _ _ (by omega), hwd, lS_ne _ _ _ (by omega), hwc, lS_ne _ _ _ (by omega), hb, lS_ne _ _ _ (by omega)]
      exact this
    · rw [List.take_length] at hk
      rw [hwf, lS_ne _ _ _ (by omega), hwe, lS_ne _ _ _ (by omega), hwd, lS_ne _ _ _ (by omega), hwc, lS_ne _ _ _ (by omega), hb, lS_ne _ _ _ (by omega)]
      exact hk p l q
    · rw [hwf, lS_eq, hwe, lS_eq, r4d]
    · rw [hwf, lS_ne _ _ _ (by omega), hwe, lS_ne _ _ _ (by omega), hwd, lS_ne _ _ _ (by omega), hwc, lS_ne _ _ _ (by omega), hb, lS_ne _ _ _ (by omega), hr 5 (by omega) (by omega)]
theorem LR.cnt6 (hR : LR z R) (x : Int32) (rr : ∀ r, 0 < r → R' r = R r) (h0 : R' 0 = upd (R 0) 6 x) : LR (upd z 6 x) R' := by
  refine LR.glob hR (fun i _ h _ _ => upd_ne _ _ (by omega)) (by unfold bN; rw [upd_ne _ _ (by omega)]; exact Nat.le_refl _) rr (by rw [h0, upd_ne _ _ (by omega)]) ?_
  obtain ⟨g0, g1, g2, g3, g4, g5, g6, g7, g8⟩ := hR.g
  unfold rG
  rw [h0]
  exact ⟨by rw [upd_ne _ _ (by omega), upd_ne _ _ (by omega)]; exact g0, by rw [upd_ne _ _ (by omega), upd_ne _ _ (by omega)]; exact g1, by rw [upd_ne _ _ (by omega), upd_ne _ _ (by omega)]; exact g2, by rw [upd_ne _ _ (by omega), upd_ne _ _ (by omega)]; exact g3, by rw [upd_ne _ _ (by omega), upd_ne _ _ (by omega)]; exact g4, by rw [upd_ne _ _ (by omega), upd_ne _ _ (by omega)]; exact g5, by rw [upd_eq, upd_eq], by rw [upd_ne _ _ (by omega), upd_ne _ _ (by omega)]; exact g7, by rw [upd_ne _ _ (by omega), upd_ne _ _ (by omega)]; exact g8⟩
/-- the most aside -/
theorem l_mo {β : Type} (hR : LR z (w.1 10)) (f : xWt → Option β) : ∃ w1, ald w 10 0 9 (fun x22 => ald w 10 0 6 (fun x23 => bd (α := Int32) ((if x22 ≤ x23 then ald w 10 0 6 (fun x26 => some (x26, w)) else ald w 10 0 9 (fun x27 => some (x27, w)))) (fun o25 w24 => ast w24 10 0 6 o25 f))) = f w1 ∧ dL w w1 ∧ ∀ z', MO z z' → LR z' (w1.1 10) := by
  obtain ⟨hp, hP⟩ := hR.p
  have e9 : w.1 10 0 9 = nI (asN z) := by
    rw [hP.2.2.1]
    unfold asN
    rw [hP.len]
  have e6 : w.1 10 0 6 = z 6 := hR.g.2.2.2.2.2.2.1
  refine ⟨lS w 0 6 (if nI (asN z) ≤ z 6 then z 6 else nI (asN z)), ?_, (dL.rf w).s _ _ _, fun z' hM => ?_⟩
  · rw [a0_9, e9, a0_6, e6]
    by_cases q : nI (asN z) ≤ z 6
    · rw [if_pos q, if_pos q, a0_6, e6, bd_s, s0_6]
    · rw [if_neg q, if_neg q, a0_9, e9, bd_s, s0_6]
  · unfold MO at hM
    rw [hM]
    exact hR.cnt6 _ (fun r hr => lS_ne _ _ _ (by omega)) (lS_eq _ _ _ _)
end RKE
