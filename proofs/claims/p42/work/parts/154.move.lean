/-! a heap that another child takes over -/
/-- z' is z with the first j leaves of the list moved to heap e -/
def MZ (z : Nat → Int32) (e : Nat) (hl : List Nat) (j : Nat) (z' : Nat → Int32) : Prop := (∀ p l, hl[p]? = some l → p < j → zL z' l 4 = nI e ∧ zL z' l 5 = nI (tN z + p)) ∧ (∀ l k, l < 120 → k < 6 → (k ≠ 4 ∧ k ≠ 5) ∨ l ∉ hl.take j → zL z' l k = zL z l k) ∧ z' 7 = nI (tN z + j) ∧ ∀ i, i < 22 → i ≠ 7 → z' i = z i
section MV
variable {z z' : Nat → Int32} {L i B T b c e l j : Nat} {w w' : xWt} {a : Int32} {hl hr : List Nat}
theorem WF.turn (hW : WF z B T) (hl : l < gN z) (h1 : zL z l 1 = 1) : ∃ t, t < tN z ∧ zL z l 5 = nI t := by
  rcases hW.l l hl with q | q | ⟨-, d, s, t, r1, r2, r3, r4, r5, r6, r7⟩
  · rw [h1] at q; exact absurd q (by decide)
  · rw [h1] at q; exact absurd q (by decide)
  · exact ⟨t, r3, r6⟩
theorem mem_take_ix {x : Nat} (h : x ∈ hl.take j) : ∃ p, p < j ∧ hl[p]? = some x := by
  obtain ⟨p, hp⟩ := List.getElem?_of_mem h
  have hlt := (List.getElem?_eq_some_iff.mp hp).1
  rw [List.length_take] at hlt
  have hpj : p < j := by omega
  rw [List.getElem?_take_of_lt hpj] at hp
  exact ⟨p, hpj, hp⟩
theorem td_ne {f : Nat → Nat} (hp : hl.Pairwise (fun a b => f a < f b)) (j : Nat) {x : Nat} (h : x ∈ hl.drop j) : x ∉ hl.take j := by
  rw [← List.take_append_drop j hl, List.pairwise_append] at hp
  intro q
  exact absurd (hp.2.2 x q x h) (Nat.lt_irrefl _)
theorem MZ.g (h : MZ z e hl j z') : gN z' = gN z := by unfold gN; rw [h.2.2.2 1 (by omega) (by omega)]
theorem MZ.same (h : MZ z e hl j z') {k : Nat} (hl' : l < 120) (hk : k < 6) (h2 : (k ≠ 4 ∧ k ≠ 5) ∨ l ∉ hl) : zL z' l k = zL z l k :=
  h.2.1 l k hl' hk (h2.imp id (fun q r => q (List.mem_of_mem_take r)))
theorem MZ.HLc (h : MZ z e hl j z') (h120 : gN z ≤ 120) (hc : c < 5) (he : e < 5) (hne : e ≠ c) (hH : HL z c hl) : HL z' c (hl.drop j) := by
  refine ⟨fun x => ?_, ?_⟩
  · rw [h.g]
    constructor
    · intro q
      obtain ⟨q1, q2⟩ := (hH.1 x).mp (List.mem_of_mem_drop q)
      have q3 := td_ne hH.2 j q
      refine ⟨q1, oB_iff.mpr ?_⟩
      rw [h.2.1 x 1 (by omega) (by omega) (Or.inr q3), h.2.1 x 4 (by omega) (by omega) (Or.inr q3)]
      exact oB_iff.mp q2
    · rintro ⟨q1, q2⟩
      obtain ⟨q3, q4⟩ := oB_iff.mp q2
      rw [h.2.1 x 1 (by omega) (by omega) (Or.inl (by omega))] at q3
      by_cases r : x ∈ hl.take j
      · obtain ⟨p, hp, hx⟩ := mem_take_ix r
        rw [(h.1 p x hx hp).1] at q4
        exact absurd (nI_inj (by omega) (by omega) q4) hne
      · rw [h.2.1 x 4 (by omega) (by omega) (Or.inr r)] at q4
        have hm := (hH.1 x).mpr ⟨q1, oB_iff.mpr ⟨q3, q4⟩⟩
        rw [← List.take_append_drop j hl] at hm
        exact (List.mem_append.mp hm).resolve_left r
  · refine List.Pairwise.imp_of_mem (fun {x y} hx hy q => ?_) (hH.2.sublist (List.drop_sublist j hl))
    have hx' := ((hH.1 x).mp (List.mem_of_mem_drop hx)).1
    have hy' := ((hH.1 y).mp (List.mem_of_mem_drop hy)).1
    unfold tu at q ⊢
    rw [h.2.1 x 5 (by omega) (by omega) (Or.inr (td_ne hH.2 j hx)), h.2.1 y 5 (by omega) (by omega) (Or.inr (td_ne hH.2 j hy))]
    exact q
theorem MZ.HLe (hW : WF z B T) (hT : T < 2 ^ 30) (h : MZ z e hl hl.length z') (hc : c < 5) (he : e < 5) (hne : e ≠ c) (hH : HL z c hl) (hR : HL z e hr) : HL z' e (hr ++ hl) := by
  have h120 := hW.g120
  have hlen := hH.le h120
  have htN := hW.s.2.2.2.2.2.1
  have hdis : ∀ x, x ∈ hr → x ∉ hl := fun x hx q => by
    have q1 := (oB_iff.mp ((hH.1 x).mp q).2).2
    have q2 := (oB_iff.mp ((hR.1 x).mp hx).2).2
    exact hne (nI_inj (by omega) (by omega) (q2.symm.trans q1))
  have hix : ∀ x, x ∈ hl → ∃ p, p < hl.length ∧ hl[p]? = some x := fun x hx => by
    obtain ⟨p, hp⟩ := List.getElem?_of_mem hx
    exact ⟨p, (List.getElem?_eq_some_iff.mp hp).1, hp⟩
  have htr : ∀ x, x ∈ hr → tu z' x = tu z x ∧ tu z x < tN z := fun x hx => by
    obtain ⟨q1, q2⟩ := (hR.1 x).mp hx
    obtain ⟨t, t1, t2⟩ := hW.turn q1 (oB_iff.mp q2).1
    unfold tu
    rw [h.same (by omega) (by omega) (Or.inr (hdis x hx)), t2, nI_clamp (by omega)]
    exact ⟨rfl, t1⟩
  have htl : ∀ p x, hl[p]? = some x → tu z' x = tN z + p := fun p x hx => by
    have hp := (List.getElem?_eq_some_iff.mp hx).1
    unfold tu
    rw [(h.1 p x hx hp).2, nI_clamp (by omega)]
  refine ⟨fun x => ?_, ?_⟩
  · rw [List.mem_append, h.g]
    constructor
    · rintro (q | q)
      · obtain ⟨q1, q2⟩ := (hR.1 x).mp q
        refine ⟨q1, oB_iff.mpr ?_⟩
        rw [h.same (by omega) (by omega) (Or.inr (hdis x q)), h.same (by omega) (by omega) (Or.inr (hdis x q))]
        exact oB_iff.mp q2
      · obtain ⟨q1, q2⟩ := (hH.1 x).mp q
        obtain ⟨p, hp, hx⟩ := hix x q
        refine ⟨q1, oB_iff.mpr ⟨?_, (h.1 p x hx hp).1⟩⟩
        rw [h.same (by omega) (by omega) (Or.inl (by omega))]
        exact (oB_iff.mp q2).1
    · rintro ⟨q1, q2⟩
      obtain ⟨q3, q4⟩ := oB_iff.mp q2
      by_cases r : x ∈ hl
      · exact Or.inr r
      · rw [h.same (by omega) (by omega) (Or.inr r)] at q3 q4
        exact Or.inl ((hR.1 x).mpr ⟨q1, oB_iff.mpr ⟨q3, q4⟩⟩)
  · rw [List.pairwise_append]
    refine ⟨?_, ?_, fun x hx y hy => ?_⟩
    · refine List.Pairwise.imp_of_mem (fun {x y} hx hy q => ?_) hR.2
      rw [(htr x hx).1, (htr y hy).1]
      exact q
    · rw [List.pairwise_iff_getElem]
      intro p q hp hq hpq
      rw [htl p _ (List.getElem?_eq_getElem hp), htl q _ (List.getElem?_eq_getElem hq)]
      omega
    · obtain ⟨p, hp, hy'⟩ := hix y hy
      rw [(htr x hx).1, htl p y hy']
      have := (htr x hx).2
      omega
theorem MZ.HLo (hW : WF z B T) (h : MZ z e hl hl.length z') {d : Nat} {hd : List Nat} (hc : c < 5) (he : e < 5) (hd5 : d < 5) (h1 : d ≠ c) (h2 : d ≠ e) (hH : HL z c hl) (hD : HL z d hd) : HL z' d hd := by
  have h120 := hW.g120
  have hdis : ∀ x, x ∈ hd → x ∉ hl := fun x hx q => by
    have q1 := (oB_iff.mp ((hH.1 x).mp q).2).2
    have q2 := (oB_iff.mp ((hD.1 x).mp hx).2).2
    exact h1 (nI_inj (by omega) (by omega) (q2.symm.trans q1))
  refine ⟨fun x => ?_, ?_⟩
  · rw [h.g]
    constructor
    · intro q
      obtain ⟨q1, q2⟩ := (hD.1 x).mp q
      refine ⟨q1, oB_iff.mpr ?_⟩
      rw [h.same (by omega) (by omega) (Or.inr (hdis x q)), h.same (by omega) (by omega) (Or.inr (hdis x q))]
      exact oB_iff.mp q2
    · rintro ⟨q1, q2⟩
      obtain ⟨q3, q4⟩ := oB_iff.mp q2
      by_cases r : x ∈ hl
      · obtain ⟨p, hp⟩ := List.getElem?_of_mem r
        rw [(h.1 p x hp (List.getElem?_eq_some_iff.mp hp).1).1] at q4
        exact absurd (nI_inj (by omega) (by omega) q4).symm h2
      · rw [h.same (by omega) (by omega) (Or.inr r)] at q3 q4
        exact (hD.1 x).mpr ⟨q1, oB_iff.mpr ⟨q3, q4⟩⟩
  · refine List.Pairwise.imp_of_mem (fun {x y} hx hy q => ?_) hD.2
    have hx' := ((hD.1 x).mp hx).1
    have hy' := ((hD.1 y).mp hy).1
    unfold tu at q ⊢
    rw [h.same (by omega) (by omega) (Or.inr (hdis x hx)), h.same (by omega) (by omega) (Or.inr (hdis y hy))]
    exact q
theorem at9_0 {x : Nat} {t : List Nat} : at9 (x :: t) 0 = nI x := rfl
theorem at9_n : at9 [] 0 = -1 := rfl
/-- the reference's loop -/
theorem m_leaveL (hW : WF z B T) (hT : T < 2 ^ 30) (hc : c < 5) (he : e < 5) (hne : e ≠ c) (hH : HL z c hl) {w0 : xWt} (hb : ∀ i, i < 742 → zz w0 i = z i) : ∃ w', L_X8_leave_74 9999 (nI c) (nI e) 0 (at9 hl 0) w0 = some ((nI hl.length, -1), w') ∧ dM w0 w' ∧ MZ z e hl hl.length (zz w') ∧ ∀ i, 742 ≤ i → zz w' i = zz w0 i := by
  have h120 := hW.g120
  have hlen := hH.le h120
  have htN := hW.s.2.2.2.2.2.1
  have h := up_loop (fun n j (s : xWt) => L_X8_leave_74 n (nI c) (nI e) (nI j) (at9 (hl.drop j) 0) s) (fun j s => zs (zs (zs (zs s (22 + 6 * hl.getD j 0 + 1) 1) (22 + 6 * hl.getD j 0 + 4) (nI e)) (22 + 6 * hl.getD j 0 + 5) (nI (tN z + j))) 7 (nI (tN z + j + 1))) (fun s => ((nI hl.length, (-1 : Int32)), s)) hl.length (fun j s => MZ z e hl j (zz s) ∧ (∀ i, 742 ≤ i → zz s i = zz w0 i) ∧ dM w0 s)
    (fun n j s hj hI => by
      obtain ⟨i1, i2, i3⟩ := hI
      have hget : hl[j]? = some (hl.getD j 0) := by
        rw [List.getElem?_eq_getElem hj, List.getD_eq_getElem?_getD, List.getElem?_eq_getElem hj]
        rfl
      have hdrop : hl.drop j = hl.getD j 0 :: hl.drop (j + 1) := by
        rw [List.drop_eq_getElem_cons hj, List.getD_eq_getElem?_getD, List.getElem?_eq_getElem hj]
        rfl
      generalize hl.getD j 0 = x at hget hdrop ⊢
      have hxm : x ∈ hl := List.mem_of_getElem? hget
      obtain ⟨hx, hxo⟩ := (hH.1 x).mp hxm
      have hx1 := (oB_iff.mp hxo).1
      obtain ⟨S1, hS1⟩ : ∃ S, S = zs s (22 + 6 * x + 1) 1 := ⟨_, rfl⟩
      obtain ⟨S2, hS2⟩ : ∃ S, S = zs S1 (22 + 6 * x + 4) (nI e) := ⟨_, rfl⟩
      obtain ⟨S3, hS3⟩ : ∃ S, S = zs S2 (22 + 6 * x + 5) (nI (tN z + j)) := ⟨_, rfl⟩
      obtain ⟨S4, hS4⟩ : ∃ S, S = zs S3 7 (nI (tN z + j + 1)) := ⟨_, rfl⟩
      have z4 : zz S4 = upd (upd (upd (upd (zz s) (22 + 6 * x + 1) 1) (22 + 6 * x + 4) (nI e)) (22 + 6 * x + 5) (nI (tN z + j))) 7 (nI (tN z + j + 1)) := by
        rw [hS4, zs_z, hS3, zs_z, hS2, zs_z, hS1, zs_z]
      have e2 : zz S2 7 = nI (tN z + j) := by rw [hS2, zs_z, upd_ne _ _ (by omega), hS1, zs_z, upd_ne _ _ (by omega)]; exact i1.2.2.1
      have e3 : zz S3 7 = nI (tN z + j) := by rw [hS3, zs_z, upd_ne _ _ (by omega)]; exact e2
      have htk : hl.take (j + 1) = hl.take j ++ [x] := by
        rw [List.take_succ, hget]
        rfl
      have hM : MZ z e hl (j + 1) (zz S4) := by
        refine ⟨fun p l hp hpj => ?_, fun l k hl' hk h2 => ?_, ?_, fun i hi h7 => ?_⟩
        · by_cases ep : p = j
          · subst ep
            have : l = x := Option.some.inj (hp.symm.trans hget)
            subst this
            rw [z4, zL_ne _ (by omega), zL_ne _ (by omega), zL_eq, zL_ne _ (by omega), zL_eq]
            exact ⟨rfl, rfl⟩
          · have hnx : l ≠ x := fun q => by
              rw [q] at hp
              exact ep ((List.getElem?_inj (List.getElem?_eq_some_iff.mp hp).1 hH.nodup).mp (hp.trans hget.symm))
            have hl120 := ((hH.1 l).mp (List.mem_of_getElem? hp)).1
            rw [z4, zL_ne _ (by omega), zL_ne _ (by omega), zL_ne _ (by omega), zL_ne _ (by omega), zL_ne _ (by omega), zL_ne _ (by omega), zL_ne _ (by omega), zL_ne _ (by omega)]
            exact i1.1 p l hp (by omega)
        · by_cases e1 : l = x
          · subst e1
            have hk4 : k ≠ 4 ∧ k ≠ 5 := by
              rcases h2 with q | q
              · exact q
              · rw [htk] at q
                exact absurd (List.mem_append.mpr (Or.inr (List.mem_singleton.mpr rfl))) q
            by_cases k1 : k = 1
            · rw [k1, z4, zL_ne _ (by omega), zL_ne _ (by omega), zL_ne _ (by omega), zL_eq, hx1]
            · rw [z4, zL_ne _ (by omega), zL_ne _ (by omega), zL_ne _ (by omega), zL_ne _ (by omega)]
              exact i1.2.1 l k hl' hk (Or.inl hk4)
          · rw [z4, zL_ne _ (by omega), zL_ne _ (by omega), zL_ne _ (by omega), zL_ne _ (by omega)]
            refine i1.2.1 l k hl' hk (h2.imp id (fun q r => q ?_))
            rw [htk]
            exact List.mem_append.mpr (Or.inl r)
        · rw [z4, upd_eq]; rfl
        · rw [z4, upd_ne _ _ h7, upd_ne _ _ (by omega), upd_ne _ _ (by omega), upd_ne _ _ (by omega)]
          exact i1.2.2.2 i hi h7
      have hHc := hM.HLc h120 hc he hne hH
      have hS : zs (zs (zs (zs s (22 + 6 * x + 1) 1) (22 + 6 * x + 4) (nI e)) (22 + 6 * x + 5) (nI (tN z + j))) 7 (nI (tN z + j + 1)) = S4 := by rw [hS4, hS3, hS2, hS1]
      have a7 : ∀ (V : xWt) (f : Int32 → Option (Unit × xWt)), ald V 9 0 7 f = f (zz V 7) := fun V f => m_z (i := 7) (by decide)
      have hg1 : zz S4 1 = nI (gN (zz S4)) := by
        rw [hM.g, hM.2.2.2 1 (by omega) (by omega)]; exact hW.g
      have hTt : ∀ l, l ∈ hl.drop (j + 1) → zL (zz S4) l 5 = nI (tu (zz S4) l) ∧ tu (zz S4) l < 2 ^ 31 := fun l hm => by
        obtain ⟨q1, q2⟩ := (hH.1 l).mp (List.mem_of_mem_drop hm)
        obtain ⟨t, t1, t2⟩ := hW.turn q1 (oB_iff.mp q2).1
        have q5 : zL (zz S4) l 5 = nI t := by rw [hM.2.1 l 5 (by omega) (by omega) (Or.inr (td_ne hH.2 _ hm))]; exact t2
        unfold tu
        rw [q5, nI_clamp (by omega)]
        exact ⟨rfl, by omega⟩
      rw [hS]
      constructor
      · show B_X8_leave_74 (L_X8_leave_74 n) (nI c) (nI e) (nI j) (at9 (hl.drop j) 0) s = _
        unfold B_X8_leave_74 F_X8_putOnHeap
        rw [hdrop, at9_0, if_neg (nI_pos (by omega)), show F_X8_setLeaf (nI x) 1 1 s = some ((), S1) from by rw [hS1]; exact m_setL (by omega) (k := 1) (by omega) _, bd_s, show F_X8_setLeaf (nI x) 4 (nI e) S1 = some ((), S2) from by rw [hS2]; exact m_setL (by omega) (k := 4) (by omega) _, bd_s, a7, e2, show F_X8_setLeaf (nI x) 5 (nI (tN z + j)) S2 = some ((), S3) from by rw [hS3]; exact m_setL (by omega) (k := 5) (by omega) _, bd_s, a7, e3, nI_1, show ∀ f : xWt → Option (Unit × xWt), ast S3 9 0 7 (nI (tN z + j + 1)) f = f S4 from fun f => by rw [hS4]; exact m_zs (i := 7) (by omega), bd_s, m_onHeap hc hg1 (by rw [hM.g]; exact h120) hHc hTt 0, bd_s, nI_1]
      · refine ⟨hM, fun i hi => ?_, ?_⟩
        · rw [z4, upd_ne _ _ (by omega), upd_ne _ _ (by omega), upd_ne _ _ (by omega), upd_ne _ _ (by omega)]
          exact i2 i hi
        · rw [hS4, hS3, hS2, hS1]
          exact (((i3.zs _ _).zs _ _).zs _ _).zs _ _)
    (fun n s hI => by
      show B_X8_leave_74 (L_X8_leave_74 n) (nI c) (nI e) (nI hl.length) (at9 (hl.drop hl.length) 0) s = _
      unfold B_X8_leave_74
      rw [List.drop_length, at9_n, if_pos (by decide)]) hl.length 0 w0 9999 (by omega) (by omega) ⟨⟨fun p l _ hp => absurd hp (by omega), fun l k hl' hk _ => hb _ (by omega), (hb 7 (by omega)).trans hW.s.2.2.2.2.1, fun i hi _ => hb i (by omega)⟩, fun _ _ => rfl, dM.rf w0⟩
  obtain ⟨e1, i1, i2, i3⟩ := h
  exact ⟨_, e1, i3, i1, i2⟩
/-- the program's loop -/
theorem p_leaveL (hc : c < 5) (he : e < 5) (hne : e ≠ c) {nr : Nat} (hnr : nr + hl.length ≤ 120) (hlx : ∀ x, x ∈ hl → x < 120) (h11c : w.1 0 11 c = nI hl.length) (h11e : w.1 0 11 e = nI nr) (h12 : ∀ p l, hl[p]? = some l → w.1 0 12 (120 * c + p) = nI l) : ∃ w', L_X6_removeChild_24 0 9999 (nI c) (nI hl.length) (nI e) 0 w = some (nI hl.length, w') ∧ dP w w' ∧ (∀ l, w'.1 0 5 l = if l ∈ hl then nI e else w.1 0 5 l) ∧ (∀ d, w'.1 0 11 d = if d = e then nI (nr + hl.length) else w.1 0 11 d) ∧ (∀ p l, hl[p]? = some l → w'.1 0 12 (120 * e + (nr + p)) = nI l) ∧ (∀ i, i < 120 * e + nr ∨ 120 * e + 120 ≤ i → w'.1 0 12 i = w.1 0 12 i) ∧ (∀ r, r ≠ 5 → r ≠ 11 → r ≠ 12 → w'.1 0 r = w.1 0 r) ∧ w'.2 = w.2 := by
  have h := up_loop (fun n p (s : xWt) => L_X6_removeChild_24 0 n (nI c) (nI hl.length) (nI e) (nI p) s) (fun p s => sRow (sRow (sRow s 0 12 (upd (s.1 0 12) (120 * e + (nr + p)) (nI (hl.getD p 0)))) 0 11 (upd (s.1 0 11) e (nI (nr + p + 1)))) 0 5 (upd (s.1 0 5) (hl.getD p 0) (nI e))) (fun s => (nI hl.length, s)) hl.length
    (fun p s => dP w s ∧ (∀ l, s.1 0 5 l = if l ∈ hl.take p then nI e else w.1 0 5 l) ∧ (∀ d, s.1 0 11 d = if d = e then nI (nr + p) else w.1 0 11 d) ∧ (∀ q l, hl[q]? = some l → q < p → s.1 0 12 (120 * e + (nr + q)) = nI l) ∧ (∀ i, i < 120 * e + nr ∨ 120 * e + 120 ≤ i → s.1 0 12 i = w.1 0 12 i) ∧ (∀ r, r ≠ 5 → r ≠ 11 → r ≠ 12 → s.1 0 r = w.1 0 r) ∧ s.2 = w.2)
    (fun n p s hp hI => by
      obtain ⟨i1, i2, i3, i4, i5, i6, i7⟩ := hI
      have hget : hl[p]? = some (hl.getD p 0) := by
        rw [List.getElem?_eq_getElem hp, List.getD_eq_getElem?_getD, List.getElem?_eq_getElem hp]
        rfl
      generalize hl.getD p 0 = x at hget ⊢
      have hx := hlx x (List.mem_of_getElem? hget)
      have htk : hl.take (p + 1) = hl.take p ++ [x] := by
        rw [List.take_succ, hget]
        rfl
      have s11 : s.1 0 11 c = nI hl.length := by rw [i3, if_neg (fun q => hne q.symm)]; exact h11c
      have s11e : s.1 0 11 e = nI (nr + p) := by rw [i3, if_pos rfl]
      have s12 : s.1 0 12 (120 * c + p) = nI x := by rw [i5 _ (by omega)]; exact h12 p x hget
      constructor
      · show B_X6_removeChild_24 0 (L_X6_removeChild_24 0 n) (nI c) (nI hl.length) (nI e) (nI p) s = _
        unfold B_X6_removeChild_24 F_X0_leafOnHeap F_X0_putOnHeap
        rw [if_neg (nI_ge hp (by omega)), if_neg (nI_pos (by omega)), R_get, bd_s, g_5 hc rfl, s11, if_neg (nI_ge hp (by omega)), ixP, R_get, bd_s, gt_in (show 120 * c + p < rl 0 12 from by show 120 * c + p < 600; omega) (by decide), s12, bd_s, R_get, bd_s, g_5 he rfl, s11e, ixP, R_put, bd_s, pt_in (show 120 * e + (nr + p) < rl 0 12 from by show 120 * e + (nr + p) < 600; omega) (by decide), R_add, bd_s, g_5 he rfl, sRow_ne (k' := 0) (r' := 11) _ _ (by decide), s11e, nI_1, p5 he rfl, bd_s, R_put, bd_s, p120 hx rfl, nI_1]
        rfl
      · refine ⟨((i1.row _ _).row _ _).row _ _, fun l => ?_, fun d => ?_, fun q l hq hqp => ?_, fun i hi => ?_, fun r h1 h2 h3 => ?_, i7⟩
        · rw [sRow_eq, htk]
          by_cases e1 : l = x
          · rw [e1, upd_eq, if_pos (by simp)]
          · rw [upd_ne _ _ e1, i2 l]
            simp [e1]
        · rw [sRow_ne _ _ (by omega), sRow_eq]
          by_cases e1 : d = e
          · rw [e1, upd_eq, if_pos rfl]
            rfl
          · rw [upd_ne _ _ e1, i3 d, if_neg e1, if_neg e1]
        · rw [sRow_ne _ _ (by omega), sRow_ne _ _ (by omega), sRow_eq]
          by_cases e1 : q = p
          · subst e1
            rw [upd_eq]
            exact congrArg nI (Option.some.inj (hget.symm.trans hq))
          · rw [upd_ne _ _ (by omega)]
            exact i4 q l hq (by omega)
        · rw [sRow_ne _ _ (by omega), sRow_ne _ _ (by omega), sRow_eq, upd_ne _ _ (by omega)]
          exact i5 i hi
        · rw [sRow_ne _ _ (by omega), sRow_ne _ _ (by omega), sRow_ne _ _ (by omega)]
          exact i6 r h1 h2 h3)
    (fun n s hI => by
      show B_X6_removeChild_24 0 (L_X6_removeChild_24 0 n) (nI c) (nI hl.length) (nI e) (nI hl.length) s = _
      unfold B_X6_removeChild_24
      rw [if_pos (Int32.le_refl _)]) hl.length 0 w 9999 (by omega) (by omega) ⟨dP.rf w, fun l => by simp, fun d => by
      by_cases e1 : d = e
      · rw [e1, if_pos rfl]; exact h11e
      · rw [if_neg e1], fun q l _ hq => absurd hq (by omega), fun _ _ => rfl, fun _ _ _ _ => rfl, rfl⟩
  obtain ⟨e1, i1, i2, i3, i4, i5, i6, i7⟩ := h
  rw [List.take_length] at i2
  exact ⟨_, e1, i1, i2, i3, fun p l hp => i4 p l hp (List.getElem?_eq_some_iff.mp hp).1, i5, i6, i7⟩
end MV

