/-! call 1: leave -/
section LV
variable {z z' : Nat → Int32} {xs : Nat → Int32} {L i B T c e : Nat} {rec : Int32 → xWt → Option Unit} {w w' : xWt} {a : Int32} {hl hr : List Nat}
theorem WF.leave (hW : WF z B T) (hT : T < 2 ^ 30) (hc : c < 5) (he : e < 5) (hne : e ≠ c) (hte : zC z e 0 = 1) (hH : HL z c hl) (hm : MZ z e hl hl.length z') (c0 : zC z' c 0 = 0) (c1 : zC z' c 1 = 0) (c2 : zC z' c 2 = -1) (hk : ∀ h, h < 3 → zH z' c h 0 = 0 ∧ zH z' c h 1 = -1 ∧ zH z' c h 2 = -1) (ho : ∀ d, d < 5 → d ≠ c → ∀ k, k < 15 → zC z' d k = zC z d k) : WF z' B (T + 120) := by
  have h120 := hW.g120
  have hlen := hH.le h120
  obtain ⟨a1, a2, a3, a4, a5, a6, a7, a8⟩ := hW.s
  have hHo : ∀ d h k, d < 5 → d ≠ c → h < 3 → k < 3 → zH z' d h k = zH z d h k := fun d h k hd hn hh hk => ho d hd hn (6 + 3 * h + k) (by omega)
  have eb : bN z' = bN z := by unfold bN; rw [hm.2.2.2 0 (by omega) (by omega)]
  have et : tN z' = tN z + hl.length := by
    show (z' 7).toNatClampNeg = _
    rw [hm.2.2.1, nI_clamp (by omega)]
  refine ⟨⟨?_, ?_, ?_, ?_, ?_, ?_, ?_, ?_⟩, ?_, ?_, ?_, ?_, ?_⟩
  · rw [eb, hm.2.2.2 0 (by omega) (by omega)]; exact a1
  · rw [eb]; exact a2
  · rw [hm.g, hm.2.2.2 1 (by omega) (by omega)]; exact a3
  · rw [hm.g]; exact a4
  · rw [et]; exact hm.2.2.1
  · rw [et]; omega
  · rw [hm.2.2.2 8 (by omega) (by omega)]; exact a7
  · rw [hm.2.2.2 9 (by omega) (by omega)]; exact a8
  · intro b hb
    rw [hm.2.2.2 (10 + b) (by omega) (by omega), hm.g]
    rcases hW.b b hb with q | ⟨l, q1, q2, q3, q4⟩
    · exact Or.inl q
    · exact Or.inr ⟨l, q1, q2, by rw [hm.same (by omega) (by omega) (Or.inl (by omega))]; exact q3, by rw [hm.same (by omega) (by omega) (Or.inl (by omega))]; exact q4⟩
  · intro l hl'
    rw [hm.g] at hl'
    rw [hm.same (k := 1) (by omega) (by omega) (Or.inl (by omega))]
    rcases hW.l l hl' with q | q | ⟨q, d, s, t, r1, r2, r3, r4, r5, r6, r7⟩
    · exact Or.inl q
    · exact Or.inr (Or.inl q)
    · refine Or.inr (Or.inr ⟨q, ?_⟩)
      by_cases m : l ∈ hl
      · obtain ⟨p, hp⟩ := List.getElem?_of_mem m
        have hpl := (List.getElem?_eq_some_iff.mp hp).1
        obtain ⟨m4, m5⟩ := hm.1 p l hp hpl
        exact ⟨e, s, tN z + p, he, by rw [eb]; exact r2, by rw [et]; omega, m4, by rw [hm.same (by omega) (by omega) (Or.inl (by omega))]; exact r5, m5, by rw [ho e he hne 0 (by omega)]; exact hte⟩
      · have hdc : d ≠ c := fun q' => by
          rw [q'] at r4
          exact m ((hH.1 l).mpr ⟨hl', oB_iff.mpr ⟨q, r4⟩⟩)
        exact ⟨d, s, t, r1, by rw [eb]; exact r2, by rw [et]; omega, by rw [hm.same (by omega) (by omega) (Or.inr m)]; exact r4, by rw [hm.same (by omega) (by omega) (Or.inr m)]; exact r5, by rw [hm.same (by omega) (by omega) (Or.inr m)]; exact r6, by rw [ho d r1 hdc 0 (by omega)]; exact r7⟩
  · intro d hd
    by_cases q : d = c
    · rw [q]
      exact Or.inl ⟨c0, c1, c2, fun h hh => (hk h hh).1⟩
    · rw [ho d hd q 0 (by omega), ho d hd q 1 (by omega), ho d hd q 2 (by omega), eb]
      rcases hW.c d hd with ⟨q1, q2, q3, q4⟩ | q'
      · exact Or.inl ⟨q1, q2, q3, fun h hh => by rw [hHo d h 0 hd q hh (by omega)]; exact q4 h hh⟩
      · exact Or.inr q'
  · intro d h hd hh
    by_cases q : d = c
    · rw [q]
      exact Or.inl (hk h hh)
    · have r := hW.h d h hd hh
      unfold wK at r ⊢
      rw [hHo d h 0 hd q hh (by omega), hHo d h 1 hd q hh (by omega), hHo d h 2 hd q hh (by omega), hm.g]
      exact r
  · exact ⟨e, he, by rw [ho e he hne 0 (by omega)]; exact hte⟩
theorem YR.leave (hW : WF z B T) (hT : T < 2 ^ 30) (hY : YR 0 z w) (hc : c < 5) (he : e < 5) (hne : e ≠ c) (hH : HL z c hl) (hR : HL z e hr) (hr12 : ∀ p l, hr[p]? = some l → w.1 0 12 (120 * e + p) = nI l) (hm : MZ z e hl hl.length z') (c0 : zC z' c 0 = 0) (c2 : zC z' c 2 = -1) (hk : ∀ h, h < 3 → zH z' c h 0 = 0 ∧ zH z' c h 1 = -1 ∧ zH z' c h 2 = -1) (ho : ∀ d, d < 5 → d ≠ c → ∀ k, k < 15 → zC z' d k = zC z d k)
    (r5 : ∀ l, w'.1 0 5 l = if l ∈ hl then nI e else w.1 0 5 l) (r6 : w'.1 0 6 = upd (w.1 0 6) c 0) (r7 : w'.1 0 7 = upd (w.1 0 7) c (-1)) (r11 : ∀ d, w'.1 0 11 d = if d = c then 0 else if d = e then nI (hr.length + hl.length) else w.1 0 11 d) (r12 : ∀ p l, hl[p]? = some l → w'.1 0 12 (120 * e + (hr.length + p)) = nI l) (r12o : ∀ i, i < 120 * e + hr.length ∨ 120 * e + 120 ≤ i → w'.1 0 12 i = w.1 0 12 i) (r15 : ∀ r, 13 ≤ r → r ≤ 15 → ∀ i, w'.1 0 r i = if i / 3 = c then -1 else w.1 0 r i)
    (ro : ∀ r, r ≠ 5 → r ≠ 6 → r ≠ 7 → r ≠ 11 → r < 12 → w'.1 0 r = w.1 0 r) (fo : ∀ j, w'.2.1 0 j = w.2.1 0 j) : YR 0 z' w' := by
  have h120 := hW.g120
  have hHo : ∀ d h k, d < 5 → d ≠ c → h < 3 → k < 3 → zH z' d h k = zH z d h k := fun d h k hd hn hh hk => ho d hd hn (6 + 3 * h + k) (by omega)
  have hG : ∀ i, i < 22 → i ≠ 7 → z' i = z i := hm.2.2.2
  have hE := MZ.HLe hW hT hm hc he hne hH hR
  have hlen : (hr ++ hl).length ≤ 120 := hE.le (by rw [hm.g]; exact h120)
  rw [List.length_append] at hlen
  refine ⟨?_, ?_, ?_, ?_, ?_, ?_⟩
  · have q := hY.f
    unfold yF at q ⊢
    rw [fo, fo, fo, fo, fo, fo, fo, fo, fo, hG 0 (by omega) (by omega), hG 1 (by omega) (by omega), hG 2 (by omega) (by omega), hG 3 (by omega) (by omega), hG 4 (by omega) (by omega), hG 5 (by omega) (by omega), hG 6 (by omega) (by omega), hG 8 (by omega) (by omega), hG 9 (by omega) (by omega)]
    exact q
  · intro b hb
    rw [ro 0 (by omega) (by omega) (by omega) (by omega) (by omega), hG (10 + b) (by omega) (by omega)]
    exact hY.b b hb
  · intro l hl'
    rw [hm.g] at hl'
    obtain ⟨y1, y2, y3, y4, y5⟩ := hY.l l hl'
    rw [ro 1 (by omega) (by omega) (by omega) (by omega) (by omega), ro 2 (by omega) (by omega) (by omega) (by omega) (by omega), ro 3 (by omega) (by omega) (by omega) (by omega) (by omega), ro 4 (by omega) (by omega) (by omega) (by omega) (by omega), r5, hm.same (k := 0) (by omega) (by omega) (Or.inl (by omega)), hm.same (k := 1) (by omega) (by omega) (Or.inl (by omega)), hm.same (k := 2) (by omega) (by omega) (Or.inl (by omega)), hm.same (k := 3) (by omega) (by omega) (Or.inl (by omega))]
    refine ⟨y1, y2, y3, y4, ?_⟩
    by_cases m : l ∈ hl
    · obtain ⟨p, hp⟩ := List.getElem?_of_mem m
      rw [if_pos m, if_pos (oB_iff.mp ((hH.1 l).mp m).2).1]
      exact (hm.1 p l hp (List.getElem?_eq_some_iff.mp hp).1).1.symm
    · rw [if_neg m, hm.same (by omega) (by omega) (Or.inr m)]
      exact y5
  · intro d hd
    rw [r6, r7, ro 8 (by omega) (by omega) (by omega) (by omega) (by omega), ro 9 (by omega) (by omega) (by omega) (by omega) (by omega), ro 10 (by omega) (by omega) (by omega) (by omega) (by omega)]
    by_cases q : d = c
    · rw [q, upd_eq, upd_eq, c0, c2]
      exact ⟨rfl, rfl, fun q => absurd q (by decide)⟩
    · rw [upd_ne _ _ q, upd_ne _ _ q, ho d hd q 0 (by omega), ho d hd q 2 (by omega), ho d hd q 3 (by omega), ho d hd q 4 (by omega), ho d hd q 5 (by omega)]
      exact hY.c d hd
  · intro d h hd hh
    rw [r15 13 (by omega) (by omega), r15 14 (by omega) (by omega), r15 15 (by omega) (by omega), show (3 * d + h) / 3 = d by omega]
    by_cases q : d = c
    · subst q
      obtain ⟨k0, k1, k2⟩ := hk h hh
      rw [if_pos (show d = d from rfl), if_pos (show d = d from rfl), if_pos (show d = d from rfl), k0, k2, if_neg (by decide), if_neg (by decide)]
      exact ⟨rfl, rfl, rfl⟩
    · rw [if_neg q, if_neg q, if_neg q, hHo d h 0 hd q hh (by omega), hHo d h 1 hd q hh (by omega), hHo d h 2 hd q hh (by omega)]
      exact hY.h d h hd hh
  · intro d hd
    by_cases q : d = c
    · subst q
      refine ⟨[], ?_, by rw [r11, if_pos rfl]; rfl, fun p l hp => by simp at hp⟩
      have := hm.HLc h120 hd he hne hH
      rw [List.drop_length] at this
      exact this
    · by_cases q2 : d = e
      · subst q2
        refine ⟨hr ++ hl, hE, by rw [r11, if_neg q, if_pos rfl, List.length_append], fun p l hp => ?_⟩
        by_cases hp1 : p < hr.length
        · rw [List.getElem?_append_left hp1] at hp
          rw [r12o _ (by omega)]
          exact hr12 p l hp
        · rw [List.getElem?_append_right (by omega)] at hp
          have := r12 _ l hp
          rwa [show hr.length + (p - hr.length) = p by omega] at this
      · obtain ⟨hd2, q3, q4, q5⟩ := hY.p d hd
        have hlen2 := q3.le h120
        refine ⟨hd2, MZ.HLo hW hm hc he hd q q2 hH q3, by rw [r11, if_neg q, if_neg q2]; exact q4, fun p l hp => ?_⟩
        have hp' := (List.getElem?_eq_some_iff.mp hp).1
        rw [r12o _ (by omega)]
        exact q5 p l hp
theorem p_lowestBesides (h6 : ∀ d, d < 5 → w.1 0 6 d = zC z d 0) (hc : c < 5) (he : e < 5) (hne : e ≠ c) (hte : zC z e 0 = 1) (hl : ∀ d, d < e → d = c ∨ zC z d 0 ≠ 1) : F_X0_lowestBesides 0 (nI c) w = some (nI e, w) := by
  have hh : ∀ d, d < 5 → F_X0_isHere 0 (nI d) w = some (if zC z d 0 = 1 then 1 else 0, w) := fun d hd => by
    unfold F_X0_isHere
    rw [R_get, bd_s, g_5 hd rfl, h6 d hd]
    by_cases q : zC z d 0 = 1
    · rw [if_pos q, if_pos q]
    · rw [if_neg q, if_neg q]
  have h := (up_loop (fun n i (_ : Unit) => L_X0_lowestBesides_2 0 n (nI c) (nI i) w) (fun _ s => s) (fun _ => ((.inr (nI e) : Int32 ⊕ Int32), w)) e (fun _ _ => True)
    (fun n i s hi _ => ⟨by
      show B_X0_lowestBesides_2 0 (L_X0_lowestBesides_2 0 n) (nI c) (nI i) w = _
      unfold B_X0_lowestBesides_2
      rw [if_neg (lt5 (by omega)), nI_1]
      by_cases q : i = c
      · rw [q, if_pos rfl]
      · rw [if_neg (fun r => q (nI_inj (by omega) (by omega) r)), hh i (by omega), bd_s, if_neg ((hl i hi).resolve_left q), if_pos rfl], trivial⟩)
    (fun n s _ => by
      show B_X0_lowestBesides_2 0 (L_X0_lowestBesides_2 0 n) (nI c) (nI e) w = _
      unfold B_X0_lowestBesides_2
      rw [if_neg (lt5 he), if_neg (fun r => hne (nI_inj (by omega) (by omega) r)), hh e he, bd_s, if_pos hte, if_neg (by decide)]) e 0 () 9999 (by omega) (by omega) trivial).1
  have h' : L_X0_lowestBesides_2 0 9999 (nI c) 0 w = some ((.inr (nI e) : Int32 ⊕ Int32), w) := h
  unfold F_X0_lowestBesides
  rw [h', bd_s]
  rfl
theorem m_heirL (he : e < 5) (h0 : zC (zz w) e 0 ≠ 0) (hl : ∀ d, d < e → zC (zz w) d 0 = 0) (a : Int32) : L_X8_leave_49 9999 a 0 w = some (nI e, w) :=
  (up_loop (fun n i (_ : Unit) => L_X8_leave_49 n a (nI i) w) (fun _ s => s) (fun _ => (nI e, w)) e (fun _ _ => True)
    (fun n i s hi _ => ⟨by
      show B_X8_leave_49 (L_X8_leave_49 n) a (nI i) w = _
      unfold B_X8_leave_49
      rw [m_ofC0 (by omega), bd_s, if_pos (hl i hi), nI_1], trivial⟩)
    (fun n s _ => by
      show B_X8_leave_49 (L_X8_leave_49 n) a (nI e) w = _
      unfold B_X8_leave_49
      rw [m_ofC0 he, bd_s, if_neg h0]) e 0 () 9999 (by omega) (by omega) trivial).1
theorem cn_two (p q : Nat → Bool) (n : Nat) (h : ∀ i, i < n → ¬ (p i = true ∧ q i = true)) : cn p n + cn q n ≤ n := by
  induction n with
  | zero => exact Nat.le_refl _
  | succ n ih =>
    have h1 := ih (fun i hi => h i (by omega))
    have h2 := h n (by omega)
    unfold cn
    by_cases hp : p n = true
    · rw [if_pos hp, if_neg (fun r => h2 ⟨hp, r⟩)]; omega
    · rw [if_neg hp]
      split <;> omega
theorem d_leave (hW : WF z B T) (hY : YR 0 z w) (hT : T < 2 ^ 30) (hc : c < 5) (he : e < 5) (hne : e ≠ c) (hte : zC z e 0 = 1) (hl : ∀ d, d < e → d = c ∨ zC z d 0 ≠ 1) : DO z B (T + 120) w (F_X6_removeChild 0 (nI c)) (fun w6 => bd (F_X8_clearChild (nI c) w6) (fun _ w7 => bd (L_X8_leave_49 9999 (nI c) 0 w7) (fun o11 w12 => bd (F_X8_onHeap (nI c) 0 w12) (fun x14 w13 => bd (L_X8_leave_74 9999 (nI c) o11 0 x14 w13) (fun o19 w20 => some (o19.1, w20)))))) := by
  intro wr hz
  have h120 := hW.g120
  have htN := hW.s.2.2.2.2.2.1
  obtain ⟨hp, q1, q2, q3, q4⟩ := p_heap hW hY hc
  obtain ⟨hr, t1, t2, t3, t4⟩ := p_heap hW hY he
  have q3' : w.1 0 11 c = nI hp.length := by rw [g_5 hc rfl] at q3; exact q3
  have t3' : w.1 0 11 e = nI hr.length := by rw [g_5 he rfl] at t3; exact t3
  have hsum : hr.length + hp.length ≤ 120 := by
    rw [← q1.len, ← t1.len]
    have := cn_two (fun l => oB z e l) (fun l => oB z c l) (gN z) (fun i _ hq => by
      have a1 := (oB_iff.mp hq.1).2
      have a2 := (oB_iff.mp hq.2).2
      exact hne (nI_inj (by omega) (by omega) (a1.symm.trans a2)))
    omega
  obtain ⟨wa, ea, da, k1, k2, k3⟩ := m_clearChild (w := wr) hc
  have hb : ∀ i, i < 742 → zz wa i = z i := fun i hi => by rw [k3 i (by omega), hz]
  have hoa : ∀ d, d < 5 → d ≠ c → ∀ k, k < 15 → zC (zz wa) d k = zC z d k := fun d hd hn k hk => by
    unfold zC
    rw [k3 _ (by omega), hz]
  obtain ⟨wb, eb, db, mz, mo⟩ := m_leaveL hW hT hc he hne q1 hb
  obtain ⟨wc, ec, dc, r5, r11, r12, r12o, rq, rf⟩ := p_leaveL (hl := hp) hc he hne hsum (fun x hx => by have := ((q1.1 x).mp hx).1; omega) q3' t3' q4
  obtain ⟨wd, ed, dd, s1, s2, s3⟩ := p_releaseAll (w := sRow (sRow (sRow wc 0 6 (upd (wc.1 0 6) c 0)) 0 7 (upd (wc.1 0 7) c (-1))) 0 11 (upd (wc.1 0 11) c 0)) hc
  have hC : ∀ k, k < 6 → zC (zz wb) c k = if k = 2 then -1 else 0 := fun k hk => by
    rw [← k1 k hk]
    exact mo _ (by omega)
  have hK : ∀ h, h < 3 → zH (zz wb) c h 0 = 0 ∧ zH (zz wb) c h 1 = -1 ∧ zH (zz wb) c h 2 = -1 := fun h hh => by
    have e0 : ∀ k, zH (zz wb) c h k = zH (zz wa) c h k := fun k => mo _ (by omega)
    rw [e0, e0, e0]
    exact k2 h hh
  have ho : ∀ d, d < 5 → d ≠ c → ∀ k, k < 15 → zC (zz wb) d k = zC z d k := fun d hd hn k hk => by
    rw [← hoa d hd hn k hk]
    exact mo _ (by omega)
  have hTt : ∀ l, l ∈ hp → zL (zz wa) l 5 = nI (tu (zz wa) l) ∧ tu (zz wa) l < 2 ^ 31 := fun l hm => by
    obtain ⟨x1, x2⟩ := (q1.1 l).mp hm
    obtain ⟨t, y1, y2⟩ := hW.turn x1 (oB_iff.mp x2).1
    have q5 : zL (zz wa) l 5 = nI t := by rw [← y2]; exact hb _ (by omega)
    unfold tu
    rw [q5, nI_clamp (by omega)]
    exact ⟨rfl, by omega⟩
  have hga : gN (zz wa) = gN z := by unfold gN; rw [hb 1 (by omega)]
  have hHa : HL (zz wa) c hp := by
    refine ⟨fun x => ?_, ?_⟩
    · rw [q1.1 x, hga]
      refine and_congr_right fun hlt => ?_
      rw [oB_iff, oB_iff, show zL (zz wa) x 1 = zL z x 1 from hb _ (by omega), show zL (zz wa) x 4 = zL z x 4 from hb _ (by omega)]
    · refine List.Pairwise.imp_of_mem (fun {x y} hx hy q => ?_) q1.2
      have hx' := ((q1.1 x).mp hx).1
      have hy' := ((q1.1 y).mp hy).1
      unfold tu at q ⊢
      rw [show zL (zz wa) x 5 = zL z x 5 from hb _ (by omega), show zL (zz wa) y 5 = zL z y 5 from hb _ (by omega)]
      exact q
  refine ⟨nI hp.length, wd, wb, ?_, (((dc.row _ _).row _ _).row _ _).trans dd, ?_, da.trans db, ?_, ?_⟩
  · unfold F_X6_removeChild F_X0_emptyPlace
    rw [R_get, bd_s, q3, p_lowestBesides (z := z) (fun d hd => (hY.c d hd).1) hc he hne hte hl, bd_s, ec, bd_s, R_put, bd_s, p5 hc rfl, R_put, bd_s, p5 hc rfl, R_put, bd_s, p5 hc rfl, bd_s]
    exact (congrArg (fun o => bd o _) ed).trans rfl
  · dsimp only
    rw [ea, bd_s, m_heirL he (by rw [hoa e he hne 0 (by omega), hte]; decide) (fun d hd => by
      by_cases q : d = c
      · rw [q, k1 0 (by omega)]; rfl
      · rw [hoa d (by omega) q 0 (by omega)]
        rcases hW.th (c := d) (by omega) with r | r
        · exact r
        · exact absurd r ((hl d hd).resolve_left q)), bd_s, m_onHeap hc (by rw [hga, hb 1 (by omega)]; exact hW.g) (by rw [hga]; exact h120) hHa hTt, bd_s, eb, bd_s]
  · have hrow : ∀ r, r ≠ 6 → r ≠ 7 → r ≠ 11 → (sRow (sRow (sRow wc 0 6 (upd (wc.1 0 6) c 0)) 0 7 (upd (wc.1 0 7) c (-1))) 0 11 (upd (wc.1 0 11) c 0)).1 0 r = wc.1 0 r := fun r h1 h2 h3 => by
      rw [sRow_ne _ _ (by omega), sRow_ne _ _ (by omega), sRow_ne _ _ (by omega)]
    refine hY.leave hW hT hc he hne q1 t1 t4 mz (by rw [hC 0 (by omega)]; rfl) (by rw [hC 2 (by omega)]; rfl) hK ho (fun l => ?_) ?_ ?_ (fun d => ?_) (fun p l hpl => ?_) (fun i hi => ?_) (fun r h1 h2 i => ?_) (fun r h5 h6 h7 h11 h12 => ?_) (fun j => ?_)
    · rw [s1 5 (by omega), hrow 5 (by omega) (by omega) (by omega)]; exact r5 l
    · rw [s1 6 (by omega), sRow_ne _ _ (by omega), sRow_ne _ _ (by omega), sRow_eq, rq 6 (by omega) (by omega) (by omega)]
    · rw [s1 7 (by omega), sRow_ne _ _ (by omega), sRow_eq, rq 7 (by omega) (by omega) (by omega)]
    · rw [s1 11 (by omega), sRow_eq]
      by_cases q : d = c
      · rw [q, upd_eq, if_pos rfl]
      · rw [upd_ne _ _ q, if_neg q]; exact r11 d
    · rw [s1 12 (by omega), hrow 12 (by omega) (by omega) (by omega)]; exact r12 p l hpl
    · rw [s1 12 (by omega), hrow 12 (by omega) (by omega) (by omega)]; exact r12o i hi
    · rw [s3 r h1 h2 i, hrow r (by omega) (by omega) (by omega), rq r (by omega) (by omega) (by omega)]
    · rw [s1 r (by omega), hrow r h6 h7 h11, rq r h5 h11 (by omega)]
    · rw [s2, sRow_2, sRow_2, sRow_2, rf]
  · exact hW.leave hT hc he hne hte q1 mz (by rw [hC 0 (by omega)]; rfl) (by rw [hC 1 (by omega)]; rfl) (by rw [hC 2 (by omega)]; rfl) hK ho
theorem cn_one (p : Nat → Bool) {c : Nat} (n : Nat) (h : ∀ i, i < n → i ≠ c → p i = false) : cn p n ≤ 1 := by
  induction n with
  | zero => exact Nat.zero_le _
  | succ n ih =>
    unfold cn
    by_cases e : n = c
    · have : cn p n = 0 := (cn_0 _ _).mpr fun i hi => h i (by omega) (by omega)
      rw [this]
      split <;> omega
    · rw [h n (by omega) e]
      have := ih (fun i hi hn => h i (by omega) hn)
      simpa using this
end LV

