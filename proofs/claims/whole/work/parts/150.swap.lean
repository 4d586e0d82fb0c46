/-! calls 10 and 11: take, swap: the tests and the calls -/
section SW
variable {z z' : Nat → Int32} {xs : Nat → Int32} {L i B T b c l : Nat} {rec : Int32 → xWt → Option Unit} {w w' : xWt} {a : Int32}
theorem d_swap (hW : WF z B T) (hY : YR 0 z w) (hT : T < 2 ^ 30) (hc : c < 5) (ht : zC z c 0 = 1) (hb : b < 12) (hl : l < gN z) (hbr : z (10 + b) = nI l) (hg : gN z < 120) (a : Int32) : DV z B (T + 1) w (F_X6_exchange 0 (nI c) (nI b) a) (F_X8_doSwap (nI c) (nI b) a) := by
  intro wr hz
  obtain ⟨v, wq, wE, a1, a2, a3, a4, a5, a6, a7, a8⟩ := d_take hW hY hT hc ht hb hl hbr wr hz
  obtain ⟨v', wq', wE', b1, b2, b3, b4, b5, b6, b7⟩ := d_grow a6 a5 hb (by rw [a7]; exact hg) a wE rfl
  refine ⟨v', wq', wE', ?_, a2.trans b2, ?_, a4.trans b4, b5, b6, b7⟩
  · unfold F_X6_exchange
    rw [a1, bd_s, b1, bd_s]
  · unfold F_X8_doSwap
    rw [a3, bd_s, b3, bd_s]
theorem p_mayTakeOff (hW : WF z B T) (hY : YR 0 z w) (hc : c < 5) (hb : b < 12) : F_X6_mayTakeOff 0 (nI c) (nI b) w = some (if yI z c = true then (if z (10 + b) = -1 then 0 else 1) else 0, w) := by
  unfold F_X6_mayTakeOff
  rw [p_isInYard hW hY hc, bd_s]
  by_cases hy : yI z c = true
  · rw [if_pos hy, if_neg (by decide), if_pos hy, R_get, bd_s, g_12 hb, hY.b b hb]
    by_cases q : z (10 + b) = -1
    · rw [if_pos q, if_pos q]
    · rw [if_neg q, if_neg q]
  · rw [if_neg hy, if_pos rfl, if_neg hy]
theorem t_take (hW : WF z B T) (hY : YR 0 z w) (hc : c < 5) (hb : b < 12) : TS z w (F_X6_mayTakeOff 0 (nI c) (nI b)) (F_X8_whyNotTake (nI c) (nI b)) (zC z c 0 = 1 ∧ ∃ l, l < gN z ∧ z (10 + b) = nI l) (zC z c 0 = 1) 2 := by
  have h120 := hW.g120
  have hp := p_mayTakeOff hW hY hc hb
  by_cases ht : zC z c 0 = 1
  · have hm : ∀ wr, zz wr = z → F_X8_whyNotTake (nI c) (nI b) wr = some (if yI z c = true then (if 0 ≤ z (10 + b) then 0 else 2) else 2, wr) := fun wr hz => by
      unfold F_X8_whyNotTake
      rw [m_isChildY hc (by rw [hz]; exact ht), bd_s, if_neg (by decide), m_isBranchY hb, bd_s, if_neg (by decide), m_isInYard hc, bd_s, hz]
      by_cases hy : yI z c = true
      · rw [if_pos hy, if_neg (by decide), if_pos hy, m_br hb, hz]
        by_cases h0 : 0 ≤ z (10 + b)
        · rw [if_pos h0, if_pos h0]
        · rw [if_neg h0, if_neg h0]
      · rw [if_neg hy, if_pos rfl, if_neg hy]
    by_cases hy : yI z c = true
    · rcases brs hW hb with q | ⟨l, q1, q2⟩
      · exact Or.inr ⟨by rw [hp, if_pos hy, if_pos q], 2, fun _ => rfl, by decide, fun wr hz => by rw [hm wr hz, if_pos hy, q]; rfl⟩
      · exact Or.inl ⟨⟨ht, l, q1, q2⟩, by rw [hp, if_pos hy, q2, if_neg (nI_m1 (by omega))], fun wr hz => by rw [hm wr hz, if_pos hy, q2, if_pos (nI_pos' (by omega))]⟩
    · exact Or.inr ⟨by rw [hp, if_neg hy], 2, fun _ => rfl, by decide, fun wr hz => by rw [hm wr hz, if_neg hy]⟩
  · refine Or.inr ⟨by rw [hp, (hW.abs hc ht).1]; rfl, 1, fun q => absurd q ht, by decide, fun wr hz => ?_⟩
    unfold F_X8_whyNotTake
    rw [m_isChildN hc (by rw [hz]; exact ht), bd_s, if_pos rfl]
theorem t_swap (hW : WF z B T) (hY : YR 0 z w) (hc : c < 5) (hb : b < 12) {q : Nat} (hq : q < 10) : TS z w (F_X6_mayExchange 0 (nI c) (nI b)) (F_X8_whyNotSwap (nI c) (nI b) (nI q)) (zC z c 0 = 1 ∧ gN z < 120 ∧ ∃ l, l < gN z ∧ z (10 + b) = nI l) (zC z c 0 = 1) 3 := by
  have h120 := hW.g120
  have e8 : w.2.1 0 8 = nI (gN z) := hY.f.2.2.2.2.2.2.2.2.trans hW.g
  have hp : F_X6_mayExchange 0 (nI c) (nI b) w = some (if yI z c = true then (if z (10 + b) = -1 then 0 else (if 120 ≤ nI (gN z) then 0 else 1)) else 0, w) := by
    unfold F_X6_mayExchange
    rw [p_mayTakeOff hW hY hc hb, bd_s, e8]
    by_cases hy : yI z c = true
    · rw [if_pos hy, if_pos hy]
      by_cases q : z (10 + b) = -1
      · rw [if_pos q, if_pos q, if_pos rfl]
      · rw [if_neg q, if_neg q, if_neg (by decide)]
        by_cases q2 : 120 ≤ nI (gN z)
        · rw [if_pos q2, if_pos q2]
        · rw [if_neg q2, if_neg q2]
    · rw [if_neg hy, if_neg hy, if_pos rfl]
  by_cases ht : zC z c 0 = 1
  · have hm : ∀ wr, zz wr = z → F_X8_whyNotSwap (nI c) (nI b) (nI q) wr = some (if yI z c = true then (if z (10 + b) < 0 then 3 else (if nI (gN z) = 120 then 3 else 0)) else 3, wr) := fun wr hz => by
      unfold F_X8_whyNotSwap
      rw [m_isChildY hc (by rw [hz]; exact ht), bd_s, if_neg (by decide), m_isBranchY hb, bd_s, if_neg (by decide), m_isColourY hq, bd_s, if_neg (by decide), m_isInYard hc, bd_s, hz]
      by_cases hy : yI z c = true
      · rw [if_pos hy, if_neg (by decide), if_pos hy, m_br hb, hz]
        by_cases h0 : z (10 + b) < 0
        · rw [if_pos h0, if_pos h0]
        · rw [if_neg h0, if_neg h0, m_z1, hz, hW.g]
          by_cases q2 : nI (gN z) = 120
          · rw [if_pos q2, if_pos q2]
          · rw [if_neg q2, if_neg q2]
      · rw [if_neg hy, if_pos rfl, if_neg hy]
    by_cases hy : yI z c = true
    · rcases brs hW hb with q | ⟨l, q1, q2⟩
      · exact Or.inr ⟨by rw [hp, if_pos hy, if_pos q], 3, fun _ => rfl, by decide, fun wr hz => by rw [hm wr hz, if_pos hy, q]; rfl⟩
      · by_cases hg : gN z < 120
        · exact Or.inl ⟨⟨ht, hg, l, q1, q2⟩, by rw [hp, if_pos hy, q2, if_neg (nI_m1 (by omega)), if_neg (lt120 hg)], fun wr hz => by rw [hm wr hz, if_pos hy, q2, if_neg (nI_pos (by omega)), if_neg (fun r => by have := nI_inj (b := 120) (by omega) (by decide) r; omega)]⟩
        · have e : gN z = 120 := by omega
          exact Or.inr ⟨by rw [hp, if_pos hy, q2, if_neg (nI_m1 (by omega)), e]; rfl, 3, fun _ => rfl, by decide, fun wr hz => by rw [hm wr hz, if_pos hy, q2, if_neg (nI_pos (by omega)), e]; rfl⟩
    · exact Or.inr ⟨by rw [hp, if_neg hy], 3, fun _ => rfl, by decide, fun wr hz => by rw [hm wr hz, if_neg hy]⟩
  · refine Or.inr ⟨by rw [hp, (hW.abs hc ht).1]; rfl, 1, fun q => absurd q ht, by decide, fun wr hz => ?_⟩
    unfold F_X8_whyNotSwap
    rw [m_isChildN hc (by rw [hz]; exact ht), bd_s, if_pos rfl]
theorem K10 (hI : INV w B T) (hi : i + 4 ≤ L) (hL : L ≤ 2048) (hT : T < 2 ^ 30) : ∃ w', K_law_10 xs L rec (nI i) w = rec (nI i + 4) w' ∧ INV w' (B + 60) (T + 200) := by
  unfold K_law_10
  simp only [sld_1 hi (show L < 2 ^ 31 by omega), sld_2 hi (show L < 2 ^ 31 by omega)]
  generalize xs (i + 1) = a
  generalize xs (i + 2) = a2
  obtain ⟨hW, hY⟩ := hI.1
  rcases childs hY a with ⟨c, hc, rfl, ht⟩ | ⟨h1, h2⟩
  · have hn := p_needChildY hY hc ht
    rcases i_cases a2 12 (by decide) with ⟨b, hb, rfl⟩ | h3
    · rcases t_take hW hY hc hb with ⟨⟨-, l, l1, l2⟩, g2, g3⟩ | ⟨g2, e, g4, g5, g6⟩
      · refine do_ret (Es := [eI', eS']) (fMc := fun w1 => F_X8_take (nI c) (nI b) w1) hI (by omega) (by omega) ?_ (fun w1 hz => ?_) (fun wp hYp => (d_take hW hYp hT hc ht hb l1 l2).o.mono (by omega) (by omega))
        · unfold F_X7_take
          rw [hn, bx_l, p_needBranchY hb, bx_l, g2, bd_s, if_neg (by decide)]
        · exact wy_ok (g3 w1 hz)
      · obtain rfl := g4 ht
        refine do_thr (Es := [eI', eS']) (k := 2) (b := 0) (E := "java/lang/IllegalStateException") (fMc := fun w1 => F_X8_take (nI c) (nI b) w1) hI (by omega) (by omega) ?_ rfl (by decide) ?_
        · unfold F_X7_take
          rw [hn, bx_l, p_needBranchY hb, bx_l, g2, bd_s, if_pos rfl]
        · exact wy_no (g6 w rfl) g5
    · refine do_thr (Es := [eI', eS']) (k := 1) (b := 0) (E := "java/lang/IndexOutOfBoundsException") (fMc := fun w1 => F_X8_take (nI c) a2 w1) hI (by omega) (by omega) ?_ rfl (by decide) ?_
      · unfold F_X7_take
        rw [hn, bx_l, p_needBranchN h3, bx_r]
      · refine wy_no (why := F_X8_whyNotTake (nI c) a2) (e := 1) ?_ (by decide)
        unfold F_X8_whyNotTake
        rw [m_isChildY hc ht, bd_s, if_neg (by decide), m_isBranchN h3, bd_s, if_pos rfl]
  · refine do_thr (Es := [eI', eS']) (k := 1) (b := 0) (E := "java/lang/IndexOutOfBoundsException") (fMc := fun w1 => F_X8_take a a2 w1) hI (by omega) (by omega) ?_ rfl (by decide) ?_
    · unfold F_X7_take
      rw [h1, bx_r]
    · refine wy_no (why := F_X8_whyNotTake a a2) (e := 1) ?_ (by decide)
      unfold F_X8_whyNotTake
      rw [h2 w rfl, bd_s, if_pos rfl]
theorem K11 (hI : INV w B T) (hi : i + 4 ≤ L) (hL : L ≤ 2048) (hT : T < 2 ^ 30) : ∃ w', K_law_11 xs L rec (nI i) w = rec (nI i + 4) w' ∧ INV w' (B + 60) (T + 200) := by
  unfold K_law_11
  simp only [sld_1 hi (show L < 2 ^ 31 by omega), sld_2 hi (show L < 2 ^ 31 by omega), sld_3 hi (show L < 2 ^ 31 by omega)]
  generalize xs (i + 1) = a
  generalize xs (i + 2) = a2
  generalize xs (i + 3) = a3
  obtain ⟨hW, hY⟩ := hI.1
  rcases childs hY a with ⟨c, hc, rfl, ht⟩ | ⟨h1, h2⟩
  · have hn := p_needChildY hY hc ht
    rcases i_cases a2 12 (by decide) with ⟨b, hb, rfl⟩ | h3
    · rcases i_cases a3 10 (by decide) with ⟨q, hq, rfl⟩ | h4
      · rcases t_swap hW hY hc hb hq with ⟨⟨-, g0, l, l1, l2⟩, g2, g3⟩ | ⟨g2, e, g4, g5, g6⟩
        · refine do_ret (Es := [eI', eA', eS']) (fMc := fun w1 => F_X8_swap (nI c) (nI b) (nI q) w1) hI (by omega) (by omega) ?_ (fun w1 hz => ?_) (fun wp hYp => (d_swap hW hYp hT hc ht hb l1 l2 g0 (nI q)).mono (by omega) (by omega))
          · unfold F_X7_swap
            rw [hn, bx_l, p_needBranchY hb, bx_l, p_needColourY hq, bx_l, g2, bd_s, if_neg (by decide)]
          · exact wy_ok (g3 w1 hz)
        · obtain rfl := g4 ht
          refine do_thr (Es := [eI', eA', eS']) (k := 3) (b := 0) (E := "java/lang/IllegalStateException") (fMc := fun w1 => F_X8_swap (nI c) (nI b) (nI q) w1) hI (by omega) (by omega) ?_ rfl (by decide) ?_
          · unfold F_X7_swap
            rw [hn, bx_l, p_needBranchY hb, bx_l, p_needColourY hq, bx_l, g2, bd_s, if_pos rfl]
          · exact wy_no (g6 w rfl) g5
      · refine do_thr (Es := [eI', eA', eS']) (k := 2) (b := 0) (E := "java/lang/IllegalArgumentException") (fMc := fun w1 => F_X8_swap (nI c) (nI b) a3 w1) hI (by omega) (by omega) ?_ rfl (by decide) ?_
        · unfold F_X7_swap
          rw [hn, bx_l, p_needBranchY hb, bx_l, p_needColourN h4, bx_r]
        · refine wy_no (why := F_X8_whyNotSwap (nI c) (nI b) a3) (e := 2) ?_ (by decide)
          unfold F_X8_whyNotSwap
          rw [m_isChildY hc ht, bd_s, if_neg (by decide), m_isBranchY hb, bd_s, if_neg (by decide), m_isColourN h4, bd_s, if_pos rfl]
    · refine do_thr (Es := [eI', eA', eS']) (k := 1) (b := 0) (E := "java/lang/IndexOutOfBoundsException") (fMc := fun w1 => F_X8_swap (nI c) a2 a3 w1) hI (by omega) (by omega) ?_ rfl (by decide) ?_
      · unfold F_X7_swap
        rw [hn, bx_l, p_needBranchN h3, bx_r]
      · refine wy_no (why := F_X8_whyNotSwap (nI c) a2 a3) (e := 1) ?_ (by decide)
        unfold F_X8_whyNotSwap
        rw [m_isChildY hc ht, bd_s, if_neg (by decide), m_isBranchN h3, bd_s, if_pos rfl]
  · refine do_thr (Es := [eI', eA', eS']) (k := 1) (b := 0) (E := "java/lang/IndexOutOfBoundsException") (fMc := fun w1 => F_X8_swap a a2 a3 w1) hI (by omega) (by omega) ?_ rfl (by decide) ?_
    · unfold F_X7_swap
      rw [h1, bx_r]
    · refine wy_no (why := F_X8_whyNotSwap a a2 a3) (e := 1) ?_ (by decide)
      unfold F_X8_whyNotSwap
      rw [h2 w rfl, bd_s, if_pos rfl]
end SW
