/-! what must hold before a call, on both sides; the calls enter, rest, ring, note, pin, loosen, look, set -/
def TS (z : Nat → Int32) (w : xWt) (mayP whyM : xWt → Option (Int32 × xWt)) (G C : Prop) (n : Int32) : Prop := (G ∧ mayP w = some (1, w) ∧ ∀ wr, zz wr = z → whyM wr = some (0, wr)) ∨ (mayP w = some (0, w) ∧ ∃ e, (C → e = n) ∧ ¬ e ≤ 0 ∧ ∀ wr, zz wr = z → whyM wr = some (e, wr))
theorem DO.mono {z : Nat → Int32} {w : xWt} {B T B' T' : Nat} {fP fM : xWt → Option (Int32 × xWt)} (hB : B ≤ B') (hT : T ≤ T') (h : DO z B T w fP fM) : DO z B' T' w fP fM := fun wr hz => by
  obtain ⟨v, wq, wE, a1, a2, a3, a4, a5, a6⟩ := h wr hz
  exact ⟨v, wq, wE, a1, a2, a3, a4, a5, a6.mono hB hT⟩
theorem do_ret {rec : Int32 → xWt → Option Unit} {l4 : Int32} {fPc : Option ((Int32 ⊕ String) × xWt)} {fMc fP fM : xWt → Option (Int32 × xWt)} {Es : List String} {w : xWt} {B T B' T' : Nat} (hI : INV w B T) (hB : B ≤ B') (hT : T ≤ T') (hP : fPc = bd (F_X5_push 0 w) (fun _ w3 => bd (fP w3) (fun x5 w4 => some (Sum.inl x5, w4)))) (hM : ∀ w1, zz w1 = zz w → fMc w1 = bd (F_X8_record (sF w1 9 0 0)) (fun _ w4 => bd (fM w4) (fun x6 w5 => some (x6, w5)))) (hD : ∀ wp, YR 0 (zz w) wp → DO (zz w) B' T' wp fP fM) : ∃ w', bd (lwrap fPc Es) (fun k w1 => bd (fMc w1) (fun b w2 => tl rec l4 k b w2)) = rec (l4 + 4) w' ∧ INV w' B' T' := by
  obtain ⟨v, w1, wE, a1, a2, a3, a4, a5, a6, a7⟩ := call_do hI hB hT hD
  exact ⟨wE, call_ret (hP.trans a1) a2 ((hM (sO w1 v.toInt64) a3).trans a4) a5 a6, a7⟩
theorem do_thr {rec : Int32 → xWt → Option Unit} {l4 k b : Int32} {E : String} {fPc : Option ((Int32 ⊕ String) × xWt)} {fMc : xWt → Option (Int32 × xWt)} {Es : List String} {w : xWt} {B T B' T' : Nat} (hI : INV w B T) (hB : B ≤ B') (hT : T ≤ T') (hP : fPc = some (.inr E, w)) (hc : hcode Es 1 E = some k) (hk : k ≠ 0) (hM : fMc w = some (b, sF w 9 0 k)) : ∃ w', bd (lwrap fPc Es) (fun k w1 => bd (fMc w1) (fun b w2 => tl rec l4 k b w2)) = rec (l4 + 4) w' ∧ INV w' B' T' := by
  obtain ⟨w', e, hs⟩ := rd_thr (rec := rec) (l4 := l4) hP hc hk hM
  exact ⟨w', e, (hI.sim hs).mono hB hT⟩
section T1
variable {z : Nat → Int32} {xs : Nat → Int32} {L i B T b c l h : Nat} {rec : Int32 → xWt → Option Unit} {w : xWt} {a : Int32}
theorem WF.abs (hW : WF z B T) (hc : c < 5) (h0 : zC z c 0 ≠ 1) : yI z c = false ∧ ∀ h, h < 3 → zH z c h 0 = 0 := by
  rcases hW.c c hc with ⟨-, q1, -, q2⟩ | ⟨q, -⟩
  · exact ⟨by unfold yI; rw [q1]; rfl, q2⟩
  · exact absurd q h0
theorem m_isChildN (hc : c < 5) (ht : zC (zz w) c 0 ≠ 1) : F_X8_isChild (nI c) w = some (0, w) := by
  unfold F_X8_isChild
  rw [show F_X8_in (nI c) 0 4 w = some (1, w) from m_inY (N := 4) (by omega) (by decide), bd_s, if_neg (by decide), m_ofC0 hc, bd_s, if_neg ht]
theorem t_enter (hW : WF z B T) (hY : YR 0 z w) (hc : c < 5) : TS z w (F_X6_mayGoIn 0 (nI c)) (F_X8_whyNotEnter (nI c)) (zC z c 0 = 1) (zC z c 0 = 1) 2 := by
  by_cases ht : zC z c 0 = 1
  · have hp : F_X0_isHere 0 (nI c) w = some (1, w) := by rw [p_isHere hY hc]; unfold ch; rw [decide_eq_true ht]; rfl
    by_cases hy : yI z c = true
    · refine Or.inr ⟨?_, 2, fun _ => rfl, by decide, fun wr hz => ?_⟩
      · unfold F_X6_mayGoIn
        rw [hp, bd_s, if_neg (by decide), p_isInYard hW hY hc, bd_s, if_pos hy, if_neg (by decide)]
      · unfold F_X8_whyNotEnter
        rw [m_isChildY hc (by rw [hz]; exact ht), bd_s, if_neg (by decide), m_isInYard hc, bd_s, hz, if_pos hy, if_neg (by decide)]
    · refine Or.inl ⟨ht, ?_, fun wr hz => ?_⟩
      · unfold F_X6_mayGoIn
        rw [hp, bd_s, if_neg (by decide), p_isInYard hW hY hc, bd_s, if_neg hy, if_pos rfl]
      · unfold F_X8_whyNotEnter
        rw [m_isChildY hc (by rw [hz]; exact ht), bd_s, if_neg (by decide), m_isInYard hc, bd_s, hz, if_neg hy, if_pos rfl]
  · refine Or.inr ⟨?_, 1, fun q => absurd q ht, by decide, fun wr hz => ?_⟩
    · unfold F_X6_mayGoIn
      rw [p_isHere hY hc, bd_s]
      unfold ch
      rw [decide_eq_false ht]
      rfl
    · unfold F_X8_whyNotEnter
      rw [m_isChildN hc (by rw [hz]; exact ht), bd_s, if_pos rfl]
theorem t_rest (hW : WF z B T) (hY : YR 0 z w) (hc : c < 5) : TS z w (F_X6_mayLieDown 0 (nI c)) (F_X8_whyNotRest (nI c)) (zC z c 0 = 1) (zC z c 0 = 1) 2 := by
  have hp : F_X6_mayLieDown 0 (nI c) w = some (if yI z c then 1 else 0, w) := by
    unfold F_X6_mayLieDown
    rw [p_isInYard hW hY hc, bd_s]
    cases yI z c
    · exact zr_0 _
    · exact zr_1 _
  by_cases ht : zC z c 0 = 1
  · by_cases hy : yI z c = true
    · refine Or.inl ⟨ht, by rw [hp, if_pos hy], fun wr hz => ?_⟩
      unfold F_X8_whyNotRest
      rw [m_isChildY hc (by rw [hz]; exact ht), bd_s, if_neg (by decide), m_isInYard hc, bd_s, hz, if_pos hy, if_neg (by decide)]
    · refine Or.inr ⟨by rw [hp, if_neg hy], 2, fun _ => rfl, by decide, fun wr hz => ?_⟩
      unfold F_X8_whyNotRest
      rw [m_isChildY hc (by rw [hz]; exact ht), bd_s, if_neg (by decide), m_isInYard hc, bd_s, hz, if_neg hy, if_pos rfl]
  · refine Or.inr ⟨by rw [hp, (hW.abs hc ht).1]; rfl, 1, fun q => absurd q ht, by decide, fun wr hz => ?_⟩
    unfold F_X8_whyNotRest
    rw [m_isChildN hc (by rw [hz]; exact ht), bd_s, if_pos rfl]
theorem brs (hW : WF z B T) (hb : b < 12) : z (10 + b) = -1 ∨ ∃ l, l < gN z ∧ z (10 + b) = nI l := by
  rcases hW.b b hb with q | ⟨l, q1, q2, -⟩
  · exact Or.inl q
  · exact Or.inr ⟨l, q1, q2⟩
theorem t_note (hW : WF z B T) (hY : YR 0 z w) (hc : c < 5) (hh : h < 3) (hb : b < 12) : TS z w (F_X6_mayWrite 0 (nI c) (nI h) (nI b)) (F_X8_whyNotNote (nI c) (nI h) (nI b)) (zC z c 0 = 1 ∧ zH z c h 0 = 0 ∧ ∃ l, l < gN z ∧ z (10 + b) = nI l) (zC z c 0 = 1) 2 := by
  have h120 := hW.g120
  by_cases ht : zC z c 0 = 1
  · have hm : ∀ wr, zz wr = z → F_X8_whyNotNote (nI c) (nI h) (nI b) wr = some (if yI z c then (if zH z c h 0 = 0 then (if 0 ≤ z (10 + b) then 0 else 2) else 2) else 2, wr) := fun wr hz => by
      unfold F_X8_whyNotNote
      rw [m_isChildY hc (by rw [hz]; exact ht), bd_s, if_neg (by decide), m_isHookY hh, bd_s, if_neg (by decide), m_isBranchY hb, bd_s, if_neg (by decide), m_isInYard hc, bd_s, hz]
      by_cases hy : yI z c = true
      · rw [if_pos hy, if_neg (by decide), if_pos hy, m_ofH0 hc hh, bd_s, hz]
        by_cases hk : zH z c h 0 = 0
        · rw [if_pos hk, if_pos hk, m_br hb, hz]
          by_cases h0 : 0 ≤ z (10 + b)
          · rw [if_pos h0, if_pos h0]
          · rw [if_neg h0, if_neg h0]
        · rw [if_neg hk, if_neg hk]
      · rw [if_neg hy, if_pos rfl, if_neg hy]
    by_cases hy : yI z c = true
    · by_cases hk : zH z c h 0 = 0
      · have hp : F_X6_mayWrite 0 (nI c) (nI h) (nI b) w = some (if z (10 + b) = -1 then 0 else 1, w) := by
          unfold F_X6_mayWrite
          rw [p_isInYard hW hY hc, bd_s, if_pos hy, if_neg (by decide), p_kindOf hW hY hc hh, bd_s, if_pos hk, R_get, bd_s, g_12 hb, hY.b b hb]
          by_cases q : z (10 + b) = -1
          · rw [if_pos q, if_pos q]
          · rw [if_neg q, if_neg q]
        rcases brs hW hb with q | ⟨l, q1, q2⟩
        · exact Or.inr ⟨by rw [hp, if_pos q], 2, fun _ => rfl, by decide, fun wr hz => by rw [hm wr hz, if_pos hy, if_pos hk, q]; rfl⟩
        · exact Or.inl ⟨⟨ht, hk, l, q1, q2⟩, by rw [hp, q2, if_neg (nI_m1 (by omega))], fun wr hz => by rw [hm wr hz, if_pos hy, if_pos hk, q2, if_pos (nI_pos' (by omega))]⟩
      · refine Or.inr ⟨?_, 2, fun _ => rfl, by decide, fun wr hz => by rw [hm wr hz, if_pos hy, if_neg hk]⟩
        unfold F_X6_mayWrite
        rw [p_isInYard hW hY hc, bd_s, if_pos hy, if_neg (by decide), p_kindOf hW hY hc hh, bd_s, if_neg hk]
    · refine Or.inr ⟨?_, 2, fun _ => rfl, by decide, fun wr hz => by rw [hm wr hz, if_neg hy]⟩
      unfold F_X6_mayWrite
      rw [p_isInYard hW hY hc, bd_s, if_neg hy, if_pos rfl]
  · refine Or.inr ⟨?_, 1, fun q => absurd q ht, by decide, fun wr hz => ?_⟩
    · unfold F_X6_mayWrite
      rw [p_isInYard hW hY hc, bd_s, (hW.abs hc ht).1]
      rfl
    · unfold F_X8_whyNotNote
      rw [m_isChildN hc (by rw [hz]; exact ht), bd_s, if_pos rfl]
theorem t_pin (hW : WF z B T) (hY : YR 0 z w) (hc : c < 5) (hh : h < 3) : TS z w (F_X6_mayFasten 0 (nI c) (nI h)) (F_X8_whyNotPin (nI c) (nI h)) (zC z c 0 = 1 ∧ zH z c h 0 = 1) (zC z c 0 = 1) 2 := by
  have hp : F_X6_mayFasten 0 (nI c) (nI h) w = some (if zH z c h 0 = 1 then 1 else 0, w) := by
    unfold F_X6_mayFasten
    rw [p_kindOf hW hY hc hh, bd_s]
    by_cases q : zH z c h 0 = 1
    · rw [if_pos q, if_pos q]
    · rw [if_neg q, if_neg q]
  by_cases ht : zC z c 0 = 1
  · have hm : ∀ wr, zz wr = z → F_X8_whyNotPin (nI c) (nI h) wr = some (if zH z c h 0 = 1 then 0 else 2, wr) := fun wr hz => by
      unfold F_X8_whyNotPin
      rw [m_isChildY hc (by rw [hz]; exact ht), bd_s, if_neg (by decide), m_isHookY hh, bd_s, if_neg (by decide), m_ofH0 hc hh, bd_s, hz]
      by_cases q : zH z c h 0 = 1
      · rw [if_pos q, if_pos q]
      · rw [if_neg q, if_neg q]
    by_cases hk : zH z c h 0 = 1
    · exact Or.inl ⟨⟨ht, hk⟩, by rw [hp, if_pos hk], fun wr hz => by rw [hm wr hz, if_pos hk]⟩
    · exact Or.inr ⟨by rw [hp, if_neg hk], 2, fun _ => rfl, by decide, fun wr hz => by rw [hm wr hz, if_neg hk]⟩
  · refine Or.inr ⟨by rw [hp, (hW.abs hc ht).2 h hh]; rfl, 1, fun q => absurd q ht, by decide, fun wr hz => ?_⟩
    unfold F_X8_whyNotPin
    rw [m_isChildN hc (by rw [hz]; exact ht), bd_s, if_pos rfl]
theorem t_use (hW : WF z B T) (hY : YR 0 z w) (hc : c < 5) (hh : h < 3) : TS z w (F_X6_mayRelease 0 (nI c) (nI h)) (F_X8_whyNotUse (nI c) (nI h)) (zC z c 0 = 1 ∧ zH z c h 0 ≠ 0) (zC z c 0 = 1) 2 := by
  have hp : F_X6_mayRelease 0 (nI c) (nI h) w = some (if zH z c h 0 = 0 then 0 else 1, w) := by
    unfold F_X6_mayRelease
    rw [p_kindOf hW hY hc hh, bd_s]
    by_cases q : zH z c h 0 = 0
    · rw [if_pos q, if_pos q]
    · rw [if_neg q, if_neg q]
  by_cases ht : zC z c 0 = 1
  · have hm : ∀ wr, zz wr = z → F_X8_whyNotUse (nI c) (nI h) wr = some (if zH z c h 0 = 0 then 2 else 0, wr) := fun wr hz => by
      unfold F_X8_whyNotUse
      rw [m_isChildY hc (by rw [hz]; exact ht), bd_s, if_neg (by decide), m_isHookY hh, bd_s, if_neg (by decide), m_ofH0 hc hh, bd_s, hz]
      by_cases q : zH z c h 0 = 0
      · rw [if_pos q, if_pos q]
      · rw [if_neg q, if_neg q]
    by_cases hk : zH z c h 0 = 0
    · exact Or.inr ⟨by rw [hp, if_pos hk], 2, fun _ => rfl, by decide, fun wr hz => by rw [hm wr hz, if_pos hk]⟩
    · exact Or.inl ⟨⟨ht, hk⟩, by rw [hp, if_neg hk], fun wr hz => by rw [hm wr hz, if_neg hk]⟩
  · refine Or.inr ⟨by rw [hp, (hW.abs hc ht).2 h hh]; rfl, 1, fun q => absurd q ht, by decide, fun wr hz => ?_⟩
    unfold F_X8_whyNotUse
    rw [m_isChildN hc (by rw [hz]; exact ht), bd_s, if_pos rfl]
/-- the reference's call behind its test -/
theorem wy_ok {why fM : xWt → Option (Int32 × xWt)} {w1 : xWt} (h : why w1 = some (0, w1)) : bd (why w1) (fun x2 w1 => lw (sF w1 9 0 x2) (fun w3 => (if (w3.2.1 9 0) ≤ 0 then fM w3 else some (0, w3)))) = fM (sF w1 9 0 0) := by
  rw [h, bd_s, lw_ok]
theorem wy_no {why fM : xWt → Option (Int32 × xWt)} {w1 : xWt} {e : Int32} (h : why w1 = some (e, w1)) (he : ¬ e ≤ 0) : bd (why w1) (fun x2 w1 => lw (sF w1 9 0 x2) (fun w3 => (if (w3.2.1 9 0) ≤ 0 then fM w3 else some (0, w3)))) = some (0, sF w1 9 0 e) := by
  rw [h, bd_s, lw_thr _ he]
theorem K2 (hI : INV w B T) (hi : i + 4 ≤ L) (hL : L ≤ 2048) : ∃ w', K_law_2 xs L rec (nI i) w = rec (nI i + 4) w' ∧ INV w' (B + 60) (T + 200) := by
  unfold K_law_2
  simp only [sld_1 hi (show L < 2 ^ 31 by omega)]
  generalize xs (i + 1) = a
  obtain ⟨hW, hY⟩ := hI.1
  rcases childs hY a with ⟨c, hc, rfl, ht⟩ | ⟨h1, h2⟩
  · have hn := p_needChildY hY hc ht
    rcases t_enter hW hY hc with ⟨g1, g2, g3⟩ | ⟨g2, e, g4, g5, g6⟩
    · refine do_ret (Es := [eI', eS']) (fMc := fun w1 => F_X8_enter (nI c) w1) hI (by omega) (by omega) ?_ (fun w1 hz => ?_) (fun wp hYp => (d_enter hW hYp hc g1).mono (by omega) (by omega))
      · unfold F_X7_enter
        rw [hn, bx_l, g2, bd_s, if_neg (by decide)]
      · exact wy_ok (g3 w1 hz)
    · obtain rfl := g4 ht
      refine do_thr (Es := [eI', eS']) (k := 2) (b := 0) (E := "java/lang/IllegalStateException") (fMc := fun w1 => F_X8_enter (nI c) w1) hI (by omega) (by omega) ?_ rfl (by decide) ?_
      · unfold F_X7_enter
        rw [hn, bx_l, g2, bd_s, if_pos rfl]
      · exact wy_no (g6 w rfl) g5
  · refine do_thr (Es := [eI', eS']) (k := 1) (b := 0) (E := "java/lang/IndexOutOfBoundsException") (fMc := fun w1 => F_X8_enter a w1) hI (by omega) (by omega) ?_ rfl (by decide) ?_
    · unfold F_X7_enter
      rw [h1, bx_r]
    · refine wy_no (why := F_X8_whyNotEnter a) (e := 1) ?_ (by decide)
      unfold F_X8_whyNotEnter
      rw [h2 w rfl, bd_s, if_pos rfl]
theorem K3 (hI : INV w B T) (hi : i + 4 ≤ L) (hL : L ≤ 2048) : ∃ w', K_law_3 xs L rec (nI i) w = rec (nI i + 4) w' ∧ INV w' (B + 60) (T + 200) := by
  unfold K_law_3
  simp only [sld_1 hi (show L < 2 ^ 31 by omega)]
  generalize xs (i + 1) = a
  obtain ⟨hW, hY⟩ := hI.1
  rcases childs hY a with ⟨c, hc, rfl, ht⟩ | ⟨h1, h2⟩
  · have hn := p_needChildY hY hc ht
    rcases t_rest hW hY hc with ⟨g1, g2, g3⟩ | ⟨g2, e, g4, g5, g6⟩
    · refine do_ret (Es := [eI', eS']) (fMc := fun w1 => F_X8_rest (nI c) w1) hI (by omega) (by omega) ?_ (fun w1 hz => ?_) (fun wp hYp => (d_rest hW hYp hc g1).mono (by omega) (by omega))
      · unfold F_X7_rest
        rw [hn, bx_l, g2, bd_s, if_neg (by decide)]
      · exact wy_ok (g3 w1 hz)
    · obtain rfl := g4 ht
      refine do_thr (Es := [eI', eS']) (k := 2) (b := 0) (E := "java/lang/IllegalStateException") (fMc := fun w1 => F_X8_rest (nI c) w1) hI (by omega) (by omega) ?_ rfl (by decide) ?_
      · unfold F_X7_rest
        rw [hn, bx_l, g2, bd_s, if_pos rfl]
      · exact wy_no (g6 w rfl) g5
  · refine do_thr (Es := [eI', eS']) (k := 1) (b := 0) (E := "java/lang/IndexOutOfBoundsException") (fMc := fun w1 => F_X8_rest a w1) hI (by omega) (by omega) ?_ rfl (by decide) ?_
    · unfold F_X7_rest
      rw [h1, bx_r]
    · refine wy_no (why := F_X8_whyNotRest a) (e := 1) ?_ (by decide)
      unfold F_X8_whyNotRest
      rw [h2 w rfl, bd_s, if_pos rfl]
theorem t_ring (hW : WF z B T) (hY : YR 0 z w) : (mk (lO z) 5 = 0 ∧ F_X6_mayStrike 0 w = some (1, w)) ∨ (mk (lO z) 5 ≠ 0 ∧ F_X6_mayStrike 0 w = some (0, w)) := by
  unfold F_X6_mayStrike
  rw [show w.2.1 0 0 = z 0 from hY.f.1, p_maskOfLate hW hY, bd_s]
  by_cases q : mk (lO z) 5 = 0
  · exact Or.inl ⟨q, by rw [if_pos q]⟩
  · exact Or.inr ⟨q, by rw [if_neg q]⟩
theorem K4 (hI : INV w B T) (hB : B < 2 ^ 30) : ∃ w', K_law_4 xs L rec (nI i) w = rec (nI i + 4) w' ∧ INV w' (B + 60) (T + 200) := by
  unfold K_law_4
  obtain ⟨hW, hY⟩ := hI.1
  rcases t_ring hW hY with ⟨g1, g2⟩ | ⟨g1, g2⟩
  · refine do_ret (Es := [eS']) (fMc := fun w1 => F_X8_ring w1) hI (by omega) (by omega) ?_ (fun w1 hz => ?_) (fun wp hYp => (d_ring hW hB hYp).mono (by omega) (by omega))
    · unfold F_X7_ring
      rw [g2, bd_s, if_neg (by decide)]
    · show F_X8_ring w1 = _
      unfold F_X8_ring
      rw [m_lateOnes, bd_s, hz, if_pos g1, lw_ok]
  · refine do_thr (Es := [eS']) (k := 1) (b := 0) (E := "java/lang/IllegalStateException") (fMc := fun w1 => F_X8_ring w1) hI (by omega) (by omega) ?_ rfl (by decide) ?_
    · unfold F_X7_ring
      rw [g2, bd_s, if_pos rfl]
    · show F_X8_ring w = _
      unfold F_X8_ring
      rw [m_lateOnes, bd_s, if_neg g1, lw_thr _ (by decide)]
end T1
