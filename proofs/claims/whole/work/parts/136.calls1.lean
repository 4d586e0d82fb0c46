/-! the calls note, pin, loosen, look, set -/
theorem bd_eta {α : Type} (m : Option (α × xWt)) : bd m (fun x w => some (x, w)) = m := by
  match m with
  | some (a, w) => rfl
  | none => rfl
section T2
variable {z : Nat → Int32} {xs : Nat → Int32} {L i B T b c l h : Nat} {rec : Int32 → xWt → Option Unit} {w : xWt} {a : Int32}
theorem hooks (hY : YR 0 z w) (a a2 : Int32) : (∃ c h, c < 5 ∧ h < 3 ∧ a = nI c ∧ a2 = nI h ∧ zC z c 0 = 1 ∧ F_X7_needHook (nI c) (nI h) w = some (.inl (), w)) ∨ (F_X7_needHook a a2 w = some (.inr "java/lang/IndexOutOfBoundsException", w) ∧ ((∀ w1, zz w1 = z → F_X8_isChild a w1 = some (0, w1)) ∨ ((∀ w1, zz w1 = z → F_X8_isChild a w1 = some (1, w1)) ∧ ∀ w1, F_X8_isHook a2 w1 = some (0, w1)))) := by
  rcases childs hY a with ⟨c, hc, rfl, ht⟩ | ⟨h1, h2⟩
  · rcases i_cases a2 3 (by decide) with ⟨h, hh, rfl⟩ | h2
    · exact Or.inl ⟨c, h, hc, hh, rfl, rfl, ht, p_needHookY hY hc ht hh⟩
    · exact Or.inr ⟨p_needHookN hY hc ht h2, Or.inr ⟨fun w1 hz => m_isChildY hc (by rw [hz]; exact ht), fun w1 => m_isHookN h2⟩⟩
  · refine Or.inr ⟨?_, Or.inl h2⟩
    unfold F_X7_needHook
    rw [h1, bx_r]
theorem bits2 {a a2 : Int32} {w1 : xWt} {f : Int32 → xWt → Option (Int32 × xWt)} (h : F_X8_isChild a w1 = some (0, w1) ∨ (F_X8_isChild a w1 = some (1, w1) ∧ F_X8_isHook a2 w1 = some (0, w1))) : bd (F_X8_isChild a w1) (fun x2 w1 => (if x2 = 0 then some (1, w1) else bd (F_X8_isHook a2 w1) (fun x4 w3 => (if x4 = 0 then some (1, w3) else f x4 w3)))) = some (1, w1) := by
  rcases h with q | ⟨q1, q2⟩
  · rw [q, bd_s, if_pos rfl]
  · rw [q1, bd_s, if_neg (by decide), q2, bd_s, if_pos rfl]
theorem K7 (hI : INV w B T) (hi : i + 4 ≤ L) (hL : L ≤ 2048) : ∃ w', K_law_7 xs L rec (nI i) w = rec (nI i + 4) w' ∧ INV w' (B + 60) (T + 200) := by
  unfold K_law_7
  simp only [sld_1 hi (show L < 2 ^ 31 by omega), sld_2 hi (show L < 2 ^ 31 by omega)]
  generalize xs (i + 1) = a
  generalize xs (i + 2) = a2
  obtain ⟨hW, hY⟩ := hI.1
  rcases hooks hY a a2 with ⟨c, h, hc, hh, rfl, rfl, ht, hn⟩ | ⟨h1, h2⟩
  · rcases t_pin hW hY hc hh with ⟨g1, g2, g3⟩ | ⟨g2, e, g4, g5, g6⟩
    · refine do_ret (Es := [eI', eS']) (fMc := fun w1 => F_X8_pin (nI c) (nI h) w1) hI (by omega) (by omega) ?_ (fun w1 hz => ?_) (fun wp hYp => (d_pin hW hYp hc g1.1 hh g1.2).mono (by omega) (by omega))
      · unfold F_X7_pin
        rw [hn, bx_l, g2, bd_s, if_neg (by decide)]
      · exact wy_ok (g3 w1 hz)
    · obtain rfl := g4 ht
      refine do_thr (Es := [eI', eS']) (k := 2) (b := 0) (E := "java/lang/IllegalStateException") (fMc := fun w1 => F_X8_pin (nI c) (nI h) w1) hI (by omega) (by omega) ?_ rfl (by decide) ?_
      · unfold F_X7_pin
        rw [hn, bx_l, g2, bd_s, if_pos rfl]
      · exact wy_no (g6 w rfl) g5
  · refine do_thr (Es := [eI', eS']) (k := 1) (b := 0) (E := "java/lang/IndexOutOfBoundsException") (fMc := fun w1 => F_X8_pin a a2 w1) hI (by omega) (by omega) ?_ rfl (by decide) ?_
    · unfold F_X7_pin
      rw [h1, bx_r]
    · refine wy_no (why := F_X8_whyNotPin a a2) (e := 1) ?_ (by decide)
      unfold F_X8_whyNotPin
      exact bits2 (h2.imp (fun q => q w rfl) (fun q => ⟨q.1 w rfl, q.2 w⟩))
theorem K8 (hI : INV w B T) (hi : i + 4 ≤ L) (hL : L ≤ 2048) : ∃ w', K_law_8 xs L rec (nI i) w = rec (nI i + 4) w' ∧ INV w' (B + 60) (T + 200) := by
  unfold K_law_8
  simp only [sld_1 hi (show L < 2 ^ 31 by omega), sld_2 hi (show L < 2 ^ 31 by omega)]
  generalize xs (i + 1) = a
  generalize xs (i + 2) = a2
  obtain ⟨hW, hY⟩ := hI.1
  rcases hooks hY a a2 with ⟨c, h, hc, hh, rfl, rfl, ht, hn⟩ | ⟨h1, h2⟩
  · rcases t_use hW hY hc hh with ⟨g1, g2, g3⟩ | ⟨g2, e, g4, g5, g6⟩
    · refine do_ret (Es := [eI', eS']) (fMc := fun w1 => F_X8_loosen (nI c) (nI h) w1) hI (by omega) (by omega) ?_ (fun w1 hz => ?_) (fun wp hYp => (d_loosen hW hYp hc g1.1 hh g1.2).mono (by omega) (by omega))
      · unfold F_X7_loosen
        rw [hn, bx_l, g2, bd_s, if_neg (by decide)]
      · exact wy_ok (g3 w1 hz)
    · obtain rfl := g4 ht
      refine do_thr (Es := [eI', eS']) (k := 2) (b := 0) (E := "java/lang/IllegalStateException") (fMc := fun w1 => F_X8_loosen (nI c) (nI h) w1) hI (by omega) (by omega) ?_ rfl (by decide) ?_
      · unfold F_X7_loosen
        rw [hn, bx_l, g2, bd_s, if_pos rfl]
      · exact wy_no (g6 w rfl) g5
  · refine do_thr (Es := [eI', eS']) (k := 1) (b := 0) (E := "java/lang/IndexOutOfBoundsException") (fMc := fun w1 => F_X8_loosen a a2 w1) hI (by omega) (by omega) ?_ rfl (by decide) ?_
    · unfold F_X7_loosen
      rw [h1, bx_r]
    · refine wy_no (why := F_X8_whyNotUse a a2) (e := 1) ?_ (by decide)
      unfold F_X8_whyNotUse
      exact bits2 (h2.imp (fun q => q w rfl) (fun q => ⟨q.1 w rfl, q.2 w⟩))
theorem K9 (hI : INV w B T) (hi : i + 4 ≤ L) (hL : L ≤ 2048) : ∃ w', K_law_9 xs L rec (nI i) w = rec (nI i + 4) w' ∧ INV w' (B + 60) (T + 200) := by
  unfold K_law_9
  simp only [sld_1 hi (show L < 2 ^ 31 by omega), sld_2 hi (show L < 2 ^ 31 by omega)]
  generalize xs (i + 1) = a
  generalize xs (i + 2) = a2
  obtain ⟨hW, hY⟩ := hI.1
  rcases hooks hY a a2 with ⟨c, h, hc, hh, rfl, rfl, ht, hn⟩ | ⟨h1, h2⟩
  · rcases t_use hW hY hc hh with ⟨g1, g2, g3⟩ | ⟨g2, e, g4, g5, g6⟩
    · refine do_ret (Es := [eI', eS']) (fMc := fun w1 => F_X8_look (nI c) (nI h) w1) hI (by omega) (by omega) ?_ (fun w1 hz => ?_) (fun wp hYp => (d_look hW hYp hc g1.1 hh g1.2).mono (by omega) (by omega))
      · unfold F_X7_look
        rw [hn, bx_l, g2, bd_s, if_neg (by decide)]
      · exact (wy_ok (g3 w1 hz)).trans (congrArg (bd _) (funext fun _ => funext fun w4 => (bd_eta _).symm))
    · obtain rfl := g4 ht
      refine do_thr (Es := [eI', eS']) (k := 2) (b := 0) (E := "java/lang/IllegalStateException") (fMc := fun w1 => F_X8_look (nI c) (nI h) w1) hI (by omega) (by omega) ?_ rfl (by decide) ?_
      · unfold F_X7_look
        rw [hn, bx_l, g2, bd_s, if_pos rfl]
      · exact wy_no (g6 w rfl) g5
  · refine do_thr (Es := [eI', eS']) (k := 1) (b := 0) (E := "java/lang/IndexOutOfBoundsException") (fMc := fun w1 => F_X8_look a a2 w1) hI (by omega) (by omega) ?_ rfl (by decide) ?_
    · unfold F_X7_look
      rw [h1, bx_r]
    · refine wy_no (why := F_X8_whyNotUse a a2) (e := 1) ?_ (by decide)
      unfold F_X8_whyNotUse
      exact bits2 (h2.imp (fun q => q w rfl) (fun q => ⟨q.1 w rfl, q.2 w⟩))
theorem K6 (hI : INV w B T) (hi : i + 4 ≤ L) (hL : L ≤ 2048) : ∃ w', K_law_6 xs L rec (nI i) w = rec (nI i + 4) w' ∧ INV w' (B + 60) (T + 200) := by
  unfold K_law_6
  simp only [sld_1 hi (show L < 2 ^ 31 by omega), sld_2 hi (show L < 2 ^ 31 by omega), sld_3 hi (show L < 2 ^ 31 by omega)]
  generalize xs (i + 1) = a
  generalize xs (i + 2) = a2
  generalize xs (i + 3) = a3
  obtain ⟨hW, hY⟩ := hI.1
  rcases hooks hY a a2 with ⟨c, h, hc, hh, rfl, rfl, ht, hn⟩ | ⟨h1, h2⟩
  · rcases i_cases a3 12 (by decide) with ⟨b, hb, rfl⟩ | h3
    · rcases t_note hW hY hc hh hb with ⟨⟨-, g1, l, q1, q2⟩, g2, g3⟩ | ⟨g2, e, g4, g5, g6⟩
      · refine do_ret (Es := [eI', eS']) (fMc := fun w1 => F_X8_note (nI c) (nI h) (nI b) w1) hI (by omega) (by omega) ?_ (fun w1 hz => ?_) (fun wp hYp => (d_note hW hYp hc ht hh hb g1 q1 q2).mono (by omega) (by omega))
        · unfold F_X7_note
          rw [hn, bx_l, p_needBranchY hb, bx_l, g2, bd_s, if_neg (by decide)]
        · exact wy_ok (g3 w1 hz)
      · obtain rfl := g4 ht
        refine do_thr (Es := [eI', eS']) (k := 2) (b := 0) (E := "java/lang/IllegalStateException") (fMc := fun w1 => F_X8_note (nI c) (nI h) (nI b) w1) hI (by omega) (by omega) ?_ rfl (by decide) ?_
        · unfold F_X7_note
          rw [hn, bx_l, p_needBranchY hb, bx_l, g2, bd_s, if_pos rfl]
        · exact wy_no (g6 w rfl) g5
    · refine do_thr (Es := [eI', eS']) (k := 1) (b := 0) (E := "java/lang/IndexOutOfBoundsException") (fMc := fun w1 => F_X8_note (nI c) (nI h) a3 w1) hI (by omega) (by omega) ?_ rfl (by decide) ?_
      · unfold F_X7_note
        rw [hn, bx_l, p_needBranchN h3, bx_r]
      · refine wy_no (why := F_X8_whyNotNote (nI c) (nI h) a3) (e := 1) ?_ (by decide)
        unfold F_X8_whyNotNote
        rw [m_isChildY hc ht, bd_s, if_neg (by decide), m_isHookY hh, bd_s, if_neg (by decide), m_isBranchN h3, bd_s, if_pos rfl]
  · refine do_thr (Es := [eI', eS']) (k := 1) (b := 0) (E := "java/lang/IndexOutOfBoundsException") (fMc := fun w1 => F_X8_note a a2 a3 w1) hI (by omega) (by omega) ?_ rfl (by decide) ?_
    · unfold F_X7_note
      rw [h1, bx_r]
    · refine wy_no (why := F_X8_whyNotNote a a2 a3) (e := 1) ?_ (by decide)
      unfold F_X8_whyNotNote
      exact bits2 (h2.imp (fun q => q w rfl) (fun q => ⟨q.1 w rfl, q.2 w⟩))
theorem i_rng {v : Int32} {lo hi : Nat} (hhi : hi < 2 ^ 31) (h : ¬ (v < nI lo ∨ nI hi < v)) (hlo : lo < 2 ^ 31) : ∃ s, lo ≤ s ∧ s ≤ hi ∧ v = nI s := by
  have h0 : ¬ v < 0 := fun q => h (Or.inl (Int32.lt_of_lt_of_le q (nI_pos' hlo)))
  obtain ⟨s, h1, rfl⟩ := nI_of h0
  refine ⟨s, ?_, ?_, rfl⟩
  · by_cases q : lo ≤ s
    · exact q
    · exact absurd (Or.inl (nI_lt (by omega) hlo)) h
  · by_cases q : s ≤ hi
    · exact q
    · exact absurd (Or.inr (nI_lt (by omega) h1)) h
theorem K13 (hI : INV w B T) (hi : i + 4 ≤ L) (hL : L ≤ 2048) : ∃ w', K_law_13 xs L rec (nI i) w = rec (nI i + 4) w' ∧ INV w' (B + 60) (T + 200) := by
  unfold K_law_13
  simp only [sld_1 hi (show L < 2 ^ 31 by omega), sld_2 hi (show L < 2 ^ 31 by omega)]
  generalize xs (i + 1) = a
  generalize xs (i + 2) = a2
  obtain ⟨hW, hY⟩ := hI.1
  rcases i_cases a 2 (by decide) with ⟨k, hk, rfl⟩ | h
  · have hn : F_X7_needSetting (nI k) w = some (.inl (), w) := by
      unfold F_X7_needSetting
      rw [if_neg (nI_pos (by omega)), if_pos (show nI k < 2 from nI_lt (b := 2) hk (by decide))]
    have hin : ∀ w1 : xWt, F_X8_in (nI k) 0 1 w1 = some (1, w1) := fun w1 => m_inY (N := 1) (by omega) (by decide)
    rcases (show k = 0 ∨ k = 1 by omega) with rfl | rfl
    · by_cases hr : a2 < 1 ∨ 20 < a2
      · refine do_thr (Es := [eI', eA']) (k := 2) (b := 0) (E := "java/lang/IllegalArgumentException") (fMc := fun w1 => F_X8_set (nI 0) a2 w1) hI (by omega) (by omega) ?_ rfl (by decide) ?_
        · unfold F_X7_set F_X7_isValueOf
          rw [hn, bx_l, if_pos (show nI 0 = 0 from rfl)]
          by_cases q : a2 < 1
          · rw [if_pos q, bd_s, if_pos rfl]
          · rw [if_neg q, if_pos (hr.resolve_left q), bd_s, if_pos rfl]
        · show F_X8_set (nI 0) a2 w = _
          unfold F_X8_set
          rw [if_pos (show nI 0 = 0 from rfl), m_in, if_pos hr, bd_s, hin, bd_s, if_neg (by decide), if_pos rfl, lw_thr _ (by decide)]
      · obtain ⟨s, s1, s2, rfl⟩ := i_rng (lo := 1) (hi := 20) (by decide) hr (by decide)
        refine do_ret (Es := [eI', eA']) (fMc := fun w1 => F_X8_set (nI 0) (nI s) w1) hI (by omega) (by omega) ?_ (fun w1 hz => ?_) (fun wp hYp => (d_set0 hW hYp s1 s2).mono (by omega) (by omega))
        · unfold F_X7_set F_X7_isValueOf
          rw [hn, bx_l, if_pos (show nI 0 = 0 from rfl), if_neg (fun q => hr (Or.inl q)), if_neg (fun q => hr (Or.inr q)), bd_s, if_neg (by decide)]
          rfl
        · show F_X8_set (nI 0) (nI s) w1 = _
          unfold F_X8_set
          rw [if_pos (show nI 0 = 0 from rfl), m_in, if_neg hr, bd_s, hin, bd_s, if_neg (by decide), if_neg (by decide), lw_ok]
          congr 1
    · by_cases hr : a2 = 0 ∨ a2 = 1
      · refine do_ret (Es := [eI', eA']) (fMc := fun w1 => F_X8_set (nI 1) a2 w1) hI (by omega) (by omega) ?_ (fun w1 hz => ?_) (fun wp hYp => (d_set1 hW hYp hr).mono (by omega) (by omega))
        · unfold F_X7_set F_X7_isValueOf
          rw [hn, bx_l, if_neg (by decide)]
          by_cases q : a2 = 0
          · rw [if_pos q, bd_s, if_neg (by decide)]
            rfl
          · rw [if_neg q, if_pos (hr.resolve_left q), bd_s, if_neg (by decide)]
            rfl
        · show F_X8_set (nI 1) a2 w1 = _
          unfold F_X8_set
          rw [if_neg (by decide), show F_X8_in a2 0 1 w1 = some (1, w1) from by rcases hr with rfl | rfl <;> rfl, bd_s, hin, bd_s, if_neg (by decide), if_neg (by decide), lw_ok]
          congr 1
      · have q0 : ¬ a2 = 0 := fun q => hr (Or.inl q)
        have q1 : ¬ a2 = 1 := fun q => hr (Or.inr q)
        refine do_thr (Es := [eI', eA']) (k := 2) (b := 0) (E := "java/lang/IllegalArgumentException") (fMc := fun w1 => F_X8_set (nI 1) a2 w1) hI (by omega) (by omega) ?_ rfl (by decide) ?_
        · unfold F_X7_set F_X7_isValueOf
          rw [hn, bx_l, if_neg (by decide), if_neg q0, if_neg q1, bd_s, if_pos rfl]
        · show F_X8_set (nI 1) a2 w = _
          unfold F_X8_set
          have h2 : a2 < 0 ∨ 2 ≤ a2.toNatClampNeg := by
            rcases i_cases a2 2 (by decide) with ⟨s, hs, rfl⟩ | q
            · rcases (show s = 0 ∨ s = 1 by omega) with rfl | rfl
              · exact absurd rfl q0
              · exact absurd rfl q1
            · exact q
          rw [if_neg (by decide), show F_X8_in a2 0 1 w = some (0, w) from m_inN (N := 1) h2 (by decide), bd_s, hin, bd_s, if_neg (by decide), if_pos rfl, lw_thr _ (by decide)]
  · have n0 : ¬ a = 0 := fun q => by rw [q] at h; revert h; decide
    refine do_thr (Es := [eI', eA']) (k := 1) (b := 0) (E := "java/lang/IndexOutOfBoundsException") (fMc := fun w1 => F_X8_set a a2 w1) hI (by omega) (by omega) ?_ rfl (by decide) ?_
    · unfold F_X7_set F_X7_needSetting
      by_cases h0 : a < 0
      · rw [if_pos h0, bx_r]
      · rw [if_neg h0, if_neg (show ¬ a < 2 from ltI (N := 2) h h0), bx_r]
    · show F_X8_set a a2 w = _
      unfold F_X8_set
      rw [if_neg n0, m_in, bd_s, show F_X8_in a 0 1 w = some (0, w) from m_inN (N := 1) h (by decide), bd_s, if_pos rfl, lw_thr _ (by decide)]
end T2
