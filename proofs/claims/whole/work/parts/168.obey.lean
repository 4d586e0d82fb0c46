/-! call 17: obey -/
section OBY
variable {t : Nat → Int32} {xs : Nat → Int32} {L i : Nat} {rec : Int32 → xWt → Option Unit} {w : xWt} {ln : Nat}
theorem rd_59 {f : Nat} (hf : f < ln) (hr : (rdO t ln f).2 = true) : ∀ i, f ≤ i → i < (rdO t ln f).1 → t i ≠ 59 := by
  have h : rdO t ln f = match lsO (t f) with
    | none => (f, false)
    | some l => scp t ln l (f + 1) := if_pos hf
  cases hls : lsO (t f) with
  | none =>
    rw [hls] at h
    have h : rdO t ln f = (f, false) := h
    rw [h] at hr
    exact Bool.noConfusion hr
  | some l =>
    rw [hls] at h
    have h : rdO t ln f = scp t ln l (f + 1) := h
    rw [h]
    intro i g1 g2
    by_cases e : i = f
    · rw [e]
      intro q
      rw [q, lsO_59] at hls
      cases hls
    · exact scp_59 l (lsO_pos hls) (f + 1) i (by omega) g2
theorem ob_pass {d : Nat} (hl : w.2.1 8 0 = nI ln) (h60 : ln ≤ 60) : ∀ m n p, (∀ i, p ≤ i → i < p + m → 0 < i ∧ w.1 8 0 (i - 1) ≠ 59) → p + m ≤ ln → L_X7_obey_35 (n + m) (nI d) (nI p) w = L_X7_obey_35 n (nI d) (nI (p + m)) w := by
  intro m
  induction m with
  | zero => intro n p _ _; rfl
  | succ m ih =>
    intro n p h1 h2
    have hp := h1 p (by omega) (by omega)
    have e : L_X7_obey_35 (n + (m + 1)) (nI d) (nI p) w = L_X7_obey_35 (n + m) (nI d) (nI (p + 1)) w := by
      show B_X7_obey_35 (L_X7_obey_35 (n + m)) (nI d) (nI p) w = _
      unfold B_X7_obey_35 F_X3_length
      rw [bd_s, hl, if_neg (nI_ge (by omega) (by omega)), p_starts hl h60 (by omega), bd_s, if_neg (show ¬ (p = 0 ∨ w.1 8 0 (p - 1) = 59) from fun q => q.elim (by omega) hp.2), if_pos rfl, nI_1]
    rw [e, ih n (p + 1) (fun i g1 g2 => h1 i (by omega) (by omega)) (by omega), show p + 1 + m = p + (m + 1) by omega]
def dM3 (w w' : xWt) : Prop := (∀ k r, ¬ (k = 9 ∧ (r = 0 ∨ r = 4)) → w'.1 k r = w.1 k r) ∧ (∀ k j, ¬ (k = 9 ∧ j = 4) → w'.2.1 k j = w.2.1 k j) ∧ w'.2.2 = w.2.2
theorem dM3.trans {a b c : xWt} (h1 : dM3 a b) (h2 : dM3 b c) : dM3 a c := ⟨fun k r h => (h2.1 k r h).trans (h1.1 k r h), fun k j h => (h2.2.1 k j h).trans (h1.2.1 k j h), h2.2.2.trans h1.2.2⟩
theorem f9.m3 {a b : xWt} (h : f9 a b) : dM3 a b := ⟨fun k r q => h.1 k r (by omega), h.2.1, h.2.2⟩
theorem dM.m3 {a b : xWt} (h : dM a b) : dM3 a b := ⟨fun k r q => h.1 k r (by omega), fun k j _ => by rw [h.2], by rw [h.2]⟩
theorem dM3.tx {a b : xWt} (h : dM3 a b) (hT : TXm a t ln) : TXm b t ln := ⟨(h.2.1 9 3 (by decide)).trans hT.1, fun i hi => (congrFun (h.1 9 3 (by decide)) i).trans (hT.2 i hi)⟩
theorem OB (h60 : ln ≤ 60) : ∀ (k f : Nat) (wp wr : xWt) (d B T : Nat), (FE t ln k f).2 = true → f < ln → ln + 1 ≤ k + f → (f = 0 ∨ t (f - 1) = 59) → wp.2.1 8 0 = nI ln → (∀ i, i < ln → wp.1 8 0 i = t i) → TXm wr t ln → YR 0 (zz wr) wp → WF (zz wr) B T → B + (ln - f) < 2 ^ 30 → T + (ln - f) < 2 ^ 30 → ∀ n m, ln - f + 2 ≤ n → ln - f + 2 ≤ m → ∃ d' q2 o2 o3 wq wE, L_X7_obey_35 n (nI d) (nI f) wp = some ((nI d', q2), wq) ∧ dP wp wq ∧ L_X8_obey_40 m (nI d) 1 (nI f) wr = some ((nI d', o2, o3), wE) ∧ dM3 wr wE ∧ YR 0 (zz wE) wq ∧ WF (zz wE) (B + (ln - f)) (T + (ln - f)) := by
  intro k
  induction k with
  | zero => intro f wp wr d B T hc; exact Bool.noConfusion hc
  | succ k ih =>
    intro f wp wr d B T hc hf hk hsp hl htx hT hY hW hB hTT n m hn hm
    unfold FE at hc
    by_cases hr : (rdO t ln f).2 = true
    · rw [if_pos hr] at hc
      have hno := rd_59 hf hr
      have hle := rdO_le (t := t) (ln := ln) (f := f) (by omega)
      have hlt := hle.2 hr
      obtain ⟨wr1, hro, hf9, hone⟩ := one_all hW hY hl h60 hf htx hT (by omega) (by omega) hr
      obtain ⟨n, rfl⟩ : ∃ n', n = n' + 1 := ⟨n - 1, by omega⟩
      obtain ⟨m, rfl⟩ : ∃ m', m = m' + 1 := ⟨m - 1, by omega⟩
      have hst : F_X3_startsPart (nI f) wp = some (1, wp) := by
        rw [p_starts hl h60 hf, if_pos]
        rcases hsp with e | e
        · exact Or.inl e
        · by_cases e0 : f = 0
          · exact Or.inl e0
          · exact Or.inr (by rw [htx _ (by omega)]; exact e)
      have hT1 := hf9.tx hT
      rcases hone with ⟨g1, g2⟩ | ⟨v, wq, wE, x, g1, g2, g3, g4, g5, g6, g7, g8⟩
      · obtain ⟨m, rfl⟩ : ∃ m', m = m' + 1 := ⟨m - 1, by omega⟩
        refine ⟨d, nI f, 0, nI ((rdO t ln f).1 + 1), wp, wr1, ?_, dP.rf wp, ?_, hf9.m3, by rw [hf9.zz]; exact hY, by rw [hf9.zz]; exact hW.mono (by omega) (by omega)⟩
        · show B_X7_obey_35 (L_X7_obey_35 n) (nI d) (nI f) wp = _
          unfold B_X7_obey_35 F_X3_length
          rw [bd_s, hl, if_neg (nI_ge hf (by omega)), hst, bd_s, if_neg (by decide), g1, bd_s, if_pos rfl]
        · show B_X8_obey_40 (L_X8_obey_40 (m + 1)) (nI d) 1 (nI f) wr = _
          unfold B_X8_obey_40
          rw [if_neg (by decide), hT.1, if_neg (nI_ge hf (by omega)), hro, bd_s, g2, bd_s, if_pos rfl, nI_1]
          show B_X8_obey_40 (L_X8_obey_40 m) (nI d) 0 (nI ((rdO t ln f).1 + 1)) wr1 = _
          unfold B_X8_obey_40
          rw [if_pos rfl]
      · have hP : L_X7_obey_35 (n + 1) (nI d) (nI f) wp = L_X7_obey_35 n (nI (d + 1)) (nI (f + 1)) wq := by
          show B_X7_obey_35 (L_X7_obey_35 n) (nI d) (nI f) wp = _
          unfold B_X7_obey_35 F_X3_length
          rw [bd_s, hl, if_neg (nI_ge hf (by omega)), hst, bd_s, if_neg (by decide), g1, bd_s, if_neg g2, nI_1, nI_1]
        have hM : L_X8_obey_40 (m + 1) (nI d) 1 (nI f) wr = L_X8_obey_40 m (nI (d + 1)) 1 (nI ((rdO t ln f).1 + 1)) wE := by
          show B_X8_obey_40 (L_X8_obey_40 m) (nI d) 1 (nI f) wr = _
          unfold B_X8_obey_40
          rw [if_neg (by decide), hT.1, if_neg (nI_ge hf (by omega)), hro, bd_s, g4, bd_s, if_neg (by decide), g5, bd_s, nI_1, nI_1]
        have hlq : wq.2.1 8 0 = nI ln := (g3.2.1 8 0 (by decide)).trans hl
        have htq : ∀ i, i < ln → wq.1 8 0 i = t i := fun i hi => by rw [g3.1 8 0 (by decide)]; exact htx i hi
        have hT2 : TXm wE t ln := g6.m3.tx hT1
        have h3 : dM3 wr wE := hf9.m3.trans g6.m3
        by_cases q2 : (rdO t ln f).1 = ln
        · obtain ⟨m, rfl⟩ : ∃ m', m = m' + 1 := ⟨m - 1, by omega⟩
          refine ⟨d + 1, nI ln, 1, nI (ln + 1), wq, wE, ?_, g3, ?_, h3, g7, g8.mono (by omega) (by omega)⟩
          · rw [hP]
            obtain ⟨n', hn'⟩ : ∃ n', n = n' + 1 + (ln - (f + 1)) := ⟨n - 1 - (ln - (f + 1)), by omega⟩
            rw [hn', ob_pass hlq h60 (ln - (f + 1)) (n' + 1) (f + 1) (fun i g1 g2 => ⟨by omega, by rw [htq _ (by omega)]; exact hno _ (by omega) (by omega)⟩) (by omega), show f + 1 + (ln - (f + 1)) = ln by omega]
            show B_X7_obey_35 (L_X7_obey_35 n') (nI (d + 1)) (nI ln) wq = _
            unfold B_X7_obey_35 F_X3_length
            rw [bd_s, hlq, if_pos (Int32.le_refl _)]
          · rw [hM, q2]
            show B_X8_obey_40 (L_X8_obey_40 m) (nI (d + 1)) 1 (nI (ln + 1)) wE = _
            unfold B_X8_obey_40
            rw [if_neg (by decide), hT2.1, if_pos (nI_le (by omega) (by omega))]
        · rw [if_neg q2] at hc
          by_cases q3 : t (rdO t ln f).1 = 59
          · rw [if_pos q3] at hc
            have hf' : (rdO t ln f).1 + 1 < ln := by
              rcases Nat.lt_or_ge ((rdO t ln f).1 + 1) ln with r | r
              · exact r
              · have e : (rdO t ln f).1 + 1 = ln := by omega
                rw [e] at hc
                have hz : ∀ k, (FE t ln k ln).2 = false := fun k => by
                  cases k with
                  | zero => rfl
                  | succ k =>
                    unfold FE
                    have hr0 : rdO t ln ln = (ln, false) := if_neg (Nat.lt_irrefl _)
                    rw [hr0]
                    rfl
                rw [hz k] at hc
                exact Bool.noConfusion hc
            obtain ⟨n', hn'⟩ : ∃ n', n = n' + ((rdO t ln f).1 - f) := ⟨n - ((rdO t ln f).1 - f), by omega⟩
            obtain ⟨d', p2, o2, o3, wq', wE', e1, e2, e3, e4, e5, e6⟩ := ih ((rdO t ln f).1 + 1) wq wE (d + 1) (B + 1) (T + 1) hc hf' (by omega) (Or.inr (by rw [Nat.add_sub_cancel]; exact q3)) hlq htq hT2 g7 g8 (by omega) (by omega) n' m (by omega) (by omega)
            refine ⟨d', p2, o2, o3, wq', wE', ?_, g3.trans e2, by rw [hM]; exact e3, h3.trans e4, e5, e6.mono (by omega) (by omega)⟩
            rw [hP, hn', ob_pass hlq h60 ((rdO t ln f).1 - f) n' (f + 1) (fun i g1 g2 => ⟨by omega, by rw [htq _ (by omega)]; exact hno _ (by omega) (by omega)⟩) (by omega), show f + 1 + ((rdO t ln f).1 - f) = (rdO t ln f).1 + 1 by omega]
            exact e1
          · rw [if_neg q3] at hc
            exact Bool.noConfusion hc
    · rw [if_neg hr] at hc
      exact Bool.noConfusion hc
theorem K17 {B T : Nat} (hI : INV w B T) (hB : B < 2 ^ 29) (hT : T < 2 ^ 29) : ∃ w', K_law_17 xs L rec (nI i) w = rec (nI i + 4) w' ∧ INV w' (B + 60) (T + 200) := by
  obtain ⟨ln, d1, d2, d3, d4⟩ := hI.2.2.2.1
  have hpc := p_isComplete d2 d1
  unfold K_law_17
  by_cases hc : (FE (w.1 8 0) ln 9999 0).2 = true
  · rw [if_pos hc] at hpc
    have hln : 0 < ln := by
      rcases Nat.eq_zero_or_pos ln with e | e
      · exfalso
        rw [e] at hc
        exact Bool.noConfusion hc
      · exact e
    obtain ⟨v, w1, a1, a2, a3, a4, a5⟩ := call_any (fP := fun w3 => bd (L_X7_obey_35 9999 0 0 w3) (fun o13 w14 => bd (F_X3_empty w14) (fun x16 w15 => some (o13.1, w15)))) (fM := fun w19 => bd (L_X8_obey_40 9999 0 1 0 w19) (fun o20 w21 => lw (sF w21 9 3 0) (fun w22 => some (o20.1, w22)))) hI (B' := B + 60) (T' := T + 200) (by omega) (by omega) (fun wp hYp hfp wr hfr => by
      obtain ⟨d', q2, o2, o3, wq, wE, e1, e2, e3, e4, e5, e6⟩ := OB (t := w.1 8 0) d1 9999 0 wp wr 0 B T hc hln (by omega) (Or.inl rfl) (hfp.2.2.trans d2) (fun i hi => by rw [hfp.1 8 0 (Or.inr rfl)]) ⟨hfr.2.2.2.trans d3, fun i hi => by rw [hfr.2.2.1]; exact (d4 i hi).symm⟩ (by rw [hfr.1]; exact hYp) (by rw [hfr.1]; exact hI.1.1) (by omega) (by omega) 9999 9999 (by omega) (by omega)
      have e1' : L_X7_obey_35 9999 0 0 wp = some ((nI d', q2), wq) := e1
      have e3' : L_X8_obey_40 9999 0 1 0 wr = some ((nI d', o2, o3), wE) := e3
      refine ⟨nI d', sF wq 8 0 0, sF wE 9 3 0, ?_, ⟨e2.1, fun k j h1 h2 => by rw [sF_ne _ _ h2]; exact e2.2.1 k j h1, e2.2.2⟩, ?_, ⟨fun k r h => e4.1 k r h, fun k j h => by rw [sF_ne _ _ (by omega)]; exact e4.2.1 k j (by omega), e4.2.2⟩, ?_, e6.mono (by omega) (by omega), 0, by omega, sF_eq _ _ _ _, sF_eq _ _ _ _, fun i hi => absurd hi (by omega)⟩
      · unfold F_X3_empty lw
        rw [e1', bd_s, bd_s]
      · unfold lw
        rw [e3', bd_s]
      · exact e5.rows (by omega) (fun r => rfl) (fun j => sF_ne _ _ (by omega)))
    obtain ⟨X1, f1, f2, f3⟩ := m_findError (w := sO w1 v.toInt64) (t := w.1 8 0) (ln := ln) ⟨(a4 3).trans d3, fun i hi => (congrFun (a3 3) i).trans (d4 i hi).symm⟩ d1
    rw [if_pos hc] at f3
    have hsim : sim w1 (sF X1 9 0 0) := ⟨fun k r h => f2.1 k r h, fun k j h => by rw [sF_ne _ _ (by omega)]; exact f2.2.1 k j (by omega), fun _ => by
      show X1.2.2 ≠ none
      rw [f2.2.2]
      exact fun q => by cases q⟩
    obtain ⟨wE, b1, b2, b3, b4⟩ := a5 (sF X1 9 0 0) hsim
    refine ⟨wE, call_ret (Es := [eA']) (fM := fun w1 => F_X8_obey w1) ?_ a2 ?_ (b2.trans (sF_eq _ _ _ _)) (b3.trans f2.2.2), b4⟩
    · rw [← a1]
      unfold F_X7_obey
      rw [hpc, bd_s, if_neg (by decide)]
      refine congrArg (bd _) (funext fun _ => funext fun w3 => ?_)
      rw [bd_assoc]
      refine congrArg (bd _) (funext fun o => funext fun w4 => ?_)
      rw [bd_assoc]
      rfl
    · rw [← b1]
      show F_X8_obey (sO w1 v.toInt64) = _
      unfold F_X8_obey
      rw [f1, bd_s, f3, if_neg (by decide), lw_ok]
      exact congrArg (bd _) (funext fun _ => funext fun w4 => (bd_eta _).symm)
  · rw [if_neg hc] at hpc
    obtain ⟨X1, f1, f2, f3⟩ := m_findError (w := w) (t := w.1 8 0) (ln := ln) ⟨d3, fun i hi => (d4 i hi).symm⟩ d1
    rw [if_neg hc] at f3
    refine ⟨sF X1 9 0 1, call_thr (Es := [eA']) (w1 := w) (k := 1) (b := 0) (E := "java/lang/IllegalArgumentException") (fM := fun w1 => F_X8_obey w1) ?_ rfl (by decide) ?_ (sF_eq _ _ _ _), (INV.sim (w := w) (w' := sF X1 9 0 1) ⟨fun k r h => f2.1 k r h, fun k j h => by rw [sF_ne _ _ (by omega)]; exact f2.2.1 k j (by omega), fun h => by
      show X1.2.2 ≠ none
      rw [f2.2.2]; exact h⟩ hI).mono (by omega) (by omega)⟩
    · unfold F_X7_obey
      rw [hpc, bd_s, if_pos rfl]
    · show F_X8_obey w = _
      unfold F_X8_obey
      rw [f1, bd_s, f3, if_pos rfl, lw_thr _ (by decide)]
end OBY
