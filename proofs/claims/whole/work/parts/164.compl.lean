/-! is the buffer complete orders? -/
section CPL
variable {t : Nat → Int32} {w : xWt} {ln f p k v n : Nat} {a s : Int32}
theorem scp_ok (ks : List Nat) : ∀ p, (scp t ln ks p).2 = true → (scp t ln ks p).1 = p + ks.length := by
  induction ks with
  | nil => intro p _; rfl
  | cons k ks ih =>
    intro p
    unfold scp
    by_cases q : p < ln ∧ okS k (t p) = true
    · rw [if_pos q]
      intro r
      rw [ih (p + 1) r, List.length_cons]; omega
    · rw [if_neg q]
      intro r; exact Bool.noConfusion r
theorem scp_no (ks : List Nat) : ∀ p, (scp t ln ks p).2 = false → (scp t ln ks p).1 < p + ks.length := by
  induction ks with
  | nil => intro p r; exact Bool.noConfusion r
  | cons k ks ih =>
    intro p
    unfold scp
    by_cases q : p < ln ∧ okS k (t p) = true
    · rw [if_pos q]
      intro r
      have := ih (p + 1) r
      rw [List.length_cons]; omega
    · rw [if_neg q]
      intro r
      rw [List.length_cons]
      show p < p + (ks.length + 1)
      omega
theorem scp_59 (ks : List Nat) (hk : ∀ x, x ∈ ks → 1 ≤ x ∧ x ≤ 4) : ∀ p i, p ≤ i → i < (scp t ln ks p).1 → t i ≠ 59 := by
  induction ks with
  | nil =>
    intro p i h1 h2
    have h2' : i < p := h2
    omega
  | cons k ks ih =>
    intro p i h1
    unfold scp
    by_cases q : p < ln ∧ okS k (t p) = true
    · rw [if_pos q]
      intro h2
      by_cases e : i = p
      · rw [e]
        have := hk k List.mem_cons_self
        exact okS_59 this.1 this.2 q.2
      · exact ih (fun x hx => hk x (List.mem_cons_of_mem _ hx)) (p + 1) i (by omega) h2
    · rw [if_neg q]
      intro h2
      have h2' : i < p := h2
      omega
/-- the order that begins at s is the last one; nothing separates behind its begin -/
def lastO (t : Nat → Int32) (ln f s : Nat) : Prop := f ≤ s ∧ s < ln ∧ (s = f ∨ t (s - 1) = 59) ∧ ∀ i, s ≤ i → i < ln → t i ≠ 59
theorem FE_spec : ∀ n f, f ≤ ln → ln + 1 ≤ n + f → ((FE t ln n f).2 = true → (FE t ln n f).1 = ln ∧ ∃ s l, lastO t ln f s ∧ lsO (t s) = some l ∧ ln = s + 1 + l.length) ∧ ((FE t ln n f).2 = false → (FE t ln n f).1 = ln → (ln = f ∨ (f < ln ∧ t (ln - 1) = 59)) ∨ ∃ s l, lastO t ln f s ∧ lsO (t s) = some l ∧ ln < s + 1 + l.length) := by
  intro n
  induction n with
  | zero => intro f h1 h2; omega
  | succ n ih =>
    intro f h1 h2
    unfold FE
    by_cases hf : f < ln
    · have hr : rdO t ln f = match lsO (t f) with
        | none => (f, false)
        | some l => scp t ln l (f + 1) := if_pos hf
      cases hls : lsO (t f) with
      | none =>
        rw [hls] at hr
        have hr : rdO t ln f = (f, false) := hr
        rw [hr, if_neg (show ¬ (f, false).2 = true from Bool.false_ne_true)]
        exact ⟨fun q => Bool.noConfusion q, fun _ q => by
          have : f = ln := q
          omega⟩
      | some l =>
        rw [hls] at hr
        have hr : rdO t ln f = scp t ln l (f + 1) := hr
        rw [hr]
        have hle := scp_le (t := t) (ln := ln) l (f + 1) (by omega)
        have hno : ∀ i, f ≤ i → i < (scp t ln l (f + 1)).1 → t i ≠ 59 := fun i g1 g2 => by
          by_cases e : i = f
          · rw [e]
            intro q
            rw [q, lsO_59] at hls
            cases hls
          · exact scp_59 l (lsO_pos hls) (f + 1) i (by omega) g2
        by_cases q : (scp t ln l (f + 1)).2 = true
        · rw [if_pos q]
          have hlen := scp_ok l (f + 1) q
          by_cases q2 : (scp t ln l (f + 1)).1 = ln
          · rw [if_pos q2]
            exact ⟨fun _ => ⟨rfl, f, l, ⟨Nat.le_refl _, hf, Or.inl rfl, fun i g1 g2 => hno i g1 (by omega)⟩, hls, by omega⟩, fun r => Bool.noConfusion r⟩
          · rw [if_neg q2]
            by_cases q3 : t (scp t ln l (f + 1)).1 = 59
            · rw [if_pos q3]
              obtain ⟨i1, i2⟩ := ih ((scp t ln l (f + 1)).1 + 1) (by omega) (by omega)
              have hup : ∀ s, lastO t ln ((scp t ln l (f + 1)).1 + 1) s → lastO t ln f s := fun s hs => by
                refine ⟨by have := hs.1; omega, hs.2.1, ?_, hs.2.2.2⟩
                rcases hs.2.2.1 with e | e
                · refine Or.inr ?_
                  rw [e, Nat.add_sub_cancel]
                  exact q3
                · exact Or.inr e
              refine ⟨fun r => ?_, fun r1 r2 => ?_⟩
              · obtain ⟨j1, s, l', j2, j3⟩ := i1 r
                exact ⟨j1, s, l', hup s j2, j3⟩
              · rcases i2 r1 r2 with (e | e) | ⟨s, l', j2, j3⟩
                · refine Or.inl (Or.inr ⟨hf, ?_⟩)
                  rw [show ln - 1 = (scp t ln l (f + 1)).1 by omega]
                  exact q3
                · exact Or.inl (Or.inr ⟨hf, e.2⟩)
                · exact Or.inr ⟨s, l', hup s j2, j3⟩
            · rw [if_neg q3]
              exact ⟨fun r => Bool.noConfusion r, fun _ r => absurd r q2⟩
        · rw [if_neg q]
          refine ⟨fun r => Bool.noConfusion r, fun _ r => ?_⟩
          have r : (scp t ln l (f + 1)).1 = ln := r
          have hlen := scp_no l (f + 1) (Bool.eq_false_iff.mpr q)
          exact Or.inr ⟨f, l, ⟨Nat.le_refl _, hf, Or.inl rfl, fun i g1 g2 => hno i g1 (by omega)⟩, hls, by omega⟩
    · have e : f = ln := by omega
      have hr : rdO t ln f = (f, false) := if_neg hf
      rw [hr, if_neg (show ¬ (f, false).2 = true from Bool.false_ne_true)]
      exact ⟨fun q => Bool.noConfusion q, fun _ _ => Or.inl (Or.inl e.symm)⟩
theorem FE_le : ∀ n f, f ≤ ln → (FE t ln n f).1 ≤ ln := by
  intro n
  induction n with
  | zero => intro f h; exact h
  | succ n ih =>
    intro f h
    have hr := rdO_le (t := t) h
    unfold FE
    by_cases q : (rdO t ln f).2 = true
    · rw [if_pos q]
      by_cases q2 : (rdO t ln f).1 = ln
      · rw [if_pos q2]; exact Nat.le_refl _
      · rw [if_neg q2]
        by_cases q3 : t (rdO t ln f).1 = 59
        · rw [if_pos q3]; exact ih _ (by omega)
        · rw [if_neg q3]; exact hr.1
    · rw [if_neg q]; exact hr.1
theorem p_starts (hl : w.2.1 8 0 = nI ln) (h60 : ln ≤ 60) (hp : p < ln) : F_X3_startsPart (nI p) w = some (if p = 0 ∨ w.1 8 0 (p - 1) = 59 then 1 else 0, w) := by
  unfold F_X3_startsPart
  by_cases e : p = 0
  · rw [e, if_pos (show nI 0 = 0 from rfl), if_pos (Or.inl rfl)]
  · rw [if_neg (nI_ne0 (by omega) (by omega)), show nI p - 1 = nI (p - 1) from nI_sub (b := 1) (by omega), p_signAt hl h60 (by omega), bd_s]
    by_cases q : w.1 8 0 (p - 1) = 59
    · rw [if_pos q, if_pos (Or.inr q)]
    · rw [if_neg q, if_neg (fun r => r.elim e q)]
theorem p_lastS (hl : w.2.1 8 0 = nI ln) (h60 : ln ≤ 60) {s0 : Nat} (h0 : lastO (w.1 8 0) ln 0 s0) : L_X3_isComplete_4 9999 0 0 w = some ((nI s0, nI ln), w) := by
  obtain ⟨g1, g2, g3, g4⟩ := h0
  have h := up_loop (fun n p (s : Nat) => L_X3_isComplete_4 n (nI s) (nI p) w) (fun p s => if p = 0 ∨ w.1 8 0 (p - 1) = 59 then p else s) (fun s => ((nI s, nI ln), w)) ln (fun p s => s0 < p → s = s0)
    (fun n p s hp hI => ⟨by
      show B_X3_isComplete_4 (L_X3_isComplete_4 n) (nI s) (nI p) w = _
      unfold B_X3_isComplete_4
      rw [hl, if_neg (nI_ge hp (by omega)), p_starts hl h60 hp, bd_s, nI_1]
      by_cases q : p = 0 ∨ w.1 8 0 (p - 1) = 59
      · rw [if_pos q, if_neg (by decide), if_pos q]
      · rw [if_neg q, if_pos rfl, if_neg q], fun hlt => by
      by_cases e : p = s0
      · rw [if_pos (by rw [e]; exact g3)]
        exact e
      · rw [if_neg (fun q => by
          rcases q with q | q
          · omega
          · exact g4 (p - 1) (by omega) (by omega) q)]
        exact hI (by omega)⟩)
    (fun n s _ => by
      show B_X3_isComplete_4 (L_X3_isComplete_4 n) (nI s) (nI ln) w = _
      unfold B_X3_isComplete_4
      rw [hl, if_pos (Int32.le_refl _)]) ln 0 0 9999 (by omega) (by omega) (fun q => absurd q (by omega))
  have h1 := h.1
  rw [h.2 g2] at h1
  exact h1
theorem p_someS (hl : w.2.1 8 0 = nI ln) (h60 : ln ≤ 60) : ∃ s, (ln = 0 ∨ s < ln) ∧ L_X3_isComplete_4 9999 0 0 w = some ((nI s, nI ln), w) := by
  have h := up_loop (fun n p (s : Nat) => L_X3_isComplete_4 n (nI s) (nI p) w) (fun p s => if p = 0 ∨ w.1 8 0 (p - 1) = 59 then p else s) (fun s => ((nI s, nI ln), w)) ln (fun p s => p = 0 ∨ s < p)
    (fun n p s hp hI => ⟨by
      show B_X3_isComplete_4 (L_X3_isComplete_4 n) (nI s) (nI p) w = _
      unfold B_X3_isComplete_4
      rw [hl, if_neg (nI_ge hp (by omega)), p_starts hl h60 hp, bd_s, nI_1]
      by_cases q : p = 0 ∨ w.1 8 0 (p - 1) = 59
      · rw [if_pos q, if_neg (by decide), if_pos q]
      · rw [if_neg q, if_pos rfl, if_neg q], by
      by_cases q : p = 0 ∨ w.1 8 0 (p - 1) = 59
      · rw [if_pos q]; exact Or.inr (by omega)
      · rw [if_neg q]
        rcases hI with e | e
        · exact absurd (Or.inl e) q
        · exact Or.inr (by omega)⟩)
    (fun n s _ => by
      show B_X3_isComplete_4 (L_X3_isComplete_4 n) (nI s) (nI ln) w = _
      unfold B_X3_isComplete_4
      rw [hl, if_pos (Int32.le_refl _)]) ln 0 0 9999 (by omega) (by omega) (Or.inl rfl)
  exact ⟨_, h.2, h.1⟩
theorem p_isComplete (hl : w.2.1 8 0 = nI ln) (h60 : ln ≤ 60) : F_X3_isComplete w = some (if (FE (w.1 8 0) ln 9999 0).2 = true then 1 else 0, w) := by
  obtain ⟨f1, f2⟩ := FE_spec (t := w.1 8 0) (ln := ln) 9999 0 (by omega) (by omega)
  have hfw := p_firstWrong hl h60
  -- what follows once the start s of the last order is known
  have tail : ∀ s, (ln = 0 ∨ s < ln) → L_X3_isComplete_4 9999 0 0 w = some ((nI s, nI ln), w) → F_X3_isComplete w = (if nI ln ≤ 0 then some ((0 : Int32), w) else if w.1 8 0 (ln - 1) = 59 then some (0, w) else if nI (opK (w.1 8 0 s) (ln - s)) = 0 then (if nI (FE (w.1 8 0) ln 9999 0).1 = nI ln then some (1, w) else some (0, w)) else some (0, w)) := fun s hs e => by
    unfold F_X3_isComplete
    rw [e, bd_s]
    dsimp only
    rw [hl]
    by_cases q0 : nI ln ≤ 0
    · rw [if_pos q0, if_pos q0]
    · rw [if_neg q0, if_neg q0]
      have hpos : 0 < ln := Nat.pos_of_ne_zero fun r => q0 (by rw [r]; decide)
      have hs' : s < ln := hs.resolve_left (by omega)
      rw [show nI ln - 1 = nI (ln - 1) from nI_sub (b := 1) (by omega), p_signAt hl h60 (by omega), bd_s]
      by_cases q1 : w.1 8 0 (ln - 1) = 59
      · rw [if_pos q1, if_pos q1]
      · rw [if_neg q1, if_neg q1, p_signAt hl h60 hs', bd_s, hl, nI_sub (by omega), p_operandAt (by omega) (by omega), bd_s]
        by_cases q2 : nI (opK (w.1 8 0 s) (ln - s)) = 0
        · rw [if_pos q2, if_pos q2, hfw, bd_s, hl]
        · rw [if_neg q2, if_neg q2]
  have hopz : ∀ s l, lsO (w.1 8 0 s) = some l → opK (w.1 8 0 s) (ln - s) = (l[ln - s - 1]?).getD 0 := fun s l h => by
    unfold opK
    rw [h]
  by_cases c : (FE (w.1 8 0) ln 9999 0).2 = true
  · obtain ⟨c1, s, l, c2, c3, c4⟩ := f1 c
    have hs := c2.2.1
    have hop : opK (w.1 8 0 s) (ln - s) = 0 := by
      rw [hopz s l c3, List.getElem?_eq_none (by omega)]
      rfl
    rw [tail s (Or.inr hs) (p_lastS hl h60 c2), if_neg (nI_nle (by omega) (by omega)), if_neg (c2.2.2.2 _ (by omega) (by omega)), hop, if_pos (show nI 0 = 0 from rfl), c1, if_pos rfl, if_pos c]
  · rw [if_neg c]
    by_cases q0 : ln = 0
    · obtain ⟨s, hs, e⟩ := p_someS hl h60
      rw [tail s hs e, q0, if_pos (by decide)]
    · have hn0 : ¬ nI ln ≤ 0 := nI_nle (by omega) (by omega)
      by_cases q1 : w.1 8 0 (ln - 1) = 59
      · obtain ⟨s, hs, e⟩ := p_someS hl h60
        rw [tail s hs e, if_neg hn0, if_pos q1]
      · by_cases q2 : (FE (w.1 8 0) ln 9999 0).1 = ln
        · rcases f2 (Bool.eq_false_iff.mpr c) q2 with (r | r) | ⟨s, l, c2, c3, c4⟩
          · exact absurd r q0
          · exact absurd r.2 q1
          · have hs := c2.2.1
            have hlt : ln - s - 1 < l.length := by omega
            have hop : opK (w.1 8 0 s) (ln - s) = l[ln - s - 1] := by
              rw [hopz s l c3, List.getElem?_eq_getElem hlt]
              rfl
            have hk := lsO_pos c3 _ (List.getElem_mem hlt)
            rw [tail s (Or.inr hs) (p_lastS hl h60 c2), if_neg hn0, if_neg q1, hop, if_neg (nI_ne0 (by omega) (by omega))]
        · obtain ⟨s, hs, e⟩ := p_someS hl h60
          have hle : (FE (w.1 8 0) ln 9999 0).1 < 2 ^ 31 := by
            have := FE_le (t := w.1 8 0) (ln := ln) 9999 0 (by omega)
            omega
          rw [tail s hs e, if_neg hn0, if_neg q1, if_neg (fun r => q2 (nI_inj hle (by omega) r)), ite_self]
end CPL
