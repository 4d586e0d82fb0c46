/-! a call that changes: what each side touches, and both together -/
def dP (w w' : xWt) : Prop := (∀ k r, k ≠ 0 → w'.1 k r = w.1 k r) ∧ (∀ k j, k ≠ 0 → w'.2.1 k j = w.2.1 k j) ∧ w'.2.2 = w.2.2
def dM (w w' : xWt) : Prop := (∀ k r, ¬ (k = 9 ∧ r = 0) → w'.1 k r = w.1 k r) ∧ w'.2 = w.2
theorem dP.rf (w : xWt) : dP w w := ⟨fun _ _ _ => rfl, fun _ _ _ => rfl, rfl⟩
theorem dP.trans {a b c : xWt} (h1 : dP a b) (h2 : dP b c) : dP a c := ⟨fun k r h => (h2.1 k r h).trans (h1.1 k r h), fun k j h => (h2.2.1 k j h).trans (h1.2.1 k j h), h2.2.2.trans h1.2.2⟩
theorem dP.row {a b : xWt} (h : dP a b) (r : Nat) (f : Nat → Int32) : dP a (sRow b 0 r f) := h.trans ⟨fun k r' hk => sRow_ne _ _ (fun q => hk q.1), fun _ _ _ => rfl, rfl⟩
theorem dP.fd {a b : xWt} (h : dP a b) (j : Nat) (v : Int32) : dP a (sF b 0 j v) := h.trans ⟨fun _ _ _ => rfl, fun k j' hk => sF_ne _ _ (fun q => hk q.1), rfl⟩
theorem dM.rf (w : xWt) : dM w w := ⟨fun _ _ _ => rfl, rfl⟩
theorem dM.trans {a b c : xWt} (h1 : dM a b) (h2 : dM b c) : dM a c := ⟨fun k r h => (h2.1 k r h).trans (h1.1 k r h), h2.2.trans h1.2⟩
theorem dM.zs {a b : xWt} (h : dM a b) (i : Nat) (x : Int32) : dM a (zs b i x) := h.trans ⟨fun _ _ q => zs_r _ _ _ q, rfl⟩
/-- one thing done on both sides -/
def DO (z : Nat → Int32) (B' T' : Nat) (wp : xWt) (fP fM : xWt → Option (Int32 × xWt)) : Prop := ∀ wr, zz wr = z → ∃ v wq wE, fP wp = some (v, wq) ∧ dP wp wq ∧ fM wr = some (v, wE) ∧ dM wr wE ∧ YR 0 (zz wE) wq ∧ WF (zz wE) B' T'
theorem iSaved.mono {w : xWt} {B T B' T' : Nat} (hB : B ≤ B') (hT : T ≤ T') (h : iSaved w B T) : iSaved w B' T' := by
  obtain ⟨s, nx, c1, c2, c3, c4, c5, c6⟩ := h
  exact ⟨s, nx, c1, c2, c3, c4, c5, fun j hj => ⟨(c6 j hj).1.mono hB hT, (c6 j hj).2⟩⟩
/-- a save on the program's side, and what it leaves alone -/
theorem push_frame {w : xWt} {B T s nx : Nat} (c1 : s ≤ 6) (c2 : nx < 6) (c4 : w.2.1 8 2 = nI s) (c5 : w.2.1 8 1 = nI nx) (hY : YR 0 (zz w) w) : ∃ wp, F_X5_push 0 w = some ((), wp) ∧ CP (nx + 2) 0 16 9 w (sF (sF wp 8 1 (nI nx)) 8 2 (nI s)) ∧ wp.2.1 8 1 = nI (if nx = 5 then 0 else nx + 1) ∧ wp.2.1 8 2 = nI (if s = 6 then 6 else s + 1) ∧ (∀ k r, k ≠ nx + 2 → wp.1 k r = w.1 k r) ∧ (∀ k j, k ≠ nx + 2 → ¬ (k = 8 ∧ (j = 1 ∨ j = 2)) → wp.2.1 k j = w.2.1 k j) ∧ wp.2.2 = w.2.2 ∧ YR 0 (zz w) wp := by
  obtain ⟨wp, e1, cp, n1, n2⟩ := p_push c5 c2 c4 c1
  have f1 : ∀ k r, k ≠ nx + 2 → wp.1 k r = w.1 k r := fun k r hk => cp.2.2.1 k r hk
  have f2 : ∀ k j, k ≠ nx + 2 → ¬ (k = 8 ∧ (j = 1 ∨ j = 2)) → wp.2.1 k j = w.2.1 k j := fun k j hk h => by
    have h3 := cp.2.2.2.1 k j hk
    rw [sF_ne _ _ (by omega), sF_ne _ _ (by omega)] at h3
    exact h3
  exact ⟨wp, e1, cp, n1, n2, f1, f2, cp.2.2.2.2, hY.rows (by omega) (fun r => f1 0 r (by omega)) (fun j => f2 0 j (by omega) (by omega))⟩
/-- what of w the program's side still has behind the save; what the reference's side still has -/
def frP (w wp : xWt) : Prop := (∀ k r, k = 1 ∨ k = 8 → wp.1 k r = w.1 k r) ∧ (∀ j, wp.2.1 1 j = w.2.1 1 j) ∧ wp.2.1 8 0 = w.2.1 8 0
def frM (w wr : xWt) : Prop := zz wr = zz w ∧ wr.1 9 2 = w.1 9 2 ∧ wr.1 9 3 = w.1 9 3 ∧ wr.2.1 9 3 = w.2.1 9 3
def dP2 (w w' : xWt) : Prop := (∀ k r, k ≠ 0 → w'.1 k r = w.1 k r) ∧ (∀ k j, k ≠ 0 → ¬ (k = 8 ∧ j = 0) → w'.2.1 k j = w.2.1 k j) ∧ w'.2.2 = w.2.2
def dM2 (w w' : xWt) : Prop := (∀ k r, ¬ (k = 9 ∧ (r = 0 ∨ r = 4)) → w'.1 k r = w.1 k r) ∧ (∀ k j, ¬ (k = 9 ∧ (j = 3 ∨ j = 4 ∨ j = 5)) → w'.2.1 k j = w.2.1 k j) ∧ w'.2.2 = w.2.2
def tx (wq wE : xWt) : Prop := ∃ ln, ln ≤ 60 ∧ wq.2.1 8 0 = nI ln ∧ wE.2.1 9 3 = nI ln ∧ ∀ i, i < ln → wq.1 8 0 i = wE.1 9 3 i
theorem call_any {w : xWt} {B T B' T' : Nat} {fP fM : xWt → Option (Int32 × xWt)} (hI : INV w B T) (hB : B ≤ B') (hT : T ≤ T') (hD : ∀ wp, YR 0 (zz w) wp → frP w wp → ∀ wr, frM w wr → ∃ v wq wE, fP wp = some (v, wq) ∧ dP2 wp wq ∧ fM wr = some (v, wE) ∧ dM2 wr wE ∧ YR 0 (zz wE) wq ∧ WF (zz wE) B' T' ∧ tx wq wE) : ∃ v w1, bd (F_X5_push 0 w) (fun _ w3 => bd (fP w3) (fun x5 w4 => some (Sum.inl x5, w4))) = some ((Sum.inl v : Int32 ⊕ String), w1) ∧ w1.2.2 ≠ none ∧ (∀ r, w1.1 9 r = w.1 9 r) ∧ (∀ j, w1.2.1 9 j = w.2.1 9 j) ∧ ∀ X, sim w1 X → ∃ wE, bd (F_X8_record X) (fun _ w4 => bd (fM w4) (fun x6 w5 => some (x6, w5))) = some (v, wE) ∧ wE.2.1 9 0 = X.2.1 9 0 ∧ wE.2.2 = X.2.2 ∧ INV wE B' T' := by
  obtain ⟨hN, hK, ⟨s, nx, c1, c2, c3, c4, c5, c6⟩, ⟨ln, d1, d2, d3, d4⟩, hO⟩ := hI
  obtain ⟨wp, e1, cp, n1, n2, f1, f2, f3, hYp⟩ := push_frame (B := B) (T := T) c1 c2 c4 c5 hN.2
  have hfp : frP w wp := ⟨fun k r hk => f1 k r (by omega), fun j => f2 1 j (by omega) (by omega), f2 8 0 (by omega) (by omega)⟩
  obtain ⟨v, wq, -, eP, ⟨p1, p2, p3⟩, -⟩ := hD wp hYp hfp w ⟨rfl, rfl, rfl, rfl⟩
  have q1 : ∀ r, wq.1 9 r = w.1 9 r := fun r => (p1 9 r (by decide)).trans (f1 9 r (by omega))
  have q2 : ∀ j, wq.2.1 9 j = w.2.1 9 j := fun j => (p2 9 j (by decide) (by omega)).trans (f2 9 j (by omega) (by omega))
  refine ⟨v, wq, ?_, ?_, q1, q2, fun X hX => ?_⟩
  · rw [e1, bd_s, eP, bd_s]
  · rw [p3, f3]; exact hO
  have hs : X.2.1 9 1 = nI s := by
    rw [hX.2.1 9 1 (by decide), q2 1]; exact c3
  obtain ⟨wr, er, r1, r2, r3, r4, r5, r6⟩ := m_record hs c1
  have zX : zz X = zz w := (hX.1 9 0 (by decide)).trans (q1 0)
  have zr : zz wr = zz w := (r1 9 0 (by decide)).trans zX
  obtain ⟨v2, wq2, wE, eP2, -, eE, ⟨m1, m2, m3⟩, hY', hW', hTx⟩ := hD wp hYp hfp wr ⟨zr, by rw [r1 9 2 (by decide), hX.1 9 2 (by decide), q1], by rw [r1 9 3 (by decide), hX.1 9 3 (by decide), q1], by rw [r2 9 3 (by decide), hX.2.1 9 3 (by decide), q2]⟩
  have ePP := eP.symm.trans eP2
  cases ePP
  have aR : ∀ k r, ¬ (k = 9 ∧ (r = 0 ∨ r = 1 ∨ r = 4)) → wE.1 k r = wq.1 k r := fun k r g => (m1 k r (by omega)).trans ((r1 k r (by omega)).trans (hX.1 k r (by omega)))
  have aF : ∀ k j, ¬ (k = 9 ∧ (j = 0 ∨ j = 1 ∨ j = 3 ∨ j = 4 ∨ j = 5)) → wE.2.1 k j = wq.2.1 k j := fun k j g => (m2 k j (by omega)).trans ((r2 k j (by omega)).trans (hX.2.1 k j (by omega)))
  have bR : ∀ k r, k ≠ 0 → k ≠ nx + 2 → ¬ (k = 9 ∧ (r = 0 ∨ r = 1 ∨ r = 4)) → wE.1 k r = w.1 k r := fun k r g0 g1 g2 => (aR k r g2).trans ((p1 k r g0).trans (f1 k r g1))
  have bF : ∀ k j, k ≠ 0 → k ≠ nx + 2 → ¬ (k = 8 ∧ (j = 0 ∨ j = 1 ∨ j = 2)) → ¬ (k = 9 ∧ (j = 0 ∨ j = 1 ∨ j = 3 ∨ j = 4 ∨ j = 5)) → wE.2.1 k j = w.2.1 k j := fun k j g0 g1 g2 g3 => (aF k j g3).trans ((p2 k j g0 (by omega)).trans (f2 k j g1 (by omega)))
  refine ⟨wE, ?_, ?_, ?_, ?_⟩
  · rw [er, bd_s, eE, bd_s]
  · rw [m2 9 0 (by decide), r2 9 0 (by decide)]
  · rw [m3, r3]
  · refine ⟨⟨hW', ?_⟩, ⟨?_, ?_⟩, ?_, ?_, ?_⟩
    · exact hY'.rows (by omega) (fun r => aR 0 r (by omega)) (fun j => aF 0 j (by omega))
    · rw [bF 8 3 (by omega) (by omega) (by decide) (by decide), bF 9 2 (by omega) (by omega) (by decide) (by decide)]; exact hK.1
    · rw [bF 9 2 (by omega) (by omega) (by decide) (by decide), bR 9 2 (by omega) (by omega) (by decide)]
      rcases hK.2 with q | ⟨q1, q2, q3⟩
      · exact Or.inl q
      · exact Or.inr ⟨q1, q2.mono hB hT, q3.rows (by omega) (fun r => bR 1 r (by omega) (by omega) (by omega)) (fun j => bF 1 j (by omega) (by omega) (by omega) (by omega))⟩
    · refine (iSaved.push (w := w) (w1 := sF (sF wp 8 1 (nI nx)) 8 2 (nI s)) (wE := wE) (s := s) (nx := nx) hN c1 c2 c6 cp ?_ ?_ ?_ ?_ ?_ ?_ ?_).mono hB hT
      · intro k g1 g2 r
        rw [sF_1, sF_1]
        exact (aR k r (by omega)).trans (p1 k r (by omega))
      · intro k g1 g2 j
        rw [sF_ne _ _ (by omega), sF_ne _ _ (by omega)]
        exact (aF k j (by omega)).trans (p2 k j (by omega) (by omega))
      · rw [m2 9 1 (by decide)]; exact r4
      · rw [aF 8 2 (by decide), p2 8 2 (by decide) (by decide)]; exact n2
      · rw [aF 8 1 (by decide), p2 8 1 (by decide) (by decide)]; exact n1
      · intro i hi
        rw [m1 9 1 (by decide), r5 i hi]
        exact congrFun zX i
      · intro j hj i hi
        rw [m1 9 1 (by decide), r6 j hj i hi, hX.1 9 1 (by decide), q1]
    · obtain ⟨ln', t1, t2, t3, t4⟩ := hTx
      exact ⟨ln', t1, by rw [aF 8 0 (by decide)]; exact t2, t3, fun i hi => by rw [aR 8 0 (by decide)]; exact t4 i hi⟩
    · rw [m3, r3]
      exact hX.2.2 (by rw [p3, f3]; exact hO)
theorem call_do {w : xWt} {B T B' T' : Nat} {fP fM : xWt → Option (Int32 × xWt)} (hI : INV w B T) (hB : B ≤ B') (hT : T ≤ T') (hD : ∀ wp, YR 0 (zz w) wp → DO (zz w) B' T' wp fP fM) : ∃ v w1 wE, bd (F_X5_push 0 w) (fun _ w3 => bd (fP w3) (fun x5 w4 => some (Sum.inl x5, w4))) = some ((Sum.inl v : Int32 ⊕ String), w1) ∧ w1.2.2 ≠ none ∧ zz w1 = zz w ∧ bd (F_X8_record (sF (sO w1 v.toInt64) 9 0 0)) (fun _ w4 => bd (fM w4) (fun x6 w5 => some (x6, w5))) = some (v, wE) ∧ wE.2.1 9 0 = 0 ∧ wE.2.2 = some v.toInt64 ∧ INV wE B' T' := by
  obtain ⟨ln, d1, d2, d3, d4⟩ := hI.2.2.2.1
  obtain ⟨v, w1, a1, a2, a3, a4, a5⟩ := call_any (fP := fP) (fM := fM) hI hB hT (fun wp hYp hfp wr hfr => by
    obtain ⟨v, wq, wE, e1, ⟨p1, p2, p3⟩, e2, ⟨m1, m2⟩, hY', hW'⟩ := hD wp hYp wr hfr.1
    refine ⟨v, wq, wE, e1, ⟨p1, fun k j hk _ => p2 k j hk, p3⟩, e2, ⟨fun k r h => m1 k r (by omega), fun k j _ => by rw [m2], by rw [m2]⟩, hY', hW', ln, d1, ?_, ?_, fun i hi => ?_⟩
    · rw [p2 8 0 (by decide), hfp.2.2]; exact d2
    · rw [m2, hfr.2.2.2]; exact d3
    · rw [p1 8 0 (by decide), hfp.1 8 0 (by decide), m1 9 3 (by decide), hfr.2.2.1]; exact d4 i hi)
  obtain ⟨wE, b1, b2, b3, b4⟩ := a5 (sF (sO w1 v.toInt64) 9 0 0) ((sim.out _ _).trans (sim.thr _ _))
  exact ⟨v, w1, wE, a1, a2, a3 0, b1, b2.trans (sF_eq _ _ _ _), b3, b4⟩
