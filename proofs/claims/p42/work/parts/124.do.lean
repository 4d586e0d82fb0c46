/-! a call that changes: what each side touches, and both together -/
def dP (w w' : xWt) : Prop := (∀ k r, k ≠ 0 → w'.1 k r = w.1 k r) ∧ (∀ k j, k ≠ 0 → w'.2.1 k j = w.2.1 k j) ∧ w'.2.2 = w.2.2
def dM (w w' : xWt) : Prop := (∀ k r, ¬ (k = 9 ∧ r = 0) → w'.1 k r = w.1 k r) ∧ w'.2 = w.2
theorem dP.rf (w : xWt) : dP w w := ⟨fun _ _ _ => rfl, fun _ _ _ => rfl, rfl⟩
theorem dP.trans {a b c : xWt} (h1 : dP a b) (h2 : dP b c) : dP a c := ⟨fun k r h => (h2.1 k r h).trans (h1.1 k r h), fun k j h => (h2.2.1 k j h).trans (h1.2.1 k j h), h2.2.2.trans h1.2.2⟩
theorem dP.row {a b : xWt} (h : dP a b) (r : Nat) (f : Nat → Int32) : dP a (sRow b 0 r f) := h.trans ⟨fun k r' hk => sRow_ne _ _ (fun q => hk q.1), fun _ _ _ => rfl, rfl⟩
theorem dP.fd {a b : xWt} (h : dP a b) (j : Nat) (v : Int32) : dP a (sF b 0 j v) := h.trans ⟨fun _ _ _ => rfl, fun k j' hk => sF_ne _ _ (fun q => hk q.1), rfl⟩
theorem dM.rf (w : xWt) : dM w w := ⟨fun _ _ _ => rfl, rfl⟩
theorem dM.trans {a b c : xWt} (h1 : dM a b) (h2 : dM b c) : dM a c := ⟨fun k r h => (h2.1 k r h).trans (h1.1 k r h), h2.2.trans h1.2⟩
theorem dM.zs {a b : xWt} (h : dM a b) (i : Nat) (x : Int32) : dM a (zs b i x) := h.trans ⟨fun _ _ q => zs_r _ _ _ q, rfl⟩
/-- one thing done on both sides -/
def DO (z : Nat → Int32) (B' T' : Nat) (wp : xWt) (fP fM : xWt → Option (Int32 × xWt)) : Prop := ∀ wr, zz wr = z → ∃ v wq wE, fP wp = some (v, wq) ∧ dP wp wq ∧ fM wr = some (v, wE) ∧ dM wr wE ∧ YR 0 (zz wE) wq ∧ WF (zz wE) B' T'
/-- a save on the program's side, and what it leaves alone -/
theorem push_frame {w : xWt} {B T s nx : Nat} (c1 : s ≤ 6) (c2 : nx < 6) (c4 : w.2.1 8 2 = nI s) (c5 : w.2.1 8 1 = nI nx) (hY : YR 0 (zz w) w) : ∃ wp, F_X5_push 0 w = some ((), wp) ∧ CP (nx + 2) 0 16 9 w (sF (sF wp 8 1 (nI nx)) 8 2 (nI s)) ∧ wp.2.1 8 1 = nI (if nx = 5 then 0 else nx + 1) ∧ wp.2.1 8 2 = nI (if s = 6 then 6 else s + 1) ∧ (∀ k r, k ≠ nx + 2 → wp.1 k r = w.1 k r) ∧ (∀ k j, k ≠ nx + 2 → ¬ (k = 8 ∧ (j = 1 ∨ j = 2)) → wp.2.1 k j = w.2.1 k j) ∧ wp.2.2 = w.2.2 ∧ YR 0 (zz w) wp := by
  obtain ⟨wp, e1, cp, n1, n2⟩ := p_push c5 c2 c4 c1
  have f1 : ∀ k r, k ≠ nx + 2 → wp.1 k r = w.1 k r := fun k r hk => cp.2.2.1 k r hk
  have f2 : ∀ k j, k ≠ nx + 2 → ¬ (k = 8 ∧ (j = 1 ∨ j = 2)) → wp.2.1 k j = w.2.1 k j := fun k j hk h => by
    have h3 := cp.2.2.2.1 k j hk
    rw [sF_ne _ _ (by omega), sF_ne _ _ (by omega)] at h3
    exact h3
  exact ⟨wp, e1, cp, n1, n2, f1, f2, cp.2.2.2.2, hY.rows (by omega) (fun r => f1 0 r (by omega)) (fun j => f2 0 j (by omega) (by omega))⟩
