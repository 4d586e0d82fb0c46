/-! The world: the arrays by (group, row, place), the int fields by (group, number), the law's long. Groups 0..7: the yards (0 now, 1 the snapshot, 2.. the saved ones); 8: text, saved, the face's own; 9: the reference. -/
abbrev xWt : Type := (Nat → Nat → Nat → Int32) × (Nat → Nat → Int32) × Option (Nat → Int32)
def sRow (w : xWt) (k r : Nat) (f : Nat → Int32) : xWt := (fun k' r' => if k' = k ∧ r' = r then f else w.1 k' r', w.2)
def sF (w : xWt) (k j : Nat) (v : Int32) : xWt := (w.1, fun k' j' => if k' = k ∧ j' = j then v else w.2.1 k' j', w.2.2)
def sO (w : xWt) (v : Nat → Int32) : xWt := (w.1, w.2.1, some v)
def yb (b k : Nat) : Nat := if k < 2 then b + 1 + 36 * k else b + 3 + 36 * k
def lvb (b k : Nat) : Nat := yb b k + 1
def chb (b k : Nat) : Nat := yb b k + 14
def hkb (b k : Nat) : Nat := yb b k + 29
def ro (b k r : Nat) : Nat := if k < 8 then yb b k + 2 + 2 * r + (if r < 6 then 0 else if r < 13 then 1 else 2) else b + 292
def ra (b k r : Nat) : Nat := if k < 8 then ro b k r + 1 else if k = 8 then b + 293 else b + 294 + r
def svb (b : Nat) : Nat := b + 73
def yab (b : Nat) : Nat := b + 74
def txb (b : Nat) : Nat := b + 291
def oub (G : xG) : Nat := G.2.2.2.2
def rl (k r : Nat) : Nat := if k < 8 then (if r = 0 then 12 else if r < 6 then 120 else if r < 12 then 5 else if r = 12 then 600 else 15) else if k = 8 then 60 else if k = 10 then (if r = 0 then 10 else if r = 1 then 12 else if r < 4 then 40 else 30) else (if r = 0 then 817 else if r = 1 then 4902 else if r = 2 then 817 else if r = 3 then 60 else 5)
def vr (k r : Nat) : Prop := (k < 8 ∧ r < 16) ∨ (k = 8 ∧ r = 0)
def vA (k r : Nat) : Prop := vr k r ∨ (k = 10 ∧ r < 6)
def vF (k j : Nat) : Prop := (k < 8 ∧ j < 9) ∨ (k = 8 ∧ j < 4) ∨ (k = 9 ∧ j < 6)
theorem vr_y {k : Nat} (r : Nat) (hk : k < 8) (hr : r < 16) : vr k r := Or.inl ⟨hk, hr⟩
theorem vr_t : vr 8 0 := Or.inr ⟨rfl, rfl⟩
theorem vA_y {k : Nat} (r : Nat) (hk : k < 8) (hr : r < 16) : vA k r := Or.inl (vr_y r hk hr)
theorem vA_m (r : Nat) (hr : r < 6) : vA 10 r := Or.inr ⟨rfl, hr⟩
abbrev eY (b k : Nat) (w : xWt) : va_E := .inr (6, [.int (w.2.1 k 0), .int (w.2.1 k 1), .int (w.2.1 k 2), .int (w.2.1 k 3), .int (w.2.1 k 4), .int (w.2.1 k 5), .int (w.2.1 k 6), .int (w.2.1 k 7), .ref (lvb b k), .ref (chb b k), .ref (hkb b k)])
abbrev eL (b k : Nat) (w : xWt) : va_E := .inr (2, [.int (w.2.1 k 8), .ref (ro b k 0), .ref (ro b k 1), .ref (ro b k 2), .ref (ro b k 3), .ref (ro b k 4), .ref (ro b k 5)])
abbrev eC (b k : Nat) : va_E := .inr (0, [.ref (ro b k 6), .ref (ro b k 7), .ref (ro b k 8), .ref (ro b k 9), .ref (ro b k 10), .ref (ro b k 11), .ref (ro b k 12)])
abbrev eH (b k : Nat) : va_E := .inr (1, [.ref (ro b k 13), .ref (ro b k 14), .ref (ro b k 15)])
abbrev eR (b k r : Nat) : va_E := .inr (4, [.ref (ra b k r)])
abbrev eA (G : xG) (k r : Nat) (w : xWt) : va_E := .inl (G.2.1, rl k r, .inl (w.1 k r))
abbrev eT (b : Nat) (w : xWt) : va_E := .inr (3, [.ref (ro b 8 0), .int (w.2.1 8 0)])
abbrev eS (b : Nat) (w : xWt) : va_E := .inr (5, [.ref (yab b), .int (w.2.1 8 1), .int (w.2.1 8 2)])
abbrev eV (G : xG) (b : Nat) : va_E := .inl (G.2.2.2.1, 6, .inr (.inr (.inr (.inr (fun i => some (yb b (i + 2)))))))
abbrev eP (b : Nat) (w : xWt) : va_E := .inr (7, [.ref (yb b 0), .ref (yb b 1), .ref (svb b), .ref (txb b), .int (w.2.1 8 3)])
abbrev eO (G : xG) (v : Nat → Int32) : va_E := .inl (G.2.1, 40, .inl v)
def CW (G : xG) (b : Nat) (w : xWt) (H : Heap) : Prop :=
  (∀ k, k < 8 → va_at G.1 vwCl (yb b k, eY b k w) H ∧ va_at G.1 vwCl (lvb b k, eL b k w) H ∧ va_at G.1 vwCl (chb b k, eC b k) H ∧ va_at G.1 vwCl (hkb b k, eH b k) H) ∧
  (∀ k r, vr k r → va_at G.1 vwCl (ro b k r, eR b k r) H) ∧ (∀ k r, vA k r → va_at G.1 vwCl (ra b k r, eA G k r w) H) ∧
  va_at G.1 vwCl (txb b, eT b w) H ∧ va_at G.1 vwCl (svb b, eS b w) H ∧ va_at G.1 vwCl (yab b, eV G b) H ∧ va_at G.1 vwCl (b, eP b w) H ∧ ∀ v, w.2.2 = some v → b + 300 ≤ oub G ∧ va_at G.1 vwCl (oub G, eO G v) H
section CWs
variable {G : xG} {b k r : Nat} {w : xWt} {H H' : Heap}
theorem CW.yd (h : CW G b w H) (hk : k < 8) : va_at G.1 vwCl (yb b k, eY b k w) H := (h.1 k hk).1
theorem CW.lv (h : CW G b w H) (hk : k < 8) : va_at G.1 vwCl (lvb b k, eL b k w) H := (h.1 k hk).2.1
theorem CW.ch (h : CW G b w H) (hk : k < 8) : va_at G.1 vwCl (chb b k, eC b k) H := (h.1 k hk).2.2.1
theorem CW.hk (h : CW G b w H) (hk : k < 8) : va_at G.1 vwCl (hkb b k, eH b k) H := (h.1 k hk).2.2.2
theorem CW.row0 (h : CW G b w H) (hv : vr k r) : va_at G.1 vwCl (ro b k r, eR b k r) H := h.2.1 k r hv
theorem CW.arr (h : CW G b w H) (hv : vA k r) : va_at G.1 vwCl (ra b k r, eA G k r w) H := h.2.2.1 k r hv
theorem CW.tx (h : CW G b w H) : va_at G.1 vwCl (txb b, eT b w) H := h.2.2.2.1
theorem CW.sv (h : CW G b w H) : va_at G.1 vwCl (svb b, eS b w) H := h.2.2.2.2.1
theorem CW.vy (h : CW G b w H) : va_at G.1 vwCl (yab b, eV G b) H := h.2.2.2.2.2.1
theorem CW.pl (h : CW G b w H) : va_at G.1 vwCl (b, eP b w) H := h.2.2.2.2.2.2.1
theorem CW.ou (h : CW G b w H) : ∀ v, w.2.2 = some v → b + 300 ≤ oub G ∧ va_at G.1 vwCl (oub G, eO G v) H := h.2.2.2.2.2.2.2
theorem yb_ge : b ≤ yb b k := by unfold yb; split <;> omega
theorem ro_ge : b ≤ ro b k r := by unfold ro yb; (repeat' split) <;> omega
theorem ra_ge : b ≤ ra b k r := by unfold ra ro yb; (repeat' split) <;> omega
theorem lvb_ge : b ≤ lvb b k := by unfold lvb yb; split <;> omega
theorem svb_ge : b ≤ svb b := by unfold svb; omega
theorem txb_ge : b ≤ txb b := by unfold txb; omega
theorem ra_inj {k' r' : Nat} (h : vA k r) (h' : vA k' r') (e : ra b k' r' = ra b k r) : k' = k ∧ r' = r := by
  unfold vA vr at h h'
  unfold ra ro yb at e
  (repeat' split at e) <;> omega

theorem yb_inj {k k' : Nat} (h : k < 8) (h' : k' < 8) (e : yb b k' = yb b k) : k' = k := by
  unfold yb at e
  (repeat' split at e) <;> omega
theorem va_other {q : Nat × va_E} {a : Nat} (hat : va_at G.1 vwCl q H) (oq : ∀ z : Nat, z ≠ a → H'[z]? = H[z]?) (hne : q.1 ≠ a) : va_at G.1 vwCl q H' := hat.kept (oq _ hne)
theorem CW.row (h : CW G b w H) (hv : vA k r) {f : Nat → Int32} (oq : ∀ q : Nat, q ≠ ra b k r → H'[q]? = H[q]?) (hn : va_at G.1 vwCl (ra b k r, .inl (G.2.1, rl k r, .inl f)) H') : CW G b (sRow w k r f) H' := by
  have o : ∀ {q : Nat × va_E}, va_at G.1 vwCl q H → q.1 ≠ ra b k r → va_at G.1 vwCl q H' := fun a d => va_other a oq d
  refine ⟨fun k' hk' => ⟨o (h.yd hk') ?_, o (h.lv hk') ?_, o (h.ch hk') ?_, o (h.hk hk') ?_⟩, fun k' r' hv' => o (h.row0 hv') ?_, fun k' r' hv' => ?_, o h.tx ?_, o h.sv ?_, o h.vy ?_, o h.pl ?_, fun v9 hv9 => ⟨(h.ou v9 hv9).1, o (h.ou v9 hv9).2 (by have h10 := (h.ou v9 hv9).1; (try unfold vA vr at hv); simp only [oub] at h10 ⊢; (try simp only [ra, ro, yb, lvb, chb, hkb, txb, svb, yab]); (repeat' split) <;> omega)⟩⟩
  case refine_6 =>
    by_cases e : k' = k ∧ r' = r
    · obtain ⟨rfl, rfl⟩ := e
      show va_at G.1 vwCl (_, .inl (_, _, .inl ((sRow w k' r' f).1 k' r'))) H'
      have e2 : (sRow w k' r' f).1 k' r' = f := by simp [sRow]
      rw [e2]; exact hn
    · show va_at G.1 vwCl (_, .inl (_, _, .inl ((sRow w k r f).1 k' r'))) H'
      have e2 : (sRow w k r f).1 k' r' = w.1 k' r' := by simp [sRow, e]
      rw [e2]; exact o (h.arr hv') (fun z => e (ra_inj hv hv' z))
  all_goals
    unfold vA vr at hv
    try unfold vr at hv'
    simp only [ra, ro, yb, lvb, chb, hkb, txb, svb, yab, oub]
    (repeat' split) <;> omega
theorem CW.fY (h : CW G b w H) (hk : k < 8) {j : Nat} (hj : j < 8) {v : Int32} (oq : ∀ q : Nat, q ≠ yb b k → H'[q]? = H[q]?) (hn : va_at G.1 vwCl (yb b k, eY b k (sF w k j v)) H') : CW G b (sF w k j v) H' := by
  have o : ∀ {q : Nat × va_E}, va_at G.1 vwCl q H → q.1 ≠ yb b k → va_at G.1 vwCl q H' := fun a d => va_other a oq d
  refine ⟨fun k' hk' => ⟨?_, ?_, o (h.ch hk') ?_, o (h.hk hk') ?_⟩, fun k' r' hv' => o (h.row0 hv') ?_, fun k' r' hv' => o (h.arr hv') ?_, ?_, ?_, o h.vy ?_, ?_, fun v9 hv9 => ⟨(h.ou v9 hv9).1, o (h.ou v9 hv9).2 (by have h10 := (h.ou v9 hv9).1; (try unfold vA vr at hv); simp only [oub] at h10 ⊢; (try simp only [ra, ro, yb, lvb, chb, hkb, txb, svb, yab]); (repeat' split) <;> omega)⟩⟩
  case refine_1 =>
    by_cases e : k' = k
    · subst e; exact hn
    · have h2 := o (h.yd hk') (fun z => e (yb_inj hk hk' z))
      simpa [eY, sF, e] using h2
  case refine_2 =>
    have h2 := o (h.lv hk') (show lvb b k' ≠ yb b k by simp only [lvb, yb]; (repeat' split) <;> omega)
    have e : ¬ (k' = k ∧ 8 = j) := fun z => by omega
    simpa [eL, sF, e] using h2
  case refine_7 =>
    have h2 := o h.tx (show txb b ≠ yb b k by simp only [txb, yb]; (repeat' split) <;> omega)
    have e : ¬ 8 = k := by omega
    simpa [eT, sF, e] using h2
  case refine_8 =>
    have h2 := o h.sv (show svb b ≠ yb b k by simp only [svb, yb]; (repeat' split) <;> omega)
    have e : ¬ 8 = k := by omega
    simpa [eS, sF, e] using h2
  case refine_10 =>
    have h2 := o h.pl (show b ≠ yb b k by simp only [yb]; (repeat' split) <;> omega)
    have e : ¬ 8 = k := by omega
    simpa [eP, sF, e] using h2
  all_goals
    try unfold vA vr at hv'
    try unfold vr at hv'
    simp only [ra, ro, yb, lvb, chb, hkb, txb, svb, yab, oub]
    (repeat' split) <;> omega
theorem CW.fL (h : CW G b w H) (hk : k < 8) {v : Int32} (oq : ∀ q : Nat, q ≠ lvb b k → H'[q]? = H[q]?) (hn : va_at G.1 vwCl (lvb b k, eL b k (sF w k 8 v)) H') : CW G b (sF w k 8 v) H' := by
  have o : ∀ {q : Nat × va_E}, va_at G.1 vwCl q H → q.1 ≠ lvb b k → va_at G.1 vwCl q H' := fun a d => va_other a oq d
  refine ⟨fun k' hk' => ⟨?_, ?_, o (h.ch hk') ?_, o (h.hk hk') ?_⟩, fun k' r' hv' => o (h.row0 hv') ?_, fun k' r' hv' => o (h.arr hv') ?_, ?_, ?_, o h.vy ?_, ?_, fun v9 hv9 => ⟨(h.ou v9 hv9).1, o (h.ou v9 hv9).2 (by have h10 := (h.ou v9 hv9).1; (try unfold vA vr at hv); simp only [oub] at h10 ⊢; (try simp only [ra, ro, yb, lvb, chb, hkb, txb, svb, yab]); (repeat' split) <;> omega)⟩⟩
  case refine_1 =>
    have h2 := o (h.yd hk') (show yb b k' ≠ lvb b k by simp only [lvb, yb]; (repeat' split) <;> omega)
    simpa [eY, sF] using h2
  case refine_2 =>
    by_cases e : k' = k
    · subst e; exact hn
    · have h2 := o (h.lv hk') (fun z => e (yb_inj (b := b) hk hk' (by simp only [lvb] at z; omega)))
      simpa [eL, sF, e] using h2
  case refine_7 =>
    have h2 := o h.tx (show txb b ≠ lvb b k by simp only [txb, lvb, yb]; (repeat' split) <;> omega)
    have e : ¬ 8 = k := by omega
    simpa [eT, sF, e] using h2
  case refine_8 =>
    have h2 := o h.sv (show svb b ≠ lvb b k by simp only [svb, lvb, yb]; (repeat' split) <;> omega)
    have e : ¬ 8 = k := by omega
    simpa [eS, sF, e] using h2
  case refine_10 =>
    have h2 := o h.pl (show b ≠ lvb b k by simp only [lvb, yb]; (repeat' split) <;> omega)
    have e : ¬ 8 = k := by omega
    simpa [eP, sF, e] using h2
  all_goals
    try unfold vA vr at hv'
    try unfold vr at hv'
    simp only [ra, ro, yb, lvb, chb, hkb, txb, svb, yab, oub]
    (repeat' split) <;> omega
theorem CW.fT (h : CW G b w H) {j : Nat} (hj : j = 0) {v : Int32} (oq : ∀ q : Nat, q ≠ txb b → H'[q]? = H[q]?) (hn : va_at G.1 vwCl (txb b, eT b (sF w 8 j v)) H') : CW G b (sF w 8 j v) H' := by
  have o : ∀ {q : Nat × va_E}, va_at G.1 vwCl q H → q.1 ≠ txb b → va_at G.1 vwCl q H' := fun a d => va_other a oq d
  refine ⟨fun k' hk' => ⟨?_, ?_, o (h.ch hk') ?_, o (h.hk hk') ?_⟩, fun k' r' hv' => o (h.row0 hv') ?_, fun k' r' hv' => o (h.arr hv') ?_, ?_, ?_, o h.vy ?_, ?_, fun v9 hv9 => ⟨(h.ou v9 hv9).1, o (h.ou v9 hv9).2 (by have h10 := (h.ou v9 hv9).1; (try unfold vA vr at hv); simp only [oub] at h10 ⊢; (try simp only [ra, ro, yb, lvb, chb, hkb, txb, svb, yab]); (repeat' split) <;> omega)⟩⟩
  case refine_1 =>
    have h2 := o (h.yd hk') (show yb b k' ≠ txb b by simp only [txb, svb, yb]; (repeat' split) <;> omega)
    have e : ¬ k' = 8 := by omega
    simpa [eY, sF, e] using h2
  case refine_2 =>
    have h2 := o (h.lv hk') (show lvb b k' ≠ txb b by simp only [lvb, txb, svb, yb]; (repeat' split) <;> omega)
    have e : ¬ k' = 8 := by omega
    simpa [eL, sF, e] using h2
  case refine_7 => exact hn
  case refine_8 =>
    have h2 := o h.sv (show svb b ≠ txb b by simp only [txb, svb]; omega)
    have e1 : ¬ 1 = j := by omega
    have e2 : ¬ 2 = j := by omega
    simpa [eS, sF, e1, e2] using h2
  case refine_10 =>
    have h2 := o h.pl (show b ≠ txb b by simp only [txb, svb]; omega)
    have e3 : ¬ 3 = j := by omega
    simpa [eP, sF, e3] using h2
  all_goals
    try unfold vA vr at hv'
    try unfold vr at hv'
    simp only [ra, ro, yb, lvb, chb, hkb, txb, svb, yab, oub]
    (repeat' split) <;> omega
theorem CW.fS (h : CW G b w H) {j : Nat} (hj : j = 1 ∨ j = 2) {v : Int32} (oq : ∀ q : Nat, q ≠ svb b → H'[q]? = H[q]?) (hn : va_at G.1 vwCl (svb b, eS b (sF w 8 j v)) H') : CW G b (sF w 8 j v) H' := by
  have o : ∀ {q : Nat × va_E}, va_at G.1 vwCl q H → q.1 ≠ svb b → va_at G.1 vwCl q H' := fun a d => va_other a oq d
  refine ⟨fun k' hk' => ⟨?_, ?_, o (h.ch hk') ?_, o (h.hk hk') ?_⟩, fun k' r' hv' => o (h.row0 hv') ?_, fun k' r' hv' => o (h.arr hv') ?_, ?_, ?_, o h.vy ?_, ?_, fun v9 hv9 => ⟨(h.ou v9 hv9).1, o (h.ou v9 hv9).2 (by have h10 := (h.ou v9 hv9).1; (try unfold vA vr at hv); simp only [oub] at h10 ⊢; (try simp only [ra, ro, yb, lvb, chb, hkb, txb, svb, yab]); (repeat' split) <;> omega)⟩⟩
  case refine_1 =>
    have h2 := o (h.yd hk') (show yb b k' ≠ svb b by simp only [txb, svb, yb]; (repeat' split) <;> omega)
    have e : ¬ k' = 8 := by omega
    simpa [eY, sF, e] using h2
  case refine_2 =>
    have h2 := o (h.lv hk') (show lvb b k' ≠ svb b by simp only [lvb, txb, svb, yb]; (repeat' split) <;> omega)
    have e : ¬ k' = 8 := by omega
    simpa [eL, sF, e] using h2
  case refine_7 =>
    have h2 := o h.tx (show txb b ≠ svb b by simp only [txb, svb]; omega)
    have e0 : ¬ 0 = j := by omega
    simpa [eT, sF, e0] using h2
  case refine_8 => exact hn
  case refine_10 =>
    have h2 := o h.pl (show b ≠ svb b by simp only [txb, svb]; omega)
    have e3 : ¬ 3 = j := by omega
    simpa [eP, sF, e3] using h2
  all_goals
    try unfold vA vr at hv'
    try unfold vr at hv'
    simp only [ra, ro, yb, lvb, chb, hkb, txb, svb, yab, oub]
    (repeat' split) <;> omega
theorem CW.fP (h : CW G b w H) {j : Nat} (hj : j = 3) {v : Int32} (oq : ∀ q : Nat, q ≠ b → H'[q]? = H[q]?) (hn : va_at G.1 vwCl (b, eP b (sF w 8 j v)) H') : CW G b (sF w 8 j v) H' := by
  have o : ∀ {q : Nat × va_E}, va_at G.1 vwCl q H → q.1 ≠ b → va_at G.1 vwCl q H' := fun a d => va_other a oq d
  refine ⟨fun k' hk' => ⟨?_, ?_, o (h.ch hk') ?_, o (h.hk hk') ?_⟩, fun k' r' hv' => o (h.row0 hv') ?_, fun k' r' hv' => o (h.arr hv') ?_, ?_, ?_, o h.vy ?_, ?_, fun v9 hv9 => ⟨(h.ou v9 hv9).1, o (h.ou v9 hv9).2 (by have h10 := (h.ou v9 hv9).1; (try unfold vA vr at hv); simp only [oub] at h10 ⊢; (try simp only [ra, ro, yb, lvb, chb, hkb, txb, svb, yab]); (repeat' split) <;> omega)⟩⟩
  case refine_1 =>
    have h2 := o (h.yd hk') (show yb b k' ≠ b by simp only [txb, svb, yb]; (repeat' split) <;> omega)
    have e : ¬ k' = 8 := by omega
    simpa [eY, sF, e] using h2
  case refine_2 =>
    have h2 := o (h.lv hk') (show lvb b k' ≠ b by simp only [lvb, txb, svb, yb]; (repeat' split) <;> omega)
    have e : ¬ k' = 8 := by omega
    simpa [eL, sF, e] using h2
  case refine_7 =>
    have h2 := o h.tx (show txb b ≠ b by simp only [txb, svb]; omega)
    have e0 : ¬ 0 = j := by omega
    simpa [eT, sF, e0] using h2
  case refine_8 =>
    have h2 := o h.sv (show svb b ≠ b by simp only [txb, svb]; omega)
    have e1 : ¬ 1 = j := by omega
    have e2 : ¬ 2 = j := by omega
    simpa [eS, sF, e1, e2] using h2
  case refine_10 => exact hn
  all_goals
    try unfold vA vr at hv'
    try unfold vr at hv'
    simp only [ra, ro, yb, lvb, chb, hkb, txb, svb, yab, oub]
    (repeat' split) <;> omega
theorem CW.out (h : CW G b w H) {v : Nat → Int32} (hb : b + 300 ≤ oub G) (oq : ∀ q : Nat, q ≠ oub G → H'[q]? = H[q]?) (hn : va_at G.1 vwCl (oub G, eO G v) H') : CW G b (sO w v) H' := by
  have o : ∀ {q : Nat × va_E}, va_at G.1 vwCl q H → q.1 ≠ oub G → va_at G.1 vwCl q H' := fun a d => va_other a oq d
  refine ⟨fun k' hk' => ⟨o (h.yd hk') ?_, o (h.lv hk') ?_, o (h.ch hk') ?_, o (h.hk hk') ?_⟩, fun k' r' hv' => o (h.row0 hv') ?_, fun k' r' hv' => o (h.arr hv') ?_, o h.tx ?_, o h.sv ?_, o h.vy ?_, o h.pl ?_, fun v9 hv9 => by cases hv9; exact ⟨hb, hn⟩⟩
  all_goals
    try simp only [oub] at hb
    try unfold vA vr at hv'
    try unfold vr at hv'
    simp only [ra, ro, yb, lvb, chb, hkb, txb, svb, yab, oub]
    (repeat' split) <;> omega
end CWs
/-! what may be undefined, over the world -/
def bd {α β : Type} (m : Option (α × xWt)) (f : α → xWt → Option β) : Option β := match m with
  | some (a, w) => f a w
  | none => none
theorem bd_some {α β : Type} {m : Option (α × xWt)} {f : α → xWt → Option β} {r : β} (h : bd m f = some r) : ∃ a w, m = some (a, w) ∧ f a w = some r := by
  match m, h with
  | some (a, w), h => exact ⟨a, w, rfl, h⟩
theorem bd_eq {α β : Type} {m : Option (α × xWt)} {f : α → xWt → Option β} {a : α} {w : xWt} (h : m = some (a, w)) : bd m f = f a w := by rw [h]; rfl
def lw {β : Type} (w : xWt) (f : xWt → Option β) : Option β := f w
def ald {β : Type} (w : xWt) (k r : Nat) (i : Int32) (f : Int32 → Option β) : Option β := if i < 0 ∨ rl k r ≤ i.toNatClampNeg then none else f (w.1 k r i.toNatClampNeg)
def ast {β : Type} (w : xWt) (k r : Nat) (i x : Int32) (f : xWt → Option β) : Option β := if i < 0 ∨ rl k r ≤ i.toNatClampNeg then none else f (sRow w k r (upd (w.1 k r) i.toNatClampNeg x))
/-- local reading of a row's own methods -/
def lld {β : Type} (g : Nat → Int32) (n : Nat) (i : Int32) (f : Int32 → Option β) : Option β := if i < 0 ∨ n ≤ i.toNatClampNeg then none else f (g i.toNatClampNeg)
def lst {β : Type} (g : Nat → Int32) (n : Nat) (i x : Int32) (f : (Nat → Int32) → Option β) : Option β := if i < 0 ∨ n ≤ i.toNatClampNeg then none else f (upd g i.toNatClampNeg x)
def lbd {α β : Type} (m : Option (α × (Nat → Int32))) (f : α → (Nat → Int32) → Option β) : Option β := match m with
  | some (a, w) => f a w
  | none => none
theorem lbd_some {α β : Type} {m : Option (α × (Nat → Int32))} {f : α → (Nat → Int32) → Option β} {r : β} (h : lbd m f = some r) : ∃ a w, m = some (a, w) ∧ f a w = some r := by
  match m, h with
  | some (a, w), h => exact ⟨a, w, rfl, h⟩
def liftR {α : Type} (w : xWt) (k r : Nat) (m : Option (α × (Nat → Int32))) : Option (α × xWt) := match m with
  | some (a, g) => some (a, sRow w k r g)
  | none => none
theorem liftR_some {α : Type} {w w' : xWt} {k r : Nat} {m : Option (α × (Nat → Int32))} {a : α} (h : liftR w k r m = some (a, w')) : ∃ g, m = some (a, g) ∧ w' = sRow w k r g := by
  match m, h with
  | some (a, g), h => cases h; exact ⟨g, rfl, rfl⟩
def zr {β : Type} (x : Int32) (f : Option β) : Option β := if x = 0 ∨ x = 1 then f else none
theorem zr_some {β : Type} {x : Int32} {f : Option β} {r : β} (h : zr x f = some r) : (x = 0 ∨ x = 1) ∧ f = some r := by
  unfold zr at h; split at h
  · exact ⟨by assumption, h⟩
  · cases h
/-- a row's world: the row at h, its array at a, all else as in H0 -/
def LW (G : xG) (H0 : Heap) (h a n : Nat) (f : Nat → Int32) (H : Heap) : Prop := va_at G.1 vwCl (h, .inr (4, [.ref a])) H ∧ va_at G.1 vwCl (a, .inl (G.2.1, n, .inl f)) H ∧ H.size = H0.size ∧ ∀ q : Nat, q ≠ a → H[q]? = H0[q]?
theorem LW.put {G : xG} {H0 : Heap} {h a n : Nat} {f g : Nat → Int32} {H H' : Heap} (hL : LW G H0 h a n f H) (hne : h ≠ a) (z : H'.size = H.size) (oq : ∀ q : Nat, q ≠ a → H'[q]? = H[q]?) (hn : va_at G.1 vwCl (a, .inl (G.2.1, n, .inl g)) H') : LW G H0 h a n g H' :=
  ⟨hL.1.kept (oq h hne), hn, z.trans hL.2.2.1, fun q hq => (oq q hq).trans (hL.2.2.2 q hq)⟩
theorem LW.cw {G : xG} {b k r : Nat} {w : xWt} {H0 H : Heap} {g : Nat → Int32} (h : CW G b w H0) (hv : vr k r) (hL : LW G H0 (ro b k r) (ra b k r) (rl k r) g H) : CW G b (sRow w k r g) H := h.row (Or.inl hv) hL.2.2.2 hL.2.1
theorem ro_ne {b k r : Nat} (hv : vr k r) : ro b k r ≠ ra b k r := by
  unfold vr at hv
  simp only [ra, ro, yb]
  (repeat' split) <;> omega
theorem LW.of {G : xG} {b k r : Nat} {w : xWt} {H : Heap} (h : CW G b w H) (hv : vr k r) : LW G H (ro b k r) (ra b k r) (rl k r) (w.1 k r) H := ⟨h.row0 hv, h.arr (Or.inl hv), rfl, fun _ _ => rfl⟩
