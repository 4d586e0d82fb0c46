/-! what ties the program's yards to the reference's rows -/
def gN (z : Nat → Int32) : Nat := (z 1).toNatClampNeg
def bN (z : Nat → Int32) : Nat := (z 0).toNatClampNeg
def tN (z : Nat → Int32) : Nat := (z 7).toNatClampNeg
def tu (z : Nat → Int32) (l : Nat) : Nat := (zL z l 5).toNatClampNeg
def wS (z : Nat → Int32) (B T : Nat) : Prop := z 0 = nI (bN z) ∧ bN z ≤ B ∧ z 1 = nI (gN z) ∧ gN z ≤ 120 ∧ z 7 = nI (tN z) ∧ tN z ≤ T ∧ (∃ s, 1 ≤ s ∧ s ≤ 20 ∧ z 8 = nI s) ∧ (z 9 = 0 ∨ z 9 = 1)
def wB (z : Nat → Int32) : Prop := ∀ b, b < 12 → z (10 + b) = -1 ∨ ∃ l, l < gN z ∧ z (10 + b) = nI l ∧ zL z l 1 = 0 ∧ zL z l 2 = nI b
def wA (z : Nat → Int32) (l : Nat) : Prop := ∃ c s t, c < 5 ∧ s ≤ bN z ∧ t < tN z ∧ zL z l 4 = nI c ∧ zL z l 3 = nI s ∧ zL z l 5 = nI t ∧ zC z c 0 = 1
def wL (z : Nat → Int32) : Prop := ∀ l, l < gN z → zL z l 1 = 0 ∨ zL z l 1 = 2 ∨ (zL z l 1 = 1 ∧ wA z l)
def wC (z : Nat → Int32) : Prop := ∀ c, c < 5 → (zC z c 0 = 0 ∧ zC z c 1 = 0 ∧ zC z c 2 = -1 ∧ ∀ h, h < 3 → zH z c h 0 = 0) ∨ (zC z c 0 = 1 ∧ ((zC z c 1 = 0 ∧ zC z c 2 = -1) ∨ (zC z c 1 = 1 ∧ ∃ s, s ≤ bN z ∧ zC z c 2 = nI s)))
def wK (z : Nat → Int32) (c h : Nat) : Prop := (zH z c h 0 = 0 ∧ zH z c h 1 = -1 ∧ zH z c h 2 = -1) ∨ (zH z c h 0 = 1 ∧ ∃ l b, l < gN z ∧ b < 12 ∧ zH z c h 1 = nI l ∧ zH z c h 2 = nI b) ∨ (zH z c h 0 = 2 ∧ ∃ l, l < gN z ∧ zH z c h 1 = nI l ∧ zH z c h 2 = -1)
def wH (z : Nat → Int32) : Prop := ∀ c h, c < 5 → h < 3 → wK z c h
def WF (z : Nat → Int32) (B T : Nat) : Prop := wS z B T ∧ wB z ∧ wL z ∧ wC z ∧ wH z ∧ ∃ c, c < 5 ∧ zC z c 0 = 1
/-- the leaves of a heap, in their order -/
def oB (z : Nat → Int32) (c l : Nat) : Bool := decide (zL z l 1 = 1 ∧ zL z l 4 = nI c)
theorem oB_iff {z : Nat → Int32} {c l : Nat} : oB z c l = true ↔ zL z l 1 = 1 ∧ zL z l 4 = nI c := by unfold oB; simp
def HL (z : Nat → Int32) (c : Nat) (hl : List Nat) : Prop := (∀ l, l ∈ hl ↔ l < gN z ∧ oB z c l = true) ∧ hl.Pairwise (fun a b => tu z a < tu z b)
def yF (k : Nat) (z : Nat → Int32) (w : xWt) : Prop := w.2.1 k 0 = z 0 ∧ w.2.1 k 1 = z 8 ∧ w.2.1 k 2 = z 9 ∧ w.2.1 k 3 = z 2 ∧ w.2.1 k 4 = z 3 ∧ w.2.1 k 5 = z 4 ∧ w.2.1 k 6 = z 5 ∧ w.2.1 k 7 = z 6 ∧ w.2.1 k 8 = z 1
def yB (k : Nat) (z : Nat → Int32) (w : xWt) : Prop := ∀ b, b < 12 → w.1 k 0 b = z (10 + b)
def yL (k : Nat) (z : Nat → Int32) (w : xWt) : Prop := ∀ l, l < gN z → w.1 k 1 l = zL z l 0 ∧ w.1 k 2 l = zL z l 1 ∧ w.1 k 3 l = zL z l 2 ∧ w.1 k 4 l = zL z l 3 ∧ w.1 k 5 l = if zL z l 1 = 1 then zL z l 4 else -1
def yC (k : Nat) (z : Nat → Int32) (w : xWt) : Prop := ∀ c, c < 5 → w.1 k 6 c = zC z c 0 ∧ w.1 k 7 c = zC z c 2 ∧ (zC z c 0 = 1 → w.1 k 8 c = zC z c 3 ∧ w.1 k 9 c = zC z c 4 ∧ w.1 k 10 c = zC z c 5)
def yH (k : Nat) (z : Nat → Int32) (w : xWt) : Prop := ∀ c h, c < 5 → h < 3 → w.1 k 13 (3 * c + h) = (if zH z c h 0 = 2 then zH z c h 1 else -1) ∧ w.1 k 14 (3 * c + h) = (if zH z c h 0 = 1 then zH z c h 1 else -1) ∧ w.1 k 15 (3 * c + h) = zH z c h 2
def yP (k : Nat) (z : Nat → Int32) (w : xWt) : Prop := ∀ c, c < 5 → ∃ hl : List Nat, HL z c hl ∧ w.1 k 11 c = nI hl.length ∧ ∀ p l, hl[p]? = some l → w.1 k 12 (120 * c + p) = nI l
def YR (k : Nat) (z : Nat → Int32) (w : xWt) : Prop := yF k z w ∧ yB k z w ∧ yL k z w ∧ yC k z w ∧ yH k z w ∧ yP k z w
theorem WF.s {z : Nat → Int32} {B T : Nat} (h : WF z B T) : wS z B T := h.1
theorem WF.b {z : Nat → Int32} {B T : Nat} (h : WF z B T) : wB z := h.2.1
theorem WF.l {z : Nat → Int32} {B T : Nat} (h : WF z B T) : wL z := h.2.2.1
theorem WF.c {z : Nat → Int32} {B T : Nat} (h : WF z B T) : wC z := h.2.2.2.1
theorem WF.h {z : Nat → Int32} {B T : Nat} (h : WF z B T) : wH z := h.2.2.2.2.1
theorem WF.one {z : Nat → Int32} {B T : Nat} (h : WF z B T) : ∃ c, c < 5 ∧ zC z c 0 = 1 := h.2.2.2.2.2
theorem WF.g {z : Nat → Int32} {B T : Nat} (h : WF z B T) : z 1 = nI (gN z) := h.1.2.2.1
theorem WF.g120 {z : Nat → Int32} {B T : Nat} (h : WF z B T) : gN z ≤ 120 := h.1.2.2.2.1
theorem YR.f {z : Nat → Int32} {w : xWt} {k : Nat} (h : YR k z w) : yF k z w := h.1
theorem YR.b {z : Nat → Int32} {w : xWt} {k : Nat} (h : YR k z w) : yB k z w := h.2.1
theorem YR.l {z : Nat → Int32} {w : xWt} {k : Nat} (h : YR k z w) : yL k z w := h.2.2.1
theorem YR.c {z : Nat → Int32} {w : xWt} {k : Nat} (h : YR k z w) : yC k z w := h.2.2.2.1
theorem YR.h {z : Nat → Int32} {w : xWt} {k : Nat} (h : YR k z w) : yH k z w := h.2.2.2.2.1
theorem YR.p {z : Nat → Int32} {w : xWt} {k : Nat} (h : YR k z w) : yP k z w := h.2.2.2.2.2
section INV
variable {z z' : Nat → Int32} {w w' : xWt} {B T k c l h b : Nat}
/-- rows that agree below 817 tell the same -/
theorem z_same (hz : ∀ i, i < 817 → z i = z' i) : gN z = gN z' ∧ bN z = bN z' ∧ tN z = tN z' := ⟨by unfold gN; rw [hz 1 (by omega)], by unfold bN; rw [hz 0 (by omega)], by unfold tN; rw [hz 7 (by omega)]⟩
theorem zL_same (hz : ∀ i, i < 817 → z i = z' i) (hl : l < 120) {j : Nat} (hj : j < 6) : zL z l j = zL z' l j := hz _ (by omega)
theorem zC_same (hz : ∀ i, i < 817 → z i = z' i) (hc : c < 5) {j : Nat} (hj : j < 15) : zC z c j = zC z' c j := hz _ (by omega)
theorem zH_same (hz : ∀ i, i < 817 → z i = z' i) (hc : c < 5) (hh : h < 3) {j : Nat} (hj : j < 3) : zH z c h j = zH z' c h j := hz _ (by omega)
theorem WF.congr (hz : ∀ i, i < 817 → z i = z' i) (hW : WF z B T) : WF z' B T := by
  obtain ⟨e1, e2, e3⟩ := z_same hz
  have h120 := hW.g120
  refine ⟨?_, ?_, ?_, ?_, ?_, ?_⟩
  · obtain ⟨a1, a2, a3, a4, a5, a6, a7, a8⟩ := hW.s
    unfold wS
    rw [← e1, ← e2, ← e3, ← hz 0 (by omega), ← hz 1 (by omega), ← hz 7 (by omega), ← hz 8 (by omega), ← hz 9 (by omega)]
    exact ⟨a1, a2, a3, a4, a5, a6, a7, a8⟩
  · intro b hb
    rw [← hz _ (by omega), ← e1]
    rcases hW.b b hb with q | ⟨l, q1, q2, q3, q4⟩
    · exact Or.inl q
    · exact Or.inr ⟨l, q1, q2, by rw [← zL_same hz (by omega) (by omega)]; exact q3, by rw [← zL_same hz (by omega) (by omega)]; exact q4⟩
  · intro l hl
    rw [← e1] at hl
    rw [← zL_same hz (by omega) (by omega)]
    rcases hW.l l hl with q | q | ⟨q, c, s, t, r1, r2, r3, r4, r5, r6, r7⟩
    · exact Or.inl q
    · exact Or.inr (Or.inl q)
    · refine Or.inr (Or.inr ⟨q, c, s, t, r1, by rw [← e2]; exact r2, by rw [← e3]; exact r3, ?_, ?_, ?_, ?_⟩)
      · rw [← zL_same hz (by omega) (by omega)]; exact r4
      · rw [← zL_same hz (by omega) (by omega)]; exact r5
      · rw [← zL_same hz (by omega) (by omega)]; exact r6
      · rw [← zC_same hz r1 (by omega)]; exact r7
  · intro c hc
    rw [← zC_same hz hc (by omega : 0 < 15), ← zC_same hz hc (by omega : 1 < 15), ← zC_same hz hc (by omega : 2 < 15), ← e2]
    rcases hW.c c hc with ⟨q1, q2, q3, q4⟩ | q
    · exact Or.inl ⟨q1, q2, q3, fun h hh => by rw [← zH_same hz hc hh (by omega)]; exact q4 h hh⟩
    · exact Or.inr q
  · intro c h hc hh
    have q := hW.h c h hc hh
    unfold wK at q ⊢
    rw [← zH_same hz hc hh (by omega : 0 < 3), ← zH_same hz hc hh (by omega : 1 < 3), ← zH_same hz hc hh (by omega : 2 < 3), ← e1]
    exact q
  · obtain ⟨c, hc, q⟩ := hW.one
    exact ⟨c, hc, by rw [← zC_same hz hc (by omega)]; exact q⟩
theorem HL.congr (hz : ∀ i, i < 817 → z i = z' i) (h120 : gN z ≤ 120) {hl : List Nat} (h : HL z c hl) : HL z' c hl := by
  obtain ⟨e1, -, -⟩ := z_same hz
  have hm : ∀ l, l ∈ hl → l < 120 := fun l q => by have := ((h.1 l).mp q).1; omega
  refine ⟨fun l => ?_, ?_⟩
  · rw [h.1 l, e1]
    constructor
    · rintro ⟨q1, q2⟩
      obtain ⟨q2, q3⟩ := oB_iff.mp q2
      exact ⟨q1, oB_iff.mpr ⟨by rw [← zL_same hz (by omega) (by omega)]; exact q2, by rw [← zL_same hz (by omega) (by omega)]; exact q3⟩⟩
    · rintro ⟨q1, q2⟩
      obtain ⟨q2, q3⟩ := oB_iff.mp q2
      exact ⟨q1, oB_iff.mpr ⟨by rw [zL_same hz (by omega) (by omega)]; exact q2, by rw [zL_same hz (by omega) (by omega)]; exact q3⟩⟩
  · refine List.Pairwise.imp_of_mem (fun {a b'} ha hb q => ?_) h.2
    unfold tu at q ⊢
    rw [← zL_same hz (hm a ha) (by omega), ← zL_same hz (hm b' hb) (by omega)]
    exact q
theorem YR.congr (hz : ∀ i, i < 817 → z i = z' i) (h120 : gN z ≤ 120) (hY : YR k z w) : YR k z' w := by
  obtain ⟨e1, e2, e3⟩ := z_same hz
  refine ⟨?_, ?_, ?_, ?_, ?_, ?_⟩
  · have q := hY.f
    unfold yF at q ⊢
    rw [← hz 0 (by omega), ← hz 8 (by omega), ← hz 9 (by omega), ← hz 2 (by omega), ← hz 3 (by omega), ← hz 4 (by omega), ← hz 5 (by omega), ← hz 6 (by omega), ← hz 1 (by omega)]
    exact q
  · intro b hb
    rw [← hz _ (by omega)]; exact hY.b b hb
  · intro l hl
    rw [← e1] at hl
    rw [← zL_same hz (by omega) (by omega : 0 < 6), ← zL_same hz (by omega) (by omega : 1 < 6), ← zL_same hz (by omega) (by omega : 2 < 6), ← zL_same hz (by omega) (by omega : 3 < 6), ← zL_same hz (by omega) (by omega : 4 < 6)]
    exact hY.l l hl
  · intro c hc
    rw [← zC_same hz hc (by omega : 0 < 15), ← zC_same hz hc (by omega : 2 < 15), ← zC_same hz hc (by omega : 3 < 15), ← zC_same hz hc (by omega : 4 < 15), ← zC_same hz hc (by omega : 5 < 15)]
    exact hY.c c hc
  · intro c h hc hh
    rw [← zH_same hz hc hh (by omega : 0 < 3), ← zH_same hz hc hh (by omega : 1 < 3), ← zH_same hz hc hh (by omega : 2 < 3)]
    exact hY.h c h hc hh
  · intro c hc
    obtain ⟨hl, q1, q2⟩ := hY.p c hc
    exact ⟨hl, q1.congr hz h120, q2⟩
/-- a list without doubles below n, counted -/
theorem cn_or (p : Nat → Bool) {a n : Nat} (ha : a < n) (hp : p a = false) : cn (fun i => i == a || p i) n = cn p n + 1 := by
  induction n with
  | zero => omega
  | succ n ih =>
    unfold cn
    by_cases e : a = n
    · subst e
      have h1 : cn (fun i => i == a || p i) a = cn p a := cn_congr fun i hi => by
        have : (i == a) = false := by simp; omega
        simp [this]
      rw [h1, hp]
      simp
    · rw [ih (by omega)]
      have : (n == a) = false := by simp; omega
      simp only [this, Bool.false_or]
      omega
theorem cn_false (n : Nat) : cn (fun _ => false) n = 0 := by
  induction n with
  | zero => rfl
  | succ n ih => unfold cn; rw [ih]; rfl
/-- the count of a property over a list without doubles, as a count below n -/
theorem cn_list (q : Nat → Bool) (n : Nat) : ∀ (s : List Nat), s.Nodup → (∀ l, l ∈ s → l < n) → cn (fun i => decide (i ∈ s) && q i) n = s.countP q := by
  intro s
  induction s with
  | nil => intro _ _; simp [cn_false]
  | cons a s ih =>
    intro hn hl
    obtain ⟨h1, h2⟩ := List.nodup_cons.mp hn
    have ih' := ih h2 (fun l hl' => hl l (List.mem_cons_of_mem _ hl'))
    rw [List.countP_cons]
    by_cases hq : q a = true
    · rw [if_pos hq, ← ih']
      rw [← cn_or (fun i => decide (i ∈ s) && q i) (hl a List.mem_cons_self) (by simp [h1])]
      refine cn_congr fun i _ => ?_
      by_cases e : i = a
      · subst e; simp [hq]
      · simp [e]
    · rw [if_neg hq, Nat.add_zero, ← ih']
      refine cn_congr fun i _ => ?_
      by_cases e : i = a
      · subst e; simp [hq]
      · simp [e]
theorem HL.nodup {hl : List Nat} (h : HL z c hl) : hl.Nodup := by
  refine List.Pairwise.imp (fun {a b} q e => ?_) h.2
  subst e
  exact Nat.lt_irrefl _ q
theorem HL.count {hl : List Nat} (h : HL z c hl) (q : Nat → Bool) : cn (fun l => oB z c l && q l) (gN z) = hl.countP q := by
  rw [← cn_list q (gN z) hl h.nodup (fun l hl' => ((h.1 l).mp hl').1)]
  refine cn_congr fun l hl' => ?_
  have : decide (l ∈ hl) = oB z c l := by
    rw [Bool.eq_iff_iff, decide_eq_true_iff]
    exact ⟨fun q => ((h.1 l).mp q).2, fun q => (h.1 l).mpr ⟨hl', q⟩⟩
  rw [this]
theorem HL.len {hl : List Nat} (h : HL z c hl) : cn (fun l => oB z c l) (gN z) = hl.length := by
  have := h.count (fun _ => true)
  rw [List.countP_true] at this
  rw [← this]
  exact cn_congr fun l _ => (Bool.and_true _).symm
theorem HL.le {hl : List Nat} (h : HL z c hl) (h120 : gN z ≤ 120) : hl.length ≤ 120 := by
  rw [← h.len]
  exact Nat.le_trans (cn_le _ _) h120
end INV

