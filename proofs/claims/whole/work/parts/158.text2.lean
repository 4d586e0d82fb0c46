/-! orders in the buffer: what both sides read -/
/-- the sorts of an order's numbers: 1 a child, 2 a hook, 3 a branch, 4 a colour -/
def lsO (a : Int32) : Option (List Nat) := if a = 98 then some [] else if a = 101 ∨ a = 107 ∨ a = 122 then some [1] else if a = 103 then some [3, 4] else if a = 110 then some [1, 2, 3] else if a = 112 ∨ a = 120 then some [1, 2] else if a = 116 then some [1, 3] else if a = 119 then some [1, 3, 4] else none
def okS (k : Nat) (s : Int32) : Bool := match k with
  | 1 => !decide (s < 48) && !decide (53 ≤ s)
  | 2 => !decide (s < 48) && !decide (51 ≤ s)
  | 3 => !decide (s < 97) && !decide (109 ≤ s)
  | 4 => !decide (s < 48) && !decide (58 ≤ s)
  | _ => decide (s = 59)
def opK (a : Int32) (p : Nat) : Nat := match lsO a with
  | none => 0
  | some l => (l[p - 1]?).getD 0
def scp (t : Nat → Int32) (ln : Nat) : List Nat → Nat → Nat × Bool
  | [], p => (p, true)
  | k :: ks, p => if p < ln ∧ okS k (t p) = true then scp t ln ks (p + 1) else (p, false)
def rdO (t : Nat → Int32) (ln f : Nat) : Nat × Bool := if f < ln then (match lsO (t f) with
  | none => (f, false)
  | some l => scp t ln l (f + 1)) else (f, false)
def FE (t : Nat → Int32) (ln : Nat) : Nat → Nat → Nat × Bool
  | 0, f => (f, false)
  | n + 1, f => if (rdO t ln f).2 = true then (if (rdO t ln f).1 = ln then (ln, true) else if t (rdO t ln f).1 = 59 then FE t ln n ((rdO t ln f).1 + 1) else ((rdO t ln f).1, false)) else ((rdO t ln f).1, false)
def NL (a : Int32) : Prop := a ≠ 98 ∧ a ≠ 101 ∧ a ≠ 103 ∧ a ≠ 107 ∧ a ≠ 110 ∧ a ≠ 112 ∧ a ≠ 116 ∧ a ≠ 119 ∧ a ≠ 120 ∧ a ≠ 122
theorem letters (a : Int32) : a = 98 ∨ a = 101 ∨ a = 103 ∨ a = 107 ∨ a = 110 ∨ a = 112 ∨ a = 116 ∨ a = 119 ∨ a = 120 ∨ a = 122 ∨ NL a := by
  by_cases h1 : a = 98
  · exact Or.inl h1
  by_cases h2 : a = 101
  · exact Or.inr (Or.inl h2)
  by_cases h3 : a = 103
  · exact Or.inr (Or.inr (Or.inl h3))
  by_cases h4 : a = 107
  · exact Or.inr (Or.inr (Or.inr (Or.inl h4)))
  by_cases h5 : a = 110
  · exact Or.inr (Or.inr (Or.inr (Or.inr (Or.inl h5))))
  by_cases h6 : a = 112
  · exact Or.inr (Or.inr (Or.inr (Or.inr (Or.inr (Or.inl h6)))))
  by_cases h7 : a = 116
  · exact Or.inr (Or.inr (Or.inr (Or.inr (Or.inr (Or.inr (Or.inl h7))))))
  by_cases h8 : a = 119
  · exact Or.inr (Or.inr (Or.inr (Or.inr (Or.inr (Or.inr (Or.inr (Or.inl h8)))))))
  by_cases h9 : a = 120
  · exact Or.inr (Or.inr (Or.inr (Or.inr (Or.inr (Or.inr (Or.inr (Or.inr (Or.inl h9))))))))
  by_cases h10 : a = 122
  · exact Or.inr (Or.inr (Or.inr (Or.inr (Or.inr (Or.inr (Or.inr (Or.inr (Or.inr (Or.inl h10)))))))))
  · exact Or.inr (Or.inr (Or.inr (Or.inr (Or.inr (Or.inr (Or.inr (Or.inr (Or.inr (Or.inr ⟨h1, h2, h3, h4, h5, h6, h7, h8, h9, h10⟩)))))))))
theorem lsO_NL {a : Int32} (h : NL a) : lsO a = none := by
  obtain ⟨h1, h2, h3, h4, h5, h6, h7, h8, h9, h10⟩ := h
  unfold lsO
  simp [h1, h2, h3, h4, h5, h6, h7, h8, h9, h10]
theorem lsO_59 : lsO 59 = none := by decide
theorem NL_not {a : Int32} (h : NL a) (q : a.toInt = 98 ∨ a.toInt = 101 ∨ a.toInt = 103 ∨ a.toInt = 107 ∨ a.toInt = 110 ∨ a.toInt = 112 ∨ a.toInt = 116 ∨ a.toInt = 119 ∨ a.toInt = 120 ∨ a.toInt = 122) : False := by
  obtain ⟨h1, h2, h3, h4, h5, h6, h7, h8, h9, h10⟩ := h
  rcases q with q | q | q | q | q | q | q | q | q | q
  · exact h1 (Int32.toInt_inj.mp (show a.toInt = (98 : Int32).toInt from q))
  · exact h2 (Int32.toInt_inj.mp (show a.toInt = (101 : Int32).toInt from q))
  · exact h3 (Int32.toInt_inj.mp (show a.toInt = (103 : Int32).toInt from q))
  · exact h4 (Int32.toInt_inj.mp (show a.toInt = (107 : Int32).toInt from q))
  · exact h5 (Int32.toInt_inj.mp (show a.toInt = (110 : Int32).toInt from q))
  · exact h6 (Int32.toInt_inj.mp (show a.toInt = (112 : Int32).toInt from q))
  · exact h7 (Int32.toInt_inj.mp (show a.toInt = (116 : Int32).toInt from q))
  · exact h8 (Int32.toInt_inj.mp (show a.toInt = (119 : Int32).toInt from q))
  · exact h9 (Int32.toInt_inj.mp (show a.toInt = (120 : Int32).toInt from q))
  · exact h10 (Int32.toInt_inj.mp (show a.toInt = (122 : Int32).toInt from q))
theorem opK_le (a : Int32) (p : Nat) : opK a p ≤ 4 := by
  unfold opK
  have key : ∀ l : List Nat, (∀ x, x ∈ l → x ≤ 4) → (l[p - 1]?).getD 0 ≤ 4 := fun l hl => by
    cases h : l[p - 1]? with
    | none => exact Nat.zero_le _
    | some x => exact hl x (List.mem_of_getElem? h)
  rcases letters a with h | h | h | h | h | h | h | h | h | h | h
  · rw [h]; exact key [] (by decide)
  · rw [h]; exact key [1] (by decide)
  · rw [h]; exact key [3, 4] (by decide)
  · rw [h]; exact key [1] (by decide)
  · rw [h]; exact key [1, 2, 3] (by decide)
  · rw [h]; exact key [1, 2] (by decide)
  · rw [h]; exact key [1, 3] (by decide)
  · rw [h]; exact key [1, 3, 4] (by decide)
  · rw [h]; exact key [1, 2] (by decide)
  · rw [h]; exact key [1] (by decide)
  · rw [lsO_NL h]; exact Nat.zero_le _
section TXP
variable {t : Nat → Int32} {w : xWt} {ln f p k v : Nat} {a s : Int32}
theorem p_opOf (x y z : Int32) (h1 : 1 ≤ p) (h : p < 2 ^ 31) : F_X3_operandOf (nI p) x y z w = some (if p = 1 then x else if p = 2 then y else if p = 3 then z else 0, w) := by
  unfold F_X3_operandOf
  rw [nI_toInt h]
  by_cases e1 : p = 1
  · subst e1; rfl
  · rw [if_neg (by omega), if_neg e1]
    by_cases e2 : p = 2
    · subst e2; rfl
    · rw [if_neg (by omega), if_neg e2]
      by_cases e3 : p = 3
      · subst e3; rfl
      · rw [if_neg (by omega), if_neg e3]
theorem op_list (l : List Nat) (x y z : Nat) (hl : ∀ p, (l[p]?).getD 0 = if p = 0 then x else if p = 1 then y else if p = 2 then z else 0) (h1 : 1 ≤ p) (h : p < 2 ^ 31) : bd (F_X3_operandOf (nI p) (nI x) (nI y) (nI z) w) (fun x w => some (x, w)) = some (nI ((l[p - 1]?).getD 0), w) := by
  rw [p_opOf _ _ _ h1 h, bd_s, hl]
  congr 2
  rcases (show p = 1 ∨ p = 2 ∨ p = 3 ∨ 4 ≤ p by omega) with e | e | e | e
  · subst e; rfl
  · subst e; rfl
  · subst e; rfl
  · rw [if_neg (show ¬ p = 1 by omega), if_neg (show ¬ p = 2 by omega), if_neg (show ¬ p = 3 by omega), if_neg (show ¬ p - 1 = 0 by omega), if_neg (show ¬ p - 1 = 1 by omega), if_neg (show ¬ p - 1 = 2 by omega)]
    rfl
theorem l1_get (a : Nat) : ∀ p, ([a][p]?).getD 0 = if p = 0 then a else if p = 1 then 0 else if p = 2 then 0 else 0
  | 0 => rfl
  | 1 => rfl
  | 2 => rfl
  | n + 3 => by simp
theorem l2_get (a b : Nat) : ∀ p, ([a, b][p]?).getD 0 = if p = 0 then a else if p = 1 then b else if p = 2 then 0 else 0
  | 0 => rfl
  | 1 => rfl
  | 2 => rfl
  | n + 3 => by simp
theorem l3_get (a b c : Nat) : ∀ p, ([a, b, c][p]?).getD 0 = if p = 0 then a else if p = 1 then b else if p = 2 then c else 0
  | 0 => rfl
  | 1 => rfl
  | 2 => rfl
  | n + 3 => by simp
theorem p_operandAt (h1 : 1 ≤ p) (h : p < 2 ^ 31) : F_X3_operandAt a (nI p) w = some (nI (opK a p), w) := by
  rcases letters a with e | e | e | e | e | e | e | e | e | e | e
  · rw [e]
    show some ((0 : Int32), w) = some (nI (([] : List Nat)[p - 1]?.getD 0), w)
    simp
    rfl
  · rw [e]; exact op_list [1] 1 0 0 (l1_get 1) h1 h
  · rw [e]; exact op_list [3, 4] 3 4 0 (l2_get 3 4) h1 h
  · rw [e]; exact op_list [1] 1 0 0 (l1_get 1) h1 h
  · rw [e]; exact op_list [1, 2, 3] 1 2 3 (l3_get 1 2 3) h1 h
  · rw [e]; exact op_list [1, 2] 1 2 0 (l2_get 1 2) h1 h
  · rw [e]; exact op_list [1, 3] 1 3 0 (l2_get 1 3) h1 h
  · rw [e]; exact op_list [1, 3, 4] 1 3 4 (l3_get 1 3 4) h1 h
  · rw [e]; exact op_list [1, 2] 1 2 0 (l2_get 1 2) h1 h
  · rw [e]; exact op_list [1] 1 0 0 (l1_get 1) h1 h
  · have ho : opK a p = 0 := by unfold opK; rw [lsO_NL e]
    rw [ho]
    have hn := NL_not e
    unfold F_X3_operandAt
    rw [if_neg (fun q => hn (Or.inr (Or.inl q)))]
    by_cases q : a.toInt = 102
    · rw [if_pos q]; rfl
    rw [if_neg q]
    clear q
    rw [if_neg (fun q => hn (Or.inr (Or.inr (Or.inl q))))]
    by_cases q : a.toInt = 104
    · rw [if_pos q]; rfl
    rw [if_neg q]
    clear q
    by_cases q : a.toInt = 105
    · rw [if_pos q]; rfl
    rw [if_neg q]
    clear q
    by_cases q : a.toInt = 106
    · rw [if_pos q]; rfl
    rw [if_neg q]
    clear q
    rw [if_neg (fun q => hn (Or.inr (Or.inr (Or.inr (Or.inl q)))))]
    by_cases q : a.toInt = 108
    · rw [if_pos q]; rfl
    rw [if_neg q]
    clear q
    by_cases q : a.toInt = 109
    · rw [if_pos q]; rfl
    rw [if_neg q]
    clear q
    rw [if_neg (fun q => hn (Or.inr (Or.inr (Or.inr (Or.inr (Or.inl q))))))]
    by_cases q : a.toInt = 111
    · rw [if_pos q]; rfl
    rw [if_neg q]
    clear q
    rw [if_neg (fun q => hn (Or.inr (Or.inr (Or.inr (Or.inr (Or.inr (Or.inl q)))))))]
    by_cases q : a.toInt = 113
    · rw [if_pos q]; rfl
    rw [if_neg q]
    clear q
    by_cases q : a.toInt = 114
    · rw [if_pos q]; rfl
    rw [if_neg q]
    clear q
    by_cases q : a.toInt = 115
    · rw [if_pos q]; rfl
    rw [if_neg q]
    clear q
    rw [if_neg (fun q => hn (Or.inr (Or.inr (Or.inr (Or.inr (Or.inr (Or.inr (Or.inl q))))))))]
    by_cases q : a.toInt = 117
    · rw [if_pos q]; rfl
    rw [if_neg q]
    clear q
    by_cases q : a.toInt = 118
    · rw [if_pos q]; rfl
    rw [if_neg q]
    clear q
    rw [if_neg (fun q => hn (Or.inr (Or.inr (Or.inr (Or.inr (Or.inr (Or.inr (Or.inr (Or.inl q)))))))))]
    rw [if_neg (fun q => hn (Or.inr (Or.inr (Or.inr (Or.inr (Or.inr (Or.inr (Or.inr (Or.inr (Or.inl q))))))))))]
    by_cases q : a.toInt = 121
    · rw [if_pos q]; rfl
    rw [if_neg q]
    clear q
    rw [if_neg (fun q => hn (Or.inr (Or.inr (Or.inr (Or.inr (Or.inr (Or.inr (Or.inr (Or.inr (Or.inr q))))))))))]
    rfl
theorem p_isOrder (a : Int32) : F_X3_isOrder a w = some (if (lsO a).isSome = true then 1 else 0, w) := by
  unfold F_X3_isOrder
  by_cases e0 : a = 98
  · rw [e0, if_pos rfl]; rfl
  · rw [if_neg e0, show (1 : Int32) = nI 1 from rfl, p_operandAt (p := 1) (by omega) (by omega), bd_s]
    rcases letters a with e | e | e | e | e | e | e | e | e | e | e
    · exact absurd e e0
    · rw [e]; rfl
    · rw [e]; rfl
    · rw [e]; rfl
    · rw [e]; rfl
    · rw [e]; rfl
    · rw [e]; rfl
    · rw [e]; rfl
    · rw [e]; rfl
    · rw [e]; rfl
    · have ho : opK a 1 = 0 := by unfold opK; rw [lsO_NL e]
      rw [ho, lsO_NL e]
      rfl
theorem rng_if (lo hi : Int32) : (if s < lo then some ((0 : Int32), w) else (if hi ≤ s then some (0, w) else some (1, w))) = some (if (!decide (s < lo) && !decide (hi ≤ s)) = true then 1 else 0, w) := by
  by_cases q1 : s < lo
  · rw [if_pos q1, decide_eq_true q1]; rfl
  · rw [if_neg q1, decide_eq_false q1]
    by_cases q2 : hi ≤ s
    · rw [if_pos q2, decide_eq_true q2]; rfl
    · rw [if_neg q2, decide_eq_false q2]; rfl
theorem p_isOperand (hk : k ≤ 4) : F_X3_isOperand s (nI k) w = some (if okS k s = true then 1 else 0, w) := by
  match k, hk with
  | 0, _ =>
    show (if s = 59 then some ((1 : Int32), w) else some (0, w)) = some (if decide (s = 59) = true then 1 else 0, w)
    by_cases q : s = 59
    · rw [if_pos q, decide_eq_true q]; rfl
    · rw [if_neg q, decide_eq_false q]; rfl
  | 1, _ => exact rng_if 48 53
  | 2, _ => exact rng_if 48 51
  | 3, _ => exact rng_if 97 109
  | 4, _ => exact rng_if 48 58
  | n + 5, hk => exact absurd hk (by omega)
theorem p_signAt (hl : w.2.1 8 0 = nI ln) (h60 : ln ≤ 60) (hp : p < ln) : F_X3_signAt (nI p) w = some (w.1 8 0 p, w) := by
  unfold F_X3_signAt
  rw [hl, if_neg (nI_ge hp (by omega)), R_get, bd_s, gt_in (show p < rl 8 0 from by show p < 60; omega) (by decide)]
theorem p_fits0 (hl : w.2.1 8 0 = nI ln) (h60 : ln ≤ 60) (hp : p < ln) : F_X3_fits (nI p) (nI p) w = some (if (lsO (w.1 8 0 p)).isSome = true then 1 else 0, w) := by
  unfold F_X3_fits
  rw [if_pos rfl, p_signAt hl h60 hp, bd_s, p_isOrder, bd_s]
  cases (lsO (w.1 8 0 p)).isSome
  · exact zr_0 _
  · exact zr_1 _
theorem p_fits1 (hl : w.2.1 8 0 = nI ln) (h60 : ln ≤ 60) (hf : f < p) (hp : p < ln) : F_X3_fits (nI f) (nI p) w = some (if okS (opK (w.1 8 0 f) (p - f)) (w.1 8 0 p) = true then 1 else 0, w) := by
  unfold F_X3_fits
  rw [if_neg (fun q => by have := nI_inj (by omega) (by omega) q; omega), p_signAt hl h60 hp, bd_s, p_signAt hl h60 (by omega), bd_s, nI_sub (by omega), p_operandAt (by omega) (by omega), bd_s, p_isOperand (opK_le _ _), bd_s]
  cases okS (opK (w.1 8 0 f) (p - f)) (w.1 8 0 p)
  · exact zr_0 _
  · exact zr_1 _
def PV (w : xWt) (ln f p v : Nat) : Prop := ∀ n, ln + 1 ≤ n + p → ∃ o, L_X3_firstWrong_4 n (nI f) (nI p) w = some (o, w) ∧ sm o (fun _ => some (nI ln, w)) (fun y => some (y, w)) = (some (nI v, w) : Option (Int32 × xWt))
theorem PV.fin (hl : w.2.1 8 0 = nI ln) : PV w ln f ln ln := fun n hn => by
  obtain ⟨m, rfl⟩ : ∃ m, n = m + 1 := ⟨n - 1, by omega⟩
  refine ⟨.inl (nI f, nI ln), ?_, rfl⟩
  show B_X3_firstWrong_4 (L_X3_firstWrong_4 m) (nI f) (nI ln) w = _
  unfold B_X3_firstWrong_4
  rw [hl, if_pos (Int32.le_refl _)]
theorem PV.bad (hl : w.2.1 8 0 = nI ln) (h60 : ln ≤ 60) (hp : p < ln) (h : F_X3_fits (nI f) (nI p) w = some (0, w)) : PV w ln f p p := fun n hn => by
  obtain ⟨m, rfl⟩ : ∃ m, n = m + 1 := ⟨n - 1, by omega⟩
  refine ⟨.inr (nI p), ?_, rfl⟩
  show B_X3_firstWrong_4 (L_X3_firstWrong_4 m) (nI f) (nI p) w = _
  unfold B_X3_firstWrong_4
  rw [hl, if_neg (nI_ge hp (by omega)), h, bd_s, if_pos rfl]
theorem PV.go (hl : w.2.1 8 0 = nI ln) (h60 : ln ≤ 60) (hp : p < ln) (h : F_X3_fits (nI f) (nI p) w = some (1, w)) (h2 : w.1 8 0 p ≠ 59) (h3 : PV w ln f (p + 1) v) : PV w ln f p v := fun n hn => by
  obtain ⟨m, rfl⟩ : ∃ m, n = m + 1 := ⟨n - 1, by omega⟩
  obtain ⟨o, e1, e2⟩ := h3 m (by omega)
  refine ⟨o, ?_, e2⟩
  show B_X3_firstWrong_4 (L_X3_firstWrong_4 m) (nI f) (nI p) w = _
  unfold B_X3_firstWrong_4
  rw [hl, if_neg (nI_ge hp (by omega)), h, bd_s, if_neg (by decide), p_signAt hl h60 hp, bd_s, if_neg h2, nI_1, e1]
theorem PV.sep (hl : w.2.1 8 0 = nI ln) (h60 : ln ≤ 60) (hp : p < ln) (h : F_X3_fits (nI f) (nI p) w = some (1, w)) (h2 : w.1 8 0 p = 59) (h3 : PV w ln (p + 1) (p + 1) v) : PV w ln f p v := fun n hn => by
  obtain ⟨m, rfl⟩ : ∃ m, n = m + 1 := ⟨n - 1, by omega⟩
  obtain ⟨o, e1, e2⟩ := h3 m (by omega)
  refine ⟨o, ?_, e2⟩
  show B_X3_firstWrong_4 (L_X3_firstWrong_4 m) (nI f) (nI p) w = _
  unfold B_X3_firstWrong_4
  rw [hl, if_neg (nI_ge hp (by omega)), h, bd_s, if_neg (by decide), p_signAt hl h60 hp, bd_s, if_pos h2, nI_1, e1]
theorem okS_59 (h1 : 1 ≤ k) (h4 : k ≤ 4) (h : okS k s = true) : s ≠ 59 := by
  intro q
  rw [q] at h
  match k, h1, h4 with
  | 1, _, _ => exact absurd h (by decide)
  | 2, _, _ => exact absurd h (by decide)
  | 3, _, _ => exact absurd h (by decide)
  | 4, _, _ => exact absurd h (by decide)
  | n + 5, _, h4 => exact absurd h4 (by omega)
theorem lsO_pos {l : List Nat} (h : lsO a = some l) : ∀ x, x ∈ l → 1 ≤ x ∧ x ≤ 4 := by
  rcases letters a with e | e | e | e | e | e | e | e | e | e | e
  all_goals first
    | (rw [lsO_NL e] at h; cases h)
    | (rw [e] at h; cases h; decide)
theorem scp_le (ks : List Nat) : ∀ p, p ≤ ln → (scp t ln ks p).1 ≤ ln ∧ p ≤ (scp t ln ks p).1 := by
  induction ks with
  | nil => intro p h; exact ⟨h, Nat.le_refl _⟩
  | cons k ks ih =>
    intro p h
    unfold scp
    by_cases q : p < ln ∧ okS k (t p) = true
    · rw [if_pos q]
      have := ih (p + 1) (by omega)
      exact ⟨this.1, by omega⟩
    · rw [if_neg q]
      exact ⟨h, Nat.le_refl _⟩
theorem PV.scan (hl : w.2.1 8 0 = nI ln) (h60 : ln ≤ 60) (hf : f < ln) {l : List Nat} (hls : lsO (w.1 8 0 f) = some l) : ∀ (ks : List Nat) (j : Nat), l.drop j = ks → f + 1 + j ≤ ln → ((scp (w.1 8 0) ln ks (f + 1 + j)).2 = false → PV w ln f (f + 1 + j) (scp (w.1 8 0) ln ks (f + 1 + j)).1) ∧ ((scp (w.1 8 0) ln ks (f + 1 + j)).2 = true → (scp (w.1 8 0) ln ks (f + 1 + j)).1 = f + 1 + j + ks.length ∧ ∀ v, PV w ln f (scp (w.1 8 0) ln ks (f + 1 + j)).1 v → PV w ln f (f + 1 + j) v) := by
  intro ks
  induction ks with
  | nil => intro j hd hj; exact ⟨fun q => Bool.noConfusion q, fun _ => ⟨rfl, fun v h => h⟩⟩
  | cons k ks ih =>
    intro j hd hj
    have hget : l[j]? = some k := by
      have : (l.drop j)[0]? = some k := by rw [hd]; rfl
      rw [List.getElem?_drop] at this
      exact this
    have hop : opK (w.1 8 0 f) (f + 1 + j - f) = k := by
      unfold opK
      rw [hls, show f + 1 + j - f - 1 = j by omega]
      show (l[j]?).getD 0 = k
      rw [hget]; rfl
    have hk := lsO_pos hls k (List.mem_of_getElem? hget)
    unfold scp
    by_cases q : f + 1 + j < ln ∧ okS k (w.1 8 0 (f + 1 + j)) = true
    · have hd' : l.drop (j + 1) = ks := by
        have := congrArg (List.drop 1) hd
        rw [List.drop_drop] at this
        exact this
      have hih := ih (j + 1) hd' (by omega)
      rw [show f + 1 + (j + 1) = f + 1 + j + 1 by omega] at hih
      have hfit : F_X3_fits (nI f) (nI (f + 1 + j)) w = some (1, w) := by
        rw [p_fits1 hl h60 (by omega) q.1, hop, if_pos q.2]
      rw [if_pos q]
      refine ⟨fun r => PV.go hl h60 q.1 hfit (okS_59 hk.1 hk.2 q.2) (hih.1 r), fun r => ?_⟩
      obtain ⟨r1, r2⟩ := hih.2 r
      refine ⟨by rw [r1, List.length_cons]; omega, fun v hv => PV.go hl h60 q.1 hfit (okS_59 hk.1 hk.2 q.2) (r2 v hv)⟩
    · rw [if_neg q]
      refine ⟨fun _ => ?_, fun r => by cases r⟩
      by_cases q1 : f + 1 + j < ln
      · refine PV.bad hl h60 q1 ?_
        rw [p_fits1 hl h60 (by omega) q1, hop, if_neg (fun r => q ⟨q1, r⟩)]
      · have e : f + 1 + j = ln := by omega
        show PV w ln f (f + 1 + j) (f + 1 + j)
        rw [e]
        exact PV.fin hl
theorem PV.toFE (hl : w.2.1 8 0 = nI ln) (h60 : ln ≤ 60) : ∀ n f, f ≤ ln → ln + 1 ≤ n + f → PV w ln f f (FE (w.1 8 0) ln n f).1 := by
  intro n
  induction n with
  | zero => intro f h1 h2; omega
  | succ n ih =>
    intro f h1 h2
    unfold FE
    by_cases hf : f < ln
    · unfold rdO
      rw [if_pos hf]
      cases hls : lsO (w.1 8 0 f) with
      | none =>
        dsimp only
        rw [if_neg (by decide)]
        exact PV.bad hl h60 hf (by rw [p_fits0 hl h60 hf, hls]; rfl)
      | some l =>
        dsimp only
        have hs := PV.scan hl h60 hf hls l 0 rfl (by omega)
        have hle := scp_le (t := w.1 8 0) (ln := ln) l (f + 1) (by omega)
        have hfit : F_X3_fits (nI f) (nI f) w = some (1, w) := by rw [p_fits0 hl h60 hf, hls]; rfl
        have h59 : w.1 8 0 f ≠ 59 := fun q => by rw [q, lsO_59] at hls; cases hls
        rw [Nat.add_zero] at hs
        by_cases q : (scp (w.1 8 0) ln l (f + 1)).2 = true
        · rw [if_pos q]
          obtain ⟨s1, s2⟩ := hs.2 q
          by_cases q2 : (scp (w.1 8 0) ln l (f + 1)).1 = ln
          · rw [if_pos q2]
            exact PV.go hl h60 hf hfit h59 (s2 ln (by rw [q2]; exact PV.fin hl))
          · rw [if_neg q2]
            have hp : (scp (w.1 8 0) ln l (f + 1)).1 < ln := by omega
            have hop : opK (w.1 8 0 f) ((scp (w.1 8 0) ln l (f + 1)).1 - f) = 0 := by
              unfold opK
              rw [hls, s1]
              show (l[f + 1 + l.length - f - 1]?).getD 0 = 0
              rw [List.getElem?_eq_none (by omega)]
              rfl
            have hfit2 := p_fits1 hl h60 (f := f) (p := (scp (w.1 8 0) ln l (f + 1)).1) (by omega) hp
            rw [hop] at hfit2
            by_cases q3 : w.1 8 0 (scp (w.1 8 0) ln l (f + 1)).1 = 59
            · rw [if_pos q3]
              refine PV.go hl h60 hf hfit h59 (s2 _ (PV.sep hl h60 hp ?_ q3 (ih _ (by omega) (by omega))))
              rw [hfit2, q3]; rfl
            · rw [if_neg q3]
              refine PV.go hl h60 hf hfit h59 (s2 _ (PV.bad hl h60 hp ?_))
              rw [hfit2, if_neg]
              intro r
              exact q3 (of_decide_eq_true r)
        · rw [if_neg q]
          exact PV.go hl h60 hf hfit h59 (hs.1 (Bool.eq_false_iff.mpr q))
    · have e : f = ln := by omega
      have hr : rdO (w.1 8 0) ln f = (f, false) := if_neg hf
      rw [hr, if_neg (show ¬ (f, false).2 = true from Bool.false_ne_true)]
      show PV w ln f f f
      rw [e]
      exact PV.fin hl
end TXP
