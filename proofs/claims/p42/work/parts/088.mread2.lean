/-! sets of children as bits; who holds a leaf; what may burn -/
def bit (c : Nat) : Int32 := 1 <<< (nI c &&& 31)
def mk (p : Nat → Bool) : Nat → Int32
  | 0 => 0
  | n + 1 => mk p n ||| (if p n then bit n else 0)
theorem mk_congr {p q : Nat → Bool} {n : Nat} (h : ∀ i, i < n → p i = q i) : mk p n = mk q n := by
  induction n with
  | zero => rfl
  | succ n ih => unfold mk; rw [ih (fun i hi => h i (by omega)), h n (by omega)]
theorem mk_5 : ∀ b0 b1 b2 b3 b4 : Bool, ((((((0 : Int32) ||| (if b0 then bit 0 else 0)) ||| (if b1 then bit 1 else 0)) ||| (if b2 then bit 2 else 0)) ||| (if b3 then bit 3 else 0)) ||| (if b4 then bit 4 else 0) = 0) ↔ (b0 = false ∧ b1 = false ∧ b2 = false ∧ b3 = false ∧ b4 = false) := by decide +kernel
theorem mk_0 (p : Nat → Bool) : mk p 5 = 0 ↔ ∀ c, c < 5 → p c = false := by
  have h := mk_5 (p 0) (p 1) (p 2) (p 3) (p 4)
  constructor
  · intro q c hc
    obtain ⟨a0, a1, a2, a3, a4⟩ := h.mp q
    match c, hc with
    | 0, _ => exact a0
    | 1, _ => exact a1
    | 2, _ => exact a2
    | 3, _ => exact a3
    | 4, _ => exact a4
    | n + 5, hc => omega
  · intro q
    exact h.mpr ⟨q 0 (by omega), q 1 (by omega), q 2 (by omega), q 3 (by omega), q 4 (by omega)⟩
theorem or_3 (s x : Int32) (b0 b1 b2 : Bool) : ((s ||| (if b0 then x else 0)) ||| (if b1 then x else 0)) ||| (if b2 then x else 0) = s ||| (if b0 || b1 || b2 then x else 0) := by
  cases b0 <;> cases b1 <;> cases b2 <;> simp [Int32.or_assoc]
theorem cn_0 (p : Nat → Bool) (n : Nat) : cn p n = 0 ↔ ∀ i, i < n → p i = false := by
  induction n with
  | zero => exact ⟨fun _ i hi => by omega, fun _ => rfl⟩
  | succ n ih =>
    unfold cn
    constructor
    · intro q i hi
      by_cases e : i = n
      · subst e
        by_cases hp : p i = true
        · rw [if_pos hp] at q; omega
        · exact Bool.eq_false_iff.mpr hp
      · exact ih.mp (by omega) i (by omega)
    · intro q
      rw [ih.mpr (fun i hi => q i (by omega)), q n (by omega)]
      rfl
def hP (z : Nat → Int32) (a : Int32) (c : Nat) : Bool := hB z 2 a (3 * c + 0) || hB z 2 a (3 * c + 1) || hB z 2 a (3 * c + 2)
theorem hP_f {z : Nat → Int32} {a : Int32} {c : Nat} : hP z a c = false ↔ ∀ h, h < 3 → hB z 2 a (3 * c + h) = false := by
  unfold hP
  rw [Bool.or_eq_false_iff, Bool.or_eq_false_iff]
  constructor
  · rintro ⟨⟨a0, a1⟩, a2⟩ h hh
    match h, hh with
    | 0, _ => exact a0
    | 1, _ => exact a1
    | 2, _ => exact a2
    | n + 3, hh => omega
  · intro q
    exact ⟨⟨q 0 (by omega), q 1 (by omega)⟩, q 2 (by omega)⟩
def wo (x : Int32) (c : Nat) : Bool := !decide (nI c = x)
section MR2
variable {w : xWt} {c l h b g : Nat}
theorem m_holders_in (hc : c < 5) (a x s0 : Int32) : L_X8_holders_14 9999 a x s0 (nI c) 0 w = some ((s0 ||| (if wo x c && hP (zz w) a c then bit c else 0), nI 3), w) := by
  have h := (up_loop (fun n i s => L_X8_holders_14 n a x s (nI c) (nI i) w) (fun h s => s ||| (if wo x c && hB (zz w) 2 a (3 * c + h) then bit c else 0)) (fun s => ((s, nI 3), w)) 3 (fun _ _ => True)
    (fun n i s hi _ => ⟨by
      show B_X8_holders_14 (L_X8_holders_14 n) a x s (nI c) (nI i) w = _
      have e1 : (3 * c + i) / 3 = c := by omega
      have e2 : (3 * c + i) % 3 = i := by omega
      unfold B_X8_holders_14 hB wo
      rw [if_neg (lt3 hi), nI_1, e1, e2]
      by_cases q0 : nI c = x
      · rw [if_pos q0, if_neg (by simp [q0])]
      · rw [if_neg q0, m_ofH0 hc hi, bd_s]
        by_cases q : zH (zz w) c i 0 = 2
        · rw [if_pos q, m_ofH1 hc hi, bd_s]
          by_cases q2 : zH (zz w) c i 1 = a
          · rw [if_pos q2, if_pos (by simp [q, q2, q0])]; rfl
          · rw [if_neg q2, if_neg (by simp [q2])]
        · rw [if_neg q, if_neg (by simp [q])], trivial⟩)
    (fun n s _ => by
      show B_X8_holders_14 (L_X8_holders_14 n) a x s (nI c) (nI 3) w = _
      unfold B_X8_holders_14
      rw [if_pos (show (3 : Int32) ≤ nI 3 from Int32.le_refl _)]) 3 0 s0 9999 (by omega) (by omega) trivial).1
  refine h.trans ?_
  congr 3
  show ((s0 ||| (if wo x c && hB (zz w) 2 a (3 * c + 0) then bit c else 0)) ||| (if wo x c && hB (zz w) 2 a (3 * c + 1) then bit c else 0)) ||| (if wo x c && hB (zz w) 2 a (3 * c + 2) then bit c else 0) = _
  rw [or_3]
  unfold hP
  cases wo x c <;> simp
theorem m_holders (a x : Int32) : F_X8_holders a x w = some (mk (fun c => wo x c && hP (zz w) a c) 5, w) := by
  have h := (up_loop (fun n i s => L_X8_holders_5 n a x s (nI i) w) (fun c _ => mk (fun c => wo x c && hP (zz w) a c) (c + 1)) (fun s => ((s, nI 5), w)) 5 (fun c s => s = mk (fun c => wo x c && hP (zz w) a c) c)
    (fun n i s hi hI => ⟨by
      show B_X8_holders_5 (L_X8_holders_5 n) a x s (nI i) w = _
      unfold B_X8_holders_5
      rw [if_neg (lt5 hi), m_holders_in hi, bd_s, nI_1, hI]
      rfl, rfl⟩)
    (fun n s _ => by
      show B_X8_holders_5 (L_X8_holders_5 n) a x s (nI 5) w = _
      unfold B_X8_holders_5
      rw [if_pos (show (5 : Int32) ≤ nI 5 from Int32.le_refl _)]) 5 0 0 9999 (by omega) (by omega) rfl)
  have h2 : L_X8_holders_5 9999 a x 0 0 w = some ((mk (fun c => wo x c && hP (zz w) a c) 5, nI 5), w) := by
    have := h.1
    rw [h.2] at this
    exact this
  unfold F_X8_holders
  rw [h2]
  rfl
/-- no child but c (or no child at all, c at least 5) pins leaf a -/
def fr (z : Nat → Int32) (a : Int32) (c : Nat) : Bool := (List.range 15).all (fun i => decide (i / 3 = c) || !hB z 2 a i)
theorem fr_iff {z : Nat → Int32} {a : Int32} : fr z a c = true ↔ ∀ i, i < 15 → i / 3 ≠ c → hB z 2 a i = false := by
  unfold fr
  rw [List.all_eq_true]
  constructor
  · intro q i hi hne
    have := q i (List.mem_range.mpr hi)
    simpa [hne] using this
  · intro q i hi
    by_cases e : i / 3 = c
    · simp [e]
    · simp [e, q i (List.mem_range.mp hi) e]
theorem m_hold0 {z : Nat → Int32} {a x : Int32} (hx : ∀ d, d < 5 → (wo x d = false ↔ d = c)) : mk (fun d => wo x d && hP z a d) 5 = 0 ↔ fr z a c = true := by
  rw [mk_0, fr_iff]
  constructor
  · intro q i hi hne
    have q2 := q (i / 3) (by omega)
    have q3 : wo x (i / 3) = true := by
      by_cases e : wo x (i / 3) = true
      · exact e
      · exact absurd ((hx _ (by omega)).mp (Bool.eq_false_iff.mpr e)) hne
    rw [q3, Bool.true_and, hP_f] at q2
    have := q2 (i % 3) (by omega)
    rw [show 3 * (i / 3) + i % 3 = i by omega] at this
    exact this
  · intro q d hd
    by_cases e : d = c
    · rw [(hx d hd).mpr e, Bool.false_and]
    · have : hP z a d = false := hP_f.mpr fun h hh => q _ (by omega) (by omega)
      rw [this, Bool.and_false]
theorem wo_m1 {d : Nat} (hd : d < 5) : wo (-1) d = false ↔ d = 9 := by
  have h1 : nI d ≠ -1 := nI_m1 (by omega)
  unfold wo
  simp [h1]; omega
theorem wo_c (hc : c < 5) {d : Nat} (hd : d < 5) : wo (nI c) d = false ↔ d = c := by
  unfold wo
  simp only [Bool.not_eq_false', decide_eq_true_iff]
  exact nI_eq (by omega) (by omega)
/-- may leaf l be burnt, by setting s -/
def mB (z : Nat → Int32) (l : Nat) (s : Int32) : Bool := if s = 0 then fr z (nI l) 9 else !decide (z 0 - zL z l 3 < 2)
theorem m_mayBurn (hl : l < 120) (s : Int32) : F_X8_mayBurn (nI l) s w = some (if mB (zz w) l s then 1 else 0, w) := by
  unfold F_X8_mayBurn mB
  by_cases q : s = 0
  · rw [if_pos q, if_pos q, m_holders, bd_s]
    by_cases q2 : fr (zz w) (nI l) 9 = true
    · rw [if_pos ((m_hold0 (fun d hd => wo_m1 hd)).mpr q2), if_pos q2]
    · rw [if_neg (fun r => q2 ((m_hold0 (fun d hd => wo_m1 hd)).mp r)), if_neg q2]
  · rw [if_neg q, if_neg q, m_z0, m_of3 hl, bd_s]
    by_cases q2 : zz w 0 - zL (zz w) l 3 < 2
    · rw [if_pos q2, if_neg (by simp [q2])]
    · rw [if_neg q2, if_pos (by simp [q2])]
end MR2

