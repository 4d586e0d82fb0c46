/-! the reference: late ones, children, places on a heap, the most held, the best rake -/
theorem pw_count {f : Nat → Nat} : ∀ {hl : List Nat} {p i : Nat}, hl.Pairwise (fun a b => f a < f b) → hl[p]? = some i → hl.countP (fun l => decide (f l < f i)) = p := by
  intro hl
  induction hl with
  | nil => intro p i _ h; simp at h
  | cons a t ih =>
    intro p i hp h
    obtain ⟨h1, h2⟩ := List.pairwise_cons.mp hp
    rw [List.countP_cons]
    cases p with
    | zero =>
      have e : a = i := by simpa using h
      subst e
      have : t.countP (fun l => decide (f l < f a)) = 0 := by
        rw [List.countP_eq_zero]
        intro x hx
        have := h1 x hx
        simp; omega
      rw [this]
      simp
    | succ p =>
      have h' : t[p]? = some i := by simpa using h
      have hm : i ∈ t := List.mem_of_getElem? h'
      rw [ih h2 h', if_pos (by simp; exact h1 i hm)]
def yI (z : Nat → Int32) (c : Nat) : Bool := decide (zC z c 1 = 1)
def lO (z : Nat → Int32) (c : Nat) : Bool := yI z c && !decide (zC z c 2 = z 0)
def ch (z : Nat → Int32) (c : Nat) : Bool := decide (zC z c 0 = 1)
section MR3
variable {w : xWt} {c l h b g : Nat}
theorem m_children (hC : ∀ c, c < 5 → zC (zz w) c 0 = 0 ∨ zC (zz w) c 0 = 1) : F_X8_children w = some (nI (cn (ch (zz w)) 5), w) := by
  have h := cn_loop (fun n i t => L_X8_children_4 n (nI t) (nI i) w) (ch (zz w)) (fun t => ((nI t, nI 5), w)) 5
    (fun n i t hi => by
      show B_X8_children_4 (L_X8_children_4 n) (nI t) (nI i) w = _
      unfold B_X8_children_4 ch
      rw [if_neg (lt5 hi), m_ofC0 hi, bd_s, nI_1]
      rcases hC i hi with q | q
      · rw [q, if_neg (by decide), nI_add0]
      · rw [q, if_pos (by decide), nI_1])
    (fun n t => by
      show B_X8_children_4 (L_X8_children_4 n) (nI t) (nI 5) w = _
      unfold B_X8_children_4
      rw [if_pos (show (5 : Int32) ≤ nI 5 from Int32.le_refl _)]) 9999 (by omega)
  unfold F_X8_children
  exact (congrArg (fun o => bd o _) h).trans rfl
/-- ahead of leaf i on heap c, by the turns as they stand -/
def ah (z : Nat → Int32) (c i l : Nat) : Bool := oB z c l && !decide (zL z i 5 ≤ zL z l 5)
theorem m_ahead (hg : zz w 1 = nI g) (h120 : g ≤ 120) {i : Nat} (hi : i < g) (a2 l3 : Int32) : L_X8_onHeap_22 9999 (nI c) a2 l3 (nI i) 0 0 w = some ((nI (cn (ah (zz w) c i) g), nI g), w) :=
  cn_loop (fun n j t => L_X8_onHeap_22 n (nI c) a2 l3 (nI i) (nI t) (nI j) w) (ah (zz w) c i) (fun t => ((nI t, nI g), w)) g
    (fun n j t hj => by
      show B_X8_onHeap_22 (L_X8_onHeap_22 n) (nI c) a2 l3 (nI i) (nI t) (nI j) w = _
      unfold B_X8_onHeap_22 ah
      rw [m_z1, hg, if_neg (nI_ge hj (by omega)), m_isOn (by omega), bd_s, nI_1, nI_1, nI_add0]
      by_cases q : oB (zz w) c j = true
      · rw [if_pos q, if_neg (by decide), m_of5 (by omega), bd_s, m_of5 (by omega), bd_s]
        by_cases q2 : zL (zz w) i 5 ≤ zL (zz w) j 5
        · rw [if_pos q2, if_neg (by simp [q2])]
        · rw [if_neg q2, if_pos (by simp only [q, q2]; rfl)]
      · rw [if_neg q, if_pos rfl, if_neg (by simp [q])])
    (fun n t => by
      show B_X8_onHeap_22 (L_X8_onHeap_22 n) (nI c) a2 l3 (nI i) (nI t) (nI g) w = _
      unfold B_X8_onHeap_22
      rw [m_z1, hg, if_pos (Int32.le_refl _)]) 9999 (by omega)
/-- the leaf at a place of a list, -1 where there is none -/
def at9 (hl : List Nat) (a : Int32) : Int32 := if a < 0 then -1 else match hl[a.toNatClampNeg]? with
  | some l => nI l
  | none => -1
def upto (t : Option Nat) (i : Nat) : Int32 := match t with
  | some l => if l < i then nI l else -1
  | none => -1
def tg (hl : List Nat) (a : Int32) : Option Nat := if a < 0 then none else hl[a.toNatClampNeg]?
theorem tg_iff {hl : List Nat} {a : Int32} {p i : Nat} (hp : p < 2 ^ 31) (hi : hl[p]? = some i) (hn : hl.Nodup) : tg hl a = some i ↔ nI p = a := by
  unfold tg
  constructor
  · intro q
    split at q
    · cases q
    · next h0 =>
      obtain ⟨j, h1, rfl⟩ := nI_of h0
      rw [nI_clamp h1] at q
      have hj := (List.getElem?_eq_some_iff.mp q).1
      have hp' := (List.getElem?_eq_some_iff.mp hi).1
      have e : j = p := (List.getElem?_inj hj hn).mp (q.trans hi.symm)
      rw [e]
  · intro q
    subst q
    rw [if_neg (nI_pos hp), nI_clamp hp]
    exact hi
theorem m_onHeap {hl : List Nat} (hc : c < 5) (hg : zz w 1 = nI (gN (zz w))) (h120 : gN (zz w) ≤ 120) (hH : HL (zz w) c hl) (hT : ∀ l, l ∈ hl → zL (zz w) l 5 = nI (tu (zz w) l) ∧ tu (zz w) l < 2 ^ 31) (a : Int32) : F_X8_onHeap (nI c) a w = some (at9 hl a, w) := by
  have hlen := hH.le h120
  have hah : ∀ i, i < gN (zz w) → oB (zz w) c i = true → ∃ p, hl[p]? = some i ∧ cn (ah (zz w) c i) (gN (zz w)) = p := by
    intro i hi hob
    have hm : i ∈ hl := (hH.1 i).mpr ⟨hi, hob⟩
    obtain ⟨p, hp⟩ := List.getElem?_of_mem hm
    refine ⟨p, hp, ?_⟩
    rw [← pw_count hH.2 hp, ← hH.count]
    refine cn_congr fun l hl' => ?_
    unfold ah
    by_cases q : oB (zz w) c l = true
    · have hlm : l ∈ hl := (hH.1 l).mpr ⟨hl', q⟩
      rw [(hT i hm).1, (hT l hlm).1, q, Bool.true_and, Bool.true_and]
      by_cases q2 : tu (zz w) l < tu (zz w) i
      · rw [decide_eq_false (nI_ge q2 (hT i hm).2), decide_eq_true q2]; rfl
      · rw [decide_eq_true (nI_le (by omega) (hT l hlm).2), decide_eq_false q2]; rfl
    · rw [Bool.eq_false_iff.mpr q]; rfl
  have h := (up_loop (fun n i s => L_X8_onHeap_5 n (nI c) a s (nI i) w) (fun i s => if tg hl a = some i then nI i else s) (fun s => ((s, nI (gN (zz w))), w)) (gN (zz w)) (fun i s => s = upto (tg hl a) i)
    (fun n i s hi hI => ⟨by
      show B_X8_onHeap_5 (L_X8_onHeap_5 n) (nI c) a s (nI i) w = _
      unfold B_X8_onHeap_5
      rw [m_z1, hg, if_neg (nI_ge hi (by omega)), m_ahead hg h120 hi, bd_s, m_isOn (by omega), bd_s, nI_1]
      by_cases q : oB (zz w) c i = true
      · obtain ⟨p, hp, hcn⟩ := hah i hi q
        have hpl := (List.getElem?_eq_some_iff.mp hp).1
        rw [if_pos q, if_neg (by decide), hcn]
        by_cases q2 : nI p = a
        · rw [if_pos q2, if_pos ((tg_iff (by omega) hp hH.nodup).mpr q2)]
        · rw [if_neg q2, if_neg (fun r => q2 ((tg_iff (by omega) hp hH.nodup).mp r))]
      · rw [if_neg q, if_pos rfl, if_neg (fun r => ?_)]
        unfold tg at r
        split at r
        · cases r
        · exact q ((hH.1 i).mp (List.mem_of_getElem? r)).2, by
      rw [hI]
      unfold upto
      cases ht : tg hl a with
      | none => simp
      | some l =>
        simp only [Option.some.injEq]
        by_cases e : l = i
        · subst e; simp
        · rw [if_neg e]
          by_cases e2 : l < i
          · rw [if_pos e2, if_pos (by omega)]
          · rw [if_neg e2, if_neg (by omega)]⟩)
    (fun n s _ => by
      show B_X8_onHeap_5 (L_X8_onHeap_5 n) (nI c) a s (nI (gN (zz w))) w = _
      unfold B_X8_onHeap_5
      rw [m_z1, hg, if_pos (Int32.le_refl _)]) (gN (zz w)) 0 (-1) 9999 (by omega) (by omega) (by unfold upto; split <;> rfl))
  have h2 : L_X8_onHeap_5 9999 (nI c) a (-1) 0 w = some ((upto (tg hl a) (gN (zz w)), nI (gN (zz w))), w) := by
    have := h.1
    rw [h.2] at this
    exact this
  unfold F_X8_onHeap
  rw [h2]
  show some (upto (tg hl a) (gN (zz w)), w) = _
  congr 2
  unfold upto at9 tg
  by_cases h0 : a < 0
  · rw [if_pos h0, if_pos h0]
  · rw [if_neg h0, if_neg h0]
    cases ht : hl[a.toNatClampNeg]? with
    | none => rfl
    | some l =>
      simp only
      rw [if_pos ((hH.1 l).mp (List.mem_of_getElem? ht)).1]
/-- the most held -/
def mhS (z : Nat → Int32) (i : Nat) (s : Int32 × Int32) : Int32 × Int32 := if nI (cn (hB z 2 (nI i)) 15) ≤ s.2 then s else (nI i, nI (cn (hB z 2 (nI i)) 15))
end MR3

