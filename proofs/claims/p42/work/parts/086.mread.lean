/-! the reference's counts -/
theorem cn_add (p : Nat → Bool) (a m : Nat) : cn p (a + m) = cn p a + cn (fun j => p (a + j)) m := by
  induction m with
  | zero => rfl
  | succ m ih =>
    show cn p (a + m) + (if p (a + m) then 1 else 0) = cn p a + (cn (fun j => p (a + j)) m + (if p (a + m) then 1 else 0))
    rw [ih]; omega
theorem cn_loop3 {ρ : Type} (f : Nat → Nat → Nat → Option ρ) (p : Nat → Bool) (fin : Nat → ρ) (N s0 : Nat) (h1 : ∀ n i s, i < N → f (n + 1) i s = f n (i + 1) (if p i then s + 1 else s)) (h2 : ∀ n s, f (n + 1) N s = some (fin s)) (n : Nat) (hn : N < n) : f n 0 s0 = some (fin (s0 + cn p N)) := by
  have h := (up_loop f (fun j t => if p j then t + 1 else t) fin N (fun _ _ => True) (fun n i s hi _ => ⟨h1 n i s hi, trivial⟩) (fun n s _ => h2 n s) N 0 s0 n (by omega) hn trivial).1
  have h3 := iter_cn p N 0 s0
  rw [h]
  simp only [cn, Nat.zero_add, Nat.add_zero] at h3
  rw [h3]
theorem lt3 {i : Nat} (h : i < 3) : ¬ (3 : Int32) ≤ nI i := nI_ge (b := 3) h (by decide)
theorem lt5 {i : Nat} (h : i < 5) : ¬ (5 : Int32) ≤ nI i := nI_ge (b := 5) h (by decide)
section MR
variable {w : xWt} {c l h b g : Nat}
theorem m_leavesAt (hg : zz w 1 = nI g) (h120 : g ≤ 120) (v : Int32) : F_X8_leavesAt v w = some (nI (cn (fun l => zL (zz w) l 1 == v) g), w) := by
  have h := cn_loop (fun n i s => L_X8_leavesAt_4 n v (nI s) (nI i) w) (fun l => zL (zz w) l 1 == v) (fun s => ((nI s, nI g), w)) g
    (fun n i s hi => by
      show B_X8_leavesAt_4 (L_X8_leavesAt_4 n) v (nI s) (nI i) w = _
      unfold B_X8_leavesAt_4
      rw [m_z1, hg, if_neg (nI_ge hi (by omega)), m_of1 (by omega), bd_s, nI_1, nI_1, nI_add0]
      by_cases q : zL (zz w) i 1 = v
      · rw [if_pos q, if_pos (by simp [q])]
      · rw [if_neg q, if_neg (by simp [q])])
    (fun n s => by
      show B_X8_leavesAt_4 (L_X8_leavesAt_4 n) v (nI s) (nI g) w = _
      unfold B_X8_leavesAt_4
      rw [m_z1, hg, if_pos (Int32.le_refl _)]) 9999 (by omega)
  unfold F_X8_leavesAt
  exact (congrArg (fun o => bd o _) h).trans rfl
theorem m_isOnHeap (hl : l < 120) (a : Int32) : F_X8_isOnHeap (nI l) a w = some (if zL (zz w) l 1 = 1 ∧ zL (zz w) l 4 = a then 1 else 0, w) := by
  unfold F_X8_isOnHeap
  rw [m_of1 hl, bd_s]
  by_cases q : zL (zz w) l 1 = 1
  · rw [if_pos q, m_of4 hl, bd_s]
    by_cases q2 : zL (zz w) l 4 = a
    · rw [if_pos q2, if_pos ⟨q, q2⟩]
    · rw [if_neg q2, if_neg (fun r => q2 r.2)]
  · rw [if_neg q, if_neg (fun r => q r.1)]
theorem m_isOn (hl : l < 120) : F_X8_isOnHeap (nI l) (nI c) w = some (if oB (zz w) c l then 1 else 0, w) := by
  rw [m_isOnHeap hl]
  by_cases q : oB (zz w) c l = true
  · rw [if_pos (oB_iff.mp q), if_pos q]
  · rw [if_neg (fun r => q (oB_iff.mpr r)), if_neg q]
theorem m_heapOf (hg : zz w 1 = nI g) (h120 : g ≤ 120) : F_X8_heapOf (nI c) w = some (nI (cn (fun l => oB (zz w) c l) g), w) := by
  have h := cn_loop (fun n i s => L_X8_heapOf_4 n (nI c) (nI s) (nI i) w) (fun l => oB (zz w) c l) (fun s => ((nI s, nI g), w)) g
    (fun n i s hi => by
      show B_X8_heapOf_4 (L_X8_heapOf_4 n) (nI c) (nI s) (nI i) w = _
      unfold B_X8_heapOf_4
      rw [m_z1, hg, if_neg (nI_ge hi (by omega)), m_isOn (by omega), bd_s, nI_1, nI_1, nI_add0]
      by_cases q : oB (zz w) c i = true
      · rw [if_pos q, if_neg (by decide), if_pos q]
      · rw [if_neg q, if_pos rfl, if_neg q])
    (fun n s => by
      show B_X8_heapOf_4 (L_X8_heapOf_4 n) (nI c) (nI s) (nI g) w = _
      unfold B_X8_heapOf_4
      rw [m_z1, hg, if_pos (Int32.le_refl _)]) 9999 (by omega)
  unfold F_X8_heapOf
  exact (congrArg (fun o => bd o _) h).trans rfl
theorem m_hooksOf (hc : c < 5) (v : Int32) : F_X8_hooksOf (nI c) v w = some (nI (cn (fun h => zH (zz w) c h 0 == v) 3), w) := by
  have h := cn_loop (fun n i s => L_X8_hooksOf_5 n (nI c) v (nI s) (nI i) w) (fun h => zH (zz w) c h 0 == v) (fun s => ((nI s, nI 3), w)) 3
    (fun n i s hi => by
      show B_X8_hooksOf_5 (L_X8_hooksOf_5 n) (nI c) v (nI s) (nI i) w = _
      unfold B_X8_hooksOf_5
      rw [if_neg (lt3 hi), m_ofH0 hc hi, bd_s, nI_1, nI_1, nI_add0]
      by_cases q : zH (zz w) c i 0 = v
      · rw [if_pos q, if_pos (by simp [q])]
      · rw [if_neg q, if_neg (by simp [q])])
    (fun n s => by
      show B_X8_hooksOf_5 (L_X8_hooksOf_5 n) (nI c) v (nI s) (nI 3) w = _
      unfold B_X8_hooksOf_5
      rw [if_pos (show (3 : Int32) ≤ nI 3 from Int32.le_refl _)]) 9999 (by omega)
  unfold F_X8_hooksOf
  exact (congrArg (fun o => bd o _) h).trans rfl
/-- a hook by its number of all fifteen -/
def hB (z : Nat → Int32) (kind : Int32) (a : Int32) (i : Nat) : Bool := zH z (i / 3) (i % 3) 0 == kind && zH z (i / 3) (i % 3) 1 == a
end MR

