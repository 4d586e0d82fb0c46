/-! what may be burnt -/
theorem fr9 {z : Nat → Int32} {a : Int32} : fr z a 9 = true ↔ cn (hB z 2 a) 15 = 0 := by
  rw [fr_iff, cn_0]
  exact ⟨fun q i hi => q i hi (by omega), fun q i hi _ => q i hi⟩
theorem frc {z : Nat → Int32} {a : Int32} {c : Nat} (hc : c < 5) : fr z a c = true ↔ cn (hB z 2 a) 15 = cn (hB z 2 a) (3 * c + 3) - cn (hB z 2 a) (3 * c) := by
  have e1 := cn_add (hB z 2 a) (3 * c) 3
  have e2 := cn_add (hB z 2 a) (3 * c + 3) (12 - 3 * c)
  rw [show 3 * c + 3 + (12 - 3 * c) = 15 by omega] at e2
  have h1 : cn (hB z 2 a) (3 * c) = 0 ↔ ∀ i, i < 3 * c → hB z 2 a i = false := cn_0 _ _
  have h2 : cn (fun j => hB z 2 a (3 * c + 3 + j)) (12 - 3 * c) = 0 ↔ ∀ i, i < 12 - 3 * c → hB z 2 a (3 * c + 3 + i) = false := cn_0 _ _
  rw [fr_iff]
  constructor
  · intro q
    have := h1.mpr (fun i hi => q i (by omega) (by omega))
    have := h2.mpr (fun i hi => q _ (by omega) (by omega))
    omega
  · intro q i hi hne
    by_cases e : i < 3 * c
    · exact h1.mp (by omega) i e
    · have := h2.mp (by omega) (i - (3 * c + 3)) (by omega)
      rwa [show 3 * c + 3 + (i - (3 * c + 3)) = i by omega] at this
theorem cn_get (q : Nat → Bool) (hl : List Nat) : ∀ n, n ≤ hl.length → cn (fun i => match hl[i]? with | some l => q l | none => false) n = (hl.take n).countP q := by
  intro n
  induction n with
  | zero => intro _; simp [cn]
  | succ n ih =>
    intro h
    have hlt : n < hl.length := by omega
    unfold cn
    rw [ih (by omega), List.take_succ, List.countP_append, List.getElem?_eq_getElem hlt]
    simp
/-- may leaf l be burnt by setting s, the hooks of child c empty -/
def mC (z : Nat → Int32) (l : Nat) (s : Int32) (c : Nat) : Bool := if s = 0 then fr z (nI l) c else mB z l 1
theorem lt120 {i : Nat} (h : i < 120) : ¬ (120 : Int32) ≤ nI i := nI_ge (b := 120) h (by decide)
theorem lt12 {i : Nat} (h : i < 12) : ¬ (12 : Int32) ≤ nI i := nI_ge (b := 12) h (by decide)
section PB
variable {z : Nat → Int32} {w : xWt} {B T c l h b g : Nat}
theorem p_mayBurn (hW : WF z B T) (hY : YR 0 z w) (hl : l < gN z) {s : Int32} (hs : s = 0 ∨ s = 1) : F_X6_mayBurn 0 (nI l) s (-1) w = some (if mB z l s then 1 else 0, w) := by
  have h120 := hW.g120
  unfold F_X6_mayBurn
  rcases hs with rfl | rfl
  · rw [if_neg (by decide)]
    unfold F_X1_firstOf
    rw [bd_s, if_pos rfl, show R_X4_number 0 13 (nI l) 0 15 w = R_X4_number 0 13 (nI l) 0 (nI 15) w from rfl, R_number0 w 0 13 (nI l) (N := 15) (by decide), bd_s, cn_congr (fun i hi => y13b hY (by omega) hi)]
    have hle := cn_le (hB z 2 (nI l)) 15
    have e : mB z l 0 = fr z (nI l) 9 := rfl
    rw [e]
    by_cases q : fr z (nI l) 9 = true
    · rw [fr9.mp q, if_pos (by rfl), if_pos q]
    · rw [if_neg (nI_ne0 (Nat.pos_of_ne_zero fun r => q (fr9.mpr r)) (by omega)), if_neg q]
  · rw [if_pos rfl, R_get, bd_s, g_120 (by omega) rfl, (hY.l l hl).2.2.2.1, show w.2.1 0 0 = z 0 from hY.f.1]
    have e : mB z l 1 = !decide (z 0 - zL z l 3 < 2) := rfl
    rw [e]
    by_cases q : z 0 - zL z l 3 < 2
    · rw [if_pos q, if_neg (by simp [q])]
    · rw [if_neg q, if_pos (by simp [q])]
theorem p_mayBurnC (hW : WF z B T) (hY : YR 0 z w) (hl : l < gN z) (hc : c < 5) {s : Int32} (hs : s = 0 ∨ s = 1) : F_X6_mayBurn 0 (nI l) s (nI c) w = some (if mC z l s c then 1 else 0, w) := by
  have h120 := hW.g120
  unfold F_X6_mayBurn
  rcases hs with rfl | rfl
  · rw [if_neg (by decide)]
    unfold F_X1_firstOf
    have hle := cn_le (hB z 2 (nI l)) 15
    have hle2 := cn_le (hB z 2 (nI l)) (3 * c + 3)
    rw [bd_s, if_neg (nI_m1 (by omega)), ixF3, ixF, R_number w 0 13 (nI l) (by omega) (show 3 * c + 3 ≤ rl 0 13 from by show 3 * c + 3 ≤ 15; omega), bd_s, show R_X4_number 0 13 (nI l) 0 15 w = R_X4_number 0 13 (nI l) 0 (nI 15) w from rfl, R_number0 w 0 13 (nI l) (N := 15) (by decide), bd_s, cn_congr (fun i hi => y13b hY (by omega) hi), cn_congr (n := 3 * c + 3) (fun i hi => y13b hY (by omega) (by omega)), cn_congr (n := 3 * c) (fun i hi => y13b hY (by omega) (by omega))]
    have e : mC z l 0 c = fr z (nI l) c := rfl
    rw [e]
    by_cases q : fr z (nI l) c = true
    · rw [if_pos (congrArg nI ((frc hc).mp q)), if_pos q]
    · rw [if_neg (fun r => q ((frc hc).mpr (nI_inj (by omega) (by omega) r))), if_neg q]
  · rw [if_pos rfl, R_get, bd_s, g_120 (by omega) rfl, (hY.l l hl).2.2.2.1, show w.2.1 0 0 = z 0 from hY.f.1]
    have e : mC z l 1 c = !decide (z 0 - zL z l 3 < 2) := rfl
    rw [e]
    by_cases q : z 0 - zL z l 3 < 2
    · rw [if_pos q, if_neg (by simp [q])]
    · rw [if_neg q, if_pos (by simp [q])]
theorem p_burnable_of (hW : WF z B T) (hY : YR 0 z w) (hc : c < 5) (s u : Int32) (q : Nat → Bool) (hq : ∀ l, l < gN z → F_X6_mayBurn 0 (nI l) s u w = some (if q l then 1 else 0, w)) : F_X6_burnable 0 (nI c) s u w = some (nI (cn (fun l => oB z c l && q l) (gN z)), w) := by
  obtain ⟨hl, q1, q2, q3, q4⟩ := p_heap hW hY hc
  have h := cn_loop (fun n i t => L_X6_burnable_19 0 n (nI c) s u (nI hl.length) (nI t) (nI i) w) (fun i => match hl[i]? with | some l => q l | none => false) (fun t => ((nI t, nI hl.length), w)) hl.length
    (fun n i t hi => by
      show B_X6_burnable_19 0 (L_X6_burnable_19 0 n) (nI c) s u (nI hl.length) (nI t) (nI i) w = _
      unfold B_X6_burnable_19
      have hm : hl[i] < gN z := ((q1.1 _).mp (List.getElem_mem hi)).1
      have e : at9 hl (nI i) = nI hl[i] := by
        unfold at9
        rw [if_neg (nI_pos (by omega)), nI_clamp (by omega), List.getElem?_eq_getElem hi]
      rw [if_neg (nI_ge hi (by omega)), p_leafOnHeap hc q2 q3 q4, bd_s, e, hq _ hm, bd_s, nI_1, nI_1, nI_add0, List.getElem?_eq_getElem hi]
      dsimp only
      by_cases qq : q hl[i] = true
      · rw [if_pos qq, if_neg (by decide), if_pos qq]
      · rw [if_neg qq, if_pos rfl, if_neg qq])
    (fun n t => by
      show B_X6_burnable_19 0 (L_X6_burnable_19 0 n) (nI c) s u (nI hl.length) (nI t) (nI hl.length) w = _
      unfold B_X6_burnable_19
      rw [if_pos (Int32.le_refl _)]) 9999 (by omega)
  unfold F_X6_burnable
  have e := cn_get q hl hl.length (Nat.le_refl _)
  rw [List.take_length] at e
  rw [R_get, bd_s, q3, q1.count, ← e]
  exact (congrArg (fun o => bd o _) h).trans rfl
theorem p_burnable (hW : WF z B T) (hY : YR 0 z w) (hc : c < 5) {s : Int32} (hs : s = 0 ∨ s = 1) : F_X6_burnable 0 (nI c) s (-1) w = some (nI (cn (fun l => oB z c l && mB z l s) (gN z)), w) :=
  p_burnable_of hW hY hc s (-1) (fun l => mB z l s) (fun l hl => p_mayBurn hW hY hl hs)
theorem p_burnableC (hW : WF z B T) (hY : YR 0 z w) (hc : c < 5) {d : Nat} (hd : d < 5) {s : Int32} (hs : s = 0 ∨ s = 1) : F_X6_burnable 0 (nI c) s (nI d) w = some (nI (cn (fun l => oB z c l && mC z l s d) (gN z)), w) :=
  p_burnable_of hW hY hc s (nI d) (fun l => mC z l s d) (fun l hl => p_mayBurnC hW hY hl hd hs)
/-- the heaps together hold the leaves aside -/
theorem heaps_all (hW : WF z B T) (q : Nat → Bool) : ∀ n, n ≤ gN z → cn (fun l => oB z 0 l && q l) n + cn (fun l => oB z 1 l && q l) n + cn (fun l => oB z 2 l && q l) n + cn (fun l => oB z 3 l && q l) n + cn (fun l => oB z 4 l && q l) n = cn (fun l => decide (zL z l 1 = 1) && q l) n := by
  intro n
  induction n with
  | zero => intro _; rfl
  | succ n ih =>
    intro hn
    have ih' := ih (by omega)
    unfold cn
    by_cases a : zL z n 1 = 1
    · have hA : wA z n := by
        rcases hW.l n (by omega) with r | r | ⟨-, r⟩
        · rw [r] at a; cases a
        · rw [r] at a; cases a
        · exact r
      obtain ⟨c, s, t, r1, r2, r3, r4, r5, r6, r7⟩ := hA
      have ho : ∀ d, d < 5 → oB z d n = decide (d = c) := fun d hd => by
        rw [Bool.eq_iff_iff, oB_iff, decide_eq_true_iff, r4]
        constructor
        · rintro ⟨-, e⟩
          exact (nI_inj (by omega) (by omega) e).symm
        · intro e
          exact ⟨a, by rw [e]⟩
      rw [ho 0 (by omega), ho 1 (by omega), ho 2 (by omega), ho 3 (by omega), ho 4 (by omega), decide_eq_true a]
      by_cases qq : q n = true
      · rw [qq]
        rcases (show c = 0 ∨ c = 1 ∨ c = 2 ∨ c = 3 ∨ c = 4 by omega) with rfl | rfl | rfl | rfl | rfl <;> simp <;> omega
      · rw [Bool.eq_false_iff.mpr qq]
        simp; omega
    · have ho : ∀ d, oB z d n = false := fun d => by
        rw [Bool.eq_false_iff]
        exact fun r => a (oB_iff.mp r).1
      rw [ho, ho, ho, ho, ho, decide_eq_false a]
      simp; omega
theorem p_burnableIfRested (hW : WF z B T) (hY : YR 0 z w) (hc : c < 5) : F_X6_burnableIfRested 0 (nI c) w = some (nI (cn (fun l => decide (zL z l 1 = 1) && mC z l (z 9) c) (gN z)), w) := by
  have hs : z 9 = 0 ∨ z 9 = 1 := hW.s.2.2.2.2.2.2.2
  have h := (up_loop (fun n i s => L_X6_burnableIfRested_4 0 n (nI c) (nI s) (nI i) w) (fun d s => s + cn (fun l => oB z d l && mC z l (z 9) c) (gN z)) (fun s => ((nI s, nI 5), w)) 5 (fun _ _ => True)
    (fun n i s hi _ => ⟨by
      show B_X6_burnableIfRested_4 0 (L_X6_burnableIfRested_4 0 n) (nI c) (nI s) (nI i) w = _
      unfold B_X6_burnableIfRested_4
      rw [if_neg (lt5 hi), show w.2.1 0 2 = z 9 from hY.f.2.2.1, p_burnableC hW hY hi hc hs, bd_s, nI_1, nI_add], trivial⟩)
    (fun n s _ => by
      show B_X6_burnableIfRested_4 0 (L_X6_burnableIfRested_4 0 n) (nI c) (nI s) (nI 5) w = _
      unfold B_X6_burnableIfRested_4
      rw [if_pos (show (5 : Int32) ≤ nI 5 from Int32.le_refl _)]) 5 0 0 9999 (by omega) (by omega) trivial).1
  unfold F_X6_burnableIfRested
  refine (congrArg (fun o => bd o _) h).trans ?_
  show some (nI _, w) = _
  congr 2
  congr 1
  rw [← heaps_all hW (fun l => mC z l (z 9) c) _ (Nat.le_refl _)]
  simp only [iter, Nat.zero_add, Nat.reduceAdd]
theorem p_burnableIfAllRested (hW : WF z B T) (hB : B < 2 ^ 30) (hY : YR 0 z w) : F_X6_burnableIfAllRested 0 w = some (nI (cn (fun l => zL z l 1 == 1) (gN z)), w) := by
  have hs : z 9 = 0 ∨ z 9 = 1 := hW.s.2.2.2.2.2.2.2
  have h120 := hW.g120
  have h := cn_loop (fun n i t => L_X6_burnableIfAllRested_4 0 n (nI t) (nI i) w) (fun l => zL z l 1 == 1) (fun t => ((nI t, nI (gN z)), w)) (gN z)
    (fun n i t hi => by
      show B_X6_burnableIfAllRested_4 0 (L_X6_burnableIfAllRested_4 0 n) (nI t) (nI i) w = _
      unfold B_X6_burnableIfAllRested_4
      have hw1 : gt w 0 2 (nI i) = zL z i 1 := by rw [g_120 (by omega) rfl, (hY.l i hi).2.1]
      rw [show w.2.1 0 8 = z 1 from hY.f.2.2.2.2.2.2.2.2, hW.g, if_neg (nI_ge hi (by omega)), if_neg (lt120 (by omega)), show w.2.1 0 2 = z 9 from hY.f.2.2.1, R_get, bd_s, hw1, nI_1, nI_1, nI_add0, R_get, bd_s, R_get, bd_s, bd_s, hw1]
      by_cases q : zL z i 1 = 1
      · have hA : wA z i := by
          rcases hW.l i hi with r | r | ⟨-, r⟩
          · rw [r] at q; cases q
          · rw [r] at q; cases q
          · exact r
        obtain ⟨c, s, t', r1, r2, r3, r4, r5, r6, r7⟩ := hA
        have e9 : ¬ (w.2.1 0 0 + 2 - gt w 0 4 (nI i)) < 2 := by
          have hb := hW.s.2.1
          rw [show w.2.1 0 0 = z 0 from hY.f.1, hW.s.1, g_120 (by omega) rfl, (hY.l i hi).2.2.2.1, r5, show nI (bN z) + 2 = nI (bN z + 2) from nI_add _ 2, nI_sub (by omega)]
          exact nI_nlt (b := 2) (by omega) (by omega)
        rw [if_neg e9, if_pos q, ite_self, if_pos (beq_iff_eq.mpr q)]
      · rw [if_neg q, if_neg q, ite_self, ite_self, if_neg (fun r => q (beq_iff_eq.mp r))])
    (fun n t => by
      show B_X6_burnableIfAllRested_4 0 (L_X6_burnableIfAllRested_4 0 n) (nI t) (nI (gN z)) w = _
      unfold B_X6_burnableIfAllRested_4
      rw [show w.2.1 0 8 = z 1 from hY.f.2.2.2.2.2.2.2.2, hW.g, if_pos (Int32.le_refl _)]) 9999 (by omega)
  unfold F_X6_burnableIfAllRested
  exact (congrArg (fun o => bd o _) h).trans rfl
theorem p_mostPinned (hW : WF z B T) (hY : YR 0 z w) : F_X6_mostPinned 0 w = some ((iter (mhS z) 0 (gN z) (-1, 0)).1, w) := by
  have h120 := hW.g120
  have h := (up_loop (fun n i s => L_X6_mostPinned_6 0 n s.1 s.2 (nI i) w) (mhS z) (fun s => ((s.1, s.2, nI (gN z)), w)) (gN z) (fun _ _ => True)
    (fun n i s hi _ => ⟨by
      show B_X6_mostPinned_6 0 (L_X6_mostPinned_6 0 n) s.1 s.2 (nI i) w = _
      unfold B_X6_mostPinned_6 mhS
      rw [show w.2.1 0 8 = z 1 from hY.f.2.2.2.2.2.2.2.2, hW.g, if_neg (nI_ge hi (by omega)), if_neg (lt120 (by omega)), p_pinsOn hY (by omega), bd_s, nI_1]
      by_cases q : nI (cn (hB z 2 (nI i)) 15) ≤ s.2
      · rw [if_pos q, if_pos q]
      · rw [if_neg q, if_neg q], trivial⟩)
    (fun n s _ => by
      show B_X6_mostPinned_6 0 (L_X6_mostPinned_6 0 n) s.1 s.2 (nI (gN z)) w = _
      unfold B_X6_mostPinned_6
      rw [show w.2.1 0 8 = z 1 from hY.f.2.2.2.2.2.2.2.2, hW.g, if_pos (Int32.le_refl _)]) (gN z) 0 (-1, 0) 9999 (by omega) (by omega) trivial).1
  unfold F_X6_mostPinned
  exact (congrArg (fun o => bd o _) h).trans rfl
theorem p_freedBy {l0 : Nat} (hW : WF z B T) (hY : YR 0 z w) (hc : c < 5) (hh : h < 3) (hl : zH z c h 0 = 2 → zH z c h 1 = nI l0 ∧ l0 < gN z) : F_X6_freedBy 0 (nI c) (nI h) w = some (if zH z c h 0 = 2 ∧ zL z l0 1 = 1 ∧ cn (hB z 2 (nI l0)) 15 = 1 then 1 else 0, w) := by
  have h120 := hW.g120
  unfold F_X6_freedBy
  rw [p_leafOf hW hY hc hh, bd_s, p_kindOf hW hY hc hh, bd_s]
  by_cases q : zH z c h 0 = 2
  · obtain ⟨e1, e2⟩ := hl q
    have hle := cn_le (hB z 2 (nI l0)) 15
    rw [if_pos q, e1, R_get, bd_s, g_120 (by omega) rfl, (hY.l l0 e2).2.1]
    by_cases q2 : zL z l0 1 = 1
    · rw [if_pos q2, p_pinsOn hY (by omega), bd_s]
      by_cases q3 : cn (hB z 2 (nI l0)) 15 = 1
      · rw [q3, if_pos (by rfl), if_pos ⟨q, q2, rfl⟩]
      · rw [if_neg (show ¬ nI (cn (hB z 2 (nI l0)) 15) = 1 from fun r => q3 (nI_inj (b := 1) (by omega) (by omega) r)), if_neg (fun r => q3 r.2.2)]
    · rw [if_neg q2, if_neg (fun r => q2 r.2.1)]
  · rw [if_neg q, if_neg (fun r => q r.1)]
theorem p_whyNotBurnt (hW : WF z B T) (hY : YR 0 z w) (hl : l < gN z) : F_X6_whyNotBurnt 0 (nI l) w = some (if zL z l 1 = 2 then 0 else if zL z l 1 = 0 then 1 else if mB z l (z 9) then 3 else 2, w) := by
  have h120 := hW.g120
  have hs : z 9 = 0 ∨ z 9 = 1 := hW.s.2.2.2.2.2.2.2
  unfold F_X6_whyNotBurnt
  rw [R_get, bd_s, g_120 (by omega) rfl, (hY.l l hl).2.1]
  by_cases q : zL z l 1 = 2
  · rw [if_pos q, if_pos q]
  · rw [if_neg q, if_neg q]
    by_cases q2 : zL z l 1 = 0
    · rw [if_pos q2, if_pos q2]
    · rw [if_neg q2, if_neg q2, show w.2.1 0 2 = z 9 from hY.f.2.2.1, p_mayBurn hW hY hl hs, bd_s]
      by_cases q3 : mB z l (z 9) = true
      · rw [if_pos q3, if_neg (by decide), if_pos q3]
      · rw [if_neg q3, if_pos rfl, if_neg q3]
end PB

