/-! what the law reads of children -/
section LH
variable {z : Nat → Int32} {w : xWt} {B T c l h b : Nat} {hp hl : List Nat}
theorem x_hook (hW : WF z B T) (hY : YR 0 z w) (hc : c < 5) (ht : zC z c 0 = 1) (hh : h < 3) {k : Nat} (hk : k < 3) : F_X7_hook (nI c) (nI h) (nI k) w = some (.inl (zH z c h k), w) := by
  unfold F_X7_hook
  rw [p_needHookY hY hc ht hh, bx_l, show F_X7_needWhat (nI k) 2 w = some (.inl (), w) from p_needWhatY (N := 2) (by omega) (by decide), bx_l, p_numberOfHook hW hY hc hh hk, bd_s]
theorem x_hook0 (hW : WF z B T) (hY : YR 0 z w) (hc : c < 5) (ht : zC z c 0 = 1) (hh : h < 3) : F_X7_hook (nI c) (nI h) 0 w = some (.inl (zH z c h 0), w) := x_hook hW hY hc ht hh (k := 0) (by decide)
theorem x_hook1 (hW : WF z B T) (hY : YR 0 z w) (hc : c < 5) (ht : zC z c 0 = 1) (hh : h < 3) : F_X7_hook (nI c) (nI h) 1 w = some (.inl (zH z c h 1), w) := x_hook hW hY hc ht hh (k := 1) (by decide)
theorem x_hook2 (hW : WF z B T) (hY : YR 0 z w) (hc : c < 5) (ht : zC z c 0 = 1) (hh : h < 3) : F_X7_hook (nI c) (nI h) 2 w = some (.inl (zH z c h 2), w) := x_hook hW hY hc ht hh (k := 2) (by decide)
theorem x_freed0 (hW : WF z B T) (hY : YR 0 z w) (hc : c < 5) (ht : zC z c 0 = 1) (hh : h < 3) (hk : zH z c h 0 ≠ 2) : F_X7_ifLoosened (nI c) (nI h) w = some (.inl 0, w) := by
  unfold F_X7_ifLoosened
  rw [p_needHookY hY hc ht hh, bx_l, p_freedBy (l0 := 0) hW hY hc hh (fun q => absurd q hk), bd_s, if_neg (fun q => hk q.1)]
theorem x_freed2 (hW : WF z B T) (hY : YR 0 z w) (hc : c < 5) (ht : zC z c 0 = 1) (hh : h < 3) (hk : zH z c h 0 = 2) (h1 : zH z c h 1 = nI l) (hl : l < gN z) : F_X7_ifLoosened (nI c) (nI h) w = some (.inl (if zL z l 1 = 1 ∧ cn (hB z 2 (nI l)) 15 = 1 then 1 else 0), w) := by
  unfold F_X7_ifLoosened
  rw [p_needHookY hY hc ht hh, bx_l, p_freedBy (l0 := l) hW hY hc hh (fun _ => ⟨h1, hl⟩), bd_s]
  by_cases q : zL z l 1 = 1 ∧ cn (hB z 2 (nI l)) 15 = 1
  · rw [if_pos ⟨hk, q.1, q.2⟩, if_pos q]
  · rw [if_neg (fun r => q r.2), if_neg q]
theorem l_frees (hW : WF z B T) (h18 : B < 2 ^ 18) (hR : LR z (w.1 10)) (hl : l < gN z) : bd (F_L_where (nI l) w) (fun x6 w5 => (if x6 < 0 then some ((0 : Int32), w5) else bd (F_L_pins (nI l) 2 (-1) w5) (fun x8 w7 => (if x8 = 1 then some (1, w7) else some (0, w7))))) = some (if zL z l 1 = 1 ∧ cn (hB z 2 (nI l)) 15 = 1 then 1 else 0, w) := by
  have hle := cn_le (hB z 2 (nI l)) 15
  rw [l_wh hW h18 hR hl, bd_s]
  by_cases q : zL z l 1 = 1
  · rw [if_neg (Int32.not_lt.mpr ((wh_pos hW hl).mpr q)), l_pins hR.k, pn9, bd_s]
    by_cases q2 : cn (hB z 2 (nI l)) 15 = 1
    · rw [q2, if_pos (show nI 1 = 1 from rfl), if_pos ⟨q, rfl⟩]
    · rw [if_neg (show ¬ nI (cn (hB z 2 (nI l)) 15) = 1 from fun r => q2 (nI_inj (b := 1) (by omega) (by omega) r)), if_neg (fun r => q2 r.2)]
  · rw [if_pos (Int32.not_le.mp (fun r => q ((wh_pos hW hl).mp r))), if_neg (fun r => q r.1)]
theorem l_isChild9 (hW : WF z B T) (h18 : B < 2 ^ 18) (hY : YR 0 z w) (hR : LR z (w.1 10)) (hc : c < 5) (ht : zC z c 0 = 1) : L_L_isChild_9 9999 (nI c) 0 0 0 w = some ((nI (cn (fun h => zH z c h 0 == 2) 3), nI (cn (fun h => zH z c h 0 == 1) 3), nI 3), w) := by
  have h := up_loop (fun n i (s : Nat × Nat) => L_L_isChild_9 n (nI c) (nI s.1) (nI s.2) (nI i) w) (fun i s => (s.1 + (if zH z c i 0 == 2 then 1 else 0), s.2 + (if zH z c i 0 == 1 then 1 else 0))) (fun s => ((nI s.1, nI s.2, nI 3), w)) 3 (fun i s => s = (cn (fun h => zH z c h 0 == 2) i, cn (fun h => zH z c h 0 == 1) i))
    (fun n i s hi hI => ⟨by
      obtain ⟨r0, r1⟩ := hR.k c i hc hi
      show B_L_isChild_9 (L_L_isChild_9 n) (nI c) (nI s.1) (nI s.2) (nI i) w = _
      unfold B_L_isChild_9
      rw [if_neg (lt3 hi), ix62, nI_1 (6 * c + 2 * i), a5 (by omega), a5 (by omega), r0, r1]
      rcases hW.h c i hc hi with ⟨k0, k1, k2⟩ | ⟨k0, l, b, hl, hb, k1, k2⟩ | ⟨k0, l, hl, k1, k2⟩
      · have n2 : ¬ zH z c i 0 = 2 := by rw [k0]; decide
        have n1 : ¬ zH z c i 0 = 1 := by rw [k0]; decide
        rw [if_neg n2, bd_s, if_neg n2, bd_s, if_neg n1, bd_s, x_hook0 hW hY hc ht hi, bi_l, if_pos rfl, x_hook1 hW hY hc ht hi, bi_l, if_pos rfl, x_hook2 hW hY hc ht hi, bi_l, if_neg n1, bd_s, if_pos k2, x_freed0 hW hY hc ht hi n2, bi_l, if_pos rfl, bd_s, if_pos rfl, nI_1, if_neg (by simp [n2]), if_neg (by simp [n1]), nI_add0, nI_add0]
        rfl
      · have n2 : ¬ zH z c i 0 = 2 := by rw [k0]; decide
        have e2 : zH z c i 2 = zL z l 2 := by
          have := hR.e.1 c i hc hi k0
          rwa [k1, nI_clamp (by have := hR.n; omega)] at this
        rw [if_neg n2, bd_s, if_neg n2, bd_s, if_pos k0, bd_s, x_hook0 hW hY hc ht hi, bi_l, if_pos rfl, x_hook1 hW hY hc ht hi, bi_l, if_pos rfl, x_hook2 hW hY hc ht hi, bi_l, if_pos k0, k1, l_br hW h18 hR hl, bd_s, bd_s, if_pos e2, x_freed0 hW hY hc ht hi n2, bi_l, if_pos rfl, bd_s, if_pos rfl, nI_1, nI_1, if_neg (by simp [n2]), if_pos (by simp [k0]), nI_add0]
        rfl
      · have n1 : ¬ zH z c i 0 = 1 := by rw [k0]; decide
        rw [if_pos k0, k1, l_frees hW h18 hR hl, bd_s, if_pos k0, bd_s, if_neg n1, bd_s, x_hook0 hW hY hc ht hi, bi_l, if_pos rfl, x_hook1 hW hY hc ht hi, bi_l, if_pos k1, x_hook2 hW hY hc ht hi, bi_l, if_neg n1, bd_s, if_pos k2, x_freed2 hW hY hc ht hi k0 k1 hl, bi_l]
        by_cases q : zL z l 1 = 1 ∧ cn (hB z 2 (nI l)) 15 = 1
        · rw [if_pos q, if_neg (show ¬ (1 : Int32) = 0 by decide), bd_s, if_pos rfl, nI_1, nI_1, if_pos (by simp [k0]), if_neg (by simp [n1]), nI_add0]
          rfl
        · rw [if_neg q, if_pos rfl, bd_s, if_pos rfl, nI_1, nI_1, if_pos (by simp [k0]), if_neg (by simp [n1]), nI_add0]
          rfl, by rw [hI]; rfl⟩)
    (fun n s _ => by
      show B_L_isChild_9 (L_L_isChild_9 n) (nI c) (nI s.1) (nI s.2) (nI 3) w = _
      unfold B_L_isChild_9
      rw [if_pos (show (3 : Int32) ≤ nI 3 from Int32.le_refl _)]) 3 0 (0, 0) 9999 (by omega) (by omega) rfl
  have h1 := h.1
  rw [h.2] at h1
  exact h1
theorem x_heapG (hW : WF z B T) (hY : YR 0 z w) (hc : c < 5) (ht : zC z c 0 = 1) (hH : HL z c hl) {p : Nat} (hp : p < 2 ^ 31) : F_X7_heap (nI c) (nI p) w = some (.inl (at9 hl (nI p)), w) := by
  obtain ⟨hl', q1, q2, q3, q4⟩ := p_heap hW hY hc
  have e := HL.uniq q1 hH
  subst e
  unfold F_X7_heap
  rw [p_needChildY hY hc ht, bx_l, if_pos (nI_pos' hp), p_leafOnHeap hc q2 q3 q4, bd_s]
theorem flt_get (p : Nat → Bool) (hp : List Nat) {k x : Nat} (hk : hp[k]? = some x) (hx : p x = true) : (hp.filter p)[((hp.take k).filter p).length]? = some x := by
  have hlt := (List.getElem?_eq_some_iff.mp hk).1
  have hd : hp.drop k = x :: hp.drop (k + 1) := by
    rw [List.drop_eq_getElem_cons hlt]
    congr 1
    exact (List.getElem?_eq_some_iff.mp hk).2
  have e : hp.filter p = (hp.take k).filter p ++ (x :: (hp.drop (k + 1)).filter p) := by
    conv => lhs; rw [← List.take_append_drop k hp, hd]
    rw [List.filter_append, List.filter_cons_of_pos hx]
  rw [e, List.getElem?_append_right (Nat.le_refl _), Nat.sub_self]
  rfl
theorem at9_some {p x : Nat} (hp : p < 2 ^ 31) (h : hl[p]? = some x) : at9 hl (nI p) = nI x := by
  unfold at9
  rw [if_neg (nI_pos hp), nI_clamp hp, h]
theorem at9_end (hp : hl.length < 2 ^ 31) : at9 hl (nI hl.length) = -1 := by
  unfold at9
  rw [if_neg (nI_pos hp), nI_clamp hp, List.getElem?_eq_none (Nat.le_refl _)]
theorem l_isChild202 (hW : WF z B T) (h18 : B < 2 ^ 18) (hY : YR 0 z w) (hR : LR z (w.1 10)) (hc : c < 5) (ht : zC z c 0 = 1) (a b : Int32) : ∃ j, L_L_isChild_202 9999 (nI c) a b 0 0 0 w = some ((nI (hN z c), nI (cn (fun l => decide (zL z l 1 = 1) && mC z l (z 9) c) (gN z)), j), w) := by
  obtain ⟨hp, hP⟩ := hR.p
  have hle := hP.le
  have hn := hR.n
  have hH := hP.heap c
  have h := up_loop (fun n i (s : Nat × Nat) => L_L_isChild_202 n (nI c) a b (nI s.1) (nI s.2) (nI i) w) (fun i s => match hp[i]? with | some l => (if oB z c l then s.1 + 1 else s.1, if mC z l (z 9) c then s.2 + 1 else s.2) | none => s) (fun s => ((nI s.1, nI s.2, nI hp.length), w)) hp.length (fun i s => s.1 = ((hp.take i).filter (fun l => oB z c l)).length ∧ s.2 = (hp.take i).countP (fun l => mC z l (z 9) c))
    (fun n i s hi hI => by
      obtain ⟨l, e1, e2, e3, -⟩ := l_hp (β := Unit) hP hn hi (fun _ => none)
      have e4 : ∀ {β : Type} (f : Int32 → Option β), ald w 10 3 (nI i) f = f (nI l) := fun f => by rw [a3 (by omega), hP.2.2.2 i l e1]
      have hs1 : s.1 < 2 ^ 31 := by
        have := List.length_filter_le (fun l => oB z c l) (hp.take i)
        have := List.length_take_le i hp
        omega
      rw [e1]
      refine ⟨?_, ?_⟩
      · show B_L_isChild_202 (L_L_isChild_202 n) (nI c) a b (nI s.1) (nI s.2) (nI i) w = _
        unfold B_L_isChild_202
        rw [a0_9, hP.2.2.1, if_neg (nI_ge hi (by omega)), e4, a0_8, hR.g.2.2.2.2.2.2.2.2, l_mayC hW h18 hR e2 hc (z9 hW) (Or.inr e3), bd_s]
        have hm : (if (if mC z l (z 9) c = true then (1 : Int32) else 0) = 0 then some ((0 : Int32), w) else some (1, w)) = some (if mC z l (z 9) c = true then 1 else 0, w) := by
          by_cases q : mC z l (z 9) c = true
          · rw [if_pos q, if_neg (by decide)]
          · rw [if_neg q, if_pos rfl]
        have hs : nI s.2 + (if mC z l (z 9) c = true then (1 : Int32) else 0) = nI (if mC z l (z 9) c = true then s.2 + 1 else s.2) := by
          by_cases q : mC z l (z 9) c = true
          · rw [if_pos q, if_pos q, nI_1]
          · rw [if_neg q, if_neg q, nI_add0]
        rw [hm, bd_s, e4, l_wh hW h18 hR e2, bd_s, hs, nI_1]
        by_cases q : oB z c l = true
        · have e5 := flt_get (fun l => oB z c l) hp e1 q
          rw [← hI.1] at e5
          rw [if_pos ((wh_c hW e2 hc).mpr q), x_heapG hW hY hc ht hH hs1, bi_l, e4, at9_some hs1 e5, if_pos rfl, bd_s, nI_1]
          dsimp only
          rw [if_pos q]
        · rw [if_neg (fun r => q ((wh_c hW e2 hc).mp r)), bd_s, nI_1]
          dsimp only
          rw [if_neg q]
      · have htk : hp.take (i + 1) = hp.take i ++ [l] := by
          rw [List.take_succ, e1]
          rfl
        rw [htk, List.filter_append, List.countP_append, List.length_append, ← hI.1, ← hI.2]
        refine ⟨?_, ?_⟩
        · by_cases q : oB z c l = true
          · simp [q]
          · simp [q]
        · by_cases q : mC z l (z 9) c = true
          · simp [q]
          · simp [q])
    (fun n s _ => by
      show B_L_isChild_202 (L_L_isChild_202 n) (nI c) a b (nI s.1) (nI s.2) (nI hp.length) w = _
      unfold B_L_isChild_202
      rw [a0_9, hP.2.2.1, if_pos (Int32.le_refl _)]) hp.length 0 (0, 0) 9999 (by omega) (by omega) ⟨rfl, rfl⟩
  obtain ⟨h1, h2, h3⟩ := h
  rw [h2, h3, List.take_length] at h1
  refine ⟨nI hp.length, ?_⟩
  have e1 : (hp.filter (fun l => oB z c l)).length = hN z c := hH.len.symm
  have e2 : hp.countP (fun l => mC z l (z 9) c) = cn (fun l => decide (zL z l 1 = 1) && mC z l (z 9) c) (gN z) := (hP.count _).symm
  rw [e1, e2] at h1
  exact h1
theorem x_child (hW : WF z B T) (hY : YR 0 z w) (hc : c < 5) (ht : zC z c 0 = 1) {k : Nat} (hk : k < 8) : F_X7_child (nI c) (nI k) w = some (.inl (childV z c k), w) := by
  unfold F_X7_child
  rw [p_needChildY hY hc ht, bx_l, show F_X7_needWhat (nI k) 7 w = some (.inl (), w) from p_needWhatY (N := 7) (by omega) (by decide), bx_l, p_childV hW hY hc ht hk, bd_s]
theorem x_rested (hW : WF z B T) (hY : YR 0 z w) (hc : c < 5) (ht : zC z c 0 = 1) : F_X7_ifRested (nI c) w = some (.inl (nI (cn (fun l => decide (zL z l 1 = 1) && mC z l (z 9) c) (gN z))), w) := by
  unfold F_X7_ifRested
  rw [p_needChildY hY hc ht, bx_l, p_burnableIfRested hW hY hc, bd_s]
theorem l_isChild (hW : WF z B T) (h18 : B < 2 ^ 18) (hY : YR 0 z w) (hR : LR z (w.1 10)) (hc : c < 5) (ht : zC z c 0 = 1) : F_L_isChild (nI c) w = some (1, w) := by
  obtain ⟨r0, r1, r2, r3⟩ := hR.c c hc
  obtain ⟨r3, r4, r5⟩ := r3 ht
  obtain ⟨j, hj⟩ := l_isChild202 hW h18 hY hR hc ht (nI (cn (fun h => zH z c h 0 == 2) 3)) (nI (cn (fun h => zH z c h 0 == 1) 3))
  obtain ⟨hp, hP⟩ := hR.p
  have hH := hP.heap c
  have hnl : (hp.filter (fun l => oB z c l)).length = hN z c := hH.len.symm
  have hle := hN_le z c
  have h120 := hW.g120
  have e9 : F_X7_heap (nI c) (nI (hN z c)) w = some (.inl (-1), w) := by
    rw [x_heapG hW hY hc ht hH (by omega), ← hnl, at9_end (by omega)]
  have c0 : F_X7_child (nI c) 0 w = some (.inl (zC z c 1), w) := x_child hW hY hc ht (k := 0) (by decide)
  have c1 : F_X7_child (nI c) 1 w = some (.inl (zC z c 2), w) := x_child hW hY hc ht (k := 1) (by decide)
  have c2 : F_X7_child (nI c) 2 w = some (.inl (nI (cn (fun h => zH z c h 0 == 2) 3)), w) := x_child hW hY hc ht (k := 2) (by decide)
  have c3 : F_X7_child (nI c) 3 w = some (.inl (nI (cn (fun h => zH z c h 0 == 1) 3)), w) := x_child hW hY hc ht (k := 3) (by decide)
  have c4 : F_X7_child (nI c) 4 w = some (.inl (nI (hN z c)), w) := x_child hW hY hc ht (k := 4) (by decide)
  have c5 : F_X7_child (nI c) 5 w = some (.inl (zC z c 3), w) := x_child hW hY hc ht (k := 5) (by decide)
  have c6 : F_X7_child (nI c) 6 w = some (.inl (zC z c 4), w) := x_child hW hY hc ht (k := 6) (by decide)
  have c7 : F_X7_child (nI c) 7 w = some (.inl (zC z c 5), w) := x_child hW hY hc ht (k := 7) (by decide)
  have x1 : ∀ {β : Type} (f : Int32 → Option β), ald w 10 4 ((6 * nI c) + 1) f = f (zC z c 1) := fun f => by rw [ix60, nI_1, a4 (by omega), r1]
  have x2 : ∀ {β : Type} (f : Int32 → Option β), ald w 10 4 ((6 * nI c) + 2) f = f (zC z c 2) := fun f => by rw [show (6 * nI c) + 2 = nI (6 * c + 2) from ix6 c 2, a4 (by omega), r2]
  have x3 : ∀ {β : Type} (f : Int32 → Option β), ald w 10 4 ((6 * nI c) + 3) f = f (zC z c 3) := fun f => by rw [show (6 * nI c) + 3 = nI (6 * c + 3) from ix6 c 3, a4 (by omega), r3]
  have x4 : ∀ {β : Type} (f : Int32 → Option β), ald w 10 4 ((6 * nI c) + 4) f = f (zC z c 4) := fun f => by rw [show (6 * nI c) + 4 = nI (6 * c + 4) from ix6 c 4, a4 (by omega), r4]
  have x5 : ∀ {β : Type} (f : Int32 → Option β), ald w 10 4 ((6 * nI c) + 5) f = f (zC z c 5) := fun f => by rw [show (6 * nI c) + 5 = nI (6 * c + 5) from ix6 c 5, a4 (by omega), r5]
  unfold F_L_isChild
  rw [l_isChild9 hW h18 hY hR hc ht, bd_s]
  dsimp only
  rw [hj, bd_s, c0, bi_l, x1, if_pos rfl, c1, bi_l, x2, if_pos rfl, c2, bi_l, if_pos rfl, c3, bi_l, if_pos rfl, c4, bi_l, if_pos rfl, c5, bi_l, x3, if_pos rfl, c6, bi_l, x4, if_pos rfl, c7, bi_l, x5, if_pos rfl, e9, bi_l, if_pos rfl, x_rested hW hY hc ht, bi_l, if_pos rfl]
end LH
