/-! the law's counts over all that is aside -/
theorem rP.nodup {z : Nat → Int32} {R : Nat → Nat → Int32} {hp : List Nat} (h : rP z R hp) : hp.Nodup := by
  refine List.Pairwise.imp (fun {a b} q e => ?_) h.2.1
  subst e
  exact Nat.lt_irrefl _ q
theorem rP.count {z : Nat → Int32} {R : Nat → Nat → Int32} {hp : List Nat} (h : rP z R hp) (q : Nat → Bool) : cn (fun l => decide (zL z l 1 = 1) && q l) (gN z) = hp.countP q := by
  rw [← cn_list q (gN z) hp h.nodup (fun l hl => ((h.1 l).mp hl).1)]
  refine cn_congr fun l hl => ?_
  have : decide (l ∈ hp) = decide (zL z l 1 = 1) := by
    rw [Bool.eq_iff_iff, decide_eq_true_iff, decide_eq_true_iff]
    exact ⟨fun q => ((h.1 l).mp q).2, fun q => (h.1 l).mpr ⟨hl, q⟩⟩
  rw [this]
theorem rP.len {z : Nat → Int32} {R : Nat → Nat → Int32} {hp : List Nat} (h : rP z R hp) : cn (fun l => zL z l 1 == 1) (gN z) = hp.length := by
  have := h.count (fun _ => true)
  rw [List.countP_true] at this
  rw [← this]
  refine cn_congr fun l _ => ?_
  rw [Bool.and_true, Bool.eq_iff_iff]
  simp
theorem rP.le {z : Nat → Int32} {R : Nat → Nat → Int32} {hp : List Nat} (h : rP z R hp) : hp.length ≤ gN z := by
  rw [← h.len]
  exact cn_le _ _
theorem rP.heap {z : Nat → Int32} {R : Nat → Nat → Int32} {hp : List Nat} (h : rP z R hp) (c : Nat) : HL z c (hp.filter (fun l => oB z c l)) := by
  refine ⟨fun l => ?_, h.2.1.filter _⟩
  rw [List.mem_filter, h.1 l]
  constructor
  · rintro ⟨⟨q1, -⟩, q2⟩; exact ⟨q1, q2⟩
  · rintro ⟨q1, q2⟩; exact ⟨⟨q1, (oB_iff.mp q2).1⟩, q2⟩
theorem rP.cntB {z : Nat → Int32} {R : Nat → Nat → Int32} {hp : List Nat} (h : rP z R hp) (c : Nat) (q : Nat → Bool) : hp.countP (fun l => oB z c l && q l) = cn (fun l => oB z c l && q l) (gN z) := by
  rw [← h.count]
  refine cn_congr fun l _ => ?_
  by_cases e : oB z c l = true
  · rw [(oB_iff.mp e).1]; simp
  · rw [Bool.eq_false_iff.mpr e]; simp
/-- the count over places -/
theorem cn_all_get (q : Nat → Bool) (hp : List Nat) : cn (fun i => match hp[i]? with | some l => q l | none => false) hp.length = hp.countP q := by
  exact (cn_get q hp hp.length (Nat.le_refl _)).trans (by rw [List.take_length])
/-- lists in one order with the same members are the same -/
theorem sorted_eq {f : Nat → Nat} : ∀ (a b : List Nat), a.Pairwise (fun x y => f x < f y) → b.Pairwise (fun x y => f x < f y) → (∀ x, x ∈ a ↔ x ∈ b) → a = b := by
  intro a
  induction a with
  | nil =>
    intro b _ _ h
    cases b with
    | nil => rfl
    | cons y b => exact absurd ((h y).mpr List.mem_cons_self) List.not_mem_nil
  | cons x a ih =>
    intro b ha hb h
    cases b with
    | nil => exact absurd ((h x).mp List.mem_cons_self) List.not_mem_nil
    | cons y b =>
      obtain ⟨a1, a2⟩ := List.pairwise_cons.mp ha
      obtain ⟨b1, b2⟩ := List.pairwise_cons.mp hb
      have e : x = y := by
        rcases List.mem_cons.mp ((h x).mp List.mem_cons_self) with q | q
        · exact q
        · rcases List.mem_cons.mp ((h y).mpr List.mem_cons_self) with r | r
          · exact r.symm
          · have := b1 x q
            have := a1 y r
            omega
      subst e
      rw [ih b a2 b2 (fun w => ?_)]
      constructor
      · intro q
        rcases List.mem_cons.mp ((h w).mp (List.mem_cons_of_mem _ q)) with r | r
        · rw [r] at q; exact absurd (a1 x q) (Nat.lt_irrefl _)
        · exact r
      · intro q
        rcases List.mem_cons.mp ((h w).mpr (List.mem_cons_of_mem _ q)) with r | r
        · rw [r] at q; exact absurd (b1 x q) (Nat.lt_irrefl _)
        · exact r
theorem HL.uniq {z : Nat → Int32} {c : Nat} {a b : List Nat} (ha : HL z c a) (hb : HL z c b) : a = b :=
  sorted_eq a b ha.2 hb.2 (fun x => (ha.1 x).trans (hb.1 x).symm)
section LC
variable {z : Nat → Int32} {w : xWt} {B T c l h b : Nat} {hp : List Nat}
theorem l_hp (hP : rP z (w.1 10) hp) (hn : gN z ≤ 40) {i : Nat} (hi : i < hp.length) {β : Type} (f : Int32 → Option β) : ∃ l, hp[i]? = some l ∧ l < gN z ∧ zL z l 1 = 1 ∧ ald w 10 3 (nI i) f = f (nI l) := by
  have hle := hP.le
  refine ⟨hp[i], List.getElem?_eq_getElem hi, ((hP.1 _).mp (List.getElem_mem hi)).1, ((hP.1 _).mp (List.getElem_mem hi)).2, ?_⟩
  rw [a3 (by omega), hP.2.2.2 i _ (List.getElem?_eq_getElem hi)]
theorem l_heap (hW : WF z B T) (hB : B < 2 ^ 18) (hR : LR z (w.1 10)) (hc : c < 5) : F_L_heap (nI c) w = some (nI (hN z c), w) := by
  obtain ⟨hp, hP⟩ := hR.p
  have hle := hP.le
  have hn := hR.n
  have h := cn_loop (fun n i s => L_L_heap_6 n (nI c) (nI s) (nI i) w) (fun i => match hp[i]? with | some l => oB z c l | none => false) (fun s => ((nI s, nI hp.length), w)) hp.length
    (fun n i s hi => by
      obtain ⟨l, e1, e2, e3, e4⟩ := l_hp hP hn hi (fun x2 => bd (F_L_where x2 w) (fun x4 w3 => bd (α := Int32) ((if x4 = nI c then some (1, w3) else some (0, w3))) (fun o6 w5 => L_L_heap_6 n (nI c) (nI s + o6) (nI i + 1) w5)))
      show B_L_heap_6 (L_L_heap_6 n) (nI c) (nI s) (nI i) w = _
      unfold B_L_heap_6
      rw [a0_9, hP.2.2.1, if_neg (nI_ge hi (by omega)), e4, l_wh hW hB hR e2, bd_s, nI_1, e1]
      by_cases q : oB z c l = true
      · rw [if_pos ((wh_c hW e2 hc).mpr q), bd_s, nI_1, if_pos q]
      · rw [if_neg (fun r => q ((wh_c hW e2 hc).mp r)), bd_s, nI_add0, if_neg q])
    (fun n s => by
      show B_L_heap_6 (L_L_heap_6 n) (nI c) (nI s) (nI hp.length) w = _
      unfold B_L_heap_6
      rw [a0_9, hP.2.2.1, if_pos (Int32.le_refl _)]) 9999 (by omega)
  have e : hp.countP (fun l => oB z c l) = hN z c := by
    unfold hN
    rw [(hP.heap c).len, ← List.countP_eq_length_filter]
  rw [cn_all_get, e] at h
  unfold F_L_heap
  exact (congrArg (fun o => bd o _) h).trans rfl
theorem l_burns (hW : WF z B T) (hB : B < 2 ^ 18) (hR : LR z (w.1 10)) (hc : c < 5) {s : Int32} (hs : s = 0 ∨ s = 1) : F_L_burns (nI c) s w = some (nI (cn (fun l => oB z c l && mB z l s) (gN z)), w) := by
  obtain ⟨hp, hP⟩ := hR.p
  have hle := hP.le
  have hn := hR.n
  have h := cn_loop (fun n i t => L_L_burns_6 n (nI c) s (nI t) (nI i) w) (fun i => match hp[i]? with | some l => oB z c l && mB z l s | none => false) (fun t => ((nI t, nI hp.length), w)) hp.length
    (fun n i t hi => by
      obtain ⟨l, e1, e2, e3, -⟩ := l_hp (β := Unit) hP hn hi (fun _ => none)
      have e4 : ∀ {β : Type} (f : Int32 → Option β), ald w 10 3 (nI i) f = f (nI l) := fun f => by rw [a3 (by omega), hP.2.2.2 i l e1]
      show B_L_burns_6 (L_L_burns_6 n) (nI c) s (nI t) (nI i) w = _
      unfold B_L_burns_6
      rw [a0_9, hP.2.2.1, if_neg (nI_ge hi (by omega)), e4, l_wh hW hB hR e2, bd_s, nI_1, e1]
      by_cases q : oB z c l = true
      · rw [if_pos ((wh_c hW e2 hc).mpr q), e4, l_may hW hB hR e2 hs (Or.inr e3), bd_s]
        by_cases q2 : mB z l s = true
        · rw [if_pos q2, if_neg (by decide), bd_s, nI_1, if_pos (by simp [q, q2])]
        · rw [if_neg q2, if_pos rfl, bd_s, nI_add0, if_neg (by simp [q2])]
      · rw [if_neg (fun r => q ((wh_c hW e2 hc).mp r)), bd_s, nI_add0, if_neg (by simp [q])])
    (fun n t => by
      show B_L_burns_6 (L_L_burns_6 n) (nI c) s (nI t) (nI hp.length) w = _
      unfold B_L_burns_6
      rw [a0_9, hP.2.2.1, if_pos (Int32.le_refl _)]) 9999 (by omega)
  rw [cn_all_get, hP.cntB c (fun l => mB z l s)] at h
  unfold F_L_burns
  exact (congrArg (fun o => bd o _) h).trans rfl
theorem z_ch (hW : WF z B T) (hc : c < 5) : zC z c 0 = nI (if ch z c then 1 else 0) := by
  unfold ch
  rcases hW.th hc with q | q
  · rw [q]; rfl
  · rw [q]; rfl
theorem l_children (hW : WF z B T) (hR : LR z (w.1 10)) : F_L_children w = some (nI (cn (ch z) 5), w) := by
  have h := cn_loop (fun n i s => L_L_children_4 n (nI s) (nI i) w) (ch z) (fun s => ((nI s, nI 5), w)) 5
    (fun n i s hi => by
      show B_L_children_4 (L_L_children_4 n) (nI s) (nI i) w = _
      unfold B_L_children_4
      rw [if_neg (lt5 hi), ix60, a4 (by omega), (hR.c i hi).1, z_ch hW hi, nI_add, nI_1]
      by_cases q : ch z i = true
      · rw [if_pos q, if_pos q]
      · rw [if_neg q, if_neg q]; rfl)
    (fun n s => by
      show B_L_children_4 (L_L_children_4 n) (nI s) (nI 5) w = _
      unfold B_L_children_4
      rw [if_pos (show (5 : Int32) ≤ nI 5 from Int32.le_refl _)]) 9999 (by omega)
  unfold F_L_children
  exact (congrArg (fun o => bd o _) h).trans rfl
theorem yI_iff : yI z c = true ↔ zC z c 1 = 1 := by unfold yI; simp
theorem l_late (hR : LR z (w.1 10)) : F_L_late w = some (mk (lO z) 5, w) := by
  have h := (up_loop (fun n i s => L_L_late_4 n s (nI i) w) (fun c s => s ||| (if lO z c then bit c else 0)) (fun s => ((s, nI 5), w)) 5 (fun c s => s = mk (lO z) c)
    (fun n i s hi hI => ⟨by
      obtain ⟨r0, r1, r2, -⟩ := hR.c i hi
      show B_L_late_4 (L_L_late_4 n) s (nI i) w = _
      unfold B_L_late_4 lO
      rw [if_neg (lt5 hi), ix60, nI_1 (6 * i), a4 (by omega), r1, nI_1]
      by_cases q : zC z i 1 = 1
      · rw [if_pos q, show nI (6 * i) + 2 = nI (6 * i + 2) from nI_add _ 2, a4 (by omega), r2, a0_0, hR.g.1]
        by_cases q2 : zC z i 2 = z 0
        · rw [if_pos q2, bd_s, if_neg (by simp [q2])]
        · rw [if_neg q2, bd_s, if_pos (by simp [yI_iff.mpr q, q2])]; rfl
      · rw [if_neg q, bd_s, if_neg (by simp [show yI z i = false from Bool.eq_false_iff.mpr (fun r => q (yI_iff.mp r))])], by rw [hI]; rfl⟩)
    (fun n s _ => by
      show B_L_late_4 (L_L_late_4 n) s (nI 5) w = _
      unfold B_L_late_4
      rw [if_pos (show (5 : Int32) ≤ nI 5 from Int32.le_refl _)]) 5 0 0 9999 (by omega) (by omega) rfl)
  have h2 : L_L_late_4 9999 0 0 w = some ((mk (lO z) 5, nI 5), w) := by
    have := h.1
    rw [h.2] at this
    exact this
  unfold F_L_late
  rw [h2]
  rfl
end LC
