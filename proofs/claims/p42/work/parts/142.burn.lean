/-! a heap raked: what is burnt -/
/-- z1 is z with the leaves of heap c burnt that may be -/
def bnB (z : Nat → Int32) (c l : Nat) : Bool := oB z c l && mB z l (z 9)
def BZ (z : Nat → Int32) (c i : Nat) (z1 : Nat → Int32) : Prop := (∀ l, l < 120 → zL z1 l 1 = if l < i ∧ bnB z c l = true then 2 else zL z l 1) ∧ ∀ j, (∀ l, l < 120 → j ≠ 22 + 6 * l + 1) → z1 j = z j
theorem ite_c {α : Type} {p q : Prop} {dp : Decidable p} {dq : Decidable q} {a b : α} (h : p ↔ q) : @ite α p dp a b = @ite α q dq a b := by
  by_cases hp : p
  · rw [if_pos hp, if_pos (h.mp hp)]
  · rw [if_neg hp, if_neg (fun r => hp (h.mpr r))]
section BN
variable {z z' z1 : Nat → Int32} {i B T c l : Nat} {w w' : xWt} {a : Int32}
theorem mB_congr {s : Int32} (h0 : z' 0 = z 0) (h3 : zL z' l 3 = zL z l 3) (hH : ∀ c h k, c < 5 → h < 3 → k < 3 → zH z' c h k = zH z c h k) : mB z' l s = mB z l s := by
  have hb : ∀ i, i < 15 → hB z' 2 (nI l) i = hB z 2 (nI l) i := fun i hi => by
    unfold hB
    rw [hH (i / 3) (i % 3) 0 (by omega) (by omega) (by omega), hH (i / 3) (i % 3) 1 (by omega) (by omega) (by omega)]
  unfold mB
  have hf : fr z' (nI l) 9 = fr z (nI l) 9 := by
    rw [Bool.eq_iff_iff, fr_iff, fr_iff]
    exact ⟨fun q i hi hn => by rw [← hb i hi]; exact q i hi hn, fun q i hi hn => by rw [hb i hi]; exact q i hi hn⟩
  rw [hf, h0, h3]
theorem BZ.g (h : BZ z c i z1) : gN z1 = gN z := by unfold gN; rw [h.2 1 (fun l hl => by omega)]
theorem BZ.b (h : BZ z c i z1) : bN z1 = bN z := by unfold bN; rw [h.2 0 (fun l hl => by omega)]
theorem BZ.t (h : BZ z c i z1) : tN z1 = tN z := by unfold tN; rw [h.2 7 (fun l hl => by omega)]
theorem BZ.L (h : BZ z c i z1) {l k : Nat} (hk : k < 6) (h1 : k ≠ 1) : zL z1 l k = zL z l k := h.2 _ (fun l' hl => by omega)
theorem BZ.C (h : BZ z c i z1) (d k : Nat) : zC z1 d k = zC z d k := h.2 _ (fun l' hl => by omega)
theorem BZ.H (h : BZ z c i z1) (d e k : Nat) : zH z1 d e k = zH z d e k := h.2 _ (fun l' hl => by omega)
theorem bnB_1 (h : bnB z c l = true) : zL z l 1 = 1 ∧ zL z l 4 = nI c := by
  unfold bnB at h
  rw [Bool.and_eq_true] at h
  exact oB_iff.mp h.1
theorem WF.burn (hW : WF z B T) (hz : BZ z c (gN z) z1) : WF z1 B T := by
  have h120 := hW.g120
  refine ⟨?_, ?_, ?_, ?_, ?_, ?_⟩
  · have q := hW.s
    unfold wS at q ⊢
    rw [hz.g, hz.b, hz.t, hz.2 0 (fun l hl => by omega), hz.2 1 (fun l hl => by omega), hz.2 7 (fun l hl => by omega), hz.2 8 (fun l hl => by omega), hz.2 9 (fun l hl => by omega)]
    exact q
  · intro b hb
    rw [hz.2 (10 + b) (fun l hl => by omega), hz.g]
    rcases hW.b b hb with q | ⟨l, q1, q2, q3, q4⟩
    · exact Or.inl q
    · refine Or.inr ⟨l, q1, q2, ?_, by rw [hz.L (by omega) (by omega)]; exact q4⟩
      rw [hz.1 l (by omega), if_neg, q3]
      rintro ⟨-, r⟩
      have := (bnB_1 r).1
      rw [q3] at this
      exact absurd this (by decide)
  · intro l hl
    rw [hz.g] at hl
    rw [hz.1 l (by omega)]
    by_cases e : l < gN z ∧ bnB z c l = true
    · rw [if_pos e]; exact Or.inr (Or.inl rfl)
    · rw [if_neg e]
      rcases hW.l l hl with q | q | ⟨q, d, s, t, r1, r2, r3, r4, r5, r6, r7⟩
      · exact Or.inl q
      · exact Or.inr (Or.inl q)
      · exact Or.inr (Or.inr ⟨q, d, s, t, r1, by rw [hz.b]; exact r2, by rw [hz.t]; exact r3, by rw [hz.L (by omega) (by omega)]; exact r4, by rw [hz.L (by omega) (by omega)]; exact r5, by rw [hz.L (by omega) (by omega)]; exact r6, by rw [hz.C]; exact r7⟩)
  · intro d hd
    simp only [hz.C, hz.H, hz.b]
    exact hW.c d hd
  · intro d e hd he
    unfold wK
    simp only [hz.H, hz.g]
    exact hW.h d e hd he
  · simp only [hz.C]
    exact hW.one
/-- the program's yard behind the loop of a raking -/
theorem YR.burn {hl : List Nat} (hW : WF z B T) (hY : YR 0 z w) (hc : c < 5) (hz : BZ z c (gN z) z1) (hH : HL z c hl)
    (r2 : ∀ l, w'.1 0 2 l = if l ∈ hl ∧ mB z l (z 9) = true then 2 else w.1 0 2 l) (r5 : ∀ l, w'.1 0 5 l = if l ∈ hl ∧ mB z l (z 9) = true then -1 else w.1 0 5 l)
    (r12 : ∀ j x, (hl.filter (fun l => !mB z l (z 9)))[j]? = some x → w'.1 0 12 (120 * c + j) = nI x) (r12o : ∀ j, j < 120 * c ∨ 120 * c + 120 ≤ j → w'.1 0 12 j = w.1 0 12 j)
    (r11 : w'.1 0 11 = upd (w.1 0 11) c (nI (hl.filter (fun l => !mB z l (z 9))).length)) (ro : ∀ r, r ≠ 2 → r ≠ 5 → r ≠ 11 → r ≠ 12 → w'.1 0 r = w.1 0 r) (fo : ∀ j, w'.2.1 0 j = w.2.1 0 j) : YR 0 z1 w' := by
  have h120 := hW.g120
  have hm : ∀ l, l < gN z → (l ∈ hl ∧ mB z l (z 9) = true ↔ l < gN z ∧ bnB z c l = true) := fun l hl' => by
    rw [hH.1 l]
    unfold bnB
    rw [Bool.and_eq_true]
    constructor
    · rintro ⟨⟨_, q1⟩, q2⟩; exact ⟨hl', q1, q2⟩
    · rintro ⟨_, q1, q2⟩; exact ⟨⟨hl', q1⟩, q2⟩
  refine ⟨?_, ?_, ?_, ?_, ?_, ?_⟩
  · have q := hY.f
    unfold yF at q ⊢
    rw [fo, fo, fo, fo, fo, fo, fo, fo, fo, hz.2 0 (fun l hl => by omega), hz.2 1 (fun l hl => by omega), hz.2 2 (fun l hl => by omega), hz.2 3 (fun l hl => by omega), hz.2 4 (fun l hl => by omega), hz.2 5 (fun l hl => by omega), hz.2 6 (fun l hl => by omega), hz.2 8 (fun l hl => by omega), hz.2 9 (fun l hl => by omega)]
    exact q
  · intro b hb
    rw [ro 0 (by omega) (by omega) (by omega) (by omega), hz.2 (10 + b) (fun l hl => by omega)]
    exact hY.b b hb
  · intro l hl'
    rw [hz.g] at hl'
    obtain ⟨y1, y2, y3, y4, y5⟩ := hY.l l hl'
    rw [ro 1 (by omega) (by omega) (by omega) (by omega), ro 3 (by omega) (by omega) (by omega) (by omega), ro 4 (by omega) (by omega) (by omega) (by omega), r2, r5, hz.L (k := 0) (by omega) (by omega), hz.L (k := 2) (by omega) (by omega), hz.L (k := 3) (by omega) (by omega), hz.L (k := 4) (by omega) (by omega), hz.1 l (by omega)]
    by_cases e : l ∈ hl ∧ mB z l (z 9) = true
    · rw [if_pos e, if_pos e, if_pos ((hm l hl').mp e)]
      exact ⟨y1, rfl, y3, y4, rfl⟩
    · rw [if_neg e, if_neg e, if_neg (fun q => e ((hm l hl').mpr q))]
      exact ⟨y1, y2, y3, y4, y5⟩
  · intro d hd
    rw [ro 6 (by omega) (by omega) (by omega) (by omega), ro 7 (by omega) (by omega) (by omega) (by omega), ro 8 (by omega) (by omega) (by omega) (by omega), ro 9 (by omega) (by omega) (by omega) (by omega), ro 10 (by omega) (by omega) (by omega) (by omega), hz.C, hz.C, hz.C, hz.C, hz.C]
    exact hY.c d hd
  · intro d e hd he
    rw [ro 13 (by omega) (by omega) (by omega) (by omega), ro 14 (by omega) (by omega) (by omega) (by omega), ro 15 (by omega) (by omega) (by omega) (by omega), hz.H, hz.H, hz.H]
    exact hY.h d e hd he
  · intro d hd
    have htu : ∀ l, tu z1 l = tu z l := fun l => by
      unfold tu
      rw [hz.L (by omega) (by omega)]
    by_cases e : d = c
    · subst e
      refine ⟨hl.filter (fun l => !mB z l (z 9)), ⟨fun l => ?_, ?_⟩, by rw [r11, upd_eq], r12⟩
      · rw [List.mem_filter, hH.1 l, hz.g]
        constructor
        · rintro ⟨⟨q1, q2⟩, q3⟩
          refine ⟨q1, oB_iff.mpr ⟨?_, by rw [hz.L (by omega) (by omega)]; exact (oB_iff.mp q2).2⟩⟩
          rw [hz.1 l (by omega), if_neg, (oB_iff.mp q2).1]
          rintro ⟨-, r⟩
          unfold bnB at r
          rw [Bool.and_eq_true] at r
          rw [r.2] at q3
          exact absurd q3 (by decide)
        · rintro ⟨q1, q2⟩
          obtain ⟨q3, q4⟩ := oB_iff.mp q2
          rw [hz.L (by omega) (by omega)] at q4
          rw [hz.1 l (by omega)] at q3
          by_cases r : l < gN z ∧ bnB z d l = true
          · rw [if_pos r] at q3
            exact absurd q3 (by decide)
          · rw [if_neg r] at q3
            have ho : oB z d l = true := oB_iff.mpr ⟨q3, q4⟩
            refine ⟨⟨q1, ho⟩, ?_⟩
            cases hm' : mB z l (z 9) with
            | false => rfl
            | true => exact absurd ⟨q1, by unfold bnB; rw [ho, hm']; rfl⟩ r
      · have := hH.2.filter (fun l => !mB z l (z 9))
        exact this.imp (fun {x y} q => by rw [htu, htu]; exact q)
    · obtain ⟨hl2, q1, q2, q3⟩ := hY.p d hd
      have hlen := q1.le h120
      refine ⟨hl2, ⟨fun l => ?_, ?_⟩, by rw [r11, upd_ne _ _ e]; exact q2, fun p l hp => ?_⟩
      · rw [q1.1 l, hz.g]
        refine and_congr_right fun hlt => ?_
        rw [oB_iff, oB_iff, hz.L (k := 4) (by omega) (by omega), hz.1 l (by omega)]
        by_cases r : l < gN z ∧ bnB z c l = true
        · have r4 := (bnB_1 r.2).2
          constructor
          · rintro ⟨-, q⟩
            exact absurd (nI_inj (by omega) (by omega) (q.symm.trans r4)) e
          · rintro ⟨-, q⟩
            exact absurd (nI_inj (by omega) (by omega) (q.symm.trans r4)) e
        · rw [if_neg r]
      · exact q1.2.imp (fun {x y} q => by rw [htu, htu]; exact q)
      · have hp' := (List.getElem?_eq_some_iff.mp hp).1
        rw [r12o (120 * d + p) (by omega)]
        exact q3 p l hp
/-- the program's test for one leaf, by what it reads -/
theorem p_mayBurnW (hl : l < 120) {s : Int32} (h13 : ∀ i, i < 15 → (w.1 0 13 i == nI l) = hB z 2 (nI l) i) (h4 : w.1 0 4 l = zL z l 3) (h0 : w.2.1 0 0 = z 0) (hs : s = 0 ∨ s = 1) : F_X6_mayBurn 0 (nI l) s (-1) w = some (if mB z l s then 1 else 0, w) := by
  unfold F_X6_mayBurn
  rcases hs with rfl | rfl
  · rw [if_neg (by decide)]
    unfold F_X1_firstOf
    rw [bd_s, if_pos rfl, show R_X4_number 0 13 (nI l) 0 15 w = R_X4_number 0 13 (nI l) 0 (nI 15) w from rfl, R_number0 w 0 13 (nI l) (N := 15) (by decide), bd_s, cn_congr h13]
    have hle := cn_le (hB z 2 (nI l)) 15
    have e : mB z l 0 = fr z (nI l) 9 := rfl
    rw [e]
    by_cases q : fr z (nI l) 9 = true
    · rw [fr9.mp q, if_pos (by rfl), if_pos q]
    · rw [if_neg (nI_ne0 (Nat.pos_of_ne_zero fun r => q (fr9.mpr r)) (by omega)), if_neg q]
  · rw [if_pos rfl, R_get, bd_s, g_120 hl rfl, h4, h0]
    have e : mB z l 1 = !decide (z 0 - zL z l 3 < 2) := rfl
    rw [e]
    by_cases q : z 0 - zL z l 3 < 2
    · rw [if_pos q, if_neg (by simp [q])]
    · rw [if_neg q, if_pos (by simp [q])]
theorem ixP0 (c : Nat) : nI c * 120 = nI (120 * c) := by
  have := ixP c 0
  rwa [nI_0', Int32.add_zero] at this
/-- the program's loop -/
theorem p_clearL {hl : List Nat} (hW : WF z B T) (hY : YR 0 z w) (hc : c < 5) (hH : HL z c hl) (hlen : hl.length ≤ 120) (h12 : ∀ p l, hl[p]? = some l → w.1 0 12 (120 * c + p) = nI l) : ∃ w', L_X6_clear_23 0 9999 (nI c) (nI hl.length) (nI (120 * c)) 0 0 w = some ((nI (hl.filter (fun l => !mB z l (z 9))).length, nI hl.length), w') ∧ dP w w' ∧ (∀ l, w'.1 0 2 l = if l ∈ hl ∧ mB z l (z 9) = true then 2 else w.1 0 2 l) ∧ (∀ l, w'.1 0 5 l = if l ∈ hl ∧ mB z l (z 9) = true then -1 else w.1 0 5 l) ∧ (∀ j x, (hl.filter (fun l => !mB z l (z 9)))[j]? = some x → w'.1 0 12 (120 * c + j) = nI x) ∧ (∀ j, j < 120 * c ∨ 120 * c + 120 ≤ j → w'.1 0 12 j = w.1 0 12 j) ∧ (∀ r, r ≠ 2 → r ≠ 5 → r ≠ 12 → w'.1 0 r = w.1 0 r) ∧ w'.2 = w.2 := by
  have h120 := hW.g120
  have hs9 : z 9 = 0 ∨ z 9 = 1 := hW.s.2.2.2.2.2.2.2
  have hf := List.length_filter_le (fun l => !mB z l (z 9)) hl
  have h := up_loop (fun n p (s : Nat × xWt) => L_X6_clear_23 0 n (nI c) (nI hl.length) (nI (120 * c)) (nI s.1) (nI p) s.2) (fun p s => if mB z (hl.getD p 0) (z 9) = true then (s.1, sRow (sRow s.2 0 2 (upd (s.2.1 0 2) (hl.getD p 0) 2)) 0 5 (upd (s.2.1 0 5) (hl.getD p 0) (-1))) else (s.1 + 1, sRow s.2 0 12 (upd (s.2.1 0 12) (120 * c + s.1) (nI (hl.getD p 0))))) (fun s => ((nI s.1, nI hl.length), s.2)) hl.length
    (fun p s => s.1 = ((hl.take p).filter (fun l => !mB z l (z 9))).length ∧ (∀ j x, ((hl.take p).filter (fun l => !mB z l (z 9)))[j]? = some x → s.2.1 0 12 (120 * c + j) = nI x) ∧ (∀ j x, p ≤ j → hl[j]? = some x → s.2.1 0 12 (120 * c + j) = nI x) ∧ (∀ j, j < 120 * c ∨ 120 * c + 120 ≤ j → s.2.1 0 12 j = w.1 0 12 j) ∧ (∀ l, s.2.1 0 2 l = if l ∈ hl.take p ∧ mB z l (z 9) = true then 2 else w.1 0 2 l) ∧ (∀ l, s.2.1 0 5 l = if l ∈ hl.take p ∧ mB z l (z 9) = true then -1 else w.1 0 5 l) ∧ (∀ r, r ≠ 2 → r ≠ 5 → r ≠ 12 → s.2.1 0 r = w.1 0 r) ∧ s.2.2 = w.2 ∧ dP w s.2)
    (fun n p s hp hI => by
      obtain ⟨i1, i2, i3, i4, i5, i6, i7, i8, i9⟩ := hI
      have hget : hl[p]? = some (hl.getD p 0) := by
        rw [List.getElem?_eq_getElem hp, List.getD_eq_getElem?_getD, List.getElem?_eq_getElem hp]
        rfl
      generalize hl.getD p 0 = x at hget ⊢
      have hxm : x ∈ hl := List.mem_of_getElem? hget
      have hx : x < gN z := ((hH.1 x).mp hxm).1
      have htk : hl.take (p + 1) = hl.take p ++ [x] := by
        rw [List.take_succ, hget]
        rfl
      have hkl : ((hl.take p).filter (fun l => !mB z l (z 9))).length ≤ p := Nat.le_trans (List.length_filter_le _ _) (List.length_take_le _ _)
      have hg12 : gt s.2 0 12 (nI (120 * c + p)) = nI x := by
        rw [gt_in (show 120 * c + p < rl 0 12 from by show 120 * c + p < 600; omega) (by decide)]
        exact i3 p x (Nat.le_refl _) hget
      have hmb : F_X6_mayBurn 0 (nI x) (s.2.2.1 0 2) (-1) s.2 = some (if mB z x (z 9) then 1 else 0, s.2) := by
        rw [i8, show w.2.1 0 2 = z 9 from hY.f.2.2.1]
        exact p_mayBurnW (by omega) (fun i hi => by rw [i7 13 (by decide) (by decide) (by decide)]; exact y13b hY (by omega) hi) (by rw [i7 4 (by decide) (by decide) (by decide)]; exact (hY.l x hx).2.2.2.1) (by rw [i8]; exact hY.f.1) hs9
      constructor
      · show B_X6_clear_23 0 (L_X6_clear_23 0 n) (nI c) (nI hl.length) (nI (120 * c)) (nI s.1) (nI p) s.2 = _
        unfold B_X6_clear_23
        rw [if_neg (nI_ge hp (by omega)), nI_add, R_get, bd_s, hg12, hmb, bd_s]
        by_cases q : mB z x (z 9) = true
        · rw [if_pos q, if_neg (by decide), if_pos q]
          unfold F_X2_burn
          rw [R_put, bd_s, p120 (by omega) rfl, R_put, bd_s, p120 (by omega) rfl, bd_s, nI_1]
          rfl
        · rw [if_neg q, if_pos rfl, if_neg q, nI_add, R_put, bd_s, pt_in (show 120 * c + s.1 < rl 0 12 from by show 120 * c + s.1 < 600; omega) (by decide), nI_1, nI_1]
      · rw [htk, List.filter_append]
        by_cases q : mB z x (z 9) = true
        · rw [if_pos q]
          have e0 : [x].filter (fun l => !mB z l (z 9)) = [] := by simp [q]
          rw [e0, List.append_nil]
          refine ⟨i1, i2, fun j y hj hy => i3 j y (by omega) hy, i4, fun l => ?_, fun l => ?_, fun r h1 h2 h3 => ?_, i8, (i9.row _ _).row _ _⟩
          · show upd (s.2.1 0 2) x 2 l = _
            by_cases e : l = x
            · subst e
              rw [upd_eq, if_pos ⟨by simp, q⟩]
            · rw [upd_ne _ _ e, i5 l]
              simp [e]
          · show upd (s.2.1 0 5) x (-1) l = _
            by_cases e : l = x
            · subst e
              rw [upd_eq, if_pos ⟨by simp, q⟩]
            · rw [upd_ne _ _ e, i6 l]
              simp [e]
          · rw [sRow_ne _ _ (by omega), sRow_ne _ _ (by omega)]
            exact i7 r h1 h2 h3
        · rw [if_neg q]
          have e0 : [x].filter (fun l => !mB z l (z 9)) = [x] := by simp [q]
          have hm2 : ∀ l, (l ∈ hl.take p ++ [x] ∧ mB z l (z 9) = true) ↔ (l ∈ hl.take p ∧ mB z l (z 9) = true) := fun l => by
            constructor
            · rintro ⟨q1, q2⟩
              rcases List.mem_append.mp q1 with r | r
              · exact ⟨r, q2⟩
              · rw [List.mem_singleton.mp r] at q2
                exact absurd q2 q
            · rintro ⟨q1, q2⟩
              exact ⟨List.mem_append.mpr (Or.inl q1), q2⟩
          rw [e0]
          refine ⟨by rw [List.length_append, ← i1]; rfl, fun j y hy => ?_, fun j y hj hy => ?_, fun j hj => ?_, fun l => ?_, fun l => ?_, fun r h1 h2 h3 => ?_, i8, i9.row _ _⟩
          · rw [sRow_eq]
            by_cases e : j = s.1
            · rw [e, upd_eq]
              rw [e, i1, List.getElem?_append_right (Nat.le_refl _), Nat.sub_self] at hy
              exact congrArg nI (Option.some.inj hy)
            · rw [upd_ne _ _ (by omega)]
              have hj := (List.getElem?_eq_some_iff.mp hy).1
              rw [List.length_append] at hj
              have hj2 : j < ((hl.take p).filter (fun l => !mB z l (z 9))).length := by
                simp only [List.length_singleton] at hj
                omega
              rw [List.getElem?_append_left hj2] at hy
              exact i2 j y hy
          · rw [sRow_eq, upd_ne _ _ (by omega)]
            exact i3 j y (by omega) hy
          · rw [sRow_eq, upd_ne _ _ (by omega)]
            exact i4 j hj
          · rw [sRow_ne _ _ (by omega), i5 l]
            exact ite_c (hm2 l).symm
          · rw [sRow_ne _ _ (by omega), i6 l]
            exact ite_c (hm2 l).symm
          · rw [sRow_ne _ _ (by omega)]
            exact i7 r h1 h2 h3)
    (fun n s hI => by
      show B_X6_clear_23 0 (L_X6_clear_23 0 n) (nI c) (nI hl.length) (nI (120 * c)) (nI s.1) (nI hl.length) s.2 = _
      unfold B_X6_clear_23
      rw [if_pos (Int32.le_refl _)]) hl.length 0 (0, w) 9999 (by omega) (by omega) ⟨rfl, fun j x hx => by simp at hx, fun j x _ hx => h12 j x hx, fun _ _ => rfl, fun l => by simp, fun l => by simp, fun _ _ _ _ => rfl, rfl, dP.rf w⟩
  obtain ⟨e, i1, i2, i3, i4, i5, i6, i7, i8, i9⟩ := h
  rw [List.take_length] at i1 i2 i5 i6
  rw [i1] at e
  exact ⟨_, e, i9, i5, i6, i2, i4, i7, i8⟩
/-- the reference's loop -/
theorem m_rakeL (hW : WF z B T) {wr : xWt} (hz : zz wr = z) : ∃ w', L_X8_doRake_4 9999 (nI c) 0 0 wr = some ((nI (cn (bnB z c) (gN z)), nI (gN z)), w') ∧ dM wr w' ∧ BZ z c (gN z) (zz w') := by
  have h120 := hW.g120
  have h := up_loop (fun n i (s : Nat × xWt) => L_X8_doRake_4 n (nI c) (nI s.1) (nI i) s.2) (fun i s => if bnB z c i = true then (s.1 + 1, zs s.2 (22 + 6 * i + 1) 2) else s) (fun s => ((nI s.1, nI (gN z)), s.2)) (gN z)
    (fun i s => s.1 = cn (bnB z c) i ∧ BZ z c i (zz s.2) ∧ dM wr s.2)
    (fun n i s hi hI => by
      obtain ⟨i1, i2, i3⟩ := hI
      have hob : oB (zz s.2) c i = oB z c i := by
        rw [Bool.eq_iff_iff, oB_iff, oB_iff, i2.L (k := 4) (by omega) (by omega), i2.1 i (by omega), if_neg (fun q => absurd q.1 (by omega))]
      have hmb : mB (zz s.2) i (z 9) = mB z i (z 9) := mB_congr (i2.2 0 (fun l hl => by omega)) (i2.L (by omega) (by omega)) (fun c h k _ _ _ => i2.H c h k)
      constructor
      · show B_X8_doRake_4 (L_X8_doRake_4 n) (nI c) (nI s.1) (nI i) s.2 = _
        unfold B_X8_doRake_4
        rw [m_z1, i2.2 1 (fun l hl => by omega), hW.g, if_neg (nI_ge hi (by omega)), m_isOn (by omega), bd_s, hob, nI_1, nI_1]
        by_cases q : oB z c i = true
        · rw [if_pos q, if_neg (by decide), m_z9, i2.2 9 (fun l hl => by omega), m_mayBurn (by omega), bd_s, hmb]
          by_cases q2 : mB z i (z 9) = true
          · rw [if_pos q2, if_neg (by decide), show F_X8_setLeaf (nI i) 1 2 s.2 = some ((), zs s.2 (22 + 6 * i + 1) 2) from m_setL (by omega) (k := 1) (by omega) 2, bd_s, if_pos (show bnB z c i = true by unfold bnB; rw [q, q2]; rfl)]
          · rw [if_neg q2, if_pos rfl, if_neg (show ¬ bnB z c i = true by unfold bnB; simp [q2])]
        · rw [if_neg q, if_pos rfl, if_neg (show ¬ bnB z c i = true by unfold bnB; simp [q])]
      · by_cases q : bnB z c i = true
        · rw [if_pos q]
          refine ⟨?_, ⟨fun l hl => ?_, fun j hj => ?_⟩, i3.zs _ _⟩
          · show s.1 + 1 = cn (bnB z c) i + (if bnB z c i then 1 else 0)
            rw [i1, if_pos q]
          · rw [zs_z]
            by_cases e : l = i
            · rw [e, zL_eq, if_pos ⟨by omega, q⟩]
            · rw [zL_ne _ (by omega), i2.1 l hl]
              exact ite_c ⟨fun r => ⟨by omega, r.2⟩, fun r => ⟨by omega, r.2⟩⟩
          · rw [zs_z, upd_ne _ _ (hj i (by omega))]
            exact i2.2 j hj
        · rw [if_neg q]
          refine ⟨?_, ⟨fun l hl => ?_, i2.2⟩, i3⟩
          · show s.1 = cn (bnB z c) i + (if bnB z c i then 1 else 0)
            rw [i1, if_neg q]
            rfl
          · rw [i2.1 l hl]
            exact ite_c ⟨fun r => ⟨by omega, r.2⟩, fun r => ⟨by
              have : l ≠ i := fun e => q (by rw [← e]; exact r.2)
              omega, r.2⟩⟩)
    (fun n s hI => by
      show B_X8_doRake_4 (L_X8_doRake_4 n) (nI c) (nI s.1) (nI (gN z)) s.2 = _
      unfold B_X8_doRake_4
      rw [m_z1, hI.2.1.2 1 (fun l hl => by omega), hW.g, if_pos (Int32.le_refl _)]) (gN z) 0 (0, wr) 9999 (by omega) (by omega) ⟨rfl, ⟨fun l hl => by rw [if_neg (fun q => absurd q.1 (by omega)), hz], fun j _ => by rw [hz]⟩, dM.rf wr⟩
  obtain ⟨e, i1, i2, i3⟩ := h
  rw [i1] at e
  exact ⟨_, e, i3, i2⟩
end BN

