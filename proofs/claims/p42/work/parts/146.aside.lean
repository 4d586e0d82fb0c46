/-! a leaf taken off and put aside -/
section AS
variable {z z' : Nat → Int32} {B T b c l : Nat} {w w' : xWt}
/-- z' is z with leaf l of branch b put on heap c -/
def AZ (z : Nat → Int32) (b c l : Nat) (z' : Nat → Int32) : Prop := (∀ i, i ≠ 10 + b → i ≠ 7 → i ≠ 22 + 6 * l + 1 → i ≠ 22 + 6 * l + 3 → i ≠ 22 + 6 * l + 4 → i ≠ 22 + 6 * l + 5 → i ≠ 742 + 15 * c + 3 → z' i = z i) ∧ z' (10 + b) = -1 ∧ z' 7 = nI (tN z + 1) ∧ zL z' l 1 = 1 ∧ zL z' l 3 = z 0 ∧ zL z' l 4 = nI c ∧ zL z' l 5 = nI (tN z) ∧ zC z' c 3 = zC z c 3 + 1
theorem AZ.g (h : AZ z b c l z') : gN z' = gN z := by unfold gN; rw [h.1 1 (by omega) (by omega) (by omega) (by omega) (by omega) (by omega) (by omega)]
theorem AZ.bb (h : AZ z b c l z') : bN z' = bN z := by unfold bN; rw [h.1 0 (by omega) (by omega) (by omega) (by omega) (by omega) (by omega) (by omega)]
theorem AZ.t (h : AZ z b c l z') (ht : tN z + 1 < 2 ^ 31) : tN z' = tN z + 1 := by
  show (z' 7).toNatClampNeg = _
  rw [h.2.2.1, nI_clamp ht]
theorem AZ.LL (h : AZ z b c l z') (hb : b < 12) {l' k : Nat} (hl : l' < 120) (hk : k < 6) (hne : l' ≠ l ∨ k = 0 ∨ k = 2) : zL z' l' k = zL z l' k := h.1 _ (by omega) (by omega) (by omega) (by omega) (by omega) (by omega) (by omega)
theorem AZ.C (h : AZ z b c l z') (hb : b < 12) (hl : l < 120) {d k : Nat} (hk : k < 15) (hne : d ≠ c ∨ k ≠ 3) : zC z' d k = zC z d k := h.1 _ (by omega) (by omega) (by omega) (by omega) (by omega) (by omega) (by omega)
theorem AZ.H (h : AZ z b c l z') (hb : b < 12) (hl : l < 120) {d e k : Nat} (he : e < 3) (hk : k < 3) : zH z' d e k = zH z d e k := h.1 _ (by omega) (by omega) (by omega) (by omega) (by omega) (by omega) (by omega)
theorem AZ.G (h : AZ z b c l z') {i : Nat} (hi : i < 7 ∨ i = 8 ∨ i = 9) : z' i = z i := h.1 _ (by omega) (by omega) (by omega) (by omega) (by omega) (by omega) (by omega)
theorem AZ.BR (h : AZ z b c l z') {b' : Nat} (hb : b' < 12) (hne : b' ≠ b) : z' (10 + b') = z (10 + b') := h.1 _ (by omega) (by omega) (by omega) (by omega) (by omega) (by omega) (by omega)
theorem WF.aside (hW : WF z B T) (hz : AZ z b c l z') (hT : T < 2 ^ 30) (hc : c < 5) (ht : zC z c 0 = 1) (hb : b < 12) (hl : l < gN z) (h2 : zL z l 2 = nI b) : WF z' B (T + 1) := by
  have h120 := hW.g120
  obtain ⟨a1, a2, a3, a4, a5, a6, a7, a8⟩ := hW.s
  have eT := hz.t (by omega)
  refine ⟨⟨?_, ?_, ?_, ?_, ?_, ?_, ?_, ?_⟩, ?_, ?_, ?_, ?_, ?_⟩
  · rw [hz.G (by omega), hz.bb]; exact a1
  · rw [hz.bb]; exact a2
  · rw [hz.G (by omega), hz.g]; exact a3
  · rw [hz.g]; exact a4
  · rw [eT]; exact hz.2.2.1
  · rw [eT]; omega
  · rw [hz.G (by omega)]; exact a7
  · rw [hz.G (by omega)]; exact a8
  · intro b' hb'
    by_cases e : b' = b
    · rw [e]; exact Or.inl hz.2.1
    · rw [hz.BR hb' e, hz.g]
      rcases hW.b b' hb' with q | ⟨l', q1, q2, q3, q4⟩
      · exact Or.inl q
      · have hne : l' ≠ l := fun q => by
          rw [q, h2] at q4
          exact e (nI_inj (by omega) (by omega) q4).symm
        exact Or.inr ⟨l', q1, q2, by rw [hz.LL hb (by omega) (by omega) (Or.inl hne)]; exact q3, by rw [hz.LL hb (by omega) (by omega) (Or.inl hne)]; exact q4⟩
  · intro l' hl'
    rw [hz.g] at hl'
    by_cases e : l' = l
    · rw [e]
      exact Or.inr (Or.inr ⟨hz.2.2.2.1, c, bN z, tN z, hc, by rw [hz.bb]; exact Nat.le_refl _, by rw [eT]; omega, hz.2.2.2.2.2.1, by rw [hz.2.2.2.2.1]; exact a1, hz.2.2.2.2.2.2.1, by rw [hz.C hb (by omega) (by omega) (Or.inr (by omega))]; exact ht⟩)
    · rw [hz.LL hb (by omega) (by omega) (Or.inl e)]
      rcases hW.l l' hl' with q | q | ⟨q, d, s, t, r1, r2, r3, r4, r5, r6, r7⟩
      · exact Or.inl q
      · exact Or.inr (Or.inl q)
      · exact Or.inr (Or.inr ⟨q, d, s, t, r1, by rw [hz.bb]; exact r2, by rw [eT]; omega, by rw [hz.LL hb (by omega) (by omega) (Or.inl e)]; exact r4, by rw [hz.LL hb (by omega) (by omega) (Or.inl e)]; exact r5, by rw [hz.LL hb (by omega) (by omega) (Or.inl e)]; exact r6, by rw [hz.C hb (by omega) (by omega) (Or.inr (by omega))]; exact r7⟩)
  · intro d hd
    rw [hz.C hb (by omega) (by omega) (Or.inr (by omega)), hz.C hb (by omega) (by omega) (Or.inr (by omega)), hz.C hb (by omega) (by omega) (Or.inr (by omega)), hz.bb]
    rcases hW.c d hd with ⟨q1, q2, q3, q4⟩ | q
    · exact Or.inl ⟨q1, q2, q3, fun h hh => by rw [hz.H hb (by omega) hh (by omega)]; exact q4 h hh⟩
    · exact Or.inr q
  · intro d e hd he
    unfold wK
    rw [hz.H hb (by omega) he (by omega), hz.H hb (by omega) he (by omega), hz.H hb (by omega) he (by omega), hz.g]
    exact hW.h d e hd he
  · obtain ⟨d, hd, q⟩ := hW.one
    exact ⟨d, hd, by rw [hz.C hb (by omega) (by omega) (Or.inr (by omega))]; exact q⟩
/-- the heap that the leaf joins -/
theorem HL.aside {hl : List Nat} (hW : WF z B T) (hz : AZ z b c l z') (hT : T < 2 ^ 30) (hb : b < 12) (hl0 : l < gN z) (h1 : zL z l 1 = 0) (hH : HL z c hl) : HL z' c (hl ++ [l]) := by
  have h120 := hW.g120
  have hTs := hW.s.2.2.2.2.2.1
  have hnl : ∀ x, x ∈ hl → x ≠ l := fun x hx e => by
    have q := (oB_iff.mp ((hH.1 x).mp hx).2).1
    rw [e, h1] at q
    exact absurd q (by decide)
  have htl : tu z' l = tN z := by
    show (zL z' l 5).toNatClampNeg = _
    rw [hz.2.2.2.2.2.2.1, nI_clamp (by omega)]
  have htx : ∀ x, x < 120 → x ≠ l → tu z' x = tu z x := fun x hx e => by
    unfold tu
    rw [hz.LL hb hx (by omega) (Or.inl e)]
  refine ⟨fun x => ?_, ?_⟩
  · rw [List.mem_append, List.mem_singleton, hH.1 x, hz.g]
    by_cases e : x = l
    · subst e
      constructor
      · intro _
        exact ⟨hl0, oB_iff.mpr ⟨hz.2.2.2.1, hz.2.2.2.2.2.1⟩⟩
      · intro _
        exact Or.inr rfl
    · constructor
      · rintro (⟨q1, q2⟩ | q)
        · refine ⟨q1, oB_iff.mpr ?_⟩
          rw [hz.LL hb (by omega) (by omega) (Or.inl e), hz.LL hb (by omega) (by omega) (Or.inl e)]
          exact oB_iff.mp q2
        · exact absurd q e
      · rintro ⟨q1, q2⟩
        have q3 := oB_iff.mp q2
        rw [hz.LL hb (by omega) (by omega) (Or.inl e), hz.LL hb (by omega) (by omega) (Or.inl e)] at q3
        exact Or.inl ⟨q1, oB_iff.mpr q3⟩
  · rw [List.pairwise_append]
    refine ⟨?_, List.pairwise_singleton _ _, fun x hx y hy => ?_⟩
    · refine List.Pairwise.imp_of_mem (fun {x y} hx hy q => ?_) hH.2
      have hx' := ((hH.1 x).mp hx).1
      have hy' := ((hH.1 y).mp hy).1
      rw [htx x (by omega) (hnl x hx), htx y (by omega) (hnl y hy)]
      exact q
    · rw [List.mem_singleton.mp hy, htl]
      obtain ⟨hx1, hx2⟩ := (hH.1 x).mp hx
      rw [htx x (by omega) (hnl x hx)]
      rcases hW.l x hx1 with q | q | ⟨-, d, s, t, r1, r2, r3, r4, r5, r6, r7⟩
      · rw [(oB_iff.mp hx2).1] at q; exact absurd q (by decide)
      · rw [(oB_iff.mp hx2).1] at q; exact absurd q (by decide)
      · show (zL z x 5).toNatClampNeg < _
        rw [r6, nI_clamp (by omega)]
        exact r3
theorem HL.aside_o {hl : List Nat} {d : Nat} (hW : WF z B T) (hz : AZ z b c l z') (hb : b < 12) (h1 : zL z l 1 = 0) (hd : d < 5) (hc : c < 5) (hne : d ≠ c) (hH : HL z d hl) : HL z' d hl := by
  have h120 := hW.g120
  have hnl : ∀ x, x ∈ hl → x ≠ l := fun x hx e => by
    have q := (oB_iff.mp ((hH.1 x).mp hx).2).1
    rw [e, h1] at q
    exact absurd q (by decide)
  refine ⟨fun x => ?_, ?_⟩
  · rw [hH.1 x, hz.g]
    refine and_congr_right fun hlt => ?_
    rw [oB_iff, oB_iff]
    by_cases e : x = l
    · subst e
      rw [h1, hz.2.2.2.2.2.1]
      constructor
      · rintro ⟨q, -⟩; exact absurd q (by decide)
      · rintro ⟨-, q⟩; exact absurd (nI_inj (by omega) (by omega) q).symm hne
    · rw [hz.LL hb (by omega) (by omega) (Or.inl e), hz.LL hb (by omega) (by omega) (Or.inl e)]
  · refine List.Pairwise.imp_of_mem (fun {x y} hx hy q => ?_) hH.2
    have hx' := ((hH.1 x).mp hx).1
    have hy' := ((hH.1 y).mp hy).1
    unfold tu at q ⊢
    rw [hz.LL hb (by omega) (by omega) (Or.inl (hnl x hx)), hz.LL hb (by omega) (by omega) (Or.inl (hnl y hy))]
    exact q
theorem YR.aside {hl : List Nat} (hW : WF z B T) (hY : YR 0 z w) (hz : AZ z b c l z') (hT : T < 2 ^ 30) (hc : c < 5) (ht : zC z c 0 = 1) (hb : b < 12) (hl0 : l < gN z) (h1 : zL z l 1 = 0) (hH : HL z c hl) (h11 : w.1 0 11 c = nI hl.length) (h12 : ∀ p x, hl[p]? = some x → w.1 0 12 (120 * c + p) = nI x)
    (r0 : w'.1 0 0 = upd (w.1 0 0) b (-1)) (r2 : w'.1 0 2 = upd (w.1 0 2) l 1) (r4 : w'.1 0 4 = upd (w.1 0 4) l (z 0)) (r5 : w'.1 0 5 = upd (w.1 0 5) l (nI c)) (r12 : w'.1 0 12 = upd (w.1 0 12) (120 * c + hl.length) (nI l)) (r11 : w'.1 0 11 = upd (w.1 0 11) c (nI (hl.length + 1))) (r8 : w'.1 0 8 = upd (w.1 0 8) c (w.1 0 8 c + 1))
    (ro : ∀ r, r ≠ 0 → r ≠ 2 → r ≠ 4 → r ≠ 5 → r ≠ 8 → r ≠ 11 → r ≠ 12 → w'.1 0 r = w.1 0 r) (fo : ∀ j, w'.2.1 0 j = w.2.1 0 j) : YR 0 z' w' := by
  have h120 := hW.g120
  have hlen : (hl ++ [l]).length ≤ 120 := (HL.aside hW hz hT hb hl0 h1 hH).le (by rw [hz.g]; exact h120)
  rw [List.length_append] at hlen
  have hlen : hl.length + 1 ≤ 120 := hlen
  refine ⟨?_, ?_, ?_, ?_, ?_, ?_⟩
  · have q := hY.f
    unfold yF at q ⊢
    rw [fo, fo, fo, fo, fo, fo, fo, fo, fo, hz.G (i := 0) (by omega), hz.G (i := 1) (by omega), hz.G (i := 2) (by omega), hz.G (i := 3) (by omega), hz.G (i := 4) (by omega), hz.G (i := 5) (by omega), hz.G (i := 6) (by omega), hz.G (i := 8) (by omega), hz.G (i := 9) (by omega)]
    exact q
  · intro b' hb'
    rw [r0]
    by_cases e : b' = b
    · rw [e, upd_eq]; exact hz.2.1.symm
    · rw [upd_ne _ _ e, hz.BR hb' e]
      exact hY.b b' hb'
  · intro l' hl'
    rw [hz.g] at hl'
    obtain ⟨y1, y2, y3, y4, y5⟩ := hY.l l' hl'
    rw [ro 1 (by omega) (by omega) (by omega) (by omega) (by omega) (by omega) (by omega), ro 3 (by omega) (by omega) (by omega) (by omega) (by omega) (by omega) (by omega), r2, r4, r5]
    by_cases e : l' = l
    · subst e
      rw [upd_eq, upd_eq, upd_eq, hz.LL hb (by omega) (by omega) (Or.inr (Or.inl rfl)), hz.LL (k := 2) hb (by omega) (by omega) (Or.inr (Or.inr rfl)), hz.2.2.2.1, hz.2.2.2.2.1, if_pos rfl, hz.2.2.2.2.2.1]
      exact ⟨y1, rfl, y3, rfl, rfl⟩
    · rw [upd_ne _ _ e, upd_ne _ _ e, upd_ne _ _ e, hz.LL (k := 0) hb (by omega) (by omega) (Or.inl e), hz.LL (k := 1) hb (by omega) (by omega) (Or.inl e), hz.LL (k := 2) hb (by omega) (by omega) (Or.inl e), hz.LL (k := 3) hb (by omega) (by omega) (Or.inl e), hz.LL (k := 4) hb (by omega) (by omega) (Or.inl e)]
      exact ⟨y1, y2, y3, y4, y5⟩
  · intro d hd
    rw [ro 6 (by omega) (by omega) (by omega) (by omega) (by omega) (by omega) (by omega), ro 7 (by omega) (by omega) (by omega) (by omega) (by omega) (by omega) (by omega), ro 9 (by omega) (by omega) (by omega) (by omega) (by omega) (by omega) (by omega), ro 10 (by omega) (by omega) (by omega) (by omega) (by omega) (by omega) (by omega), r8, hz.C (k := 0) hb (by omega) (by omega) (Or.inr (by omega)), hz.C (k := 2) hb (by omega) (by omega) (Or.inr (by omega)), hz.C (k := 4) hb (by omega) (by omega) (Or.inr (by omega)), hz.C (k := 5) hb (by omega) (by omega) (Or.inr (by omega))]
    obtain ⟨y1, y2, y3⟩ := hY.c d hd
    refine ⟨y1, y2, fun q => ?_⟩
    by_cases e : d = c
    · subst e
      rw [upd_eq, hz.2.2.2.2.2.2.2, (y3 q).1]
      exact ⟨rfl, (y3 q).2⟩
    · rw [upd_ne _ _ e, hz.C hb (by omega) (by omega) (Or.inl e)]
      exact y3 q
  · intro d e hd he
    rw [ro 13 (by omega) (by omega) (by omega) (by omega) (by omega) (by omega) (by omega), ro 14 (by omega) (by omega) (by omega) (by omega) (by omega) (by omega) (by omega), ro 15 (by omega) (by omega) (by omega) (by omega) (by omega) (by omega) (by omega), hz.H hb (by omega) he (by omega), hz.H hb (by omega) he (by omega), hz.H hb (by omega) he (by omega)]
    exact hY.h d e hd he
  · intro d hd
    by_cases e : d = c
    · subst e
      refine ⟨hl ++ [l], HL.aside hW hz hT hb hl0 h1 hH, by rw [r11, upd_eq, List.length_append]; rfl, fun p x hp => ?_⟩
      rw [r12]
      by_cases e : p = hl.length
      · rw [e, upd_eq]
        rw [e, List.getElem?_append_right (Nat.le_refl _), Nat.sub_self] at hp
        exact congrArg nI (Option.some.inj hp)
      · have hp' := (List.getElem?_eq_some_iff.mp hp).1
        rw [List.length_append] at hp'
        have hp2 : p < hl.length := by
          simp only [List.length_singleton] at hp'
          omega
        rw [upd_ne _ _ (by omega)]
        rw [List.getElem?_append_left hp2] at hp
        exact h12 p x hp
    · obtain ⟨hl2, q1, q2, q3⟩ := hY.p d hd
      have hlen2 := q1.le h120
      refine ⟨hl2, HL.aside_o hW hz hb h1 hd hc e q1, by rw [r11, upd_ne _ _ e]; exact q2, fun p x hp => ?_⟩
      have hp' := (List.getElem?_eq_some_iff.mp hp).1
      rw [r12, upd_ne _ _ (by omega)]
      exact q3 p x hp
end AS

