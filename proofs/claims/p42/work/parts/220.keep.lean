/-! the relation is kept -/
section KP
variable {z z' : Nat → Int32} {R R' : Nat → Nat → Int32} {B T B' c h b l : Nat}
theorem tu_same (h : ∀ l, l < gN z → zL z' l 5 = zL z l 5) (hl : l < gN z) : tu z' l = tu z l := by unfold tu; rw [h l hl]
theorem rP.same {hp : List Nat} (hP : rP z R hp) (hg : gN z' = gN z) (h1 : ∀ l, l < gN z → zL z' l 1 = zL z l 1) (h5 : ∀ l, l < gN z → zL z' l 5 = zL z l 5) (h9 : R' 0 9 = R 0 9) (h3 : R' 3 = R 3) : rP z' R' hp := by
  refine ⟨fun l => ?_, ?_, by rw [h9]; exact hP.2.2.1, fun p l q => by rw [h3]; exact hP.2.2.2 p l q⟩
  · rw [hP.1 l, hg]
    constructor
    · rintro ⟨q1, q2⟩; exact ⟨q1, by rw [h1 l q1]; exact q2⟩
    · rintro ⟨q1, q2⟩; exact ⟨q1, by rw [← h1 l q1]; exact q2⟩
  · refine List.Pairwise.imp_of_mem (fun {a b} ha hb q => ?_) hP.2.1
    rw [tu_same h5 ((hP.1 a).mp ha).1, tu_same h5 ((hP.1 b).mp hb).1]
    exact q
theorem whN_same (h1 : zL z' l 1 = zL z l 1) (h4 : zL z' l 4 = zL z l 4) : whN z' l = whN z l := by unfold whN; rw [h1, h4]
/-- one child's record -/
theorem LR.child (hW : WF z B T) (hR : LR z R) (hc : c < 5) (ho : chO z z' c) (r0 : ∀ r, r < 4 → R' r = R r) (r4 : ∀ i, i < 6 * c ∨ 6 * c + 6 ≤ i → R' 4 i = R 4 i) (r5 : ∀ i, i < 6 * c ∨ 6 * c + 6 ≤ i → R' 5 i = R 5 i)
    (hC : R' 4 (6 * c) = zC z' c 0 ∧ R' 4 (6 * c + 1) = zC z' c 1 ∧ R' 4 (6 * c + 2) = zC z' c 2 ∧ (zC z' c 0 = 1 → R' 4 (6 * c + 3) = zC z' c 3 ∧ R' 4 (6 * c + 4) = zC z' c 4 ∧ R' 4 (6 * c + 5) = zC z' c 5))
    (hK : ∀ h, h < 3 → R' 5 (6 * c + 2 * h) = zH z' c h 0 ∧ R' 5 (6 * c + 2 * h + 1) = zH z' c h 1) (hN : ∀ h, h < 3 → zH z' c h 0 = 1 → zH z' c h 2 = zL z (zH z' c h 1).toNatClampNeg 2) (hN2 : ∀ h, h < 3 → zH z' c h 0 = 1 → (zH z' c h 1).toNatClampNeg < 120) : LR z' R' := by
  have h120 := hW.g120
  refine ⟨?_, ?_, ?_, ?_, ?_, ?_, ?_, ?_, ?_⟩
  · have q := hR.g
    unfold rG at q ⊢
    rw [r0 0 (by omega), ho.1 0 (by omega), ho.1 1 (by omega), ho.1 2 (by omega), ho.1 3 (by omega), ho.1 4 (by omega), ho.1 5 (by omega), ho.1 6 (by omega), ho.1 8 (by omega), ho.1 9 (by omega)]
    exact q
  · intro b hb
    rw [r0 1 (by omega), ho.1 (10 + b) (by omega)]
    exact hR.b b hb
  · intro l hl
    rw [ho.g] at hl
    have q := hR.l l hl
    unfold rL1 at q ⊢
    rw [ho.b, ho.L (by omega) (by omega), ho.L (by omega) (by omega), ho.L (by omega) (by omega), whN_same (ho.L (by omega) (by omega)) (ho.L (by omega) (by omega)), r0 2 (by omega)]
    exact q
  · intro d hd
    by_cases e : d = c
    · rw [e]; exact hC
    · rw [r4 _ (by omega), r4 _ (by omega), r4 _ (by omega), r4 _ (by omega), r4 _ (by omega), r4 _ (by omega), ho.2 d hd e 0 (by omega), ho.2 d hd e 1 (by omega), ho.2 d hd e 2 (by omega), ho.2 d hd e 3 (by omega), ho.2 d hd e 4 (by omega), ho.2 d hd e 5 (by omega)]
      exact hR.c d hd
  · intro d h hd hh
    by_cases e : d = c
    · rw [e]; exact hK h hh
    · rw [r5 _ (by omega), r5 _ (by omega), ho.H hd e hh (by omega), ho.H hd e hh (by omega)]
      exact hR.k d h hd hh
  · obtain ⟨hp, hP⟩ := hR.p
    exact ⟨hp, hP.same ho.g (fun l hl => ho.L (by omega) (by omega)) (fun l hl => ho.L (by omega) (by omega)) (by rw [r0 0 (by omega)]) (r0 3 (by omega))⟩
  · rw [ho.g]; exact hR.n
  · intro d h hd hh q
    by_cases e : d = c
    · rw [e] at q ⊢
      rw [ho.L (hN2 h hh q) (by omega)]
      exact hN h hh q
    · rw [ho.H hd e hh (by omega)] at q
      have hlt : (zH z d h 1).toNatClampNeg < 120 := by
        rcases hW.h d h hd hh with ⟨k0, -⟩ | ⟨-, l, b, hl, hb, k1, -⟩ | ⟨k0, -⟩
        · rw [q] at k0; exact absurd k0 (by decide)
        · rw [k1, nI_clamp (by omega)]; omega
        · rw [q] at k0; exact absurd k0 (by decide)
      rw [ho.H hd e hh (by omega), ho.H hd e hh (by omega), ho.L hlt (by omega)]
      exact hR.e.1 d h hd hh q
  · intro l b hl hb q1 q2
    rw [ho.g] at hl
    rw [ho.L (by omega) (by omega)] at q1 q2
    rw [ho.1 (10 + b) (by omega)]
    exact hR.e.2 l b hl hb q1 q2
/-- numbers of the yard as a whole: all but the bell, the settings and the counters are as they were -/
theorem LR.glob (hR : LR z R) (ho : ∀ i, i ≠ 0 → (i < 2 ∨ 6 < i) → i ≠ 8 → i ≠ 9 → z' i = z i) (hb : bN z ≤ bN z') (rr : ∀ r, 0 < r → R' r = R r) (h9 : R' 0 9 = R 0 9) (hg : rG z' R') : LR z' R' := by
  have eg : gN z' = gN z := by unfold gN; rw [ho 1 (by omega) (by omega) (by omega) (by omega)]
  have hL : ∀ l k, zL z' l k = zL z l k := fun l k => ho _ (by omega) (by omega) (by omega) (by omega)
  have hC : ∀ l k, zC z' l k = zC z l k := fun l k => ho _ (by omega) (by omega) (by omega) (by omega)
  have hH : ∀ l h k, zH z' l h k = zH z l h k := fun l h k => ho _ (by omega) (by omega) (by omega) (by omega)
  refine ⟨hg, ?_, ?_, ?_, ?_, ?_, ?_, ?_, ?_⟩
  · intro b hb
    rw [rr 1 (by omega), ho (10 + b) (by omega) (by omega) (by omega) (by omega)]
    exact hR.b b hb
  · intro l hl
    rw [eg] at hl
    obtain ⟨c, b, t, c1, c2, c3, c4, c5, c6, c7⟩ := hR.l l hl
    exact ⟨c, b, t, c1, c2, by omega, by rw [hL]; exact c4, by rw [hL]; exact c5, by rw [hL]; exact c6, by rw [rr 2 (by omega), whN_same (hL _ _) (hL _ _)]; exact c7⟩
  · intro d hd
    simp only [hC, rr 4 (by omega)]
    exact hR.c d hd
  · intro d h hd hh
    simp only [hH, rr 5 (by omega)]
    exact hR.k d h hd hh
  · obtain ⟨hp, hP⟩ := hR.p
    exact ⟨hp, hP.same eg (fun l _ => hL l 1) (fun l _ => hL l 5) h9 (rr 3 (by omega))⟩
  · rw [eg]; exact hR.n
  · intro d h hd hh q
    simp only [hH, hL] at q ⊢
    exact hR.e.1 d h hd hh q
  · intro l b hl hb q1 q2
    rw [eg] at hl
    simp only [hL] at q1 q2
    rw [ho (10 + b) (by omega) (by omega) (by omega) (by omega)]
    exact hR.e.2 l b hl hb q1 q2
end KP
/-! the program's step, with its save -/
def gz (z : Nat → Int32) : xWt := (fun k r => if k = 9 ∧ r = 0 then z else fun _ => 0, fun _ _ => 0, none)
theorem gz_z (z : Nat → Int32) : zz (gz z) = z := show (if (9 : Nat) = 9 ∧ (0 : Nat) = 0 then z else fun _ => 0) = z from if_pos ⟨rfl, rfl⟩
def PO (z z' : Nat → Int32) (v : Int32) (fP : xWt → Option (Int32 × xWt)) : Prop := ∀ w, YR 0 z w → ∃ wq, fP w = some (v, wq) ∧ dP w wq ∧ YR 0 z' wq
def SV1 (w : xWt) : Prop := ∃ s nx, 1 ≤ s ∧ s ≤ 6 ∧ nx < 6 ∧ w.2.1 8 2 = nI s ∧ w.2.1 8 1 = nI nx
theorem SV1.o {w : xWt} (h : SV1 w) : SV w := by
  obtain ⟨s, nx, -, a, b, c, d⟩ := h
  exact ⟨s, nx, a, b, c, d⟩
section PP
variable {z z' : Nat → Int32} {w : xWt} {B T B' T' : Nat} {fP fM : xWt → Option (Int32 × xWt)} {v : Int32} {wE : xWt}
theorem DO.ex (h0 : YR 0 z w) (hD : ∀ w, YR 0 z w → DO z B' T' w fP fM) (hM : fM (gz z) = some (v, wE)) : WF (zz wE) B' T' ∧ PO z (zz wE) v fP := by
  have key : ∀ w, YR 0 z w → ∃ wq, fP w = some (v, wq) ∧ dP w wq ∧ YR 0 (zz wE) wq ∧ WF (zz wE) B' T' := fun w hY => by
    obtain ⟨v', wq, wE', a1, a2, a3, a4, a5, a6⟩ := hD w hY (gz z) (gz_z z)
    have e := a3.symm.trans hM
    cases e
    exact ⟨wq, a1, a2, a5, a6⟩
  obtain ⟨wq, -, -, -, h⟩ := key w h0
  exact ⟨h, fun w hY => by
    obtain ⟨wq, a1, a2, a3, -⟩ := key w hY
    exact ⟨wq, a1, a2, a3⟩⟩
theorem DV.ex (h0 : YR 0 z w) (hD : ∀ w, YR 0 z w → DV z B' T' w fP fM) (hM : fM (gz z) = some (v, wE)) : WF (zz wE) B' T' ∧ PO z (zz wE) v fP :=
  DO.ex h0 (fun w hY => (hD w hY).mono (Nat.le_refl _) (Nat.le_refl _)) hM
theorem push_op (hY : YR 0 z w) (hS : SV w) (hP : PO z z' v fP) : ∃ w', bd (F_X5_push 0 w) (fun _ w3 => bd (fP w3) (fun x5 w4 => some ((Sum.inl x5 : Int32 ⊕ String), w4))) = some (.inl v, w') ∧ YR 0 z' w' ∧ SV1 w' ∧ w'.1 10 = w.1 10 := by
  obtain ⟨s, nx, c1, c2, c4, c5⟩ := hS
  obtain ⟨wp, e1, cp, n1, n2⟩ := p_push c5 c2 c4 c1
  have f1 : ∀ k r, k ≠ nx + 2 → wp.1 k r = w.1 k r := fun k r hk => cp.2.2.1 k r hk
  have f2 : ∀ j, wp.2.1 0 j = w.2.1 0 j := fun j => by
    have h3 := cp.2.2.2.1 0 j (by omega)
    rw [sF_ne _ _ (by omega), sF_ne _ _ (by omega)] at h3
    exact h3
  have hYp : YR 0 z wp := hY.rows (by omega) (fun r => f1 0 r (by omega)) f2
  obtain ⟨wq, a1, ⟨p1, p2, p3⟩, a3⟩ := hP wp hYp
  refine ⟨wq, by rw [e1, bd_s, a1, bd_s], a3, ⟨if s = 6 then 6 else s + 1, if nx = 5 then 0 else nx + 1, by split <;> omega, by split <;> omega, by split <;> omega, by rw [p2 8 2 (by omega)]; exact n2, by rw [p2 8 1 (by omega)]; exact n1⟩, ?_⟩
  funext r
  rw [p1 10 r (by omega), f1 10 r (by omega)]
end PP
/-- all that holds between two turns -/
def IN (z : Nat → Int32) (w : xWt) (B T : Nat) : Prop := WF z B T ∧ YR 0 z w ∧ LR z (w.1 10) ∧ SV w
/-- what one step of the law does -/
def ST (w : xWt) (B T : Nat) (o : Option (Int32 × xWt)) : Prop := ∃ z' w', o = some (1, w') ∧ IN z' w' B T ∧ (SV1 w → SV1 w')
theorem LR.dL {z : Nat → Int32} {w w' : xWt} (h : w'.1 10 = w.1 10) (hR : LR z (w.1 10)) : LR z (w'.1 10) := by rw [h]; exact hR
