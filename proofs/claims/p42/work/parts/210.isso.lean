/-! all that the law reads between two turns -/
theorem lw_l (v : Int32) (w : xWt) (Es : List (String × Int32)) : lwrap (some ((.inl v : Int32 ⊕ String), w)) Es = some (v, w) := rfl
theorem lw_1 (E : String) (n : Int32) (r : List (String × Int32)) (w : xWt) : lwrap (some ((.inr E : Int32 ⊕ String), w)) ((E, n) :: r) = some (n, w) := by
  show (hcode ((E, n) :: r) E).map (fun n => (n, w)) = _
  unfold hcode
  rw [if_pos rfl]
  rfl
theorem lw_2 {E E1 : String} (h : E ≠ E1) (n m : Int32) (r : List (String × Int32)) (w : xWt) : lwrap (some ((.inr E : Int32 ⊕ String), w)) ((E1, n) :: (E, m) :: r) = some (m, w) := by
  show (hcode ((E1, n) :: (E, m) :: r) E).map (fun n => (n, w)) = _
  unfold hcode
  rw [if_neg h]
  unfold hcode
  rw [if_pos rfl]
  rfl
theorem lw_3 {E E1 E2 : String} (h : E ≠ E1) (h2 : E ≠ E2) (n m k : Int32) (r : List (String × Int32)) (w : xWt) : lwrap (some ((.inr E : Int32 ⊕ String), w)) ((E1, n) :: (E2, m) :: (E, k) :: r) = some (k, w) := by
  show (hcode ((E1, n) :: (E2, m) :: (E, k) :: r) E).map (fun n => (n, w)) = _
  unfold hcode
  rw [if_neg h]
  unfold hcode
  rw [if_neg h2]
  unfold hcode
  rw [if_pos rfl]
  rfl
theorem neAI : eA' ≠ eI' := by decide
theorem neSI : eS' ≠ eI' := by decide
theorem neSA : eS' ≠ eA' := by decide
/-- sums -/
def sm1 (f : Nat → Nat) : Nat → Nat
  | 0 => 0
  | n + 1 => sm1 f n + f n
theorem sm1_congr {f g : Nat → Nat} {n : Nat} (h : ∀ i, i < n → f i = g i) : sm1 f n = sm1 g n := by
  induction n with
  | zero => rfl
  | succ n ih => unfold sm1; rw [ih (fun i hi => h i (by omega)), h n (by omega)]
theorem sm1_add (f g : Nat → Nat) (n : Nat) : sm1 (fun i => f i + g i) n = sm1 f n + sm1 g n := by
  induction n with
  | zero => rfl
  | succ n ih => unfold sm1; rw [ih]; omega
theorem sm1_cn (p : Nat → Bool) (n : Nat) : sm1 (fun i => if p i then 1 else 0) n = cn p n := by
  induction n with
  | zero => rfl
  | succ n ih => unfold sm1 cn; rw [ih]
theorem sm1_zero (n : Nat) : sm1 (fun _ => 0) n = 0 := by
  induction n with
  | zero => rfl
  | succ n ih => unfold sm1; rw [ih]
theorem cn_uniq {p : Nat → Bool} {l n : Nat} (hl : l < n) (hp : p l = true) (h : ∀ i, i < n → p i = true → i = l) : cn p n = 1 := by
  induction n with
  | zero => omega
  | succ n ih =>
    unfold cn
    by_cases e : l = n
    · subst e
      rw [if_pos hp, (cn_0 p l).mpr (fun i hi => Bool.eq_false_iff.mpr (fun r => by have := h i (by omega) r; omega))]
    · rw [ih (by omega) (fun i hi r => h i (by omega) r), if_neg (fun r => e (h n (by omega) r).symm)]
/-- hooks counted by leaves are hooks counted -/
theorem dbl (p : Nat → Nat → Bool) (q : Nat → Bool) (g : Nat) : ∀ m, (∀ i, i < m → (q i = true ∧ ∃ l, l < g ∧ p l i = true ∧ ∀ l', l' < g → p l' i = true → l' = l) ∨ (q i = false ∧ ∀ l, l < g → p l i = false)) → sm1 (fun l => cn (p l) m) g = cn q m := by
  intro m
  induction m with
  | zero => intro _; exact sm1_zero g
  | succ m ih =>
    intro h
    have e : sm1 (fun l => cn (p l) (m + 1)) g = sm1 (fun l => cn (p l) m) g + sm1 (fun l => if p l m then 1 else 0) g := (sm1_add _ _ g)
    rw [e, ih (fun i hi => h i (by omega)), sm1_cn (fun l => p l m)]
    show _ = cn q m + (if q m then 1 else 0)
    congr 1
    rcases h m (by omega) with ⟨h1, l, h2, h3, h4⟩ | ⟨h1, h2⟩
    · rw [if_pos h1]
      exact cn_uniq h2 h3 h4
    · rw [if_neg (by rw [h1]; decide)]
      exact (cn_0 _ _).mpr h2
theorem iter_last {σ : Type} (step : Nat → σ → σ) : ∀ (m i : Nat) (s : σ), iter step i (m + 1) s = step (i + m) (iter step i m s) := by
  intro m
  induction m with
  | zero => intro i s; rfl
  | succ m ih =>
    intro i s
    show iter step (i + 1) (m + 1) (step i s) = step (i + (m + 1)) (iter step (i + 1) m (step i s))
    rw [ih (i + 1), show i + 1 + m = i + (m + 1) by omega]
def SV (w : xWt) : Prop := ∃ s nx, s ≤ 6 ∧ nx < 6 ∧ w.2.1 8 2 = nI s ∧ w.2.1 8 1 = nI nx
section IS
variable {z : Nat → Int32} {w : xWt} {B T c l h b : Nat} {hp hl : List Nat}
theorem x_raked (hW : WF z B T) (hY : YR 0 z w) (hc : c < 5) (ht : zC z c 0 = 1) {s : Int32} (hs : s = 0 ∨ s = 1) : F_X7_ifRaked (nI c) s w = some (.inl (nI (cn (fun l => oB z c l && mB z l s) (gN z))), w) := by
  unfold F_X7_ifRaked
  rw [p_needChildY hY hc ht, bx_l]
  rcases hs with rfl | rfl
  · rw [if_pos rfl, p_burnable hW hY hc (Or.inl rfl), bd_s]
  · rw [if_neg (by decide), if_pos rfl, p_burnable hW hY hc (Or.inr rfl), bd_s]
theorem p_needChildN (hY : YR 0 z w) (hc : c < 5) (ht : zC z c 0 ≠ 1) : F_X7_needChild (nI c) w = some (.inr eI', w) := by
  unfold F_X7_needChild
  rw [p_isHere hY hc, if_neg (by unfold ch; simp [ht]), bd_s, if_pos rfl]
theorem x_noChild (hY : YR 0 z w) (hc : c < 5) (ht : zC z c 0 ≠ 1) : F_L_child (nI c) 0 w = some (-31, w) := by
  unfold F_L_child F_X7_child
  rw [p_needChildN hY hc ht, bx_r]
  exact lw_1 _ _ _ _
theorem l_areCh (hW : WF z B T) (h18 : B < 2 ^ 18) (hY : YR 0 z w) (hR : LR z (w.1 10)) : L_L_areChildren_9 6 (-1) 0 0 w = some ((bI (iter (bS z) 0 5 (none, 0)).1, nI (iter (bS z) 0 5 (none, 0)).2, nI 5), w) := by
  have h120 := hW.g120
  exact (up_loop (fun n i (s : Option Nat × Nat) => L_L_areChildren_9 n (bI s.1) (nI s.2) (nI i) w) (bS z) (fun s => ((bI s.1, nI s.2, nI 5), w)) 5 (fun _ s => bV s)
    (fun n i s hi hI => ⟨by
      have b1 := bR_le z i
      have b2 := hN_le z i
      have b3 := hI.1
      show B_L_areChildren_9 (L_L_areChildren_9 n) (bI s.1) (nI s.2) (nI i) w = _
      unfold B_L_areChildren_9
      rw [if_neg (lt5 hi), ix60, a4 (by omega), (hR.c i hi).1]
      unfold bS
      by_cases ht : zC z i 0 = 1
      · rw [if_neg (show ¬ zC z i 0 = 0 by rw [ht]; decide), l_isChild hW h18 hY hR hi ht, bd_s, if_neg (show ¬ (1 : Int32) = 0 by decide), x_raked hW hY hi ht (Or.inl rfl), bi_l, l_burns hW h18 hR hi (Or.inl rfl), bd_s, if_pos rfl, x_raked hW hY hi ht (Or.inr rfl), bi_l, l_burns hW h18 hR hi (Or.inr rfl), bd_s, if_pos rfl, a0_8, hR.g.2.2.2.2.2.2.2.2, l_burns hW h18 hR hi (z9 hW), bd_s, nI_1]
        show bd (α := Int32 × Int32) (if nI s.2 < nI (bR z i) then _ else (if nI (bR z i) ≤ 0 then _ else (if nI (bR z i) = nI s.2 then _ else _))) _ = _
        by_cases q1 : s.2 < bR z i
        · rw [if_pos (nI_lt q1 (by omega)), bd_s, if_pos q1]
          rfl
        · rw [if_neg (nI_nlt (by omega) (by omega)), if_neg q1]
          by_cases q2 : bR z i = 0
          · rw [if_pos (show nI (bR z i) ≤ 0 by rw [q2]; decide), bd_s, if_pos q2]
          · rw [if_neg (nI_nle (by omega) (by omega)), if_neg q2]
            by_cases q3 : bR z i = s.2
            · rw [if_pos (congrArg nI q3), if_pos q3]
              cases hs1 : s.1 with
              | none => exact absurd ((hI.2.1 hs1)) (by omega)
              | some b =>
                have hb := hI.2.2 b hs1
                have b4 := hN_le z b
                rw [l_heap hW h18 hR hi, bd_s]
                show bd (α := Int32 × Int32) (bd (F_L_heap (nI b) w) _) _ = _
                rw [l_heap hW h18 hR hb, bd_s]
                dsimp only
                by_cases q4 : hN z i ≤ hN z b
                · rw [if_pos (nI_le q4 (by omega)), bd_s, if_pos q4, hs1]
                · rw [if_neg (nI_ge (by omega) (by omega)), bd_s, if_neg q4]
                  rfl
            · rw [if_neg (fun r => q3 (nI_inj (by omega) (by omega) r)), bd_s, if_neg q3]
      · have e0 : bR z i = 0 := (cn_0 _ _).mpr fun l hl => by rw [absent_heap hW hi ht l hl]; rfl
        rw [if_pos ((hW.th hi).resolve_right ht), x_noChild hY hi ht, bd_s, if_pos rfl, bd_s, e0, if_neg (by omega), if_pos rfl, nI_1], bV_step h120 hi hI⟩)
    (fun n s _ => by
      show B_L_areChildren_9 (L_L_areChildren_9 n) (bI s.1) (nI s.2) (nI 5) w = _
      unfold B_L_areChildren_9
      rw [if_pos (show (5 : Int32) ≤ nI 5 from Int32.le_refl _)]) 5 0 (none, 0) 6 (by omega) (by omega) ⟨by decide, fun _ => rfl, fun b q => by cases q⟩).1
theorem l_areChildren (hW : WF z B T) (h18 : B < 2 ^ 18) (hY : YR 0 z w) (hR : LR z (w.1 10)) : F_L_areChildren w = some (1, w) := by
  unfold F_L_areChildren F_X7_bestRake
  rw [l_areCh hW h18 hY hR, bd_s, p_bestHeap hW hY, bd_s, bd_s, if_pos rfl]
def s27 (z : Nat → Int32) (i : Nat) (s : Nat × Nat × (Int32 × Int32) × Nat × Nat) : Nat × Nat × (Int32 × Int32) × Nat × Nat := (if zL z i 1 == 2 then s.1 + 1 else s.1, if zL z i 1 == 0 then s.2.1 + 1 else s.2.1, mhS z i s.2.2.1, s.2.2.2.1 + cn (hB z 2 (nI i)) 15, s.2.2.2.2 + cn (hB z 1 (nI i)) 15)
def v27 (z : Nat → Int32) (i : Nat) : Nat × Nat × (Int32 × Int32) × Nat × Nat := (cn (fun l => zL z l 1 == 2) i, cn (fun l => zL z l 1 == 0) i, iter (mhS z) 0 i (-1, 0), sm1 (fun l => cn (hB z 2 (nI l)) 15) i, sm1 (fun l => cn (hB z 1 (nI l)) 15) i)
theorem v27_step (z : Nat → Int32) (i : Nat) : s27 z i (v27 z i) = v27 z (i + 1) := by
  unfold s27 v27
  rw [iter_last (mhS z) i 0, Nat.zero_add]
  dsimp only
  refine Prod.ext ?_ (Prod.ext ?_ rfl)
  · show (if _ then _ else _) = cn _ i + (if _ then 1 else 0)
    split <;> rfl
  · show (if _ then _ else _) = cn _ i + (if _ then 1 else 0)
    split <;> rfl
theorem l_isSo27 (hW : WF z B T) (h18 : B < 2 ^ 18) (hR : LR z (w.1 10)) : L_L_isSo_27 9999 0 0 (-1) 0 0 0 0 0 0 w = some ((nI (v27 z (gN z)).1, nI (v27 z (gN z)).2.1, (v27 z (gN z)).2.2.1.1, (v27 z (gN z)).2.2.1.2, nI (v27 z (gN z)).2.2.2.1, nI (v27 z (gN z)).2.2.2.2, nI (gN z)), w) := by
  have hn := hR.n
  have h := up_loop (fun n i (s : Nat × Nat × (Int32 × Int32) × Nat × Nat) => L_L_isSo_27 n (nI s.1) (nI s.2.1) s.2.2.1.1 s.2.2.1.2 (nI s.2.2.2.1) (nI s.2.2.2.2) 0 0 (nI i) w) (s27 z) (fun s => ((nI s.1, nI s.2.1, s.2.2.1.1, s.2.2.1.2, nI s.2.2.2.1, nI s.2.2.2.2, nI (gN z)), w)) (gN z) (fun i s => s = v27 z i)
    (fun n i s hi hI => ⟨by
      show B_L_isSo_27 (L_L_isSo_27 n) (nI s.1) (nI s.2.1) s.2.2.1.1 s.2.2.1.2 (nI s.2.2.2.1) (nI s.2.2.2.2) 0 0 (nI i) w = _
      unfold B_L_isSo_27
      rw [a0_1, hR.g.2.1, hW.g, if_neg (nI_ge hi (by omega)), l_pins hR.k, pn9, bd_s, l_wh hW h18 hR hi, bd_s]
      have e1 : (if whV z i = (-2) then some ((1 : Int32), w) else some (0, w)) = some (if zL z i 1 = 2 then 1 else 0, w) := by
        by_cases q : zL z i 1 = 2
        · rw [if_pos ((wh_m2 hW hi).mpr q), if_pos q]
        · rw [if_neg (fun r => q ((wh_m2 hW hi).mp r)), if_neg q]
      have e2 : (if whV z i = (-1) then some ((1 : Int32), w) else some (0, w)) = some (if zL z i 1 = 0 then 1 else 0, w) := by
        by_cases q : zL z i 1 = 0
        · rw [if_pos ((wh_m1 hW hi).mpr q), if_pos q]
        · rw [if_neg (fun r => q ((wh_m1 hW hi).mp r)), if_neg q]
      have e3 : ∀ {β : Type} (a b : β), (if nI (cn (hB z 2 (nI i)) 15) ≤ s.2.2.1.2 then some (a, w) else some (b, w)) = some (if nI (cn (hB z 2 (nI i)) 15) ≤ s.2.2.1.2 then a else b, w) := fun a b => by
        by_cases q : nI (cn (hB z 2 (nI i)) 15) ≤ s.2.2.1.2
        · rw [if_pos q, if_pos q]
        · rw [if_neg q, if_neg q]
      rw [e1, bd_s, l_wh hW h18 hR hi, bd_s, e2, bd_s, l_pins hR.k, pn9, bd_s, e3, bd_s, e3, bd_s, nI_add, nI_add, nI_1]
      unfold s27 mhS
      dsimp only
      have t1 : nI s.1 + (if zL z i 1 = 2 then (1 : Int32) else 0) = nI (if zL z i 1 == 2 then s.1 + 1 else s.1) := by
        by_cases q : zL z i 1 = 2
        · rw [if_pos q, if_pos (by simp [q]), nI_1]
        · rw [if_neg q, if_neg (by simp [q]), nI_add0]
      have t2 : nI s.2.1 + (if zL z i 1 = 0 then (1 : Int32) else 0) = nI (if zL z i 1 == 0 then s.2.1 + 1 else s.2.1) := by
        by_cases q : zL z i 1 = 0
        · rw [if_pos q, if_pos (by simp [q]), nI_1]
        · rw [if_neg q, if_neg (by simp [q]), nI_add0]
      rw [t1, t2]
      by_cases q : nI (cn (hB z 2 (nI i)) 15) ≤ s.2.2.1.2
      · rw [if_pos q, if_pos q, if_pos q]
      · rw [if_neg q, if_neg q, if_neg q], by rw [hI]; exact v27_step z i⟩)
    (fun n s _ => by
      show B_L_isSo_27 (L_L_isSo_27 n) (nI s.1) (nI s.2.1) s.2.2.1.1 s.2.2.1.2 (nI s.2.2.2.1) (nI s.2.2.2.2) 0 0 (nI (gN z)) w = _
      unfold B_L_isSo_27
      rw [a0_1, hR.g.2.1, hW.g, if_pos (Int32.le_refl _)]) (gN z) 0 (0, 0, (-1, 0), 0, 0) 9999 (by omega) (by omega) rfl
  have h1 := h.1
  rw [h.2] at h1
  exact h1
theorem l_isSo149 (hW : WF z B T) (hR : LR z (w.1 10)) (x1 x2 x3 x4 x5 x6 : Int32) : L_L_isSo_149 9999 x1 x2 x3 x4 x5 x6 0 0 0 w = some ((mk (ch z) 5, nI (cn (yI z) 5), nI 5), w) := by
  have h := up_loop (fun n i (s : Int32 × Nat) => L_L_isSo_149 n x1 x2 x3 x4 x5 x6 s.1 (nI s.2) (nI i) w) (fun c s => (s.1 ||| (if ch z c then bit c else 0), s.2 + (if yI z c then 1 else 0))) (fun s => ((s.1, nI s.2, nI 5), w)) 5 (fun i s => s = (mk (ch z) i, cn (yI z) i))
    (fun n i s hi hI => ⟨by
      obtain ⟨r0, r1, -⟩ := hR.c i hi
      show B_L_isSo_149 (L_L_isSo_149 n) x1 x2 x3 x4 x5 x6 s.1 (nI s.2) (nI i) w = _
      unfold B_L_isSo_149
      rw [if_neg (lt5 hi), ix60, nI_1 (6 * i), a4 (by omega), a4 (by omega), r0, r1, nI_1]
      have t1 : zC z i 0 <<< (nI i &&& 31) = if ch z i then bit i else 0 := by
        unfold ch
        rcases hW.th hi with q | q
        · rw [q, shl_01 i hi]; rfl
        · rw [q]; rfl
      have t2 : zC z i 1 = nI (if yI z i then 1 else 0) := by
        unfold yI
        rcases hW.c i hi with ⟨-, q, -⟩ | ⟨-, ⟨q, -⟩ | ⟨q, -⟩⟩
        · rw [q]; rfl
        · rw [q]; rfl
        · rw [q]; rfl
      rw [t1, t2, nI_add], by rw [hI]; rfl⟩)
    (fun n s _ => by
      show B_L_isSo_149 (L_L_isSo_149 n) x1 x2 x3 x4 x5 x6 s.1 (nI s.2) (nI 5) w = _
      unfold B_L_isSo_149
      rw [if_pos (show (5 : Int32) ≤ nI 5 from Int32.le_refl _)]) 5 0 (0, 0) 9999 (by omega) (by omega) rfl
  have h1 := h.1
  rw [h.2] at h1
  exact h1
theorem sum_k (hW : WF z B T) {kd : Int32} (hk : kd = 2 ∨ kd = 1) : sm1 (fun l => cn (hB z kd (nI l)) 15) (gN z) = cn (kB z kd) 15 := by
  have h120 := hW.g120
  refine dbl (fun l i => hB z kd (nI l) i) (kB z kd) (gN z) 15 (fun i hi => ?_)
  have hH := hW.h (i / 3) (i % 3) (by omega) (by omega)
  by_cases q : zH z (i / 3) (i % 3) 0 = kd
  · have hq : kB z kd i = true := by unfold kB; simp [q]
    have hl : ∃ l, l < gN z ∧ zH z (i / 3) (i % 3) 1 = nI l := by
      rcases hH with ⟨k0, -⟩ | ⟨k0, l, b, hl, hb, k1, -⟩ | ⟨k0, l, hl, k1, -⟩
      · rw [k0] at q
        rcases hk with r | r
        · rw [r] at q; exact absurd q (by decide)
        · rw [r] at q; exact absurd q (by decide)
      · exact ⟨l, hl, k1⟩
      · exact ⟨l, hl, k1⟩
    obtain ⟨l, hl, e⟩ := hl
    refine Or.inl ⟨hq, l, hl, by unfold hB; simp [q, e], fun l' hl' r => ?_⟩
    unfold hB at r
    rw [Bool.and_eq_true, e] at r
    exact (nI_inj (by omega) (by omega) (by simpa using r.2)).symm
  · refine Or.inr ⟨by unfold kB; simp [q], fun l hl => by unfold hB; simp [q]⟩
theorem x_count (hW : WF z B T) (hY : YR 0 z w) {s : Nat} (hs : w.2.1 8 2 = nI s) {k : Nat} (hk : k < 16) : F_X7_count (nI k) w = some (.inl (countV z s k), w) := by
  unfold F_X7_count
  rw [show F_X7_needWhat (nI k) 15 w = some (.inl (), w) from p_needWhatY (N := 15) (by omega) (by decide), bx_l, p_countV hW hY hs hk, bd_s]
theorem x_set0 (hY : YR 0 z w) : F_X7_setting 0 w = some (.inl (z 8), w) := by
  unfold F_X7_setting F_X7_needSetting F_X6_valueOf
  rw [if_neg (by decide), if_pos (by decide), bx_l, if_pos rfl, hY.f.2.1, bd_s]
theorem x_set1 (hY : YR 0 z w) : F_X7_setting 1 w = some (.inl (z 9), w) := by
  unfold F_X7_setting F_X7_needSetting F_X6_valueOf
  rw [if_neg (by decide), if_pos (by decide), bx_l, if_neg (by decide), hY.f.2.2.1, bd_s]
theorem l_isSo (hW : WF z B T) (h18 : B < 2 ^ 18) (hY : YR 0 z w) (hR : LR z (w.1 10)) (hS : SV w) : F_L_isSo w = some (1, w) := by
  obtain ⟨s, nx, s1, s2, hs, s4⟩ := hS
  obtain ⟨hp, hP⟩ := hR.p
  obtain ⟨g0, g1, g2, g3, g4, g5, g6, g7, g8⟩ := hR.g
  have h120 := hW.g120
  have g9 : w.1 10 0 9 = nI (asN z) := by rw [hP.2.2.1, ← hP.len]; rfl
  have c0 : F_X7_count 0 w = some (.inl (mk (ch z) 5), w) := x_count hW hY hs (k := 0) (by decide)
  have c1 : F_X7_count 1 w = some (.inl (nI (cn (ch z) 5)), w) := x_count hW hY hs (k := 1) (by decide)
  have c2 : F_X7_count 2 w = some (.inl (nI (cn (yI z) 5)), w) := x_count hW hY hs (k := 2) (by decide)
  have c3 : F_X7_count 3 w = some (.inl (z 0), w) := x_count hW hY hs (k := 3) (by decide)
  have c4 : F_X7_count 4 w = some (.inl (z 1), w) := x_count hW hY hs (k := 4) (by decide)
  have c5 : F_X7_count 5 w = some (.inl (nI (v27 z (gN z)).2.1), w) := x_count hW hY hs (k := 5) (by decide)
  have c6 : F_X7_count 6 w = some (.inl (nI (asN z)), w) := x_count hW hY hs (k := 6) (by decide)
  have c7 : F_X7_count 7 w = some (.inl (nI (v27 z (gN z)).1), w) := x_count hW hY hs (k := 7) (by decide)
  have c8 : F_X7_count 8 w = some (.inl (nI (v27 z (gN z)).2.2.2.1), w) := by
    rw [show F_X7_count 8 w = some (.inl (nI (cn (kB z 2) 15)), w) from x_count hW hY hs (k := 8) (by decide), ← sum_k hW (Or.inl rfl)]; rfl
  have c9 : F_X7_count 9 w = some (.inl (nI (v27 z (gN z)).2.2.2.2), w) := by
    rw [show F_X7_count 9 w = some (.inl (nI (cn (kB z 1) 15)), w) from x_count hW hY hs (k := 9) (by decide), ← sum_k hW (Or.inr rfl)]; rfl
  have c10 : F_X7_count 10 w = some (.inl (z 2), w) := x_count hW hY hs (k := 10) (by decide)
  have c11 : F_X7_count 11 w = some (.inl (z 3), w) := x_count hW hY hs (k := 11) (by decide)
  have c12 : F_X7_count 12 w = some (.inl (z 4), w) := x_count hW hY hs (k := 12) (by decide)
  have c13 : F_X7_count 13 w = some (.inl (z 5), w) := x_count hW hY hs (k := 13) (by decide)
  have c14 : F_X7_count 14 w = some (.inl (z 6), w) := x_count hW hY hs (k := 14) (by decide)
  have cl : F_X7_late w = some (mk (lO z) 5, w) := by
    unfold F_X7_late
    rw [hY.f.1, p_maskOfLate hW hY, bd_s]
  have ca : F_X7_ifAllRested w = some (nI (asN z), w) := by
    unfold F_X7_ifAllRested
    rw [p_burnableIfAllRested hW (by omega) hY, bd_s]; rfl
  have cm : F_X7_mostHeld w = some ((v27 z (gN z)).2.2.1.1, w) := by
    unfold F_X7_mostHeld
    rw [p_mostPinned hW hY, bd_s]; rfl
  have hok := okD_1 (shV_ok (z := z) h120)
  have hokF := okF_1 (fuV_ok hW)
  have hbr := br_as z
  have cs : (if (nI (v27 z (gN z)).1 + nI (asN z)) = 0 then some (FP.dconst1, w) else ald w 10 0 9 (fun x90 => nd (FP.ddiv (FP.i2d (nI (v27 z (gN z)).1)) (FP.i2d (nI (v27 z (gN z)).1 + x90))) (fun x91 => some (x91, w)))) = some (shV z, w) := by
    show (if (nI (brN z) + nI (asN z)) = 0 then some (FP.dconst1, w) else ald w 10 0 9 (fun x90 => nd (FP.ddiv (FP.i2d (nI (brN z))) (FP.i2d (nI (brN z) + x90))) (fun x91 => some (x91, w)))) = some (shV z, w)
    rw [a0_9, g9, nI_add]
    unfold shV at hok ⊢
    by_cases q : brN z + asN z = 0
    · rw [if_pos q, q, if_pos (show nI 0 = 0 from rfl)]
    · rw [if_neg q] at hok ⊢
      rw [if_neg (nI_ne0 (by omega) (by omega))]
      exact nd_some hok.1 _
  obtain ⟨e8, r1, r2, r3, r4⟩ := ro_in hW
  have cf : z 8 * nI (cn (ch z) 5) = nI (roN z) := by
    rw [e8, nI_mul]; rfl
  unfold F_L_isSo
  rw [l_isSo27 hW h18 hR, bd_s]
  dsimp only
  rw [l_isSo149 hW hR, bd_s]
  dsimp only
  rw [c0, bi_l, if_pos rfl, c1, bi_l, l_children hW hR, bd_s, if_pos rfl, c2, bi_l, if_pos rfl, c3, bi_l, a0_0, g0, if_pos rfl, c4, bi_l, a0_1, g1, if_pos rfl, c5, bi_l, if_pos rfl, c6, bi_l, a0_9, g9, if_pos rfl, c7, bi_l, if_pos rfl, c8, bi_l, if_pos rfl, c9, bi_l, if_pos rfl, c10, bi_l, a0_2, g2, if_pos rfl, c11, bi_l, a0_3, g3, if_pos rfl, c12, bi_l, a0_4, g4, if_pos rfl, c13, bi_l, a0_5, g5, if_pos rfl, c14, bi_l, a0_6, g6, if_pos rfl, x_set0 hY, bi_l, a0_7, g7, if_pos rfl, x_set1 hY, bi_l, a0_8, g8, if_pos rfl, cl, bd_s, l_late hR, bd_s, if_pos rfl, ca, bd_s, a0_9, g9, if_pos rfl, cm, bd_s, if_pos rfl, p_share hW hY, bd_s, a0_9, g9, cs, bd_s, if_pos hok.2, p_full hW hY, bd_s, a0_9, g9, a0_7, g7, l_children hW hR, bd_s, cf]
  refine (nf_some hokF.1 _).trans ?_
  show (if Op.cmpValue (FP.fcmp (fuV z) (fuV z)) .l = 0 then _ else _) = _
  rw [if_pos hokF.2.1, l_areLeaves hW h18 hY hR, bd_s, if_neg (show ¬ (1 : Int32) = 0 by decide), l_areChildren hW h18 hY hR, bd_s, if_neg (show ¬ (1 : Int32) = 0 by decide)]
end IS
