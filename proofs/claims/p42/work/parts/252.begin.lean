/-! the start: the yard is fresh, and the law's rows are filled -/
def zB (i : Nat) : Int32 := if i = 8 then 4 else if i < 10 then 0 else if i < 22 then -1 else if i < 742 then 0 else (if (i - 742) % 15 = 0 then (if (i - 742) / 15 < 2 then 1 else 0) else if (i - 742) % 15 = 2 then -1 else if (i - 742) % 15 < 6 then 0 else if (i - 742) % 15 % 3 = 0 then 0 else -1)
theorem zB_C (c k : Nat) (hk : k < 15) : zB (742 + 15 * c + k) = (if k = 0 then (if c < 2 then 1 else 0) else if k = 2 then -1 else if k < 6 then 0 else if k % 3 = 0 then 0 else -1) := by
  unfold zB
  rw [show (742 + 15 * c + k - 742) % 15 = k by omega, show (742 + 15 * c + k - 742) / 15 = c by omega, if_neg (show ¬ 742 + 15 * c + k = 8 by omega), if_neg (show ¬ 742 + 15 * c + k < 10 by omega), if_neg (show ¬ 742 + 15 * c + k < 22 by omega), if_neg (show ¬ 742 + 15 * c + k < 742 by omega)]
theorem zB_0 (c : Nat) : zC zB c 0 = if c < 2 then 1 else 0 := zB_C c 0 (by omega)
theorem zB_1 (c : Nat) : zC zB c 1 = 0 := zB_C c 1 (by omega)
theorem zB_2 (c : Nat) : zC zB c 2 = -1 := zB_C c 2 (by omega)
theorem zB_3 (c : Nat) : zC zB c 3 = 0 := zB_C c 3 (by omega)
theorem zB_4 (c : Nat) : zC zB c 4 = 0 := zB_C c 4 (by omega)
theorem zB_5 (c : Nat) : zC zB c 5 = 0 := zB_C c 5 (by omega)
theorem zB_H (c h k : Nat) (hh : h < 3) (hk : k < 3) : zH zB c h k = if k = 0 then 0 else -1 := by
  unfold zH
  rw [zB_C c (6 + 3 * h + k) (by omega), if_neg (show ¬ 6 + 3 * h + k = 0 by omega), if_neg (show ¬ 6 + 3 * h + k = 2 by omega), if_neg (show ¬ 6 + 3 * h + k < 6 by omega), show (6 + 3 * h + k) % 3 = k by omega]
theorem zB_b (b : Nat) (hb : b < 12) : zB (10 + b) = -1 := by
  unfold zB
  rw [if_neg (show ¬ 10 + b = 8 by omega), if_neg (show ¬ 10 + b < 10 by omega), if_pos (show 10 + b < 22 by omega)]
theorem zB_g : gN zB = 0 := by decide
theorem zB_n : bN zB = 0 := by decide
theorem zB_t : tN zB = 0 := by decide
theorem zB_W : WF zB 0 0 := by
  refine ⟨⟨by decide, by decide, by decide, by decide, by decide, by decide, ⟨4, by omega, by omega, by decide⟩, Or.inl (by decide)⟩, fun b hb => Or.inl (zB_b b hb), fun l hl => absurd hl (by rw [zB_g]; omega), fun c hc => ?_, fun c h hc hh => Or.inl ⟨zB_H c h 0 hh (by omega), zB_H c h 1 hh (by omega), zB_H c h 2 hh (by omega)⟩, 0, by omega, by rw [zB_0]; decide⟩
  by_cases q : c < 2
  · exact Or.inr ⟨by rw [zB_0, if_pos q], Or.inl ⟨zB_1 c, zB_2 c⟩⟩
  · exact Or.inl ⟨by rw [zB_0, if_neg q], zB_1 c, zB_2 c, fun h hh => zB_H c h 0 hh (by omega)⟩
theorem w0_6 (c : Nat) (hc : c < 5) : w0.1 0 6 c = if c < 2 then 1 else 0 := by
  show upd (upd (fun _ => 0) 0 1) 1 1 c = _
  obtain rfl | rfl | rfl | rfl | rfl : c = 0 ∨ c = 1 ∨ c = 2 ∨ c = 3 ∨ c = 4 := by omega
  all_goals decide
theorem zB_Y : YR 0 zB w0 := by
  refine ⟨⟨by decide, by decide, by decide, by decide, by decide, by decide, by decide, by decide, by decide⟩, fun b hb => ?_, fun l hl => absurd hl (by rw [zB_g]; omega), fun c hc => ⟨?_, ?_, fun _ => ⟨?_, ?_, ?_⟩⟩, fun c h hc hh => ?_, fun c hc => ⟨[], ⟨fun l => ?_, List.Pairwise.nil⟩, rfl, fun p l hp => by simp at hp⟩⟩
  · rw [zB_b b hb]; rfl
  · rw [zB_0]; exact w0_6 c hc
  · rw [zB_2]; rfl
  · rw [zB_3]; rfl
  · rw [zB_4]; rfl
  · rw [zB_5]; rfl
  · rw [zB_H c h 0 hh (by omega), zB_H c h 2 hh (by omega), if_neg (by decide), if_neg (by decide)]
    exact ⟨rfl, rfl, rfl⟩
  · rw [zB_g]
    constructor
    · intro q; simp at q
    · rintro ⟨q, -⟩; omega
section BG
variable {w w1 : xWt} {c i L : Nat} {xs : Nat → Int32}
theorem f_50 : ∀ (m i n : Nat) (w : xWt), i + m = 12 → m < n → (∀ b, b < i → w.1 10 1 b = -1) → ∃ w1, L_L_law_50 n (nI i) w = some (nI 12, w1) ∧ dL w w1 ∧ (∀ r, r ≠ 1 → w1.1 10 r = w.1 10 r) ∧ ∀ b, b < 12 → w1.1 10 1 b = -1 := by
  intro m
  induction m with
  | zero =>
    intro i n w h hn hb
    have hi : i = 12 := by omega
    subst hi
    obtain ⟨k, rfl⟩ : ∃ k, n = k + 1 := ⟨n - 1, by omega⟩
    refine ⟨w, ?_, dL.rf w, fun _ _ => rfl, hb⟩
    show B_L_law_50 (L_L_law_50 k) (nI 12) w = _
    unfold B_L_law_50
    rw [if_pos (show (12 : Int32) ≤ nI 12 from Int32.le_refl _)]
  | succ m ih =>
    intro i n w h hn hb
    obtain ⟨k, rfl⟩ : ∃ k, n = k + 1 := ⟨n - 1, by omega⟩
    obtain ⟨w1, e, hd, hr, h1⟩ := ih (i + 1) k (lS w 1 i (-1)) (by omega) (by omega) (fun b hb' => by
      rw [lS_eq]
      by_cases q : b = i
      · rw [q, upd_eq]
      · rw [upd_ne _ _ q]
        exact hb b (by omega))
    refine ⟨w1, ?_, ((dL.rf w).s _ _ _).trans hd, fun r q => by rw [hr r q, lS_ne _ _ _ q], h1⟩
    show B_L_law_50 (L_L_law_50 k) (nI i) w = _
    unfold B_L_law_50
    rw [if_neg (show ¬ (12 : Int32) ≤ nI i from nI_ge (b := 12) (by omega) (by omega)), s1 (by omega), nI_1]
    exact e
/-- the children's rows as far as c -/
def FC (w : xWt) (i : Nat) : Prop := ∀ c, c < i → w.1 10 4 (6 * c + 1) = 0 ∧ w.1 10 4 (6 * c + 2) = -1 ∧ ∀ h, h < 3 → w.1 10 5 (6 * c + 2 * h) = 0 ∧ w.1 10 5 (6 * c + 2 * h + 1) = -1
theorem f_71 : ∀ (m i n : Nat) (w : xWt), i + m = 5 → m < n → FC w i → (∀ c k, c < 5 → k < 6 → k ≠ 1 → k ≠ 2 → w.1 10 4 (6 * c + k) = 0) → ∃ w1, L_L_law_71 n (nI i) w = some (nI 5, w1) ∧ dL w w1 ∧ (∀ r, r < 4 → w1.1 10 r = w.1 10 r) ∧ FC w1 5 ∧ ∀ c k, c < 5 → k < 6 → k ≠ 1 → k ≠ 2 → w1.1 10 4 (6 * c + k) = 0 := by
  intro m
  induction m with
  | zero =>
    intro i n w h hn hb h4
    have hi : i = 5 := by omega
    subst hi
    obtain ⟨k, rfl⟩ : ∃ k, n = k + 1 := ⟨n - 1, by omega⟩
    refine ⟨w, ?_, dL.rf w, fun _ _ => rfl, hb, h4⟩
    show B_L_law_71 (L_L_law_71 k) (nI 5) w = _
    unfold B_L_law_71
    rw [if_pos (show (5 : Int32) ≤ nI 5 from Int32.le_refl _)]
  | succ m ih =>
    intro i n w h hn hb h4
    obtain ⟨k, rfl⟩ : ∃ k, n = k + 1 := ⟨n - 1, by omega⟩
    obtain ⟨wa, ea, da, ra, r4, r5, z5⟩ := l_without w (c := i) (by omega)
    obtain ⟨w1, e, hd, hr, h1, h2⟩ := ih (i + 1) k wa (by omega) (by omega) (fun c hc => by
      by_cases q : c = i
      · subst q
        refine ⟨?_, ?_, z5⟩
        · rw [r4, upd_ne _ _ (by omega), upd_eq]
        · rw [r4, upd_eq]
      · obtain ⟨b1, b2, b3⟩ := hb c (by omega)
        refine ⟨?_, ?_, fun h hh => ?_⟩
        · rw [r4, upd_ne _ _ (by omega), upd_ne _ _ (by omega)]; exact b1
        · rw [r4, upd_ne _ _ (by omega), upd_ne _ _ (by omega)]; exact b2
        · rw [r5 _ (by omega), r5 _ (by omega)]
          exact b3 h hh) (fun c k' hc hk h1 h2 => by
      rw [r4, upd_ne _ _ (by omega), upd_ne _ _ (by omega)]
      exact h4 c k' hc hk h1 h2)
    refine ⟨w1, ?_, da.trans hd, fun r q => by rw [hr r q, ra r q], h1, h2⟩
    show B_L_law_71 (L_L_law_71 k) (nI i) w = _
    unfold B_L_law_71
    rw [if_neg (show ¬ (5 : Int32) ≤ nI i from nI_ge (b := 5) (by omega) (by omega)), ea, bd_s, nI_1]
    exact e
theorem law_pure (hL : L ≤ 260) : F_law xs L w0 = some () := by
  obtain ⟨wa, ha⟩ : ∃ wa, wa = lS w0 0 7 4 := ⟨_, rfl⟩
  have da : dL w0 wa := by rw [ha]; exact (dL.rf w0).s _ _ _
  have r0a : wa.1 10 0 = upd (fun _ => 0) 7 4 := by rw [ha, lS_eq]; rfl
  have rra : ∀ r, r ≠ 0 → wa.1 10 r = fun _ => 0 := fun r hr => by rw [ha, lS_ne _ _ _ hr]; rfl
  obtain ⟨wb, eb, db, rb, b1⟩ := f_50 12 0 9999 wa (by omega) (by omega) (fun b h => absurd h (by omega))
  obtain ⟨wc, ec, dc, rc, c1, c2⟩ := f_71 5 0 9999 wb (by omega) (by omega) (fun c h => absurd h (by omega)) (fun c k _ _ _ _ => by rw [rb 4 (by omega), rra 4 (by omega)])
  obtain ⟨wd, hd⟩ : ∃ wd, wd = lS wc 4 0 1 := ⟨_, rfl⟩
  obtain ⟨we, he⟩ : ∃ we, we = lS wd 4 6 1 := ⟨_, rfl⟩
  have de : dL w0 we := by rw [he, hd]; exact ((((da.trans db).trans dc).s _ _ _).s _ _ _)
  have r4 : we.1 10 4 = upd (upd (wc.1 10 4) 0 1) 6 1 := by rw [he, lS_eq, hd, lS_eq]
  have r5 : we.1 10 5 = wc.1 10 5 := by rw [he, lS_ne _ _ _ (by omega), hd, lS_ne _ _ _ (by omega)]
  have r03 : ∀ r, r < 4 → we.1 10 r = wc.1 10 r := fun r hr => by rw [he, lS_ne _ _ _ (by omega), hd, lS_ne _ _ _ (by omega)]
  have r0 : we.1 10 0 = upd (fun _ => 0) 7 4 := by rw [r03 0 (by omega), rc 0 (by omega), rb 0 (by omega), r0a]
  have hR : LR zB (we.1 10) := by
    refine ⟨?_, fun b hb => ?_, fun l hl => absurd hl (by rw [zB_g]; omega), fun c hc => ?_, fun c h hc hh => ?_, ⟨[], fun l => ?_, List.Pairwise.nil, ?_, fun p l q => by simp at q⟩, by rw [zB_g]; omega, fun c h hc hh q => ?_, fun l b hl => absurd hl (by rw [zB_g]; omega)⟩
    · unfold rG
      rw [r0]
      exact ⟨by decide, by decide, by decide, by decide, by decide, by decide, by decide, by decide, by decide⟩
    · rw [zB_b b hb, r03 1 (by omega), rc 1 (by omega)]
      exact b1 b hb
    · obtain ⟨k1, k2, -⟩ := c1 c hc
      rw [zB_0, zB_1, zB_2, zB_3, zB_4, zB_5, r4, upd_ne (j := 6 * c + 1) _ _ (by omega), upd_ne (j := 6 * c + 1) _ _ (by omega), upd_ne (j := 6 * c + 2) _ _ (by omega), upd_ne (j := 6 * c + 2) _ _ (by omega), upd_ne (j := 6 * c + 3) _ _ (by omega), upd_ne (j := 6 * c + 3) _ _ (by omega), upd_ne (j := 6 * c + 4) _ _ (by omega), upd_ne (j := 6 * c + 4) _ _ (by omega), upd_ne (j := 6 * c + 5) _ _ (by omega), upd_ne (j := 6 * c + 5) _ _ (by omega)]
      refine ⟨?_, k1, k2, fun _ => ⟨c2 c 3 hc (by omega) (by omega) (by omega), c2 c 4 hc (by omega) (by omega) (by omega), c2 c 5 hc (by omega) (by omega) (by omega)⟩⟩
      by_cases q0 : c = 0
      · rw [q0, upd_ne _ _ (by omega), upd_eq]; rfl
      · by_cases q1 : c = 1
        · rw [q1, upd_eq]; rfl
        · rw [upd_ne _ _ (by omega), upd_ne _ _ (by omega), if_neg (by omega)]
          exact c2 c 0 hc (by omega) (by omega) (by omega)
    · rw [zB_H c h 0 hh (by omega), zB_H c h 1 hh (by omega), r5]
      exact (c1 c hc).2.2 h hh
    · rw [zB_g]
      constructor
      · intro q; simp at q
      · rintro ⟨q, -⟩; omega
    · rw [r0]; rfl
    · rw [zB_H c h 0 hh (by omega)] at q
      exact absurd q (by decide)
  have hS0 : SV w0 := ⟨0, 0, by omega, by omega, rfl, rfl⟩
  have hI : IN zB we 0 0 := ⟨zB_W, zB_Y.dL de, hR, hS0.dL de⟩
  have h2 : we.2.1 8 2 = 0 := by rw [de.2]; rfl
  unfold F_law
  rw [s0_7, ← ha, show L_L_law_50 9999 0 wa = some (nI 12, wb) from eb, bd_s, show L_L_law_71 9999 0 wb = some (nI 5, wc) from ec, bd_s, show ∀ f : xWt → Option Unit, ast wc 10 4 0 1 f = f wd from fun f => by rw [hd]; exact s4 (i := 0) (by omega) 1 f, show ∀ f : xWt → Option Unit, ast wd 10 4 6 1 f = f we from fun f => by rw [he]; exact s4 (i := 6) (by omega) 1 f, l_isSo hI.1 (by omega) hI.2.1 hI.2.2.1 hI.2.2.2, bd_s, if_neg (by decide), o_undo h2, bd_s, if_pos rfl]
  exact law_all hL hI (by rw [zB_0]; decide) (by rw [zB_1]; decide)
end BG
