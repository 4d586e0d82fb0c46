/-! the law's raking -/
section RKD
variable {z z' z1 : Nat → Int32} {w w1 w' : xWt} {B T B' T' c h b l e i : Nat} {a a2 a3 x2 x4 x9 v x y d : Int32} {R R' : Nat → Nat → Int32} {hp : List Nat}
/-- a leaf's number, its place being h -/
def rLe (z : Nat → Int32) (R : Nat → Nat → Int32) (l h : Nat) : Prop := ∃ c b t, c < 10 ∧ b < 12 ∧ t ≤ bN z + 1 ∧ zL z l 0 = nI c ∧ zL z l 2 = nI b ∧ zL z l 3 = nI t - 1 ∧ R 2 l = nI (en c b h t)
theorem l_childrenC (hW : WF z B T) (hC : rC z (w.1 10)) : F_L_children w = some (nI (cn (ch z) 5), w) := by
  have h := cn_loop (fun n i s => L_L_children_4 n (nI s) (nI i) w) (ch z) (fun s => ((nI s, nI 5), w)) 5
    (fun n i s hi => by
      show B_L_children_4 (L_L_children_4 n) (nI s) (nI i) w = _
      unfold B_L_children_4
      rw [if_neg (lt5 hi), ix60, a4 (by omega), (hC i hi).1, z_ch hW hi, nI_add, nI_1]
      by_cases q : ch z i = true
      · rw [if_pos q, if_pos q]
      · rw [if_neg q, if_neg q]; rfl)
    (fun n s => by
      show B_L_children_4 (L_L_children_4 n) (nI s) (nI 5) w = _
      unfold B_L_children_4
      rw [if_pos (show (5 : Int32) ≤ nI 5 from Int32.le_refl _)]) 9999 (by omega)
  unfold F_L_children
  exact (congrArg (fun o => bd o _) h).trans rfl
theorem l_mayW (hW : WF z B T) (hB : B < 2 ^ 18) (hK : rK z (w.1 10)) (h0 : w.1 10 0 0 = z 0) (hl : l < gN z) (h40 : gN z ≤ 40) (hh : h < 8) (hE : rLe z (w.1 10) l h) {s : Int32} (hs : s = 0 ∨ s = 1) (ha : s = 0 ∨ zL z l 1 = 1) : F_L_may (nI l) s (-1) w = some (if mB z l s then 1 else 0, w) := by
  have hx : ∀ d, d < 5 → (nI d = -1 ↔ d = 9) := fun d hd => ⟨fun r => absurd r (nI_m1 (by omega)), fun r => absurd r (by omega)⟩
  have hle := cn_le (pnB z 2 (nI l) (-1)) 15
  have hno : F_L_noted (nI l) w = some (zL z l 3, w) := by
    obtain ⟨c, b, t, c1, c2, c3, c4, c5, c6, c7⟩ := hE
    have h1 := hW.s.2.1
    rw [c6]
    exact l_noted (by omega) c7 c1 c2 hh (by omega)
  unfold F_L_may
  rcases hs with rfl | rfl
  · have e : mB z l 0 = fr z (nI l) 9 := rfl
    rw [if_pos rfl, l_pins hK, bd_s, e]
    by_cases q : cn (pnB z 2 (nI l) (-1)) 15 = 0
    · rw [q, if_pos (show nI 0 = 0 from rfl), bd_s, zr_1, if_pos ((pn0 z _ (-1) 9 hx).mp q)]
    · rw [if_neg (nI_ne0 (by omega) (by omega)), bd_s, zr_0, if_neg (fun r => q ((pn0 z _ (-1) 9 hx).mpr r))]
  · have q1 : zL z l 1 = 1 := ha.resolve_left (by decide)
    obtain ⟨c', s', r1, r2, r3, r4⟩ : ∃ c' s', c' < 5 ∧ s' ≤ bN z ∧ zL z l 4 = nI c' ∧ zL z l 3 = nI s' := by
      rcases wh_cases hW hl with ⟨q, -⟩ | ⟨q, -⟩ | ⟨-, d, s, r1, r2, r3, r4, -⟩
      · rw [q1] at q; exact absurd q (by decide)
      · rw [q1] at q; exact absurd q (by decide)
      · exact ⟨d, s, r1, r2, r3, r4⟩
    have hb := hW.s.2.1
    have e : mB z l 1 = !decide (z 0 - zL z l 3 < 2) := rfl
    rw [if_neg (show ¬ (1 : Int32) = 0 by decide), a0_0, h0, hno, bd_s, e, r4, hW.s.1, show nI s' + 2 = nI (s' + 2) from nI_add s' 2, nI_sub r2]
    by_cases q : bN z < s' + 2
    · rw [if_pos (nI_lt q (by omega)), bd_s]
      have : nI (bN z - s') < 2 := nI_lt (b := 2) (by omega) (by omega)
      rw [decide_eq_true this]
      exact zr_0 _
    · rw [if_neg (nI_nlt (by omega) (by omega)), bd_s]
      have : ¬ nI (bN z - s') < 2 := nI_nlt (b := 2) (by omega) (by omega)
      rw [decide_eq_false this]
      exact zr_1 _
/-- what stays aside -/
def kp (z : Nat → Int32) (c : Nat) (l : Nat) : Bool := !bnB z c l
/-- the loop's state -/
def RJ (z : Nat → Int32) (c : Nat) (hp : List Nat) (w : xWt) (i : Nat) (w' : xWt) : Prop := dL w w' ∧ (∀ r, r ≠ 2 → r ≠ 3 → w'.1 10 r = w.1 10 r) ∧ (∀ l, l < gN z → rLe z (w'.1 10) l (if l ∈ hp.take i ∧ bnB z c l = true then 0 else whN z l)) ∧ (∀ p l, ((hp.take i).filter (kp z c))[p]? = some l → w'.1 10 3 p = nI l) ∧ ∀ p l, i ≤ p → hp[p]? = some l → w'.1 10 3 p = nI l
theorem rLe.s3 (hE : rLe z (w.1 10) l h) (p : Nat) (x : Int32) : rLe z ((lS w 3 p x).1 10) l h := by
  obtain ⟨c, b, t, c1, c2, c3, c4, c5, c6, c7⟩ := hE
  exact ⟨c, b, t, c1, c2, c3, c4, c5, c6, by rw [lS_ne _ _ _ (by omega)]; exact c7⟩
theorem take_s (hi : i < hp.length) : hp.take (i + 1) = hp.take i ++ [hp[i]] := by
  rw [List.take_succ, List.getElem?_eq_getElem hi]
  rfl
theorem rj_step (hW : WF z B T) (hB : B < 2 ^ 18) (hR : LR z (w.1 10)) (hP : rP z (w.1 10) hp) (hc : c < 5) (n : Nat) (hi : i < hp.length) (hJ : RJ z c hp w i w1) : ∃ w2, L_L_raked_12 (n + 1) (nI c) (nI ((hp.take i).filter (kp z c)).length) (nI hp.length) (nI i) w1 = L_L_raked_12 n (nI c) (nI ((hp.take (i + 1)).filter (kp z c)).length) (nI hp.length) (nI (i + 1)) w2 ∧ RJ z c hp w (i + 1) w2 := by
  obtain ⟨hd, hr, hL, hk, ht⟩ := hJ
  have hle := hP.le
  have h40 := hR.n
  have h1 := hW.s.2.1
  obtain ⟨l, hl⟩ : ∃ l, l = hp[i] := ⟨_, rfl⟩
  have hget : hp[i]? = some l := by rw [hl]; exact List.getElem?_eq_getElem hi
  have hmem : l ∈ hp := by rw [hl]; exact List.getElem_mem hi
  obtain ⟨hlg, hl1⟩ := (hP.1 l).mp hmem
  have hnot : l ∉ hp.take i := by
    intro hm
    have hn := hP.nodup
    rw [← List.take_append_drop (i + 1) hp, take_s hi, List.append_assoc] at hn
    have := (List.nodup_append.mp hn).2.2 l hm l (by rw [← hl]; simp)
    exact this rfl
  have hE : rLe z (w1.1 10) l (whN z l) := by
    have := hL l hlg
    rwa [if_neg (fun q => hnot q.1)] at this
  have hwh8 := wh_lt hW hlg
  have hwhere : F_L_where (nI l) w1 = some (whV z l, w1) := by
    obtain ⟨c, b, t, c1, c2, c3, c4, c5, c6, c7⟩ := hE
    exact l_where (by omega) c7 c1 c2 hwh8 (by omega)
  have hflen : ((hp.take i).filter (kp z c)).length ≤ i := Nat.le_trans (List.length_filter_le _ _) (by rw [List.length_take]; omega)
  have h3 : w1.1 10 3 i = nI l := ht i l (Nat.le_refl _) hget
  have hz9 : z 9 = 0 ∨ z 9 = 1 := hW.s.2.2.2.2.2.2.2
  have hmay : F_L_may (nI l) (z 9) (-1) w1 = some (if mB z l (z 9) then 1 else 0, w1) := l_mayW hW hB (by rw [show rK z (w1.1 10) ↔ rK z (w.1 10) from by unfold rK; rw [hr 5 (by omega) (by omega)]]; exact hR.k) (by rw [hr 0 (by omega) (by omega)]; exact hR.g.1) hlg h40 hwh8 hE hz9 (Or.inr hl1)
  have h8 : w1.1 10 0 8 = z 9 := by rw [hr 0 (by omega) (by omega)]; exact hR.g.2.2.2.2.2.2.2.2
  by_cases q : bnB z c l = true
  · -- burnt
    obtain ⟨q1, q2⟩ : oB z c l = true ∧ mB z l (z 9) = true := by
      unfold bnB at q
      rwa [Bool.and_eq_true] at q
    obtain ⟨cc, b, t, c1, c2, c3, c4, c5, c6, c7⟩ := hE
    have hf : (hp.take (i + 1)).filter (kp z c) = (hp.take i).filter (kp z c) := by
      rw [take_s hi, List.filter_append, ← hl]
      have : [l].filter (kp z c) = [] := by
        rw [List.filter_cons_of_neg (by unfold kp; rw [q]; decide)]
        rfl
      rw [this, List.append_nil]
    refine ⟨lS w1 2 l (nI (en cc b 0 t)), ?_, hd.s _ _ _, fun r h2 h3 => by rw [lS_ne _ _ _ h2]; exact hr r h2 h3, fun l' hl' => ?_, fun p l' h => ?_, fun p l' hp' h => ?_⟩
    · show B_L_raked_12 (L_L_raked_12 n) _ _ _ _ _ = _
      unfold B_L_raked_12
      rw [if_neg (nI_ge hi (by omega)), a3 (by omega), h3, hwhere, bd_s, if_pos ((wh_c hW hlg hc).mpr q1), a0_8, h8, hmay, if_pos q2, bd_s, if_neg (by decide), show F_L_put (nI l) (-2) w1 = some ((), lS w1 2 l (nI (en cc b 0 t))) from l_put (by omega) c7 c1 c2 hwh8 (by omega) 0, bd_s, bd_s, nI_1, hf]
    · by_cases e : l' = l
      · rw [e, if_pos ⟨by rw [take_s hi, ← hl]; simp, q⟩]
        exact ⟨cc, b, t, c1, c2, c3, c4, c5, c6, by rw [lS_eq, upd_eq]⟩
      · have : (l' ∈ hp.take (i + 1)) ↔ l' ∈ hp.take i := by rw [take_s hi, ← hl]; simp [e]
        simp only [this]
        obtain ⟨c, b, t, c1, c2, c3, c4, c5, c6, c7⟩ := hL l' hl'
        exact ⟨c, b, t, c1, c2, c3, c4, c5, c6, by rw [lS_eq, upd_ne _ _ e]; exact c7⟩
    · rw [hf] at h
      rw [lS_ne _ _ _ (by omega)]
      exact hk p l' h
    · rw [lS_ne _ _ _ (by omega)]
      exact ht p l' (by omega) h
  · have hf : (hp.take (i + 1)).filter (kp z c) = (hp.take i).filter (kp z c) ++ [l] := by
      rw [take_s hi, List.filter_append, ← hl]
      have : [l].filter (kp z c) = [l] := by
        rw [List.filter_cons_of_pos (by unfold kp; rw [Bool.eq_false_iff.mpr q]; decide)]
        rfl
      rw [this]
    obtain ⟨k, hkl⟩ : ∃ k, k = ((hp.take i).filter (kp z c)).length := ⟨_, rfl⟩
    refine ⟨lS w1 3 k (nI l), ?_, hd.s _ _ _, fun r h2 h3 => by rw [lS_ne _ _ _ h3]; exact hr r h2 h3, fun l' hl' => ?_, fun p l' h => ?_, fun p l' hp' h => ?_⟩
    · rw [hf, List.length_append, ← hkl]
      show B_L_raked_12 (L_L_raked_12 n) _ _ _ _ _ = _
      unfold B_L_raked_12
      rw [if_neg (nI_ge hi (by omega)), a3 (by omega), h3, hwhere, bd_s]
      by_cases q1 : oB z c l = true
      · have q2 : ¬ mB z l (z 9) = true := fun r => q (by unfold bnB; rw [q1, r]; rfl)
        rw [if_pos ((wh_c hW hlg hc).mpr q1), a0_8, h8, hmay, if_neg q2, bd_s, if_pos rfl, s3 (by omega), bd_s, nI_1, nI_1]
        rfl
      · rw [if_neg (fun r => q1 ((wh_c hW hlg hc).mp r)), s3 (by omega), bd_s, nI_1, nI_1]
        rfl
    · have hsame : (if l' ∈ hp.take (i + 1) ∧ bnB z c l' = true then 0 else whN z l') = if l' ∈ hp.take i ∧ bnB z c l' = true then 0 else whN z l' := by
        by_cases e : l' = l
        · rw [e, if_neg (fun r => q r.2), if_neg (fun r => q r.2)]
        · have : (l' ∈ hp.take (i + 1)) ↔ l' ∈ hp.take i := by rw [take_s hi, ← hl]; simp [e]
          simp only [this]
      rw [hsame]
      exact (hL l' hl').s3 k _
    · rw [hf] at h
      rw [lS_eq]
      by_cases e : p = k
      · rw [e, hkl, List.getElem?_concat_length] at h
        cases h
        rw [e, upd_eq]
      · rw [upd_ne _ _ e]
        have hlt : p < k := by
          have h2 := (List.getElem?_eq_some_iff.mp h).1
          rw [List.length_append, ← hkl] at h2
          have : [l].length = 1 := rfl
          omega
        rw [List.getElem?_append_left (by rw [← hkl]; exact hlt)] at h
        exact hk p l' h
    · rw [lS_eq, upd_ne _ _ (by omega)]
      exact ht p l' (by omega) h
theorem rj_loop (hW : WF z B T) (hB : B < 2 ^ 18) (hR : LR z (w.1 10)) (hP : rP z (w.1 10) hp) (hc : c < 5) : ∀ (m i n : Nat) (w1 : xWt), i + m = hp.length → m < n → RJ z c hp w i w1 → ∃ w2, L_L_raked_12 n (nI c) (nI ((hp.take i).filter (kp z c)).length) (nI hp.length) (nI i) w1 = some ((nI (hp.filter (kp z c)).length, nI hp.length), w2) ∧ RJ z c hp w hp.length w2 := by
  intro m
  induction m with
  | zero =>
    intro i n w1 h hn hJ
    have hi : i = hp.length := by omega
    subst hi
    obtain ⟨k, rfl⟩ : ∃ k, n = k + 1 := ⟨n - 1, by omega⟩
    refine ⟨w1, ?_, hJ⟩
    show B_L_raked_12 (L_L_raked_12 k) _ _ _ _ _ = _
    unfold B_L_raked_12
    rw [if_pos (Int32.le_refl _), List.take_length]
  | succ m ih =>
    intro i n w1 h hn hJ
    obtain ⟨k, rfl⟩ : ∃ k, n = k + 1 := ⟨n - 1, by omega⟩
    obtain ⟨w2, e1, e2⟩ := rj_step hW hB hR hP hc k (by omega) hJ
    rw [e1]
    exact ih (i + 1) k w2 (by omega) (by omega) e2
theorem rj_0 (hR : LR z (w.1 10)) (hP : rP z (w.1 10) hp) : RJ z c hp w 0 w := by
  refine ⟨dL.rf w, fun _ _ _ => rfl, fun l hl => ?_, fun p l h => ?_, fun p l _ h => hP.2.2.2 p l h⟩
  · rw [if_neg (fun q => absurd q.1 (by simp))]
    exact hR.l l hl
  · simp at h
theorem kp_len (hP : rP z R hp) (c : Nat) : hp.length = (hp.filter (kp z c)).length + cn (bnB z c) (gN z) := by
  have h1 : hp.countP (bnB z c) = cn (bnB z c) (gN z) := hP.cntB c (fun l => mB z l (z 9))
  rw [← h1, ← List.countP_eq_length_filter]
  have := List.length_eq_countP_add_countP (bnB z c) (l := hp)
  rw [this, Nat.add_comm]
  congr 1
  refine List.countP_congr (fun x _ => ?_)
  unfold kp
  simp
end RKD
