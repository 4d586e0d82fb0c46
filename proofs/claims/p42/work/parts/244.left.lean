/-! the relation after a leave -/
def dN (w w' : xWt) : Prop := (∀ k r, k ≠ 10 → w'.1 k r = w.1 k r) ∧ w'.2.1 = w.2.1
section LV1
variable {z z' z1 : Nat → Int32} {w w1 w2 w' : xWt} {B T B' T' c h b l e i q : Nat} {a u2 u3 x2 x4 o7 o11 v x y t : Int32} {R R' : Nat → Nat → Int32} {hp : List Nat}
theorem dL.nn (h : dL w w') : dN w w' := ⟨h.1, by rw [h.2]⟩
theorem dN.tr (h1 : dN w w1) (h2 : dN w1 w2) : dN w w2 := ⟨fun k r h => (h2.1 k r h).trans (h1.1 k r h), h2.2.trans h1.2⟩
theorem YR.dN (h : dN w w') (hY : YR 0 z w) : YR 0 z w' := hY.rows (by omega) (fun r => h.1 0 r (by omega)) (fun j => by rw [h.2])
theorem SV.dN (h : dN w w') (hS : SV w) : SV w' := by
  obtain ⟨s, nx, a, b, q1, q2⟩ := hS
  exact ⟨s, nx, a, b, by rw [h.2]; exact q1, by rw [h.2]; exact q2⟩
theorem l_whL (hW : WF z B T) (hB : B < 2 ^ 18) (h40 : gN z ≤ 40) (hL : rL1 z (w.1 10) l) (hl : l < gN z) : F_L_where (nI l) w = some (whV z l, w) := by
  obtain ⟨c, b, t, c1, c2, c3, c4, c5, c6, c7⟩ := hL
  have h1 := hW.s.2.1
  exact l_where (by omega) c7 c1 c2 (wh_lt hW hl) (by omega)
theorem l_heapW (hW : WF z B T) (hP : rP z (w.1 10) hp) (hn : gN z ≤ 40) (hw : ∀ l, l < gN z → F_L_where (nI l) w = some (whV z l, w)) (hc : c < 5) : F_L_heap (nI c) w = some (nI (hN z c), w) := by
  have hle := hP.le
  have h := cn_loop (fun n i s => L_L_heap_6 n (nI c) (nI s) (nI i) w) (fun i => match hp[i]? with | some l => oB z c l | none => false) (fun s => ((nI s, nI hp.length), w)) hp.length
    (fun n i s hi => by
      obtain ⟨l, e1, e2, e3, e4⟩ := l_hp hP hn hi (fun x2 => bd (F_L_where x2 w) (fun x4 w3 => bd (α := Int32) ((if x4 = nI c then some (1, w3) else some (0, w3))) (fun o6 w5 => L_L_heap_6 n (nI c) (nI s + o6) (nI i + 1) w5)))
      show B_L_heap_6 (L_L_heap_6 n) (nI c) (nI s) (nI i) w = _
      unfold B_L_heap_6
      rw [a0_9, hP.2.2.1, if_neg (nI_ge hi (by omega)), e4, hw l e2, bd_s, nI_1, e1]
      by_cases q : oB z c l = true
      · rw [if_pos ((wh_c hW e2 hc).mpr q), bd_s, nI_1, if_pos q]
      · rw [if_neg (fun r => q ((wh_c hW e2 hc).mp r)), bd_s, nI_add0, if_neg q])
    (fun n s => by
      show B_L_heap_6 (L_L_heap_6 n) (nI c) (nI s) (nI hp.length) w = _
      unfold B_L_heap_6
      rw [a0_9, hP.2.2.1, if_pos (Int32.le_refl _)]) 9999 (by omega)
  have e : hp.countP (fun l => oB z c l) = hN z c := by
    unfold hN
    rw [(hP.heap c).len, ← List.countP_eq_length_filter]
  have hm : cn (fun i => match hp[i]? with | some l => oB z c l | none => false) hp.length = hp.countP (fun l => oB z c l) := cn_all_get _ _
  rw [hm, e] at h
  unfold F_L_heap
  exact (congrArg (fun o => bd o _) h).trans rfl
/-- the heir -/
theorem l_584 (hW : WF z B T) (h4 : ∀ d, d < 5 → w.1 10 4 (6 * d) = if d = c then 0 else zC z d 0) (h2 : 1 < cn (ch z) 5) : ∃ e, e < 5 ∧ e ≠ c ∧ zC z e 0 = 1 ∧ (∀ d, d < e → d = c ∨ zC z d 0 ≠ 1) ∧ L_L_goes_584 9999 u2 u3 x2 x4 o7 o11 0 w = some (nI e, w) := by
  have hex : ∃ e, e < 5 ∧ e ≠ c ∧ zC z e 0 = 1 := Classical.byContradiction fun hn => by
    have := cn_one (ch z) (c := c) 5 (fun i hi hne => by
      unfold ch
      exact decide_eq_false (fun q => hn ⟨i, hi, hne, q⟩))
    omega
  have key : ∀ n i, i ≤ 5 → 5 < i + n → (∀ d, d < i → d = c ∨ zC z d 0 ≠ 1) → ∃ e, e < 5 ∧ e ≠ c ∧ zC z e 0 = 1 ∧ (∀ d, d < e → d = c ∨ zC z d 0 ≠ 1) ∧ L_L_goes_584 n u2 u3 x2 x4 o7 o11 (nI i) w = some (nI e, w) := by
    intro n
    induction n with
    | zero => intro i hi hn; omega
    | succ n ih =>
      intro i hi hn hd
      by_cases q5 : i = 5
      · obtain ⟨e, r1, r2, r3⟩ := hex
        rcases hd e (by omega) with r | r
        · exact absurd r r2
        · exact absurd r3 r
      · by_cases q : i = c ∨ zC z i 0 ≠ 1
        · have h0 : w.1 10 4 (6 * i) = 0 := by
            rw [h4 i (by omega)]
            rcases q with r | r
            · rw [if_pos r]
            · rcases hW.th (c := i) (by omega) with s | s
              · rw [s]; split <;> rfl
              · exact absurd s r
          have e : L_L_goes_584 (n + 1) u2 u3 x2 x4 o7 o11 (nI i) w = L_L_goes_584 n u2 u3 x2 x4 o7 o11 (nI (i + 1)) w := by
            show B_L_goes_584 (L_L_goes_584 n) u2 u3 x2 x4 o7 o11 (nI i) w = _
            unfold B_L_goes_584
            rw [ix60, a4 (by omega), h0, if_pos rfl, nI_1]
          rw [e]
          exact ih (i + 1) (by omega) (by omega) (fun d h => by
            by_cases r : d = i
            · rw [r]; exact q
            · exact hd d (by omega))
        · have q1 : i ≠ c := fun r => q (Or.inl r)
          have q2 : zC z i 0 = 1 := Classical.byContradiction (fun r => q (Or.inr r))
          refine ⟨i, by omega, q1, q2, hd, ?_⟩
          show B_L_goes_584 (L_L_goes_584 n) u2 u3 x2 x4 o7 o11 (nI i) w = _
          unfold B_L_goes_584
          rw [ix60, a4 (by omega), h4 i (by omega), if_neg q1, q2, if_neg (by decide)]
  exact key 9999 0 (by omega) (by omega) (fun d h => absurd h (by omega))
theorem nst_s {β : Type} {f : Nat → Int32} (h : w.2.2 = some f) (hi : i < 40) (x : Int32) (g : xWt → Option β) : nst w (nI i) x g = g (sO w (upd f i x)) := by
  unfold nst
  rw [h]
  show (if nI i < 0 ∨ 40 ≤ (nI i).toNatClampNeg then none else g (sO w (upd f (nI i).toNatClampNeg x))) = _
  rw [nI_clamp (by omega), if_neg (fun r => r.elim (fun s => nI_pos (by omega) s) (fun s => absurd s (by omega)))]
theorem nld_s {β : Type} {f : Nat → Int32} (h : w.2.2 = some f) (hi : i < 40) (g : Int32 → Option β) : nld w (nI i) g = g (f i) := by
  unfold nld
  rw [h]
  show (if nI i < 0 ∨ 40 ≤ (nI i).toNatClampNeg then none else g (f (nI i).toNatClampNeg)) = _
  rw [nI_clamp (by omega), if_neg (fun r => r.elim (fun s => nI_pos (by omega) s) (fun s => absurd s (by omega)))]
/-- the row of those in their new order, being written -/
def NX (ls : List Nat) (w w1 : xWt) : Prop := w1.1 = w.1 ∧ w1.2.1 = w.2.1 ∧ ∃ f, w1.2.2 = some f ∧ ∀ p l, ls[p]? = some l → f p = nI l
theorem nx_step {s : Nat → Bool} {base : List Nat} {P : Nat} (hW : WF z B T) (hP : rP z (w.1 10) hp) (h40 : gN z ≤ 40) (hw : ∀ (w1 : xWt), w1.1 = w.1 → ∀ l, l < gN z → F_L_where (nI l) w1 = some (whV z l, w1)) (hc : c < 5) (hP1 : P < 2) (hs : ∀ l, s l = (oB z c l == decide (P = 1))) (hlen : (base ++ hp.filter s).length ≤ 40) (n : Nat) (hi : i < hp.length) (hJ : NX (base ++ (hp.take i).filter s) w w1) : ∃ w2, L_L_goes_622 (n + 1) u2 u3 (nI c) x4 o7 o11 x2 (nI (base ++ (hp.take i).filter s).length) (nI P) (nI i) w1 = L_L_goes_622 n u2 u3 (nI c) x4 o7 o11 x2 (nI (base ++ (hp.take (i + 1)).filter s).length) (nI P) (nI (i + 1)) w2 ∧ NX (base ++ (hp.take (i + 1)).filter s) w w2 := by
  obtain ⟨j1, j2, f, j3, j4⟩ := hJ
  have hle := hP.le
  obtain ⟨l, hl⟩ : ∃ l, l = hp[i] := ⟨_, rfl⟩
  have hget : hp[i]? = some l := by rw [hl]; exact List.getElem?_eq_getElem hi
  have hmem : l ∈ hp := by rw [hl]; exact List.getElem_mem hi
  obtain ⟨hlg, hl1⟩ := (hP.1 l).mp hmem
  have e3 : w1.1 10 3 i = nI l := by rw [j1]; exact hP.2.2.2 i l hget
  have e9 : w1.1 10 0 9 = nI hp.length := by rw [j1]; exact hP.2.2.1
  have o32 : ∀ f : Int32 → xWt → Option ((Int32 × Int32) × xWt), bd (α := Int32) (if whV z l = nI c then some (1, w1) else some (0, w1)) f = f (if oB z c l = true then 1 else 0) w1 := fun f => by
    by_cases q : oB z c l = true
    · rw [if_pos ((wh_c hW hlg hc).mpr q), if_pos q, bd_s]
    · rw [if_neg (fun r => q ((wh_c hW hlg hc).mp r)), if_neg q, bd_s]
  have o35 : ∀ f : Int32 → xWt → Option ((Int32 × Int32) × xWt), bd (α := Int32) (if nI P = 1 then some (1, w1) else some (0, w1)) f = f (if P = 1 then 1 else 0) w1 := fun f => by
    obtain rfl | rfl : P = 0 ∨ P = 1 := by omega
    · rfl
    · rfl
  have hif : ((if oB z c l = true then (1 : Int32) else 0) = (if P = 1 then 1 else 0)) ↔ s l = true := by
    rw [hs l]
    obtain rfl | rfl : P = 0 ∨ P = 1 := by omega
    · by_cases q : oB z c l = true
      · rw [if_pos q, q]; decide
      · rw [if_neg q, Bool.eq_false_iff.mpr q]; decide
    · by_cases q : oB z c l = true
      · rw [if_pos q, q]; decide
      · rw [if_neg q, Bool.eq_false_iff.mpr q]; decide
  by_cases q : s l = true
  · have hf : base ++ (hp.take (i + 1)).filter s = (base ++ (hp.take i).filter s) ++ [l] := by
      rw [take_s hi, List.filter_append, ← hl, List.append_assoc]
      have : [l].filter s = [l] := by
        rw [List.filter_cons_of_pos q]
        rfl
      rw [this]
    have hk40 : (base ++ (hp.take i).filter s).length < 40 := by
      have h1 : ((hp.take (i + 1)).filter s).length ≤ (hp.filter s).length := ((List.take_sublist _ _).filter _).length_le
      have h2 : (base ++ (hp.take (i + 1)).filter s).length = (base ++ (hp.take i).filter s).length + 1 := by rw [hf, List.length_append]; rfl
      rw [List.length_append] at hlen h2
      omega
    obtain ⟨k, hk⟩ : ∃ k, k = (base ++ (hp.take i).filter s).length := ⟨_, rfl⟩
    rw [← hk] at hk40
    have hl2 : (base ++ (hp.take (i + 1)).filter s).length = k + 1 := by rw [hf, List.length_append, ← hk]; rfl
    refine ⟨sO w1 (upd f k (nI l)), ?_, j1, j2, upd f k (nI l), rfl, fun p l' h => ?_⟩
    · rw [hl2, ← hk]
      show B_L_goes_622 (L_L_goes_622 n) _ _ _ _ _ _ _ _ _ _ _ = _
      unfold B_L_goes_622
      rw [a0_9, e9, if_neg (nI_ge hi (by omega)), a3 (by omega), e3, hw w1 j1 l hlg, bd_s, o32, o35, if_pos (hif.mpr q), a3 (by omega), e3, nst_s j3 hk40, bd_s, nI_1, nI_1]
    · rw [hf] at h
      by_cases e : p = k
      · rw [e, hk, List.getElem?_concat_length] at h
        cases h
        rw [e, upd_eq]
      · rw [upd_ne _ _ e]
        have hlt : p < k := by
          have h2 := (List.getElem?_eq_some_iff.mp h).1
          rw [List.length_append, ← hk] at h2
          have : [l].length = 1 := rfl
          omega
        rw [List.getElem?_append_left (by rw [← hk]; exact hlt)] at h
        exact j4 p l' h
  · have hf : base ++ (hp.take (i + 1)).filter s = base ++ (hp.take i).filter s := by
      rw [take_s hi, List.filter_append, ← hl]
      have : [l].filter s = [] := by
        rw [List.filter_cons_of_neg q]
        rfl
      rw [this, List.append_nil]
    refine ⟨w1, ?_, j1, j2, f, j3, fun p l' h => j4 p l' (by rw [hf] at h; exact h)⟩
    rw [hf]
    show B_L_goes_622 (L_L_goes_622 n) _ _ _ _ _ _ _ _ _ _ _ = _
    unfold B_L_goes_622
    rw [a0_9, e9, if_neg (nI_ge hi (by omega)), a3 (by omega), e3, hw w1 j1 l hlg, bd_s, o32, o35, if_neg (fun r => q (hif.mp r)), bd_s, nI_1]
theorem nx_loop {s : Nat → Bool} {base : List Nat} {P : Nat} (hW : WF z B T) (hP : rP z (w.1 10) hp) (h40 : gN z ≤ 40) (hw : ∀ (w1 : xWt), w1.1 = w.1 → ∀ l, l < gN z → F_L_where (nI l) w1 = some (whV z l, w1)) (hc : c < 5) (hP1 : P < 2) (hs : ∀ l, s l = (oB z c l == decide (P = 1))) (hlen : (base ++ hp.filter s).length ≤ 40) : ∀ (m i n : Nat) (w1 : xWt), i + m = hp.length → m < n → NX (base ++ (hp.take i).filter s) w w1 → ∃ w2, L_L_goes_622 n u2 u3 (nI c) x4 o7 o11 x2 (nI (base ++ (hp.take i).filter s).length) (nI P) (nI i) w1 = some ((nI (base ++ hp.filter s).length, nI hp.length), w2) ∧ NX (base ++ hp.filter s) w w2 := by
  intro m
  induction m with
  | zero =>
    intro i n w1 h hn hJ
    have hi : i = hp.length := by omega
    subst hi
    obtain ⟨k, rfl⟩ : ∃ k, n = k + 1 := ⟨n - 1, by omega⟩
    rw [List.take_length] at hJ ⊢
    refine ⟨w1, ?_, hJ⟩
    show B_L_goes_622 (L_L_goes_622 k) _ _ _ _ _ _ _ _ _ _ _ = _
    unfold B_L_goes_622
    rw [a0_9, show w1.1 10 0 9 = nI hp.length from by rw [hJ.1]; exact hP.2.2.1, if_pos (Int32.le_refl _)]
  | succ m ih =>
    intro i n w1 h hn hJ
    obtain ⟨k, rfl⟩ : ∃ k, n = k + 1 := ⟨n - 1, by omega⟩
    obtain ⟨w2, e1, e2⟩ := nx_step (u2 := u2) (u3 := u3) (x2 := x2) (x4 := x4) (o7 := o7) (o11 := o11) hW hP h40 hw hc hP1 hs hlen k (by omega) hJ
    rw [e1]
    exact ih (i + 1) k w2 (by omega) (by omega) e2
/-- those aside: the others first, then those of c -/
def od (z : Nat → Int32) (c : Nat) (hp : List Nat) : List Nat := hp.filter (fun l => !oB z c l) ++ hp.filter (fun l => oB z c l)
theorem od_len (z : Nat → Int32) (c : Nat) (hp : List Nat) : (od z c hp).length = hp.length := by
  have := List.length_eq_countP_add_countP (fun l => oB z c l) (l := hp)
  unfold od
  rw [List.length_append, ← List.countP_eq_length_filter, ← List.countP_eq_length_filter, this, Nat.add_comm]
  congr 1
  refine List.countP_congr (fun x _ => ?_)
  simp
theorem od_mem {x : Nat} : x ∈ od z c hp ↔ x ∈ hp := by
  unfold od
  rw [List.mem_append, List.mem_filter, List.mem_filter]
  constructor
  · rintro (q | q)
    · exact q.1
    · exact q.1
  · intro q
    by_cases r : oB z c x = true
    · exact Or.inr ⟨q, r⟩
    · exact Or.inl ⟨q, by rw [Bool.eq_false_iff.mpr r]; rfl⟩
theorem od_nodup (hn : hp.Nodup) : (od z c hp).Nodup := by
  unfold od
  refine List.nodup_append.mpr ⟨hn.filter _, hn.filter _, fun a ha b hb e => ?_⟩
  have h1 := (List.mem_filter.mp ha).2
  have h2 := (List.mem_filter.mp hb).2
  rw [← e] at h2
  rw [h2] at h1
  exact absurd h1 (by decide)
theorem l_613 (hW : WF z B T) (hP : rP z (w.1 10) hp) (h40 : gN z ≤ 40) (hw : ∀ (w1 : xWt), w1.1 = w.1 → ∀ l, l < gN z → F_L_where (nI l) w1 = some (whV z l, w1)) (hc : c < 5) (f : Nat → Int32) (ho : w.2.2 = some f) : ∃ w2, L_L_goes_613 9999 u2 u3 (nI c) x4 o7 o11 x2 0 0 w = some ((nI hp.length, nI 2), w2) ∧ NX (od z c hp) w w2 := by
  have hle := hP.le
  have hlen := od_len z c hp
  have hlen2 := hlen
  unfold od at hlen2
  rw [List.length_append] at hlen2
  obtain ⟨wa, e1, n1⟩ := nx_loop (u2 := u2) (u3 := u3) (x2 := x2) (x4 := x4) (o7 := o7) (o11 := o11) (s := fun l => !oB z c l) (base := []) (P := 0) hW hP h40 hw hc (by omega) (fun l => by cases oB z c l <;> rfl) (by rw [List.nil_append]; omega) hp.length 0 9999 w (by omega) (by omega) ⟨rfl, rfl, f, ho, fun p l h => by simp at h⟩
  simp only [List.nil_append] at e1 n1
  obtain ⟨wb, e2, n2⟩ := nx_loop (u2 := u2) (u3 := u3) (x2 := x2) (x4 := x4) (o7 := o7) (o11 := o11) (s := fun l => oB z c l) (base := hp.filter (fun l => !oB z c l)) (P := 1) hW hP h40 hw hc (by omega) (fun l => by cases oB z c l <;> rfl) (by rw [List.length_append]; omega) hp.length 0 9999 wa (by omega) (by omega) (by
    rw [show (hp.take 0).filter (fun l => oB z c l) = [] from rfl, List.append_nil]
    exact n1)
  refine ⟨wb, ?_, n2⟩
  rw [show (hp.take 0).filter (fun l => oB z c l) = [] from rfl, List.append_nil] at e2
  have e2' : L_L_goes_622 9999 u2 u3 (nI c) x4 o7 o11 x2 (nI (hp.filter (fun l => !oB z c l)).length, nI hp.length).1 (0 + 1) 0 wa = some ((nI (hp.filter (fun l => !oB z c l) ++ hp.filter (fun l => oB z c l)).length, nI hp.length), wb) := e2
  have s1 : ∀ n, L_L_goes_613 (n + 1 + 1 + 1) u2 u3 (nI c) x4 o7 o11 x2 0 0 w = some ((nI hp.length, nI 2), wb) := fun n => by
    show B_L_goes_613 (L_L_goes_613 (n + 1 + 1)) _ _ _ _ _ _ _ _ _ _ = _
    unfold B_L_goes_613
    rw [if_neg (by decide), show L_L_goes_622 9999 u2 u3 (nI c) x4 o7 o11 x2 0 0 0 w = _ from e1, bd_s]
    show B_L_goes_613 (L_L_goes_613 (n + 1)) _ _ _ _ _ _ _ _ (0 + 1) _ = _
    unfold B_L_goes_613
    rw [if_neg (by decide), e2', bd_s]
    show B_L_goes_613 (L_L_goes_613 n) _ _ _ _ _ _ _ _ (0 + 1 + 1) _ = _
    unfold B_L_goes_613
    rw [if_pos (by decide), ← od_len z c hp]
    rfl
  exact s1 9996
end LV1
