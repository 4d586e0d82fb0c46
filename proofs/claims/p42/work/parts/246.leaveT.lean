/-! a turn of the law that asks for leave -/
section LV2
variable {z z' z1 : Nat → Int32} {w w0 w1 w2 w' : xWt} {B T B' T' c h b l e i q N : Nat} {a u2 u3 x2 x4 o7 o11 v x y t : Int32} {R R' : Nat → Nat → Int32} {hp ls : List Nat}
/-- the state of the loop that gives c's leaves to e -/
def OJ (z : Nat → Int32) (c e : Nat) (ls : List Nat) (f : Nat → Int32) (w0 : xWt) (i : Nat) (w1 : xWt) : Prop := dN w0 w1 ∧ w1.2.2 = some f ∧ (∀ r, r ≠ 2 → r ≠ 3 → w1.1 10 r = w0.1 10 r) ∧ (∀ l, l < gN z → rLe z (w1.1 10) l (if l ∈ ls.take i ∧ oB z c l = true then e + 2 else whN z l)) ∧ ∀ p l, p < i → ls[p]? = some l → w1.1 10 3 p = nI l
theorem oj_step {f : Nat → Int32} (hW : WF z B T) (hB : B < 2 ^ 18) (h40 : gN z ≤ 40) (hc : c < 5) (he : e < 5) (hN : ls.length ≤ 40) (hnd : ls.Nodup) (hmem : ∀ l, l ∈ ls → l < gN z) (hf : ∀ p l, ls[p]? = some l → f p = nI l) (n : Nat) (hi : i < ls.length) (hJ : OJ z c e ls f w0 i w1) : ∃ w2, L_L_goes_705 (n + 1) u2 u3 (nI c) x4 o7 o11 (nI e) (nI ls.length) x2 (nI i) w1 = L_L_goes_705 n u2 u3 (nI c) x4 o7 o11 (nI e) (nI ls.length) x2 (nI (i + 1)) w2 ∧ OJ z c e ls f w0 (i + 1) w2 := by
  obtain ⟨j1, j2, j3, j4, j5⟩ := hJ
  have h1 := hW.s.2.1
  obtain ⟨l, hl⟩ : ∃ l, l = ls[i] := ⟨_, rfl⟩
  have hget : ls[i]? = some l := by rw [hl]; exact List.getElem?_eq_getElem hi
  have hlm : l ∈ ls := by rw [hl]; exact List.getElem_mem hi
  have hlg := hmem l hlm
  have hnot : l ∉ ls.take i := by
    intro hm
    have hn := hnd
    rw [← List.take_append_drop (i + 1) ls, take_s hi, List.append_assoc] at hn
    have := (List.nodup_append.mp hn).2.2 l hm l (by rw [← hl]; simp)
    exact this rfl
  have hwh8 := wh_lt hW hlg
  have hE : rLe z (w1.1 10) l (whN z l) := by
    have := j4 l hlg
    rwa [if_neg (fun q => hnot q.1)] at this
  obtain ⟨cc, b, t, c1, c2, c3, c4, c5, c6, c7⟩ := hE
  obtain ⟨wa, ha⟩ : ∃ wa, wa = lS w1 3 i (nI l) := ⟨_, rfl⟩
  have r3a : wa.1 10 3 i = nI l := by rw [ha, lS_eq, upd_eq]
  have r2a : wa.1 10 2 = w1.1 10 2 := by rw [ha, lS_ne _ _ _ (by omega)]
  have hwhere : F_L_where (nI l) wa = some (whV z l, wa) := l_where (by omega) (by rw [r2a]; exact c7) c1 c2 hwh8 (by omega)
  have hda : dN w1 wa := by rw [ha]; exact ((dL.rf w1).s _ _ _).nn
  have h3 : ∀ p l', p < i + 1 → ls[p]? = some l' → wa.1 10 3 p = nI l' := fun p l' hp h => by
    by_cases q : p = i
    · rw [q] at h ⊢
      rw [hget] at h
      cases h
      exact r3a
    · rw [ha, lS_eq, upd_ne _ _ q]
      exact j5 p l' (by omega) h
  by_cases q : oB z c l = true
  · obtain ⟨wb, hb⟩ : ∃ wb, wb = lS wa 2 l (nI (en cc b (e + 2) t)) := ⟨_, rfl⟩
    have hput : F_L_put (nI l) (nI e) wa = some ((), wb) := by
      have := l_put (w := wa) (l := l) (by omega) (by rw [r2a]; exact c7) c1 c2 hwh8 (by omega) (e + 2)
      rw [show nI (e + 2) - 2 = nI e from nI_sub (a := e + 2) (b := 2) (by omega), ← hb] at this
      exact this
    refine ⟨wb, ?_, j1.tr (hda.tr (by rw [hb]; exact ((dL.rf wa).s _ _ _).nn)), by rw [hb, lS_2, ha, lS_2]; exact j2, fun r q2 q3 => by rw [hb, lS_ne _ _ _ q2, ha, lS_ne _ _ _ q3]; exact j3 r q2 q3, fun l' hl' => ?_, fun p l' hp h => by rw [hb, lS_ne _ _ _ (by omega)]; exact h3 p l' hp h⟩
    · show B_L_goes_705 (L_L_goes_705 n) _ _ _ _ _ _ _ _ _ _ _ = _
      unfold B_L_goes_705
      rw [if_neg (nI_ge hi (by omega)), nld_s j2 (by omega), hf i l hget, s3 (by omega), ← ha, a3 (by omega), r3a, hwhere, bd_s, if_pos ((wh_c hW hlg hc).mpr q), a3 (by omega), r3a, hput, bd_s, bd_s, nI_1]
    · by_cases r : l' = l
      · rw [r, if_pos ⟨by rw [take_s hi, ← hl]; simp, q⟩]
        exact ⟨cc, b, t, c1, c2, c3, c4, c5, c6, by rw [hb, lS_eq, upd_eq]⟩
      · have : (l' ∈ ls.take (i + 1)) ↔ l' ∈ ls.take i := by rw [take_s hi, ← hl]; simp [r]
        simp only [this]
        obtain ⟨c, b, t, c1, c2, c3, c4, c5, c6, c7⟩ := j4 l' hl'
        exact ⟨c, b, t, c1, c2, c3, c4, c5, c6, by rw [hb, lS_eq, upd_ne _ _ r, r2a]; exact c7⟩
  · refine ⟨wa, ?_, j1.tr hda, by rw [ha, lS_2]; exact j2, fun r q2 q3 => by rw [ha, lS_ne _ _ _ q3]; exact j3 r q2 q3, fun l' hl' => ?_, h3⟩
    · show B_L_goes_705 (L_L_goes_705 n) _ _ _ _ _ _ _ _ _ _ _ = _
      unfold B_L_goes_705
      rw [if_neg (nI_ge hi (by omega)), nld_s j2 (by omega), hf i l hget, s3 (by omega), ← ha, a3 (by omega), r3a, hwhere, bd_s, if_neg (fun r => q ((wh_c hW hlg hc).mp r)), bd_s, nI_1]
    · have hsame : (if l' ∈ ls.take (i + 1) ∧ oB z c l' = true then e + 2 else whN z l') = if l' ∈ ls.take i ∧ oB z c l' = true then e + 2 else whN z l' := by
        by_cases r : l' = l
        · rw [r, if_neg (fun s => q s.2), if_neg (fun s => q s.2)]
        · have : (l' ∈ ls.take (i + 1)) ↔ l' ∈ ls.take i := by rw [take_s hi, ← hl]; simp [r]
          simp only [this]
      rw [hsame]
      obtain ⟨c, b, t, c1, c2, c3, c4, c5, c6, c7⟩ := j4 l' hl'
      exact ⟨c, b, t, c1, c2, c3, c4, c5, c6, by rw [r2a]; exact c7⟩
theorem oj_loop {f : Nat → Int32} (hW : WF z B T) (hB : B < 2 ^ 18) (h40 : gN z ≤ 40) (hc : c < 5) (he : e < 5) (hN : ls.length ≤ 40) (hnd : ls.Nodup) (hmem : ∀ l, l ∈ ls → l < gN z) (hf : ∀ p l, ls[p]? = some l → f p = nI l) : ∀ (m i n : Nat) (w1 : xWt), i + m = ls.length → m < n → OJ z c e ls f w0 i w1 → ∃ w2, L_L_goes_705 n u2 u3 (nI c) x4 o7 o11 (nI e) (nI ls.length) x2 (nI i) w1 = some (nI ls.length, w2) ∧ OJ z c e ls f w0 ls.length w2 := by
  intro m
  induction m with
  | zero =>
    intro i n w1 h hn hJ
    have hi : i = ls.length := by omega
    subst hi
    obtain ⟨k, rfl⟩ : ∃ k, n = k + 1 := ⟨n - 1, by omega⟩
    refine ⟨w1, ?_, hJ⟩
    show B_L_goes_705 (L_L_goes_705 k) _ _ _ _ _ _ _ _ _ _ _ = _
    unfold B_L_goes_705
    rw [if_pos (Int32.le_refl _)]
  | succ m ih =>
    intro i n w1 h hn hJ
    obtain ⟨k, rfl⟩ : ∃ k, n = k + 1 := ⟨n - 1, by omega⟩
    obtain ⟨w2, e1, e2⟩ := oj_step (u2 := u2) (u3 := u3) (x2 := x2) (x4 := x4) (o7 := o7) (o11 := o11) hW hB h40 hc he hN hnd hmem hf k (by omega) hJ
    rw [e1]
    exact ih (i + 1) k w2 (by omega) (by omega) e2
theorem LR.left (hW : WF z B T) (hT : T < 2 ^ 30) (hR : LR z R) (hP : rP z R hp) (hc : c < 5) (he : e < 5) (hZ : LZ z c e (hp.filter (fun l => oB z c l)) z') (r0 : R' 0 = R 0) (r1 : R' 1 = R 1) (r2 : ∀ l, l < gN z → rLe z R' l (if oB z c l = true then e + 2 else whN z l)) (r3 : ∀ p l, (od z c hp)[p]? = some l → R' 3 p = nI l) (r4c : R' 4 (6 * c) = 0 ∧ R' 4 (6 * c + 1) = 0 ∧ R' 4 (6 * c + 2) = -1) (r4 : ∀ i, i < 6 * c ∨ 6 * c + 6 ≤ i → R' 4 i = R 4 i) (r5 : ∀ i, i < 6 * c ∨ 6 * c + 6 ≤ i → R' 5 i = R 5 i) (r5c : ∀ h, h < 3 → R' 5 (6 * c + 2 * h) = 0 ∧ R' 5 (6 * c + 2 * h + 1) = -1) : LR z' R' := by
  have h120 := hW.g120
  have htN := hW.s.2.2.2.2.2.1
  obtain ⟨hM, hC, hK, hO⟩ := hZ
  have hH := hP.heap c
  have eg := hM.g
  have hZ : ∀ i, i < 22 → i ≠ 7 → z' i = z i := hM.2.2.2
  have eb : bN z' = bN z := by unfold bN; rw [hZ 0 (by omega) (by omega)]
  have hin : ∀ l, l < gN z → oB z c l = true → ∃ p, (hp.filter (fun l => oB z c l))[p]? = some l ∧ zL z' l 4 = nI e ∧ zL z' l 5 = nI (tN z + p) := fun l hl q => by
    obtain ⟨p, hp'⟩ := List.getElem?_of_mem ((hH.1 l).mpr ⟨hl, q⟩)
    exact ⟨p, hp', hM.1 p l hp' (List.getElem?_eq_some_iff.mp hp').1⟩
  have hout : ∀ l, ¬ oB z c l = true → l ∉ hp.filter (fun l => oB z c l) := fun l q r => q (List.mem_filter.mp r).2
  have hL : ∀ l k, l < gN z → k < 6 → (k ≠ 4 ∧ k ≠ 5) ∨ ¬ oB z c l = true → zL z' l k = zL z l k := fun l k hl hk h => hM.same (by omega) hk (h.imp id (hout l))
  refine ⟨?_, ?_, ?_, ?_, ?_, ?_, ?_, ?_, ?_⟩
  · obtain ⟨g0, g1, g2, g3, g4, g5, g6, g7, g8⟩ := hR.g
    unfold rG
    rw [r0, hZ 0 (by omega) (by omega), hZ 1 (by omega) (by omega), hZ 2 (by omega) (by omega), hZ 3 (by omega) (by omega), hZ 4 (by omega) (by omega), hZ 5 (by omega) (by omega), hZ 6 (by omega) (by omega), hZ 8 (by omega) (by omega), hZ 9 (by omega) (by omega)]
    exact ⟨g0, g1, g2, g3, g4, g5, g6, g7, g8⟩
  · intro b hb
    rw [r1, hZ _ (by omega) (by omega)]
    exact hR.b b hb
  · intro l hl
    rw [eg] at hl
    have hwh : whN z' l = if oB z c l = true then e + 2 else whN z l := by
      by_cases q : oB z c l = true
      · obtain ⟨p, -, e4, -⟩ := hin l hl q
        rw [if_pos q]
        unfold whN
        rw [hL l 1 hl (by omega) (Or.inl ⟨by omega, by omega⟩), (oB_iff.mp q).1, if_neg (by decide), if_neg (by decide), e4, nI_clamp (by omega)]
      · rw [if_neg q]
        exact whN_same (hL l 1 hl (by omega) (Or.inr q)) (hL l 4 hl (by omega) (Or.inr q))
    obtain ⟨c', b', t', c1, c2, c3, c4, c5, c6, c7⟩ := r2 l hl
    exact ⟨c', b', t', c1, c2, by rw [eb]; exact c3, by rw [hL l 0 hl (by omega) (Or.inl ⟨by omega, by omega⟩)]; exact c4, by rw [hL l 2 hl (by omega) (Or.inl ⟨by omega, by omega⟩)]; exact c5, by rw [hL l 3 hl (by omega) (Or.inl ⟨by omega, by omega⟩)]; exact c6, by rw [hwh]; exact c7⟩
  · intro d hd
    by_cases q : d = c
    · subst q
      rw [hC 0 (by omega), hC 1 (by omega), hC 2 (by omega)]
      refine ⟨r4c.1, r4c.2.1, r4c.2.2, fun r => ?_⟩
      exact absurd r (by decide)
    · rw [r4 _ (by omega), r4 _ (by omega), r4 _ (by omega), r4 _ (by omega), r4 _ (by omega), r4 _ (by omega), hO d hd q 0 (by omega), hO d hd q 1 (by omega), hO d hd q 2 (by omega), hO d hd q 3 (by omega), hO d hd q 4 (by omega), hO d hd q 5 (by omega)]
      exact hR.c d hd
  · intro d h hd hh
    by_cases q : d = c
    · subst q
      rw [(hK h hh).1, (hK h hh).2.1]
      exact r5c h hh
    · rw [r5 _ (by omega), r5 _ (by omega), show zH z' d h 0 = zH z d h 0 from hO d hd q (6 + 3 * h + 0) (by omega), show zH z' d h 1 = zH z d h 1 from hO d hd q (6 + 3 * h + 1) (by omega)]
      exact hR.k d h hd hh
  · have h1 : ∀ l, l < gN z → zL z' l 1 = zL z l 1 := fun l hl => hL l 1 hl (by omega) (Or.inl ⟨by omega, by omega⟩)
    have htu : ∀ l, l < gN z → ¬ oB z c l = true → tu z' l = tu z l := fun l hl q => by
      unfold tu
      rw [hL l 5 hl (by omega) (Or.inr q)]
    have htl : ∀ l, l ∈ hp → tu z l < tN z := fun l hm => by
      obtain ⟨x1, x2⟩ := (hP.1 l).mp hm
      obtain ⟨t, s1, s2⟩ := hW.turn x1 x2
      unfold tu
      rw [s2, nI_clamp (by omega)]
      exact s1
    have hlen := hH.le h120
    refine ⟨od z c hp, fun l => ?_, ?_, by rw [r0, od_len]; exact hP.2.2.1, r3⟩
    · rw [od_mem, hP.1 l, eg]
      constructor
      · rintro ⟨q1, q2⟩; exact ⟨q1, by rw [h1 l q1]; exact q2⟩
      · rintro ⟨q1, q2⟩; exact ⟨q1, by rw [← h1 l q1]; exact q2⟩
    · unfold od
      refine List.pairwise_append.mpr ⟨List.Pairwise.imp_of_mem (fun {x y} hx hy q => ?_) (hP.2.1.filter _), ?_, fun x hx y hy => ?_⟩
      · obtain ⟨x1, x2⟩ := List.mem_filter.mp hx
        obtain ⟨y1, y2⟩ := List.mem_filter.mp hy
        rw [htu x ((hP.1 x).mp x1).1 (fun r => by rw [r] at x2; exact absurd x2 (by decide)), htu y ((hP.1 y).mp y1).1 (fun r => by rw [r] at y2; exact absurd y2 (by decide))]
        exact q
      · refine List.pairwise_iff_getElem.mpr fun i j hi hj hij => ?_
        have ei := hM.1 i _ (List.getElem?_eq_getElem hi) hi
        have ej := hM.1 j _ (List.getElem?_eq_getElem hj) hj
        unfold tu
        rw [ei.2, ej.2, nI_clamp (by omega), nI_clamp (by omega)]
        omega
      · obtain ⟨x1, x2⟩ := List.mem_filter.mp hx
        obtain ⟨y1, y2⟩ := (hH.1 y).mp hy
        obtain ⟨p, q1, -, q2⟩ := hin y y1 y2
        have hplt := (List.getElem?_eq_some_iff.mp q1).1
        rw [htu x ((hP.1 x).mp x1).1 (fun r => by rw [r] at x2; exact absurd x2 (by decide))]
        have := htl x x1
        unfold tu at this ⊢
        rw [q2, nI_clamp (by omega)]
        omega
  · rw [eg]; exact hR.n
  · intro d h hd hh q
    by_cases r : d = c
    · subst r
      rw [(hK h hh).1] at q
      exact absurd q (by decide)
    · have e0 : ∀ k, k < 3 → zH z' d h k = zH z d h k := fun k hk => hO d hd r (6 + 3 * h + k) (by omega)
      rw [e0 0 (by omega)] at q
      obtain ⟨l, b', hl, hb', e1, e2, e3⟩ := hk_one hW hR hd hh q
      rw [e0 2 (by omega), e0 1 (by omega), e1, e2, nI_clamp (by omega), hL l 2 hl (by omega) (Or.inl ⟨by omega, by omega⟩), e3]
  · intro l b hl hb q1 q2
    rw [eg] at hl
    rw [hL l 1 hl (by omega) (Or.inl ⟨by omega, by omega⟩)] at q1
    rw [hL l 2 hl (by omega) (Or.inl ⟨by omega, by omega⟩)] at q2
    rw [hZ _ (by omega) (by omega)]
    exact hR.e.2 l b hl hb q1 q2
theorem g_leave (hI : IN z w B T) (hB : B < 2 ^ 18) (hT : T < 2 ^ 30) (hc : c < 5) (h7 : o7 = if zC z c 0 = 1 then 1 else 0) : ST w (B + 1) (T + 121) (G_leave u2 u3 (nI c) x4 o7 o11 w) := by
  have hI0 := hI
  obtain ⟨hW, hY, hR, hS⟩ := hI
  have h40 := hR.n
  have h120 := hW.g120
  by_cases ht : zC z c 0 = 1
  · rw [if_pos ht] at h7
    subst h7
    have h5 := cn_le (ch z) 5
    unfold G_leave
    rw [if_neg (by decide), l_children hW hR, bd_s]
    by_cases h1 : cn (ch z) 5 = 1
    · refine ST.no hI0 ?_ (by omega) (by omega)
      rw [h1, if_pos (show nI 1 = 1 from rfl), o_leave3 hY hc ht (by omega), bd_s, if_neg (by decide), bd_s, if_pos rfl]
    · have h2 : 1 < cn (ch z) 5 := by
        have : cn (ch z) 5 ≠ 0 := fun r => by
          have := (cn_0 _ _).mp r c hc
          unfold ch at this
          rw [decide_eq_true ht] at this
          exact absurd this (by decide)
        omega
      obtain ⟨hp, hP⟩ := hR.p
      have hple := hP.le
      obtain ⟨w1, e1, hd1, r1, q4, q5, z5⟩ := l_without w hc
      obtain ⟨w2, hw2⟩ : ∃ w2, w2 = lS w1 4 (6 * c) 0 := ⟨_, rfl⟩
      have hd2 : dL w w2 := by rw [hw2]; exact hd1.s _ _ _
      have r2 : ∀ r, r < 4 → w2.1 10 r = w.1 10 r := fun r hr => by rw [hw2, lS_ne _ _ _ (by omega)]; exact r1 r hr
      have r24 : w2.1 10 4 = upd (upd (upd (w.1 10 4) (6 * c + 1) 0) (6 * c + 2) (-1)) (6 * c) 0 := by rw [hw2, lS_eq, q4]
      have r25 : w2.1 10 5 = w1.1 10 5 := by rw [hw2, lS_ne _ _ _ (by omega)]
      obtain ⟨e, he, hne, hte, hl0, e2⟩ := l_584 (u2 := u2) (u3 := u3) (x2 := nI c) (x4 := x4) (o7 := 1) (o11 := o11) (w := w2) (c := c) hW (fun d hd => by
        rw [r24]
        by_cases q : d = c
        · rw [q, upd_eq, if_pos rfl]
        · rw [upd_ne _ _ (by omega), upd_ne _ _ (by omega), upd_ne _ _ (by omega), if_neg q]
          exact (hR.c d hd).1) h2
      obtain ⟨w3, hw3⟩ : ∃ w3, w3 = sO w2 (fun _ => 0) := ⟨_, rfl⟩
      have h31 : w3.1 = w2.1 := by rw [hw3]; rfl
      have hw : ∀ (w' : xWt), w'.1 = w3.1 → ∀ l, l < gN z → F_L_where (nI l) w' = some (whV z l, w') := fun w' hw' l hl => by
        refine l_whL hW hB h40 ?_ hl
        have := hR.l l hl
        unfold rL1 at this ⊢
        rw [hw', h31, r2 2 (by omega)]
        exact this
      have hP3 : rP z (w3.1 10) hp := by
        rw [h31]
        exact hP.same rfl (fun _ _ => rfl) (fun _ _ => rfl) (by rw [r2 0 (by omega)]) (r2 3 (by omega))
      obtain ⟨w4, e3, n1, n2, f, n3, n4⟩ := l_613 (u2 := u2) (u3 := u3) (x2 := nI e) (x4 := x4) (o7 := 1) (o11 := o11) hW hP3 h40 hw hc (fun _ => 0) (by rw [hw3]; rfl)
      have e4 : F_L_heap (nI c) w4 = some (nI (hN z c), w4) := l_heapW hW (by rw [n1]; exact hP3) h40 (hw w4 n1) hc
      have h24 : ∀ r, w4.1 10 r = w2.1 10 r := fun r => by rw [n1, h31]
      have hd4 : dN w w4 := ⟨fun k r hk => by rw [n1, h31]; exact hd2.1 k r hk, by rw [n2, hw3]; show w2.2.1 = _; rw [hd2.2]⟩
      have hol := od_len z c hp
      obtain ⟨w5, e5, m1, -, m3, m4, m5⟩ := oj_loop (u2 := u2) (u3 := u3) (x2 := nI (hN z c)) (x4 := x4) (o7 := 1) (o11 := o11) (w0 := w4) (ls := od z c hp) (f := f) hW hB h40 hc he (by rw [hol]; omega) (od_nodup hP.nodup) (fun l hm => ((hP.1 l).mp (od_mem.mp hm)).1) n4 (od z c hp).length 0 9999 w4 (by omega) (by omega) ⟨(dL.rf w4).nn, n3, fun _ _ _ => rfl, fun l hl => by
        rw [if_neg (fun q => absurd q.1 (by simp))]
        have := hR.l l hl
        unfold rL1 at this
        unfold rLe
        rw [h24, r2 2 (by omega)]
        exact this, fun p l hp' => absurd hp' (by omega)⟩
      have hd5 : dN w w5 := hd4.tr m1
      have hlenN : hN z c = (hp.filter (fun l => oB z c l)).length := (hP.heap c).len
      obtain ⟨z', hZ, hO1, w', e6, y6, s6, t6⟩ := o_leave hW (hY.dN hd5) (hS.dN hd5) hT hc ht h2 he hne hte hl0 (hP.heap c)
      have hRz : LR z' (w5.1 10) := by
        refine LR.left hW hT hR hP hc he hZ ?_ ?_ (fun l hl => ?_) (fun p l h => ?_) ?_ (fun i hi => ?_) (fun i hi => ?_) (fun h hh => ?_)
        · rw [m3 0 (by omega) (by omega), h24, r2 0 (by omega)]
        · rw [m3 1 (by omega) (by omega), h24, r2 1 (by omega)]
        · have := m4 l hl
          rw [List.take_length] at this
          by_cases q : oB z c l = true
          · rw [if_pos ⟨od_mem.mpr ((hP.1 l).mpr ⟨hl, (oB_iff.mp q).1⟩), q⟩] at this
            rw [if_pos q]
            exact this
          · rw [if_neg (fun r => q r.2)] at this
            rw [if_neg q]
            exact this
        · exact m5 p l (List.getElem?_eq_some_iff.mp h).1 h
        · rw [m3 4 (by omega) (by omega), h24, r24, upd_eq, upd_ne _ _ (by omega), upd_ne _ _ (by omega), upd_eq, upd_ne _ _ (by omega), upd_eq]
          exact ⟨rfl, rfl, rfl⟩
        · rw [m3 4 (by omega) (by omega), h24, r24, upd_ne _ _ (by omega), upd_ne _ _ (by omega), upd_ne _ _ (by omega)]
        · rw [m3 5 (by omega) (by omega), h24, r25]
          exact q5 i hi
        · rw [m3 5 (by omega) (by omega), h24, r25]
          exact z5 h hh
      refine ⟨z', dO w', ?_, ⟨hO1.mono (by omega) (by omega), y6.dN ⟨fun _ _ _ => rfl, rfl⟩, ?_, SV1.o s6⟩, fun _ => s6⟩
      · rw [hol] at e5
        rw [if_neg (show ¬ nI (cn (ch z) 5) = 1 from fun r => h1 (nI_inj (b := 1) (by omega) (by omega) r)), e1, bd_s, ix60, s4 (by omega), ← hw2, e2, bd_s, ← hw3, e3, bd_s, e4, bd_s, show L_L_goes_705 9999 u2 u3 (nI c) x4 1 o11 (nI e) (nI hp.length, nI 2).1 (nI (hN z c)) 0 w4 = some (nI hp.length, w5) from e5, bd_s, e6, bd_s, hlenN, if_pos rfl]
      · show LR z' (w'.1 10)
        rw [t6]
        exact hRz
  · rw [if_neg ht] at h7
    subst h7
    refine ST.no hI0 ?_ (by omega) (by omega)
    unfold G_leave
    rw [if_pos rfl, o_leave1 hY hc ht, bd_s, if_pos rfl, bd_s, if_pos rfl]
end LV2
