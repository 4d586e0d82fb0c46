/-! orders in the buffer: an order read by the reference; call 16 -/
theorem shape_NL {a : Int32} {w : xWt} (h : NL a) : F_X8_shapeOf a w = some (-1, w) := by
  have hn := NL_not h
  unfold F_X8_shapeOf
  rw [if_neg (fun q => hn (Or.inl q))]
  by_cases q : a.toInt = 99
  · rw [if_pos q]
  rw [if_neg q]
  clear q
  by_cases q : a.toInt = 100
  · rw [if_pos q]
  rw [if_neg q]
  clear q
  rw [if_neg (fun q => hn (Or.inr (Or.inl q)))]
  by_cases q : a.toInt = 102
  · rw [if_pos q]
  rw [if_neg q]
  clear q
  rw [if_neg (fun q => hn (Or.inr (Or.inr (Or.inl q))))]
  by_cases q : a.toInt = 104
  · rw [if_pos q]
  rw [if_neg q]
  clear q
  by_cases q : a.toInt = 105
  · rw [if_pos q]
  rw [if_neg q]
  clear q
  by_cases q : a.toInt = 106
  · rw [if_pos q]
  rw [if_neg q]
  clear q
  rw [if_neg (fun q => hn (Or.inr (Or.inr (Or.inr (Or.inl q)))))]
  by_cases q : a.toInt = 108
  · rw [if_pos q]
  rw [if_neg q]
  clear q
  by_cases q : a.toInt = 109
  · rw [if_pos q]
  rw [if_neg q]
  clear q
  rw [if_neg (fun q => hn (Or.inr (Or.inr (Or.inr (Or.inr (Or.inl q))))))]
  by_cases q : a.toInt = 111
  · rw [if_pos q]
  rw [if_neg q]
  clear q
  rw [if_neg (fun q => hn (Or.inr (Or.inr (Or.inr (Or.inr (Or.inr (Or.inl q)))))))]
  by_cases q : a.toInt = 113
  · rw [if_pos q]
  rw [if_neg q]
  clear q
  by_cases q : a.toInt = 114
  · rw [if_pos q]
  rw [if_neg q]
  clear q
  by_cases q : a.toInt = 115
  · rw [if_pos q]
  rw [if_neg q]
  clear q
  rw [if_neg (fun q => hn (Or.inr (Or.inr (Or.inr (Or.inr (Or.inr (Or.inr (Or.inl q))))))))]
  by_cases q : a.toInt = 117
  · rw [if_pos q]
  rw [if_neg q]
  clear q
  by_cases q : a.toInt = 118
  · rw [if_pos q]
  rw [if_neg q]
  clear q
  rw [if_neg (fun q => hn (Or.inr (Or.inr (Or.inr (Or.inr (Or.inr (Or.inr (Or.inr (Or.inl q)))))))))]
  rw [if_neg (fun q => hn (Or.inr (Or.inr (Or.inr (Or.inr (Or.inr (Or.inr (Or.inr (Or.inr (Or.inl q))))))))))]
  by_cases q : a.toInt = 121
  · rw [if_pos q]
  rw [if_neg q]
  clear q
  rw [if_neg (fun q => hn (Or.inr (Or.inr (Or.inr (Or.inr (Or.inr (Or.inr (Or.inr (Or.inr (Or.inr q))))))))))]
def rdW (t : Nat → Int32) (ln f : Nat) (w : xWt) : xWt := if f < ln then (match lsO (t f) with
  | none => sF w 9 4 (t f)
  | some l => scw t ln l (f + 1) (sF w 9 4 (t f))) else sF w 9 4 0
/-- the same but for what the reference reads into -/
def f9 (w w' : xWt) : Prop := (∀ k r, ¬ (k = 9 ∧ r = 4) → w'.1 k r = w.1 k r) ∧ (∀ k j, ¬ (k = 9 ∧ j = 4) → w'.2.1 k j = w.2.1 k j) ∧ w'.2.2 = w.2.2
theorem f9.rf (w : xWt) : f9 w w := ⟨fun _ _ _ => rfl, fun _ _ _ => rfl, rfl⟩
theorem f9.trans {a b c : xWt} (h1 : f9 a b) (h2 : f9 b c) : f9 a c := ⟨fun k r h => (h2.1 k r h).trans (h1.1 k r h), fun k j h => (h2.2.1 k j h).trans (h1.2.1 k j h), h2.2.2.trans h1.2.2⟩
theorem f9.gv (w : xWt) (k : Nat) (v : Int32) : f9 w (gv w k v) := ⟨fun _ _ h => sRow_ne _ _ h, fun _ _ _ => rfl, rfl⟩
theorem f9.let (w : xWt) (v : Int32) : f9 w (sF w 9 4 v) := ⟨fun _ _ _ => rfl, fun _ _ h => sF_ne _ _ h, rfl⟩
section TXR
variable {t : Nat → Int32} {xs : Nat → Int32} {L i B T : Nat} {rec : Int32 → xWt → Option Unit} {w w' : xWt} {ln f p k v n : Nat} {a s : Int32}
theorem f9.tx (h : f9 w w') (hT : TXm w t ln) : TXm w' t ln := ⟨(h.2.1 9 3 (by decide)).trans hT.1, fun i hi => (congrFun (h.1 9 3 (by decide)) i).trans (hT.2 i hi)⟩
theorem f9.zz (h : f9 w w') : zz w' = zz w := h.1 9 0 (by decide)
theorem scw_f9 (ks : List Nat) : ∀ p w, f9 w (scw t ln ks p w) := by
  induction ks with
  | nil => intro p w; exact f9.rf w
  | cons k ks ih =>
    intro p w
    unfold scw
    split
    · exact (f9.gv w k _).trans (ih _ _)
    · exact f9.gv w k _
theorem scw_let (ks : List Nat) : ∀ p w, (scw t ln ks p w).2.1 9 4 = w.2.1 9 4 := by
  induction ks with
  | nil => intro p w; rfl
  | cons k ks ih =>
    intro p w
    unfold scw
    split
    · rw [ih]; rfl
    · rfl
theorem rdW_f9 (w : xWt) : f9 w (rdW t ln f w) := by
  unfold rdW
  split
  · split
    · exact f9.let w _
    · exact (f9.let w _).trans (scw_f9 _ _ _)
  · exact f9.let w _
theorem rd1 (l1 sh : Int32) (w : xWt) : L_X8_readOrder_57 9999 l1 sh l1 1 100 w = some ((l1, 1, 100), w) := rd_exit (n := 9998) l1 sh l1 100 w
def roB (a : Int32) (w1 : xWt) : Option (Int32 × xWt) := bd (F_X8_shapeOf (w1.2.1 9 4) w1) (fun x3 w2 => (if 0 ≤ x3 then (if 0 ≤ x3 then bd (L_X8_readOrder_57 9999 a x3 (a + 1) 0 100 w2) (fun o32 w33 => (if o32.2.1 = 0 then some (o32.1, w33) else some (((-1) - o32.1), w33))) else bd (L_X8_readOrder_57 9999 a x3 (a + 1) 1 100 w2) (fun o35 w36 => (if o35.2.1 = 0 then some (o35.1, w36) else some (((-1) - o35.1), w36)))) else (if 0 ≤ x3 then bd (L_X8_readOrder_57 9999 a x3 a 0 100 w2) (fun o39 w40 => (if o39.2.1 = 0 then some (o39.1, w40) else some (((-1) - o39.1), w40))) else bd (L_X8_readOrder_57 9999 a x3 a 1 100 w2) (fun o42 w43 => (if o42.2.1 = 0 then some (o42.1, w43) else some (((-1) - o42.1), w43))))))
theorem lw_roB (a : Int32) (W : xWt) : lw W (fun w1 => bd (F_X8_shapeOf (w1.2.1 9 4) w1) (fun x3 w2 => (if 0 ≤ x3 then (if 0 ≤ x3 then bd (L_X8_readOrder_57 9999 a x3 (a + 1) 0 100 w2) (fun o32 w33 => (if o32.2.1 = 0 then some (o32.1, w33) else some (((-1) - o32.1), w33))) else bd (L_X8_readOrder_57 9999 a x3 (a + 1) 1 100 w2) (fun o35 w36 => (if o35.2.1 = 0 then some (o35.1, w36) else some (((-1) - o35.1), w36)))) else (if 0 ≤ x3 then bd (L_X8_readOrder_57 9999 a x3 a 0 100 w2) (fun o39 w40 => (if o39.2.1 = 0 then some (o39.1, w40) else some (((-1) - o39.1), w40))) else bd (L_X8_readOrder_57 9999 a x3 a 1 100 w2) (fun o42 w43 => (if o42.2.1 = 0 then some (o42.1, w43) else some (((-1) - o42.1), w43))))))) = roB a W := rfl
theorem ro_eq (a : Int32) (w : xWt) : F_X8_readOrder a w = if (w.2.1 9 3) ≤ a then roB a (sF w 9 4 0) else ald w 9 3 a (fun x => roB a (sF w 9 4 x)) := by
  unfold F_X8_readOrder
  by_cases h : (w.2.1 9 3) ≤ a
  · rw [if_pos h, if_pos h]
    exact lw_roB a _
  · rw [if_neg h, if_neg h]
    exact congrArg (ald w 9 3 a) (funext fun x => lw_roB a _)
theorem roB_bad {w1 : xWt} (h : F_X8_shapeOf (w1.2.1 9 4) w1 = some (-1, w1)) : roB a w1 = some ((-1) - a, w1) := by
  unfold roB
  rw [h, bd_s, if_neg (by decide), if_neg (by decide), rd1, bd_s]
  exact if_neg (show ¬ (1 : Int32) = 0 by decide)
theorem roB_ok {w1 w2 : xWt} {sh r g pw' : Int32} (h : F_X8_shapeOf (w1.2.1 9 4) w1 = some (sh, w1)) (h0 : 0 ≤ sh) (e : L_X8_readOrder_57 9999 a sh (a + 1) 0 100 w1 = some ((r, g, pw'), w2)) : roB a w1 = if g = 0 then some (r, w2) else some ((-1) - r, w2) := by
  unfold roB
  rw [h, bd_s, if_pos h0, if_pos h0, e, bd_s]
theorem m_ro_end (hT : TXm w t ln) (hf : ln ≤ f) (hf6 : f ≤ 60) : F_X8_readOrder (nI f) w = some ((-1) - nI f, sF w 9 4 0) := by
  rw [ro_eq, hT.1, if_pos (nI_le hf (by omega))]
  exact roB_bad (by rw [sF_eq]; rfl)
theorem m_ro_none (hT : TXm w t ln) (h60 : ln ≤ 60) (hf : f < ln) (hl : lsO (t f) = none) : F_X8_readOrder (nI f) w = some ((-1) - nI f, sF w 9 4 (t f)) := by
  have hN : NL (t f) := by
    rcases letters (t f) with e | e | e | e | e | e | e | e | e | e | e
    all_goals first
      | exact e
      | (rw [e] at hl; exact absurd hl (by decide))
  rw [ro_eq, hT.1, if_neg (nI_ge hf (by omega)), ald_in (k := 9) (r := 3) (show f < 60 by omega), hT.2 f hf]
  exact roB_bad (by rw [sF_eq]; exact shape_NL hN)
theorem m_ro_some (hT : TXm w t ln) (h60 : ln ≤ 60) (hf : f < ln) {l : List Nat} (hl : lsO (t f) = some l) : F_X8_readOrder (nI f) w = some (if (scp t ln l (f + 1)).2 = true then nI (scp t ln l (f + 1)).1 else (-1) - nI (scp t ln l (f + 1)).1, scw t ln l (f + 1) (sF w 9 4 (t f))) := by
  obtain ⟨sh, h1, h2, h3⟩ := Rd_letter (t := t) h60 hl
  obtain ⟨pw', e⟩ := h3 (nI f) (f + 1) (sF w 9 4 (t f)) ((f9.let w _).tx hT) (by omega)
  rw [ro_eq, hT.1, if_neg (nI_ge hf (by omega)), ald_in (k := 9) (r := 3) (show f < 60 by omega), hT.2 f hf, roB_ok (by rw [sF_eq]; exact h1 _) h2 (by rw [nI_1]; exact e)]
  by_cases q : (scp t ln l (f + 1)).2 = true
  · rw [if_pos q, if_pos q, if_pos (show (0 : Int32) = 0 from rfl)]
  · rw [if_neg q, if_neg q, if_neg (show ¬ (1 : Int32) = 0 by decide)]
theorem m_readOrder (hT : TXm w t ln) (h60 : ln ≤ 60) (hf : f ≤ 60) : F_X8_readOrder (nI f) w = some (if (rdO t ln f).2 = true then nI (rdO t ln f).1 else (-1) - nI (rdO t ln f).1, rdW t ln f w) := by
  unfold rdO rdW
  by_cases h : f < ln
  · rw [if_pos h, if_pos h]
    cases hl : lsO (t f) with
    | none => exact m_ro_none hT h60 h hl
    | some l => exact m_ro_some hT h60 h hl
  · rw [if_neg h, if_neg h]
    exact m_ro_end hT (by omega) hf
theorem rdO_le (hf : f ≤ ln) : (rdO t ln f).1 ≤ ln ∧ ((rdO t ln f).2 = true → f < (rdO t ln f).1) := by
  unfold rdO
  by_cases h : f < ln
  · rw [if_pos h]
    cases hl : lsO (t f) with
    | none => exact ⟨hf, fun q => Bool.noConfusion q⟩
    | some l =>
      have := scp_le (t := t) (ln := ln) l (f + 1) (by omega)
      exact ⟨this.1, fun _ => by dsimp only; omega⟩
  · rw [if_neg h]
    exact ⟨hf, fun q => Bool.noConfusion q⟩
theorem m1_sub {v : Nat} : (-1 : Int32) - ((-1) - nI v) = nI v := by
  have h : (-1 : Int32) - nI v + nI v = -1 := Int32.sub_add_cancel _ _
  have h2 : (-1 : Int32) - ((-1) - nI v) = ((-1) - nI v + nI v) - ((-1) - nI v) := by rw [h]
  rw [h2, Int32.add_comm, Int32.add_sub_cancel]
theorem m1_all : ∀ v, v < 61 → ¬ (0 : Int32) ≤ (-1) - nI v := by decide +kernel
theorem m1_neg {v : Nat} (hv : v < 61) : ¬ (0 : Int32) ≤ (-1) - nI v := m1_all v hv
/-- what finding an error leaves -/
def fE (w w' : xWt) : Prop := (∀ k r, ¬ (k = 9 ∧ r = 4) → w'.1 k r = w.1 k r) ∧ (∀ k j, ¬ (k = 9 ∧ (j = 4 ∨ j = 5)) → w'.2.1 k j = w.2.1 k j) ∧ w'.2.2 = w.2.2
theorem m_FEL (h60 : ln ≤ 60) : ∀ n f w, TXm w t ln → f ≤ ln → ln + 1 ≤ n + f → ∃ o w', L_X8_findError_7 n (nI f) w = some (o, w') ∧ (∀ w2 : xWt, sm o (fun x => some (x, w2)) (fun y => some (y, w2)) = (some (nI (FE t ln n f).1, w2) : Option (Int32 × xWt))) ∧ fE w w' ∧ w'.2.1 9 5 = if (FE t ln n f).2 = true then 1 else w.2.1 9 5 := by
  intro n
  induction n with
  | zero => intro f w hT h1 h2; omega
  | succ n ih =>
    intro f w hT h1 h2
    have hr := m_readOrder hT h60 (f := f) (by omega)
    have hle := rdO_le (t := t) h1
    have hf9 := rdW_f9 (t := t) (ln := ln) (f := f) w
    have hT2 := hf9.tx hT
    unfold FE
    by_cases q : (rdO t ln f).2 = true
    · rw [if_pos q] at hr ⊢
      have hlt := hle.2 q
      by_cases q2 : (rdO t ln f).1 = ln
      · refine ⟨.inr (nI ln), sF (rdW t ln f w) 9 5 1, ?_, fun w2 => by rw [if_pos q2]; rfl, ⟨fun k r h => hf9.1 k r h, fun k j h => by rw [sF_ne _ _ (by omega)]; exact hf9.2.1 k j (by omega), hf9.2.2⟩, by rw [if_pos q2, sF_eq]; rfl⟩
        show B_X8_findError_7 (L_X8_findError_7 n) (nI f) w = _
        unfold B_X8_findError_7 lw
        rw [hr, bd_s, if_pos (nI_pos' (by omega)), hT2.1, q2, if_pos rfl]
      · have hp : (rdO t ln f).1 < ln := by omega
        have ht : (rdW t ln f w).1 9 3 (rdO t ln f).1 = t (rdO t ln f).1 := hT2.2 _ hp
        by_cases q3 : t (rdO t ln f).1 = 59
        · obtain ⟨o, w', e1, e2, e3, e4⟩ := ih ((rdO t ln f).1 + 1) (rdW t ln f w) hT2 (by omega) (by omega)
          refine ⟨o, w', ?_, fun w2 => by rw [if_neg q2, if_pos q3]; exact e2 w2, ⟨fun k r h => (e3.1 k r h).trans (hf9.1 k r h), fun k j h => (e3.2.1 k j h).trans (hf9.2.1 k j (by omega)), e3.2.2.trans hf9.2.2⟩, ?_⟩
          · show B_X8_findError_7 (L_X8_findError_7 n) (nI f) w = _
            unfold B_X8_findError_7
            rw [hr, bd_s, if_pos (nI_pos' (by omega)), hT2.1, if_neg (fun r => q2 (nI_inj (by omega) (by omega) r)), ald_in (k := 9) (r := 3) (show (rdO t ln f).1 < 60 by omega), ht, if_pos q3, nI_1, e1]
          · rw [if_neg q2, if_pos q3, e4, hf9.2.1 9 5 (by decide)]
        · refine ⟨.inl (nI (rdO t ln f).1), rdW t ln f w, ?_, fun w2 => by rw [if_neg q2, if_neg q3]; rfl, ⟨hf9.1, fun k j h => hf9.2.1 k j (by omega), hf9.2.2⟩, by rw [if_neg q2, if_neg q3]; exact hf9.2.1 9 5 (by decide)⟩
          show B_X8_findError_7 (L_X8_findError_7 n) (nI f) w = _
          unfold B_X8_findError_7
          rw [hr, bd_s, if_pos (nI_pos' (by omega)), hT2.1, if_neg (fun r => q2 (nI_inj (by omega) (by omega) r)), ald_in (k := 9) (r := 3) (show (rdO t ln f).1 < 60 by omega), ht, if_neg q3]
    · rw [if_neg q] at hr ⊢
      refine ⟨.inr (nI (rdO t ln f).1), rdW t ln f w, ?_, fun w2 => rfl, ⟨hf9.1, fun k j h => hf9.2.1 k j (by omega), hf9.2.2⟩, hf9.2.1 9 5 (by decide)⟩
      show B_X8_findError_7 (L_X8_findError_7 n) (nI f) w = _
      unfold B_X8_findError_7
      rw [hr, bd_s, if_neg (m1_neg (by omega)), m1_sub]
theorem m_findError (hT : TXm w t ln) (h60 : ln ≤ 60) : ∃ w', F_X8_findError w = some (nI (FE t ln 9999 0).1, w') ∧ fE w w' ∧ w'.2.1 9 5 = if (FE t ln 9999 0).2 = true then 1 else 0 := by
  obtain ⟨o, w', e1, e2, e3, e4⟩ := m_FEL h60 9999 0 (sF w 9 5 0) hT (by omega) (by omega)
  refine ⟨w', ?_, ⟨e3.1, fun k j h => by rw [e3.2.1 k j h, sF_ne _ _ (by omega)], e3.2.2⟩, by rw [e4, sF_eq]⟩
  unfold F_X8_findError lw
  have e1' : L_X8_findError_7 9999 0 (sF w 9 5 0) = some (o, w') := e1
  dsimp only
  rw [e1', bd_s]
  exact e2 w'
theorem p_firstWrong (hl : w.2.1 8 0 = nI ln) (h60 : ln ≤ 60) : F_X3_firstWrong w = some (nI (FE (w.1 8 0) ln 9999 0).1, w) := by
  obtain ⟨o, e1, e2⟩ := PV.toFE hl h60 9999 0 (by omega) (by omega) 9999 (by omega)
  have e1' : L_X3_firstWrong_4 9999 0 0 w = some (o, w) := e1
  unfold F_X3_firstWrong
  rw [e1', bd_s, hl]
  exact e2
theorem K16 (hI : INV w B T) : ∃ w', K_law_16 xs L rec (nI i) w = rec (nI i + 4) w' ∧ INV w' (B + 60) (T + 200) := by
  obtain ⟨ln, d1, d2, d3, d4⟩ := hI.2.2.2.1
  obtain ⟨w', e1, e2, -⟩ := m_findError (w := sF w 9 0 0) (t := w.1 8 0) (ln := ln) ⟨d3, fun i hi => (d4 i hi).symm⟩ d1
  unfold K_law_16 F_X7_firstError F_X8_firstError lw
  dsimp only
  rw [p_firstWrong d2 d1, bd_s, bd_s, e1, bd_s, bd_s]
  refine ⟨_, if_pos rfl, (INV.sim (w := w) ⟨fun k r h => e2.1 k r h, fun k j h => ?_, fun h => by rw [e2.2.2]; exact h⟩ hI).mono (by omega) (by omega)⟩
  rw [e2.2.1 k j (by omega), sF_ne _ _ (by omega)]
end TXR
