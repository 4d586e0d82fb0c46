/-! one call of the law -/
theorem nI_sub4 {L i : Nat} (hL : L < 2 ^ 31) (h : ¬ (Int32.ofNat L) - 4 < nI i) (hi : i < 2 ^ 30) : i + 4 ≤ L ∨ L < 4 := by
  by_cases e : L < 4
  · exact Or.inr e
  · refine Or.inl ?_
    have h2 : ¬ nI L - nI 4 < nI i := h
    rw [nI_sub (by omega)] at h2
    by_cases q : L - 4 < i
    · exact absurd (nI_lt q (by omega)) h2
    · omega
theorem sld_k {β : Type} {xs : Nat → Int32} {L i k : Nat} (h : i + k < L) (hL : L < 2 ^ 31) {f : Int32 → Option β} : sld xs L (nI i + nI k) f = f (xs (i + k)) := by
  unfold sld
  rw [nI_add, if_neg (nI_in h hL), nI_clamp (by omega)]
/-- the program's side is the same, the reference's too, but for what nobody reads again -/
def sim (w w' : xWt) : Prop := (∀ k r, ¬ (k = 9 ∧ r = 4) → w'.1 k r = w.1 k r) ∧ (∀ k j, ¬ (k = 9 ∧ (j = 0 ∨ j = 4 ∨ j = 5)) → w'.2.1 k j = w.2.1 k j) ∧ (w.2.2 ≠ none → w'.2.2 ≠ none)
theorem sim.rf (w : xWt) : sim w w := ⟨fun _ _ _ => rfl, fun _ _ _ => rfl, fun h => h⟩
theorem sim.trans {a b c : xWt} (h1 : sim a b) (h2 : sim b c) : sim a c := ⟨fun k r h => (h2.1 k r h).trans (h1.1 k r h), fun k j h => (h2.2.1 k j h).trans (h1.2.1 k j h), fun h => h2.2.2 (h1.2.2 h)⟩
theorem sim.out (w : xWt) (v : Int64) : sim w (sO w v) := ⟨fun _ _ _ => rfl, fun _ _ _ => rfl, fun _ q => by cases q⟩
theorem sim.thr (w : xWt) (v : Int32) : sim w (sF w 9 0 v) := ⟨fun _ _ _ => rfl, fun k j h => sF_ne _ _ (fun q => h ⟨q.1, Or.inl q.2⟩), fun h => h⟩
/-- the saved row j -/
def sv (w : xWt) (j : Nat) : Nat → Int32 := fun i => w.1 9 1 (817 * j + i)
def iNow (w : xWt) (B T : Nat) : Prop := WF (zz w) B T ∧ YR 0 (zz w) w
def iKept (w : xWt) (B T : Nat) : Prop := w.2.1 8 3 = w.2.1 9 2 ∧ (w.2.1 9 2 = 0 ∨ (w.2.1 9 2 = 1 ∧ WF (w.1 9 2) B T ∧ YR 1 (w.1 9 2) w))
def rg (nx s j : Nat) : Nat := 2 + (nx + 6 - s + j) % 6
def iSaved (w : xWt) (B T : Nat) : Prop := ∃ s nx, s ≤ 6 ∧ nx < 6 ∧ w.2.1 9 1 = nI s ∧ w.2.1 8 2 = nI s ∧ w.2.1 8 1 = nI nx ∧ ∀ j, j < s → WF (sv w j) B T ∧ YR (rg nx s j) (sv w j) w
def iText (w : xWt) : Prop := ∃ ln, ln ≤ 60 ∧ w.2.1 8 0 = nI ln ∧ w.2.1 9 3 = nI ln ∧ ∀ i, i < ln → w.1 8 0 i = w.1 9 3 i
def INV (w : xWt) (B T : Nat) : Prop := iNow w B T ∧ iKept w B T ∧ iSaved w B T ∧ iText w ∧ w.2.2 ≠ none
theorem YR.rows {k : Nat} {z : Nat → Int32} {w w' : xWt} (hk : k < 8) (h1 : ∀ r, w'.1 k r = w.1 k r) (h2 : ∀ j, w'.2.1 k j = w.2.1 k j) (hY : YR k z w) : YR k z w' := by
  refine ⟨?_, ?_, ?_, ?_, ?_, ?_⟩
  · have q := hY.f
    unfold yF at q ⊢
    rw [h2, h2, h2, h2, h2, h2, h2, h2, h2]
    exact q
  · intro b hb; rw [h1]; exact hY.b b hb
  · intro l hl; rw [h1, h1, h1, h1, h1]; exact hY.l l hl
  · intro c hc; rw [h1, h1, h1, h1, h1]; exact hY.c c hc
  · intro c h hc hh; rw [h1, h1, h1]; exact hY.h c h hc hh
  · intro c hc; rw [h1, h1]; exact hY.p c hc
theorem WF.mono {z : Nat → Int32} {B T B' T' : Nat} (hB : B ≤ B') (hT : T ≤ T') (h : WF z B T) : WF z B' T' := by
  obtain ⟨⟨a1, a2, a3, a4, a5, a6, a7, a8⟩, r⟩ := h
  exact ⟨⟨a1, Nat.le_trans a2 hB, a3, a4, a5, Nat.le_trans a6 hT, a7, a8⟩, r⟩
theorem INV.mono {w : xWt} {B T B' T' : Nat} (hB : B ≤ B') (hT : T ≤ T') (h : INV w B T) : INV w B' T' := by
  obtain ⟨⟨a1, a2⟩, ⟨b1, b2⟩, ⟨s, nx, c1, c2, c3, c4, c5, c6⟩, d, e⟩ := h
  refine ⟨⟨a1.mono hB hT, a2⟩, ⟨b1, ?_⟩, ⟨s, nx, c1, c2, c3, c4, c5, fun j hj => ⟨(c6 j hj).1.mono hB hT, (c6 j hj).2⟩⟩, d, e⟩
  rcases b2 with q | ⟨q1, q2, q3⟩
  · exact Or.inl q
  · exact Or.inr ⟨q1, q2.mono hB hT, q3⟩
theorem YR.sim {k : Nat} {z : Nat → Int32} {w w' : xWt} (hk : k < 8) (h : sim w w') (hY : YR k z w) : YR k z w' :=
  hY.rows hk (fun r => h.1 k r (by omega)) (fun j => h.2.1 k j (by omega))
theorem rg_lt (nx s j : Nat) : rg nx s j < 8 := by unfold rg; omega
theorem INV.sim {w w' : xWt} {B T : Nat} (h : sim w w') (hI : INV w B T) : INV w' B T := by
  obtain ⟨⟨a1, a2⟩, ⟨b1, b2⟩, ⟨s, nx, c1, c2, c3, c4, c5, c6⟩, ⟨ln, d1, d2, d3, d4⟩, e⟩ := hI
  have ez : zz w' = zz w := h.1 9 0 (by omega)
  have e1 : w'.1 9 1 = w.1 9 1 := h.1 9 1 (by omega)
  have e2 : w'.1 9 2 = w.1 9 2 := h.1 9 2 (by omega)
  refine ⟨⟨by rw [ez]; exact a1, by rw [ez]; exact a2.sim (by omega) h⟩, ⟨by rw [h.2.1 8 3 (by omega), h.2.1 9 2 (by omega)]; exact b1, ?_⟩, ⟨s, nx, c1, c2, by rw [h.2.1 9 1 (by omega)]; exact c3, by rw [h.2.1 8 2 (by omega)]; exact c4, by rw [h.2.1 8 1 (by omega)]; exact c5, fun j hj => ?_⟩, ⟨ln, d1, by rw [h.2.1 8 0 (by omega)]; exact d2, by rw [h.2.1 9 3 (by omega)]; exact d3, fun i hi => by rw [h.1 8 0 (by omega), h.1 9 3 (by omega)]; exact d4 i hi⟩, h.2.2 e⟩
  · rw [h.2.1 9 2 (by omega), e2]
    rcases b2 with q | ⟨q1, q2, q3⟩
    · exact Or.inl q
    · exact Or.inr ⟨q1, q2, q3.sim (by omega) h⟩
  · have es : sv w' j = sv w j := by unfold sv; rw [e1]
    rw [es]
    exact ⟨(c6 j hj).1, (c6 j hj).2.sim (rg_lt _ _ _) h⟩
/-- the end of a call that gives a number on both sides -/
theorem cmp_rf (v : Int64) : lg_cmp v v = 0 := by unfold lg_cmp; simp
/-- what follows the two calls in the law -/
def tl (rec : Int32 → xWt → Option Unit) (l4 : Int32) (k b : Int32) (w2 : xWt) : Option Unit := bd (F_X8_thrown w2) (fun t w3 => if t = k then (if k = 0 then old w3 (fun q => if (lg_cmp q (Int32.toInt64 b)) = 0 then rec (l4 + 4) w3 else none) else rec (l4 + 4) w3) else none)
theorem tl_ret {rec : Int32 → xWt → Option Unit} {l4 v : Int32} {w2 : xWt} (ht : w2.2.1 9 0 = 0) (ho : w2.2.2 = some (v.toInt64)) : tl rec l4 0 v w2 = rec (l4 + 4) w2 := by
  unfold tl F_X8_thrown
  rw [bd_s, ht, if_pos rfl, if_pos rfl]
  unfold old
  rw [ho]
  dsimp only
  rw [cmp_rf, if_pos rfl]
theorem tl_thr {rec : Int32 → xWt → Option Unit} {l4 k b : Int32} {w2 : xWt} (hk : k ≠ 0) (ht : w2.2.1 9 0 = k) : tl rec l4 k b w2 = rec (l4 + 4) w2 := by
  unfold tl F_X8_thrown
  rw [bd_s, ht, if_pos rfl, if_neg hk]
theorem lwrap_ret {w1 : xWt} {v : Int32} {Es : List String} (ho : w1.2.2 ≠ none) : lwrap (some (.inl v, w1)) Es = some (0, sO w1 v.toInt64) := by
  unfold lwrap
  dsimp only
  cases h : w1.2.2 with
  | none => exact absurd h ho
  | some u => rfl
