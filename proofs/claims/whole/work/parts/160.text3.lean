/-! orders in the buffer: the reference's reading; call 16 -/
def bs (k : Nat) : Int32 := if k = 3 then 97 else 48
def mo (k : Nat) : Nat := match k with
  | 1 => 4
  | 2 => 2
  | 3 => 11
  | _ => 9
def gv (w : xWt) (k : Nat) (v : Int32) : xWt := sRow w 9 4 (upd (w.1 9 4) k v)
def scw (t : Nat → Int32) (ln : Nat) : List Nat → Nat → xWt → xWt
  | [], _, w => w
  | k :: ks, p, w => if p < ln ∧ okS k (t p) = true then scw t ln ks (p + 1) (gv w k (t p - bs k)) else gv w k (-1)
def TXm (w : xWt) (t : Nat → Int32) (ln : Nat) : Prop := w.2.1 9 3 = nI ln ∧ ∀ i, i < ln → w.1 9 3 i = t i
section TXM
variable {t : Nat → Int32} {xs : Nat → Int32} {L i B T : Nat} {rec : Int32 → xWt → Option Unit} {w w' : xWt} {ln f p k v n : Nat} {a s : Int32}
theorem TXm.gv (h : TXm w t ln) (k : Nat) (v : Int32) : TXm (gv w k v) t ln := ⟨h.1, fun i hi => (congrFun (sRow_ne w (k := 9) (r := 4) (k' := 9) (r' := 3) _ (by decide)) i).trans (h.2 i hi)⟩
theorem in_iff (base most : Nat) (hb : base + most < 2 ^ 31) : (s - nI base < 0 ∨ nI most < s - nI base) ↔ ¬ ∃ j, j ≤ most ∧ s = nI (base + j) := by
  constructor
  · rintro q ⟨j, hj, e⟩
    rw [e, nI_sub (by omega), show base + j - base = j by omega] at q
    rcases q with q | q
    · exact nI_pos (by omega) q
    · exact nI_nlt hj (by omega) q
  · intro q
    refine Classical.byContradiction fun r => q ?_
    obtain ⟨j, h1, h2, h3⟩ := i_rng (v := s - nI base) (lo := 0) (hi := most) (by omega) (fun x => r x) (by omega)
    refine ⟨j, h2, ?_⟩
    have : s = s - nI base + nI base := (Int32.sub_add_cancel s (nI base)).symm
    rw [h3, nI_add, Nat.add_comm] at this
    exact this
theorem rng_iff (base most : Nat) (hb : base + most + 1 < 2 ^ 31) : (!decide (s < nI base) && !decide (nI (base + most + 1) ≤ s)) = true ↔ ∃ j, j ≤ most ∧ s = nI (base + j) := by
  rw [Bool.and_eq_true, Bool.not_eq_true', Bool.not_eq_true', decide_eq_false_iff_not, decide_eq_false_iff_not]
  constructor
  · rintro ⟨q1, q2⟩
    have h0 : ¬ s < 0 := fun q => q1 (Int32.lt_of_lt_of_le q (nI_pos' (by omega)))
    obtain ⟨j, h1, rfl⟩ := nI_of h0
    have hj1 : base ≤ j := by
      by_cases q : base ≤ j
      · exact q
      · exact absurd (nI_lt (by omega) (by omega)) q1
    have hj2 : j < base + most + 1 := by
      by_cases q : j < base + most + 1
      · exact q
      · exact absurd (nI_le (by omega) h1) q2
    exact ⟨j - base, by omega, by congr 1; omega⟩
  · rintro ⟨j, h1, rfl⟩
    exact ⟨nI_nlt (by omega) (by omega), nI_ge (by omega) (by omega)⟩
theorem okS_iff (h1 : 1 ≤ k) (h4 : k ≤ 4) : okS k s = true ↔ ∃ j, j ≤ mo k ∧ s - bs k = nI j ∧ s = bs k + nI j := by
  have key : ∀ base most : Nat, base + most + 1 < 2 ^ 31 → ((∃ j, j ≤ most ∧ s = nI (base + j)) ↔ ∃ j, j ≤ most ∧ s - nI base = nI j ∧ s = nI base + nI j) := fun base most hb => by
    constructor
    · rintro ⟨j, hj, rfl⟩
      exact ⟨j, hj, by rw [nI_sub (by omega)]; congr 1; omega, (nI_add _ _).symm⟩
    · rintro ⟨j, hj, -, e⟩
      exact ⟨j, hj, by rw [e, nI_add]⟩
  match k, h1, h4 with
  | 1, _, _ => exact (rng_iff 48 4 (by omega)).trans (key 48 4 (by omega))
  | 2, _, _ => exact (rng_iff 48 2 (by omega)).trans (key 48 2 (by omega))
  | 3, _, _ => exact (rng_iff 97 11 (by omega)).trans (key 97 11 (by omega))
  | 4, _, _ => exact (rng_iff 48 9 (by omega)).trans (key 48 9 (by omega))
  | n + 5, _, h4 => exact absurd h4 (by omega)
theorem val_in (base most : Nat) (hb : base + most + 1 < 2 ^ 31) : bd (F_X8_in (s - nI base) 0 (nI most) w) (fun x w1 => (if x = 0 then some ((-1 : Int32), w1) else some (s - nI base, w1))) = some (if (!decide (s < nI base) && !decide (nI (base + most + 1) ≤ s)) = true then s - nI base else -1, w) := by
  rw [m_in, bd_s]
  by_cases q : ∃ j, j ≤ most ∧ s = nI (base + j)
  · rw [if_neg (fun r => (in_iff base most (by omega)).mp r q), if_neg (by decide), if_pos ((rng_iff base most hb).mpr q)]
  · rw [if_pos ((in_iff base most (by omega)).mpr q), if_pos rfl, if_neg (fun r => q ((rng_iff base most hb).mp r))]
theorem m_valueOf (h1 : 1 ≤ k) (h4 : k ≤ 4) : F_X8_valueOf (nI k) s w = some (if okS k s = true then s - bs k else -1, w) := by
  unfold F_X8_valueOf
  match k, h1, h4 with
  | 1, _, _ =>
    rw [if_neg (by decide), if_pos (show nI 1 = 1 from rfl)]
    exact val_in 48 4 (by omega)
  | 2, _, _ =>
    rw [if_neg (by decide), if_neg (by decide), if_pos (show nI 2 = 2 from rfl)]
    exact val_in 48 2 (by omega)
  | 3, _, _ =>
    rw [if_pos (show nI 3 = 3 from rfl), if_neg (by decide), if_neg (by decide), if_pos (show nI 3 = 3 from rfl)]
    exact val_in 97 11 (by omega)
  | 4, _, _ =>
    rw [if_neg (by decide), if_neg (by decide), if_neg (by decide), if_neg (by decide)]
    exact val_in 48 9 (by omega)
  | n + 5, _, h4 => exact absurd h4 (by omega)
/-- the loop over the powers of ten -/
def Rd (t : Nat → Int32) (ln n : Nat) (sh : Int32) (ks : List Nat) (pw : Int32) : Prop := ∀ (l1 : Int32) (p : Nat) (w : xWt), TXm w t ln → p < 2 ^ 30 → ∃ pw', L_X8_readOrder_57 n l1 sh (nI p) 0 pw w = some ((nI (scp t ln ks p).1, (if (scp t ln ks p).2 = true then 0 else 1), pw'), scw t ln ks p w)
theorem Rd.fin (sh : Int32) : Rd t ln (n + 1) sh [] 0 := fun l1 p w hT hp => by
  refine ⟨0, ?_⟩
  show B_X8_readOrder_57 (L_X8_readOrder_57 n) l1 sh (nI p) 0 0 w = _
  unfold B_X8_readOrder_57
  rw [if_pos (by decide)]
  rfl
theorem rd_exit (l1 sh l3 pw : Int32) (w : xWt) : L_X8_readOrder_57 (n + 1) l1 sh l3 1 pw w = some ((l3, 1, pw), w) := by
  show B_X8_readOrder_57 (L_X8_readOrder_57 n) l1 sh l3 1 pw w = _
  unfold B_X8_readOrder_57
  rw [if_neg (show ¬ (1 : Int32) = 0 by decide), ite_self]
theorem dv_k {β : Type} {x y q : Int32} (h : y ≠ 0) (hq : x / y = q) (f : Int32 → Option β) : dv x y f = f q := by
  unfold dv
  rw [if_neg h, hq]
theorem rm_k {β : Type} {x y q : Int32} (h : y ≠ 0) (hq : x - x / y * y = q) (f : Int32 → Option β) : rm x y f = f q := by
  unfold rm
  rw [if_neg h, hq]
theorem Rd.skip {sh pw q pw1 : Int32} {ks : List Nat} (h : Rd t ln n sh ks pw1) (h0 : ¬ pw ≤ 0) (h1 : pw ≠ 0) (h2 : sh / pw = q) (h3 : q - q / 10 * 10 = 0) (h4 : pw / 10 = pw1) : Rd t ln (n + 1) sh ks pw := fun l1 p w hT hp => by
  obtain ⟨pw', e⟩ := h l1 p w hT hp
  refine ⟨pw', ?_⟩
  show B_X8_readOrder_57 (L_X8_readOrder_57 n) l1 sh (nI p) 0 pw w = _
  unfold B_X8_readOrder_57
  rw [if_neg h0, if_pos rfl, dv_k h1 h2, rm_k (by decide) h3, if_pos (by decide), dv_k (by decide) h4]
  exact e
theorem gv_get {β : Type} (w : xWt) {k : Nat} (hk : k < 5) (v : Int32) (f : Int32 → Option β) : ald (gv w k v) 9 4 (nI k) f = f v := by
  rw [ald_in (w := gv w k v) (k := 9) (r := 4) (by show k < 5; exact hk)]
  congr 1
  show (sRow w 9 4 (upd (w.1 9 4) k v)).1 9 4 k = v
  rw [sRow_eq, upd_eq]
theorem Rd.take {sh pw q pw1 : Int32} {k : Nat} {ks : List Nat} (h : Rd t ln (n + 1) sh ks pw1) (h60 : ln ≤ 60) (hk1 : 1 ≤ k) (hk4 : k ≤ 4) (h0 : ¬ pw ≤ 0) (h1 : pw ≠ 0) (h2 : sh / pw = q) (h3 : q - q / 10 * 10 = nI k) (h4 : pw / 10 = pw1) : Rd t ln (n + 2) sh (k :: ks) pw := fun l1 p w hT hp => by
  have hst : ∀ {β : Type} (v : Int32) (f : xWt → Option β), ast w 9 4 (nI k) v f = f (gv w k v) := fun v f => ast_in (k := 9) (r := 4) (by show k < 5; omega)
  have hkk : ¬ nI k ≤ 0 := nI_nle hk1 (by omega)
  have hbad : okS k (t p) = false ∨ ln ≤ p → L_X8_readOrder_57 (n + 2) l1 sh (nI p) 0 pw w = L_X8_readOrder_57 (n + 1) l1 sh (nI p) 1 pw1 (gv w k (-1)) := fun hb => by
    show B_X8_readOrder_57 (L_X8_readOrder_57 (n + 1)) l1 sh (nI p) 0 pw w = _
    unfold B_X8_readOrder_57
    rw [if_neg h0, if_pos rfl, dv_k h1 h2, rm_k (by decide) h3, if_neg hkk, hT.1]
    by_cases q1 : ln ≤ p
    · rw [if_pos (nI_le q1 (by omega)), hst, gv_get w (by omega), if_neg (by decide), dv_k (by decide) h4, nI_add0]
    · rw [if_neg (nI_ge (by omega) (by omega)), ald_in (k := 9) (r := 3) (show p < 60 by omega), hT.2 p (by omega), m_valueOf hk1 hk4, bd_s, if_neg (by rw [hb.resolve_right q1]; decide), hst, gv_get w (by omega), if_neg (by decide), dv_k (by decide) h4, nI_add0]
  unfold scp scw
  by_cases q : p < ln ∧ okS k (t p) = true
  · obtain ⟨j, hj, e1, -⟩ := (okS_iff hk1 hk4).mp q.2
    have hj9 : j ≤ 11 := by
      have : mo k ≤ 11 := by
        unfold mo
        split <;> omega
      omega
    obtain ⟨pw', e⟩ := h l1 (p + 1) (gv w k (t p - bs k)) (hT.gv _ _) (by omega)
    refine ⟨pw', ?_⟩
    rw [if_pos q, if_pos q, ← e]
    show B_X8_readOrder_57 (L_X8_readOrder_57 (n + 1)) l1 sh (nI p) 0 pw w = _
    unfold B_X8_readOrder_57
    rw [if_neg h0, if_pos rfl, dv_k h1 h2, rm_k (by decide) h3, if_neg hkk, hT.1, if_neg (nI_ge q.1 (by omega)), ald_in (k := 9) (r := 3) (show p < 60 by omega), hT.2 p q.1, m_valueOf hk1 hk4, bd_s, if_pos q.2, hst, gv_get w (by omega), if_pos (by rw [e1]; exact nI_pos' (by omega)), dv_k (by decide) h4, nI_1]
  · rw [if_neg q, if_neg q]
    refine ⟨pw1, ?_⟩
    rw [hbad (by
      by_cases q1 : ln ≤ p
      · exact Or.inr q1
      · exact Or.inl (Bool.eq_false_iff.mpr fun r => q ⟨by omega, r⟩)), rd_exit]
    rfl
theorem Rd_letter (h60 : ln ≤ 60) {l : List Nat} (hl : lsO a = some l) : ∃ sh, (∀ w : xWt, F_X8_shapeOf a w = some (sh, w)) ∧ 0 ≤ sh ∧ Rd t ln 9999 sh l 100 := by
  have f0 : ∀ sh, Rd t ln (9995 + 1) sh [] 0 := fun sh => Rd.fin sh
  have s1 : ∀ (sh : Int32) (q : Int32) (ks : List Nat), Rd t ln (9995 + 1) sh ks 0 → sh / 1 = q → q - q / 10 * 10 = 0 → Rd t ln (9995 + 2) sh ks 1 := fun sh q ks h h2 h3 => h.skip (by decide) (by decide) h2 h3 (by decide)
  have s10 : ∀ (sh : Int32) (q : Int32) (ks : List Nat), Rd t ln (9995 + 2) sh ks 1 → sh / 10 = q → q - q / 10 * 10 = 0 → Rd t ln (9995 + 3) sh ks 10 := fun sh q ks h h2 h3 => h.skip (by decide) (by decide) h2 h3 (by decide)
  have s100 : ∀ (sh : Int32) (q : Int32) (ks : List Nat), Rd t ln (9995 + 3) sh ks 10 → sh / 100 = q → q - q / 10 * 10 = 0 → Rd t ln (9995 + 4) sh ks 100 := fun sh q ks h h2 h3 => h.skip (by decide) (by decide) h2 h3 (by decide)
  have t1 : ∀ (sh : Int32) (q : Int32) (ks : List Nat) (k : Nat), Rd t ln (9995 + 1) sh ks 0 → 1 ≤ k → k ≤ 4 → sh / 1 = q → q - q / 10 * 10 = nI k → Rd t ln (9995 + 2) sh (k :: ks) 1 := fun sh q ks k h g1 g2 h2 h3 => h.take h60 g1 g2 (by decide) (by decide) h2 h3 (by decide)
  have t10 : ∀ (sh : Int32) (q : Int32) (ks : List Nat) (k : Nat), Rd t ln (9995 + 2) sh ks 1 → 1 ≤ k → k ≤ 4 → sh / 10 = q → q - q / 10 * 10 = nI k → Rd t ln (9995 + 3) sh (k :: ks) 10 := fun sh q ks k h g1 g2 h2 h3 => Rd.take (n := 9996) h h60 g1 g2 (by decide) (by decide) h2 h3 (by decide)
  have t100 : ∀ (sh : Int32) (q : Int32) (ks : List Nat) (k : Nat), Rd t ln (9995 + 3) sh ks 10 → 1 ≤ k → k ≤ 4 → sh / 100 = q → q - q / 10 * 10 = nI k → Rd t ln (9995 + 4) sh (k :: ks) 100 := fun sh q ks k h g1 g2 h2 h3 => Rd.take (n := 9997) h h60 g1 g2 (by decide) (by decide) h2 h3 (by decide)
  rcases letters a with e | e | e | e | e | e | e | e | e | e | e
  · subst e; cases hl
    exact ⟨0, fun w => rfl, by decide, s100 0 0 _ (s10 0 0 _ (s1 0 0 _ (f0 0) (by decide) (by decide)) (by decide) (by decide)) (by decide) (by decide)⟩
  · subst e; cases hl
    exact ⟨1, fun w => rfl, by decide, s100 1 0 _ (s10 1 0 _ (t1 1 1 _ 1 (f0 1) (by decide) (by decide) (by decide) (by decide)) (by decide) (by decide)) (by decide) (by decide)⟩
  · subst e; cases hl
    exact ⟨34, fun w => rfl, by decide, s100 34 0 _ (t10 34 3 _ 3 (t1 34 34 _ 4 (f0 34) (by decide) (by decide) (by decide) (by decide)) (by decide) (by decide) (by decide) (by decide)) (by decide) (by decide)⟩
  · subst e; cases hl
    exact ⟨1, fun w => rfl, by decide, s100 1 0 _ (s10 1 0 _ (t1 1 1 _ 1 (f0 1) (by decide) (by decide) (by decide) (by decide)) (by decide) (by decide)) (by decide) (by decide)⟩
  · subst e; cases hl
    exact ⟨123, fun w => rfl, by decide, t100 123 1 _ 1 (t10 123 12 _ 2 (t1 123 123 _ 3 (f0 123) (by decide) (by decide) (by decide) (by decide)) (by decide) (by decide) (by decide) (by decide)) (by decide) (by decide) (by decide) (by decide)⟩
  · subst e; cases hl
    exact ⟨12, fun w => rfl, by decide, s100 12 0 _ (t10 12 1 _ 1 (t1 12 12 _ 2 (f0 12) (by decide) (by decide) (by decide) (by decide)) (by decide) (by decide) (by decide) (by decide)) (by decide) (by decide)⟩
  · subst e; cases hl
    exact ⟨13, fun w => rfl, by decide, s100 13 0 _ (t10 13 1 _ 1 (t1 13 13 _ 3 (f0 13) (by decide) (by decide) (by decide) (by decide)) (by decide) (by decide) (by decide) (by decide)) (by decide) (by decide)⟩
  · subst e; cases hl
    exact ⟨134, fun w => rfl, by decide, t100 134 1 _ 1 (t10 134 13 _ 3 (t1 134 134 _ 4 (f0 134) (by decide) (by decide) (by decide) (by decide)) (by decide) (by decide) (by decide) (by decide)) (by decide) (by decide) (by decide) (by decide)⟩
  · subst e; cases hl
    exact ⟨12, fun w => rfl, by decide, s100 12 0 _ (t10 12 1 _ 1 (t1 12 12 _ 2 (f0 12) (by decide) (by decide) (by decide) (by decide)) (by decide) (by decide) (by decide) (by decide)) (by decide) (by decide)⟩
  · subst e; cases hl
    exact ⟨1, fun w => rfl, by decide, s100 1 0 _ (s10 1 0 _ (t1 1 1 _ 1 (f0 1) (by decide) (by decide) (by decide) (by decide)) (by decide) (by decide)) (by decide) (by decide)⟩
  · rw [lsO_NL e] at hl
    cases hl
end TXM
