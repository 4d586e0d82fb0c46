/-! one order, done on both sides -/
def ONE (B T : Nat) (wp wr1 : xWt) (f : Nat) : Prop := (F_X7_carryOut (nI f) wp = some (-1, wp) ∧ F_X8_canDo wr1 = some (0, wr1)) ∨ ∃ v wq wE x, F_X7_carryOut (nI f) wp = some (v, wq) ∧ v ≠ -1 ∧ dP wp wq ∧ F_X8_canDo wr1 = some (1, wr1) ∧ F_X8_doOrder wr1 = some (x, wE) ∧ dM wr1 wE ∧ YR 0 (zz wE) wq ∧ WF (zz wE) (B + 1) (T + 1)
section ORD
variable {t z : Nat → Int32} {wp wr1 w : xWt} {ln f p k v n B T : Nat} {a s : Int32}
theorem DV.up {B T B' T' : Nat} {fP fM : xWt → Option (Int32 × xWt)} (hB : B ≤ B') (hT : T ≤ T') (h : DV z B T w fP fM) : DV z B' T' w fP fM := fun wr hz => by
  obtain ⟨v, wq, wE, a1, a2, a3, a4, a5, a6, a7⟩ := h wr hz
  exact ⟨v, wq, wE, a1, a2, a3, a4, a5, a6.mono hB hT, a7⟩
theorem DG.vv {B T : Nat} {fP fM : xWt → Option (Int32 × xWt)} (h : DG z B T w fP fM) : DV z B T w fP fM := fun wr hz => by
  obtain ⟨v, wq, wE, a1, a2, a3, a4, a5, a6, -, a8⟩ := h wr hz
  exact ⟨v, wq, wE, a1, a2, a3, a4, a5, a6, a8⟩
theorem scp_all (ks : List Nat) : ∀ p, (scp t ln ks p).2 = true → ∀ j k, ks[j]? = some k → p + j < ln ∧ okS k (t (p + j)) = true := by
  induction ks with
  | nil => intro p _ j k h; simp at h
  | cons k0 ks ih =>
    intro p
    unfold scp
    by_cases q : p < ln ∧ okS k0 (t p) = true
    · rw [if_pos q]
      intro r j k h
      cases j with
      | zero =>
        have : k0 = k := Option.some.inj h
        rw [← this]
        exact q
      | succ j =>
        have := ih (p + 1) r j k h
        rw [show p + 1 + j = p + (j + 1) by omega] at this
        exact this
    · rw [if_neg q]
      intro r; exact Bool.noConfusion r
theorem scw_keep (ks : List Nat) : ∀ p (w : xWt) k, k ∉ ks → (scw t ln ks p w).1 9 4 k = w.1 9 4 k := by
  induction ks with
  | nil => intro p w k _; rfl
  | cons k0 ks ih =>
    intro p w k hk
    have h0 : k ≠ k0 := fun q => hk (by rw [q]; exact List.mem_cons_self)
    have hg : ∀ v, (gv w k0 v).1 9 4 k = w.1 9 4 k := fun v => by
      unfold gv
      rw [sRow_eq, upd_ne _ _ h0]
    unfold scw
    split
    · rw [ih _ _ _ (fun q => hk (List.mem_cons_of_mem _ q)), hg]
    · exact hg _
theorem scw_get (ks : List Nat) (hn : ks.Nodup) : ∀ p (w : xWt), (scp t ln ks p).2 = true → ∀ j k, ks[j]? = some k → (scw t ln ks p w).1 9 4 k = t (p + j) - bs k := by
  induction ks with
  | nil => intro p w _ j k h; simp at h
  | cons k0 ks ih =>
    obtain ⟨n1, n2⟩ := List.nodup_cons.mp hn
    intro p w
    unfold scp scw
    by_cases q : p < ln ∧ okS k0 (t p) = true
    · rw [if_pos q, if_pos q]
      intro r j k h
      cases j with
      | zero =>
        have : k0 = k := Option.some.inj h
        subst this
        rw [scw_keep _ _ _ _ n1]
        unfold gv
        rw [sRow_eq, upd_eq]
        rfl
      | succ j =>
        have := ih n2 (p + 1) (gv w k0 (t p - bs k0)) r j k h
        rw [show p + 1 + j = p + (j + 1) by omega] at this
        exact this
    · rw [if_neg q]
      intro r; exact Bool.noConfusion r
theorem g4 {β : Type} (w : xWt) {i : Nat} (hi : i < 5) (f : Int32 → Option β) : ald w 9 4 (nI i) f = f (w.1 9 4 i) := ald_in (w := w) (k := 9) (r := 4) (by show i < 5; exact hi)
theorem g41 {β : Type} (w : xWt) (f : Int32 → Option β) : ald w 9 4 1 f = f (w.1 9 4 1) := g4 w (i := 1) (by omega) f
theorem g42 {β : Type} (w : xWt) (f : Int32 → Option β) : ald w 9 4 2 f = f (w.1 9 4 2) := g4 w (i := 2) (by omega) f
theorem g43 {β : Type} (w : xWt) (f : Int32 → Option β) : ald w 9 4 3 f = f (w.1 9 4 3) := g4 w (i := 3) (by omega) f
theorem g44 {β : Type} (w : xWt) (f : Int32 → Option β) : ald w 9 4 4 f = f (w.1 9 4 4) := g4 w (i := 4) (by omega) f
theorem sig_any (a : Int32) (w : xWt) : ∃ x, F_X3_signAt a w = some (x, w) := by
  unfold F_X3_signAt
  by_cases q : w.2.1 8 0 ≤ a
  · exact ⟨_, by rw [if_pos q]⟩
  · exact ⟨_, by rw [if_neg q, R_get, bd_s]⟩
theorem dig_any (a : Int32) (w : xWt) : ∃ x, F_X3_digitAt a w = some (x, w) := by
  obtain ⟨x, h⟩ := sig_any a w
  exact ⟨x - 48, by unfold F_X3_digitAt; rw [h, bd_s]⟩
theorem bra_any (a : Int32) (w : xWt) : ∃ x, F_X3_branchAt a w = some (x, w) := by
  obtain ⟨x, h⟩ := sig_any a w
  exact ⟨x - 97, by unfold F_X3_branchAt; rw [h, bd_s]⟩
theorem p_dig (hl : w.2.1 8 0 = nI ln) (h60 : ln ≤ 60) (hp : p < ln) {x : Int32} (hx : w.1 8 0 p - 48 = x) : F_X3_digitAt (nI p) w = some (x, w) := by
  unfold F_X3_digitAt
  rw [p_signAt hl h60 hp, bd_s, hx]
theorem p_bra (hl : w.2.1 8 0 = nI ln) (h60 : ln ≤ 60) (hp : p < ln) {x : Int32} (hx : w.1 8 0 p - 97 = x) : F_X3_branchAt (nI p) w = some (x, w) := by
  unfold F_X3_branchAt
  rw [p_signAt hl h60 hp, bd_s, hx]
theorem nI_2 (a : Nat) : nI a + 2 = nI (a + 2) := nI_add a 2
theorem nI_3 (a : Nat) : nI a + 3 = nI (a + 3) := nI_add a 3
/-- what an order's sign says, by its sort -/
theorem sort_val (h1 : 1 ≤ k) (h4 : k ≤ 4) (h : okS k s = true) : ∃ j, j ≤ mo k ∧ s - bs k = nI j := by
  obtain ⟨j, j1, j2, -⟩ := (okS_iff h1 h4).mp h
  exact ⟨j, j1, j2⟩
/-- what is known of an order that is read -/
def RDY (wp wr1 : xWt) (z t : Nat → Int32) (ln f B T : Nat) (a : Int32) (l : List Nat) : Prop := WF z B T ∧ YR 0 z wp ∧ zz wr1 = z ∧ wp.2.1 8 0 = nI ln ∧ ln ≤ 60 ∧ f < ln ∧ (∀ i, i < ln → wp.1 8 0 i = t i) ∧ t f = a ∧ wr1.2.1 9 4 = a ∧ ∀ j k, l[j]? = some k → f + 1 + j < ln ∧ ∃ i, i ≤ mo k ∧ t (f + 1 + j) - bs k = nI i ∧ wr1.1 9 4 k = nI i

theorem one_e (h : RDY wp wr1 z t ln f B T 101 [1]) (hB : B < 2 ^ 30) (hT : T < 2 ^ 30) : ONE B T wp wr1 f := by
  obtain ⟨hW, hY, hz, hl, h60, hf, htx, hta, hlet, hv⟩ := h
  obtain ⟨i0, c, c1, c2, c3⟩ := hv 0 1 rfl
  have c1 : c < 5 := Nat.lt_succ_of_le c1
  have c2 : wp.1 8 0 (f + 1 + 0) - 48 = nI c := by rw [htx _ i0]; exact c2
  have h2 := p_dig hl h60 i0 c2
  rw [Nat.add_zero] at h2
  obtain ⟨xh4, h4⟩ := dig_any (nI (f + 2)) wp
  obtain ⟨xh6, h6⟩ := bra_any (nI (f + 2)) wp
  have hsg : F_X3_signAt (nI f) wp = some (101, wp) := by rw [p_signAt hl h60 hf, htx f hf, hta]
  rcases t_enter hW hY c1 with ⟨g1, g2, g3⟩ | ⟨g2, e, g4, g5, g6⟩
  · obtain ⟨v, wq, wE, a1, a2, a3, a4, a5, a6, a7⟩ := ((d_enter hW hY c1 g1).up (B' := B + 1) (T' := T + 1) (by omega) (by omega)) wr1 hz
    refine Or.inr ⟨v, wq, wE, v, ?_, a7, a2, ?_, ?_, a4, a5, a6⟩
    · unfold F_X7_carryOut
      rw [nI_1, nI_2, h2, bd_s, h4, bd_s, h6, bd_s, hsg, bd_s]
      rw [if_pos (by decide)]
      rw [g2, bd_s, if_neg (by decide), a1, bd_s]
    · unfold F_X8_canDo
      rw [hlet]
      rw [if_pos (by decide)]
      rw [g41, c3, g3 wr1 hz, bd_s, if_pos rfl]
    · unfold F_X8_doOrder
      rw [hlet]
      rw [if_pos (by decide)]
      rw [g41, c3, a3, bd_s]
  · refine Or.inl ⟨?_, ?_⟩
    · unfold F_X7_carryOut
      rw [nI_1, nI_2, h2, bd_s, h4, bd_s, h6, bd_s, hsg, bd_s]
      rw [if_pos (by decide)]
      rw [g2, bd_s, if_pos rfl]
    · unfold F_X8_canDo
      rw [hlet]
      rw [if_pos (by decide)]
      rw [g41, c3, g6 wr1 hz, bd_s, if_neg (fun q => g5 (by rw [q]; exact Int32.le_refl 0))]
theorem one_z (h : RDY wp wr1 z t ln f B T 122 [1]) (hB : B < 2 ^ 30) (hT : T < 2 ^ 30) : ONE B T wp wr1 f := by
  obtain ⟨hW, hY, hz, hl, h60, hf, htx, hta, hlet, hv⟩ := h
  obtain ⟨i0, c, c1, c2, c3⟩ := hv 0 1 rfl
  have c1 : c < 5 := Nat.lt_succ_of_le c1
  have c2 : wp.1 8 0 (f + 1 + 0) - 48 = nI c := by rw [htx _ i0]; exact c2
  have h2 := p_dig hl h60 i0 c2
  rw [Nat.add_zero] at h2
  obtain ⟨xh4, h4⟩ := dig_any (nI (f + 2)) wp
  obtain ⟨xh6, h6⟩ := bra_any (nI (f + 2)) wp
  have hsg : F_X3_signAt (nI f) wp = some (122, wp) := by rw [p_signAt hl h60 hf, htx f hf, hta]
  rcases t_rest hW hY c1 with ⟨g1, g2, g3⟩ | ⟨g2, e, g4, g5, g6⟩
  · obtain ⟨v, wq, wE, a1, a2, a3, a4, a5, a6, a7⟩ := ((d_rest hW hY c1 g1).up (B' := B + 1) (T' := T + 1) (by omega) (by omega)) wr1 hz
    refine Or.inr ⟨v, wq, wE, v, ?_, a7, a2, ?_, ?_, a4, a5, a6⟩
    · unfold F_X7_carryOut
      rw [nI_1, nI_2, h2, bd_s, h4, bd_s, h6, bd_s, hsg, bd_s]
      iterate 21 rw [if_neg (by decide)]
      rw [if_pos (by decide)]
      rw [g2, bd_s, if_neg (by decide), a1, bd_s]
    · unfold F_X8_canDo
      rw [hlet]
      iterate 21 rw [if_neg (by decide)]
      rw [if_pos (by decide)]
      rw [g41, c3, g3 wr1 hz, bd_s, if_pos rfl]
    · unfold F_X8_doOrder
      rw [hlet]
      iterate 21 rw [if_neg (by decide)]
      rw [if_pos (by decide)]
      rw [g41, c3, a3, bd_s]
  · refine Or.inl ⟨?_, ?_⟩
    · unfold F_X7_carryOut
      rw [nI_1, nI_2, h2, bd_s, h4, bd_s, h6, bd_s, hsg, bd_s]
      iterate 21 rw [if_neg (by decide)]
      rw [if_pos (by decide)]
      rw [g2, bd_s, if_pos rfl]
    · unfold F_X8_canDo
      rw [hlet]
      iterate 21 rw [if_neg (by decide)]
      rw [if_pos (by decide)]
      rw [g41, c3, g6 wr1 hz, bd_s, if_neg (fun q => g5 (by rw [q]; exact Int32.le_refl 0))]
theorem one_k (h : RDY wp wr1 z t ln f B T 107 [1]) (hB : B < 2 ^ 30) (hT : T < 2 ^ 30) : ONE B T wp wr1 f := by
  obtain ⟨hW, hY, hz, hl, h60, hf, htx, hta, hlet, hv⟩ := h
  obtain ⟨i0, c, c1, c2, c3⟩ := hv 0 1 rfl
  have c1 : c < 5 := Nat.lt_succ_of_le c1
  have c2 : wp.1 8 0 (f + 1 + 0) - 48 = nI c := by rw [htx _ i0]; exact c2
  have h2 := p_dig hl h60 i0 c2
  rw [Nat.add_zero] at h2
  obtain ⟨xh4, h4⟩ := dig_any (nI (f + 2)) wp
  obtain ⟨xh6, h6⟩ := bra_any (nI (f + 2)) wp
  have hsg : F_X3_signAt (nI f) wp = some (107, wp) := by rw [p_signAt hl h60 hf, htx f hf, hta]
  rcases t_rake hW hY c1 with ⟨g1, g2, g3⟩ | ⟨g2, e, g4, g5, g6⟩
  · obtain ⟨v, wq, wE, a1, a2, a3, a4, a5, a6, a7⟩ := ((d_clear hW hY c1 g1).vv.up (B' := B + 1) (T' := T + 1) (by omega) (by omega)) wr1 hz
    refine Or.inr ⟨v, wq, wE, v, ?_, a7, a2, ?_, ?_, a4, a5, a6⟩
    · unfold F_X7_carryOut
      rw [nI_1, nI_2, h2, bd_s, h4, bd_s, h6, bd_s, hsg, bd_s]
      iterate 6 rw [if_neg (by decide)]
      rw [if_pos (by decide)]
      rw [g2, bd_s, if_neg (by decide), a1, bd_s]
    · unfold F_X8_canDo
      rw [hlet]
      iterate 6 rw [if_neg (by decide)]
      rw [if_pos (by decide)]
      rw [g41, c3, g3 wr1 hz, bd_s, if_pos rfl]
    · unfold F_X8_doOrder
      rw [hlet]
      iterate 6 rw [if_neg (by decide)]
      rw [if_pos (by decide)]
      rw [g41, c3, a3, bd_s]
  · refine Or.inl ⟨?_, ?_⟩
    · unfold F_X7_carryOut
      rw [nI_1, nI_2, h2, bd_s, h4, bd_s, h6, bd_s, hsg, bd_s]
      iterate 6 rw [if_neg (by decide)]
      rw [if_pos (by decide)]
      rw [g2, bd_s, if_pos rfl]
    · unfold F_X8_canDo
      rw [hlet]
      iterate 6 rw [if_neg (by decide)]
      rw [if_pos (by decide)]
      rw [g41, c3, g6 wr1 hz, bd_s, if_neg (fun q => g5 (by rw [q]; exact Int32.le_refl 0))]
theorem one_n (h : RDY wp wr1 z t ln f B T 110 [1, 2, 3]) (hB : B < 2 ^ 30) (hT : T < 2 ^ 30) : ONE B T wp wr1 f := by
  obtain ⟨hW, hY, hz, hl, h60, hf, htx, hta, hlet, hv⟩ := h
  obtain ⟨i0, c, c1, c2, c3⟩ := hv 0 1 rfl
  have c1 : c < 5 := Nat.lt_succ_of_le c1
  have c2 : wp.1 8 0 (f + 1 + 0) - 48 = nI c := by rw [htx _ i0]; exact c2
  obtain ⟨i1, o, o1, o2, o3⟩ := hv 1 2 rfl
  have o1 : o < 3 := Nat.lt_succ_of_le o1
  have o2 : wp.1 8 0 (f + 1 + 1) - 48 = nI o := by rw [htx _ i1]; exact o2
  obtain ⟨i2, b, b1, b2, b3⟩ := hv 2 3 rfl
  have b1 : b < 12 := Nat.lt_succ_of_le b1
  have b2 : wp.1 8 0 (f + 1 + 2) - 97 = nI b := by rw [htx _ i2]; exact b2
  have h2 := p_dig hl h60 i0 c2
  rw [Nat.add_zero] at h2
  have h4 := p_dig hl h60 i1 o2
  rw [show f + 1 + 1 = f + 2 by omega] at h4
  obtain ⟨xh6, h6⟩ := bra_any (nI (f + 2)) wp
  have hb3 := p_bra hl h60 i2 b2
  rw [show f + 1 + 2 = f + 3 by omega] at hb3
  have hsg : F_X3_signAt (nI f) wp = some (110, wp) := by rw [p_signAt hl h60 hf, htx f hf, hta]
  rcases t_note hW hY c1 o1 b1 with ⟨g1, g2, g3⟩ | ⟨g2, e, g4, g5, g6⟩
  · obtain ⟨v, wq, wE, a1, a2, a3, a4, a5, a6, a7⟩ := ((d_note hW hY c1 g1.1 o1 b1 g1.2.1 g1.2.2.choose_spec.1 g1.2.2.choose_spec.2).up (B' := B + 1) (T' := T + 1) (by omega) (by omega)) wr1 hz
    refine Or.inr ⟨v, wq, wE, v, ?_, a7, a2, ?_, ?_, a4, a5, a6⟩
    · unfold F_X7_carryOut
      rw [nI_1, nI_2, h2, bd_s, h4, bd_s, h6, bd_s, hsg, bd_s]
      iterate 9 rw [if_neg (by decide)]
      rw [if_pos (by decide)]
      rw [nI_3, hb3, bd_s, g2, bd_s, if_neg (by decide), a1, bd_s]
    · unfold F_X8_canDo
      rw [hlet]
      iterate 9 rw [if_neg (by decide)]
      rw [if_pos (by decide)]
      rw [g41, c3, g42, o3, g43, b3, g3 wr1 hz, bd_s, if_pos rfl]
    · unfold F_X8_doOrder
      rw [hlet]
      iterate 9 rw [if_neg (by decide)]
      rw [if_pos (by decide)]
      rw [g41, c3, g42, o3, g43, b3, a3, bd_s]
  · refine Or.inl ⟨?_, ?_⟩
    · unfold F_X7_carryOut
      rw [nI_1, nI_2, h2, bd_s, h4, bd_s, h6, bd_s, hsg, bd_s]
      iterate 9 rw [if_neg (by decide)]
      rw [if_pos (by decide)]
      rw [nI_3, hb3, bd_s, g2, bd_s, if_pos rfl]
    · unfold F_X8_canDo
      rw [hlet]
      iterate 9 rw [if_neg (by decide)]
      rw [if_pos (by decide)]
      rw [g41, c3, g42, o3, g43, b3, g6 wr1 hz, bd_s, if_neg (fun q => g5 (by rw [q]; exact Int32.le_refl 0))]
theorem one_p (h : RDY wp wr1 z t ln f B T 112 [1, 2]) (hB : B < 2 ^ 30) (hT : T < 2 ^ 30) : ONE B T wp wr1 f := by
  obtain ⟨hW, hY, hz, hl, h60, hf, htx, hta, hlet, hv⟩ := h
  obtain ⟨i0, c, c1, c2, c3⟩ := hv 0 1 rfl
  have c1 : c < 5 := Nat.lt_succ_of_le c1
  have c2 : wp.1 8 0 (f + 1 + 0) - 48 = nI c := by rw [htx _ i0]; exact c2
  obtain ⟨i1, o, o1, o2, o3⟩ := hv 1 2 rfl
  have o1 : o < 3 := Nat.lt_succ_of_le o1
  have o2 : wp.1 8 0 (f + 1 + 1) - 48 = nI o := by rw [htx _ i1]; exact o2
  have h2 := p_dig hl h60 i0 c2
  rw [Nat.add_zero] at h2
  have h4 := p_dig hl h60 i1 o2
  rw [show f + 1 + 1 = f + 2 by omega] at h4
  obtain ⟨xh6, h6⟩ := bra_any (nI (f + 2)) wp
  have hsg : F_X3_signAt (nI f) wp = some (112, wp) := by rw [p_signAt hl h60 hf, htx f hf, hta]
  rcases t_pin hW hY c1 o1 with ⟨g1, g2, g3⟩ | ⟨g2, e, g4, g5, g6⟩
  · obtain ⟨v, wq, wE, a1, a2, a3, a4, a5, a6, a7⟩ := ((d_pin hW hY c1 g1.1 o1 g1.2).up (B' := B + 1) (T' := T + 1) (by omega) (by omega)) wr1 hz
    refine Or.inr ⟨v, wq, wE, v, ?_, a7, a2, ?_, ?_, a4, a5, a6⟩
    · unfold F_X7_carryOut
      rw [nI_1, nI_2, h2, bd_s, h4, bd_s, h6, bd_s, hsg, bd_s]
      iterate 11 rw [if_neg (by decide)]
      rw [if_pos (by decide)]
      rw [g2, bd_s, if_neg (by decide), a1, bd_s]
    · unfold F_X8_canDo
      rw [hlet]
      iterate 11 rw [if_neg (by decide)]
      rw [if_pos (by decide)]
      rw [g41, c3, g42, o3, g3 wr1 hz, bd_s, if_pos rfl]
    · unfold F_X8_doOrder
      rw [hlet]
      iterate 11 rw [if_neg (by decide)]
      rw [if_pos (by decide)]
      rw [g41, c3, g42, o3, a3, bd_s]
  · refine Or.inl ⟨?_, ?_⟩
    · unfold F_X7_carryOut
      rw [nI_1, nI_2, h2, bd_s, h4, bd_s, h6, bd_s, hsg, bd_s]
      iterate 11 rw [if_neg (by decide)]
      rw [if_pos (by decide)]
      rw [g2, bd_s, if_pos rfl]
    · unfold F_X8_canDo
      rw [hlet]
      iterate 11 rw [if_neg (by decide)]
      rw [if_pos (by decide)]
      rw [g41, c3, g42, o3, g6 wr1 hz, bd_s, if_neg (fun q => g5 (by rw [q]; exact Int32.le_refl 0))]
theorem one_x (h : RDY wp wr1 z t ln f B T 120 [1, 2]) (hB : B < 2 ^ 30) (hT : T < 2 ^ 30) : ONE B T wp wr1 f := by
  obtain ⟨hW, hY, hz, hl, h60, hf, htx, hta, hlet, hv⟩ := h
  obtain ⟨i0, c, c1, c2, c3⟩ := hv 0 1 rfl
  have c1 : c < 5 := Nat.lt_succ_of_le c1
  have c2 : wp.1 8 0 (f + 1 + 0) - 48 = nI c := by rw [htx _ i0]; exact c2
  obtain ⟨i1, o, o1, o2, o3⟩ := hv 1 2 rfl
  have o1 : o < 3 := Nat.lt_succ_of_le o1
  have o2 : wp.1 8 0 (f + 1 + 1) - 48 = nI o := by rw [htx _ i1]; exact o2
  have h2 := p_dig hl h60 i0 c2
  rw [Nat.add_zero] at h2
  have h4 := p_dig hl h60 i1 o2
  rw [show f + 1 + 1 = f + 2 by omega] at h4
  obtain ⟨xh6, h6⟩ := bra_any (nI (f + 2)) wp
  have hsg : F_X3_signAt (nI f) wp = some (120, wp) := by rw [p_signAt hl h60 hf, htx f hf, hta]
  rcases t_use hW hY c1 o1 with ⟨g1, g2, g3⟩ | ⟨g2, e, g4, g5, g6⟩
  · obtain ⟨v, wq, wE, a1, a2, a3, a4, a5, a6, a7⟩ := ((d_loosen hW hY c1 g1.1 o1 g1.2).up (B' := B + 1) (T' := T + 1) (by omega) (by omega)) wr1 hz
    refine Or.inr ⟨v, wq, wE, v, ?_, a7, a2, ?_, ?_, a4, a5, a6⟩
    · unfold F_X7_carryOut
      rw [nI_1, nI_2, h2, bd_s, h4, bd_s, h6, bd_s, hsg, bd_s]
      iterate 19 rw [if_neg (by decide)]
      rw [if_pos (by decide)]
      rw [g2, bd_s, if_neg (by decide), a1, bd_s]
    · unfold F_X8_canDo
      rw [hlet]
      iterate 19 rw [if_neg (by decide)]
      rw [if_pos (by decide)]
      rw [g41, c3, g42, o3, g3 wr1 hz, bd_s, if_pos rfl]
    · unfold F_X8_doOrder
      rw [hlet]
      iterate 19 rw [if_neg (by decide)]
      rw [if_pos (by decide)]
      rw [g41, c3, g42, o3, a3, bd_s]
  · refine Or.inl ⟨?_, ?_⟩
    · unfold F_X7_carryOut
      rw [nI_1, nI_2, h2, bd_s, h4, bd_s, h6, bd_s, hsg, bd_s]
      iterate 19 rw [if_neg (by decide)]
      rw [if_pos (by decide)]
      rw [g2, bd_s, if_pos rfl]
    · unfold F_X8_canDo
      rw [hlet]
      iterate 19 rw [if_neg (by decide)]
      rw [if_pos (by decide)]
      rw [g41, c3, g42, o3, g6 wr1 hz, bd_s, if_neg (fun q => g5 (by rw [q]; exact Int32.le_refl 0))]
theorem one_t (h : RDY wp wr1 z t ln f B T 116 [1, 3]) (hB : B < 2 ^ 30) (hT : T < 2 ^ 30) : ONE B T wp wr1 f := by
  obtain ⟨hW, hY, hz, hl, h60, hf, htx, hta, hlet, hv⟩ := h
  obtain ⟨i0, c, c1, c2, c3⟩ := hv 0 1 rfl
  have c1 : c < 5 := Nat.lt_succ_of_le c1
  have c2 : wp.1 8 0 (f + 1 + 0) - 48 = nI c := by rw [htx _ i0]; exact c2
  obtain ⟨i1, b, b1, b2, b3⟩ := hv 1 3 rfl
  have b1 : b < 12 := Nat.lt_succ_of_le b1
  have b2 : wp.1 8 0 (f + 1 + 1) - 97 = nI b := by rw [htx _ i1]; exact b2
  have h2 := p_dig hl h60 i0 c2
  rw [Nat.add_zero] at h2
  obtain ⟨xh4, h4⟩ := dig_any (nI (f + 2)) wp
  have h6 := p_bra hl h60 i1 b2
  rw [show f + 1 + 1 = f + 2 by omega] at h6
  have hsg : F_X3_signAt (nI f) wp = some (116, wp) := by rw [p_signAt hl h60 hf, htx f hf, hta]
  rcases t_take hW hY c1 b1 with ⟨g1, g2, g3⟩ | ⟨g2, e, g4, g5, g6⟩
  · obtain ⟨v, wq, wE, a1, a2, a3, a4, a5, a6, a7⟩ := ((d_take hW hY hT c1 g1.1 b1 g1.2.choose_spec.1 g1.2.choose_spec.2).vv.up (B' := B + 1) (T' := T + 1) (by omega) (by omega)) wr1 hz
    refine Or.inr ⟨v, wq, wE, v, ?_, a7, a2, ?_, ?_, a4, a5, a6⟩
    · unfold F_X7_carryOut
      rw [nI_1, nI_2, h2, bd_s, h4, bd_s, h6, bd_s, hsg, bd_s]
      iterate 15 rw [if_neg (by decide)]
      rw [if_pos (by decide)]
      rw [g2, bd_s, if_neg (by decide), a1, bd_s]
    · unfold F_X8_canDo
      rw [hlet]
      iterate 15 rw [if_neg (by decide)]
      rw [if_pos (by decide)]
      rw [g41, c3, g43, b3, g3 wr1 hz, bd_s, if_pos rfl]
    · unfold F_X8_doOrder
      rw [hlet]
      iterate 15 rw [if_neg (by decide)]
      rw [if_pos (by decide)]
      rw [g41, c3, g43, b3, a3, bd_s]
  · refine Or.inl ⟨?_, ?_⟩
    · unfold F_X7_carryOut
      rw [nI_1, nI_2, h2, bd_s, h4, bd_s, h6, bd_s, hsg, bd_s]
      iterate 15 rw [if_neg (by decide)]
      rw [if_pos (by decide)]
      rw [g2, bd_s, if_pos rfl]
    · unfold F_X8_canDo
      rw [hlet]
      iterate 15 rw [if_neg (by decide)]
      rw [if_pos (by decide)]
      rw [g41, c3, g43, b3, g6 wr1 hz, bd_s, if_neg (fun q => g5 (by rw [q]; exact Int32.le_refl 0))]
theorem one_w (h : RDY wp wr1 z t ln f B T 119 [1, 3, 4]) (hB : B < 2 ^ 30) (hT : T < 2 ^ 30) : ONE B T wp wr1 f := by
  obtain ⟨hW, hY, hz, hl, h60, hf, htx, hta, hlet, hv⟩ := h
  obtain ⟨i0, c, c1, c2, c3⟩ := hv 0 1 rfl
  have c1 : c < 5 := Nat.lt_succ_of_le c1
  have c2 : wp.1 8 0 (f + 1 + 0) - 48 = nI c := by rw [htx _ i0]; exact c2
  obtain ⟨i1, b, b1, b2, b3⟩ := hv 1 3 rfl
  have b1 : b < 12 := Nat.lt_succ_of_le b1
  have b2 : wp.1 8 0 (f + 1 + 1) - 97 = nI b := by rw [htx _ i1]; exact b2
  obtain ⟨i2, q, q1, q2, q3⟩ := hv 2 4 rfl
  have q1 : q < 10 := Nat.lt_succ_of_le q1
  have q2 : wp.1 8 0 (f + 1 + 2) - 48 = nI q := by rw [htx _ i2]; exact q2
  have h2 := p_dig hl h60 i0 c2
  rw [Nat.add_zero] at h2
  obtain ⟨xh4, h4⟩ := dig_any (nI (f + 2)) wp
  have h6 := p_bra hl h60 i1 b2
  rw [show f + 1 + 1 = f + 2 by omega] at h6
  have hd3 := p_dig hl h60 i2 q2
  rw [show f + 1 + 2 = f + 3 by omega] at hd3
  have hsg : F_X3_signAt (nI f) wp = some (119, wp) := by rw [p_signAt hl h60 hf, htx f hf, hta]
  rcases t_swap hW hY c1 b1 q1 with ⟨g1, g2, g3⟩ | ⟨g2, e, g4, g5, g6⟩
  · obtain ⟨v, wq, wE, a1, a2, a3, a4, a5, a6, a7⟩ := ((d_swap hW hY hT c1 g1.1 b1 g1.2.2.choose_spec.1 g1.2.2.choose_spec.2 g1.2.1 (nI q)).up (B' := B + 1) (T' := T + 1) (by omega) (by omega)) wr1 hz
    refine Or.inr ⟨v, wq, wE, v, ?_, a7, a2, ?_, ?_, a4, a5, a6⟩
    · unfold F_X7_carryOut
      rw [nI_1, nI_2, h2, bd_s, h4, bd_s, h6, bd_s, hsg, bd_s]
      iterate 18 rw [if_neg (by decide)]
      rw [if_pos (by decide)]
      rw [g2, bd_s, if_neg (by decide), nI_3, hd3, bd_s, a1, bd_s]
    · unfold F_X8_canDo
      rw [hlet]
      iterate 18 rw [if_neg (by decide)]
      rw [if_pos (by decide)]
      rw [g41, c3, g43, b3, g44, q3, g3 wr1 hz, bd_s, if_pos rfl]
    · unfold F_X8_doOrder
      rw [hlet]
      iterate 18 rw [if_neg (by decide)]
      rw [if_pos (by decide)]
      rw [g41, c3, g43, b3, g44, q3, a3, bd_s]
  · refine Or.inl ⟨?_, ?_⟩
    · unfold F_X7_carryOut
      rw [nI_1, nI_2, h2, bd_s, h4, bd_s, h6, bd_s, hsg, bd_s]
      iterate 18 rw [if_neg (by decide)]
      rw [if_pos (by decide)]
      rw [g2, bd_s, if_pos rfl]
    · unfold F_X8_canDo
      rw [hlet]
      iterate 18 rw [if_neg (by decide)]
      rw [if_pos (by decide)]
      rw [g41, c3, g43, b3, g44, q3, g6 wr1 hz, bd_s, if_neg (fun q => g5 (by rw [q]; exact Int32.le_refl 0))]
theorem one_g (h : RDY wp wr1 z t ln f B T 103 [3, 4]) (hB : B < 2 ^ 30) (hT : T < 2 ^ 30) : ONE B T wp wr1 f := by
  obtain ⟨hW, hY, hz, hl, h60, hf, htx, hta, hlet, hv⟩ := h
  obtain ⟨i0, b, b1, b2, b3⟩ := hv 0 3 rfl
  have b1 : b < 12 := Nat.lt_succ_of_le b1
  have b2 : wp.1 8 0 (f + 1 + 0) - 97 = nI b := by rw [htx _ i0]; exact b2
  obtain ⟨i1, q, q1, q2, q3⟩ := hv 1 4 rfl
  have q1 : q < 10 := Nat.lt_succ_of_le q1
  have q2 : wp.1 8 0 (f + 1 + 1) - 48 = nI q := by rw [htx _ i1]; exact q2
  obtain ⟨xh2, h2⟩ := dig_any (nI (f + 1)) wp
  have h4 := p_dig hl h60 i1 q2
  rw [show f + 1 + 1 = f + 2 by omega] at h4
  obtain ⟨xh6, h6⟩ := bra_any (nI (f + 2)) wp
  have hb1 := p_bra hl h60 i0 b2
  rw [Nat.add_zero] at hb1
  have hsg : F_X3_signAt (nI f) wp = some (103, wp) := by rw [p_signAt hl h60 hf, htx f hf, hta]
  rcases t_grow hW hY b1 q1 with ⟨g1, g2, g3⟩ | ⟨g2, e, g4, g5, g6⟩
  · obtain ⟨v, wq, wE, a1, a2, a3, a4, a5, a6, a7⟩ := ((d_grow hW hY b1 g1 (nI q)).up (B' := B + 1) (T' := T + 1) (by omega) (by omega)) wr1 hz
    refine Or.inr ⟨v, wq, wE, v, ?_, a7, a2, ?_, ?_, a4, a5, a6⟩
    · unfold F_X7_carryOut
      rw [nI_1, nI_2, h2, bd_s, h4, bd_s, h6, bd_s, hsg, bd_s]
      iterate 2 rw [if_neg (by decide)]
      rw [if_pos (by decide)]
      rw [hb1, bd_s, g2, bd_s, if_neg (by decide), h4, bd_s, a1, bd_s]
    · unfold F_X8_canDo
      rw [hlet]
      iterate 2 rw [if_neg (by decide)]
      rw [if_pos (by decide)]
      rw [g43, b3, g44, q3, g3 wr1 hz, bd_s, if_pos rfl]
    · unfold F_X8_doOrder
      rw [hlet]
      iterate 2 rw [if_neg (by decide)]
      rw [if_pos (by decide)]
      rw [g43, b3, g44, q3, a3, bd_s]
  · refine Or.inl ⟨?_, ?_⟩
    · unfold F_X7_carryOut
      rw [nI_1, nI_2, h2, bd_s, h4, bd_s, h6, bd_s, hsg, bd_s]
      iterate 2 rw [if_neg (by decide)]
      rw [if_pos (by decide)]
      rw [hb1, bd_s, g2, bd_s, if_pos rfl]
    · unfold F_X8_canDo
      rw [hlet]
      iterate 2 rw [if_neg (by decide)]
      rw [if_pos (by decide)]
      rw [g43, b3, g44, q3, g6 wr1 hz, bd_s, if_neg (fun q => g5 (by rw [q]; exact Int32.le_refl 0))]
theorem one_b (h : RDY wp wr1 z t ln f B T 98 []) (hB : B < 2 ^ 30) (hT : T < 2 ^ 30) : ONE B T wp wr1 f := by
  obtain ⟨hW, hY, hz, hl, h60, hf, htx, hta, hlet, hv⟩ := h
  obtain ⟨xh2, h2⟩ := dig_any (nI (f + 1)) wp
  obtain ⟨xh4, h4⟩ := dig_any (nI (f + 2)) wp
  obtain ⟨xh6, h6⟩ := bra_any (nI (f + 2)) wp
  have hsg : F_X3_signAt (nI f) wp = some (98, wp) := by rw [p_signAt hl h60 hf, htx f hf, hta]
  rcases t_ring hW hY with ⟨g1, g2⟩ | ⟨g1, g2⟩
  · obtain ⟨v, wq, wE, a1, a2, a3, a4, a5, a6, a7⟩ := ((d_ring hW hB hY).up (Nat.le_refl _) (by omega : T ≤ T + 1)) wr1 hz
    refine Or.inr ⟨v, wq, wE, v, ?_, a7, a2, ?_, ?_, a4, a5, a6⟩
    · unfold F_X7_carryOut
      rw [nI_1, nI_2, h2, bd_s, h4, bd_s, h6, bd_s, hsg, bd_s]
      iterate 22 rw [if_neg (by decide)]
      rw [g2, bd_s, if_neg (by decide), a1, bd_s]
    · unfold F_X8_canDo
      rw [hlet]
      iterate 22 rw [if_neg (by decide)]
      rw [m_lateOnes, bd_s, hz, if_pos g1]
    · unfold F_X8_doOrder
      rw [hlet]
      iterate 22 rw [if_neg (by decide)]
      rw [a3, bd_s]
  · refine Or.inl ⟨?_, ?_⟩
    · unfold F_X7_carryOut
      rw [nI_1, nI_2, h2, bd_s, h4, bd_s, h6, bd_s, hsg, bd_s]
      iterate 22 rw [if_neg (by decide)]
      rw [g2, bd_s, if_pos rfl]
    · unfold F_X8_canDo
      rw [hlet]
      iterate 22 rw [if_neg (by decide)]
      rw [m_lateOnes, bd_s, hz, if_neg g1]
/-- the reference reads an order, and both sides do it or neither does -/
theorem one_all {wr : xWt} (hW : WF (zz wr) B T) (hY : YR 0 (zz wr) wp) (hl : wp.2.1 8 0 = nI ln) (h60 : ln ≤ 60) (hf : f < ln) (htx : ∀ i, i < ln → wp.1 8 0 i = t i) (hT : TXm wr t ln) (hB : B < 2 ^ 30) (hTT : T < 2 ^ 30) (hr : (rdO t ln f).2 = true) : ∃ wr1, F_X8_readOrder (nI f) wr = some (nI (rdO t ln f).1, wr1) ∧ f9 wr wr1 ∧ ONE B T wp wr1 f := by
  have hro := m_readOrder hT h60 (f := f) (by omega)
  rw [if_pos hr] at hro
  have hf9 := rdW_f9 (t := t) (ln := ln) (f := f) wr
  refine ⟨_, hro, hf9, ?_⟩
  unfold rdO at hr
  rw [if_pos hf] at hr
  unfold rdW at hf9 ⊢
  rw [if_pos hf] at hf9 ⊢
  cases hls : lsO (t f) with
  | none => rw [hls] at hr; exact Bool.noConfusion hr
  | some l =>
    rw [hls] at hr hf9
    dsimp only at hr hf9 ⊢
    have key : ∀ a, t f = a → lsO a = some l → l.Nodup → RDY wp (scw t ln l (f + 1) (sF wr 9 4 (t f))) (zz wr) t ln f B T a l := fun a ha hla hn => by
      refine ⟨hW, hY, hf9.zz, hl, h60, hf, htx, ha, by rw [scw_let, sF_eq, ha], fun j k hjk => ?_⟩
      obtain ⟨s1, s2⟩ := scp_all l (f + 1) hr j k hjk
      have hk := lsO_pos hla k (List.mem_of_getElem? hjk)
      obtain ⟨i, i1, i2⟩ := sort_val hk.1 hk.2 s2
      exact ⟨s1, i, i1, i2, by rw [scw_get l hn (f + 1) _ hr j k hjk]; exact i2⟩
    rcases letters (t f) with e | e | e | e | e | e | e | e | e | e | e
    · have hla := hls; rw [e] at hla; cases hla; exact one_b (key _ e rfl (by decide)) hB hTT
    · have hla := hls; rw [e] at hla; cases hla; exact one_e (key _ e rfl (by decide)) hB hTT
    · have hla := hls; rw [e] at hla; cases hla; exact one_g (key _ e rfl (by decide)) hB hTT
    · have hla := hls; rw [e] at hla; cases hla; exact one_k (key _ e rfl (by decide)) hB hTT
    · have hla := hls; rw [e] at hla; cases hla; exact one_n (key _ e rfl (by decide)) hB hTT
    · have hla := hls; rw [e] at hla; cases hla; exact one_p (key _ e rfl (by decide)) hB hTT
    · have hla := hls; rw [e] at hla; cases hla; exact one_t (key _ e rfl (by decide)) hB hTT
    · have hla := hls; rw [e] at hla; cases hla; exact one_w (key _ e rfl (by decide)) hB hTT
    · have hla := hls; rw [e] at hla; cases hla; exact one_x (key _ e rfl (by decide)) hB hTT
    · have hla := hls; rw [e] at hla; cases hla; exact one_z (key _ e rfl (by decide)) hB hTT
    · rw [lsO_NL e] at hls; cases hls
end ORD
