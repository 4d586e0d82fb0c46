/-! the law's rows against the reference's row z -/
def whN (z : Nat → Int32) (l : Nat) : Nat := if zL z l 1 = 0 then 1 else if zL z l 1 = 2 then 0 else (zL z l 4).toNatClampNeg + 2
def whV (z : Nat → Int32) (l : Nat) : Int32 := nI (whN z l) - 2
def rG (z : Nat → Int32) (R : Nat → Nat → Int32) : Prop := R 0 0 = z 0 ∧ R 0 1 = z 1 ∧ R 0 2 = z 2 ∧ R 0 3 = z 3 ∧ R 0 4 = z 4 ∧ R 0 5 = z 5 ∧ R 0 6 = z 6 ∧ R 0 7 = z 8 ∧ R 0 8 = z 9
def rB (z : Nat → Int32) (R : Nat → Nat → Int32) : Prop := ∀ b, b < 12 → R 1 b = z (10 + b)
def rL1 (z : Nat → Int32) (R : Nat → Nat → Int32) (l : Nat) : Prop := ∃ c b t, c < 10 ∧ b < 12 ∧ t ≤ bN z + 1 ∧ zL z l 0 = nI c ∧ zL z l 2 = nI b ∧ zL z l 3 = nI t - 1 ∧ R 2 l = nI (en c b (whN z l) t)
def rL (z : Nat → Int32) (R : Nat → Nat → Int32) : Prop := ∀ l, l < gN z → rL1 z R l
def rP (z : Nat → Int32) (R : Nat → Nat → Int32) (hp : List Nat) : Prop := (∀ l, l ∈ hp ↔ l < gN z ∧ zL z l 1 = 1) ∧ hp.Pairwise (fun a b => tu z a < tu z b) ∧ R 0 9 = nI hp.length ∧ ∀ p l, hp[p]? = some l → R 3 p = nI l
def rC (z : Nat → Int32) (R : Nat → Nat → Int32) : Prop := ∀ c, c < 5 → R 4 (6 * c) = zC z c 0 ∧ R 4 (6 * c + 1) = zC z c 1 ∧ R 4 (6 * c + 2) = zC z c 2 ∧ (zC z c 0 = 1 → R 4 (6 * c + 3) = zC z c 3 ∧ R 4 (6 * c + 4) = zC z c 4 ∧ R 4 (6 * c + 5) = zC z c 5)
def rK (z : Nat → Int32) (R : Nat → Nat → Int32) : Prop := ∀ c h, c < 5 → h < 3 → R 5 (6 * c + 2 * h) = zH z c h 0 ∧ R 5 (6 * c + 2 * h + 1) = zH z c h 1
def rN (z : Nat → Int32) : Prop := (∀ c h, c < 5 → h < 3 → zH z c h 0 = 1 → zH z c h 2 = zL z (zH z c h 1).toNatClampNeg 2) ∧ ∀ l b, l < gN z → b < 12 → zL z l 1 = 0 → zL z l 2 = nI b → z (10 + b) = nI l
def LR (z : Nat → Int32) (R : Nat → Nat → Int32) : Prop := rG z R ∧ rB z R ∧ rL z R ∧ rC z R ∧ rK z R ∧ (∃ hp, rP z R hp) ∧ gN z ≤ 40 ∧ rN z
theorem LR.g {z : Nat → Int32} {R : Nat → Nat → Int32} (h : LR z R) : rG z R := h.1
theorem LR.b {z : Nat → Int32} {R : Nat → Nat → Int32} (h : LR z R) : rB z R := h.2.1
theorem LR.l {z : Nat → Int32} {R : Nat → Nat → Int32} (h : LR z R) : rL z R := h.2.2.1
theorem LR.c {z : Nat → Int32} {R : Nat → Nat → Int32} (h : LR z R) : rC z R := h.2.2.2.1
theorem LR.k {z : Nat → Int32} {R : Nat → Nat → Int32} (h : LR z R) : rK z R := h.2.2.2.2.1
theorem LR.p {z : Nat → Int32} {R : Nat → Nat → Int32} (h : LR z R) : ∃ hp, rP z R hp := h.2.2.2.2.2.1
theorem LR.n {z : Nat → Int32} {R : Nat → Nat → Int32} (h : LR z R) : gN z ≤ 40 := h.2.2.2.2.2.2.1
theorem LR.e {z : Nat → Int32} {R : Nat → Nat → Int32} (h : LR z R) : rN z := h.2.2.2.2.2.2.2
section LRs
variable {z : Nat → Int32} {R : Nat → Nat → Int32} {w : xWt} {B T c l h b : Nat} {hp : List Nat}
theorem wh_cases (hW : WF z B T) (hl : l < gN z) : (zL z l 1 = 0 ∧ whN z l = 1 ∧ whV z l = -1) ∨ (zL z l 1 = 2 ∧ whN z l = 0 ∧ whV z l = -2) ∨ (zL z l 1 = 1 ∧ ∃ c s, c < 5 ∧ s ≤ bN z ∧ zL z l 4 = nI c ∧ zL z l 3 = nI s ∧ whN z l = c + 2 ∧ whV z l = nI c) := by
  rcases hW.l l hl with q | q | ⟨q, c, s, t, r1, r2, r3, r4, r5, r6, r7⟩
  · refine Or.inl ⟨q, ?_, ?_⟩
    · unfold whN; rw [if_pos q]
    · unfold whV whN; rw [if_pos q]; decide
  · refine Or.inr (Or.inl ⟨q, ?_, ?_⟩)
    · unfold whN; rw [if_neg (by rw [q]; decide), if_pos q]
    · unfold whV whN; rw [if_neg (by rw [q]; decide), if_pos q]; decide
  · have e : whN z l = c + 2 := by
      unfold whN
      rw [if_neg (by rw [q]; decide), if_neg (by rw [q]; decide), r4, nI_clamp (by omega)]
    refine Or.inr (Or.inr ⟨q, c, s, r1, r2, r4, r5, e, ?_⟩)
    unfold whV
    rw [e]
    exact nI_sub (a := c + 2) (b := 2) (by omega)
theorem wh_lt (hW : WF z B T) (hl : l < gN z) : whN z l < 8 := by
  rcases wh_cases hW hl with ⟨-, e, -⟩ | ⟨-, e, -⟩ | ⟨-, c, s, r1, r2, r3, r4, e, -⟩ <;> omega
theorem wh_c (hW : WF z B T) (hl : l < gN z) (hc : c < 5) : whV z l = nI c ↔ oB z c l = true := by
  rw [oB_iff]
  rcases wh_cases hW hl with ⟨q, -, e⟩ | ⟨q, -, e⟩ | ⟨q, d, s, r1, r2, r3, r4, -, e⟩
  · rw [q, e]
    exact ⟨fun r => absurd r.symm (nI_m1 (by omega)), fun r => absurd r.1 (by decide)⟩
  · rw [q, e]
    exact ⟨fun r => absurd (show nI c < 0 by rw [← r]; decide) (nI_pos (by omega)), fun r => absurd r.1 (by decide)⟩
  · rw [q, e, r3]
    exact ⟨fun r => ⟨rfl, r⟩, fun r => r.2⟩
theorem wh_m1 (hW : WF z B T) (hl : l < gN z) : whV z l = -1 ↔ zL z l 1 = 0 := by
  rcases wh_cases hW hl with ⟨q, -, e⟩ | ⟨q, -, e⟩ | ⟨q, d, s, r1, r2, r3, r4, -, e⟩
  · rw [q, e]; exact ⟨fun _ => rfl, fun _ => rfl⟩
  · rw [q, e]; exact ⟨fun r => absurd r (by decide), fun r => absurd r (by decide)⟩
  · rw [q, e]; exact ⟨fun r => absurd r (nI_m1 (by omega)), fun r => absurd r (by decide)⟩
theorem wh_m2 (hW : WF z B T) (hl : l < gN z) : whV z l = -2 ↔ zL z l 1 = 2 := by
  rcases wh_cases hW hl with ⟨q, -, e⟩ | ⟨q, -, e⟩ | ⟨q, d, s, r1, r2, r3, r4, -, e⟩
  · rw [q, e]; exact ⟨fun r => absurd r (by decide), fun r => absurd r (by decide)⟩
  · rw [q, e]; exact ⟨fun _ => rfl, fun _ => rfl⟩
  · rw [q, e]; exact ⟨fun r => absurd (show nI d < 0 by rw [r]; decide) (nI_pos (by omega)), fun r => absurd r (by decide)⟩
theorem wh_pos (hW : WF z B T) (hl : l < gN z) : 0 ≤ whV z l ↔ zL z l 1 = 1 := by
  rcases wh_cases hW hl with ⟨q, -, e⟩ | ⟨q, -, e⟩ | ⟨q, d, s, r1, r2, r3, r4, -, e⟩
  · rw [q, e]; exact ⟨fun r => absurd r (by decide), fun r => absurd r (by decide)⟩
  · rw [q, e]; exact ⟨fun r => absurd r (by decide), fun r => absurd r (by decide)⟩
  · rw [q, e]; exact ⟨fun _ => rfl, fun _ => nI_pos' (by omega)⟩
/-- what the law tells of a leaf -/
theorem l_wh (hW : WF z B T) (hB : B < 2 ^ 18) (hR : LR z (w.1 10)) (hl : l < gN z) : F_L_where (nI l) w = some (whV z l, w) := by
  obtain ⟨c, b, t, c1, c2, c3, c4, c5, c6, c7⟩ := hR.l l hl
  have h1 := hW.s.2.1
  exact l_where (by have := hR.n; omega) c7 c1 c2 (wh_lt hW hl) (by omega)
theorem l_br (hW : WF z B T) (hB : B < 2 ^ 18) (hR : LR z (w.1 10)) (hl : l < gN z) : F_L_branch (nI l) w = some (zL z l 2, w) := by
  obtain ⟨c, b, t, c1, c2, c3, c4, c5, c6, c7⟩ := hR.l l hl
  have h1 := hW.s.2.1
  rw [c5]
  exact l_branch (by have := hR.n; omega) c7 c1 c2 (wh_lt hW hl) (by omega)
theorem l_no (hW : WF z B T) (hB : B < 2 ^ 18) (hR : LR z (w.1 10)) (hl : l < gN z) : F_L_noted (nI l) w = some (zL z l 3, w) := by
  obtain ⟨c, b, t, c1, c2, c3, c4, c5, c6, c7⟩ := hR.l l hl
  have h1 := hW.s.2.1
  rw [c6]
  exact l_noted (by have := hR.n; omega) c7 c1 c2 (wh_lt hW hl) (by omega)
theorem l_col {β : Type} (hW : WF z B T) (hB : B < 2 ^ 18) (hR : LR z (w.1 10)) (hl : l < gN z) (f : Int32 → Option β) : ald w 10 2 (nI l) (fun x => rm x 10 f) = f (zL z l 0) := by
  obtain ⟨c, b, t, c1, c2, c3, c4, c5, c6, c7⟩ := hR.l l hl
  have h1 := hW.s.2.1
  have h2 := wh_lt hW hl
  have hn : en c b (whN z l) t < 2 ^ 31 := by unfold en; omega
  rw [a2 (by have := hR.n; omega), c7, show (10 : Int32) = nI 10 from rfl, rm_n hn (by omega) (by omega), c4, show en c b (whN z l) t % 10 = c by unfold en; omega]
end LRs
theorem ix6 (c k : Nat) : (6 * nI c) + nI k = nI (6 * c + k) := by
  rw [show (6 : Int32) = nI 6 from rfl, nI_mul, nI_add]
theorem ix60 (c : Nat) : 6 * nI c = nI (6 * c) := by
  rw [show (6 : Int32) = nI 6 from rfl, nI_mul]
theorem ix2 (k : Nat) : 2 * nI k = nI (2 * k) := by
  rw [show (2 : Int32) = nI 2 from rfl, nI_mul]
theorem ix62 (c h : Nat) : (6 * nI c) + (2 * nI h) = nI (6 * c + 2 * h) := by
  rw [ix60, ix2, nI_add]
section LRt
variable {z : Nat → Int32} {R : Nat → Nat → Int32} {w : xWt} {B T c l h b : Nat} {hp : List Nat}
theorem rK.i (hK : rK z R) {i : Nat} (hi : i < 15) : R 5 (2 * i) = zH z (i / 3) (i % 3) 0 ∧ R 5 (2 * i + 1) = zH z (i / 3) (i % 3) 1 := by
  have := hK (i / 3) (i % 3) (by omega) (by omega)
  rw [show 6 * (i / 3) + 2 * (i % 3) = 2 * i by omega] at this
  exact this
/-- hooks of a kind at a leaf, but for those of one child -/
def pnB (z : Nat → Int32) (kd a wo : Int32) (k : Nat) : Bool := hB z kd a k && !decide (nI (k / 3) = wo)
theorem lt15 {i : Nat} (h : i < 15) : ¬ (15 : Int32) ≤ nI i := nI_ge (b := 15) h (by decide)
theorem l_pins (hK : rK z (w.1 10)) (a kd wo : Int32) : F_L_pins a kd wo w = some (nI (cn (pnB z kd a wo) 15), w) := by
  have h := cn_loop (fun n i s => L_L_pins_6 n a kd wo (nI s) (nI i) w) (pnB z kd a wo) (fun s => ((nI s, nI 15), w)) 15
    (fun n i s hi => by
      obtain ⟨k0, k1⟩ := hK.i hi
      show B_L_pins_6 (L_L_pins_6 n) a kd wo (nI s) (nI i) w = _
      unfold B_L_pins_6
      rw [if_neg (lt15 hi), ix2, a5 (by omega), k0, nI_1 (2 * i), a5 (by omega), k1, nI_1]
      unfold pnB hB
      by_cases q1 : zH z (i / 3) (i % 3) 0 = kd
      · rw [if_pos q1]
        by_cases q2 : zH z (i / 3) (i % 3) 1 = a
        · rw [if_pos q2, show (3 : Int32) = nI 3 from rfl, dv_n (by omega) (by omega) (by omega)]
          by_cases q3 : nI (i / 3) = wo
          · rw [if_pos q3, bd_s, nI_add0, if_neg (by simp [q3])]
          · rw [if_neg q3, bd_s, nI_1, if_pos (by simp [q1, q2, q3])]
        · rw [if_neg q2, bd_s, nI_add0, if_neg (by simp [q2])]
      · rw [if_neg q1, bd_s, nI_add0, if_neg (by simp [q1])])
    (fun n s => by
      show B_L_pins_6 (L_L_pins_6 n) a kd wo (nI s) (nI 15) w = _
      unfold B_L_pins_6
      rw [if_pos (show (15 : Int32) ≤ nI 15 from Int32.le_refl _)]) 9999 (by omega)
  unfold F_L_pins
  exact (congrArg (fun o => bd o _) h).trans rfl
theorem pn9 (z : Nat → Int32) (kd a : Int32) : cn (pnB z kd a (-1)) 15 = cn (hB z kd a) 15 := by
  refine cn_congr fun i hi => ?_
  unfold pnB
  rw [decide_eq_false (nI_m1 (by omega))]
  simp
theorem pn0 (z : Nat → Int32) (a wo : Int32) (c : Nat) (hx : ∀ d, d < 5 → (nI d = wo ↔ d = c)) : cn (pnB z 2 a wo) 15 = 0 ↔ fr z a c = true := by
  rw [cn_0, fr_iff]
  refine forall_congr' fun i => forall_congr' fun hi => ?_
  have := hx (i / 3) (by omega)
  unfold pnB
  by_cases q : i / 3 = c
  · rw [decide_eq_true (this.mpr q)]
    simp [q]
  · rw [decide_eq_false (fun r => q (this.mp r))]
    simp [q]
/-- what the law says of burning -/
theorem l_mayG (hW : WF z B T) (hB : B < 2 ^ 18) (hR : LR z (w.1 10)) (hl : l < gN z) {s wo : Int32} (hs : s = 0 ∨ s = 1) (ha : s = 0 ∨ zL z l 1 = 1) (hx : ∀ d, d < 5 → (nI d = wo ↔ d = c)) : F_L_may (nI l) s wo w = some (if mC z l s c then 1 else 0, w) := by
  have hle := cn_le (pnB z 2 (nI l) wo) 15
  unfold F_L_may mC
  rcases hs with rfl | rfl
  · rw [if_pos rfl, if_pos rfl, l_pins hR.k, bd_s]
    by_cases q : cn (pnB z 2 (nI l) wo) 15 = 0
    · rw [q, if_pos (show nI 0 = 0 from rfl), bd_s, zr_1, if_pos ((pn0 z _ wo c hx).mp q)]
    · rw [if_neg (nI_ne0 (by omega) (by omega)), bd_s, zr_0, if_neg (fun r => q ((pn0 z _ wo c hx).mpr r))]
  · have q1 : zL z l 1 = 1 := ha.resolve_left (by decide)
    obtain ⟨c', s', r1, r2, r3, r4⟩ : ∃ c' s', c' < 5 ∧ s' ≤ bN z ∧ zL z l 4 = nI c' ∧ zL z l 3 = nI s' := by
      rcases wh_cases hW hl with ⟨q, -⟩ | ⟨q, -⟩ | ⟨-, d, s, r1, r2, r3, r4, -⟩
      · rw [q1] at q; exact absurd q (by decide)
      · rw [q1] at q; exact absurd q (by decide)
      · exact ⟨d, s, r1, r2, r3, r4⟩
    have hb := hW.s.2.1
    have e : mB z l 1 = !decide (z 0 - zL z l 3 < 2) := rfl
    rw [if_neg (show ¬ (1 : Int32) = 0 by decide), if_neg (show ¬ (1 : Int32) = 0 by decide), a0_0, hR.g.1, l_no hW hB hR hl, bd_s, e, r4, hW.s.1, show nI s' + 2 = nI (s' + 2) from nI_add s' 2, nI_sub r2]
    by_cases q : bN z < s' + 2
    · rw [if_pos (nI_lt q (by omega)), bd_s]
      have : nI (bN z - s') < 2 := nI_lt (b := 2) (by omega) (by omega)
      rw [decide_eq_true this]
      exact zr_0 _
    · rw [if_neg (nI_nlt (by omega) (by omega)), bd_s]
      have : ¬ nI (bN z - s') < 2 := nI_nlt (b := 2) (by omega) (by omega)
      rw [decide_eq_false this]
      exact zr_1 _
theorem mC9 (z : Nat → Int32) (l : Nat) {s : Int32} (hs : s = 0 ∨ s = 1) : mC z l s 9 = mB z l s := by
  unfold mC
  rcases hs with rfl | rfl
  · rfl
  · rfl
theorem l_may (hW : WF z B T) (hB : B < 2 ^ 18) (hR : LR z (w.1 10)) (hl : l < gN z) {s : Int32} (hs : s = 0 ∨ s = 1) (ha : s = 0 ∨ zL z l 1 = 1) : F_L_may (nI l) s (-1) w = some (if mB z l s then 1 else 0, w) := by
  rw [← mC9 z l hs]
  exact l_mayG hW hB hR hl hs ha (fun d hd => ⟨fun r => absurd r (nI_m1 (by omega)), fun r => absurd r (by omega)⟩)
theorem l_mayC (hW : WF z B T) (hB : B < 2 ^ 18) (hR : LR z (w.1 10)) (hl : l < gN z) (hc : c < 5) {s : Int32} (hs : s = 0 ∨ s = 1) (ha : s = 0 ∨ zL z l 1 = 1) : F_L_may (nI l) s (nI c) w = some (if mC z l s c then 1 else 0, w) :=
  l_mayG hW hB hR hl hs ha (fun d hd => ⟨fun r => nI_inj (by omega) (by omega) r, fun r => by rw [r]⟩)
end LRt
