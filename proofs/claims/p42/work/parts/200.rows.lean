/-! the law's rows: their numbers -/
theorem dv_n {β : Type} {a d : Nat} (ha : a < 2 ^ 31) (h0 : 0 < d) (hd : d < 2 ^ 31) (f : Int32 → Option β) : dv (nI a) (nI d) f = f (nI (a / d)) := by
  unfold dv
  rw [if_neg (nI_ne0 h0 hd), pk_div ha h0 hd]
theorem rm_n {β : Type} {a d : Nat} (ha : a < 2 ^ 31) (h0 : 0 < d) (hd : d < 2 ^ 31) (f : Int32 → Option β) : rm (nI a) (nI d) f = f (nI (a % d)) := by
  unfold rm
  rw [if_neg (nI_ne0 h0 hd), pk_rem ha h0 hd]
theorem l_low (a : Int32) {n : Nat} (h0 : 0 < n) (hn : n < 2 ^ 31) (w : xWt) : ∃ q, q < n ∧ F_L_low a (nI n) w = some (nI q, w) := by
  obtain ⟨j, hj, e⟩ := pk_andE a (m := 2147483647) 31 (by decide)
  refine ⟨j % n, Nat.mod_lt _ h0, ?_⟩
  unfold F_L_low
  rw [e, rm_n hj h0 hn]
/-- what the law keeps of a leaf in one number -/
def en (c b h t : Nat) : Nat := c + 10 * b + 120 * h + 960 * t
theorem a0 {β : Type} {w : xWt} {i : Nat} (h : i < 10) (f : Int32 → Option β) : ald w 10 0 (nI i) f = f (w.1 10 0 i) := ald_in (k := 10) (r := 0) h
theorem a1 {β : Type} {w : xWt} {i : Nat} (h : i < 12) (f : Int32 → Option β) : ald w 10 1 (nI i) f = f (w.1 10 1 i) := ald_in (k := 10) (r := 1) h
theorem a2 {β : Type} {w : xWt} {i : Nat} (h : i < 40) (f : Int32 → Option β) : ald w 10 2 (nI i) f = f (w.1 10 2 i) := ald_in (k := 10) (r := 2) h
theorem a3 {β : Type} {w : xWt} {i : Nat} (h : i < 40) (f : Int32 → Option β) : ald w 10 3 (nI i) f = f (w.1 10 3 i) := ald_in (k := 10) (r := 3) h
theorem a4 {β : Type} {w : xWt} {i : Nat} (h : i < 30) (f : Int32 → Option β) : ald w 10 4 (nI i) f = f (w.1 10 4 i) := ald_in (k := 10) (r := 4) h
theorem a5 {β : Type} {w : xWt} {i : Nat} (h : i < 30) (f : Int32 → Option β) : ald w 10 5 (nI i) f = f (w.1 10 5 i) := ald_in (k := 10) (r := 5) h
/-- the law's row r written -/
def lS (w : xWt) (r i : Nat) (x : Int32) : xWt := sRow w 10 r (upd (w.1 10 r) i x)
theorem s0 {β : Type} {w : xWt} {i : Nat} (h : i < 10) (x : Int32) (f : xWt → Option β) : ast w 10 0 (nI i) x f = f (lS w 0 i x) := ast_in (k := 10) (r := 0) h
theorem s1 {β : Type} {w : xWt} {i : Nat} (h : i < 12) (x : Int32) (f : xWt → Option β) : ast w 10 1 (nI i) x f = f (lS w 1 i x) := ast_in (k := 10) (r := 1) h
theorem s2 {β : Type} {w : xWt} {i : Nat} (h : i < 40) (x : Int32) (f : xWt → Option β) : ast w 10 2 (nI i) x f = f (lS w 2 i x) := ast_in (k := 10) (r := 2) h
theorem s3 {β : Type} {w : xWt} {i : Nat} (h : i < 40) (x : Int32) (f : xWt → Option β) : ast w 10 3 (nI i) x f = f (lS w 3 i x) := ast_in (k := 10) (r := 3) h
theorem s4 {β : Type} {w : xWt} {i : Nat} (h : i < 30) (x : Int32) (f : xWt → Option β) : ast w 10 4 (nI i) x f = f (lS w 4 i x) := ast_in (k := 10) (r := 4) h
theorem s5 {β : Type} {w : xWt} {i : Nat} (h : i < 30) (x : Int32) (f : xWt → Option β) : ast w 10 5 (nI i) x f = f (lS w 5 i x) := ast_in (k := 10) (r := 5) h
theorem a0_0 {β : Type} {w : xWt} (f : Int32 → Option β) : ald w 10 0 0 f = f (w.1 10 0 0) := a0 (i := 0) (by decide) f
theorem s0_0 {β : Type} {w : xWt} (x : Int32) (f : xWt → Option β) : ast w 10 0 0 x f = f (lS w 0 0 x) := s0 (i := 0) (by decide) x f
theorem a0_1 {β : Type} {w : xWt} (f : Int32 → Option β) : ald w 10 0 1 f = f (w.1 10 0 1) := a0 (i := 1) (by decide) f
theorem s0_1 {β : Type} {w : xWt} (x : Int32) (f : xWt → Option β) : ast w 10 0 1 x f = f (lS w 0 1 x) := s0 (i := 1) (by decide) x f
theorem a0_2 {β : Type} {w : xWt} (f : Int32 → Option β) : ald w 10 0 2 f = f (w.1 10 0 2) := a0 (i := 2) (by decide) f
theorem s0_2 {β : Type} {w : xWt} (x : Int32) (f : xWt → Option β) : ast w 10 0 2 x f = f (lS w 0 2 x) := s0 (i := 2) (by decide) x f
theorem a0_3 {β : Type} {w : xWt} (f : Int32 → Option β) : ald w 10 0 3 f = f (w.1 10 0 3) := a0 (i := 3) (by decide) f
theorem s0_3 {β : Type} {w : xWt} (x : Int32) (f : xWt → Option β) : ast w 10 0 3 x f = f (lS w 0 3 x) := s0 (i := 3) (by decide) x f
theorem a0_4 {β : Type} {w : xWt} (f : Int32 → Option β) : ald w 10 0 4 f = f (w.1 10 0 4) := a0 (i := 4) (by decide) f
theorem s0_4 {β : Type} {w : xWt} (x : Int32) (f : xWt → Option β) : ast w 10 0 4 x f = f (lS w 0 4 x) := s0 (i := 4) (by decide) x f
theorem a0_5 {β : Type} {w : xWt} (f : Int32 → Option β) : ald w 10 0 5 f = f (w.1 10 0 5) := a0 (i := 5) (by decide) f
theorem s0_5 {β : Type} {w : xWt} (x : Int32) (f : xWt → Option β) : ast w 10 0 5 x f = f (lS w 0 5 x) := s0 (i := 5) (by decide) x f
theorem a0_6 {β : Type} {w : xWt} (f : Int32 → Option β) : ald w 10 0 6 f = f (w.1 10 0 6) := a0 (i := 6) (by decide) f
theorem s0_6 {β : Type} {w : xWt} (x : Int32) (f : xWt → Option β) : ast w 10 0 6 x f = f (lS w 0 6 x) := s0 (i := 6) (by decide) x f
theorem a0_7 {β : Type} {w : xWt} (f : Int32 → Option β) : ald w 10 0 7 f = f (w.1 10 0 7) := a0 (i := 7) (by decide) f
theorem s0_7 {β : Type} {w : xWt} (x : Int32) (f : xWt → Option β) : ast w 10 0 7 x f = f (lS w 0 7 x) := s0 (i := 7) (by decide) x f
theorem a0_8 {β : Type} {w : xWt} (f : Int32 → Option β) : ald w 10 0 8 f = f (w.1 10 0 8) := a0 (i := 8) (by decide) f
theorem s0_8 {β : Type} {w : xWt} (x : Int32) (f : xWt → Option β) : ast w 10 0 8 x f = f (lS w 0 8 x) := s0 (i := 8) (by decide) x f
theorem a0_9 {β : Type} {w : xWt} (f : Int32 → Option β) : ald w 10 0 9 f = f (w.1 10 0 9) := a0 (i := 9) (by decide) f
theorem s0_9 {β : Type} {w : xWt} (x : Int32) (f : xWt → Option β) : ast w 10 0 9 x f = f (lS w 0 9 x) := s0 (i := 9) (by decide) x f
theorem lS_eq (w : xWt) (r i : Nat) (x : Int32) : (lS w r i x).1 10 r = upd (w.1 10 r) i x := sRow_eq _ _ _ _
theorem lS_ne (w : xWt) {r r' : Nat} (i : Nat) (x : Int32) (h : r' ≠ r) : (lS w r i x).1 10 r' = w.1 10 r' := sRow_ne _ _ (fun q => h q.2)
theorem lS_k (w : xWt) (r i : Nat) (x : Int32) {k : Nat} (h : k ≠ 10) (r' : Nat) : (lS w r i x).1 k r' = w.1 k r' := sRow_ne _ _ (fun q => h q.1)
theorem lS_2 (w : xWt) (r i : Nat) (x : Int32) : (lS w r i x).2 = w.2 := rfl
/-- the law's rows alone have changed -/
def dL (w w' : xWt) : Prop := (∀ k r, k ≠ 10 → w'.1 k r = w.1 k r) ∧ w'.2 = w.2
theorem dL.rf (w : xWt) : dL w w := ⟨fun _ _ _ => rfl, rfl⟩
theorem dL.trans {a b c : xWt} (h1 : dL a b) (h2 : dL b c) : dL a c := ⟨fun k r h => (h2.1 k r h).trans (h1.1 k r h), h2.2.trans h1.2⟩
theorem dL.s {a b : xWt} (h : dL a b) (r i : Nat) (x : Int32) : dL a (lS b r i x) := h.trans ⟨fun k r' hk => lS_k _ _ _ _ hk _, rfl⟩
theorem YR.dL {z : Nat → Int32} {w w' : xWt} (h : dL w w') (hY : YR 0 z w) : YR 0 z w' := hY.rows (by omega) (fun r => h.1 0 r (by omega)) (fun j => by rw [h.2])
section LF
variable {w : xWt} {l c b h t h' : Nat}
theorem l_where (hl : l < 40) (e : w.1 10 2 l = nI (en c b h t)) (hc : c < 10) (hb : b < 12) (hh : h < 8) (ht : t < 2 ^ 20) : F_L_where (nI l) w = some (nI h - 2, w) := by
  have hn : en c b h t < 2 ^ 31 := by unfold en; omega
  unfold F_L_where
  rw [a2 hl, e, show (120 : Int32) = nI 120 from rfl, dv_n hn (by omega) (by omega), show (8 : Int32) = nI 8 from rfl, rm_n (by omega) (by omega) (by omega), show en c b h t / 120 % 8 = h by unfold en; omega]
theorem l_branch (hl : l < 40) (e : w.1 10 2 l = nI (en c b h t)) (hc : c < 10) (hb : b < 12) (hh : h < 8) (ht : t < 2 ^ 20) : F_L_branch (nI l) w = some (nI b, w) := by
  have hn : en c b h t < 2 ^ 31 := by unfold en; omega
  unfold F_L_branch
  rw [a2 hl, e, show (10 : Int32) = nI 10 from rfl, dv_n hn (by omega) (by omega), show (12 : Int32) = nI 12 from rfl, rm_n (by omega) (by omega) (by omega), show en c b h t / 10 % 12 = b by unfold en; omega]
theorem l_noted (hl : l < 40) (e : w.1 10 2 l = nI (en c b h t)) (hc : c < 10) (hb : b < 12) (hh : h < 8) (ht : t < 2 ^ 20) : F_L_noted (nI l) w = some (nI t - 1, w) := by
  have hn : en c b h t < 2 ^ 31 := by unfold en; omega
  unfold F_L_noted
  rw [a2 hl, e, show (960 : Int32) = nI 960 from rfl, dv_n hn (by omega) (by omega), show en c b h t / 960 = t by unfold en; omega]
theorem put_eq (X H H' : Int32) : (X + 120 * H) + 120 * ((H' - 2) - (H - 2)) = X + 120 * H' := by grind
theorem en_h (c b h t : Nat) : nI (en c b h t) = nI (c + 10 * b + 960 * t) + 120 * nI h := by
  rw [show (120 : Int32) = nI 120 from rfl, nI_mul, nI_add]
  congr 1
  unfold en
  omega
theorem l_put (hl : l < 40) (e : w.1 10 2 l = nI (en c b h t)) (hc : c < 10) (hb : b < 12) (hh : h < 8) (ht : t < 2 ^ 20) (h' : Nat) : F_L_put (nI l) (nI h' - 2) w = some ((), lS w 2 l (nI (en c b h' t))) := by
  unfold F_L_put
  rw [a2 hl, l_where hl e hc hb hh ht, bd_s, s2 hl, e, en_h c b h t, put_eq, ← en_h]
end LF
