/-! the pure part: loops, rows, numbers -/
def iter {σ : Type} (step : Nat → σ → σ) : Nat → Nat → σ → σ
  | _, 0, s => s
  | i, m + 1, s => iter step (i + 1) m (step i s)
theorem up_loop {σ ρ : Type} (f : Nat → Nat → σ → Option ρ) (step : Nat → σ → σ) (fin : σ → ρ) (N : Nat) (I : Nat → σ → Prop)
    (h1 : ∀ n i s, i < N → I i s → f (n + 1) i s = f n (i + 1) (step i s) ∧ I (i + 1) (step i s)) (h2 : ∀ n s, I N s → f (n + 1) N s = some (fin s)) :
    ∀ (m i : Nat) (s : σ) (n : Nat), i + m = N → m < n → I i s → f n i s = some (fin (iter step i m s)) ∧ I N (iter step i m s) := by
  intro m
  induction m with
  | zero =>
    intro i s n h hn hI
    have hi : i = N := by omega
    subst hi
    obtain ⟨k, rfl⟩ : ∃ k, n = k + 1 := ⟨n - 1, by omega⟩
    exact ⟨h2 k s hI, hI⟩
  | succ m ih =>
    intro i s n h hn hI
    obtain ⟨k, rfl⟩ : ∃ k, n = k + 1 := ⟨n - 1, by omega⟩
    obtain ⟨a, b⟩ := h1 k i s (by omega) hI
    rw [a]
    exact ih (i + 1) _ k (by omega) (by omega) b
/-- how many of 0..n-1 -/
def cn (p : Nat → Bool) : Nat → Nat
  | 0 => 0
  | n + 1 => cn p n + (if p n then 1 else 0)
theorem cn_le (p : Nat → Bool) (n : Nat) : cn p n ≤ n := by
  induction n with
  | zero => exact Nat.le_refl _
  | succ n ih => unfold cn; split <;> omega
theorem cn_congr {p q : Nat → Bool} {n : Nat} (h : ∀ i, i < n → p i = q i) : cn p n = cn q n := by
  induction n with
  | zero => rfl
  | succ n ih => unfold cn; rw [ih (fun i hi => h i (by omega)), h n (by omega)]
theorem iter_cn (p : Nat → Bool) : ∀ (m i s : Nat), iter (fun j t => if p j then t + 1 else t) i m s + cn p i = s + cn p (i + m) := by
  intro m
  induction m with
  | zero => intro i s; rfl
  | succ m ih =>
    intro i s
    have h := ih (i + 1) (if p i then s + 1 else s)
    show iter _ (i + 1) m (if p i then s + 1 else s) + cn p i = s + cn p (i + (m + 1))
    rw [show i + (m + 1) = i + 1 + m by omega]
    have h2 : cn p (i + 1) = cn p i + (if p i then 1 else 0) := rfl
    by_cases hp : p i = true
    · simp only [hp, if_true] at h h2 ⊢; omega
    · simp only [hp] at h h2 ⊢; simp at h h2 ⊢; omega
theorem cn_loop {ρ : Type} (f : Nat → Nat → Nat → Option ρ) (p : Nat → Bool) (fin : Nat → ρ) (N : Nat) (h1 : ∀ n i s, i < N → f (n + 1) i s = f n (i + 1) (if p i then s + 1 else s)) (h2 : ∀ n s, f (n + 1) N s = some (fin s)) (n : Nat) (hn : N < n) : f n 0 0 = some (fin (cn p N)) := by
  have h := (up_loop f (fun j t => if p j then t + 1 else t) fin N (fun _ _ => True) (fun n i s hi _ => ⟨h1 n i s hi, trivial⟩) (fun n s _ => h2 n s) N 0 0 n (by omega) hn trivial).1
  have h3 := iter_cn p N 0 0
  rw [h]
  simp only [cn, Nat.zero_add, Nat.add_zero] at h3
  rw [h3]
/-- a loop from i0 on -/
theorem cn_loop2 {ρ : Type} (f : Nat → Nat → Nat → Option ρ) (p : Nat → Bool) (fin : Nat → ρ) (i0 N : Nat) (hi0 : i0 ≤ N) (h1 : ∀ n i s, i < N → f (n + 1) i s = f n (i + 1) (if p i then s + 1 else s)) (h2 : ∀ n s, f (n + 1) N s = some (fin s)) (n : Nat) (hn : N < n) : f n i0 0 = some (fin (cn p N - cn p i0)) := by
  have h := (up_loop f (fun j t => if p j then t + 1 else t) fin N (fun _ _ => True) (fun n i s hi _ => ⟨h1 n i s hi, trivial⟩) (fun n s _ => h2 n s) (N - i0) i0 0 n (by omega) (by omega) trivial).1
  have h3 := iter_cn p (N - i0) i0 0
  rw [show i0 + (N - i0) = N by omega] at h3
  rw [h, show iter (fun j t => if p j then t + 1 else t) i0 (N - i0) 0 = cn p N - cn p i0 by omega]
theorem nI_0' : nI 0 = 0 := rfl
theorem nI_add0 (a : Nat) : nI a + 0 = nI a := nI_add a 0
theorem nI_mul (a b : Nat) : nI a * nI b = nI (a * b) := (Int32.ofNat_mul a b).symm
theorem nI_lit0 : (0 : Int32) = nI 0 := rfl
theorem nI_inj {a b : Nat} (ha : a < 2 ^ 31) (hb : b < 2 ^ 31) (h : nI a = nI b) : a = b := (nI_eq ha hb).mp h
theorem nI_m1 {n : Nat} (h : n < 2 ^ 31) : nI n ≠ -1 := fun q => nI_pos h (by rw [q]; decide)
/-- an int, in a range or out of it -/
theorem i_cases (a : Int32) (N : Nat) (hN : N < 2 ^ 31) : (∃ j, j < N ∧ a = nI j) ∨ (a < 0 ∨ N ≤ a.toNatClampNeg) := by
  by_cases h : a < 0
  · exact Or.inr (Or.inl h)
  · obtain ⟨j, h1, h2⟩ := nI_of h
    by_cases hj : j < N
    · exact Or.inl ⟨j, hj, h2⟩
    · exact Or.inr (Or.inr (by rw [h2, nI_clamp h1]; omega))
theorem upd_eq (f : Nat → Int32) (i : Nat) (v : Int32) : upd f i v i = v := if_pos rfl
theorem upd_ne (f : Nat → Int32) {i j : Nat} (v : Int32) (h : j ≠ i) : upd f i v j = f j := if_neg h
theorem sRow_self (w : xWt) (k r : Nat) : sRow w k r (w.1 k r) = w := by
  unfold sRow
  have : (fun k' r' => if k' = k ∧ r' = r then w.1 k r else w.1 k' r') = w.1 := by
    funext k' r'
    split
    · next h => rw [h.1, h.2]
    · rfl
  rw [this]
theorem sRow_eq (w : xWt) (k r : Nat) (f : Nat → Int32) : (sRow w k r f).1 k r = f := if_pos ⟨rfl, rfl⟩
theorem sRow_ne (w : xWt) {k r k' r' : Nat} (f : Nat → Int32) (h : ¬ (k' = k ∧ r' = r)) : (sRow w k r f).1 k' r' = w.1 k' r' := if_neg h
theorem sRow_2 (w : xWt) (k r : Nat) (f : Nat → Int32) : (sRow w k r f).2 = w.2 := rfl
theorem sF_1 (w : xWt) (k j : Nat) (v : Int32) : (sF w k j v).1 = w.1 := rfl
theorem sF_eq (w : xWt) (k j : Nat) (v : Int32) : (sF w k j v).2.1 k j = v := if_pos ⟨rfl, rfl⟩
theorem sF_ne (w : xWt) {k j k' j' : Nat} (v : Int32) (h : ¬ (k' = k ∧ j' = j)) : (sF w k j v).2.1 k' j' = w.2.1 k' j' := if_neg h
theorem sF_o (w : xWt) (k j : Nat) (v : Int32) : (sF w k j v).2.2 = w.2.2 := rfl
/-- a row's number at an index, -1 outside -/
def gt (w : xWt) (k r : Nat) (a : Int32) : Int32 := if a < 0 ∨ rl k r ≤ a.toNatClampNeg then -1 else w.1 k r a.toNatClampNeg
def pt (w : xWt) (k r : Nat) (a v : Int32) : xWt := if a < 0 ∨ rl k r ≤ a.toNatClampNeg then w else sRow w k r (upd (w.1 k r) a.toNatClampNeg v)
theorem gt_in {w : xWt} {k r i : Nat} (h : i < rl k r) (hb : rl k r < 2 ^ 31) : gt w k r (nI i) = w.1 k r i := by
  unfold gt
  rw [if_neg (nI_in h hb), nI_clamp (by omega)]
theorem pt_in {w : xWt} {k r i : Nat} {v : Int32} (h : i < rl k r) (hb : rl k r < 2 ^ 31) : pt w k r (nI i) v = sRow w k r (upd (w.1 k r) i v) := by
  unfold pt
  rw [if_neg (nI_in h hb), nI_clamp (by omega)]
theorem gt_out {w : xWt} {k r : Nat} {a : Int32} (h : a < 0 ∨ rl k r ≤ a.toNatClampNeg) : gt w k r a = -1 := if_pos h
theorem pt_out {w : xWt} {k r : Nat} {a v : Int32} (h : a < 0 ∨ rl k r ≤ a.toNatClampNeg) : pt w k r a v = w := if_pos h
theorem i_ge {a : Int32} {n : Nat} (h0 : ¬ a < 0) (hn : n < 2 ^ 31) : Int32.ofNat n ≤ a ↔ n ≤ a.toNatClampNeg := by
  obtain ⟨j, h1, rfl⟩ := nI_of h0
  rw [nI_clamp h1]
  exact nI_leI hn h1
theorem rl_lt (k r : Nat) : rl k r < 9000 := by
  unfold rl
  repeat' split
  all_goals omega
theorem R_get (w : xWt) (k r : Nat) (a : Int32) : R_X4_get k r a w = some (gt w k r a, w) := by
  have hb := rl_lt k r
  unfold R_X4_get F_X4_get gt
  by_cases h0 : a < 0
  · rw [if_pos h0, if_pos (Or.inl h0)]
    show some (_, sRow w k r (w.1 k r)) = _
    rw [sRow_self]
  · rw [if_neg h0]
    by_cases h1 : rl k r ≤ a.toNatClampNeg
    · rw [if_pos ((i_ge h0 (by omega)).mpr h1), if_pos (Or.inr h1)]
      show some (_, sRow w k r (w.1 k r)) = _
      rw [sRow_self]
    · have hn : ¬ (a < 0 ∨ rl k r ≤ a.toNatClampNeg) := fun q => q.elim h0 h1
      rw [if_neg (fun q => h1 ((i_ge h0 (by omega)).mp q)), if_neg hn]
      unfold lld
      rw [if_neg hn]
      show some (_, sRow w k r (w.1 k r)) = _
      rw [sRow_self]
theorem R_put (w : xWt) (k r : Nat) (a v : Int32) : R_X4_put k r a v w = some ((), pt w k r a v) := by
  have hb := rl_lt k r
  unfold R_X4_put F_X4_put pt
  by_cases h0 : a < 0
  · rw [if_pos h0, if_pos (Or.inl h0)]
    show some (_, sRow w k r (w.1 k r)) = _
    rw [sRow_self]
  · rw [if_neg h0]
    by_cases h1 : rl k r ≤ a.toNatClampNeg
    · rw [if_pos ((i_ge h0 (by omega)).mpr h1), if_pos (Or.inr h1)]
      show some (_, sRow w k r (w.1 k r)) = _
      rw [sRow_self]
    · have hn : ¬ (a < 0 ∨ rl k r ≤ a.toNatClampNeg) := fun q => q.elim h0 h1
      rw [if_neg (fun q => h1 ((i_ge h0 (by omega)).mp q)), if_neg hn]
      unfold lst
      rw [if_neg hn]
      rfl
theorem F_get (g : Nat → Int32) (n : Nat) (hb : n < 9000) (a : Int32) : F_X4_get n a g = some (if a < 0 ∨ n ≤ a.toNatClampNeg then -1 else g a.toNatClampNeg, g) := by
  unfold F_X4_get
  by_cases h0 : a < 0
  · rw [if_pos h0, if_pos (Or.inl h0)]
  · rw [if_neg h0]
    by_cases h1 : n ≤ a.toNatClampNeg
    · rw [if_pos ((i_ge h0 (by omega)).mpr h1), if_pos (Or.inr h1)]
    · have hn : ¬ (a < 0 ∨ n ≤ a.toNatClampNeg) := fun q => q.elim h0 h1
      rw [if_neg (fun q => h1 ((i_ge h0 (by omega)).mp q)), if_neg hn]
      unfold lld
      rw [if_neg hn]
theorem R_add (w : xWt) (k r : Nat) (a v : Int32) : R_X4_add k r a v w = some ((), pt w k r a (gt w k r a + v)) := by
  have hb := rl_lt k r
  have h : R_X4_add k r a v w = R_X4_put k r a (gt w k r a + v) w := by
    unfold R_X4_add R_X4_put F_X4_add gt
    rw [F_get _ _ hb]
    show liftR w k r (lbd (F_X4_put (rl k r) a _ (w.1 k r)) (fun _ w3 => some ((), w3))) = _
    cases F_X4_put (rl k r) a ((if a < 0 ∨ rl k r ≤ a.toNatClampNeg then -1 else w.1 k r a.toNatClampNeg) + v) (w.1 k r) with
    | none => rfl
    | some x => rfl
  rw [h, R_put]
theorem R_number (w : xWt) (k r : Nat) (v : Int32) {i0 N : Nat} (h0 : i0 ≤ N) (hN : N ≤ rl k r) : R_X4_number k r v (nI i0) (nI N) w = some (nI (cn (fun i => w.1 k r i == v) N - cn (fun i => w.1 k r i == v) i0), w) := by
  have hb := rl_lt k r
  unfold R_X4_number F_X4_number
  rw [if_pos (nI_pos' (by omega))]
  have h := cn_loop2 (fun n i s => L_X4_number_14 (rl k r) n v (nI i0) (nI N) (nI s) (nI i) (w.1 k r)) (fun i => w.1 k r i == v) (fun s => ((nI s, nI N), w.1 k r)) i0 N h0
    (fun n i s hi => by
      show B_X4_number_14 (rl k r) (L_X4_number_14 (rl k r) n) v (nI i0) (nI N) (nI s) (nI i) (w.1 k r) = _
      unfold B_X4_number_14 lld
      have hg : ¬ Int32.ofNat (rl k r) ≤ nI i := nI_ge (by omega) (by omega)
      rw [if_neg (nI_ge hi (by omega)), if_neg hg, if_neg (nI_in (by omega) (by omega)), nI_clamp (by omega), nI_1, nI_1, nI_add0]
      dsimp only
      by_cases hv : w.1 k r i = v
      · rw [if_pos hv, if_pos (by simp [hv])]
      · rw [if_neg hv, if_neg (by simp [hv])])
    (fun n s => by
      show B_X4_number_14 (rl k r) (L_X4_number_14 (rl k r) n) v (nI i0) (nI N) (nI s) (nI N) (w.1 k r) = _
      unfold B_X4_number_14
      rw [if_pos (Int32.le_refl _)]) 9999 (by omega)
  have h' : L_X4_number_14 (rl k r) 9999 v (nI i0) (nI N) 0 (nI i0) (w.1 k r) = some ((nI (cn (fun i => w.1 k r i == v) N - cn (fun i => w.1 k r i == v) i0), nI N), w.1 k r) := h
  rw [h']
  show some (_, sRow w k r (w.1 k r)) = _
  rw [sRow_self]
theorem R_number0 (w : xWt) (k r : Nat) (v : Int32) {N : Nat} (hN : N ≤ rl k r) : R_X4_number k r v 0 (nI N) w = some (nI (cn (fun i => w.1 k r i == v) N), w) :=
  R_number w k r v (i0 := 0) (Nat.zero_le _) hN
theorem ald_in {β : Type} {w : xWt} {k r i : Nat} (h : i < rl k r) {f : Int32 → Option β} : ald w k r (nI i) f = f (w.1 k r i) := by
  have hb := rl_lt k r
  unfold ald
  rw [if_neg (nI_in h (by omega)), nI_clamp (by omega)]
theorem ast_in {β : Type} {w : xWt} {k r i : Nat} (h : i < rl k r) {x : Int32} {f : xWt → Option β} : ast w k r (nI i) x f = f (sRow w k r (upd (w.1 k r) i x)) := by
  have hb := rl_lt k r
  unfold ast
  rw [if_neg (nI_in h (by omega)), nI_clamp (by omega)]
theorem bd_s {α β : Type} (a : α) (w : xWt) (f : α → xWt → Option β) : bd (some (a, w)) f = f a w := rfl
theorem zr_0 {β : Type} (f : Option β) : zr 0 f = f := if_pos (Or.inl rfl)
theorem zr_1 {β : Type} (f : Option β) : zr 1 f = f := if_pos (Or.inr rfl)

