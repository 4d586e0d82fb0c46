/-! the reference's reading of its row z -/
abbrev zz (w : xWt) : Nat → Int32 := w.1 9 0
theorem rl90 : rl 9 0 = 817 := rfl
theorem m_z {β : Type} {w : xWt} {i : Nat} (h : i < 817) {f : Int32 → Option β} : ald w 9 0 (nI i) f = f (zz w i) := ald_in (w := w) (k := 9) (r := 0) (by rw [rl90]; exact h)
theorem m_z0 {β : Type} {w : xWt} {f : Int32 → Option β} : ald w 9 0 0 f = f (zz w 0) := m_z (i := 0) (by decide)
theorem m_z1 {β : Type} {w : xWt} {f : Int32 → Option β} : ald w 9 0 1 f = f (zz w 1) := m_z (i := 1) (by decide)
theorem m_z8 {β : Type} {w : xWt} {f : Int32 → Option β} : ald w 9 0 8 f = f (zz w 8) := m_z (i := 8) (by decide)
theorem m_z9 {β : Type} {w : xWt} {f : Int32 → Option β} : ald w 9 0 9 f = f (zz w 9) := m_z (i := 9) (by decide)
/-- z written -/
def zs (w : xWt) (i : Nat) (x : Int32) : xWt := sRow w 9 0 (upd (zz w) i x)
theorem m_zs {β : Type} {w : xWt} {i : Nat} (h : i < 817) {x : Int32} {f : xWt → Option β} : ast w 9 0 (nI i) x f = f (zs w i x) := ast_in (w := w) (k := 9) (r := 0) (by rw [rl90]; exact h)
theorem zs_z (w : xWt) (i : Nat) (x : Int32) : zz (zs w i x) = upd (zz w) i x := sRow_eq _ _ _ _
theorem zs_r (w : xWt) (i : Nat) (x : Int32) {k r : Nat} (h : ¬ (k = 9 ∧ r = 0)) : (zs w i x).1 k r = w.1 k r := sRow_ne _ _ h
theorem zs_f (w : xWt) (i : Nat) (x : Int32) : (zs w i x).2 = w.2 := rfl
/-- leaf l's number k; child c's; hook h's of child c -/
def zL (z : Nat → Int32) (l k : Nat) : Int32 := z (22 + 6 * l + k)
def zC (z : Nat → Int32) (c k : Nat) : Int32 := z (742 + 15 * c + k)
def zH (z : Nat → Int32) (c h k : Nat) : Int32 := z (742 + 15 * c + (6 + 3 * h + k))
theorem ixL (l k : Nat) : (22 + 6 * nI l) + nI k = nI (22 + 6 * l + k) := by
  rw [show (22 : Int32) = nI 22 from rfl, show (6 : Int32) = nI 6 from rfl, nI_mul, nI_add, nI_add]
theorem ixC (c k : Nat) : (742 + 15 * nI c) + nI k = nI (742 + 15 * c + k) := by
  rw [show (742 : Int32) = nI 742 from rfl, show (15 : Int32) = nI 15 from rfl, nI_mul, nI_add, nI_add]
theorem ixH (h k : Nat) : (6 + 3 * nI h) + nI k = nI (6 + 3 * h + k) := by
  rw [show (6 : Int32) = nI 6 from rfl, show (3 : Int32) = nI 3 from rfl, nI_mul, nI_add, nI_add]
theorem ixB (b : Nat) : (10 : Int32) + nI b = nI (10 + b) := by
  rw [show (10 : Int32) = nI 10 from rfl, nI_add]
section PM
variable {w : xWt} {c l h b : Nat}
theorem m_of (hl : l < 120) {k : Nat} (hk : k < 6) : F_X8_of (nI l) (nI k) w = some (zL (zz w) l k, w) := by
  unfold F_X8_of
  rw [ixL, m_z (by omega)]
  rfl
theorem m_of0 (hl : l < 120) : F_X8_of (nI l) 0 w = some (zL (zz w) l 0, w) := m_of hl (k := 0) (by decide)
theorem m_of1 (hl : l < 120) : F_X8_of (nI l) 1 w = some (zL (zz w) l 1, w) := m_of hl (k := 1) (by decide)
theorem m_of3 (hl : l < 120) : F_X8_of (nI l) 3 w = some (zL (zz w) l 3, w) := m_of hl (k := 3) (by decide)
theorem m_of4 (hl : l < 120) : F_X8_of (nI l) 4 w = some (zL (zz w) l 4, w) := m_of hl (k := 4) (by decide)
theorem m_of5 (hl : l < 120) : F_X8_of (nI l) 5 w = some (zL (zz w) l 5, w) := m_of hl (k := 5) (by decide)
theorem m_ofC (hc : c < 5) {k : Nat} (hk : k < 15) : F_X8_ofChild (nI c) (nI k) w = some (zC (zz w) c k, w) := by
  unfold F_X8_ofChild
  rw [ixC, m_z (by omega)]
  rfl
theorem m_ofC0 (hc : c < 5) : F_X8_ofChild (nI c) 0 w = some (zC (zz w) c 0, w) := m_ofC hc (k := 0) (by decide)
theorem m_ofC3 (hc : c < 5) : F_X8_ofChild (nI c) 3 w = some (zC (zz w) c 3, w) := m_ofC hc (k := 3) (by decide)
theorem m_ofC4 (hc : c < 5) : F_X8_ofChild (nI c) 4 w = some (zC (zz w) c 4, w) := m_ofC hc (k := 4) (by decide)
theorem m_ofC5 (hc : c < 5) : F_X8_ofChild (nI c) 5 w = some (zC (zz w) c 5, w) := m_ofC hc (k := 5) (by decide)
theorem m_ofH (hc : c < 5) (hh : h < 3) {k : Nat} (hk : k < 3) : F_X8_ofHook (nI c) (nI h) (nI k) w = some (zH (zz w) c h k, w) := by
  unfold F_X8_ofHook
  rw [ixH, m_ofC hc (by omega)]
  rfl
theorem m_ofH0 (hc : c < 5) (hh : h < 3) : F_X8_ofHook (nI c) (nI h) 0 w = some (zH (zz w) c h 0, w) := m_ofH hc hh (k := 0) (by decide)
theorem m_ofH1 (hc : c < 5) (hh : h < 3) : F_X8_ofHook (nI c) (nI h) 1 w = some (zH (zz w) c h 1, w) := m_ofH hc hh (k := 1) (by decide)
theorem m_ofH2 (hc : c < 5) (hh : h < 3) : F_X8_ofHook (nI c) (nI h) 2 w = some (zH (zz w) c h 2, w) := m_ofH hc hh (k := 2) (by decide)
theorem m_br {β : Type} (hb : b < 12) {f : Int32 → Option β} : ald w 9 0 (10 + nI b) f = f (zz w (10 + b)) := by rw [ixB]; exact m_z (by omega)
theorem m_setC (hc : c < 5) {k : Nat} (hk : k < 15) (v : Int32) : F_X8_setChild (nI c) (nI k) v w = some ((), zs w (742 + 15 * c + k) v) := by
  unfold F_X8_setChild
  rw [ixC, m_zs (by omega)]
theorem m_setL (hl : l < 120) {k : Nat} (hk : k < 6) (v : Int32) : F_X8_setLeaf (nI l) (nI k) v w = some ((), zs w (22 + 6 * l + k) v) := by
  unfold F_X8_setLeaf
  rw [ixL, m_zs (by omega)]
/-- in -/
theorem m_in (a : Int32) {lo hi : Int32} : F_X8_in a lo hi w = some (if a < lo ∨ hi < a then 0 else 1, w) := by
  unfold F_X8_in
  by_cases h1 : a < lo
  · rw [if_pos h1, if_pos (Or.inl h1)]
  · rw [if_neg h1]
    by_cases h2 : hi < a
    · rw [if_pos h2, if_pos (Or.inr h2)]
    · rw [if_neg h2, if_neg (fun q => q.elim h1 h2)]
end PM

