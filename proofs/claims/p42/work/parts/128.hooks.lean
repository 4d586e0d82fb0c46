/-! hooks written and emptied, on both sides -/
section HK
variable {z z' : Nat → Int32} {w w' : xWt} {B T c h l b : Nat}
theorem zC_ne (z : Nat → Int32) {d k i : Nat} {v : Int32} (hn : 742 + 15 * d + k ≠ i) : zC (upd z i v) d k = zC z d k := upd_ne _ _ hn
theorem zC_eq (z : Nat → Int32) {d k : Nat} {v : Int32} : zC (upd z (742 + 15 * d + k) v) d k = v := upd_eq _ _ _
theorem zH_ne (z : Nat → Int32) {d h k i : Nat} {v : Int32} (hn : 742 + 15 * d + (6 + 3 * h + k) ≠ i) : zH (upd z i v) d h k = zH z d h k := upd_ne _ _ hn
theorem zH_eq (z : Nat → Int32) {d h k : Nat} {v : Int32} : zH (upd z (742 + 15 * d + (6 + 3 * h + k)) v) d h k = v := upd_eq _ _ _
theorem zL_ne (z : Nat → Int32) {l k i : Nat} {v : Int32} (hn : 22 + 6 * l + k ≠ i) : zL (upd z i v) l k = zL z l k := upd_ne _ _ hn
theorem zL_eq (z : Nat → Int32) {l k : Nat} {v : Int32} : zL (upd z (22 + 6 * l + k) v) l k = v := upd_eq _ _ _
theorem m_setH (hc : c < 5) (hh : h < 3) {k : Nat} (hk : k < 3) (v : Int32) : F_X8_setChild (nI c) ((6 + 3 * nI h) + nI k) v w = some ((), zs w (742 + 15 * c + (6 + 3 * h + k)) v) := by
  rw [ixH]
  exact m_setC hc (by omega) v
def kz (w : xWt) (c h : Nat) (a b d : Int32) : xWt := zs (zs (zs w (742 + 15 * c + (6 + 3 * h + 0)) a) (742 + 15 * c + (6 + 3 * h + 1)) b) (742 + 15 * c + (6 + 3 * h + 2)) d
theorem m_setHook (hc : c < 5) (hh : h < 3) (a b d : Int32) : F_X8_setHook (nI c) (nI h) a b d w = some ((), kz w c h a b d) := by
  unfold F_X8_setHook
  rw [show F_X8_setChild (nI c) ((6 + 3 * nI h) + 0) a w = some ((), zs w (742 + 15 * c + (6 + 3 * h + 0)) a) from m_setH hc hh (k := 0) (by omega) a, bd_s, show F_X8_setChild (nI c) ((6 + 3 * nI h) + 1) b (zs w (742 + 15 * c + (6 + 3 * h + 0)) a) = some ((), zs (zs w (742 + 15 * c + (6 + 3 * h + 0)) a) (742 + 15 * c + (6 + 3 * h + 1)) b) from m_setH hc hh (k := 1) (by omega) b, bd_s, show F_X8_setChild (nI c) ((6 + 3 * nI h) + 2) d (zs (zs w (742 + 15 * c + (6 + 3 * h + 0)) a) (742 + 15 * c + (6 + 3 * h + 1)) b) = some ((), kz w c h a b d) from m_setH hc hh (k := 2) (by omega) d, bd_s]
theorem kz_dM (w : xWt) (c h : Nat) (a b d : Int32) : dM w (kz w c h a b d) := (((dM.rf w).zs _ _).zs _ _).zs _ _
theorem kz_0 (w : xWt) (c h : Nat) (a b d : Int32) : zH (zz (kz w c h a b d)) c h 0 = a := by
  unfold kz
  rw [zs_z, zs_z, zs_z, zH_ne _ (by omega), zH_ne _ (by omega), zH_eq]
theorem kz_1 (w : xWt) (c h : Nat) (a b d : Int32) : zH (zz (kz w c h a b d)) c h 1 = b := by
  unfold kz
  rw [zs_z, zs_z, zs_z, zH_ne _ (by omega), zH_eq]
theorem kz_2 (w : xWt) (c h : Nat) (a b d : Int32) : zH (zz (kz w c h a b d)) c h 2 = d := by
  unfold kz
  rw [zs_z, zs_z, zs_z, zH_eq]
theorem kz_o (w : xWt) (c h : Nat) (a b d : Int32) {i : Nat} (hi : i < 748 + 15 * c + 3 * h ∨ 751 + 15 * c + 3 * h ≤ i) : zz (kz w c h a b d) i = zz w i := by
  unfold kz
  rw [zs_z, zs_z, zs_z, upd_ne _ _ (by omega), upd_ne _ _ (by omega), upd_ne _ _ (by omega)]
theorem m_emptyHooks (hc : c < 5) : ∃ w', F_X8_emptyHooks (nI c) w = some ((), w') ∧ dM w w' ∧ (∀ h, h < 3 → zH (zz w') c h 0 = 0 ∧ zH (zz w') c h 1 = -1 ∧ zH (zz w') c h 2 = -1) ∧ ∀ i, i < 748 + 15 * c ∨ 757 + 15 * c ≤ i → zz w' i = zz w i := by
  have h := up_loop (fun n i (s : xWt) => L_X8_emptyHooks_2 n (nI c) (nI i) s) (fun i s => kz s c i 0 (-1) (-1)) (fun s => (nI 3, s)) 3 (fun j s => dM w s ∧ (∀ h, h < j → zH (zz s) c h 0 = 0 ∧ zH (zz s) c h 1 = -1 ∧ zH (zz s) c h 2 = -1) ∧ ∀ i, i < 748 + 15 * c ∨ 757 + 15 * c ≤ i → zz s i = zz w i)
    (fun n i s hi hI => ⟨by
      show B_X8_emptyHooks_2 (L_X8_emptyHooks_2 n) (nI c) (nI i) s = _
      unfold B_X8_emptyHooks_2
      rw [if_neg (lt3 hi), m_setHook hc hi, bd_s, nI_1], hI.1.trans (kz_dM _ _ _ _ _ _), fun h hh => by
        by_cases e : h = i
        · subst e
          exact ⟨kz_0 _ _ _ _ _ _, kz_1 _ _ _ _ _ _, kz_2 _ _ _ _ _ _⟩
        · have hg : ∀ k, k < 3 → zH (zz (kz s c i 0 (-1) (-1))) c h k = zH (zz s) c h k := fun k hk => kz_o _ _ _ _ _ _ (by omega)
          rw [hg 0 (by omega), hg 1 (by omega), hg 2 (by omega)]
          exact hI.2.1 h (by omega), fun i' hi' => (kz_o _ _ _ _ _ _ (by omega)).trans (hI.2.2 i' hi')⟩)
    (fun n s _ => by
      show B_X8_emptyHooks_2 (L_X8_emptyHooks_2 n) (nI c) (nI 3) s = _
      unfold B_X8_emptyHooks_2
      rw [if_pos (show (3 : Int32) ≤ nI 3 from Int32.le_refl _)]) 3 0 w 9999 (by omega) (by omega) ⟨dM.rf w, fun h hh => absurd hh (by omega), fun _ _ => rfl⟩
  unfold F_X8_emptyHooks
  refine ⟨_, (congrArg (fun o => bd o _) h.1).trans rfl, h.2.1, h.2.2.1, h.2.2.2⟩
/-- the program's hook i emptied -/
def rlW (w : xWt) (i : Nat) : xWt := sRow (sRow (sRow w 0 13 (upd (w.1 0 13) i (-1))) 0 14 (upd (w.1 0 14) i (-1))) 0 15 (upd (w.1 0 15) i (-1))
theorem p15 {i r : Nat} (hi : i < 15) (hr : rl 0 r = 15) (v : Int32) : pt w 0 r (nI i) v = sRow w 0 r (upd (w.1 0 r) i v) := pt_in (by rw [hr]; exact hi) (by rw [hr]; decide)
theorem p5 {i r : Nat} (hi : i < 5) (hr : rl 0 r = 5) (v : Int32) : pt w 0 r (nI i) v = sRow w 0 r (upd (w.1 0 r) i v) := pt_in (by rw [hr]; exact hi) (by rw [hr]; decide)
theorem p120 {i r : Nat} (hi : i < 120) (hr : rl 0 r = 120) (v : Int32) : pt w 0 r (nI i) v = sRow w 0 r (upd (w.1 0 r) i v) := pt_in (by rw [hr]; exact hi) (by rw [hr]; decide)
theorem p12 {i : Nat} (hi : i < 12) (v : Int32) : pt w 0 0 (nI i) v = sRow w 0 0 (upd (w.1 0 0) i v) := pt_in (k := 0) (r := 0) hi (by decide)
theorem p_release (hc : c < 5) (hh : h < 3) : F_X1_release 0 (nI c) (nI h) w = some ((), rlW w (3 * c + h)) := by
  unfold F_X1_release F_X1_firstOf
  rw [bd_s, ixK, R_put, bd_s, p15 (by omega) rfl, R_put, bd_s, p15 (by omega) rfl, R_put, bd_s, p15 (by omega) rfl]
  rfl
theorem rlW_dP (w : xWt) (i : Nat) : dP w (rlW w i) := (((dP.rf w).row _ _).row _ _).row _ _
theorem rlW_3 (w : xWt) (i : Nat) {r : Nat} (h1 : 13 ≤ r) (h2 : r ≤ 15) : (rlW w i).1 0 r = upd (w.1 0 r) i (-1) := by
  rcases (show r = 13 ∨ r = 14 ∨ r = 15 by omega) with rfl | rfl | rfl
  · rfl
  · rfl
  · rfl
theorem rlW_o (w : xWt) (i : Nat) {r : Nat} (h : r < 13) : (rlW w i).1 0 r = w.1 0 r := by
  unfold rlW
  rw [sRow_ne _ _ (by omega), sRow_ne _ _ (by omega), sRow_ne _ _ (by omega)]
theorem rlW_f (w : xWt) (i : Nat) : (rlW w i).2 = w.2 := rfl
theorem p_releaseAll (hc : c < 5) : ∃ w', F_X1_releaseAll 0 (nI c) w = some ((), w') ∧ dP w w' ∧ (∀ r, r < 13 → w'.1 0 r = w.1 0 r) ∧ w'.2 = w.2 ∧ ∀ r, 13 ≤ r → r ≤ 15 → ∀ i, w'.1 0 r i = if i / 3 = c then -1 else w.1 0 r i := by
  have h := up_loop (fun n i (s : xWt) => L_X1_releaseAll_2 0 n (nI c) (nI i) s) (fun i s => rlW s (3 * c + i)) (fun s => (nI 3, s)) 3 (fun j s => dP w s ∧ (∀ r, r < 13 → s.1 0 r = w.1 0 r) ∧ s.2 = w.2 ∧ ∀ r, 13 ≤ r → r ≤ 15 → ∀ i, s.1 0 r i = if 3 * c ≤ i ∧ i < 3 * c + j then -1 else w.1 0 r i)
    (fun n i s hi hI => ⟨by
      show B_X1_releaseAll_2 0 (L_X1_releaseAll_2 0 n) (nI c) (nI i) s = _
      unfold B_X1_releaseAll_2
      rw [if_neg (lt3 hi), p_release hc hi, bd_s, nI_1], hI.1.trans (rlW_dP _ _), fun r hr => (rlW_o _ _ hr).trans (hI.2.1 r hr), hI.2.2.1, fun r g1 g2 i' => by
        rw [rlW_3 _ _ g1 g2]
        by_cases e : i' = 3 * c + i
        · rw [e, upd_eq, if_pos (by omega)]
        · rw [upd_ne _ _ e, hI.2.2.2 r g1 g2 i']
          by_cases e2 : 3 * c ≤ i' ∧ i' < 3 * c + i
          · rw [if_pos e2, if_pos (by omega)]
          · rw [if_neg e2, if_neg (by omega)]⟩)
    (fun n s _ => by
      show B_X1_releaseAll_2 0 (L_X1_releaseAll_2 0 n) (nI c) (nI 3) s = _
      unfold B_X1_releaseAll_2
      rw [if_pos (show (3 : Int32) ≤ nI 3 from Int32.le_refl _)]) 3 0 w 9999 (by omega) (by omega) ⟨dP.rf w, fun _ _ => rfl, rfl, fun r _ _ i => by rw [if_neg (by omega)]⟩
  unfold F_X1_releaseAll
  refine ⟨_, (congrArg (fun o => bd o _) h.1).trans rfl, h.2.1, h.2.2.1, h.2.2.2.1, fun r g1 g2 i => ?_⟩
  rw [h.2.2.2.2 r g1 g2 i]
  by_cases e : i / 3 = c
  · rw [if_pos e, if_pos (by omega)]
  · rw [if_neg e, if_neg (by omega)]
end HK

