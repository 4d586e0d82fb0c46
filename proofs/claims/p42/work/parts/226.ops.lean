/-! the calls by the law's wrappers: what they answer and what they leave -/
def OK (z' : Nat → Int32) (w : xWt) (B T : Nat) (v : Int32) (o : Option (Int32 × xWt)) : Prop := WF z' B T ∧ ∃ w', o = some (v, w') ∧ YR 0 z' w' ∧ SV1 w' ∧ w'.1 10 = w.1 10
section OPS
variable {z : Nat → Int32} {w : xWt} {B T c h b l e : Nat} {a : Int32} {hl : List Nat}
theorem op_ok {fP fM : xWt → Option (Int32 × xWt)} {wE : xWt} {v : Int32} {Es : List (String × Int32)} {o : Option (Int32 × xWt)} (hY : YR 0 z w) (hS : SV w) (hD : ∀ w, YR 0 z w → DO z B T w fP fM) (hM : fM (gz z) = some (v, wE)) (ho : o = lwrap (bd (F_X5_push 0 w) (fun _ w3 => bd (fP w3) (fun x5 w4 => some ((Sum.inl x5 : Int32 ⊕ String), w4)))) Es) : OK (zz wE) w B T v o := by
  obtain ⟨h1, h2⟩ := DO.ex hY hD hM
  obtain ⟨w', e, h3, h4, h5⟩ := push_op hY hS h2
  exact ⟨h1, w', by rw [ho, e, lw_l], h3, h4, h5⟩
theorem l_3 (w : xWt) : lwrap (some ((.inr "java/lang/IllegalStateException" : Int32 ⊕ String), w)) [(eI', (-31)), (eS', (-33))] = some (-33, w) := lw_2 neSI _ _ _ _
theorem l_1 (w : xWt) : lwrap (some ((.inr "java/lang/IndexOutOfBoundsException" : Int32 ⊕ String), w)) [(eI', (-31)), (eS', (-33))] = some (-31, w) := lw_1 _ _ _ _
theorem p_mayGoIn (hW : WF z B T) (hY : YR 0 z w) (hc : c < 5) (ht : zC z c 0 = 1) : F_X6_mayGoIn 0 (nI c) w = some (if yI z c = true then 0 else 1, w) := by
  have hp : F_X0_isHere 0 (nI c) w = some (1, w) := by rw [p_isHere hY hc]; unfold ch; rw [decide_eq_true ht]; rfl
  unfold F_X6_mayGoIn
  rw [hp, bd_s, if_neg (by decide), p_isInYard hW hY hc, bd_s]
  by_cases hy : yI z c = true
  · rw [if_pos hy, if_pos hy, if_neg (by decide)]
  · rw [if_neg hy, if_neg hy, if_pos rfl]
theorem o_enter (hW : WF z B T) (hY : YR 0 z w) (hS : SV w) (hc : c < 5) (ht : zC z c 0 = 1) (hy : ¬ yI z c = true) : OK (upd (upd z (742 + 15 * c + 1) 1) (742 + 15 * c + 2) (z 0)) w B T (z 0) (F_L_enter (nI c) w) := by
  have q : zz (zs (zs (gz z) (742 + 15 * c + 1) 1) (742 + 15 * c + 2) (z 0)) = upd (upd z (742 + 15 * c + 1) 1) (742 + 15 * c + 2) (z 0) := by rw [zs_z, zs_z, gz_z]
  rw [← q]
  refine op_ok (Es := [(eI', (-31)), (eS', (-33))]) hY hS (fun w hY => (d_enter hW hY hc ht).mono (Nat.le_refl _) (Nat.le_refl _)) (e_enter (gz_z z) hc) ?_
  unfold F_L_enter F_X7_enter
  rw [p_needChildY hY hc ht, bx_l, p_mayGoIn hW hY hc ht, bd_s, if_neg hy, if_neg (by decide)]
theorem o_enter3 (hW : WF z B T) (hY : YR 0 z w) (hc : c < 5) (ht : zC z c 0 = 1) (hy : yI z c = true) : F_L_enter (nI c) w = some (-33, w) := by
  unfold F_L_enter F_X7_enter
  rw [p_needChildY hY hc ht, bx_l, p_mayGoIn hW hY hc ht, bd_s, if_pos hy, if_pos rfl]
  exact l_3 w
theorem o_enter1 (hY : YR 0 z w) (hc : c < 5) (ht : zC z c 0 ≠ 1) : F_L_enter (nI c) w = some (-31, w) := by
  unfold F_L_enter F_X7_enter
  rw [p_needChildN hY hc ht, bx_r]
  exact l_1 w
theorem p_mayLieDown (hW : WF z B T) (hY : YR 0 z w) (hc : c < 5) : F_X6_mayLieDown 0 (nI c) w = some (if yI z c then 1 else 0, w) := by
  unfold F_X6_mayLieDown
  rw [p_isInYard hW hY hc, bd_s]
  cases yI z c
  · exact zr_0 _
  · exact zr_1 _
theorem o_rest (hW : WF z B T) (hY : YR 0 z w) (hS : SV w) (hc : c < 5) (ht : zC z c 0 = 1) (hy : yI z c = true) : ∃ z', RZ z c z' ∧ OK z' w B T (nI (cn (fun h => zH z c h 0 == 2) 3)) (F_L_rest (nI c) w) := by
  obtain ⟨wE, e1, e2⟩ := e_rest (gz_z z) hc
  refine ⟨_, e2, op_ok (Es := [(eI', (-31)), (eS', (-33))]) hY hS (fun w hY => (d_rest hW hY hc ht).mono (Nat.le_refl _) (Nat.le_refl _)) e1 ?_⟩
  unfold F_L_rest F_X7_rest
  rw [p_needChildY hY hc ht, bx_l, p_mayLieDown hW hY hc, bd_s, if_pos hy, if_neg (by decide)]
theorem o_rest3 (hW : WF z B T) (hY : YR 0 z w) (hc : c < 5) (ht : zC z c 0 = 1) (hy : ¬ yI z c = true) : F_L_rest (nI c) w = some (-33, w) := by
  unfold F_L_rest F_X7_rest
  rw [p_needChildY hY hc ht, bx_l, p_mayLieDown hW hY hc, bd_s, if_neg hy, if_pos rfl]
  exact l_3 w
theorem o_rest1 (hY : YR 0 z w) (hc : c < 5) (ht : zC z c 0 ≠ 1) : F_L_rest (nI c) w = some (-31, w) := by
  unfold F_L_rest F_X7_rest
  rw [p_needChildN hY hc ht, bx_r]
  exact l_1 w
theorem p_mayStrike (hW : WF z B T) (hY : YR 0 z w) : F_X6_mayStrike 0 w = some (if mk (lO z) 5 = 0 then 1 else 0, w) := by
  unfold F_X6_mayStrike
  rw [show w.2.1 0 0 = z 0 from hY.f.1, p_maskOfLate hW hY, bd_s]
  by_cases q : mk (lO z) 5 = 0
  · rw [if_pos q, if_pos q]
  · rw [if_neg q, if_neg q]
theorem o_ring (hW : WF z B T) (hB : B < 2 ^ 18) (hY : YR 0 z w) (hS : SV w) (hm : mk (lO z) 5 = 0) : OK (upd z 0 (z 0 + 1)) w (B + 1) T (z 0 + 1) (F_L_ring w) := by
  have q : zz (zs (gz z) 0 (z 0 + 1)) = upd z 0 (z 0 + 1) := by rw [zs_z, gz_z]
  rw [← q]
  refine op_ok (Es := [(eS', (-33))]) hY hS (fun w hY => (d_ring hW (by omega) hY).mono (Nat.le_refl _) (Nat.le_refl _)) (e_ring (gz_z z)) ?_
  unfold F_L_ring F_X7_ring
  rw [p_mayStrike hW hY, bd_s, if_pos hm, if_neg (by decide)]
theorem o_ring3 (hW : WF z B T) (hY : YR 0 z w) (hm : mk (lO z) 5 ≠ 0) : F_L_ring w = some (-33, w) := by
  unfold F_L_ring F_X7_ring
  rw [p_mayStrike hW hY, bd_s, if_neg hm, if_pos rfl]
  exact lw_1 _ _ _ _
theorem o_come (hW : WF z B T) (hY : YR 0 z w) (hS : SV w) (hc : c < 5) (h0 : zC z c 0 ≠ 1) (hlo : ∀ d, d < c → zC z d 0 = 1) : ∃ z', CZ z c z' ∧ OK z' w B T (nI c) (F_L_come w) := by
  obtain ⟨wE, e1, e2⟩ := e_come (gz_z z) hc h0 hlo
  refine ⟨_, e2, op_ok (Es := [(eS', (-33))]) hY hS (fun w hY => d_come hW hY hc h0 hlo) e1 ?_⟩
  unfold F_L_come F_X7_come
  rw [p_lowestFree (fun d hd => (hY.c d hd).1) hc h0 hlo, bd_s, if_neg (nI_m1 (by omega))]
theorem o_come3 (hY : YR 0 z w) (hlo : ∀ d, d < 5 → zC z d 0 = 1) : F_L_come w = some (-33, w) := by
  unfold F_L_come F_X7_come
  rw [p_noneFree (fun d hd => (hY.c d hd).1) hlo, bd_s, if_pos rfl]
  exact lw_1 _ _ _ _
theorem o_set0 (hW : WF z B T) (hY : YR 0 z w) (hS : SV w) {s : Nat} (h1 : 1 ≤ s) (h2 : s ≤ 20) : OK (upd z 8 (nI s)) w B T (z 8) (F_L_set 0 (nI s) w) := by
  have q : zz (zs (gz z) 8 (nI s)) = upd z 8 (nI s) := by rw [zs_z, gz_z]
  rw [← q]
  refine op_ok (Es := [(eI', (-31)), (eA', (-32))]) hY hS (fun w hY => d_set0 hW hY h1 h2) (e_set0 (gz_z z) _) ?_
  unfold F_L_set F_X7_set F_X7_needSetting F_X7_isValueOf
  rw [if_neg (by decide), if_pos (by decide), bx_l, if_pos rfl, if_neg (show ¬ nI s < 1 from nI_nlt (a := s) (b := 1) (by omega) (by omega)), if_neg (show ¬ (20 : Int32) < nI s from nI_nlt (a := 20) (b := s) (by omega) (by omega)), bd_s, if_neg (by decide)]
theorem o_set1 (hW : WF z B T) (hY : YR 0 z w) (hS : SV w) (ha : a = 0 ∨ a = 1) : OK (upd z 9 a) w B T (z 9) (F_L_set 1 a w) := by
  have q : zz (zs (gz z) 9 a) = upd z 9 a := by rw [zs_z, gz_z]
  rw [← q]
  refine op_ok (Es := [(eI', (-31)), (eA', (-32))]) hY hS (fun w hY => d_set1 hW hY ha) (e_set1 (gz_z z) _) ?_
  unfold F_L_set F_X7_set F_X7_needSetting F_X7_isValueOf
  rw [if_neg (by decide), if_pos (by decide), bx_l, if_neg (by decide)]
  rcases ha with rfl | rfl
  · rw [if_pos rfl, bd_s, if_neg (by decide)]
  · rw [if_neg (by decide), if_pos rfl, bd_s, if_neg (by decide)]
theorem o_setA (w : xWt) : F_L_set 0 21 w = some (-32, w) := by
  unfold F_L_set F_X7_set F_X7_needSetting F_X7_isValueOf
  rw [if_neg (by decide), if_pos (by decide), bx_l, if_pos rfl, if_neg (by decide), if_pos (by decide), bd_s, if_pos rfl]
  exact lw_2 neAI _ _ _ _
theorem o_setI (w : xWt) : F_L_set 2 0 w = some (-31, w) := by
  unfold F_L_set F_X7_set F_X7_needSetting
  rw [if_neg (by decide), if_neg (by decide), bx_r]
  exact lw_1 _ _ _ _
theorem o_leave (hW : WF z B T) (hY : YR 0 z w) (hS : SV w) (hT : T < 2 ^ 30) (hc : c < 5) (ht : zC z c 0 = 1) (h2 : 1 < cn (ch z) 5) (he : e < 5) (hne : e ≠ c) (hte : zC z e 0 = 1) (hl0 : ∀ d, d < e → d = c ∨ zC z d 0 ≠ 1) (q1 : HL z c hl) : ∃ z', LZ z c e hl z' ∧ OK z' w B (T + 120) (nI hl.length) (F_L_leave (nI c) w) := by
  obtain ⟨wE, e1, e2⟩ := e_leave hW (gz_z z) hT hc he hne hte hl0 q1
  refine ⟨_, e2, op_ok (Es := [(eI', (-31)), (eS', (-33))]) hY hS (fun w hY => d_leave hW hY hT hc he hne hte hl0) e1 ?_⟩
  have h5 := cn_le (ch z) 5
  unfold F_L_leave F_X7_leave
  rw [p_needChildY hY hc ht, bx_l, p_number hY, bd_s, if_pos (show (1 : Int32) < nI (cn (ch z) 5) from nI_lt (a := 1) h2 (by omega))]
theorem o_leave3 (hY : YR 0 z w) (hc : c < 5) (ht : zC z c 0 = 1) (h2 : ¬ 1 < cn (ch z) 5) : F_L_leave (nI c) w = some (-33, w) := by
  unfold F_L_leave F_X7_leave
  rw [p_needChildY hY hc ht, bx_l, p_number hY, bd_s, if_neg (show ¬ (1 : Int32) < nI (cn (ch z) 5) from nI_nlt (a := 1) (by omega) (by omega))]
  exact l_3 w
theorem o_leave1 (hY : YR 0 z w) (hc : c < 5) (ht : zC z c 0 ≠ 1) : F_L_leave (nI c) w = some (-31, w) := by
  unfold F_L_leave F_X7_leave
  rw [p_needChildN hY hc ht, bx_r]
  exact l_1 w
end OPS
