/-! set, come -/
section G2
variable {z z' : Nat → Int32} {w w1 w' : xWt} {B T B' T' c h b l e : Nat} {a a2 a3 x2 x4 o7 o11 v : Int32} {R R' : Nat → Nat → Int32}
theorem LR.set0 (hR : LR z R) (x : Int32) (rr : ∀ r, 0 < r → R' r = R r) (h0 : R' 0 = upd (R 0) 7 x) : LR (upd z 8 x) R' := by
  refine LR.glob hR (fun i _ _ h8 _ => upd_ne _ _ h8) (by unfold bN; rw [upd_ne _ _ (by omega)]; exact Nat.le_refl _) rr (by rw [h0, upd_ne _ _ (by omega)]) ?_
  obtain ⟨g0, g1, g2, g3, g4, g5, g6, g7, g8⟩ := hR.g
  unfold rG
  rw [h0]
  exact ⟨by rw [upd_ne _ _ (by omega), upd_ne _ _ (by omega)]; exact g0, by rw [upd_ne _ _ (by omega), upd_ne _ _ (by omega)]; exact g1, by rw [upd_ne _ _ (by omega), upd_ne _ _ (by omega)]; exact g2, by rw [upd_ne _ _ (by omega), upd_ne _ _ (by omega)]; exact g3, by rw [upd_ne _ _ (by omega), upd_ne _ _ (by omega)]; exact g4, by rw [upd_ne _ _ (by omega), upd_ne _ _ (by omega)]; exact g5, by rw [upd_ne _ _ (by omega), upd_ne _ _ (by omega)]; exact g6, by rw [upd_eq, upd_eq], by rw [upd_ne _ _ (by omega), upd_ne _ _ (by omega)]; exact g8⟩
theorem LR.set1 (hR : LR z R) (x : Int32) (rr : ∀ r, 0 < r → R' r = R r) (h0 : R' 0 = upd (R 0) 8 x) : LR (upd z 9 x) R' := by
  refine LR.glob hR (fun i _ _ _ h9 => upd_ne _ _ h9) (by unfold bN; rw [upd_ne _ _ (by omega)]; exact Nat.le_refl _) rr (by rw [h0, upd_ne _ _ (by omega)]) ?_
  obtain ⟨g0, g1, g2, g3, g4, g5, g6, g7, g8⟩ := hR.g
  unfold rG
  rw [h0]
  exact ⟨by rw [upd_ne _ _ (by omega), upd_ne _ _ (by omega)]; exact g0, by rw [upd_ne _ _ (by omega), upd_ne _ _ (by omega)]; exact g1, by rw [upd_ne _ _ (by omega), upd_ne _ _ (by omega)]; exact g2, by rw [upd_ne _ _ (by omega), upd_ne _ _ (by omega)]; exact g3, by rw [upd_ne _ _ (by omega), upd_ne _ _ (by omega)]; exact g4, by rw [upd_ne _ _ (by omega), upd_ne _ _ (by omega)]; exact g5, by rw [upd_ne _ _ (by omega), upd_ne _ _ (by omega)]; exact g6, by rw [upd_ne _ _ (by omega), upd_ne _ _ (by omega)]; exact g7, by rw [upd_eq, upd_eq]⟩
theorem LR.cnt4 (hR : LR z R) (x : Int32) (rr : ∀ r, 0 < r → R' r = R r) (h0 : R' 0 = upd (R 0) 4 x) : LR (upd z 4 x) R' := by
  refine LR.glob hR (fun i _ h _ _ => upd_ne _ _ (by omega)) (by unfold bN; rw [upd_ne _ _ (by omega)]; exact Nat.le_refl _) rr (by rw [h0, upd_ne _ _ (by omega)]) ?_
  obtain ⟨g0, g1, g2, g3, g4, g5, g6, g7, g8⟩ := hR.g
  unfold rG
  rw [h0]
  exact ⟨by rw [upd_ne _ _ (by omega), upd_ne _ _ (by omega)]; exact g0, by rw [upd_ne _ _ (by omega), upd_ne _ _ (by omega)]; exact g1, by rw [upd_ne _ _ (by omega), upd_ne _ _ (by omega)]; exact g2, by rw [upd_ne _ _ (by omega), upd_ne _ _ (by omega)]; exact g3, by rw [upd_eq, upd_eq], by rw [upd_ne _ _ (by omega), upd_ne _ _ (by omega)]; exact g5, by rw [upd_ne _ _ (by omega), upd_ne _ _ (by omega)]; exact g6, by rw [upd_ne _ _ (by omega), upd_ne _ _ (by omega)]; exact g7, by rw [upd_ne _ _ (by omega), upd_ne _ _ (by omega)]; exact g8⟩
theorem LR.cnt5 (hR : LR z R) (x : Int32) (rr : ∀ r, 0 < r → R' r = R r) (h0 : R' 0 = upd (R 0) 5 x) : LR (upd z 5 x) R' := by
  refine LR.glob hR (fun i _ h _ _ => upd_ne _ _ (by omega)) (by unfold bN; rw [upd_ne _ _ (by omega)]; exact Nat.le_refl _) rr (by rw [h0, upd_ne _ _ (by omega)]) ?_
  obtain ⟨g0, g1, g2, g3, g4, g5, g6, g7, g8⟩ := hR.g
  unfold rG
  rw [h0]
  exact ⟨by rw [upd_ne _ _ (by omega), upd_ne _ _ (by omega)]; exact g0, by rw [upd_ne _ _ (by omega), upd_ne _ _ (by omega)]; exact g1, by rw [upd_ne _ _ (by omega), upd_ne _ _ (by omega)]; exact g2, by rw [upd_ne _ _ (by omega), upd_ne _ _ (by omega)]; exact g3, by rw [upd_ne _ _ (by omega), upd_ne _ _ (by omega)]; exact g4, by rw [upd_eq, upd_eq], by rw [upd_ne _ _ (by omega), upd_ne _ _ (by omega)]; exact g6, by rw [upd_ne _ _ (by omega), upd_ne _ _ (by omega)]; exact g7, by rw [upd_ne _ _ (by omega), upd_ne _ _ (by omega)]; exact g8⟩
theorem g_set (hI : IN z w B T) : ST w (B + 1) (T + 121) (G_set a2 a3 x2 x4 o7 o11 w) := by
  obtain ⟨hW, hY, hR, hS⟩ := hI
  obtain ⟨q, hq, e⟩ := l_low (a2 >>> (5 &&& 31)) (n := 2) (by omega) (by omega) w
  unfold G_set
  rw [show F_L_low (a2 >>> (5 &&& 31)) 2 w = some (nI q, w) from e, bd_s]
  obtain rfl | rfl : q = 0 ∨ q = 1 := by omega
  · obtain ⟨s, hs, es⟩ := l_low (a2 >>> (6 &&& 31)) (n := 6) (by omega) (by omega) w
    obtain ⟨w1, hw1⟩ : ∃ w1, w1 = lS w 0 7 (nI (1 + s)) := ⟨_, rfl⟩
    have hd : dL w w1 := by rw [hw1]; exact (dL.rf w).s _ _ _
    have hr : ∀ r, 0 < r → w1.1 10 r = w.1 10 r := fun r hr => by rw [hw1, lS_ne _ _ _ (by omega)]
    have h0 : w1.1 10 0 = upd (w.1 10 0) 7 (nI (1 + s)) := by rw [hw1, lS_eq]
    rw [show (7 : Int32) + nI 0 = 7 from rfl, a0_7, hR.g.2.2.2.2.2.2.2.1, if_pos (show nI 0 = 0 from rfl), show F_L_low (a2 >>> (6 &&& 31)) 6 w = some (nI s, w) from es, bd_s, bd_s, show (1 : Int32) + nI s = nI (1 + s) from nI_add 1 s, s0_7, ← hw1, a0_7, h0, upd_eq]
    refine (STs.ok (o_set0 hW (hY.dL hd) (hS.dL hd) (s := 1 + s) (by omega) (by omega)) (hR.set0 _ hr h0) (fun w' _ => ?_) (by omega) (by omega)).o
    rw [if_pos rfl, o_setA, bd_s, if_pos rfl, o_setI, bd_s, if_pos rfl]
  · obtain ⟨s, hs, es⟩ := l_low (a2 >>> (6 &&& 31)) (n := 2) (by omega) (by omega) w
    obtain ⟨w1, hw1⟩ : ∃ w1, w1 = lS w 0 8 (nI s) := ⟨_, rfl⟩
    have hd : dL w w1 := by rw [hw1]; exact (dL.rf w).s _ _ _
    have hr : ∀ r, 0 < r → w1.1 10 r = w.1 10 r := fun r hr => by rw [hw1, lS_ne _ _ _ (by omega)]
    have h0 : w1.1 10 0 = upd (w.1 10 0) 8 (nI s) := by rw [hw1, lS_eq]
    rw [show (7 : Int32) + nI 1 = 8 from rfl, a0_8, hR.g.2.2.2.2.2.2.2.2, if_neg (show ¬ nI 1 = 0 by decide), show F_L_low (a2 >>> (6 &&& 31)) 2 w = some (nI s, w) from es, bd_s, bd_s, s0_8, ← hw1, a0_8, h0, upd_eq]
    refine (STs.ok (o_set1 hW (hY.dL hd) (hS.dL hd) (a := nI s) ?_) (hR.set1 _ hr h0) (fun w' _ => ?_) (by omega) (by omega)).o
    · obtain rfl | rfl : s = 0 ∨ s = 1 := by omega
      · exact Or.inl rfl
      · exact Or.inr rfl
    · rw [if_pos rfl, o_setA, bd_s, if_pos rfl, o_setI, bd_s, if_pos rfl]
/-! come -/
theorem l_310 (hR : LR z (w.1 10)) : ((∀ d, d < 5 → zC z d 0 = 1) ∧ L_L_goes_310 9999 a2 a3 x2 x4 o7 o11 0 w = some (5, w)) ∨ ∃ c, c < 5 ∧ zC z c 0 ≠ 1 ∧ (∀ d, d < c → zC z d 0 = 1) ∧ L_L_goes_310 9999 a2 a3 x2 x4 o7 o11 0 w = some (nI c, w) := by
  have key : ∀ n i, i ≤ 5 → 5 < i + n → (∀ d, d < i → zC z d 0 = 1) → ((∀ d, d < 5 → zC z d 0 = 1) ∧ L_L_goes_310 n a2 a3 x2 x4 o7 o11 (nI i) w = some (5, w)) ∨ ∃ c, c < 5 ∧ zC z c 0 ≠ 1 ∧ (∀ d, d < c → zC z d 0 = 1) ∧ L_L_goes_310 n a2 a3 x2 x4 o7 o11 (nI i) w = some (nI c, w) := by
    intro n
    induction n with
    | zero => intro i hi hn; omega
    | succ n ih =>
      intro i hi hn hd
      by_cases q : i = 5
      · left
        refine ⟨fun d h => hd d (by omega), ?_⟩
        rw [q]
        show B_L_goes_310 (L_L_goes_310 n) a2 a3 x2 x4 o7 o11 (nI 5) w = _
        unfold B_L_goes_310
        rw [if_pos (show (5 : Int32) ≤ nI 5 from Int32.le_refl _)]
        rfl
      · by_cases t : zC z i 0 = 1
        · have e : L_L_goes_310 (n + 1) a2 a3 x2 x4 o7 o11 (nI i) w = L_L_goes_310 n a2 a3 x2 x4 o7 o11 (nI (i + 1)) w := by
            show B_L_goes_310 (L_L_goes_310 n) a2 a3 x2 x4 o7 o11 (nI i) w = _
            unfold B_L_goes_310
            rw [if_neg (show ¬ (5 : Int32) ≤ nI i from nI_ge (b := 5) (by omega) (by omega)), ix60, a4 (by omega), (hR.c i (by omega)).1, if_pos t, nI_1]
          rw [e]
          exact ih (i + 1) (by omega) (by omega) (fun d h => by
            by_cases r : d = i
            · rw [r]; exact t
            · exact hd d (by omega))
        · right
          refine ⟨i, by omega, t, hd, ?_⟩
          show B_L_goes_310 (L_L_goes_310 n) a2 a3 x2 x4 o7 o11 (nI i) w = _
          unfold B_L_goes_310
          rw [if_neg (show ¬ (5 : Int32) ≤ nI i from nI_ge (b := 5) (by omega) (by omega)), ix60, a4 (by omega), (hR.c i (by omega)).1, if_neg t]
  exact key 9999 0 (by omega) (by omega) (fun d h => absurd h (by omega))
theorem cl_step (n : Nat) (w : xWt) {k : Nat} (hc : c < 5) (hk : k < 6) : L_L_goes_358 (n + 1) a2 a3 x2 x4 o7 o11 (nI c) (nI k) w = L_L_goes_358 n a2 a3 x2 x4 o7 o11 (nI c) (nI (k + 1)) (lS w 4 (6 * c + k) 0) := by
  show B_L_goes_358 (L_L_goes_358 n) a2 a3 x2 x4 o7 o11 (nI c) (nI k) w = _
  unfold B_L_goes_358
  rw [if_neg (show ¬ (6 : Int32) ≤ nI k from nI_ge (b := 6) hk (by omega)), ix6, s4 (by omega), nI_1]
theorem cl_end (n : Nat) (w : xWt) : L_L_goes_358 (n + 1) a2 a3 x2 x4 o7 o11 (nI c) (nI 6) w = some (nI 6, w) := by
  show B_L_goes_358 (L_L_goes_358 n) a2 a3 x2 x4 o7 o11 (nI c) (nI 6) w = _
  unfold B_L_goes_358
  rw [if_pos (show (6 : Int32) ≤ nI 6 from Int32.le_refl _)]
theorem l_358 (w : xWt) (hc : c < 5) : ∃ w1, L_L_goes_358 9999 a2 a3 x2 x4 o7 o11 (nI c) 0 w = some (nI 6, w1) ∧ dL w w1 ∧ (∀ r, r ≠ 4 → w1.1 10 r = w.1 10 r) ∧ (∀ i, i < 6 * c ∨ 6 * c + 6 ≤ i → w1.1 10 4 i = w.1 10 4 i) ∧ ∀ k, k < 6 → w1.1 10 4 (6 * c + k) = 0 := by
  refine ⟨lS (lS (lS (lS (lS (lS w 4 (6 * c + 0) 0) 4 (6 * c + 1) 0) 4 (6 * c + 2) 0) 4 (6 * c + 3) 0) 4 (6 * c + 4) 0) 4 (6 * c + 5) 0, ?_, ((((((dL.rf w).s _ _ _).s _ _ _).s _ _ _).s _ _ _).s _ _ _).s _ _ _, fun r hr => ?_, fun i hi => ?_, fun k hk => ?_⟩
  · rw [show (9999 : Nat) = 9992 + 1 + 1 + 1 + 1 + 1 + 1 + 1 from rfl, show (0 : Int32) = nI 0 from rfl, cl_step _ _ hc (by omega), cl_step _ _ hc (by omega), cl_step _ _ hc (by omega), cl_step _ _ hc (by omega), cl_step _ _ hc (by omega), cl_step _ _ hc (by omega), cl_end]
    rfl
  · rw [lS_ne _ _ _ hr, lS_ne _ _ _ hr, lS_ne _ _ _ hr, lS_ne _ _ _ hr, lS_ne _ _ _ hr, lS_ne _ _ _ hr]
  · rw [lS_eq, lS_eq, lS_eq, lS_eq, lS_eq, lS_eq, upd_ne _ _ (by omega), upd_ne _ _ (by omega), upd_ne _ _ (by omega), upd_ne _ _ (by omega), upd_ne _ _ (by omega), upd_ne _ _ (by omega)]
  · rw [lS_eq, lS_eq, lS_eq, lS_eq, lS_eq, lS_eq]
    unfold upd
    simp only [Nat.add_left_cancel_iff]
    obtain rfl | rfl | rfl | rfl | rfl | rfl : k = 0 ∨ k = 1 ∨ k = 2 ∨ k = 3 ∨ k = 4 ∨ k = 5 := by omega
    all_goals rfl
theorem g_come (hI : IN z w B T) : ST w (B + 1) (T + 121) (G_come a2 a3 x2 x4 o7 o11 w) := by
  have hI0 := hI
  obtain ⟨hW, hY, hR, hS⟩ := hI
  unfold G_come
  rcases l_310 (a2 := a2) (a3 := a3) (x2 := x2) (x4 := x4) (o7 := o7) (o11 := o11) hR with ⟨hall, e⟩ | ⟨c, hc, h0, hlo, e⟩
  · refine ST.no hI0 ?_ (by omega) (by omega)
    rw [e, bd_s, if_pos rfl, o_come3 hY hall, bd_s, if_pos rfl]
  · obtain ⟨w1, e1, hd1, r1, q1, z1⟩ := l_358 (a2 := a2) (a3 := a3) (x2 := x2) (x4 := x4) (o7 := o7) (o11 := o11) w hc
    obtain ⟨w2, e2, hd2, r2, q4, q5, z5⟩ := l_without w1 hc
    obtain ⟨w3, hw3⟩ : ∃ w3, w3 = lS w2 4 (6 * c) 1 := ⟨_, rfl⟩
    have hd : dL w w3 := by rw [hw3]; exact (hd1.trans hd2).s _ _ _
    obtain ⟨z', hZ, hO⟩ := o_come hW (hY.dL hd) (hS.dL hd) hc h0 hlo
    have h4 : w3.1 10 4 = upd (upd (upd (w1.1 10 4) (6 * c + 1) 0) (6 * c + 2) (-1)) (6 * c) 1 := by rw [hw3, lS_eq, q4]
    have h5 : w3.1 10 5 = w2.1 10 5 := by rw [hw3, lS_ne _ _ _ (by omega)]
    rw [e, bd_s, if_neg (show ¬ nI c = 5 from fun r => absurd (nI_inj (b := 5) (by omega) (by omega) r) (by omega)), e1, bd_s, e2, bd_s, ix60, s4 (by omega), ← hw3]
    refine (STs.ok hO ?_ (fun w' _ => by rw [if_pos rfl]) (by omega) (by omega)).o
    refine LR.child hW hR hc hZ.2.2 (fun r hr => by rw [hw3, lS_ne _ _ _ (by omega), r2 r hr, r1 r (by omega)]) (fun i hi => by rw [h4, upd_ne _ _ (by omega), upd_ne _ _ (by omega), upd_ne _ _ (by omega), q1 i hi]) (fun i hi => by rw [h5, q5 i hi, r1 5 (by omega)]) ?_ (fun h hh => ?_) (fun h hh q => ?_) (fun h hh q => ?_)
    · rw [h4, hZ.1 0 (by omega), hZ.1 1 (by omega), hZ.1 2 (by omega), hZ.1 3 (by omega), hZ.1 4 (by omega), hZ.1 5 (by omega)]
      refine ⟨by rw [upd_eq]; rfl, by rw [upd_ne _ _ (by omega), upd_ne _ _ (by omega), upd_eq]; rfl, by rw [upd_ne _ _ (by omega), upd_eq]; rfl, fun _ => ?_⟩
      rw [upd_ne _ _ (by omega), upd_ne _ _ (by omega), upd_ne _ _ (by omega), upd_ne _ _ (by omega), upd_ne _ _ (by omega), upd_ne _ _ (by omega), upd_ne _ _ (by omega), upd_ne _ _ (by omega), upd_ne _ _ (by omega), z1 3 (by omega), z1 4 (by omega), z1 5 (by omega)]
      exact ⟨rfl, rfl, rfl⟩
    · rw [h5, (hZ.2.1 h hh).1, (hZ.2.1 h hh).2.1]
      exact z5 h hh
    · rw [(hZ.2.1 h hh).1] at q; exact absurd q (by decide)
    · rw [(hZ.2.1 h hh).1] at q; exact absurd q (by decide)
end G2
