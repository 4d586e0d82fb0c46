/-! call 12: rake -/
/-- as DO, and the number of leaves that grew is the same -/
def DG (z : Nat → Int32) (B' T' : Nat) (wp : xWt) (fP fM : xWt → Option (Int32 × xWt)) : Prop := ∀ wr, zz wr = z → ∃ v wq wE, fP wp = some (v, wq) ∧ dP wp wq ∧ fM wr = some (v, wE) ∧ dM wr wE ∧ YR 0 (zz wE) wq ∧ WF (zz wE) B' T' ∧ gN (zz wE) = gN z ∧ v ≠ -1
theorem DG.o {z : Nat → Int32} {B' T' : Nat} {wp : xWt} {fP fM : xWt → Option (Int32 × xWt)} (h : DG z B' T' wp fP fM) : DO z B' T' wp fP fM := fun wr hz => by
  obtain ⟨v, wq, wE, a1, a2, a3, a4, a5, a6, -, -⟩ := h wr hz
  exact ⟨v, wq, wE, a1, a2, a3, a4, a5, a6⟩
theorem DG.seq {z : Nat → Int32} {B T B' T' : Nat} {w : xWt} {fP fM : xWt → Option (Int32 × xWt)} {gP gM : Int32 → xWt → Option (Int32 × xWt)} (h1 : DG z B T w fP fM) (h2 : ∀ v wq z1, YR 0 z1 wq → WF z1 B T → gN z1 = gN z → v ≠ -1 → DG z1 B' T' wq (gP v) (gM v)) : DG z B' T' w (fun w => bd (fP w) gP) (fun w => bd (fM w) gM) := fun wr hz => by
  obtain ⟨v, wq, wE, a1, a2, a3, a4, a5, a6, a7, a8⟩ := h1 wr hz
  obtain ⟨v', wq', wE', b1, b2, b3, b4, b5, b6, b7, b8⟩ := h2 v wq (zz wE) a5 a6 a7 a8 wE rfl
  exact ⟨v', wq', wE', by dsimp only; rw [a1, bd_s, b1], a2.trans b2, by dsimp only; rw [a3, bd_s, b3], a4.trans b4, b5, b6, b7.trans a7, b8⟩
theorem DG.mono {z : Nat → Int32} {w : xWt} {B T B' T' : Nat} {fP fM : xWt → Option (Int32 × xWt)} (hB : B ≤ B') (hT : T ≤ T') (h : DG z B T w fP fM) : DG z B' T' w fP fM := fun wr hz => by
  obtain ⟨v, wq, wE, a1, a2, a3, a4, a5, a6, a7, a8⟩ := h wr hz
  exact ⟨v, wq, wE, a1, a2, a3, a4, a5, a6.mono hB hT, a7, a8⟩
section RK
variable {z z' z1 : Nat → Int32} {xs : Nat → Int32} {L i B T c l : Nat} {rec : Int32 → xWt → Option Unit} {w w' : xWt} {a : Int32}
theorem p_numberW (h6 : ∀ d, d < 5 → w.1 0 6 d = zC z d 0) : F_X0_number 0 w = some (nI (cn (ch z) 5), w) := by
  unfold F_X0_number
  rw [show (5 : Int32) = nI 5 from rfl, R_number0 w 0 6 1 (N := 5) (by decide), bd_s]
  congr 3
  refine cn_congr fun d hd => ?_
  rw [h6 d hd]
  unfold ch
  rw [Bool.eq_iff_iff]; simp
theorem d_clear (hW : WF z B T) (hY : YR 0 z w) (hc : c < 5) (ht : zC z c 0 = 1) : DG z B T w (F_X6_clear 0 (nI c)) (F_X8_doRake (nI c)) := by
  intro wr hz
  obtain ⟨hl, q1, q2, q3, q4⟩ := p_heap hW hY hc
  obtain ⟨wa, ea, da, r2, r5, r12, r12o, ro, ff⟩ := p_clearL hW hY hc q1 q2 q4
  obtain ⟨wb, eb, db, hz1⟩ := m_rakeL (c := c) hW hz
  have hkp := List.length_filter_le (fun l => !mB z l (z 9)) hl
  have hn : hl.length - (hl.filter (fun l => !mB z l (z 9))).length = cn (bnB z c) (gN z) := by
    have e1 : cn (bnB z c) (gN z) = hl.countP (fun l => mB z l (z 9)) := q1.count (fun l => mB z l (z 9))
    have e2 := List.length_eq_countP_add_countP (fun l => mB z l (z 9)) (l := hl)
    have e3 : (hl.filter (fun l => !mB z l (z 9))).length = hl.countP (fun l => ¬ mB z l (z 9)) := by
      rw [List.countP_eq_length_filter]
      congr 2
      funext l
      simp
    omega
  generalize hkpd : (hl.filter (fun l => !mB z l (z 9))).length = kp at *
  have hY1 : YR 0 (zz wb) (sRow wa 0 11 (upd (w.1 0 11) c (nI kp))) := hY.burn hW hc hz1 q1 (fun l => by rw [sRow_ne _ _ (by omega)]; exact r2 l) (fun l => by rw [sRow_ne _ _ (by omega)]; exact r5 l) (fun j x hx => by rw [sRow_ne _ _ (by omega)]; exact r12 j x hx) (fun j hj => by rw [sRow_ne _ _ (by omega)]; exact r12o j hj) (by rw [hkpd]; exact sRow_eq _ _ _ _) (fun r h1 h2 h3 h4 => by rw [sRow_ne _ _ (by omega)]; exact ro r h1 h2 h4) (fun j => by rw [sRow_2, ff])
  have hW1 := hW.burn hz1
  obtain ⟨w1, hw1⟩ : ∃ w1, w1 = sRow wa 0 11 (upd (w.1 0 11) c (nI kp)) := ⟨_, rfl⟩
  rw [← hw1] at hY1
  have hw12 : w1.2 = w.2 := by rw [hw1, sRow_2, ff]
  have d1 : dP w w1 := by rw [hw1]; exact da.row _ _
  have ht1 : zC (zz wb) c 0 = 1 := by rw [hz1.C]; exact ht
  obtain ⟨y1, y2, y3⟩ := hY1.c c hc
  obtain ⟨y3, y4, y5⟩ := y3 ht1
  obtain ⟨f0, f1, f2, f3, f4, f5, f6, f7, f8⟩ := hY1.f
  obtain ⟨t, htd⟩ : ∃ t, t = if zz wb 9 = 0 then zz wb 3 + 3 * nI (cn (ch (zz wb)) 5) else zz wb 3 + 0 := ⟨_, rfl⟩
  have hYa := (hY1.cnt (j := 2) (by omega) (by omega) (zz wb 2 + 1)).cnt (j := 3) (by omega) (by omega) t
  have hWa := (hW1.cnt (j := 2) (by omega) (by omega) (zz wb 2 + 1)).cnt (j := 3) (by omega) (by omega) t
  obtain ⟨v4, hv4⟩ : ∃ v4, v4 = zs (zs (zs (zs wb 2 (zz wb 2 + 1)) 3 t) (742 + 15 * c + 5) (zC (zz wb) c 5 + 1)) (742 + 15 * c + 4) (zC (zz wb) c 4 + nI (cn (bnB z c) (gN z))) := ⟨_, rfl⟩
  have z4 : zz v4 = upd (upd (upd (upd (zz wb) 2 (zz wb 2 + 1)) 3 t) (742 + 15 * c + 5) (zC (zz wb) c 5 + 1)) (742 + 15 * c + 4) (zC (zz wb) c 4 + nI (cn (bnB z c) (gN z))) := by
    rw [hv4, zs_z, zs_z, zs_z, zs_z]
  have hC : ∀ d k, (d ≠ c ∨ (k ≠ 4 ∧ k ≠ 5)) → k < 15 → zC (zz v4) d k = zC (upd (upd (zz wb) 2 (zz wb 2 + 1)) 3 t) d k := fun d k h1 h2 => by
    rw [z4, zC_ne _ (by omega), zC_ne _ (by omega)]
  have hH : ∀ h k, k < 3 → h < 3 → zH (zz v4) c h k = zH (upd (upd (zz wb) 2 (zz wb 2 + 1)) 3 t) c h k := fun h k h1 h2 => by
    rw [z4, zH_ne _ (by omega), zH_ne _ (by omega)]
  have ho : chO (upd (upd (zz wb) 2 (zz wb 2 + 1)) 3 t) (zz v4) c := ⟨fun i hi => by rw [z4, upd_ne _ _ (by omega), upd_ne _ _ (by omega)], fun d hd hne k hk => hC d k (Or.inl hne) hk⟩
  have hCz : ∀ d k, zC (upd (upd (zz wb) 2 (zz wb 2 + 1)) 3 t) d k = zC (zz wb) d k := fun d k => by rw [zC_ne _ (by omega), zC_ne _ (by omega)]
  refine ⟨nI (cn (bnB z c) (gN z)), sF (sF (sRow (sRow w1 0 9 (upd (w1.1 0 9) c (zC (zz wb) c 4 + nI (cn (bnB z c) (gN z))))) 0 10 (upd (w1.1 0 10) c (zC (zz wb) c 5 + 1))) 0 3 (zz wb 2 + 1)) 0 4 t, v4, ?_, (((d1.row _ _).row _ _).fd _ _).fd _ _, ?_, ?_, ?_, ?_, ?_, nI_m1 (by have := cn_le (bnB z c) (gN z); have := hW.g120; omega)⟩
  · unfold F_X6_clear
    have e9 : w1.1 0 9 c = zC (zz wb) c 4 := y4
    have e10 : w1.1 0 10 c = zC (zz wb) c 5 := y5
    have e11 : wa.1 0 11 = w.1 0 11 := ro 11 (by omega) (by omega) (by omega)
    rw [R_get, bd_s, q3, ixP0, ea, bd_s]
    dsimp only
    rw [R_put, bd_s, p5 hc rfl, e11, ← hw1, nI_sub hkp, hn, R_add, bd_s, g_5 hc rfl, e9, p5 hc rfl, R_add, bd_s, g_5 hc rfl, sRow_ne (k' := 0) (r' := 10) _ _ (by decide), e10, p5 hc rfl, sRow_ne (k' := 0) (r' := 10) _ _ (by decide)]
    unfold lw
    dsimp only
    rw [sRow_2, sRow_2, f3]
    obtain ⟨X, hX⟩ : ∃ X, X = sF (sRow (sRow w1 0 9 (upd (w1.1 0 9) c (zC (zz wb) c 4 + nI (cn (bnB z c) (gN z))))) 0 10 (upd (w1.1 0 10) c (zC (zz wb) c 5 + 1))) 0 3 (zz wb 2 + 1) := ⟨_, rfl⟩
    rw [← hX]
    have x2 : X.2.1 0 2 = zz wb 9 := by rw [hX]; exact f2
    have x4 : X.2.1 0 4 = zz wb 3 := by rw [hX]; exact f4
    have x6 : ∀ d, d < 5 → X.1 0 6 d = zC (zz wb) d 0 := fun d hd => by rw [hX]; exact (hY1.c d hd).1
    rw [x2, x4, htd]
    by_cases q : zz wb 9 = 0
    · rw [if_pos q, if_pos q, p_numberW x6, bd_s]
    · rw [if_neg q, if_neg q]
  · unfold F_X8_doRake
    rw [eb, bd_s]
    dsimp only
    rw [show ∀ f : Int32 → Option (Int32 × xWt), ald wb 9 0 2 f = f (zz wb 2) from fun f => m_z (i := 2) (by decide), show ∀ f : xWt → Option (Int32 × xWt), ast wb 9 0 2 (zz wb 2 + 1) f = f (zs wb 2 (zz wb 2 + 1)) from fun f => m_zs (i := 2) (by decide)]
    obtain ⟨v1, hv1⟩ : ∃ v1, v1 = zs wb 2 (zz wb 2 + 1) := ⟨_, rfl⟩
    rw [← hv1]
    have z1' : zz v1 = upd (zz wb) 2 (zz wb 2 + 1) := by rw [hv1, zs_z]
    have hch : ∀ d k, zC (zz v1) d k = zC (zz wb) d k := fun d k => by rw [z1', zC_ne _ (by omega)]
    have hcn : cn (ch (zz v1)) 5 = cn (ch (zz wb)) 5 := cn_congr fun d hd => by unfold ch; rw [hch]
    rw [show ∀ f : Int32 → Option (Int32 × xWt), ald v1 9 0 3 f = f (zz v1 3) from fun f => m_z (i := 3) (by decide), m_z9, show zz v1 3 = zz wb 3 from by rw [z1', upd_ne _ _ (by omega)], show zz v1 9 = zz wb 9 from by rw [z1', upd_ne _ _ (by omega)]]
    have tail : ∀ v2, v2 = zs v1 3 t → bd (F_X8_ofChild (nI c) 5 v2) (fun x28 w27 => bd (F_X8_setChild (nI c) 5 (x28 + 1) w27) (fun _ w29 => bd (F_X8_ofChild (nI c) 4 w29) (fun x31 w30 => bd (F_X8_setChild (nI c) 4 (x31 + nI (cn (bnB z c) (gN z))) w30) (fun _ w32 => some (nI (cn (bnB z c) (gN z)), w32))))) = some (nI (cn (bnB z c) (gN z)), v4) := fun v2 hv2 => by
      have e5 : zC (zz v2) c 5 = zC (zz wb) c 5 := by rw [hv2, zs_z, zC_ne _ (by omega), hch]
      have e4 : zC (zz (zs v2 (742 + 15 * c + 5) (zC (zz wb) c 5 + 1))) c 4 = zC (zz wb) c 4 := by rw [zs_z, zC_ne _ (by omega), hv2, zs_z, zC_ne _ (by omega), hch]
      rw [m_ofC5 hc, bd_s, e5, show F_X8_setChild (nI c) 5 (zC (zz wb) c 5 + 1) v2 = some ((), zs v2 (742 + 15 * c + 5) (zC (zz wb) c 5 + 1)) from m_setC hc (k := 5) (by omega) _, bd_s, m_ofC4 hc, bd_s, e4, show F_X8_setChild (nI c) 4 (zC (zz wb) c 4 + nI (cn (bnB z c) (gN z))) (zs v2 (742 + 15 * c + 5) (zC (zz wb) c 5 + 1)) = some ((), v4) from by rw [hv4, ← hv1, ← hv2]; exact m_setC hc (k := 4) (by omega) _, bd_s]
    by_cases q : zz wb 9 = 0
    · rw [if_pos q] at htd
      rw [if_pos q, m_children (fun d hd => by rw [hch]; exact hW1.th hd), bd_s, hcn, ← htd, show ∀ f : xWt → Option (Int32 × xWt), ast v1 9 0 3 t f = f (zs v1 3 t) from fun f => m_zs (i := 3) (by decide)]
      exact tail _ rfl
    · rw [if_neg q] at htd
      rw [if_neg q, ← htd, show ∀ f : xWt → Option (Int32 × xWt), ast v1 9 0 3 t f = f (zs v1 3 t) from fun f => m_zs (i := 3) (by decide)]
      exact tail _ rfl
  · rw [hv4]
    exact db.trans (((((dM.rf wb).zs _ _).zs _ _).zs _ _).zs _ _)
  · refine hYa.child hWa ho (fun r hr => ?_) (fun j => rfl) (fun r d h1 h2 hne => ?_) (fun r i h1 h2 _ => ?_) ⟨?_, ?_, fun _ => ⟨?_, ?_, ?_⟩⟩ (fun h hh => ?_)
    · show (sRow (sRow w1 0 9 _) 0 10 _).1 0 r = w1.1 0 r
      rw [sRow_ne _ _ (by omega), sRow_ne _ _ (by omega)]
    · show (sRow (sRow w1 0 9 _) 0 10 _).1 0 r d = w1.1 0 r d
      by_cases e : r = 10
      · rw [e, sRow_eq, upd_ne _ _ hne]
      · rw [sRow_ne _ _ (by omega)]
        by_cases e : r = 9
        · rw [e, sRow_eq, upd_ne _ _ hne]
        · rw [sRow_ne _ _ (by omega)]
    · show (sRow (sRow w1 0 9 _) 0 10 _).1 0 r i = w1.1 0 r i
      rw [sRow_ne _ _ (by omega), sRow_ne _ _ (by omega)]
    · rw [hC c 0 (Or.inr (by omega)) (by omega), hCz]; exact y1
    · rw [hC c 2 (Or.inr (by omega)) (by omega), hCz]; exact y2
    · rw [hC c 3 (Or.inr (by omega)) (by omega), hCz]; exact y3
    · rw [z4, zC_eq, sF_1, sF_1, sRow_ne _ _ (by omega), sRow_eq, upd_eq]
    · rw [z4, zC_ne _ (by omega), zC_eq, sF_1, sF_1, sRow_eq, upd_eq]
    · have q := hYa.h c h hc hh
      unfold yH1
      rw [hH h 0 (by omega) hh, hH h 1 (by omega) hh, hH h 2 (by omega) hh]
      exact q
  · refine hWa.child ho (hC c 0 (Or.inr (by omega)) (by omega)) ?_ (fun h hh => ?_)
    · have q := hWa.c c hc
      unfold wC1
      rw [hC c 0 (Or.inr (by omega)) (by omega), hC c 1 (Or.inr (by omega)) (by omega), hC c 2 (Or.inr (by omega)) (by omega), ho.b]
      rcases q with ⟨q, -⟩ | q
      · rw [hCz, ht1] at q
        exact absurd q (by decide)
      · exact Or.inr q
    · have q := hWa.h c h hc hh
      unfold wK at q ⊢
      rw [hH h 0 (by omega) hh, hH h 1 (by omega) hh, hH h 2 (by omega) hh, ho.g]
      exact q
  · rw [ho.g, ← hz1.g]
    unfold gN
    rw [upd_ne _ _ (by omega), upd_ne _ _ (by omega)]
end RK

