/-! call 38: the whole digest -/
def hKids (z : Nat → Int32) (hlf : Nat → List Nat) (h : Int64) : Int64 := iter (fun c h => if ch z c = true then hChild z c (hlf c) h else h) 0 5 h
def hBody (z : Nat → Int32) (s : Nat) (hlf : Nat → List Nat) : Int64 := hKids z hlf (iter (hLeaf z) 0 (gN z) (fo (fun b => z (10 + b)) 12 (fo (fun k => z (8 + k)) 2 (fo (countV z s) 16 3347))))
def hTail (z : Nat → Int32) (h : Int64) : Int64 := 31 * (31 * (31 * (31 * (31 * (31 * h + (bI (iter (bS z) 0 5 (none, 0)).1).toInt64) + (mk (lO z) 5).toInt64) + (nI (cn (fun l => zL z l 1 == 1) (gN z))).toInt64) + (iter (mhS z) 0 (gN z) (-1, 0)).1.toInt64) + UInt64.toInt64 (shV z)) + (UInt32.toInt32 (fuV z)).toInt64
def hEnd (t : Nat → Int32) (ln : Nat) (h k : Int64) : Int64 := fo t ln (31 * (31 * h + k) + (nI ln).toInt64)
def dgM (w1 : xWt) : Option (Int64 × xWt) := bd (L_X8_digest_11 9999 3347 0 w1) (fun o5 w6 => ald w6 9 0 8 (fun x7 => ald w6 9 0 9 (fun x8 => bd (L_X8_digest_66 9999 ((31 * ((31 * o5.1) + (Int32.toInt64 x7))) + (Int32.toInt64 x8)) 0 w6) (fun o11 w12 => bd (L_X8_digest_97 9999 o11.1 0 w12) (fun o22 w23 => bd (L_X8_digest_159 9999 o22.1 0 w23) (fun o30 w31 => bd (F_X8_findBestRake w31) (fun x33 w32 => bd (F_X8_lateOnes w32) (fun x35 w34 => bd (F_X8_leavesAt 1 w34) (fun x37 w36 => bd (F_X8_findMostHeld w36) (fun x39 w38 => bd (F_X8_shareOfBurnt w38) (fun x41 w40 => bd (F_Jxe99ae_doubleToLongBits_ccdee x41 w40) (fun x43 w42 => bd (F_X8_fullnessNow w42) (fun x45 w44 => bd (F_Jxf58ca_floatToIntBits_5c35a x45 w44) (fun x47 w46 => (if (w46.2.1 9 2) = 0 then bd (L_X8_digest_303 9999 ((31 * ((31 * ((31 * ((31 * ((31 * ((31 * ((31 * ((31 * o30.1) + (Int32.toInt64 x33))) + (Int32.toInt64 x35))) + (Int32.toInt64 x37))) + (Int32.toInt64 x39))) + x43)) + (Int32.toInt64 x47))) + (Int32.toInt64 0))) + (Int32.toInt64 (w46.2.1 9 3))) 0 w46) (fun o50 w51 => some (o50.1, w51)) else bd (L_X8_digest_303 9999 ((31 * ((31 * ((31 * ((31 * ((31 * ((31 * ((31 * ((31 * o30.1) + (Int32.toInt64 x33))) + (Int32.toInt64 x35))) + (Int32.toInt64 x37))) + (Int32.toInt64 x39))) + x43)) + (Int32.toInt64 x47))) + (Int32.toInt64 1))) + (Int32.toInt64 (w46.2.1 9 3))) 0 w46) (fun o52 w53 => some (o52.1, w53)))))))))))))))))
theorem lw_dgM (W : xWt) : lw W (fun w1 => bd (L_X8_digest_11 9999 3347 0 w1) (fun o5 w6 => ald w6 9 0 8 (fun x7 => ald w6 9 0 9 (fun x8 => bd (L_X8_digest_66 9999 ((31 * ((31 * o5.1) + (Int32.toInt64 x7))) + (Int32.toInt64 x8)) 0 w6) (fun o11 w12 => bd (L_X8_digest_97 9999 o11.1 0 w12) (fun o22 w23 => bd (L_X8_digest_159 9999 o22.1 0 w23) (fun o30 w31 => bd (F_X8_findBestRake w31) (fun x33 w32 => bd (F_X8_lateOnes w32) (fun x35 w34 => bd (F_X8_leavesAt 1 w34) (fun x37 w36 => bd (F_X8_findMostHeld w36) (fun x39 w38 => bd (F_X8_shareOfBurnt w38) (fun x41 w40 => bd (F_Jxe99ae_doubleToLongBits_ccdee x41 w40) (fun x43 w42 => bd (F_X8_fullnessNow w42) (fun x45 w44 => bd (F_Jxf58ca_floatToIntBits_5c35a x45 w44) (fun x47 w46 => (if (w46.2.1 9 2) = 0 then bd (L_X8_digest_303 9999 ((31 * ((31 * ((31 * ((31 * ((31 * ((31 * ((31 * ((31 * o30.1) + (Int32.toInt64 x33))) + (Int32.toInt64 x35))) + (Int32.toInt64 x37))) + (Int32.toInt64 x39))) + x43)) + (Int32.toInt64 x47))) + (Int32.toInt64 0))) + (Int32.toInt64 (w46.2.1 9 3))) 0 w46) (fun o50 w51 => some (o50.1, w51)) else bd (L_X8_digest_303 9999 ((31 * ((31 * ((31 * ((31 * ((31 * ((31 * ((31 * ((31 * o30.1) + (Int32.toInt64 x33))) + (Int32.toInt64 x35))) + (Int32.toInt64 x37))) + (Int32.toInt64 x39))) + x43)) + (Int32.toInt64 x47))) + (Int32.toInt64 1))) + (Int32.toInt64 (w46.2.1 9 3))) 0 w46) (fun o52 w53 => some (o52.1, w53)))))))))))))))))) = dgM W := rfl
section DG2
variable {z : Nat → Int32} {xs : Nat → Int32} {L i B T : Nat} {rec : Int32 → xWt → Option Unit} {w : xWt} {hlf : Nat → List Nat} {ln s : Nat} {t : Nat → Int32}
theorem p_mixedText (hl : w.2.1 8 0 = nI ln) (h60 : ln ≤ 60) (ht : ∀ i, i < ln → w.1 8 0 i = t i) (h : Int64) : F_X7_mixedText h w = some (fo t ln (31 * h + (nI ln).toInt64), w) := by
  have e : ∀ h0, L_X7_mixedText_16 9999 h h0 0 w = some ((fo t ln h0, nI ln), w) := fun h0 => hloop (fun n i h' => L_X7_mixedText_16 n h h' (nI i) w) (fun k h => 31 * h + (t k).toInt64) (fun h' => ((h', nI ln), w)) ln (by omega)
    (fun n i h' hi => by
      show B_X7_mixedText_16 (L_X7_mixedText_16 n) h h' (nI i) w = _
      unfold B_X7_mixedText_16 F_X3_length
      rw [bd_s, hl, if_neg (nI_ge hi (by omega)), p_signAt hl h60 hi, bd_s, p_mixed, bd_s, nI_1, ht i hi])
    (fun n h' => by
      show B_X7_mixedText_16 (L_X7_mixedText_16 n) h h' (nI ln) w = _
      unfold B_X7_mixedText_16 F_X3_length
      rw [bd_s, hl, if_pos (Int32.le_refl _)]) h0
  unfold F_X7_mixedText F_X3_length
  rw [bd_s, hl, p_mixed, bd_s, e, bd_s]
theorem m_text (hT : TXm w t ln) (h60 : ln ≤ 60) (h0 : Int64) : L_X8_digest_303 9999 h0 0 w = some ((fo t ln h0, nI ln), w) :=
  hloop (fun n i h' => L_X8_digest_303 n h' (nI i) w) (fun k h => 31 * h + (t k).toInt64) (fun h' => ((h', nI ln), w)) ln (by omega)
    (fun n i h' hi => by
      show B_X8_digest_303 (L_X8_digest_303 n) h' (nI i) w = _
      unfold B_X8_digest_303
      rw [hT.1, if_neg (nI_ge hi (by omega)), ald_in (k := 9) (r := 3) (show i < 60 by omega), hT.2 i hi, nI_1])
    (fun n h' => by
      show B_X8_digest_303 (L_X8_digest_303 n) h' (nI ln) w = _
      unfold B_X8_digest_303
      rw [hT.1, if_pos (Int32.le_refl _)]) h0
theorem p_digest (hW : WF z B T) (hB : B < 2 ^ 30) (hY : YR 0 z w) (hs : w.2.1 8 2 = nI s) (hk : w.2.1 8 3 = 0 ∨ w.2.1 8 3 = 1) (hl : w.2.1 8 0 = nI ln) (h60 : ln ≤ 60) (ht : ∀ i, i < ln → w.1 8 0 i = t i) (hh : ∀ c, c < 5 → HL z c (hlf c) ∧ (hlf c).length ≤ 120 ∧ gt w 0 11 (nI c) = nI (hlf c).length ∧ ∀ p l, (hlf c)[p]? = some l → w.1 0 12 (120 * c + p) = nI l) : F_X7_digest w = some (hEnd t ln (hTail z (hBody z s hlf)) (w.2.1 8 3).toInt64, w) := by
  have h120 := hW.g120
  have e1 : ∀ h0, L_X7_digest_6 9999 h0 0 w = some ((fo (countV z s) 16 h0, nI 16), w) := fun h0 => hloop (fun n i h' => L_X7_digest_6 n h' (nI i) w) (fun k h => 31 * h + (countV z s k).toInt64) (fun h' => ((h', nI 16), w)) 16 (by decide)
    (fun n i h' hi => by
      show B_X7_digest_6 (L_X7_digest_6 n) h' (nI i) w = _
      unfold B_X7_digest_6
      rw [if_neg (nl15 (by omega)), p_countV hW hY hs hi, bd_s, p_mixed, bd_s, nI_1])
    (fun n h' => by
      show B_X7_digest_6 (L_X7_digest_6 n) h' (nI 16) w = _
      unfold B_X7_digest_6
      rw [if_pos (by decide)]) h0
  have e2 : ∀ h0, L_X7_digest_31 9999 h0 0 w = some ((fo (fun k => z (8 + k)) 2 h0, nI 2), w) := fun h0 => hloop (fun n i h' => L_X7_digest_31 n h' (nI i) w) (fun k h => 31 * h + (z (8 + k)).toInt64) (fun h' => ((h', nI 2), w)) 2 (by decide)
    (fun n i h' hi => by
      show B_X7_digest_31 (L_X7_digest_31 n) h' (nI i) w = _
      have hv : F_X6_valueOf 0 (nI i) w = some (z (8 + i), w) := by
        unfold F_X6_valueOf
        rcases (show i = 0 ∨ i = 1 by omega) with rfl | rfl
        · rw [if_pos (show nI 0 = 0 from rfl), hY.f.2.1]
        · rw [if_neg (by decide), hY.f.2.2.1]
      unfold B_X7_digest_31
      rw [if_neg (lt2 hi), hv, bd_s, p_mixed, bd_s, nI_1])
    (fun n h' => by
      show B_X7_digest_31 (L_X7_digest_31 n) h' (nI 2) w = _
      unfold B_X7_digest_31
      rw [if_pos (by decide)]) h0
  have e3 : ∀ h0, L_X7_digest_58 9999 h0 0 w = some ((fo (fun b => z (10 + b)) 12 h0, nI 12), w) := fun h0 => hloop (fun n i h' => L_X7_digest_58 n h' (nI i) w) (fun b h => 31 * h + (z (10 + b)).toInt64) (fun h' => ((h', nI 12), w)) 12 (by decide)
    (fun n i h' hi => by
      show B_X7_digest_58 (L_X7_digest_58 n) h' (nI i) w = _
      unfold B_X7_digest_58
      rw [if_neg (lt12 hi), R_get, bd_s, g_12 hi, hY.b i hi, p_mixed, bd_s, nI_1])
    (fun n h' => by
      show B_X7_digest_58 (L_X7_digest_58 n) h' (nI 12) w = _
      unfold B_X7_digest_58
      rw [if_pos (by decide)]) h0
  have e8 : w.2.1 0 8 = nI (gN z) := hY.f.2.2.2.2.2.2.2.2.trans hW.g
  have e4 : ∀ h0, L_X7_digest_92 9999 h0 0 w = some ((iter (hLeaf z) 0 (gN z) h0, nI (gN z)), w) := fun h0 => hloop (fun n i h' => L_X7_digest_92 n h' (nI i) w) (hLeaf z) (fun h' => ((h', nI (gN z)), w)) (gN z) (by omega)
    (fun n i h' hi => by
      show B_X7_digest_92 (L_X7_digest_92 n) h' (nI i) w = _
      unfold B_X7_digest_92
      rw [e8, if_neg (nI_ge hi (by omega)), if_neg (lt120 (by omega)), p_mixedLeaf hW hY hi, bd_s, nI_1])
    (fun n h' => by
      show B_X7_digest_92 (L_X7_digest_92 n) h' (nI (gN z)) w = _
      unfold B_X7_digest_92
      rw [e8, if_pos (Int32.le_refl _)]) h0
  have e5 : ∀ h0, L_X7_digest_127 9999 h0 0 w = some ((hKids z hlf h0, nI 5), w) := fun h0 => hloop (fun n i h' => L_X7_digest_127 n h' (nI i) w) (fun c h => if ch z c = true then hChild z c (hlf c) h else h) (fun h' => ((h', nI 5), w)) 5 (by decide)
    (fun n i h' hi => by
      show B_X7_digest_127 (L_X7_digest_127 n) h' (nI i) w = _
      unfold B_X7_digest_127
      rw [if_neg (lt5 hi), p_isHere hY hi, bd_s, nI_1]
      by_cases q : ch z i = true
      · obtain ⟨x1, x2, x3, x4⟩ := hh i hi
        rw [if_pos q, if_neg (by decide), p_mixedChild hW hY hi (by unfold ch at q; exact of_decide_eq_true q) x1 x2 x3 x4, bd_s, if_pos q]
      · rw [if_neg q, if_pos rfl, if_neg q])
    (fun n h' => by
      show B_X7_digest_127 (L_X7_digest_127 n) h' (nI 5) w = _
      unfold B_X7_digest_127
      rw [if_pos (by decide)]) h0
  have hfu := okF_1 (fuV_ok hW)
  unfold F_X7_digest
  rw [e1, bd_s, e2, bd_s, e3, bd_s, e4, bd_s, e5, bd_s, p_bestHeap hW hY, bd_s, p_mixed, bd_s, show w.2.1 0 0 = z 0 from hY.f.1, p_maskOfLate hW hY, bd_s, p_mixed, bd_s, p_burnableIfAllRested hW hB hY, bd_s, p_mixed, bd_s, p_mostPinned hW hY, bd_s, p_mixed, bd_s, p_share hW hY, bd_s, p_bits_share h120, bd_s, p_mixed, bd_s, p_full hW hY, bd_s, nd_some (okD_1 hfu.2.2).1, p_bits_full hW, bd_s, p_mixed, bd_s]
  rcases hk with q | q
  · rw [q, if_pos rfl, p_mixed, bd_s, p_mixedText hl h60 ht, bd_s]
    rfl
  · rw [q, if_neg (by decide), p_mixed, bd_s, p_mixedText hl h60 ht, bd_s]
    rfl
theorem m_digest (hW : WF (zz w) B T) (hT : T < 2 ^ 30) (hs : w.2.1 9 1 = nI s) (hk : w.2.1 9 2 = 0 ∨ w.2.1 9 2 = 1) (hTx : TXm w t ln) (h60 : ln ≤ 60) (hh : ∀ c, c < 5 → HL (zz w) c (hlf c)) : dgM w = some (hEnd t ln (hTail (zz w) (hBody (zz w) s hlf)) (w.2.1 9 2).toInt64, w) := by
  have h120 := hW.g120
  have e1 : ∀ h0, L_X8_digest_11 9999 h0 0 w = some ((fo (countV (zz w) s) 16 h0, nI 16), w) := fun h0 => hloop (fun n i h' => L_X8_digest_11 n h' (nI i) w) (fun k h => 31 * h + (countV (zz w) s k).toInt64) (fun h' => ((h', nI 16), w)) 16 (by decide)
    (fun n i h' hi => by
      show B_X8_digest_11 (L_X8_digest_11 n) h' (nI i) w = _
      unfold B_X8_digest_11
      rw [if_neg (lt16 hi), m_countV hW hs hi, bd_s, nI_1])
    (fun n h' => by
      show B_X8_digest_11 (L_X8_digest_11 n) h' (nI 16) w = _
      unfold B_X8_digest_11
      rw [if_pos (by decide)]) h0
  have e3 : ∀ h0, L_X8_digest_66 9999 h0 0 w = some ((fo (fun b => zz w (10 + b)) 12 h0, nI 12), w) := fun h0 => hloop (fun n i h' => L_X8_digest_66 n h' (nI i) w) (fun b h => 31 * h + (zz w (10 + b)).toInt64) (fun h' => ((h', nI 12), w)) 12 (by decide)
    (fun n i h' hi => by
      show B_X8_digest_66 (L_X8_digest_66 n) h' (nI i) w = _
      unfold B_X8_digest_66
      rw [if_neg (lt12 hi), m_br hi, nI_1])
    (fun n h' => by
      show B_X8_digest_66 (L_X8_digest_66 n) h' (nI 12) w = _
      unfold B_X8_digest_66
      rw [if_pos (by decide)]) h0
  have e4 : ∀ h0, L_X8_digest_97 9999 h0 0 w = some ((iter (hLeaf (zz w)) 0 (gN (zz w)) h0, nI (gN (zz w))), w) := fun h0 => hloop (fun n i h' => L_X8_digest_97 n h' (nI i) w) (hLeaf (zz w)) (fun h' => ((h', nI (gN (zz w))), w)) (gN (zz w)) (by omega)
    (fun n i h' hi => by
      show B_X8_digest_97 (L_X8_digest_97 n) h' (nI i) w = _
      unfold B_X8_digest_97
      rw [m_z1, hW.g, if_neg (nI_ge hi (by omega)), m_mixedLeaf hW hi, bd_s, m_whyNot (by omega), bd_s, nI_1]
      rfl)
    (fun n h' => by
      show B_X8_digest_97 (L_X8_digest_97 n) h' (nI (gN (zz w))) w = _
      unfold B_X8_digest_97
      rw [m_z1, hW.g, if_pos (Int32.le_refl _)]) h0
  have e5 : ∀ h0, L_X8_digest_159 9999 h0 0 w = some ((hKids (zz w) hlf h0, nI 5), w) := fun h0 => hloop (fun n i h' => L_X8_digest_159 n h' (nI i) w) (fun c h => if ch (zz w) c = true then hChild (zz w) c (hlf c) h else h) (fun h' => ((h', nI 5), w)) 5 (by decide)
    (fun n i h' hi => by
      show B_X8_digest_159 (L_X8_digest_159 n) h' (nI i) w = _
      unfold B_X8_digest_159
      rw [if_neg (lt5 hi), m_ofC0 hi, bd_s, nI_1]
      by_cases q : zC (zz w) i 0 = 1
      · rw [if_pos q, m_digestOf hW hT hi (hh i hi), bd_s, if_pos (by unfold ch; exact decide_eq_true q)]
      · rw [if_neg q, if_neg (by unfold ch; rw [decide_eq_false q]; decide)])
    (fun n h' => by
      show B_X8_digest_159 (L_X8_digest_159 n) h' (nI 5) w = _
      unfold B_X8_digest_159
      rw [if_pos (by decide)]) h0
  have hfu := fuV_ok hW
  unfold dgM
  rw [e1, bd_s, m_z8, m_z9, e3, bd_s, e4, bd_s, e5, bd_s, m_findBestRake hW, bd_s, m_lateOnes, bd_s, m_leavesAt hW.g h120, bd_s, m_findMostHeld hW.g h120, bd_s, m_share hW, bd_s, m_d2b (shV_ok h120), bd_s, m_full hW, bd_s, m_f2b hfu, bd_s, hTx.1]
  rcases hk with q | q
  · rw [q, if_pos rfl, m_text hTx h60, bd_s]
    rfl
  · rw [q, if_neg (by decide), m_text hTx h60, bd_s]
    rfl
theorem K38 (hI : INV w B T) (hB : B < 2 ^ 30) (hT : T < 2 ^ 30) : ∃ w', K_law_38 xs L rec (nI i) w = rec (nI i + 4) w' ∧ INV w' (B + 60) (T + 200) := by
  obtain ⟨hW, hY⟩ := hI.1
  obtain ⟨k1, k2⟩ := hI.2.1
  obtain ⟨s, nx, s1, s2, s3, s4, -⟩ := hI.2.2.1
  obtain ⟨ln, d1, d2, d3, d4⟩ := hI.2.2.2.1
  have hk : w.2.1 9 2 = 0 ∨ w.2.1 9 2 = 1 := k2.imp id (fun q => q.1)
  obtain ⟨hlf, hh⟩ : ∃ hlf : Nat → List Nat, ∀ c, c < 5 → HL (zz w) c (hlf c) ∧ (hlf c).length ≤ 120 ∧ gt w 0 11 (nI c) = nI (hlf c).length ∧ ∀ p l, (hlf c)[p]? = some l → w.1 0 12 (120 * c + p) = nI l := ⟨fun c => if h : c < 5 then (p_heap hW hY h).choose else [], fun c hc => by
    dsimp only
    rw [dif_pos hc]
    exact (p_heap hW hY hc).choose_spec⟩
  have e1 := p_digest (t := w.1 8 0) (hlf := hlf) hW hB hY s4 (by rw [k1]; exact hk) d2 d1 (fun _ _ => rfl) hh
  have e2 := m_digest (w := sF w 9 0 0) (t := w.1 8 0) (hlf := hlf) (s := s) (ln := ln) hW hT s3 hk ⟨d3, fun i hi => (d4 i hi).symm⟩ d1 (fun c hc => (hh c hc).1)
  have e3 : F_X8_digest w = some (hEnd (w.1 8 0) ln (hTail (zz w) (hBody (zz w) s hlf)) (w.2.1 8 3).toInt64, sF w 9 0 0) := by
    rw [k1]
    unfold F_X8_digest
    rw [lw_dgM]
    exact e2
  refine ⟨sF w 9 0 0, ?_, (hI.sim (sim.thr _ _)).mono (by omega) (by omega)⟩
  unfold K_law_38
  rw [e1, bd_s, e3, bd_s, cmp_rf]
  exact if_pos rfl
end DG2
