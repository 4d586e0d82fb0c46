theorem kb_30 : (Int8.ofInt 30).toInt32 = 30 := by decide
section XStart
variable {p : Program} {l : Launch} {e : Env} {s : State} {m : MethodId} {below : List Frame} {meth : Method} {c : Code} {sb L b : Nat} {xs : Nat → Int32} {G : xG} {args : Array Value}
theorem st_K (hts : ∀ w ∈ lw_tbl, w.before args s = true) : ∃ G0 : xG, xK G0 s := by
  have hg : ∀ w ∈ gw, w.before args s = true := fun w h => hts w (gw_tbl w h)
  obtain ⟨c0, i0, k0⟩ := u_known (C := RX0) (T := TX0) (N := 7) (n := 7) hg fw0 (hg _ wq33)
  obtain ⟨c1, i1, k1⟩ := u_known (C := RX1) (T := TX1) (N := 3) (n := 3) hg fw1 (hg _ wq37)
  obtain ⟨c2, i2, k2⟩ := u_known (C := RX2) (T := TX2) (N := 7) (n := 7) hg fw2 (hg _ wq29)
  obtain ⟨c3, i3, k3⟩ := u_known (C := RX3) (T := TX3) (N := 2) (n := 2) hg fw3 (hg _ wq20)
  obtain ⟨c4, i4, k4⟩ := u_known (C := RX4) (T := TX4) (N := 1) (n := 1) hg fw4 (hg _ wq45)
  obtain ⟨c5, i5, k5⟩ := u_known (C := RX5) (T := TX5) (N := 3) (n := 3) hg fw5 (hg _ wq16)
  obtain ⟨c6, i6, k6⟩ := u_known (C := RX6) (T := TX6) (N := 11) (n := 11) hg fw6 (hg _ wq11)
  obtain ⟨c7, i7, k7⟩ := u_known (C := RX7) (T := TX7) (N := 5) (n := 5) hg fw7 (hg _ wq1)
  obtain ⟨cI, kI, oI, a1, a2, a3⟩ := Cond.arrayClass_spec (hg _ wq3)
  obtain ⟨oA, cA, kA, d1, d2, d3, d4, d5⟩ := Cond.arrayOver_spec (hts (.arrayOver (.object "PinnedLeaves$Yard")) (by decide +kernel))
  refine ⟨((fun k => if k = 0 then c0 else if k = 1 then c1 else if k = 2 then c2 else if k = 3 then c3 else if k = 4 then c4 else if k = 5 then c5 else if k = 6 then c6 else c7, fun k => if k = 0 then i0 else if k = 1 then i1 else if k = 2 then i2 else if k = 3 then i3 else if k = 4 then i4 else if k = 5 then i5 else if k = 6 then i6 else i7), cI, cI, cA, 0), fun k q hq => ?_, fun k q hq => ?_⟩
  · match k, hq with
    | 0, hq => cases hq; exact k0
    | 1, hq => cases hq; exact k1
    | 2, hq => cases hq; exact k2
    | 3, hq => cases hq; exact k3
    | 4, hq => cases hq; exact k4
    | 5, hq => cases hq; exact k5
    | 6, hq => cases hq; exact k6
    | 7, hq => cases hq; exact k7
    | n + 8, hq => simp [vwCl] at hq
  · match k, hq with
    | 0, hq => cases hq; exact ⟨fun n z => ⟨fun k h => (by cases h), kI, a2, oI, a3⟩, a1⟩
    | 1, hq => cases hq; exact ⟨fun n z => ⟨fun k h => (by cases h), kA, d3, oA, d4⟩, kA, oA, d3, d4, d1, d5⟩
    | n + 2, hq => simp [xT] at hq
theorem st_texts : ∀ q ∈ xTexts, Cond.stringRef RX7 q.1 q.2 ∈ lw_tbl := by decide +kernel
theorem st_cast : ∀ E ∈ xExc, Cond.castable E E ∈ lw_tbl := by decide +kernel
theorem st_decl : ∀ x ∈ xDecl, Cond.declares x ∈ lw_tbl := by decide +kernel
theorem st_pairs : ∀ q ∈ xPairs, Cond.not (.castable q.1 q.2) ∈ flatC (Jvm.Cond.and given_1 narrow_1) := by decide +kernel
theorem st_F (hts : ∀ w ∈ lw_tbl, w.before args s = true) (hgv : (Jvm.Cond.and given_1 narrow_1).before args s = true) : xF s.heap.size s := by
  have hq := flat_of_before _ hgv
  have hA : ∀ a : Nat, a < s.heap.size → ¬ xA s.heap.size a := fun a h1 h2 => Nat.not_lt.mpr h2 h1
  refine ⟨vx_Zqof (hts _ (by decide +kernel)) (hts _ (by decide +kernel)) (hq _ (by decide +kernel)) hA, vx_Zqof (hts _ (by decide +kernel)) (hts _ (by decide +kernel)) (hq _ (by decide +kernel)) hA, fun q hm => ?_, fun E hE => va_Nw.of rfl (hts _ (st_cast E hE)), fun q hm => va_Nc.of (hq _ (st_pairs q hm)), fun x hx => va_Nw.of rfl (hts _ (st_decl x hx))⟩
  obtain ⟨cC, kC, hfc, -, -, -⟩ := Cond.instantiable_spec (hts (.instantiable RX7 5) (by decide +kernel))
  obtain ⟨k, cf, i, a, -, -, -, -, -, h⟩ := Cond.stringRef_spec hfc (hts _ (st_texts q hm))
  exact ⟨a, vk_R.of (hts _ (st_texts q hm)) h⟩
theorem st_N (hts : ∀ w ∈ lw_tbl, w.before args s = true) : xN s := ⟨va_Nw.of rfl (hts _ (by decide +kernel)), va_Nw.of rfl (hts _ (by decide +kernel)), va_Nw.of rfl (hts _ (by decide +kernel)), va_AO.of (hts _ (by decide +kernel))⟩
theorem start_b (C : xC p m c s #[Value.ref sb] meth G b cL_law 13 RL) (hr : meth.sig.returnType = ret) (hlocks : meth.locks = false) (hl : l.stackTraces = false) (hX : xF b s) (hS : xS b sb L xs s) (hpure : F_law xs L w0 = some ()) (hb : s.heap.size ≤ b) : xW p l e room_1 s m #[Value.ref sb] below meth c (lw_Z below #[Value.ref sb] s) b 13 (CW G b w0) 300 10887 42 [(0, .ref sb), (1, .ref b), (2, .ref (ra b 10 0)), (3, .ref (ra b 10 1)), (4, .ref (ra b 10 2)), (5, .ref (ra b 10 3)), (6, .ref (ra b 10 4)), (7, .ref (ra b 10 5))] [] := by
  refine s_law0 C hl hX hS w0 hpure (fun cells slots w' hc hs => ?_)
  intro H locs ls h1 h2 h3
  refine va_forget (fun q hq => Nat.le_trans hb (h2.2.2 q hq)) (W.widen (k := 600130) (n := 7301080) hc hs ?_)
  exact lw_ret (d0 := s.drawn) (Drawn.sameBut.refl s.drawn lw_cs) C.1 C.2.1 hr hlocks dL_law_336
set_option maxRecDepth 8000 in
theorem start_a (C : xC p m c s #[Value.ref sb] meth G b cL_law 13 RL) (hr : meth.sig.returnType = ret) (hlocks : meth.locks = false) (hl : l.stackTraces = false) (hN : xN s) (hX : xF b s) (hS : xS b sb L xs s) (hpure : F_law xs L w0 = some ()) (hb : s.heap.size ≤ b) : xW p l e room_1 s m #[Value.ref sb] below meth c (lw_Z below #[Value.ref sb] s) b 13 (KL G b ([] ++ [])) 0 0 0 [(0, .ref sb)] [] := by
  refine k_new (pc := 0) (pre := []) (n0 := 0) (lit := []) (fs := [.null, .null, .null, .null, .int 0]) C rfl fw7 tyX7 tyX7_ok (ci := 7) rfl wq0 wq1 wq2 (by decide +kernel) 0 rfl ?_ dL_law_0 ?_
  · exact ⟨Nat.le_of_ble_eq_true rfl, Nat.le_of_ble_eq_true rfl⟩
  refine x_dup (pc := 3) C dL_law_3 rfl ?_
  refine x_callIM (pc := 4) (P' := KL G b ([] ++ blkP G b 0)) C hN [] (rest := [.ref (b + (0 + 0))]) (kl_eqN (e1 := [] ++ _) (e2 := [] ++ _) rfl rfl (c_X7_init l G b (pre := []) (n0 := 0) rfl)) wq6 wq2 wq4 wq5 rfl rfl rfl hd_X7_init ⟨Nat.le_of_ble_eq_true rfl, Nat.le_of_ble_eq_true rfl⟩ rfl (Nat.le_of_ble_eq_true rfl) ⟨Nat.le_of_ble_eq_true rfl, Nat.le_of_ble_eq_true rfl⟩ dL_law_4 ?_
  refine x_eq (pc' := 7) (st' := [.ref (b + (0 + 0))]) rfl rfl rfl ?_
  refine x_astore_n (pc := 7) C [(1, .ref (b + (0 + 0))), (0, .ref sb)] dL_law_7 rfl (by decide) rfl ?_
  refine x_eq (pc' := 8) (lv' := [(1, .ref b), (0, .ref sb)]) (st' := []) rfl rfl rfl (x_mono (P' := KL G b (blkP G b 0 ++ [])) (fun H h => by rw [List.append_nil]; exact h) ?_)
  refine x_bipush (pc := 8) C 10 dL_law_8 kb_10 ?_
  refine k_newa (pc := 10) (pre := blkP G b 0) (n0 := 294) (lit := []) C rfl (by decide) (N := 10) rfl (Nat.le_of_ble_eq_true rfl) 0 rfl ?_ dL_law_10 ?_
  · exact ⟨Nat.le_of_ble_eq_true rfl, Nat.le_of_ble_eq_true rfl⟩
  refine x_eq (pc' := 12) (st' := [.ref (ra b 10 0)]) rfl rfl rfl (x_mono (P' := KL G b (blkP G b 0 ++ [.inl (G.2.1, 10, .inl (fun _ => 0))])) (fun H h => h) ?_)
  refine x_astore_n (pc := 12) C [(2, .ref (ra b 10 0)), (1, .ref b), (0, .ref sb)] dL_law_12 rfl (by decide) rfl ?_
  refine x_bipush (pc := 13) C 12 dL_law_13 kb_12 ?_
  refine k_newa (pc := 15) (pre := blkP G b 0) (n0 := 294) (lit := [.inl (G.2.1, 10, .inl (fun _ => 0))]) C rfl (by decide) (N := 12) rfl (Nat.le_of_ble_eq_true rfl) 1 rfl ?_ dL_law_15 ?_
  · exact ⟨Nat.le_of_ble_eq_true rfl, Nat.le_of_ble_eq_true rfl⟩
  refine x_eq (pc' := 17) (st' := [.ref (ra b 10 1)]) rfl rfl rfl (x_mono (P' := KL G b (blkP G b 0 ++ [.inl (G.2.1, 10, .inl (fun _ => 0)), .inl (G.2.1, 12, .inl (fun _ => 0))])) (fun H h => h) ?_)
  refine x_astore_n (pc := 17) C [(3, .ref (ra b 10 1)), (2, .ref (ra b 10 0)), (1, .ref b), (0, .ref sb)] dL_law_17 rfl (by decide) rfl ?_
  refine x_bipush (pc := 18) C 40 dL_law_18 kb_40 ?_
  refine k_newa (pc := 20) (pre := blkP G b 0) (n0 := 294) (lit := [.inl (G.2.1, 10, .inl (fun _ => 0)), .inl (G.2.1, 12, .inl (fun _ => 0))]) C rfl (by decide) (N := 40) rfl (Nat.le_of_ble_eq_true rfl) 2 rfl ?_ dL_law_20 ?_
  · exact ⟨Nat.le_of_ble_eq_true rfl, Nat.le_of_ble_eq_true rfl⟩
  refine x_eq (pc' := 22) (st' := [.ref (ra b 10 2)]) rfl rfl rfl (x_mono (P' := KL G b (blkP G b 0 ++ [.inl (G.2.1, 10, .inl (fun _ => 0)), .inl (G.2.1, 12, .inl (fun _ => 0)), .inl (G.2.1, 40, .inl (fun _ => 0))])) (fun H h => h) ?_)
  refine x_astore (pc := 22) C [(4, .ref (ra b 10 2)), (3, .ref (ra b 10 1)), (2, .ref (ra b 10 0)), (1, .ref b), (0, .ref sb)] dL_law_22 (by decide) rfl ?_
  refine x_bipush (pc := 24) C 40 dL_law_24 kb_40 ?_
  refine k_newa (pc := 26) (pre := blkP G b 0) (n0 := 294) (lit := [.inl (G.2.1, 10, .inl (fun _ => 0)), .inl (G.2.1, 12, .inl (fun _ => 0)), .inl (G.2.1, 40, .inl (fun _ => 0))]) C rfl (by decide) (N := 40) rfl (Nat.le_of_ble_eq_true rfl) 3 rfl ?_ dL_law_26 ?_
  · exact ⟨Nat.le_of_ble_eq_true rfl, Nat.le_of_ble_eq_true rfl⟩
  refine x_eq (pc' := 28) (st' := [.ref (ra b 10 3)]) rfl rfl rfl (x_mono (P' := KL G b (blkP G b 0 ++ [.inl (G.2.1, 10, .inl (fun _ => 0)), .inl (G.2.1, 12, .inl (fun _ => 0)), .inl (G.2.1, 40, .inl (fun _ => 0)), .inl (G.2.1, 40, .inl (fun _ => 0))])) (fun H h => h) ?_)
  refine x_astore (pc := 28) C [(5, .ref (ra b 10 3)), (4, .ref (ra b 10 2)), (3, .ref (ra b 10 1)), (2, .ref (ra b 10 0)), (1, .ref b), (0, .ref sb)] dL_law_28 (by decide) rfl ?_
  refine x_bipush (pc := 30) C 30 dL_law_30 kb_30 ?_
  refine k_newa (pc := 32) (pre := blkP G b 0) (n0 := 294) (lit := [.inl (G.2.1, 10, .inl (fun _ => 0)), .inl (G.2.1, 12, .inl (fun _ => 0)), .inl (G.2.1, 40, .inl (fun _ => 0)), .inl (G.2.1, 40, .inl (fun _ => 0))]) C rfl (by decide) (N := 30) rfl (Nat.le_of_ble_eq_true rfl) 4 rfl ?_ dL_law_32 ?_
  · exact ⟨Nat.le_of_ble_eq_true rfl, Nat.le_of_ble_eq_true rfl⟩
  refine x_eq (pc' := 34) (st' := [.ref (ra b 10 4)]) rfl rfl rfl (x_mono (P' := KL G b (blkP G b 0 ++ [.inl (G.2.1, 10, .inl (fun _ => 0)), .inl (G.2.1, 12, .inl (fun _ => 0)), .inl (G.2.1, 40, .inl (fun _ => 0)), .inl (G.2.1, 40, .inl (fun _ => 0)), .inl (G.2.1, 30, .inl (fun _ => 0))])) (fun H h => h) ?_)
  refine x_astore (pc := 34) C [(6, .ref (ra b 10 4)), (5, .ref (ra b 10 3)), (4, .ref (ra b 10 2)), (3, .ref (ra b 10 1)), (2, .ref (ra b 10 0)), (1, .ref b), (0, .ref sb)] dL_law_34 (by decide) rfl ?_
  refine x_bipush (pc := 36) C 30 dL_law_36 kb_30 ?_
  refine k_newa (pc := 38) (pre := blkP G b 0) (n0 := 294) (lit := [.inl (G.2.1, 10, .inl (fun _ => 0)), .inl (G.2.1, 12, .inl (fun _ => 0)), .inl (G.2.1, 40, .inl (fun _ => 0)), .inl (G.2.1, 40, .inl (fun _ => 0)), .inl (G.2.1, 30, .inl (fun _ => 0))]) C rfl (by decide) (N := 30) rfl (Nat.le_of_ble_eq_true rfl) 5 rfl ?_ dL_law_38 ?_
  · exact ⟨Nat.le_of_ble_eq_true rfl, Nat.le_of_ble_eq_true rfl⟩
  refine x_eq (pc' := 40) (st' := [.ref (ra b 10 5)]) rfl rfl rfl (x_mono (P' := KL G b (blkP G b 0 ++ [.inl (G.2.1, 10, .inl (fun _ => 0)), .inl (G.2.1, 12, .inl (fun _ => 0)), .inl (G.2.1, 40, .inl (fun _ => 0)), .inl (G.2.1, 40, .inl (fun _ => 0)), .inl (G.2.1, 30, .inl (fun _ => 0)), .inl (G.2.1, 30, .inl (fun _ => 0))])) (fun H h => h) ?_)
  refine x_astore (pc := 40) C [(7, .ref (ra b 10 5)), (6, .ref (ra b 10 4)), (5, .ref (ra b 10 3)), (4, .ref (ra b 10 2)), (3, .ref (ra b 10 1)), (2, .ref (ra b 10 0)), (1, .ref b), (0, .ref sb)] dL_law_40 (by decide) rfl ?_
  refine x_mono (P' := CW G b w0) (fun H h => kl_cw h) ?_
  refine x_widen (k := 300) (n := 10887) (Nat.le_of_ble_eq_true rfl) (Nat.le_of_ble_eq_true rfl) ?_
  exact x_sub [7, 6, 5, 4, 3, 2, 1, 0] rfl (start_b C hr hlocks hl hX hS hpure hb)
theorem start_of (l : Launch) (hflags : l.flags = flags0) (C0 : lw_At p s m meth c sb L xs) (hpure : F_law xs L w0 = some ()) : W p l e room_1 s m #[Value.ref sb] below meth c s.heap [] 0 0 (lw_Z below #[Value.ref sb] s) (entryFrame m ([Value.ref sb] : List Value).toArray 13) := by
  obtain ⟨hx, hb, hr, hml, hown, hts, hX, hbl, hlocks, hgv⟩ := id C0
  obtain ⟨G, hK⟩ := st_K hts
  have hlt : l.stackTraces = false := by unfold Launch.stackTraces; rw [hflags]; decide +kernel
  have k := start_a (p := p) (l := l) (e := e) (m := m) (below := below) (G := G) (b := s.heap.size) ⟨hx, hb, hml, hown, fun w h => hts w (gw_tbl w h), hlocks, hK, Nat.le_refl _⟩ hr hlocks hlt (st_N hts) (st_F hts hgv) ⟨hX, hbl, fun h => Nat.not_lt.mpr h hbl⟩ hpure (Nat.le_refl _)
  have hl := lv_entry ([.ref sb]) (n := 13) (Nat.le_of_ble_eq_true rfl)
  rw [lg_entry_eq]
  exact k s.heap [] _ ⟨rfl, fun i e h => by simp at h⟩ va_S.rf hl
end XStart
