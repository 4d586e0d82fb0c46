
section XInit2
variable {p : Program} {l : Launch} {e : Env} {R : Room} {s : State} {m : MethodId} {args : Array Value} {below : List Frame} {meth : Method} {c : Code} {Q : State → Prop} {b nL : Nat} {P P' : Heap → Prop} {cells slots pc : Nat} {lv lv' : List (Nat × Value)} {st : List Value} {G : xG} {cc : ByteArray} {own : String} {pre lit lit' : List va_E} {n0 : Nat}
theorem kl_eqN {y : MethodName} {ret : Option FieldType} {rm : Room} {as : List Value} {v : Option Value} {mc ms : Nat} {e1 e2 e1' e2' : List va_E} (h1 : e1 = e1') (h2 : e2 = e2') (hM : xMetN l G b y cc nL ret rm as (KL G b e1) v (KL G b e2) mc ms) : xMetN l G b y cc nL ret rm as (KL G b e1') v (KL G b e2') mc ms := by
  subst h1; subst h2; exact hM
theorem k_newq (C : xC p m c s args meth G b cc nL own) (hZ : xN s) (hn : pre.length = n0) {index : Nat} (hcl : Cond.classLink own index "PinnedLeaves$Yard" ∈ gw) {n : Int32} {N : Nat} (h0 : ¬ n < 0) (hN : n.toNatClampNeg = N) (hb : N * 4 ≤ 536870912) (j : Nat) (hj : lit.length = j) (hR : cells + 1 ≤ R.cells ∧ slots + N ≤ R.slots) (d : decode cc pc = .ok (.anewarray index, 3))
    (k : xW p l e R s m args below meth c Q b nL (KL G b (pre ++ (lit ++ [.inl (G.2.2.2.1, N, .inr (.inr (.inr (.inr (fun _ => none)))))]))) (cells + 1) (slots + N) (pc + 3) lv (.ref (b + (n0 + j)) :: st)) : xW p l e R s m args below meth c Q b nL (KL G b (pre ++ lit)) cells slots pc lv (.int n :: st) := by
  intro H locs ls h1 h2 h3
  have hts := C.2.2.2.2.1
  have hK : va_K G.1 vwCl (xT G) s := C.2.2.2.2.2.2.1
  have hz : H.size = b + (n0 + j) := by rw [h1.1]; simp [hn, hj]
  have hx := hts _ hcl
  subst hN
  refine W.anew C.1 C.2.1 C.2.2.2.1 hx (va_AO.use hZ.2.2.2) rfl d rfl h0 hb hR.1 hR.2 fun cA kA comp f1 f2 f3 f4 => ?_
  obtain ⟨kA', comp', -, -, -, q4⟩ := (hK.2 1 _ rfl).2
  have hcA : cA = G.2.2.2.1 := Option.some.inj (f1.symm.trans q4)
  subst hcA
  generalize hH1 : H.push ({ cls := G.2.2.2.1, slots := Array.replicate n.toNatClampNeg .null, vm := .none } : Cell) = H1
  have z1 : H1.size = H.size + 1 := by rw [← hH1, Array.size_push]
  have e1 : H1[H.size]? = some (arrV G.2.2.2.1 n.toNatClampNeg (fun _ => .null)) := by rw [← hH1, Array.getElem?_push_size, ← arrV_new]
  have o1 : ∀ q : Nat, q < H.size → H1[q]? = H[q]? := fun q hq => by rw [← hH1, Array.getElem?_push, if_neg (Nat.ne_of_lt hq)]
  have h21 := h2.1
  refine W.eq (g2 := F0 m (pc + 3) ls (.ref (b + (n0 + j)) :: st)) (congrArg (fun z => F0 m (pc + 3) ls (Value.ref z :: st)) hz) (k H1 locs ls ?_ ⟨Nat.le_trans h2.1 (by omega), fun x g1 g2 => (o1 x (by omega)).trans (h2.2.1 x g1 g2), h2.2.2⟩ h3)
  rw [← List.append_assoc]
  refine h1.push z1 (fun q hq => o1 q (by omega)) ?_
  have e2 : b + (pre ++ lit).length = H.size := by rw [hz]; simp [hn, hj]
  rw [e2]
  show H1[H.size]? = some (vp_cell _ _)
  rw [vp_cell_q]
  exact e1
theorem k_astq (C : xC p m c s args meth G b cc nL own) (hn : pre.length = n0) {n : Nat} {vs : List Value} {f : Nat → Option Nat} {i : Int32} (j jv : Nat) (hj : lit[j]? = some (.inl (G.2.2.2.1, n, .inr (.inr (.inr (.inr f)))))) (hv : lit[jv]? = some (.inr (6, vs))) (hin : vp_in i n) (hs : lit.set j (.inl (G.2.2.2.1, n, .inr (.inr (.inr (.inr (va_up f i.toNatClampNeg (some (b + (n0 + jv))))))))) = lit') (d : decode cc pc = .ok (.aastore, 1)) (k : xW p l e R s m args below meth c Q b nL (KL G b (pre ++ lit')) cells slots (pc + 1) lv st) : xW p l e R s m args below meth c Q b nL (KL G b (pre ++ lit)) cells slots pc lv (.ref (b + (n0 + jv)) :: .int i :: .ref (b + (n0 + j)) :: st) := by
  intro H locs ls h1 h2 h3
  have hK : va_K G.1 vwCl (xT G) s := C.2.2.2.2.2.2.1
  have hlt : i.toNatClampNeg < n := Nat.not_le.mp fun q => hin (Or.inr q)
  have h0 : ¬ i < 0 := fun q => hin (Or.inl q)
  have ha := h1.at hn j hj
  obtain ⟨r', hr', cellV, g1, g2, g3, -⟩ := h1.at hn jv hv
  have hcls := (hK.1 6 _ rfl).2
  obtain ⟨kA, comp, k1, k2, k3, -⟩ := (hK.2 1 _ rfl).2
  have hcomp : comp = G.1.1 6 := Option.some.inj (k3.symm.trans hcls.1)
  subst hcomp
  obtain ⟨kC, hkC, -⟩ := hcls.2
  refine W.aast C.1 C.2.1 ha (fun q h => by cases h) (fun h => by cases h) k1 k2 rfl hkC ⟨h0, by show _ < (arrV _ _ _).slots.size; rw [arrV_size]; exact hlt⟩ g1 (fun q h => by rw [g3] at h; cases h) (by rw [g2]; exact hkC) (by rw [g2]; exact va_assign hcls) rfl rfl d fun H1 e z oq => ?_
  refine W.eq (g2 := F0 m (pc + 1) ls st) rfl (k H1 _ ls ?_ (h2.put z oq (by show b ≤ _; omega)) h3)
  rw [← kl_set hn j hs]
  refine h1.set (kl_get hn j hj) z oq ?_
  show H1[_]? = some (vp_cell _ _)
  rw [e]
  rw [vp_cell_q, vp_cell_q, arrV_store]
  congr 2
  funext q
  by_cases hq : q = i.toNatClampNeg
  · subst hq
    simp [updV, va_up, va_rf]
  · simp [updV, va_up, hq]
theorem k_alen (C : xC p m c s args meth G b cc nL own) (hn : pre.length = n0) {x : vp_A} (j : Nat) (hj : lit[j]? = some (.inl (G.2.2.2.1, x))) {v : Int32} (hv : Int32.ofNat x.1 = v) (d : decode cc pc = .ok (.arraylength, 1)) (k : xW p l e R s m args below meth c Q b nL (KL G b (pre ++ lit)) cells slots (pc + 1) lv (.int v :: st)) : xW p l e R s m args below meth c Q b nL (KL G b (pre ++ lit)) cells slots pc lv (.ref (b + (n0 + j)) :: st) :=
  x_alen C 1 rfl (fun H h => h.at hn j hj) hv d k
theorem x_callIN (C : xC p m c s args meth G b cc nL own) {y : MethodName} {bytes : ByteArray} {maxL index a0 : Nat} {rm : Room} {mc ms : Nat} {host : String} (As : List Value) {rest : List Value} {v : Option Value}
    (hM : xMet l G b y bytes maxL none rm (.ref a0 :: As) P v P' mc ms) (hcode : Cond.code y bytes maxL none ∈ gw) (hini : Cond.initialized y.cls ∈ gw) (hl : va_Nw (.methodLinkNest own index y host) s) (hinst : Cond.instanceMethod y ∈ gw) (hnm : y.name = "<init>") (hrc : rm.cells = mc) (hrs : rm.slots = ms)
    (hd : y.cls ≠ "java/lang/invoke/MethodHandle" ∧ y.cls ≠ "java/lang/invoke/VarHandle" ∧ (parseMethodDescriptor y.desc).map (fun d => d.parameters.length) = some As.length) (hR : rm.frames + 1 ≤ R.frames ∧ 8 + (maxL + 11) + rm.locals ≤ R.locals)
    (hst : st = As.reverse ++ .ref a0 :: rest) (hcat : (rest.map fun v => v.category).sum ≤ 8) (hf : cells + mc ≤ R.cells ∧ slots + ms ≤ R.slots) (d : decode cc pc = .ok (.invokespecial index, 3)) (k : xW p l e R s m args below meth c Q b nL P' (cells + mc) (slots + ms) (pc + 3) lv (v.toList ++ rest)) : xW p l e R s m args below meth c Q b nL P cells slots (pc) lv (st) := by
  intro H locs ls h1 h2 h3
  subst hst
  have hK : va_K G.1 vwCl (xT G) s := C.2.2.2.2.2.2.1
  refine x_back H locs ls h2 h3 (va_runIN (rm := rm) (As := As) (rest := rest) ⟨C.1, C.2.1, C.2.2.1, C.2.2.2.1, C.2.2.2.2.1⟩ hM ⟨va_cnB As.length C.2.2.2.2.1 (fun w h => (List.mem_cons.mp h).elim (fun e => by rw [e]; exact gw_good _ hcode) (fun h => gw_good w h)) rfl hrc hrs hl (C.2.2.2.2.1 _ hini) hd hR, hnm, C.2.2.2.2.1 _ hinst⟩ ⟨xPc.blind, fun U hU hW => ⟨rfl, by rw [hU]; exact h1, hK.moved hW.alike, by rw [hU]; exact Nat.le_trans C.2.2.2.2.2.2.2 h2.1⟩⟩ rfl rfl h3.1 rfl (lv_room hcat) d hf) k
/-- a method that stands on the nest's links is called by its own link -/
theorem x_callIM (C : xC p m c s args meth G b cc nL own) (hZ : xN s) {y : MethodName} {bytes : ByteArray} {maxL index a0 : Nat} {rm : Room} {mc ms : Nat} (As : List Value) {rest : List Value} {v : Option Value}
    (hM : xMetN l G b y bytes maxL none rm (.ref a0 :: As) P v P' mc ms) (hcode : Cond.code y bytes maxL none ∈ gw) (hini : Cond.initialized y.cls ∈ gw) (hl : Cond.methodLink own index y ∈ gw) (hinst : Cond.instanceMethod y ∈ gw) (hnm : y.name = "<init>") (hrc : rm.cells = mc) (hrs : rm.slots = ms)
    (hd : y.cls ≠ "java/lang/invoke/MethodHandle" ∧ y.cls ≠ "java/lang/invoke/VarHandle" ∧ (parseMethodDescriptor y.desc).map (fun d => d.parameters.length) = some As.length) (hR : rm.frames + 1 ≤ R.frames ∧ 8 + (maxL + 11) + rm.locals ≤ R.locals)
    (hst : st = As.reverse ++ .ref a0 :: rest) (hcat : (rest.map fun v => v.category).sum ≤ 8) (hf : cells + mc ≤ R.cells ∧ slots + ms ≤ R.slots) (d : decode cc pc = .ok (.invokespecial index, 3)) (k : xW p l e R s m args below meth c Q b nL P' (cells + mc) (slots + ms) (pc + 3) lv (v.toList ++ rest)) : xW p l e R s m args below meth c Q b nL P cells slots (pc) lv (st) := by
  intro H locs ls h1 h2 h3
  subst hst
  have hK : va_K G.1 vwCl (xT G) s := C.2.2.2.2.2.2.1
  refine x_back H locs ls h2 h3 (va_runI (rm := rm) (As := As) (rest := rest) ⟨C.1, C.2.1, C.2.2.1, C.2.2.2.1, C.2.2.2.2.1⟩ hM ⟨x_callB C hcode hini hl hrc hrs hd hR, hnm, C.2.2.2.2.1 _ hinst⟩ ⟨xPcN.blind, fun U hU hW => ⟨rfl, by rw [hU]; exact h1, hK.moved hW.alike, by rw [hU]; exact Nat.le_trans C.2.2.2.2.2.2.2 h2.1, hZ.next hW⟩⟩ rfl rfl h3.1 rfl (lv_room hcat) d hf) k
end XInit2
abbrev blkS (G : xG) (b a : Nat) : List va_E := ([.inr (5, [.ref (b + (a + 1)), .int 0, .int 0]), .inl (G.2.2.2.1, 6, .inr (.inr (.inr (.inr (va_up (va_up (va_up (va_up (va_up (va_up (fun _ => none) 0 (some (b + (a + 2)))) 1 (some (b + (a + 38)))) 2 (some (b + (a + 74)))) 3 (some (b + (a + 110)))) 4 (some (b + (a + 146)))) 5 (some (b + (a + 182))))))))] ++ (blkY G b (a + 2) ++ (blkY G b (a + 38) ++ (blkY G b (a + 74) ++ (blkY G b (a + 110) ++ (blkY G b (a + 146) ++ (blkY G b (a + 182))))))) : List va_E)
set_option maxRecDepth 8000 in
set_option maxHeartbeats 8000000 in
theorem c_X5_init (l : Launch) (G : xG) (b : Nat) {pre : List va_E} {n0 : Nat} (hn : pre.length = n0) : xMetN l G b yX5_init cX5_init 2 none { frames := 4, cells := 217, slots := 7992, locals := 144 } [.ref (b + (n0 + 0))] (KL G b (pre ++ [.inr (5, [.null, .int 0, .int 0])])) none (KL G b (pre ++ blkS G b n0)) 217 7992 := by
  refine x_ofN (own := RX5) rfl (plainFor_of_name pn_X5) (Nat.le_of_ble_eq_true rfl) ?_
  intro p e s m args below meth c ha C hr hin hZ
  refine x_aload_n (pc := 0) C 0 dX5_init_0 rfl rfl ?_
  refine x_objInit (pc := 1) C wq93 ⟨Nat.le_of_ble_eq_true rfl, Nat.le_of_ble_eq_true rfl⟩ dX5_init_1 ?_
  refine x_aload_n (pc := 4) C 0 dX5_init_4 rfl rfl ?_
  refine x_bipush (pc := 5) C 6 dX5_init_5 kb_6 ?_
  refine k_newq (pc := 7) (lit := ([.inr (5, [.null, .int 0, .int 0])] : List va_E)) C hZ hn wq94 (by decide) (N := 6) rfl (Nat.le_of_ble_eq_true rfl) 1 rfl ?_ dX5_init_7 ?_
  · exact ⟨Nat.le_of_ble_eq_true rfl, Nat.le_of_ble_eq_true rfl⟩
  refine x_mono (P' := KL G b (pre ++ ([.inr (5, [.null, .int 0, .int 0]), .inl (G.2.2.2.1, 6, .inr (.inr (.inr (.inr (fun _ => none)))))] : List va_E))) (fun H h => h) ?_
  refine k_putF (pc := 10) (lit := ([.inr (5, [.null, .int 0, .int 0]), .inl (G.2.2.2.1, 6, .inr (.inr (.inr (.inr (fun _ => none)))))] : List va_E)) (lit' := ([.inr (5, [.ref (b + (n0 + 1)), .int 0, .int 0]), .inl (G.2.2.2.1, 6, .inr (.inr (.inr (.inr (fun _ => none)))))] : List va_E)) C hin hn fw5 tyX5 tyX5_ok nmX5 (ci := 5) rfl 0 (by decide) wq95 rfl rfl rfl rfl (Nat.le_of_ble_eq_true rfl) 0 rfl rfl dX5_init_10 ?_
  refine x_iconst (pc := 13) C 0 dX5_init_13 ki_0 ?_
  refine x_istore_n (pc := 14) C [(1, .int (0)), (0, .ref (b + (n0 + 0)))] dX5_init_14 rfl (by decide) rfl ?_
  refine x_iload_n (pc := 15) C 0 dX5_init_15 rfl rfl ?_
  refine x_aload_n (pc := 16) C 1 dX5_init_16 rfl rfl ?_
  refine k_get (pc := 17) (lit := ([.inr (5, [.ref (b + (n0 + 1)), .int 0, .int 0]), .inl (G.2.2.2.1, 6, .inr (.inr (.inr (.inr (fun _ => none)))))] : List va_E)) C hn fw5 (ci := 5) rfl 0 (by decide) wq95 (v := .ref (b + (n0 + 1))) rfl 0 rfl dX5_init_17 ?_
  refine k_alen (pc := 20) (lit := ([.inr (5, [.ref (b + (n0 + 1)), .int 0, .int 0]), .inl (G.2.2.2.1, 6, .inr (.inr (.inr (.inr (fun _ => none)))))] : List va_E)) C hn 1 rfl (v := 6) rfl dX5_init_20 ?_
  refine x_icmp_ge (pc := 21) C 43 dX5_init_21 rfl (cst_f (c9 := (6 : Int32) ≤ 0) (A := some ()) (by decide) rfl) (fun c9 _ => absurd c9 (by decide)) (fun _ _ => ?_)
  refine x_aload_n (pc := 24) C 1 dX5_init_24 rfl rfl ?_
  refine k_get (pc := 25) (lit := ([.inr (5, [.ref (b + (n0 + 1)), .int 0, .int 0]), .inl (G.2.2.2.1, 6, .inr (.inr (.inr (.inr (fun _ => none)))))] : List va_E)) C hn fw5 (ci := 5) rfl 0 (by decide) wq95 (v := .ref (b + (n0 + 1))) rfl 0 rfl dX5_init_25 ?_
  refine x_iload_n (pc := 28) C 0 dX5_init_28 rfl rfl ?_
  refine k_new (pc := 29) (lit := ([.inr (5, [.ref (b + (n0 + 1)), .int 0, .int 0]), .inl (G.2.2.2.1, 6, .inr (.inr (.inr (.inr (fun _ => none)))))] : List va_E)) (fs := [.int 0, .int 0, .int 0, .int 0, .int 0, .int 0, .int 0, .int 0, .null, .null, .null]) C hn fw6 tyX6 tyX6_ok (ci := 6) rfl wq94 wq11 wq12 (by decide +kernel) 2 rfl ?_ dX5_init_29 ?_
  · exact ⟨Nat.le_of_ble_eq_true rfl, Nat.le_of_ble_eq_true rfl⟩
  refine x_mono (P' := KL G b (pre ++ ([.inr (5, [.ref (b + (n0 + 1)), .int 0, .int 0]), .inl (G.2.2.2.1, 6, .inr (.inr (.inr (.inr (fun _ => none))))), .inr (6, [.int 0, .int 0, .int 0, .int 0, .int 0, .int 0, .int 0, .int 0, .null, .null, .null])] : List va_E))) (fun H h => h) ?_
  refine x_dup (pc := 32) C dX5_init_32 rfl ?_
  refine x_callIN (pc := 33) (P' := KL G b (pre ++ ([.inr (5, [.ref (b + (n0 + 1)), .int 0, .int 0]), .inl (G.2.2.2.1, 6, .inr (.inr (.inr (.inr (fun _ => none)))))] ++ (blkY G b (n0 + 2)) : List va_E))) C [] (rest := [.ref (b + (n0 + 2)), .int (0), .ref (b + (n0 + 1))]) (kl_eq (e1 := (pre ++ ([.inr (5, [.ref (b + (n0 + 1)), .int 0, .int 0]), .inl (G.2.2.2.1, 6, .inr (.inr (.inr (.inr (fun _ => none)))))] : List va_E)) ++ _) (e2 := (pre ++ ([.inr (5, [.ref (b + (n0 + 1)), .int 0, .int 0]), .inl (G.2.2.2.1, 6, .inr (.inr (.inr (.inr (fun _ => none)))))] : List va_E)) ++ _) (by rw [List.append_assoc] <;> rfl) (by rw [List.append_assoc] <;> rfl) (c_X6_init l G b (pre := pre ++ ([.inr (5, [.ref (b + (n0 + 1)), .int 0, .int 0]), .inl (G.2.2.2.1, 6, .inr (.inr (.inr (.inr (fun _ => none)))))] : List va_E)) (n0 := n0 + 2) (by rw [List.length_append, hn] <;> rfl))) wq24 wq12 hZ.2.1 wq23 rfl rfl rfl hd_X6_init ⟨Nat.le_of_ble_eq_true rfl, Nat.le_of_ble_eq_true rfl⟩ rfl (Nat.le_of_ble_eq_true rfl) ⟨Nat.le_of_ble_eq_true rfl, Nat.le_of_ble_eq_true rfl⟩ dX5_init_33 ?_
  refine x_eq (pc' := 36) (st' := [.ref (b + (n0 + 2)), .int (0), .ref (b + (n0 + 1))]) rfl rfl rfl ?_
  refine k_astq (pc := 36) (lit := ([.inr (5, [.ref (b + (n0 + 1)), .int 0, .int 0]), .inl (G.2.2.2.1, 6, .inr (.inr (.inr (.inr (fun _ => none)))))] ++ (blkY G b (n0 + 2)) : List va_E)) (lit' := ([.inr (5, [.ref (b + (n0 + 1)), .int 0, .int 0]), .inl (G.2.2.2.1, 6, .inr (.inr (.inr (.inr (va_up (fun _ => none) 0 (some (b + (n0 + 2))))))))] ++ (blkY G b (n0 + 2)) : List va_E)) C hn (i := 0) 1 2 rfl rfl (show ¬ ((0 : Int32) < 0 ∨ 6 ≤ (0 : Int32).toNatClampNeg) by decide) rfl dX5_init_36 ?_
  refine x_iinc (pc := 37) C 0 [(1, .int (1)), (0, .ref (b + (n0 + 0)))] dX5_init_37 rfl (by decide) (by decide) rfl ?_
  refine x_goto (pc := 40) C 15 dX5_init_40 rfl ?_
  refine x_iload_n (pc := 15) C 0 dX5_init_15 rfl rfl ?_
  refine x_aload_n (pc := 16) C 1 dX5_init_16 rfl rfl ?_
  refine k_get (pc := 17) (lit := ([.inr (5, [.ref (b + (n0 + 1)), .int 0, .int 0]), .inl (G.2.2.2.1, 6, .inr (.inr (.inr (.inr (va_up (fun _ => none) 0 (some (b + (n0 + 2))))))))] ++ (blkY G b (n0 + 2)) : List va_E)) C hn fw5 (ci := 5) rfl 0 (by decide) wq95 (v := .ref (b + (n0 + 1))) rfl 0 rfl dX5_init_17 ?_
  refine k_alen (pc := 20) (lit := ([.inr (5, [.ref (b + (n0 + 1)), .int 0, .int 0]), .inl (G.2.2.2.1, 6, .inr (.inr (.inr (.inr (va_up (fun _ => none) 0 (some (b + (n0 + 2))))))))] ++ (blkY G b (n0 + 2)) : List va_E)) C hn 1 rfl (v := 6) rfl dX5_init_20 ?_
  refine x_icmp_ge (pc := 21) C 43 dX5_init_21 rfl (cst_f (c9 := (6 : Int32) ≤ 1) (A := some ()) (by decide) rfl) (fun c9 _ => absurd c9 (by decide)) (fun _ _ => ?_)
  refine x_aload_n (pc := 24) C 1 dX5_init_24 rfl rfl ?_
  refine k_get (pc := 25) (lit := ([.inr (5, [.ref (b + (n0 + 1)), .int 0, .int 0]), .inl (G.2.2.2.1, 6, .inr (.inr (.inr (.inr (va_up (fun _ => none) 0 (some (b + (n0 + 2))))))))] ++ (blkY G b (n0 + 2)) : List va_E)) C hn fw5 (ci := 5) rfl 0 (by decide) wq95 (v := .ref (b + (n0 + 1))) rfl 0 rfl dX5_init_25 ?_
  refine x_iload_n (pc := 28) C 0 dX5_init_28 rfl rfl ?_
  refine k_new (pc := 29) (lit := ([.inr (5, [.ref (b + (n0 + 1)), .int 0, .int 0]), .inl (G.2.2.2.1, 6, .inr (.inr (.inr (.inr (va_up (fun _ => none) 0 (some (b + (n0 + 2))))))))] ++ (blkY G b (n0 + 2)) : List va_E)) (fs := [.int 0, .int 0, .int 0, .int 0, .int 0, .int 0, .int 0, .int 0, .null, .null, .null]) C hn fw6 tyX6 tyX6_ok (ci := 6) rfl wq94 wq11 wq12 (by decide +kernel) 38 rfl ?_ dX5_init_29 ?_
  · exact ⟨Nat.le_of_ble_eq_true rfl, Nat.le_of_ble_eq_true rfl⟩
  refine x_mono (P' := KL G b (pre ++ ([.inr (5, [.ref (b + (n0 + 1)), .int 0, .int 0]), .inl (G.2.2.2.1, 6, .inr (.inr (.inr (.inr (va_up (fun _ => none) 0 (some (b + (n0 + 2))))))))] ++ (blkY G b (n0 + 2) ++ ([.inr (6, [.int 0, .int 0, .int 0, .int 0, .int 0, .int 0, .int 0, .int 0, .null, .null, .null])])) : List va_E))) (fun H h => h) ?_
  refine x_dup (pc := 32) C dX5_init_32 rfl ?_
  refine x_callIN (pc := 33) (P' := KL G b (pre ++ ([.inr (5, [.ref (b + (n0 + 1)), .int 0, .int 0]), .inl (G.2.2.2.1, 6, .inr (.inr (.inr (.inr (va_up (fun _ => none) 0 (some (b + (n0 + 2))))))))] ++ (blkY G b (n0 + 2) ++ (blkY G b (n0 + 38))) : List va_E))) C [] (rest := [.ref (b + (n0 + 38)), .int (1), .ref (b + (n0 + 1))]) (kl_eq (e1 := (pre ++ ([.inr (5, [.ref (b + (n0 + 1)), .int 0, .int 0]), .inl (G.2.2.2.1, 6, .inr (.inr (.inr (.inr (va_up (fun _ => none) 0 (some (b + (n0 + 2))))))))] ++ (blkY G b (n0 + 2)) : List va_E)) ++ _) (e2 := (pre ++ ([.inr (5, [.ref (b + (n0 + 1)), .int 0, .int 0]), .inl (G.2.2.2.1, 6, .inr (.inr (.inr (.inr (va_up (fun _ => none) 0 (some (b + (n0 + 2))))))))] ++ (blkY G b (n0 + 2)) : List va_E)) ++ _) (by rw [List.append_assoc] <;> rfl) (by rw [List.append_assoc] <;> rfl) (c_X6_init l G b (pre := pre ++ ([.inr (5, [.ref (b + (n0 + 1)), .int 0, .int 0]), .inl (G.2.2.2.1, 6, .inr (.inr (.inr (.inr (va_up (fun _ => none) 0 (some (b + (n0 + 2))))))))] ++ (blkY G b (n0 + 2)) : List va_E)) (n0 := n0 + 38) (by rw [List.length_append, hn] <;> rfl))) wq24 wq12 hZ.2.1 wq23 rfl rfl rfl hd_X6_init ⟨Nat.le_of_ble_eq_true rfl, Nat.le_of_ble_eq_true rfl⟩ rfl (Nat.le_of_ble_eq_true rfl) ⟨Nat.le_of_ble_eq_true rfl, Nat.le_of_ble_eq_true rfl⟩ dX5_init_33 ?_
  refine x_eq (pc' := 36) (st' := [.ref (b + (n0 + 38)), .int (1), .ref (b + (n0 + 1))]) rfl rfl rfl ?_
  refine k_astq (pc := 36) (lit := ([.inr (5, [.ref (b + (n0 + 1)), .int 0, .int 0]), .inl (G.2.2.2.1, 6, .inr (.inr (.inr (.inr (va_up (fun _ => none) 0 (some (b + (n0 + 2))))))))] ++ (blkY G b (n0 + 2) ++ (blkY G b (n0 + 38))) : List va_E)) (lit' := ([.inr (5, [.ref (b + (n0 + 1)), .int 0, .int 0]), .inl (G.2.2.2.1, 6, .inr (.inr (.inr (.inr (va_up (va_up (fun _ => none) 0 (some (b + (n0 + 2)))) 1 (some (b + (n0 + 38))))))))] ++ (blkY G b (n0 + 2) ++ (blkY G b (n0 + 38))) : List va_E)) C hn (i := 1) 1 38 rfl rfl (show ¬ ((1 : Int32) < 0 ∨ 6 ≤ (1 : Int32).toNatClampNeg) by decide) rfl dX5_init_36 ?_
  refine x_iinc (pc := 37) C 0 [(1, .int (2)), (0, .ref (b + (n0 + 0)))] dX5_init_37 rfl (by decide) (by decide) rfl ?_
  refine x_goto (pc := 40) C 15 dX5_init_40 rfl ?_
  refine x_iload_n (pc := 15) C 0 dX5_init_15 rfl rfl ?_
  refine x_aload_n (pc := 16) C 1 dX5_init_16 rfl rfl ?_
  refine k_get (pc := 17) (lit := ([.inr (5, [.ref (b + (n0 + 1)), .int 0, .int 0]), .inl (G.2.2.2.1, 6, .inr (.inr (.inr (.inr (va_up (va_up (fun _ => none) 0 (some (b + (n0 + 2)))) 1 (some (b + (n0 + 38))))))))] ++ (blkY G b (n0 + 2) ++ (blkY G b (n0 + 38))) : List va_E)) C hn fw5 (ci := 5) rfl 0 (by decide) wq95 (v := .ref (b + (n0 + 1))) rfl 0 rfl dX5_init_17 ?_
  refine k_alen (pc := 20) (lit := ([.inr (5, [.ref (b + (n0 + 1)), .int 0, .int 0]), .inl (G.2.2.2.1, 6, .inr (.inr (.inr (.inr (va_up (va_up (fun _ => none) 0 (some (b + (n0 + 2)))) 1 (some (b + (n0 + 38))))))))] ++ (blkY G b (n0 + 2) ++ (blkY G b (n0 + 38))) : List va_E)) C hn 1 rfl (v := 6) rfl dX5_init_20 ?_
  refine x_icmp_ge (pc := 21) C 43 dX5_init_21 rfl (cst_f (c9 := (6 : Int32) ≤ 2) (A := some ()) (by decide) rfl) (fun c9 _ => absurd c9 (by decide)) (fun _ _ => ?_)
  refine x_aload_n (pc := 24) C 1 dX5_init_24 rfl rfl ?_
  refine k_get (pc := 25) (lit := ([.inr (5, [.ref (b + (n0 + 1)), .int 0, .int 0]), .inl (G.2.2.2.1, 6, .inr (.inr (.inr (.inr (va_up (va_up (fun _ => none) 0 (some (b + (n0 + 2)))) 1 (some (b + (n0 + 38))))))))] ++ (blkY G b (n0 + 2) ++ (blkY G b (n0 + 38))) : List va_E)) C hn fw5 (ci := 5) rfl 0 (by decide) wq95 (v := .ref (b + (n0 + 1))) rfl 0 rfl dX5_init_25 ?_
  refine x_iload_n (pc := 28) C 0 dX5_init_28 rfl rfl ?_
  refine k_new (pc := 29) (lit := ([.inr (5, [.ref (b + (n0 + 1)), .int 0, .int 0]), .inl (G.2.2.2.1, 6, .inr (.inr (.inr (.inr (va_up (va_up (fun _ => none) 0 (some (b + (n0 + 2)))) 1 (some (b + (n0 + 38))))))))] ++ (blkY G b (n0 + 2) ++ (blkY G b (n0 + 38))) : List va_E)) (fs := [.int 0, .int 0, .int 0, .int 0, .int 0, .int 0, .int 0, .int 0, .null, .null, .null]) C hn fw6 tyX6 tyX6_ok (ci := 6) rfl wq94 wq11 wq12 (by decide +kernel) 74 rfl ?_ dX5_init_29 ?_
  · exact ⟨Nat.le_of_ble_eq_true rfl, Nat.le_of_ble_eq_true rfl⟩
  refine x_mono (P' := KL G b (pre ++ ([.inr (5, [.ref (b + (n0 + 1)), .int 0, .int 0]), .inl (G.2.2.2.1, 6, .inr (.inr (.inr (.inr (va_up (va_up (fun _ => none) 0 (some (b + (n0 + 2)))) 1 (some (b + (n0 + 38))))))))] ++ (blkY G b (n0 + 2) ++ (blkY G b (n0 + 38) ++ ([.inr (6, [.int 0, .int 0, .int 0, .int 0, .int 0, .int 0, .int 0, .int 0, .null, .null, .null])]))) : List va_E))) (fun H h => h) ?_
  refine x_dup (pc := 32) C dX5_init_32 rfl ?_
  refine x_callIN (pc := 33) (P' := KL G b (pre ++ ([.inr (5, [.ref (b + (n0 + 1)), .int 0, .int 0]), .inl (G.2.2.2.1, 6, .inr (.inr (.inr (.inr (va_up (va_up (fun _ => none) 0 (some (b + (n0 + 2)))) 1 (some (b + (n0 + 38))))))))] ++ (blkY G b (n0 + 2) ++ (blkY G b (n0 + 38) ++ (blkY G b (n0 + 74)))) : List va_E))) C [] (rest := [.ref (b + (n0 + 74)), .int (2), .ref (b + (n0 + 1))]) (kl_eq (e1 := (pre ++ ([.inr (5, [.ref (b + (n0 + 1)), .int 0, .int 0]), .inl (G.2.2.2.1, 6, .inr (.inr (.inr (.inr (va_up (va_up (fun _ => none) 0 (some (b + (n0 + 2)))) 1 (some (b + (n0 + 38))))))))] ++ (blkY G b (n0 + 2) ++ (blkY G b (n0 + 38))) : List va_E)) ++ _) (e2 := (pre ++ ([.inr (5, [.ref (b + (n0 + 1)), .int 0, .int 0]), .inl (G.2.2.2.1, 6, .inr (.inr (.inr (.inr (va_up (va_up (fun _ => none) 0 (some (b + (n0 + 2)))) 1 (some (b + (n0 + 38))))))))] ++ (blkY G b (n0 + 2) ++ (blkY G b (n0 + 38))) : List va_E)) ++ _) (by rw [List.append_assoc] <;> rfl) (by rw [List.append_assoc] <;> rfl) (c_X6_init l G b (pre := pre ++ ([.inr (5, [.ref (b + (n0 + 1)), .int 0, .int 0]), .inl (G.2.2.2.1, 6, .inr (.inr (.inr (.inr (va_up (va_up (fun _ => none) 0 (some (b + (n0 + 2)))) 1 (some (b + (n0 + 38))))))))] ++ (blkY G b (n0 + 2) ++ (blkY G b (n0 + 38))) : List va_E)) (n0 := n0 + 74) (by rw [List.length_append, hn] <;> rfl))) wq24 wq12 hZ.2.1 wq23 rfl rfl rfl hd_X6_init ⟨Nat.le_of_ble_eq_true rfl, Nat.le_of_ble_eq_true rfl⟩ rfl (Nat.le_of_ble_eq_true rfl) ⟨Nat.le_of_ble_eq_true rfl, Nat.le_of_ble_eq_true rfl⟩ dX5_init_33 ?_
  refine x_eq (pc' := 36) (st' := [.ref (b + (n0 + 74)), .int (2), .ref (b + (n0 + 1))]) rfl rfl rfl ?_
  refine k_astq (pc := 36) (lit := ([.inr (5, [.ref (b + (n0 + 1)), .int 0, .int 0]), .inl (G.2.2.2.1, 6, .inr (.inr (.inr (.inr (va_up (va_up (fun _ => none) 0 (some (b + (n0 + 2)))) 1 (some (b + (n0 + 38))))))))] ++ (blkY G b (n0 + 2) ++ (blkY G b (n0 + 38) ++ (blkY G b (n0 + 74)))) : List va_E)) (lit' := ([.inr (5, [.ref (b + (n0 + 1)), .int 0, .int 0]), .inl (G.2.2.2.1, 6, .inr (.inr (.inr (.inr (va_up (va_up (va_up (fun _ => none) 0 (some (b + (n0 + 2)))) 1 (some (b + (n0 + 38)))) 2 (some (b + (n0 + 74))))))))] ++ (blkY G b (n0 + 2) ++ (blkY G b (n0 + 38) ++ (blkY G b (n0 + 74)))) : List va_E)) C hn (i := 2) 1 74 rfl rfl (show ¬ ((2 : Int32) < 0 ∨ 6 ≤ (2 : Int32).toNatClampNeg) by decide) rfl dX5_init_36 ?_
  refine x_iinc (pc := 37) C 0 [(1, .int (3)), (0, .ref (b + (n0 + 0)))] dX5_init_37 rfl (by decide) (by decide) rfl ?_
  refine x_goto (pc := 40) C 15 dX5_init_40 rfl ?_
  refine x_iload_n (pc := 15) C 0 dX5_init_15 rfl rfl ?_
  refine x_aload_n (pc := 16) C 1 dX5_init_16 rfl rfl ?_
  refine k_get (pc := 17) (lit := ([.inr (5, [.ref (b + (n0 + 1)), .int 0, .int 0]), .inl (G.2.2.2.1, 6, .inr (.inr (.inr (.inr (va_up (va_up (va_up (fun _ => none) 0 (some (b + (n0 + 2)))) 1 (some (b + (n0 + 38)))) 2 (some (b + (n0 + 74))))))))] ++ (blkY G b (n0 + 2) ++ (blkY G b (n0 + 38) ++ (blkY G b (n0 + 74)))) : List va_E)) C hn fw5 (ci := 5) rfl 0 (by decide) wq95 (v := .ref (b + (n0 + 1))) rfl 0 rfl dX5_init_17 ?_
  refine k_alen (pc := 20) (lit := ([.inr (5, [.ref (b + (n0 + 1)), .int 0, .int 0]), .inl (G.2.2.2.1, 6, .inr (.inr (.inr (.inr (va_up (va_up (va_up (fun _ => none) 0 (some (b + (n0 + 2)))) 1 (some (b + (n0 + 38)))) 2 (some (b + (n0 + 74))))))))] ++ (blkY G b (n0 + 2) ++ (blkY G b (n0 + 38) ++ (blkY G b (n0 + 74)))) : List va_E)) C hn 1 rfl (v := 6) rfl dX5_init_20 ?_
  refine x_icmp_ge (pc := 21) C 43 dX5_init_21 rfl (cst_f (c9 := (6 : Int32) ≤ 3) (A := some ()) (by decide) rfl) (fun c9 _ => absurd c9 (by decide)) (fun _ _ => ?_)
  refine x_aload_n (pc := 24) C 1 dX5_init_24 rfl rfl ?_
  refine k_get (pc := 25) (lit := ([.inr (5, [.ref (b + (n0 + 1)), .int 0, .int 0]), .inl (G.2.2.2.1, 6, .inr (.inr (.inr (.inr (va_up (va_up (va_up (fun _ => none) 0 (some (b + (n0 + 2)))) 1 (some (b + (n0 + 38)))) 2 (some (b + (n0 + 74))))))))] ++ (blkY G b (n0 + 2) ++ (blkY G b (n0 + 38) ++ (blkY G b (n0 + 74)))) : List va_E)) C hn fw5 (ci := 5) rfl 0 (by decide) wq95 (v := .ref (b + (n0 + 1))) rfl 0 rfl dX5_init_25 ?_
  refine x_iload_n (pc := 28) C 0 dX5_init_28 rfl rfl ?_
  refine k_new (pc := 29) (lit := ([.inr (5, [.ref (b + (n0 + 1)), .int 0, .int 0]), .inl (G.2.2.2.1, 6, .inr (.inr (.inr (.inr (va_up (va_up (va_up (fun _ => none) 0 (some (b + (n0 + 2)))) 1 (some (b + (n0 + 38)))) 2 (some (b + (n0 + 74))))))))] ++ (blkY G b (n0 + 2) ++ (blkY G b (n0 + 38) ++ (blkY G b (n0 + 74)))) : List va_E)) (fs := [.int 0, .int 0, .int 0, .int 0, .int 0, .int 0, .int 0, .int 0, .null, .null, .null]) C hn fw6 tyX6 tyX6_ok (ci := 6) rfl wq94 wq11 wq12 (by decide +kernel) 110 rfl ?_ dX5_init_29 ?_
  · exact ⟨Nat.le_of_ble_eq_true rfl, Nat.le_of_ble_eq_true rfl⟩
  refine x_mono (P' := KL G b (pre ++ ([.inr (5, [.ref (b + (n0 + 1)), .int 0, .int 0]), .inl (G.2.2.2.1, 6, .inr (.inr (.inr (.inr (va_up (va_up (va_up (fun _ => none) 0 (some (b + (n0 + 2)))) 1 (some (b + (n0 + 38)))) 2 (some (b + (n0 + 74))))))))] ++ (blkY G b (n0 + 2) ++ (blkY G b (n0 + 38) ++ (blkY G b (n0 + 74) ++ ([.inr (6, [.int 0, .int 0, .int 0, .int 0, .int 0, .int 0, .int 0, .int 0, .null, .null, .null])])))) : List va_E))) (fun H h => h) ?_
  refine x_dup (pc := 32) C dX5_init_32 rfl ?_
  refine x_callIN (pc := 33) (P' := KL G b (pre ++ ([.inr (5, [.ref (b + (n0 + 1)), .int 0, .int 0]), .inl (G.2.2.2.1, 6, .inr (.inr (.inr (.inr (va_up (va_up (va_up (fun _ => none) 0 (some (b + (n0 + 2)))) 1 (some (b + (n0 + 38)))) 2 (some (b + (n0 + 74))))))))] ++ (blkY G b (n0 + 2) ++ (blkY G b (n0 + 38) ++ (blkY G b (n0 + 74) ++ (blkY G b (n0 + 110))))) : List va_E))) C [] (rest := [.ref (b + (n0 + 110)), .int (3), .ref (b + (n0 + 1))]) (kl_eq (e1 := (pre ++ ([.inr (5, [.ref (b + (n0 + 1)), .int 0, .int 0]), .inl (G.2.2.2.1, 6, .inr (.inr (.inr (.inr (va_up (va_up (va_up (fun _ => none) 0 (some (b + (n0 + 2)))) 1 (some (b + (n0 + 38)))) 2 (some (b + (n0 + 74))))))))] ++ (blkY G b (n0 + 2) ++ (blkY G b (n0 + 38) ++ (blkY G b (n0 + 74)))) : List va_E)) ++ _) (e2 := (pre ++ ([.inr (5, [.ref (b + (n0 + 1)), .int 0, .int 0]), .inl (G.2.2.2.1, 6, .inr (.inr (.inr (.inr (va_up (va_up (va_up (fun _ => none) 0 (some (b + (n0 + 2)))) 1 (some (b + (n0 + 38)))) 2 (some (b + (n0 + 74))))))))] ++ (blkY G b (n0 + 2) ++ (blkY G b (n0 + 38) ++ (blkY G b (n0 + 74)))) : List va_E)) ++ _) (by rw [List.append_assoc] <;> rfl) (by rw [List.append_assoc] <;> rfl) (c_X6_init l G b (pre := pre ++ ([.inr (5, [.ref (b + (n0 + 1)), .int 0, .int 0]), .inl (G.2.2.2.1, 6, .inr (.inr (.inr (.inr (va_up (va_up (va_up (fun _ => none) 0 (some (b + (n0 + 2)))) 1 (some (b + (n0 + 38)))) 2 (some (b + (n0 + 74))))))))] ++ (blkY G b (n0 + 2) ++ (blkY G b (n0 + 38) ++ (blkY G b (n0 + 74)))) : List va_E)) (n0 := n0 + 110) (by rw [List.length_append, hn] <;> rfl))) wq24 wq12 hZ.2.1 wq23 rfl rfl rfl hd_X6_init ⟨Nat.le_of_ble_eq_true rfl, Nat.le_of_ble_eq_true rfl⟩ rfl (Nat.le_of_ble_eq_true rfl) ⟨Nat.le_of_ble_eq_true rfl, Nat.le_of_ble_eq_true rfl⟩ dX5_init_33 ?_
  refine x_eq (pc' := 36) (st' := [.ref (b + (n0 + 110)), .int (3), .ref (b + (n0 + 1))]) rfl rfl rfl ?_
  refine k_astq (pc := 36) (lit := ([.inr (5, [.ref (b + (n0 + 1)), .int 0, .int 0]), .inl (G.2.2.2.1, 6, .inr (.inr (.inr (.inr (va_up (va_up (va_up (fun _ => none) 0 (some (b + (n0 + 2)))) 1 (some (b + (n0 + 38)))) 2 (some (b + (n0 + 74))))))))] ++ (blkY G b (n0 + 2) ++ (blkY G b (n0 + 38) ++ (blkY G b (n0 + 74) ++ (blkY G b (n0 + 110))))) : List va_E)) (lit' := ([.inr (5, [.ref (b + (n0 + 1)), .int 0, .int 0]), .inl (G.2.2.2.1, 6, .inr (.inr (.inr (.inr (va_up (va_up (va_up (va_up (fun _ => none) 0 (some (b + (n0 + 2)))) 1 (some (b + (n0 + 38)))) 2 (some (b + (n0 + 74)))) 3 (some (b + (n0 + 110))))))))] ++ (blkY G b (n0 + 2) ++ (blkY G b (n0 + 38) ++ (blkY G b (n0 + 74) ++ (blkY G b (n0 + 110))))) : List va_E)) C hn (i := 3) 1 110 rfl rfl (show ¬ ((3 : Int32) < 0 ∨ 6 ≤ (3 : Int32).toNatClampNeg) by decide) rfl dX5_init_36 ?_
  refine x_iinc (pc := 37) C 0 [(1, .int (4)), (0, .ref (b + (n0 + 0)))] dX5_init_37 rfl (by decide) (by decide) rfl ?_
  refine x_goto (pc := 40) C 15 dX5_init_40 rfl ?_
  refine x_iload_n (pc := 15) C 0 dX5_init_15 rfl rfl ?_
  refine x_aload_n (pc := 16) C 1 dX5_init_16 rfl rfl ?_
  refine k_get (pc := 17) (lit := ([.inr (5, [.ref (b + (n0 + 1)), .int 0, .int 0]), .inl (G.2.2.2.1, 6, .inr (.inr (.inr (.inr (va_up (va_up (va_up (va_up (fun _ => none) 0 (some (b + (n0 + 2)))) 1 (some (b + (n0 + 38)))) 2 (some (b + (n0 + 74)))) 3 (some (b + (n0 + 110))))))))] ++ (blkY G b (n0 + 2) ++ (blkY G b (n0 + 38) ++ (blkY G b (n0 + 74) ++ (blkY G b (n0 + 110))))) : List va_E)) C hn fw5 (ci := 5) rfl 0 (by decide) wq95 (v := .ref (b + (n0 + 1))) rfl 0 rfl dX5_init_17 ?_
  refine k_alen (pc := 20) (lit := ([.inr (5, [.ref (b + (n0 + 1)), .int 0, .int 0]), .inl (G.2.2.2.1, 6, .inr (.inr (.inr (.inr (va_up (va_up (va_up (va_up (fun _ => none) 0 (some (b + (n0 + 2)))) 1 (some (b + (n0 + 38)))) 2 (some (b + (n0 + 74)))) 3 (some (b + (n0 + 110))))))))] ++ (blkY G b (n0 + 2) ++ (blkY G b (n0 + 38) ++ (blkY G b (n0 + 74) ++ (blkY G b (n0 + 110))))) : List va_E)) C hn 1 rfl (v := 6) rfl dX5_init_20 ?_
  refine x_icmp_ge (pc := 21) C 43 dX5_init_21 rfl (cst_f (c9 := (6 : Int32) ≤ 4) (A := some ()) (by decide) rfl) (fun c9 _ => absurd c9 (by decide)) (fun _ _ => ?_)
  refine x_aload_n (pc := 24) C 1 dX5_init_24 rfl rfl ?_
  refine k_get (pc := 25) (lit := ([.inr (5, [.ref (b + (n0 + 1)), .int 0, .int 0]), .inl (G.2.2.2.1, 6, .inr (.inr (.inr (.inr (va_up (va_up (va_up (va_up (fun _ => none) 0 (some (b + (n0 + 2)))) 1 (some (b + (n0 + 38)))) 2 (some (b + (n0 + 74)))) 3 (some (b + (n0 + 110))))))))] ++ (blkY G b (n0 + 2) ++ (blkY G b (n0 + 38) ++ (blkY G b (n0 + 74) ++ (blkY G b (n0 + 110))))) : List va_E)) C hn fw5 (ci := 5) rfl 0 (by decide) wq95 (v := .ref (b + (n0 + 1))) rfl 0 rfl dX5_init_25 ?_
  refine x_iload_n (pc := 28) C 0 dX5_init_28 rfl rfl ?_
  refine k_new (pc := 29) (lit := ([.inr (5, [.ref (b + (n0 + 1)), .int 0, .int 0]), .inl (G.2.2.2.1, 6, .inr (.inr (.inr (.inr (va_up (va_up (va_up (va_up (fun _ => none) 0 (some (b + (n0 + 2)))) 1 (some (b + (n0 + 38)))) 2 (some (b + (n0 + 74)))) 3 (some (b + (n0 + 110))))))))] ++ (blkY G b (n0 + 2) ++ (blkY G b (n0 + 38) ++ (blkY G b (n0 + 74) ++ (blkY G b (n0 + 110))))) : List va_E)) (fs := [.int 0, .int 0, .int 0, .int 0, .int 0, .int 0, .int 0, .int 0, .null, .null, .null]) C hn fw6 tyX6 tyX6_ok (ci := 6) rfl wq94 wq11 wq12 (by decide +kernel) 146 rfl ?_ dX5_init_29 ?_
  · exact ⟨Nat.le_of_ble_eq_true rfl, Nat.le_of_ble_eq_true rfl⟩
  refine x_mono (P' := KL G b (pre ++ ([.inr (5, [.ref (b + (n0 + 1)), .int 0, .int 0]), .inl (G.2.2.2.1, 6, .inr (.inr (.inr (.inr (va_up (va_up (va_up (va_up (fun _ => none) 0 (some (b + (n0 + 2)))) 1 (some (b + (n0 + 38)))) 2 (some (b + (n0 + 74)))) 3 (some (b + (n0 + 110))))))))] ++ (blkY G b (n0 + 2) ++ (blkY G b (n0 + 38) ++ (blkY G b (n0 + 74) ++ (blkY G b (n0 + 110) ++ ([.inr (6, [.int 0, .int 0, .int 0, .int 0, .int 0, .int 0, .int 0, .int 0, .null, .null, .null])]))))) : List va_E))) (fun H h => h) ?_
  refine x_dup (pc := 32) C dX5_init_32 rfl ?_
  refine x_callIN (pc := 33) (P' := KL G b (pre ++ ([.inr (5, [.ref (b + (n0 + 1)), .int 0, .int 0]), .inl (G.2.2.2.1, 6, .inr (.inr (.inr (.inr (va_up (va_up (va_up (va_up (fun _ => none) 0 (some (b + (n0 + 2)))) 1 (some (b + (n0 + 38)))) 2 (some (b + (n0 + 74)))) 3 (some (b + (n0 + 110))))))))] ++ (blkY G b (n0 + 2) ++ (blkY G b (n0 + 38) ++ (blkY G b (n0 + 74) ++ (blkY G b (n0 + 110) ++ (blkY G b (n0 + 146)))))) : List va_E))) C [] (rest := [.ref (b + (n0 + 146)), .int (4), .ref (b + (n0 + 1))]) (kl_eq (e1 := (pre ++ ([.inr (5, [.ref (b + (n0 + 1)), .int 0, .int 0]), .inl (G.2.2.2.1, 6, .inr (.inr (.inr (.inr (va_up (va_up (va_up (va_up (fun _ => none) 0 (some (b + (n0 + 2)))) 1 (some (b + (n0 + 38)))) 2 (some (b + (n0 + 74)))) 3 (some (b + (n0 + 110))))))))] ++ (blkY G b (n0 + 2) ++ (blkY G b (n0 + 38) ++ (blkY G b (n0 + 74) ++ (blkY G b (n0 + 110))))) : List va_E)) ++ _) (e2 := (pre ++ ([.inr (5, [.ref (b + (n0 + 1)), .int 0, .int 0]), .inl (G.2.2.2.1, 6, .inr (.inr (.inr (.inr (va_up (va_up (va_up (va_up (fun _ => none) 0 (some (b + (n0 + 2)))) 1 (some (b + (n0 + 38)))) 2 (some (b + (n0 + 74)))) 3 (some (b + (n0 + 110))))))))] ++ (blkY G b (n0 + 2) ++ (blkY G b (n0 + 38) ++ (blkY G b (n0 + 74) ++ (blkY G b (n0 + 110))))) : List va_E)) ++ _) (by rw [List.append_assoc] <;> rfl) (by rw [List.append_assoc] <;> rfl) (c_X6_init l G b (pre := pre ++ ([.inr (5, [.ref (b + (n0 + 1)), .int 0, .int 0]), .inl (G.2.2.2.1, 6, .inr (.inr (.inr (.inr (va_up (va_up (va_up (va_up (fun _ => none) 0 (some (b + (n0 + 2)))) 1 (some (b + (n0 + 38)))) 2 (some (b + (n0 + 74)))) 3 (some (b + (n0 + 110))))))))] ++ (blkY G b (n0 + 2) ++ (blkY G b (n0 + 38) ++ (blkY G b (n0 + 74) ++ (blkY G b (n0 + 110))))) : List va_E)) (n0 := n0 + 146) (by rw [List.length_append, hn] <;> rfl))) wq24 wq12 hZ.2.1 wq23 rfl rfl rfl hd_X6_init ⟨Nat.le_of_ble_eq_true rfl, Nat.le_of_ble_eq_true rfl⟩ rfl (Nat.le_of_ble_eq_true rfl) ⟨Nat.le_of_ble_eq_true rfl, Nat.le_of_ble_eq_true rfl⟩ dX5_init_33 ?_
  refine x_eq (pc' := 36) (st' := [.ref (b + (n0 + 146)), .int (4), .ref (b + (n0 + 1))]) rfl rfl rfl ?_
  refine k_astq (pc := 36) (lit := ([.inr (5, [.ref (b + (n0 + 1)), .int 0, .int 0]), .inl (G.2.2.2.1, 6, .inr (.inr (.inr (.inr (va_up (va_up (va_up (va_up (fun _ => none) 0 (some (b + (n0 + 2)))) 1 (some (b + (n0 + 38)))) 2 (some (b + (n0 + 74)))) 3 (some (b + (n0 + 110))))))))] ++ (blkY G b (n0 + 2) ++ (blkY G b (n0 + 38) ++ (blkY G b (n0 + 74) ++ (blkY G b (n0 + 110) ++ (blkY G b (n0 + 146)))))) : List va_E)) (lit' := ([.inr (5, [.ref (b + (n0 + 1)), .int 0, .int 0]), .inl (G.2.2.2.1, 6, .inr (.inr (.inr (.inr (va_up (va_up (va_up (va_up (va_up (fun _ => none) 0 (some (b + (n0 + 2)))) 1 (some (b + (n0 + 38)))) 2 (some (b + (n0 + 74)))) 3 (some (b + (n0 + 110)))) 4 (some (b + (n0 + 146))))))))] ++ (blkY G b (n0 + 2) ++ (blkY G b (n0 + 38) ++ (blkY G b (n0 + 74) ++ (blkY G b (n0 + 110) ++ (blkY G b (n0 + 146)))))) : List va_E)) C hn (i := 4) 1 146 rfl rfl (show ¬ ((4 : Int32) < 0 ∨ 6 ≤ (4 : Int32).toNatClampNeg) by decide) rfl dX5_init_36 ?_
  refine x_iinc (pc := 37) C 0 [(1, .int (5)), (0, .ref (b + (n0 + 0)))] dX5_init_37 rfl (by decide) (by decide) rfl ?_
  refine x_goto (pc := 40) C 15 dX5_init_40 rfl ?_
  refine x_iload_n (pc := 15) C 0 dX5_init_15 rfl rfl ?_
  refine x_aload_n (pc := 16) C 1 dX5_init_16 rfl rfl ?_
  refine k_get (pc := 17) (lit := ([.inr (5, [.ref (b + (n0 + 1)), .int 0, .int 0]), .inl (G.2.2.2.1, 6, .inr (.inr (.inr (.inr (va_up (va_up (va_up (va_up (va_up (fun _ => none) 0 (some (b + (n0 + 2)))) 1 (some (b + (n0 + 38)))) 2 (some (b + (n0 + 74)))) 3 (some (b + (n0 + 110)))) 4 (some (b + (n0 + 146))))))))] ++ (blkY G b (n0 + 2) ++ (blkY G b (n0 + 38) ++ (blkY G b (n0 + 74) ++ (blkY G b (n0 + 110) ++ (blkY G b (n0 + 146)))))) : List va_E)) C hn fw5 (ci := 5) rfl 0 (by decide) wq95 (v := .ref (b + (n0 + 1))) rfl 0 rfl dX5_init_17 ?_
  refine k_alen (pc := 20) (lit := ([.inr (5, [.ref (b + (n0 + 1)), .int 0, .int 0]), .inl (G.2.2.2.1, 6, .inr (.inr (.inr (.inr (va_up (va_up (va_up (va_up (va_up (fun _ => none) 0 (some (b + (n0 + 2)))) 1 (some (b + (n0 + 38)))) 2 (some (b + (n0 + 74)))) 3 (some (b + (n0 + 110)))) 4 (some (b + (n0 + 146))))))))] ++ (blkY G b (n0 + 2) ++ (blkY G b (n0 + 38) ++ (blkY G b (n0 + 74) ++ (blkY G b (n0 + 110) ++ (blkY G b (n0 + 146)))))) : List va_E)) C hn 1 rfl (v := 6) rfl dX5_init_20 ?_
  refine x_icmp_ge (pc := 21) C 43 dX5_init_21 rfl (cst_f (c9 := (6 : Int32) ≤ 5) (A := some ()) (by decide) rfl) (fun c9 _ => absurd c9 (by decide)) (fun _ _ => ?_)
  refine x_aload_n (pc := 24) C 1 dX5_init_24 rfl rfl ?_
  refine k_get (pc := 25) (lit := ([.inr (5, [.ref (b + (n0 + 1)), .int 0, .int 0]), .inl (G.2.2.2.1, 6, .inr (.inr (.inr (.inr (va_up (va_up (va_up (va_up (va_up (fun _ => none) 0 (some (b + (n0 + 2)))) 1 (some (b + (n0 + 38)))) 2 (some (b + (n0 + 74)))) 3 (some (b + (n0 + 110)))) 4 (some (b + (n0 + 146))))))))] ++ (blkY G b (n0 + 2) ++ (blkY G b (n0 + 38) ++ (blkY G b (n0 + 74) ++ (blkY G b (n0 + 110) ++ (blkY G b (n0 + 146)))))) : List va_E)) C hn fw5 (ci := 5) rfl 0 (by decide) wq95 (v := .ref (b + (n0 + 1))) rfl 0 rfl dX5_init_25 ?_
  refine x_iload_n (pc := 28) C 0 dX5_init_28 rfl rfl ?_
  refine k_new (pc := 29) (lit := ([.inr (5, [.ref (b + (n0 + 1)), .int 0, .int 0]), .inl (G.2.2.2.1, 6, .inr (.inr (.inr (.inr (va_up (va_up (va_up (va_up (va_up (fun _ => none) 0 (some (b + (n0 + 2)))) 1 (some (b + (n0 + 38)))) 2 (some (b + (n0 + 74)))) 3 (some (b + (n0 + 110)))) 4 (some (b + (n0 + 146))))))))] ++ (blkY G b (n0 + 2) ++ (blkY G b (n0 + 38) ++ (blkY G b (n0 + 74) ++ (blkY G b (n0 + 110) ++ (blkY G b (n0 + 146)))))) : List va_E)) (fs := [.int 0, .int 0, .int 0, .int 0, .int 0, .int 0, .int 0, .int 0, .null, .null, .null]) C hn fw6 tyX6 tyX6_ok (ci := 6) rfl wq94 wq11 wq12 (by decide +kernel) 182 rfl ?_ dX5_init_29 ?_
  · exact ⟨Nat.le_of_ble_eq_true rfl, Nat.le_of_ble_eq_true rfl⟩
  refine x_mono (P' := KL G b (pre ++ ([.inr (5, [.ref (b + (n0 + 1)), .int 0, .int 0]), .inl (G.2.2.2.1, 6, .inr (.inr (.inr (.inr (va_up (va_up (va_up (va_up (va_up (fun _ => none) 0 (some (b + (n0 + 2)))) 1 (some (b + (n0 + 38)))) 2 (some (b + (n0 + 74)))) 3 (some (b + (n0 + 110)))) 4 (some (b + (n0 + 146))))))))] ++ (blkY G b (n0 + 2) ++ (blkY G b (n0 + 38) ++ (blkY G b (n0 + 74) ++ (blkY G b (n0 + 110) ++ (blkY G b (n0 + 146) ++ ([.inr (6, [.int 0, .int 0, .int 0, .int 0, .int 0, .int 0, .int 0, .int 0, .null, .null, .null])])))))) : List va_E))) (fun H h => h) ?_
  refine x_dup (pc := 32) C dX5_init_32 rfl ?_
  refine x_callIN (pc := 33) (P' := KL G b (pre ++ ([.inr (5, [.ref (b + (n0 + 1)), .int 0, .int 0]), .inl (G.2.2.2.1, 6, .inr (.inr (.inr (.inr (va_up (va_up (va_up (va_up (va_up (fun _ => none) 0 (some (b + (n0 + 2)))) 1 (some (b + (n0 + 38)))) 2 (some (b + (n0 + 74)))) 3 (some (b + (n0 + 110)))) 4 (some (b + (n0 + 146))))))))] ++ (blkY G b (n0 + 2) ++ (blkY G b (n0 + 38) ++ (blkY G b (n0 + 74) ++ (blkY G b (n0 + 110) ++ (blkY G b (n0 + 146) ++ (blkY G b (n0 + 182))))))) : List va_E))) C [] (rest := [.ref (b + (n0 + 182)), .int (5), .ref (b + (n0 + 1))]) (kl_eq (e1 := (pre ++ ([.inr (5, [.ref (b + (n0 + 1)), .int 0, .int 0]), .inl (G.2.2.2.1, 6, .inr (.inr (.inr (.inr (va_up (va_up (va_up (va_up (va_up (fun _ => none) 0 (some (b + (n0 + 2)))) 1 (some (b + (n0 + 38)))) 2 (some (b + (n0 + 74)))) 3 (some (b + (n0 + 110)))) 4 (some (b + (n0 + 146))))))))] ++ (blkY G b (n0 + 2) ++ (blkY G b (n0 + 38) ++ (blkY G b (n0 + 74) ++ (blkY G b (n0 + 110) ++ (blkY G b (n0 + 146)))))) : List va_E)) ++ _) (e2 := (pre ++ ([.inr (5, [.ref (b + (n0 + 1)), .int 0, .int 0]), .inl (G.2.2.2.1, 6, .inr (.inr (.inr (.inr (va_up (va_up (va_up (va_up (va_up (fun _ => none) 0 (some (b + (n0 + 2)))) 1 (some (b + (n0 + 38)))) 2 (some (b + (n0 + 74)))) 3 (some (b + (n0 + 110)))) 4 (some (b + (n0 + 146))))))))] ++ (blkY G b (n0 + 2) ++ (blkY G b (n0 + 38) ++ (blkY G b (n0 + 74) ++ (blkY G b (n0 + 110) ++ (blkY G b (n0 + 146)))))) : List va_E)) ++ _) (by rw [List.append_assoc] <;> rfl) (by rw [List.append_assoc] <;> rfl) (c_X6_init l G b (pre := pre ++ ([.inr (5, [.ref (b + (n0 + 1)), .int 0, .int 0]), .inl (G.2.2.2.1, 6, .inr (.inr (.inr (.inr (va_up (va_up (va_up (va_up (va_up (fun _ => none) 0 (some (b + (n0 + 2)))) 1 (some (b + (n0 + 38)))) 2 (some (b + (n0 + 74)))) 3 (some (b + (n0 + 110)))) 4 (some (b + (n0 + 146))))))))] ++ (blkY G b (n0 + 2) ++ (blkY G b (n0 + 38) ++ (blkY G b (n0 + 74) ++ (blkY G b (n0 + 110) ++ (blkY G b (n0 + 146)))))) : List va_E)) (n0 := n0 + 182) (by rw [List.length_append, hn] <;> rfl))) wq24 wq12 hZ.2.1 wq23 rfl rfl rfl hd_X6_init ⟨Nat.le_of_ble_eq_true rfl, Nat.le_of_ble_eq_true rfl⟩ rfl (Nat.le_of_ble_eq_true rfl) ⟨Nat.le_of_ble_eq_true rfl, Nat.le_of_ble_eq_true rfl⟩ dX5_init_33 ?_
  refine x_eq (pc' := 36) (st' := [.ref (b + (n0 + 182)), .int (5), .ref (b + (n0 + 1))]) rfl rfl rfl ?_
  refine k_astq (pc := 36) (lit := ([.inr (5, [.ref (b + (n0 + 1)), .int 0, .int 0]), .inl (G.2.2.2.1, 6, .inr (.inr (.inr (.inr (va_up (va_up (va_up (va_up (va_up (fun _ => none) 0 (some (b + (n0 + 2)))) 1 (some (b + (n0 + 38)))) 2 (some (b + (n0 + 74)))) 3 (some (b + (n0 + 110)))) 4 (some (b + (n0 + 146))))))))] ++ (blkY G b (n0 + 2) ++ (blkY G b (n0 + 38) ++ (blkY G b (n0 + 74) ++ (blkY G b (n0 + 110) ++ (blkY G b (n0 + 146) ++ (blkY G b (n0 + 182))))))) : List va_E)) (lit' := ([.inr (5, [.ref (b + (n0 + 1)), .int 0, .int 0]), .inl (G.2.2.2.1, 6, .inr (.inr (.inr (.inr (va_up (va_up (va_up (va_up (va_up (va_up (fun _ => none) 0 (some (b + (n0 + 2)))) 1 (some (b + (n0 + 38)))) 2 (some (b + (n0 + 74)))) 3 (some (b + (n0 + 110)))) 4 (some (b + (n0 + 146)))) 5 (some (b + (n0 + 182))))))))] ++ (blkY G b (n0 + 2) ++ (blkY G b (n0 + 38) ++ (blkY G b (n0 + 74) ++ (blkY G b (n0 + 110) ++ (blkY G b (n0 + 146) ++ (blkY G b (n0 + 182))))))) : List va_E)) C hn (i := 5) 1 182 rfl rfl (show ¬ ((5 : Int32) < 0 ∨ 6 ≤ (5 : Int32).toNatClampNeg) by decide) rfl dX5_init_36 ?_
  refine x_iinc (pc := 37) C 0 [(1, .int (6)), (0, .ref (b + (n0 + 0)))] dX5_init_37 rfl (by decide) (by decide) rfl ?_
  refine x_goto (pc := 40) C 15 dX5_init_40 rfl ?_
  refine x_iload_n (pc := 15) C 0 dX5_init_15 rfl rfl ?_
  refine x_aload_n (pc := 16) C 1 dX5_init_16 rfl rfl ?_
  refine k_get (pc := 17) (lit := ([.inr (5, [.ref (b + (n0 + 1)), .int 0, .int 0]), .inl (G.2.2.2.1, 6, .inr (.inr (.inr (.inr (va_up (va_up (va_up (va_up (va_up (va_up (fun _ => none) 0 (some (b + (n0 + 2)))) 1 (some (b + (n0 + 38)))) 2 (some (b + (n0 + 74)))) 3 (some (b + (n0 + 110)))) 4 (some (b + (n0 + 146)))) 5 (some (b + (n0 + 182))))))))] ++ (blkY G b (n0 + 2) ++ (blkY G b (n0 + 38) ++ (blkY G b (n0 + 74) ++ (blkY G b (n0 + 110) ++ (blkY G b (n0 + 146) ++ (blkY G b (n0 + 182))))))) : List va_E)) C hn fw5 (ci := 5) rfl 0 (by decide) wq95 (v := .ref (b + (n0 + 1))) rfl 0 rfl dX5_init_17 ?_
  refine k_alen (pc := 20) (lit := ([.inr (5, [.ref (b + (n0 + 1)), .int 0, .int 0]), .inl (G.2.2.2.1, 6, .inr (.inr (.inr (.inr (va_up (va_up (va_up (va_up (va_up (va_up (fun _ => none) 0 (some (b + (n0 + 2)))) 1 (some (b + (n0 + 38)))) 2 (some (b + (n0 + 74)))) 3 (some (b + (n0 + 110)))) 4 (some (b + (n0 + 146)))) 5 (some (b + (n0 + 182))))))))] ++ (blkY G b (n0 + 2) ++ (blkY G b (n0 + 38) ++ (blkY G b (n0 + 74) ++ (blkY G b (n0 + 110) ++ (blkY G b (n0 + 146) ++ (blkY G b (n0 + 182))))))) : List va_E)) C hn 1 rfl (v := 6) rfl dX5_init_20 ?_
  refine x_icmp_ge (pc := 21) C 43 dX5_init_21 rfl (cst_t (c9 := (6 : Int32) ≤ 6) (A := some ()) (by decide) rfl) (fun _ _ => ?_) (fun c9 _ => absurd (by decide) c9)
  exact x_vret (pc := 43) C hr (fun _ h => h) dX5_init_43
abbrev blkP (G : xG) (b a : Nat) : List va_E := ([.inr (7, [.ref (b + (a + 1)), .ref (b + (a + 37)), .ref (b + (a + 73)), .ref (b + (a + 291)), .int 0])] ++ (blkY G b (a + 1) ++ (blkY G b (a + 37) ++ (blkS G b (a + 73) ++ (blkT G b (a + 291))))) : List va_E)
set_option maxRecDepth 8000 in
set_option maxHeartbeats 8000000 in
theorem c_X7_init (l : Launch) (G : xG) (b : Nat) {pre : List va_E} {n0 : Nat} (hn : pre.length = n0) : xMetN l G b yX7_init cX7_init 1 none { frames := 5, cells := 293, slots := 10720, locals := 180 } [.ref (b + (n0 + 0))] (KL G b (pre ++ [.inr (7, [.null, .null, .null, .null, .int 0])])) none (KL G b (pre ++ blkP G b n0)) 293 10720 := by
  refine x_ofN (own := RX7) rfl (plainFor_of_name pn_X7) (Nat.le_of_ble_eq_true rfl) ?_
  intro p e s m args below meth c ha C hr hin hZ
  refine x_aload_n (pc := 0) C 0 dX7_init_0 rfl rfl ?_
  refine x_objInit (pc := 1) C wq7 ⟨Nat.le_of_ble_eq_true rfl, Nat.le_of_ble_eq_true rfl⟩ dX7_init_1 ?_
  refine x_aload_n (pc := 4) C 0 dX7_init_4 rfl rfl ?_
  refine k_new (pc := 5) (lit := ([.inr (7, [.null, .null, .null, .null, .int 0])] : List va_E)) (fs := [.int 0, .int 0, .int 0, .int 0, .int 0, .int 0, .int 0, .int 0, .null, .null, .null]) C hn fw6 tyX6 tyX6_ok (ci := 6) rfl wq10 wq11 wq12 (by decide +kernel) 1 rfl ?_ dX7_init_5 ?_
  · exact ⟨Nat.le_of_ble_eq_true rfl, Nat.le_of_ble_eq_true rfl⟩
  refine x_mono (P' := KL G b (pre ++ ([.inr (7, [.null, .null, .null, .null, .int 0]), .inr (6, [.int 0, .int 0, .int 0, .int 0, .int 0, .int 0, .int 0, .int 0, .null, .null, .null])] : List va_E))) (fun H h => h) ?_
  refine x_dup (pc := 8) C dX7_init_8 rfl ?_
  refine x_callIN (pc := 9) (P' := KL G b (pre ++ ([.inr (7, [.null, .null, .null, .null, .int 0])] ++ (blkY G b (n0 + 1)) : List va_E))) C [] (rest := [.ref (b + (n0 + 1)), .ref (b + (n0 + 0))]) (kl_eq (e1 := (pre ++ ([.inr (7, [.null, .null, .null, .null, .int 0])] : List va_E)) ++ _) (e2 := (pre ++ ([.inr (7, [.null, .null, .null, .null, .int 0])] : List va_E)) ++ _) (by rw [List.append_assoc] <;> rfl) (by rw [List.append_assoc] <;> rfl) (c_X6_init l G b (pre := pre ++ ([.inr (7, [.null, .null, .null, .null, .int 0])] : List va_E)) (n0 := n0 + 1) (by rw [List.length_append, hn] <;> rfl))) wq24 wq12 hZ.1 wq23 rfl rfl rfl hd_X6_init ⟨Nat.le_of_ble_eq_true rfl, Nat.le_of_ble_eq_true rfl⟩ rfl (Nat.le_of_ble_eq_true rfl) ⟨Nat.le_of_ble_eq_true rfl, Nat.le_of_ble_eq_true rfl⟩ dX7_init_9 ?_
  refine x_eq (pc' := 12) (st' := [.ref (b + (n0 + 1)), .ref (b + (n0 + 0))]) rfl rfl rfl ?_
  refine k_putF (pc := 12) (lit := ([.inr (7, [.null, .null, .null, .null, .int 0])] ++ (blkY G b (n0 + 1)) : List va_E)) (lit' := ([.inr (7, [.ref (b + (n0 + 1)), .null, .null, .null, .int 0])] ++ (blkY G b (n0 + 1)) : List va_E)) C hin hn fw7 tyX7 tyX7_ok nmX7 (ci := 7) rfl 0 (by decide) wq13 rfl rfl rfl rfl (Nat.le_of_ble_eq_true rfl) 0 rfl rfl dX7_init_12 ?_
  refine x_aload_n (pc := 15) C 0 dX7_init_15 rfl rfl ?_
  refine k_new (pc := 16) (lit := ([.inr (7, [.ref (b + (n0 + 1)), .null, .null, .null, .int 0])] ++ (blkY G b (n0 + 1)) : List va_E)) (fs := [.int 0, .int 0, .int 0, .int 0, .int 0, .int 0, .int 0, .int 0, .null, .null, .null]) C hn fw6 tyX6 tyX6_ok (ci := 6) rfl wq10 wq11 wq12 (by decide +kernel) 37 rfl ?_ dX7_init_16 ?_
  · exact ⟨Nat.le_of_ble_eq_true rfl, Nat.le_of_ble_eq_true rfl⟩
  refine x_mono (P' := KL G b (pre ++ ([.inr (7, [.ref (b + (n0 + 1)), .null, .null, .null, .int 0])] ++ (blkY G b (n0 + 1) ++ ([.inr (6, [.int 0, .int 0, .int 0, .int 0, .int 0, .int 0, .int 0, .int 0, .null, .null, .null])])) : List va_E))) (fun H h => h) ?_
  refine x_dup (pc := 19) C dX7_init_19 rfl ?_
  refine x_callIN (pc := 20) (P' := KL G b (pre ++ ([.inr (7, [.ref (b + (n0 + 1)), .null, .null, .null, .int 0])] ++ (blkY G b (n0 + 1) ++ (blkY G b (n0 + 37))) : List va_E))) C [] (rest := [.ref (b + (n0 + 37)), .ref (b + (n0 + 0))]) (kl_eq (e1 := (pre ++ ([.inr (7, [.ref (b + (n0 + 1)), .null, .null, .null, .int 0])] ++ (blkY G b (n0 + 1)) : List va_E)) ++ _) (e2 := (pre ++ ([.inr (7, [.ref (b + (n0 + 1)), .null, .null, .null, .int 0])] ++ (blkY G b (n0 + 1)) : List va_E)) ++ _) (by rw [List.append_assoc] <;> rfl) (by rw [List.append_assoc] <;> rfl) (c_X6_init l G b (pre := pre ++ ([.inr (7, [.ref (b + (n0 + 1)), .null, .null, .null, .int 0])] ++ (blkY G b (n0 + 1)) : List va_E)) (n0 := n0 + 37) (by rw [List.length_append, hn] <;> rfl))) wq24 wq12 hZ.1 wq23 rfl rfl rfl hd_X6_init ⟨Nat.le_of_ble_eq_true rfl, Nat.le_of_ble_eq_true rfl⟩ rfl (Nat.le_of_ble_eq_true rfl) ⟨Nat.le_of_ble_eq_true rfl, Nat.le_of_ble_eq_true rfl⟩ dX7_init_20 ?_
  refine x_eq (pc' := 23) (st' := [.ref (b + (n0 + 37)), .ref (b + (n0 + 0))]) rfl rfl rfl ?_
  refine k_putF (pc := 23) (lit := ([.inr (7, [.ref (b + (n0 + 1)), .null, .null, .null, .int 0])] ++ (blkY G b (n0 + 1) ++ (blkY G b (n0 + 37))) : List va_E)) (lit' := ([.inr (7, [.ref (b + (n0 + 1)), .ref (b + (n0 + 37)), .null, .null, .int 0])] ++ (blkY G b (n0 + 1) ++ (blkY G b (n0 + 37))) : List va_E)) C hin hn fw7 tyX7 tyX7_ok nmX7 (ci := 7) rfl 1 (by decide) wq14 rfl rfl rfl rfl (Nat.le_of_ble_eq_true rfl) 0 rfl rfl dX7_init_23 ?_
  refine x_aload_n (pc := 26) C 0 dX7_init_26 rfl rfl ?_
  refine k_new (pc := 27) (lit := ([.inr (7, [.ref (b + (n0 + 1)), .ref (b + (n0 + 37)), .null, .null, .int 0])] ++ (blkY G b (n0 + 1) ++ (blkY G b (n0 + 37))) : List va_E)) (fs := [.null, .int 0, .int 0]) C hn fw5 tyX5 tyX5_ok (ci := 5) rfl wq15 wq16 wq17 (by decide +kernel) 73 rfl ?_ dX7_init_27 ?_
  · exact ⟨Nat.le_of_ble_eq_true rfl, Nat.le_of_ble_eq_true rfl⟩
  refine x_mono (P' := KL G b (pre ++ ([.inr (7, [.ref (b + (n0 + 1)), .ref (b + (n0 + 37)), .null, .null, .int 0])] ++ (blkY G b (n0 + 1) ++ (blkY G b (n0 + 37) ++ ([.inr (5, [.null, .int 0, .int 0])]))) : List va_E))) (fun H h => h) ?_
  refine x_dup (pc := 30) C dX7_init_30 rfl ?_
  refine x_callIM (pc := 31) (P' := KL G b (pre ++ ([.inr (7, [.ref (b + (n0 + 1)), .ref (b + (n0 + 37)), .null, .null, .int 0])] ++ (blkY G b (n0 + 1) ++ (blkY G b (n0 + 37) ++ (blkS G b (n0 + 73)))) : List va_E))) C hZ [] (rest := [.ref (b + (n0 + 73)), .ref (b + (n0 + 0))]) (kl_eqN (e1 := (pre ++ ([.inr (7, [.ref (b + (n0 + 1)), .ref (b + (n0 + 37)), .null, .null, .int 0])] ++ (blkY G b (n0 + 1) ++ (blkY G b (n0 + 37))) : List va_E)) ++ _) (e2 := (pre ++ ([.inr (7, [.ref (b + (n0 + 1)), .ref (b + (n0 + 37)), .null, .null, .int 0])] ++ (blkY G b (n0 + 1) ++ (blkY G b (n0 + 37))) : List va_E)) ++ _) (by rw [List.append_assoc] <;> rfl) (by rw [List.append_assoc] <;> rfl) (c_X5_init l G b (pre := pre ++ ([.inr (7, [.ref (b + (n0 + 1)), .ref (b + (n0 + 37)), .null, .null, .int 0])] ++ (blkY G b (n0 + 1) ++ (blkY G b (n0 + 37))) : List va_E)) (n0 := n0 + 73) (by rw [List.length_append, hn] <;> rfl))) wq92 wq17 wq90 wq91 rfl rfl rfl hd_X5_init ⟨Nat.le_of_ble_eq_true rfl, Nat.le_of_ble_eq_true rfl⟩ rfl (Nat.le_of_ble_eq_true rfl) ⟨Nat.le_of_ble_eq_true rfl, Nat.le_of_ble_eq_true rfl⟩ dX7_init_31 ?_
  refine x_eq (pc' := 34) (st' := [.ref (b + (n0 + 73)), .ref (b + (n0 + 0))]) rfl rfl rfl ?_
  refine k_putF (pc := 34) (lit := ([.inr (7, [.ref (b + (n0 + 1)), .ref (b + (n0 + 37)), .null, .null, .int 0])] ++ (blkY G b (n0 + 1) ++ (blkY G b (n0 + 37) ++ (blkS G b (n0 + 73)))) : List va_E)) (lit' := ([.inr (7, [.ref (b + (n0 + 1)), .ref (b + (n0 + 37)), .ref (b + (n0 + 73)), .null, .int 0])] ++ (blkY G b (n0 + 1) ++ (blkY G b (n0 + 37) ++ (blkS G b (n0 + 73)))) : List va_E)) C hin hn fw7 tyX7 tyX7_ok nmX7 (ci := 7) rfl 2 (by decide) wq18 rfl rfl rfl rfl (Nat.le_of_ble_eq_true rfl) 0 rfl rfl dX7_init_34 ?_
  refine x_aload_n (pc := 37) C 0 dX7_init_37 rfl rfl ?_
  refine k_new (pc := 38) (lit := ([.inr (7, [.ref (b + (n0 + 1)), .ref (b + (n0 + 37)), .ref (b + (n0 + 73)), .null, .int 0])] ++ (blkY G b (n0 + 1) ++ (blkY G b (n0 + 37) ++ (blkS G b (n0 + 73)))) : List va_E)) (fs := [.null, .int 0]) C hn fw3 tyX3 tyX3_ok (ci := 3) rfl wq19 wq20 wq21 (by decide +kernel) 291 rfl ?_ dX7_init_38 ?_
  · exact ⟨Nat.le_of_ble_eq_true rfl, Nat.le_of_ble_eq_true rfl⟩
  refine x_mono (P' := KL G b (pre ++ ([.inr (7, [.ref (b + (n0 + 1)), .ref (b + (n0 + 37)), .ref (b + (n0 + 73)), .null, .int 0])] ++ (blkY G b (n0 + 1) ++ (blkY G b (n0 + 37) ++ (blkS G b (n0 + 73) ++ ([.inr (3, [.null, .int 0])])))) : List va_E))) (fun H h => h) ?_
  refine x_dup (pc := 41) C dX7_init_41 rfl ?_
  refine x_callIN (pc := 42) (P' := KL G b (pre ++ ([.inr (7, [.ref (b + (n0 + 1)), .ref (b + (n0 + 37)), .ref (b + (n0 + 73)), .null, .int 0])] ++ (blkY G b (n0 + 1) ++ (blkY G b (n0 + 37) ++ (blkS G b (n0 + 73) ++ (blkT G b (n0 + 291))))) : List va_E))) C [] (rest := [.ref (b + (n0 + 291)), .ref (b + (n0 + 0))]) (kl_eq (e1 := (pre ++ ([.inr (7, [.ref (b + (n0 + 1)), .ref (b + (n0 + 37)), .ref (b + (n0 + 73)), .null, .int 0])] ++ (blkY G b (n0 + 1) ++ (blkY G b (n0 + 37) ++ (blkS G b (n0 + 73)))) : List va_E)) ++ _) (e2 := (pre ++ ([.inr (7, [.ref (b + (n0 + 1)), .ref (b + (n0 + 37)), .ref (b + (n0 + 73)), .null, .int 0])] ++ (blkY G b (n0 + 1) ++ (blkY G b (n0 + 37) ++ (blkS G b (n0 + 73)))) : List va_E)) ++ _) (by rw [List.append_assoc] <;> rfl) (by rw [List.append_assoc] <;> rfl) (c_X3_init l G b (pre := pre ++ ([.inr (7, [.ref (b + (n0 + 1)), .ref (b + (n0 + 37)), .ref (b + (n0 + 73)), .null, .int 0])] ++ (blkY G b (n0 + 1) ++ (blkY G b (n0 + 37) ++ (blkS G b (n0 + 73)))) : List va_E)) (n0 := n0 + 291) (by rw [List.length_append, hn] <;> rfl))) wq97 wq21 hZ.2.2.1 wq96 rfl rfl rfl hd_X3_init ⟨Nat.le_of_ble_eq_true rfl, Nat.le_of_ble_eq_true rfl⟩ rfl (Nat.le_of_ble_eq_true rfl) ⟨Nat.le_of_ble_eq_true rfl, Nat.le_of_ble_eq_true rfl⟩ dX7_init_42 ?_
  refine x_eq (pc' := 45) (st' := [.ref (b + (n0 + 291)), .ref (b + (n0 + 0))]) rfl rfl rfl ?_
  refine k_putF (pc := 45) (lit := ([.inr (7, [.ref (b + (n0 + 1)), .ref (b + (n0 + 37)), .ref (b + (n0 + 73)), .null, .int 0])] ++ (blkY G b (n0 + 1) ++ (blkY G b (n0 + 37) ++ (blkS G b (n0 + 73) ++ (blkT G b (n0 + 291))))) : List va_E)) (lit' := ([.inr (7, [.ref (b + (n0 + 1)), .ref (b + (n0 + 37)), .ref (b + (n0 + 73)), .ref (b + (n0 + 291)), .int 0])] ++ (blkY G b (n0 + 1) ++ (blkY G b (n0 + 37) ++ (blkS G b (n0 + 73) ++ (blkT G b (n0 + 291))))) : List va_E)) C hin hn fw7 tyX7 tyX7_ok nmX7 (ci := 7) rfl 3 (by decide) wq22 rfl rfl rfl rfl (Nat.le_of_ble_eq_true rfl) 0 rfl rfl dX7_init_45 ?_
  exact x_vret (pc := 48) C hr (fun _ h => h) dX7_init_48
/-! the world that the constructors leave -/
def w0r (r : Nat) : Nat → Int32 := if r = 0 then fun _ => (-1) else if r = 6 then upd (upd (fun _ => 0) 0 1) 1 1 else if r = 7 then fun _ => (-1) else if 13 ≤ r then fun _ => (-1) else fun _ => 0
def w0 : xWt := (fun k r => if k < 8 then w0r r else fun _ => 0, fun k j => if k < 8 ∧ j = 1 then 4 else 0, none)
theorem KL.blk {G : xG} {b n0 n : Nat} {es B : List va_E} {H : Heap} (h : KL G b es H) (hB : (es.drop n0).take n = B) (j : Nat) {e : va_E} (hj : B[j]? = some e) : va_at G.1 vwCl (b + (n0 + j), e) H := by
  subst hB
  refine h.2 _ _ ?_
  rw [List.getElem?_take] at hj
  split at hj
  · rw [List.getElem?_drop] at hj; exact hj
  · cases hj
theorem arrq_congr {D : va_G} {cl : List vw_C} {a n : Nat} {cA : ClassId} {f g : Nat → Option Nat} {H : Heap} (h : va_at D cl (a, .inl (cA, n, .inr (.inr (.inr (.inr f))))) H) (hfg : ∀ q, q < n → f q = g q) : va_at D cl (a, .inl (cA, n, .inr (.inr (.inr (.inr g))))) H := by
  have h2 : H[a]? = some (vp_cell cA (n, .inr (.inr (.inr (.inr f))))) := h
  show H[a]? = some (vp_cell cA (n, .inr (.inr (.inr (.inr g)))))
  rw [h2, vp_cell_q, vp_cell_q]
  congr 1
  unfold arrV
  congr 1
  exact Array.ext (by simp) (fun i h1 h2 => by simp at h1 ⊢; rw [hfg i h1])
theorem cw_yard {G : xG} {b k n0 : Nat} {es : List va_E} {H : Heap} (h : KL G b es H) (hB : (es.drop n0).take 36 = blkY G b n0) (hk : k < 8) (hy : yb b k = b + n0) : (va_at G.1 vwCl (yb b k, eY b k w0) H ∧ va_at G.1 vwCl (lvb b k, eL b k w0) H ∧ va_at G.1 vwCl (chb b k, eC b k) H ∧ va_at G.1 vwCl (hkb b k, eH b k) H) ∧ (∀ r, r < 16 → va_at G.1 vwCl (ro b k r, eR b k r) H) ∧ ∀ r, r < 16 → va_at G.1 vwCl (ra b k r, eA G k r w0) H := by
  have a1 : lvb b k = b + (n0 + 1) := by unfold lvb; omega
  have a2 : chb b k = b + (n0 + 14) := by unfold chb; omega
  have a3 : hkb b k = b + (n0 + 29) := by unfold hkb; omega
  have f0 : w0.2.1 k 0 = 0 := if_neg (fun q => by simp at q)
  have f1 : w0.2.1 k 1 = 4 := if_pos ⟨hk, rfl⟩
  have f2 : w0.2.1 k 2 = 0 := if_neg (fun q => by simp at q)
  have f3 : w0.2.1 k 3 = 0 := if_neg (fun q => by simp at q)
  have f4 : w0.2.1 k 4 = 0 := if_neg (fun q => by simp at q)
  have f5 : w0.2.1 k 5 = 0 := if_neg (fun q => by simp at q)
  have f6 : w0.2.1 k 6 = 0 := if_neg (fun q => by simp at q)
  have f7 : w0.2.1 k 7 = 0 := if_neg (fun q => by simp at q)
  have f8 : w0.2.1 k 8 = 0 := if_neg (fun q => by simp at q)
  have r0 : ro b k 0 = b + (n0 + 2) := by unfold ro; rw [if_pos hk, if_pos (by decide)]; omega
  have q0 : ra b k 0 = b + (n0 + 3) := by unfold ra; rw [if_pos hk, r0]; omega
  have l0 : rl k 0 = 12 := by unfold rl; rw [if_pos hk]; rfl
  have v0 : w0.1 k 0 = fun _ => (-1) := (if_pos hk : (if k < 8 then w0r 0 else fun _ => 0) = w0r 0)
  have r1 : ro b k 1 = b + (n0 + 4) := by unfold ro; rw [if_pos hk, if_pos (by decide)]; omega
  have q1 : ra b k 1 = b + (n0 + 5) := by unfold ra; rw [if_pos hk, r1]; omega
  have l1 : rl k 1 = 120 := by unfold rl; rw [if_pos hk]; rfl
  have v1 : w0.1 k 1 = fun _ => 0 := (if_pos hk : (if k < 8 then w0r 1 else fun _ => 0) = w0r 1)
  have r2 : ro b k 2 = b + (n0 + 6) := by unfold ro; rw [if_pos hk, if_pos (by decide)]; omega
  have q2 : ra b k 2 = b + (n0 + 7) := by unfold ra; rw [if_pos hk, r2]; omega
  have l2 : rl k 2 = 120 := by unfold rl; rw [if_pos hk]; rfl
  have v2 : w0.1 k 2 = fun _ => 0 := (if_pos hk : (if k < 8 then w0r 2 else fun _ => 0) = w0r 2)
  have r3 : ro b k 3 = b + (n0 + 8) := by unfold ro; rw [if_pos hk, if_pos (by decide)]; omega
  have q3 : ra b k 3 = b + (n0 + 9) := by unfold ra; rw [if_pos hk, r3]; omega
  have l3 : rl k 3 = 120 := by unfold rl; rw [if_pos hk]; rfl
  have v3 : w0.1 k 3 = fun _ => 0 := (if_pos hk : (if k < 8 then w0r 3 else fun _ => 0) = w0r 3)
  have r4 : ro b k 4 = b + (n0 + 10) := by unfold ro; rw [if_pos hk, if_pos (by decide)]; omega
  have q4 : ra b k 4 = b + (n0 + 11) := by unfold ra; rw [if_pos hk, r4]; omega
  have l4 : rl k 4 = 120 := by unfold rl; rw [if_pos hk]; rfl
  have v4 : w0.1 k 4 = fun _ => 0 := (if_pos hk : (if k < 8 then w0r 4 else fun _ => 0) = w0r 4)
  have r5 : ro b k 5 = b + (n0 + 12) := by unfold ro; rw [if_pos hk, if_pos (by decide)]; omega
  have q5 : ra b k 5 = b + (n0 + 13) := by unfold ra; rw [if_pos hk, r5]; omega
  have l5 : rl k 5 = 120 := by unfold rl; rw [if_pos hk]; rfl
  have v5 : w0.1 k 5 = fun _ => 0 := (if_pos hk : (if k < 8 then w0r 5 else fun _ => 0) = w0r 5)
  have r6 : ro b k 6 = b + (n0 + 15) := by unfold ro; rw [if_pos hk, if_neg (by decide), if_pos (by decide)]; omega
  have q6 : ra b k 6 = b + (n0 + 16) := by unfold ra; rw [if_pos hk, r6]; omega
  have l6 : rl k 6 = 5 := by unfold rl; rw [if_pos hk]; rfl
  have v6 : w0.1 k 6 = upd (upd (fun _ => 0) 0 1) 1 1 := (if_pos hk : (if k < 8 then w0r 6 else fun _ => 0) = w0r 6)
  have r7 : ro b k 7 = b + (n0 + 17) := by unfold ro; rw [if_pos hk, if_neg (by decide), if_pos (by decide)]; omega
  have q7 : ra b k 7 = b + (n0 + 18) := by unfold ra; rw [if_pos hk, r7]; omega
  have l7 : rl k 7 = 5 := by unfold rl; rw [if_pos hk]; rfl
  have v7 : w0.1 k 7 = fun _ => (-1) := (if_pos hk : (if k < 8 then w0r 7 else fun _ => 0) = w0r 7)
  have r8 : ro b k 8 = b + (n0 + 19) := by unfold ro; rw [if_pos hk, if_neg (by decide), if_pos (by decide)]; omega
  have q8 : ra b k 8 = b + (n0 + 20) := by unfold ra; rw [if_pos hk, r8]; omega
  have l8 : rl k 8 = 5 := by unfold rl; rw [if_pos hk]; rfl
  have v8 : w0.1 k 8 = fun _ => 0 := (if_pos hk : (if k < 8 then w0r 8 else fun _ => 0) = w0r 8)
  have r9 : ro b k 9 = b + (n0 + 21) := by unfold ro; rw [if_pos hk, if_neg (by decide), if_pos (by decide)]; omega
  have q9 : ra b k 9 = b + (n0 + 22) := by unfold ra; rw [if_pos hk, r9]; omega
  have l9 : rl k 9 = 5 := by unfold rl; rw [if_pos hk]; rfl
  have v9 : w0.1 k 9 = fun _ => 0 := (if_pos hk : (if k < 8 then w0r 9 else fun _ => 0) = w0r 9)
  have r10 : ro b k 10 = b + (n0 + 23) := by unfold ro; rw [if_pos hk, if_neg (by decide), if_pos (by decide)]; omega
  have q10 : ra b k 10 = b + (n0 + 24) := by unfold ra; rw [if_pos hk, r10]; omega
  have l10 : rl k 10 = 5 := by unfold rl; rw [if_pos hk]; rfl
  have v10 : w0.1 k 10 = fun _ => 0 := (if_pos hk : (if k < 8 then w0r 10 else fun _ => 0) = w0r 10)
  have r11 : ro b k 11 = b + (n0 + 25) := by unfold ro; rw [if_pos hk, if_neg (by decide), if_pos (by decide)]; omega
  have q11 : ra b k 11 = b + (n0 + 26) := by unfold ra; rw [if_pos hk, r11]; omega
  have l11 : rl k 11 = 5 := by unfold rl; rw [if_pos hk]; rfl
  have v11 : w0.1 k 11 = fun _ => 0 := (if_pos hk : (if k < 8 then w0r 11 else fun _ => 0) = w0r 11)
  have r12 : ro b k 12 = b + (n0 + 27) := by unfold ro; rw [if_pos hk, if_neg (by decide), if_pos (by decide)]; omega
  have q12 : ra b k 12 = b + (n0 + 28) := by unfold ra; rw [if_pos hk, r12]; omega
  have l12 : rl k 12 = 600 := by unfold rl; rw [if_pos hk]; rfl
  have v12 : w0.1 k 12 = fun _ => 0 := (if_pos hk : (if k < 8 then w0r 12 else fun _ => 0) = w0r 12)
  have r13 : ro b k 13 = b + (n0 + 30) := by unfold ro; rw [if_pos hk, if_neg (by decide), if_neg (by decide)]; omega
  have q13 : ra b k 13 = b + (n0 + 31) := by unfold ra; rw [if_pos hk, r13]; omega
  have l13 : rl k 13 = 15 := by unfold rl; rw [if_pos hk]; rfl
  have v13 : w0.1 k 13 = fun _ => (-1) := (if_pos hk : (if k < 8 then w0r 13 else fun _ => 0) = w0r 13)
  have r14 : ro b k 14 = b + (n0 + 32) := by unfold ro; rw [if_pos hk, if_neg (by decide), if_neg (by decide)]; omega
  have q14 : ra b k 14 = b + (n0 + 33) := by unfold ra; rw [if_pos hk, r14]; omega
  have l14 : rl k 14 = 15 := by unfold rl; rw [if_pos hk]; rfl
  have v14 : w0.1 k 14 = fun _ => (-1) := (if_pos hk : (if k < 8 then w0r 14 else fun _ => 0) = w0r 14)
  have r15 : ro b k 15 = b + (n0 + 34) := by unfold ro; rw [if_pos hk, if_neg (by decide), if_neg (by decide)]; omega
  have q15 : ra b k 15 = b + (n0 + 35) := by unfold ra; rw [if_pos hk, r15]; omega
  have l15 : rl k 15 = 15 := by unfold rl; rw [if_pos hk]; rfl
  have v15 : w0.1 k 15 = fun _ => (-1) := (if_pos hk : (if k < 8 then w0r 15 else fun _ => 0) = w0r 15)
  refine ⟨⟨?_, ?_, ?_, ?_⟩, ?_, ?_⟩
  · simp only [eY, hy, a1, a2, a3, f0, f1, f2, f3, f4, f5, f6, f7]; exact h.blk hB 0 rfl
  · simp only [eL, a1, f8, r0, r1, r2, r3, r4, r5]; exact h.blk hB 1 rfl
  · simp only [eC, a2, r6, r7, r8, r9, r10, r11, r12]; exact h.blk hB 14 rfl
  · simp only [eH, a3, r13, r14, r15]; exact h.blk hB 29 rfl
  · intro r hr
    match r, hr with
    | 0, _ => simp only [eR, r0, q0]; exact h.blk hB 2 rfl
    | 1, _ => simp only [eR, r1, q1]; exact h.blk hB 4 rfl
    | 2, _ => simp only [eR, r2, q2]; exact h.blk hB 6 rfl
    | 3, _ => simp only [eR, r3, q3]; exact h.blk hB 8 rfl
    | 4, _ => simp only [eR, r4, q4]; exact h.blk hB 10 rfl
    | 5, _ => simp only [eR, r5, q5]; exact h.blk hB 12 rfl
    | 6, _ => simp only [eR, r6, q6]; exact h.blk hB 15 rfl
    | 7, _ => simp only [eR, r7, q7]; exact h.blk hB 17 rfl
    | 8, _ => simp only [eR, r8, q8]; exact h.blk hB 19 rfl
    | 9, _ => simp only [eR, r9, q9]; exact h.blk hB 21 rfl
    | 10, _ => simp only [eR, r10, q10]; exact h.blk hB 23 rfl
    | 11, _ => simp only [eR, r11, q11]; exact h.blk hB 25 rfl
    | 12, _ => simp only [eR, r12, q12]; exact h.blk hB 27 rfl
    | 13, _ => simp only [eR, r13, q13]; exact h.blk hB 30 rfl
    | 14, _ => simp only [eR, r14, q14]; exact h.blk hB 32 rfl
    | 15, _ => simp only [eR, r15, q15]; exact h.blk hB 34 rfl
    | n + 16, hr => exact absurd hr (by omega)
  · intro r hr
    match r, hr with
    | 0, _ => simp only [eA, q0, l0, v0]; exact h.blk hB 3 rfl
    | 1, _ => simp only [eA, q1, l1, v1]; exact h.blk hB 5 rfl
    | 2, _ => simp only [eA, q2, l2, v2]; exact h.blk hB 7 rfl
    | 3, _ => simp only [eA, q3, l3, v3]; exact h.blk hB 9 rfl
    | 4, _ => simp only [eA, q4, l4, v4]; exact h.blk hB 11 rfl
    | 5, _ => simp only [eA, q5, l5, v5]; exact h.blk hB 13 rfl
    | 6, _ => simp only [eA, q6, l6, v6]; exact h.blk hB 16 rfl
    | 7, _ => simp only [eA, q7, l7, v7]; exact h.blk hB 18 rfl
    | 8, _ => simp only [eA, q8, l8, v8]; exact h.blk hB 20 rfl
    | 9, _ => simp only [eA, q9, l9, v9]; exact h.blk hB 22 rfl
    | 10, _ => simp only [eA, q10, l10, v10]; exact h.blk hB 24 rfl
    | 11, _ => simp only [eA, q11, l11, v11]; exact h.blk hB 26 rfl
    | 12, _ => simp only [eA, q12, l12, v12]; exact h.blk hB 28 rfl
    | 13, _ => simp only [eA, q13, l13, v13]; exact h.blk hB 31 rfl
    | 14, _ => simp only [eA, q14, l14, v14]; exact h.blk hB 33 rfl
    | 15, _ => simp only [eA, q15, l15, v15]; exact h.blk hB 35 rfl
    | n + 16, hr => exact absurd hr (by omega)
abbrev blkM (G : xG) (b : Nat) : List va_E := [.inl (G.2.1, 10, .inl (fun _ => 0)), .inl (G.2.1, 12, .inl (fun _ => 0)), .inl (G.2.1, 40, .inl (fun _ => 0)), .inl (G.2.1, 40, .inl (fun _ => 0)), .inl (G.2.1, 30, .inl (fun _ => 0)), .inl (G.2.1, 30, .inl (fun _ => 0))]
theorem kl_yards {G : xG} {b : Nat} {H : Heap} (h : KL G b (blkP G b 0 ++ blkM G b) H) (k : Nat) (hk : k < 8) : (va_at G.1 vwCl (yb b k, eY b k w0) H ∧ va_at G.1 vwCl (lvb b k, eL b k w0) H ∧ va_at G.1 vwCl (chb b k, eC b k) H ∧ va_at G.1 vwCl (hkb b k, eH b k) H) ∧ (∀ r, r < 16 → va_at G.1 vwCl (ro b k r, eR b k r) H) ∧ ∀ r, r < 16 → va_at G.1 vwCl (ra b k r, eA G k r w0) H := by
  match k, hk with
  | 0, hk => exact cw_yard (n0 := 0 + 1) h rfl hk (by unfold yb; split <;> omega)
  | 1, hk => exact cw_yard (n0 := 0 + 37) h rfl hk (by unfold yb; split <;> omega)
  | 2, hk => exact cw_yard (n0 := 0 + 73 + 2) h rfl hk (by unfold yb; split <;> omega)
  | 3, hk => exact cw_yard (n0 := 0 + 73 + 38) h rfl hk (by unfold yb; split <;> omega)
  | 4, hk => exact cw_yard (n0 := 0 + 73 + 74) h rfl hk (by unfold yb; split <;> omega)
  | 5, hk => exact cw_yard (n0 := 0 + 73 + 110) h rfl hk (by unfold yb; split <;> omega)
  | 6, hk => exact cw_yard (n0 := 0 + 73 + 146) h rfl hk (by unfold yb; split <;> omega)
  | 7, hk => exact cw_yard (n0 := 0 + 73 + 182) h rfl hk (by unfold yb; split <;> omega)
  | n + 8, hk => exact absurd hk (by omega)
theorem kl_cw {G : xG} {b : Nat} {H : Heap} (h : KL G b (blkP G b 0 ++ blkM G b) H) : CW G b w0 H := by
  have hT : ∀ (j : Nat) (e : va_E), (blkT G b (0 + 291))[j]? = some e → va_at G.1 vwCl (b + (0 + 291 + j), e) H := fun j e hj => h.blk (n0 := 0 + 291) (n := 3) rfl j hj
  have hM : ∀ (j : Nat) (e : va_E), (blkM G b)[j]? = some e → va_at G.1 vwCl (b + (294 + j), e) H := fun j e hj => h.blk (n0 := 294) (n := 6) rfl j hj
  refine ⟨fun k hk => (kl_yards h k hk).1, fun k r hv => ?_, fun k r hv => ?_, hT 0 _ rfl, h.2 73 _ rfl, arrq_congr (h.2 74 _ rfl) (fun q hq => ?_), h.2 0 _ rfl, fun v hv => by have h9 : (none : Option (Nat → Int32)) = some v := hv; cases h9⟩
  · rcases hv with ⟨hk, hr⟩ | ⟨rfl, rfl⟩
    · exact (kl_yards h k hk).2.1 r hr
    · exact hT 1 _ rfl
  · rcases hv with (⟨hk, hr⟩ | ⟨rfl, rfl⟩) | ⟨rfl, hr⟩
    · exact (kl_yards h k hk).2.2 r hr
    · exact hT 2 _ rfl
    · match r, hr with
      | 0, _ => exact hM 0 _ rfl
      | 1, _ => exact hM 1 _ rfl
      | 2, _ => exact hM 2 _ rfl
      | 3, _ => exact hM 3 _ rfl
      | 4, _ => exact hM 4 _ rfl
      | 5, _ => exact hM 5 _ rfl
      | n + 6, hr => exact absurd hr (by omega)
  · match q, hq with
    | 0, _ => exact congrArg some (by unfold yb; split <;> omega)
    | 1, _ => exact congrArg some (by unfold yb; split <;> omega)
    | 2, _ => exact congrArg some (by unfold yb; split <;> omega)
    | 3, _ => exact congrArg some (by unfold yb; split <;> omega)
    | 4, _ => exact congrArg some (by unfold yb; split <;> omega)
    | 5, _ => exact congrArg some (by unfold yb; split <;> omega)
    | n + 6, hq => exact absurd hq (by omega)
