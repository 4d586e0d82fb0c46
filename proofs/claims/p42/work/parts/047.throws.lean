theorem bad_IllegalStateException : ∀ w ∈ (vx_atS RX7 47 "java/lang/IllegalStateException" ["java/lang/RuntimeException", "java/lang/Exception"]).filter (fun w => !goodWord w), w ∈ [Cond.castable "java/lang/IllegalStateException" "java/lang/IllegalStateException", .declares (Bundle.initS "java/lang/RuntimeException"), .declares (Bundle.initS "java/lang/Exception"), .declares (Bundle.initS Bundle.tN)] := by decide +kernel
theorem bad_IndexOutOfBoundsException : ∀ w ∈ (vx_atS RX7 347 "java/lang/IndexOutOfBoundsException" ["java/lang/RuntimeException", "java/lang/Exception"]).filter (fun w => !goodWord w), w ∈ [Cond.castable "java/lang/IndexOutOfBoundsException" "java/lang/IndexOutOfBoundsException", .declares (Bundle.initS "java/lang/RuntimeException"), .declares (Bundle.initS "java/lang/Exception"), .declares (Bundle.initS Bundle.tN)] := by decide +kernel
theorem bad_IllegalArgumentException : ∀ w ∈ (vx_atS RX7 185 "java/lang/IllegalArgumentException" ["java/lang/RuntimeException", "java/lang/Exception"]).filter (fun w => !goodWord w), w ∈ [Cond.castable "java/lang/IllegalArgumentException" "java/lang/IllegalArgumentException", .declares (Bundle.initS "java/lang/RuntimeException"), .declares (Bundle.initS "java/lang/Exception"), .declares (Bundle.initS Bundle.tN)] := by decide +kernel
theorem good_IllegalStateException : ∀ w ∈ Cond.classLink RX7 43 "java/lang/IllegalStateException" :: Cond.initialized "java/lang/IllegalStateException" :: vx_atS RX7 47 "java/lang/IllegalStateException" ["java/lang/RuntimeException", "java/lang/Exception"], vx_ot w = true := by decide +kernel
theorem good_IndexOutOfBoundsException : ∀ w ∈ Cond.classLink RX7 343 "java/lang/IndexOutOfBoundsException" :: Cond.initialized "java/lang/IndexOutOfBoundsException" :: vx_atS RX7 347 "java/lang/IndexOutOfBoundsException" ["java/lang/RuntimeException", "java/lang/Exception"], vx_ot w = true := by decide +kernel
theorem good_IllegalArgumentException : ∀ w ∈ Cond.classLink RX7 181 "java/lang/IllegalArgumentException" :: Cond.initialized "java/lang/IllegalArgumentException" :: vx_atS RX7 185 "java/lang/IllegalArgumentException" ["java/lang/RuntimeException", "java/lang/Exception"], vx_ot w = true := by decide +kernel
/-! what a throw needs of the start: two statics of Throwable's, the texts, what is a kind of what -/
def xTexts : List (Nat × String) := [(45, "every place has a child"), (64, "this is the only child"), (74, "the child is in the yard"), (82, "the child rests"), (91, "a child in the yard came in at an earlier bell"), (105, "there is a leaf on the branch, or no leaf is left to grow"), (125, "the child rests, the hook is not empty, or there is no leaf"), (135, "the hook has no note"), (143, "the hook is empty"), (154, "the child rests, or there is no leaf"), (162, "the child rests, there is no leaf, or no leaf is left to grow"), (170, "the heap is empty"), (183, "the setting has no such value"), (230, "there is no saved state"), (265, "the place is below 0"), (279, "setting 1 is 0 or 1"), (345, "there is no such child"), (348, "there is no such hook"), (350, "no such leaf grew so far"), (352, "there is no such branch"), (354, "there is no such setting"), (356, "there is no such colour"), (358, "what is out of range")]
abbrev eS' : String := "java/lang/IllegalStateException"
abbrev eI' : String := "java/lang/IndexOutOfBoundsException"
abbrev eA' : String := "java/lang/IllegalArgumentException"
def xExc : List String := [eS', eI', eA']
def xPairs : List (String × String) := [(eS', eI'), (eS', eA'), (eI', eS'), (eI', eA'), (eA', eS'), (eA', eI')]
def xDecl : List MethodName := [Bundle.initS "java/lang/RuntimeException", Bundle.initS "java/lang/Exception", Bundle.initS Bundle.tN]
def xF (b : Nat) (U : State) : Prop := vx_Zq Bundle.tN "UNASSIGNED_STACK" Bundle.steD (xA b) U U.heap ∧ vx_Zq Bundle.tN "SUPPRESSED_SENTINEL" Bundle.listD (xA b) U U.heap ∧ (∀ q ∈ xTexts, ∃ sa, vk_R RX7 q.1 q.2 sa U) ∧ (∀ E ∈ xExc, va_Nw (.castable E E) U) ∧ (∀ q ∈ xPairs, va_Nc q.1 q.2 U) ∧ ∀ x ∈ xDecl, va_Nw (.declares x) U
theorem xF.next {b : Nat} {s U : State} {locs : List Loc} (h : xF b s) (hW : s.WarmedH U.vm) (hS : va_S (xA b) s.heap U.heap locs) : xF b U := by
  obtain ⟨h1, h2, h3, h4, h5, h6⟩ := h
  refine ⟨vx_Zq.moved hW.alike (h1.kept hS.2.1), vx_Zq.moved hW.alike (h2.kept hS.2.1), fun q hq => ?_, fun E hE => va_Nw.warmC hW (h4 E hE), fun q hq => va_Nc.moved hW.alike (h5 q hq), fun x hx => va_Nw.warmD hW (h6 x hx)⟩
  obtain ⟨sa, h⟩ := h3 q hq
  exact ⟨sa, vk_R.warm hW h⟩
def xPcX (G : xG) (b : Nat) (as : List Value) (P : Heap → Prop) : Array Value → State → Prop := va_Pc as (fun U => P U.heap ∧ xK G U ∧ b ≤ U.heap.size ∧ xF b U)
abbrev xO : Type := Option Value ⊕ String
def xvQ (b : Nat) (o : xO) (P' : Heap → Prop) : Array Value → State → Outcome → State → Prop := fun _ st oc t => ∃ v, o = .inl v ∧ oc = .returned v ∧ P' t.heap ∧ va_F (xA b) st t
def xvX (b : Nat) (o : xO) (P' : Heap → Prop) : String → State → State → Prop := fun E st t => o = .inr E ∧ P' t.heap ∧ va_F (xA b) st t
abbrev xvM (below : List Frame) (b : Nat) (o : xO) (P' : Heap → Prop) (args : Array Value) (s : State) (mc ms : Nat) : State → Prop := vx_MQ below (xvQ b o P') (xvX b o P') args s mc ms (xA b)
def xMetX (l : Launch) (G : xG) (b : Nat) (y : MethodName) (cc : ByteArray) (n : Nat) (ret : Option FieldType) (rm : Room) (as : List Value) (P : Heap → Prop) (o : xO) (P' : Heap → Prop) (mc ms : Nat) : Prop :=
  vx_Met l y (xWs y cc n ret) rm (xPcX G b as P) (xvQ b o P') (xvX b o P') mc ms (xA b)
abbrev xRX (d mc ms : Nat) : Room := { frames := d, cells := mc, slots := ms, locals := 36 * d }
/-- what a reading answers, as an outcome -/
def ov {α : Type} (val : α → Option Value) : α ⊕ String → xO
  | .inl a => .inl (val a)
  | .inr E => .inr E
def bx {α β : Type} (m : Option ((α ⊕ String) × xWt)) (f : α → xWt → Option ((β ⊕ String) × xWt)) : Option ((β ⊕ String) × xWt) := match m with
  | some (.inl a, w) => f a w
  | some (.inr E, w) => some (.inr E, w)
  | none => none
def mco {α : Type} : α ⊕ String → Nat
  | .inl _ => 0
  | .inr _ => 1
theorem xPcX.blind {G : xG} {b : Nat} {as : List Value} {P : Heap → Prop} : FrameBlind (xPcX G b as P) := by
  intro a U g mk q
  obtain ⟨q0, q1, q2, q3, q4⟩ := q
  refine ⟨q0, q1, va_K.moved (u := U) (U := U.calling g mk a) (Vm.Alike.refl U.vm) q2, q3, ?_⟩
  obtain ⟨h1, h2, h3, h4, h5, h6⟩ := q4
  refine ⟨vx_Zq.moved (u := U) (U := U.calling g mk a) (Vm.Alike.refl U.vm) h1, vx_Zq.moved (u := U) (U := U.calling g mk a) (Vm.Alike.refl U.vm) h2, fun q hq => ?_, fun E hE => va_tabs rfl (rfl : U.vm = (U.calling g mk a).vm) (h4 E hE), fun q hq => va_Nc.moved (u := U) (U := U.calling g mk a) (Vm.Alike.refl U.vm) (h5 q hq), fun x hx => va_tabs rfl (rfl : U.vm = (U.calling g mk a).vm) (h6 x hx)⟩
  obtain ⟨sa, h⟩ := h3 q hq
  exact ⟨sa, vk_R.same (u := U) (U := U.calling g mk a) rfl h⟩
theorem CW.grow {G : xG} {b : Nat} {w : xWt} {H H' : Heap} (h : CW G b w H) (hk : ∀ q : Nat, q < H.size → H'[q]? = H[q]?) : CW G b w H' := by
  have o : ∀ {q : Nat × va_E}, va_at G.1 vwCl q H → va_at G.1 vwCl q H' := fun a => a.kept (hk _ a.lt)
  exact ⟨fun k hk => ⟨o (h.yd hk), o (h.lv hk), o (h.ch hk), o (h.hk hk)⟩, fun k r hv => o (h.row0 hv), fun k r hv => o (h.arr hv), o h.tx, o h.sv, o h.vy, o h.pl, fun v9 hv9 => ⟨(h.ou v9 hv9).1, o (h.ou v9 hv9).2⟩⟩
section XThrow
variable {p : Program} {l : Launch} {e : Env} {R : Room} {s : State} {m : MethodId} {args : Array Value} {below : List Frame} {meth : Method} {c : Code} {Q : State → Prop} {b nL : Nat} {P P' : Heap → Prop} {cells slots pc mc ms : Nat} {lv lv' : List (Nat × Value)} {st : List Value} {G : xG} {cc : ByteArray} {own : String} {o : xO}
theorem x_ofX {y : MethodName} {ret : Option FieldType} {rm : Room} {as : List Value} (ho : y.cls = own) (hy : plainName y.cls = true) (hlen : (lg_sl as).length ≤ nL)
    (body : ∀ p e s m args below meth c, args = as.toArray → xC p m c s args meth G b cc nL own → meth.sig.returnType = ret → xF b s → (∀ x ∈ c.exceptionTable.toList, False) → xW p l e rm s m args below meth c (xvM below b o P' args s mc ms) b nL P 0 0 0 (lv_args 0 as) []) : xMetX l G b y cc nL ret rm as P o P' mc ms := by
  subst ho
  refine vx_ofW (cc := cc) (maxL := nL) (ret := ret) hy rfl ?_
  intro p e s m args below meth c s₁ B hml htab hv
  obtain ⟨hargs, hP, hK, hbl, hF⟩ := hv
  have hts := atoms_spec (ws := xWs y cc nL ret) B.pre
  have hC : xC p m c s args meth G b cc nL y.cls := ⟨B.exec, B.bytes, hml, findClass_of_methodNamed B.named, fun w hw => hts w (List.mem_cons_of_mem _ hw), B.notSynchronized, hK, hbl⟩
  have hl := lv_entry as (n := nL) hlen
  have k := body p e s m args below meth c hargs hC B.returns hF htab
  have h2 := k s.heap [] _ hP va_S.rf hl
  rw [hargs]
  rw [hargs] at h2
  rw [lg_entry_eq]
  exact h2
theorem xv_ret {v : Option Value} (ho : o = .inl v) (hc : cells ≤ mc) (hs : slots ≤ ms) (k : xW p l e R s m args below meth c (MQ below (xQ b v P') args s mc ms (xA b)) b nL P mc ms pc lv st) : xW p l e R s m args below meth c (xvM below b o P' args s mc ms) b nL P cells slots pc lv st := by
  intro H locs ls h1 h2 h3
  refine W.widen hc hs ?_
  intro T hT X
  obtain ⟨t, a1, oc, b1, b2, ⟨q1, q2, q3⟩, b4⟩ := k H locs ls h1 h2 h3 T hT X
  exact ⟨t, a1, oc, b1, b2, Or.inl ⟨⟨v, ho, q1, q2, q3⟩, b4⟩⟩
theorem x_callBX {y : MethodName} {bytes : ByteArray} {maxL n index : Nat} {ret : Option FieldType} {rm : Room} {mc ms : Nat} (C : xC p m c s args meth G b cc nL own) (hcode : Cond.code y bytes maxL ret ∈ gw) (hini : Cond.initialized y.cls ∈ gw) (hl : Cond.methodLink own index y ∈ gw) (hrc : rm.cells = mc) (hrs : rm.slots = ms)
    (hd : y.cls ≠ "java/lang/invoke/MethodHandle" ∧ y.cls ≠ "java/lang/invoke/VarHandle" ∧ (parseMethodDescriptor y.desc).map (fun d => d.parameters.length) = some n) (hR : rm.frames + 1 ≤ R.frames ∧ 8 + (maxL + 11) + rm.locals ≤ R.locals) : CallB R s args own index y bytes maxL ret (xWs y bytes maxL ret) rm mc ms n := x_callB C hcode hini hl hrc hrs hd hR
/-- behind a call that returns or throws -/
theorem xv_back {pc' : Nat} {rest : List Value} {o1 : xO} {P1 : Heap → Prop} {mc1 ms1 : Nat} {a : Array Value} (H : Heap) (locs : List Loc) (ls : Array Slot) (h2 : va_S (xA b) s.heap H locs) (h3 : lv_has ls nL lv)
    (hr : vx_Run p l e R s m args below meth c H locs cells slots mc1 ms1 (F0 m pc' ls st) rest (xvQ b o1 P1 a) (xvX b o1 P1) (xA b))
    (k : ∀ v, o1 = .inl v → xW p l e R s m args below meth c Q b nL P1 (cells + mc1) (slots + ms1) (pc' + 3) lv (v.toList ++ rest))
    (kx : ∀ E, o1 = .inr E → ∀ (H1 : Heap) (locs1 : List Loc) (q : Addr) (ce : Cell), P1 H1 → va_S (xA b) s.heap H1 locs1 → H1[q]? = some ce → ce.vm = .none → s.vm.findClass E = some ce.cls → vx_W p l e R s m args below meth c H1 locs1 (cells + mc1) (slots + ms1) Q (F0 m pc' ls rest) q) : W p l e R s m args below meth c H locs cells slots Q (F0 m pc' ls st) := by
  intro T hT X
  rcases hr T hT X with ⟨v1, st₀, t, T', L, h0, X', hL, e1, e2, ⟨v, hv, hv1, hP', hz, hk⟩, stp⟩ | ⟨q, st₀, t, T', L, E, ce, h0, X', hL, e1, e2, ⟨hv, hP', hz, hk⟩, hce, hcv, hcl, stp⟩
  · cases hv1
    rw [h0] at hz hk
    have hS : va_S (xA b) s.heap T'.heap (locs ++ L) := ⟨Nat.le_trans h2.1 (by rw [e1]; exact hz), fun q g1 g2 => by rw [e1, hk q (Nat.lt_of_lt_of_le g1 h2.1) g2]; exact h2.2.1 q g1 g2, fun q hq => by
        rcases List.mem_append.mp hq with h | h
        · exact h2.2.2 q h
        · exact hL q h⟩
    obtain ⟨t2, a1, b1⟩ := k _ hv T'.heap (locs ++ L) ls (by rw [e1]; exact hP') hS h3 T' rfl X'
    exact ⟨t2, stp t2 a1, b1⟩
  · rw [h0] at hz hk
    have hS : va_S (xA b) s.heap T'.heap (locs ++ L) := ⟨Nat.le_trans h2.1 (by rw [e1]; exact hz), fun q g1 g2 => by rw [e1, hk q (Nat.lt_of_lt_of_le g1 h2.1) g2]; exact h2.2.1 q g1 g2, fun q hq => by
        rcases List.mem_append.mp hq with h | h
        · exact h2.2.2 q h
        · exact hL q h⟩
    obtain ⟨t2, a1, b1⟩ := kx E hv T'.heap (locs ++ L) q ce (by rw [e1]; exact hP') hS (by rw [e1]; exact hce) hcv hcl T' rfl X'
    exact ⟨t2, stp.trans a1, b1⟩
/-- a thrown one that isn't caught here -/
theorem xv_out {E : String} {H : Heap} {locs : List Loc} {ls : Array Slot} {q : Addr} {ce : Cell} {rest : List Value} (C : xC p m c s args meth G b cc nL own) (hout : ∀ x ∈ c.exceptionTable.toList, False) (ho : o = .inr E) (hP : P' H) (hS : va_S (xA b) s.heap H locs) (hce : H[q]? = some ce) (hv : ce.vm = .none) (hcl : s.vm.findClass E = some ce.cls) (hc : cells ≤ mc) (hs : slots ≤ ms) : vx_W p l e R s m args below meth c H locs cells slots (xvM below b o P' args s mc ms) (F0 m pc ls rest) q :=
  vx_out (fun x hx => absurd hx (fun h => hout x h)) C.2.2.2.2.2.1 hce hv hcl (fun t ht _ => ⟨ho, by rw [ht]; exact hP, hS.F ht⟩) hS.2.2 hc hs
theorem xv_throw_IllegalStateException (C : xC p m c s args meth G b cc nL RX7) (hl : l.stackTraces = false) (hX : xF b s) (hout : ∀ x ∈ c.exceptionTable.toList, False) {is : Nat} {text : String} {w : xWt} (i : Nat) (htx : xTexts[i]? = some (is, text)) (ho : o = .inr "java/lang/IllegalStateException") (hk : Cond.classLink RX7 43 "java/lang/IllegalStateException" ∈ gw) (hini : Cond.initialized "java/lang/IllegalStateException" ∈ gw)
    (d0 : decode cc pc = .ok (.new 43, 3)) (d3 : decode cc (pc + 3) = .ok (.dup, 1)) (d4 : decode cc (pc + 4) = .ok (.ldc is, 2)) (d6 : decode cc (pc + 6) = .ok (.invokespecial 47, 3)) (d9 : decode cc (pc + 9) = .ok (.athrow, 1)) (hR : 5 < R.frames ∧ (st.map fun v => v.category).sum + 82 ≤ R.locals ∧ cells + 1 ≤ R.cells ∧ slots + 6 ≤ R.slots) (hc : cells + 1 ≤ mc) (hs : slots + 6 ≤ ms) (hP' : P' = CW G b w) : xW p l e R s m args below meth c (xvM below b o P' args s mc ms) b nL (CW G b w) cells slots pc lv st := by
  intro H locs ls h1 h2 h3
  have hts := C.2.2.2.2.1
  subst hP'
  obtain ⟨sa, hstr⟩ := hX.2.2.1 _ (List.mem_of_getElem? htx)
  have hat : ∀ w ∈ vx_atS RX7 47 "java/lang/IllegalStateException" ["java/lang/RuntimeException", "java/lang/Exception"], w.before args s = true :=
    vx_hat (B := [Cond.castable "java/lang/IllegalStateException" "java/lang/IllegalStateException", .declares (Bundle.initS "java/lang/RuntimeException"), .declares (Bundle.initS "java/lang/Exception"), .declares (Bundle.initS Bundle.tN)]) (fun w hw => hts w (gw_x0 w hw)) bad_IllegalStateException (vx_c (va_Nw.use rfl (hX.2.2.2.1 "java/lang/IllegalStateException" (by decide))) (vx_c (va_Nw.use rfl (hX.2.2.2.2.2 _ (List.mem_of_getElem? (i := 0) rfl))) (vx_c (va_Nw.use rfl (hX.2.2.2.2.2 _ (List.mem_of_getElem? (i := 1) rfl))) (vx_c (va_Nw.use rfl (hX.2.2.2.2.2 _ (List.mem_of_getElem? (i := 2) rfl))) vx_n))))
  exact vx_throwS C.1 C.2.1 hl C.2.2.2.1 (by decide +kernel) (by decide +kernel) (hts _ hk) (hts _ hini) hstr hat good_IllegalStateException hX.1 hX.2.1 h2 (h3.1.trans C.2.2.1.symm) d0 d3 d4 d6 d9 (fun x hx => absurd hx (fun h => hout x h)) hR.1 hR.2.1 hR.2.2.1 hR.2.2.2 C.2.2.2.2.2.1 (fun t _ hz hk => ⟨ho, h1.grow hk, ⟨Nat.le_trans h2.1 hz, fun q g1 g2 => by rw [hk q (Nat.lt_of_lt_of_le g1 h2.1)]; exact h2.2.1 q g1 g2⟩⟩) h2.2.2 hc hs
theorem xv_throw_IllegalStateExceptionW (C : xC p m c s args meth G b cc nL RX7) (hl : l.stackTraces = false) (hX : xF b s) (hout : ∀ x ∈ c.exceptionTable.toList, False) {is : Nat} {text : String} {w : xWt} (i : Nat) (htx : xTexts[i]? = some (is, text)) (ho : o = .inr "java/lang/IllegalStateException") (hk : Cond.classLink RX7 43 "java/lang/IllegalStateException" ∈ gw) (hini : Cond.initialized "java/lang/IllegalStateException" ∈ gw)
    (d0 : decode cc pc = .ok (.new 43, 3)) (d3 : decode cc (pc + 3) = .ok (.dup, 1)) (d4 : decode cc (pc + 4) = .ok (.ldc_w is, 3)) (d6 : decode cc (pc + 7) = .ok (.invokespecial 47, 3)) (d9 : decode cc (pc + 10) = .ok (.athrow, 1)) (hR : 5 < R.frames ∧ (st.map fun v => v.category).sum + 82 ≤ R.locals ∧ cells + 1 ≤ R.cells ∧ slots + 6 ≤ R.slots) (hc : cells + 1 ≤ mc) (hs : slots + 6 ≤ ms) (hP' : P' = CW G b w) : xW p l e R s m args below meth c (xvM below b o P' args s mc ms) b nL (CW G b w) cells slots pc lv st := by
  intro H locs ls h1 h2 h3
  have hts := C.2.2.2.2.1
  subst hP'
  obtain ⟨sa, hstr⟩ := hX.2.2.1 _ (List.mem_of_getElem? htx)
  have hat : ∀ w ∈ vx_atS RX7 47 "java/lang/IllegalStateException" ["java/lang/RuntimeException", "java/lang/Exception"], w.before args s = true :=
    vx_hat (B := [Cond.castable "java/lang/IllegalStateException" "java/lang/IllegalStateException", .declares (Bundle.initS "java/lang/RuntimeException"), .declares (Bundle.initS "java/lang/Exception"), .declares (Bundle.initS Bundle.tN)]) (fun w hw => hts w (gw_x0 w hw)) bad_IllegalStateException (vx_c (va_Nw.use rfl (hX.2.2.2.1 "java/lang/IllegalStateException" (by decide))) (vx_c (va_Nw.use rfl (hX.2.2.2.2.2 _ (List.mem_of_getElem? (i := 0) rfl))) (vx_c (va_Nw.use rfl (hX.2.2.2.2.2 _ (List.mem_of_getElem? (i := 1) rfl))) (vx_c (va_Nw.use rfl (hX.2.2.2.2.2 _ (List.mem_of_getElem? (i := 2) rfl))) vx_n))))
  exact vx_throwSW C.1 C.2.1 hl C.2.2.2.1 (by decide +kernel) (by decide +kernel) (hts _ hk) (hts _ hini) hstr hat good_IllegalStateException hX.1 hX.2.1 h2 (h3.1.trans C.2.2.1.symm) d0 d3 d4 d6 d9 (fun x hx => absurd hx (fun h => hout x h)) hR.1 hR.2.1 hR.2.2.1 hR.2.2.2 C.2.2.2.2.2.1 (fun t _ hz hk => ⟨ho, h1.grow hk, ⟨Nat.le_trans h2.1 hz, fun q g1 g2 => by rw [hk q (Nat.lt_of_lt_of_le g1 h2.1)]; exact h2.2.1 q g1 g2⟩⟩) h2.2.2 hc hs
theorem xv_throw_IndexOutOfBoundsException (C : xC p m c s args meth G b cc nL RX7) (hl : l.stackTraces = false) (hX : xF b s) (hout : ∀ x ∈ c.exceptionTable.toList, False) {is : Nat} {text : String} {w : xWt} (i : Nat) (htx : xTexts[i]? = some (is, text)) (ho : o = .inr "java/lang/IndexOutOfBoundsException") (hk : Cond.classLink RX7 343 "java/lang/IndexOutOfBoundsException" ∈ gw) (hini : Cond.initialized "java/lang/IndexOutOfBoundsException" ∈ gw)
    (d0 : decode cc pc = .ok (.new 343, 3)) (d3 : decode cc (pc + 3) = .ok (.dup, 1)) (d4 : decode cc (pc + 4) = .ok (.ldc is, 2)) (d6 : decode cc (pc + 6) = .ok (.invokespecial 347, 3)) (d9 : decode cc (pc + 9) = .ok (.athrow, 1)) (hR : 5 < R.frames ∧ (st.map fun v => v.category).sum + 82 ≤ R.locals ∧ cells + 1 ≤ R.cells ∧ slots + 6 ≤ R.slots) (hc : cells + 1 ≤ mc) (hs : slots + 6 ≤ ms) (hP' : P' = CW G b w) : xW p l e R s m args below meth c (xvM below b o P' args s mc ms) b nL (CW G b w) cells slots pc lv st := by
  intro H locs ls h1 h2 h3
  have hts := C.2.2.2.2.1
  subst hP'
  obtain ⟨sa, hstr⟩ := hX.2.2.1 _ (List.mem_of_getElem? htx)
  have hat : ∀ w ∈ vx_atS RX7 347 "java/lang/IndexOutOfBoundsException" ["java/lang/RuntimeException", "java/lang/Exception"], w.before args s = true :=
    vx_hat (B := [Cond.castable "java/lang/IndexOutOfBoundsException" "java/lang/IndexOutOfBoundsException", .declares (Bundle.initS "java/lang/RuntimeException"), .declares (Bundle.initS "java/lang/Exception"), .declares (Bundle.initS Bundle.tN)]) (fun w hw => hts w (gw_x1 w hw)) bad_IndexOutOfBoundsException (vx_c (va_Nw.use rfl (hX.2.2.2.1 "java/lang/IndexOutOfBoundsException" (by decide))) (vx_c (va_Nw.use rfl (hX.2.2.2.2.2 _ (List.mem_of_getElem? (i := 0) rfl))) (vx_c (va_Nw.use rfl (hX.2.2.2.2.2 _ (List.mem_of_getElem? (i := 1) rfl))) (vx_c (va_Nw.use rfl (hX.2.2.2.2.2 _ (List.mem_of_getElem? (i := 2) rfl))) vx_n))))
  exact vx_throwS C.1 C.2.1 hl C.2.2.2.1 (by decide +kernel) (by decide +kernel) (hts _ hk) (hts _ hini) hstr hat good_IndexOutOfBoundsException hX.1 hX.2.1 h2 (h3.1.trans C.2.2.1.symm) d0 d3 d4 d6 d9 (fun x hx => absurd hx (fun h => hout x h)) hR.1 hR.2.1 hR.2.2.1 hR.2.2.2 C.2.2.2.2.2.1 (fun t _ hz hk => ⟨ho, h1.grow hk, ⟨Nat.le_trans h2.1 hz, fun q g1 g2 => by rw [hk q (Nat.lt_of_lt_of_le g1 h2.1)]; exact h2.2.1 q g1 g2⟩⟩) h2.2.2 hc hs
theorem xv_throw_IndexOutOfBoundsExceptionW (C : xC p m c s args meth G b cc nL RX7) (hl : l.stackTraces = false) (hX : xF b s) (hout : ∀ x ∈ c.exceptionTable.toList, False) {is : Nat} {text : String} {w : xWt} (i : Nat) (htx : xTexts[i]? = some (is, text)) (ho : o = .inr "java/lang/IndexOutOfBoundsException") (hk : Cond.classLink RX7 343 "java/lang/IndexOutOfBoundsException" ∈ gw) (hini : Cond.initialized "java/lang/IndexOutOfBoundsException" ∈ gw)
    (d0 : decode cc pc = .ok (.new 343, 3)) (d3 : decode cc (pc + 3) = .ok (.dup, 1)) (d4 : decode cc (pc + 4) = .ok (.ldc_w is, 3)) (d6 : decode cc (pc + 7) = .ok (.invokespecial 347, 3)) (d9 : decode cc (pc + 10) = .ok (.athrow, 1)) (hR : 5 < R.frames ∧ (st.map fun v => v.category).sum + 82 ≤ R.locals ∧ cells + 1 ≤ R.cells ∧ slots + 6 ≤ R.slots) (hc : cells + 1 ≤ mc) (hs : slots + 6 ≤ ms) (hP' : P' = CW G b w) : xW p l e R s m args below meth c (xvM below b o P' args s mc ms) b nL (CW G b w) cells slots pc lv st := by
  intro H locs ls h1 h2 h3
  have hts := C.2.2.2.2.1
  subst hP'
  obtain ⟨sa, hstr⟩ := hX.2.2.1 _ (List.mem_of_getElem? htx)
  have hat : ∀ w ∈ vx_atS RX7 347 "java/lang/IndexOutOfBoundsException" ["java/lang/RuntimeException", "java/lang/Exception"], w.before args s = true :=
    vx_hat (B := [Cond.castable "java/lang/IndexOutOfBoundsException" "java/lang/IndexOutOfBoundsException", .declares (Bundle.initS "java/lang/RuntimeException"), .declares (Bundle.initS "java/lang/Exception"), .declares (Bundle.initS Bundle.tN)]) (fun w hw => hts w (gw_x1 w hw)) bad_IndexOutOfBoundsException (vx_c (va_Nw.use rfl (hX.2.2.2.1 "java/lang/IndexOutOfBoundsException" (by decide))) (vx_c (va_Nw.use rfl (hX.2.2.2.2.2 _ (List.mem_of_getElem? (i := 0) rfl))) (vx_c (va_Nw.use rfl (hX.2.2.2.2.2 _ (List.mem_of_getElem? (i := 1) rfl))) (vx_c (va_Nw.use rfl (hX.2.2.2.2.2 _ (List.mem_of_getElem? (i := 2) rfl))) vx_n))))
  exact vx_throwSW C.1 C.2.1 hl C.2.2.2.1 (by decide +kernel) (by decide +kernel) (hts _ hk) (hts _ hini) hstr hat good_IndexOutOfBoundsException hX.1 hX.2.1 h2 (h3.1.trans C.2.2.1.symm) d0 d3 d4 d6 d9 (fun x hx => absurd hx (fun h => hout x h)) hR.1 hR.2.1 hR.2.2.1 hR.2.2.2 C.2.2.2.2.2.1 (fun t _ hz hk => ⟨ho, h1.grow hk, ⟨Nat.le_trans h2.1 hz, fun q g1 g2 => by rw [hk q (Nat.lt_of_lt_of_le g1 h2.1)]; exact h2.2.1 q g1 g2⟩⟩) h2.2.2 hc hs
theorem xv_throw_IllegalArgumentException (C : xC p m c s args meth G b cc nL RX7) (hl : l.stackTraces = false) (hX : xF b s) (hout : ∀ x ∈ c.exceptionTable.toList, False) {is : Nat} {text : String} {w : xWt} (i : Nat) (htx : xTexts[i]? = some (is, text)) (ho : o = .inr "java/lang/IllegalArgumentException") (hk : Cond.classLink RX7 181 "java/lang/IllegalArgumentException" ∈ gw) (hini : Cond.initialized "java/lang/IllegalArgumentException" ∈ gw)
    (d0 : decode cc pc = .ok (.new 181, 3)) (d3 : decode cc (pc + 3) = .ok (.dup, 1)) (d4 : decode cc (pc + 4) = .ok (.ldc is, 2)) (d6 : decode cc (pc + 6) = .ok (.invokespecial 185, 3)) (d9 : decode cc (pc + 9) = .ok (.athrow, 1)) (hR : 5 < R.frames ∧ (st.map fun v => v.category).sum + 82 ≤ R.locals ∧ cells + 1 ≤ R.cells ∧ slots + 6 ≤ R.slots) (hc : cells + 1 ≤ mc) (hs : slots + 6 ≤ ms) (hP' : P' = CW G b w) : xW p l e R s m args below meth c (xvM below b o P' args s mc ms) b nL (CW G b w) cells slots pc lv st := by
  intro H locs ls h1 h2 h3
  have hts := C.2.2.2.2.1
  subst hP'
  obtain ⟨sa, hstr⟩ := hX.2.2.1 _ (List.mem_of_getElem? htx)
  have hat : ∀ w ∈ vx_atS RX7 185 "java/lang/IllegalArgumentException" ["java/lang/RuntimeException", "java/lang/Exception"], w.before args s = true :=
    vx_hat (B := [Cond.castable "java/lang/IllegalArgumentException" "java/lang/IllegalArgumentException", .declares (Bundle.initS "java/lang/RuntimeException"), .declares (Bundle.initS "java/lang/Exception"), .declares (Bundle.initS Bundle.tN)]) (fun w hw => hts w (gw_x2 w hw)) bad_IllegalArgumentException (vx_c (va_Nw.use rfl (hX.2.2.2.1 "java/lang/IllegalArgumentException" (by decide))) (vx_c (va_Nw.use rfl (hX.2.2.2.2.2 _ (List.mem_of_getElem? (i := 0) rfl))) (vx_c (va_Nw.use rfl (hX.2.2.2.2.2 _ (List.mem_of_getElem? (i := 1) rfl))) (vx_c (va_Nw.use rfl (hX.2.2.2.2.2 _ (List.mem_of_getElem? (i := 2) rfl))) vx_n))))
  exact vx_throwS C.1 C.2.1 hl C.2.2.2.1 (by decide +kernel) (by decide +kernel) (hts _ hk) (hts _ hini) hstr hat good_IllegalArgumentException hX.1 hX.2.1 h2 (h3.1.trans C.2.2.1.symm) d0 d3 d4 d6 d9 (fun x hx => absurd hx (fun h => hout x h)) hR.1 hR.2.1 hR.2.2.1 hR.2.2.2 C.2.2.2.2.2.1 (fun t _ hz hk => ⟨ho, h1.grow hk, ⟨Nat.le_trans h2.1 hz, fun q g1 g2 => by rw [hk q (Nat.lt_of_lt_of_le g1 h2.1)]; exact h2.2.1 q g1 g2⟩⟩) h2.2.2 hc hs
theorem xv_throw_IllegalArgumentExceptionW (C : xC p m c s args meth G b cc nL RX7) (hl : l.stackTraces = false) (hX : xF b s) (hout : ∀ x ∈ c.exceptionTable.toList, False) {is : Nat} {text : String} {w : xWt} (i : Nat) (htx : xTexts[i]? = some (is, text)) (ho : o = .inr "java/lang/IllegalArgumentException") (hk : Cond.classLink RX7 181 "java/lang/IllegalArgumentException" ∈ gw) (hini : Cond.initialized "java/lang/IllegalArgumentException" ∈ gw)
    (d0 : decode cc pc = .ok (.new 181, 3)) (d3 : decode cc (pc + 3) = .ok (.dup, 1)) (d4 : decode cc (pc + 4) = .ok (.ldc_w is, 3)) (d6 : decode cc (pc + 7) = .ok (.invokespecial 185, 3)) (d9 : decode cc (pc + 10) = .ok (.athrow, 1)) (hR : 5 < R.frames ∧ (st.map fun v => v.category).sum + 82 ≤ R.locals ∧ cells + 1 ≤ R.cells ∧ slots + 6 ≤ R.slots) (hc : cells + 1 ≤ mc) (hs : slots + 6 ≤ ms) (hP' : P' = CW G b w) : xW p l e R s m args below meth c (xvM below b o P' args s mc ms) b nL (CW G b w) cells slots pc lv st := by
  intro H locs ls h1 h2 h3
  have hts := C.2.2.2.2.1
  subst hP'
  obtain ⟨sa, hstr⟩ := hX.2.2.1 _ (List.mem_of_getElem? htx)
  have hat : ∀ w ∈ vx_atS RX7 185 "java/lang/IllegalArgumentException" ["java/lang/RuntimeException", "java/lang/Exception"], w.before args s = true :=
    vx_hat (B := [Cond.castable "java/lang/IllegalArgumentException" "java/lang/IllegalArgumentException", .declares (Bundle.initS "java/lang/RuntimeException"), .declares (Bundle.initS "java/lang/Exception"), .declares (Bundle.initS Bundle.tN)]) (fun w hw => hts w (gw_x2 w hw)) bad_IllegalArgumentException (vx_c (va_Nw.use rfl (hX.2.2.2.1 "java/lang/IllegalArgumentException" (by decide))) (vx_c (va_Nw.use rfl (hX.2.2.2.2.2 _ (List.mem_of_getElem? (i := 0) rfl))) (vx_c (va_Nw.use rfl (hX.2.2.2.2.2 _ (List.mem_of_getElem? (i := 1) rfl))) (vx_c (va_Nw.use rfl (hX.2.2.2.2.2 _ (List.mem_of_getElem? (i := 2) rfl))) vx_n))))
  exact vx_throwSW C.1 C.2.1 hl C.2.2.2.1 (by decide +kernel) (by decide +kernel) (hts _ hk) (hts _ hini) hstr hat good_IllegalArgumentException hX.1 hX.2.1 h2 (h3.1.trans C.2.2.1.symm) d0 d3 d4 d6 d9 (fun x hx => absurd hx (fun h => hout x h)) hR.1 hR.2.1 hR.2.2.1 hR.2.2.2 C.2.2.2.2.2.1 (fun t _ hz hk => ⟨ho, h1.grow hk, ⟨Nat.le_trans h2.1 hz, fun q g1 g2 => by rw [hk q (Nat.lt_of_lt_of_le g1 h2.1)]; exact h2.2.1 q g1 g2⟩⟩) h2.2.2 hc hs
theorem cXV0_0 (C : xC p m c s args meth G b cc nL own) (hX : xF b s) (hout : ∀ x ∈ c.exceptionTable.toList, False) {β : Type} {val : β → Option Value} {y : MethodName} {bytes : ByteArray} {maxL index ci a0 d1 : Nat} {ret : Option FieldType} {fs : List Value} {K9 : vw_C} {rest : List Value} {M : Option ((Unit ⊕ String) × xWt)} {f : Unit → xWt → Option ((β ⊕ String) × xWt)} {o' : β ⊕ String} {w' : xWt} (hF : bx M f = some (o', w')) (h : ∀ (o1 : Unit ⊕ String) (w1 : xWt), M = some (o1, w1) → xMetX l G b y bytes maxL ret (xRX d1 (mco o1) (6 * mco o1)) (.ref a0 :: []) P (ov (fun _ => none) o1) (CW G b w1) (mco o1) (6 * mco o1))
    (hy : xVm y bytes maxL ret 0) (hl : Cond.methodLink own index y ∈ gw) (hR : d1 + 1 ≤ R.frames ∧ 8 + (maxL + 11) + 36 * d1 ≤ R.locals) (hci : vwCl[ci]? = some K9) (hK1 : K9.1 = y.cls) (hat : ∀ H, P H → va_at G.1 vwCl (a0, .inr (ci, fs)) H) (hcat : (rest.map fun v => v.category).sum ≤ 8) (hf : cells ≤ R.cells ∧ slots ≤ R.slots) (hfx : ∀ E, o' = .inr E → cells + 1 ≤ R.cells ∧ slots + 6 ≤ R.slots) (hc : ∀ E, o' = .inr E → cells + 1 ≤ mc ∧ slots + 6 ≤ ms) (d : decode cc pc = .ok (.invokevirtual index, 3))
    (k : ∀ (w1 : xWt), f () w1 = some (o', w') → xW p l e R s m args below meth c (xvM below b (ov val o') (CW G b w') args s mc ms) b nL (CW G b w1) cells slots (pc + 3) lv rest) : xW p l e R s m args below meth c (xvM below b (ov val o') (CW G b w') args s mc ms) b nL P cells slots pc lv (.ref a0 :: rest) := by
  intro H locs ls h1 h2 h3
  have hK : va_K G.1 vwCl (xT G) s := C.2.2.2.2.2.2.1
  match M, hF, h with
  | some (.inl a, w1), hF, h =>
    refine xv_back (rest := rest) (o1 := .inl none) (mc1 := 0) (ms1 := 0) H locs ls h2 h3 (vx_runV (rm := xRX d1 (mco (Sum.inl a : Unit ⊕ String)) (6 * (mco (Sum.inl a : Unit ⊕ String)))) (As := []) (rest := rest) (C := K9.1) ⟨C.1, C.2.1, C.2.2.1, C.2.2.2.1, C.2.2.2.2.1⟩ (h _ _ rfl) ⟨x_callB C hy.1 hy.2.1 hl rfl rfl hy.2.2.2.2 hR, C.2.2.2.2.1 _ hy.2.2.1, C.2.2.2.2.1 _ (by rw [hK1]; exact hy.2.2.2.1)⟩ ⟨xPcX.blind, va_recv (q0 := 0) (ws := [(a0, .inr (ci, fs))]) hK (fun j q hq => by
      match j, hq with
      | 0, hq => cases hq; exact hat H h1
      | j + 1, hq => simp at hq) hci rfl, fun U hU hW => ⟨rfl, by rw [hU]; exact h1, hK.moved hW.alike, by rw [hU]; exact Nat.le_trans C.2.2.2.2.2.2.2 h2.1, hX.next hW (by rw [hU]; exact h2)⟩⟩ rfl rfl h3.1 rfl (lv_room hcat) d hf) (fun v hv => by cases hv; exact k w1 hF) (fun E hE => by cases hE)
  | some (.inr E, w1), hF, h =>
    cases hF
    refine xv_back (rest := rest) (o1 := .inr E) (mc1 := 1) (ms1 := 6) H locs ls h2 h3 (vx_runV (rm := xRX d1 (mco (Sum.inr E : Unit ⊕ String)) (6 * (mco (Sum.inr E : Unit ⊕ String)))) (As := []) (rest := rest) (C := K9.1) ⟨C.1, C.2.1, C.2.2.1, C.2.2.2.1, C.2.2.2.2.1⟩ (h _ _ rfl) ⟨x_callB C hy.1 hy.2.1 hl rfl rfl hy.2.2.2.2 hR, C.2.2.2.2.1 _ hy.2.2.1, C.2.2.2.2.1 _ (by rw [hK1]; exact hy.2.2.2.1)⟩ ⟨xPcX.blind, va_recv (q0 := 0) (ws := [(a0, .inr (ci, fs))]) hK (fun j q hq => by
      match j, hq with
      | 0, hq => cases hq; exact hat H h1
      | j + 1, hq => simp at hq) hci rfl, fun U hU hW => ⟨rfl, by rw [hU]; exact h1, hK.moved hW.alike, by rw [hU]; exact Nat.le_trans C.2.2.2.2.2.2.2 h2.1, hX.next hW (by rw [hU]; exact h2)⟩⟩ rfl rfl h3.1 rfl (lv_room hcat) d (hfx E rfl)) (fun v hv => by cases hv) (fun E' hE H1 locs1 q ce g1 g2 g3 g4 g5 => by cases hE; exact xv_out C hout rfl g1 g2 g3 g4 g5 (hc E rfl).1 (hc E rfl).2)
theorem cXV0_1 (C : xC p m c s args meth G b cc nL own) (hX : xF b s) (hout : ∀ x ∈ c.exceptionTable.toList, False) {β : Type} {val : β → Option Value} {v1 : Value} {y : MethodName} {bytes : ByteArray} {maxL index ci a0 d1 : Nat} {ret : Option FieldType} {fs : List Value} {K9 : vw_C} {rest : List Value} {M : Option ((Unit ⊕ String) × xWt)} {f : Unit → xWt → Option ((β ⊕ String) × xWt)} {o' : β ⊕ String} {w' : xWt} (hF : bx M f = some (o', w')) (h : ∀ (o1 : Unit ⊕ String) (w1 : xWt), M = some (o1, w1) → xMetX l G b y bytes maxL ret (xRX d1 (mco o1) (6 * mco o1)) (.ref a0 :: [v1]) P (ov (fun _ => none) o1) (CW G b w1) (mco o1) (6 * mco o1))
    (hy : xVm y bytes maxL ret 1) (hl : Cond.methodLink own index y ∈ gw) (hR : d1 + 1 ≤ R.frames ∧ 8 + (maxL + 11) + 36 * d1 ≤ R.locals) (hci : vwCl[ci]? = some K9) (hK1 : K9.1 = y.cls) (hat : ∀ H, P H → va_at G.1 vwCl (a0, .inr (ci, fs)) H) (hcat : (rest.map fun v => v.category).sum ≤ 8) (hf : cells ≤ R.cells ∧ slots ≤ R.slots) (hfx : ∀ E, o' = .inr E → cells + 1 ≤ R.cells ∧ slots + 6 ≤ R.slots) (hc : ∀ E, o' = .inr E → cells + 1 ≤ mc ∧ slots + 6 ≤ ms) (d : decode cc pc = .ok (.invokevirtual index, 3))
    (k : ∀ (w1 : xWt), f () w1 = some (o', w') → xW p l e R s m args below meth c (xvM below b (ov val o') (CW G b w') args s mc ms) b nL (CW G b w1) cells slots (pc + 3) lv rest) : xW p l e R s m args below meth c (xvM below b (ov val o') (CW G b w') args s mc ms) b nL P cells slots pc lv (v1 :: .ref a0 :: rest) := by
  intro H locs ls h1 h2 h3
  have hK : va_K G.1 vwCl (xT G) s := C.2.2.2.2.2.2.1
  match M, hF, h with
  | some (.inl a, w1), hF, h =>
    refine xv_back (rest := rest) (o1 := .inl none) (mc1 := 0) (ms1 := 0) H locs ls h2 h3 (vx_runV (rm := xRX d1 (mco (Sum.inl a : Unit ⊕ String)) (6 * (mco (Sum.inl a : Unit ⊕ String)))) (As := [v1]) (rest := rest) (C := K9.1) ⟨C.1, C.2.1, C.2.2.1, C.2.2.2.1, C.2.2.2.2.1⟩ (h _ _ rfl) ⟨x_callB C hy.1 hy.2.1 hl rfl rfl hy.2.2.2.2 hR, C.2.2.2.2.1 _ hy.2.2.1, C.2.2.2.2.1 _ (by rw [hK1]; exact hy.2.2.2.1)⟩ ⟨xPcX.blind, va_recv (q0 := 0) (ws := [(a0, .inr (ci, fs))]) hK (fun j q hq => by
      match j, hq with
      | 0, hq => cases hq; exact hat H h1
      | j + 1, hq => simp at hq) hci rfl, fun U hU hW => ⟨rfl, by rw [hU]; exact h1, hK.moved hW.alike, by rw [hU]; exact Nat.le_trans C.2.2.2.2.2.2.2 h2.1, hX.next hW (by rw [hU]; exact h2)⟩⟩ rfl rfl h3.1 rfl (lv_room hcat) d hf) (fun v hv => by cases hv; exact k w1 hF) (fun E hE => by cases hE)
  | some (.inr E, w1), hF, h =>
    cases hF
    refine xv_back (rest := rest) (o1 := .inr E) (mc1 := 1) (ms1 := 6) H locs ls h2 h3 (vx_runV (rm := xRX d1 (mco (Sum.inr E : Unit ⊕ String)) (6 * (mco (Sum.inr E : Unit ⊕ String)))) (As := [v1]) (rest := rest) (C := K9.1) ⟨C.1, C.2.1, C.2.2.1, C.2.2.2.1, C.2.2.2.2.1⟩ (h _ _ rfl) ⟨x_callB C hy.1 hy.2.1 hl rfl rfl hy.2.2.2.2 hR, C.2.2.2.2.1 _ hy.2.2.1, C.2.2.2.2.1 _ (by rw [hK1]; exact hy.2.2.2.1)⟩ ⟨xPcX.blind, va_recv (q0 := 0) (ws := [(a0, .inr (ci, fs))]) hK (fun j q hq => by
      match j, hq with
      | 0, hq => cases hq; exact hat H h1
      | j + 1, hq => simp at hq) hci rfl, fun U hU hW => ⟨rfl, by rw [hU]; exact h1, hK.moved hW.alike, by rw [hU]; exact Nat.le_trans C.2.2.2.2.2.2.2 h2.1, hX.next hW (by rw [hU]; exact h2)⟩⟩ rfl rfl h3.1 rfl (lv_room hcat) d (hfx E rfl)) (fun v hv => by cases hv) (fun E' hE H1 locs1 q ce g1 g2 g3 g4 g5 => by cases hE; exact xv_out C hout rfl g1 g2 g3 g4 g5 (hc E rfl).1 (hc E rfl).2)
theorem cXS0_1 (C : xC p m c s args meth G b cc nL own) (hX : xF b s) (hout : ∀ x ∈ c.exceptionTable.toList, False) {β : Type} {val : β → Option Value} {v1 : Value} {y : MethodName} {bytes : ByteArray} {maxL index d1 : Nat} {ret : Option FieldType} {rest : List Value} {M : Option ((Unit ⊕ String) × xWt)} {f : Unit → xWt → Option ((β ⊕ String) × xWt)} {o' : β ⊕ String} {w' : xWt} (hF : bx M f = some (o', w')) (h : ∀ (o1 : Unit ⊕ String) (w1 : xWt), M = some (o1, w1) → xMetX l G b y bytes maxL ret (xRX d1 (mco o1) (6 * mco o1)) ([v1]) P (ov (fun _ => none) o1) (CW G b w1) (mco o1) (6 * mco o1))
    (hy : xSm y bytes maxL ret 1) (hl : Cond.methodLink own index y ∈ gw) (hR : d1 + 1 ≤ R.frames ∧ 8 + (maxL + 11) + 36 * d1 ≤ R.locals) (hcat : (rest.map fun v => v.category).sum ≤ 8) (hf : cells ≤ R.cells ∧ slots ≤ R.slots) (hfx : ∀ E, o' = .inr E → cells + 1 ≤ R.cells ∧ slots + 6 ≤ R.slots) (hc : ∀ E, o' = .inr E → cells + 1 ≤ mc ∧ slots + 6 ≤ ms) (d : decode cc pc = .ok (.invokestatic index, 3))
    (k : ∀ (w1 : xWt), f () w1 = some (o', w') → xW p l e R s m args below meth c (xvM below b (ov val o') (CW G b w') args s mc ms) b nL (CW G b w1) cells slots (pc + 3) lv rest) : xW p l e R s m args below meth c (xvM below b (ov val o') (CW G b w') args s mc ms) b nL P cells slots pc lv (v1 :: rest) := by
  intro H locs ls h1 h2 h3
  have hK : va_K G.1 vwCl (xT G) s := C.2.2.2.2.2.2.1
  match M, hF, h with
  | some (.inl a, w1), hF, h =>
    refine xv_back (rest := rest) (o1 := .inl none) (mc1 := 0) (ms1 := 0) H locs ls h2 h3 (vx_runS (rm := xRX d1 (mco (Sum.inl a : Unit ⊕ String)) (6 * (mco (Sum.inl a : Unit ⊕ String)))) (As := [v1]) (rest := rest) ⟨C.1, C.2.1, C.2.2.1, C.2.2.2.1, C.2.2.2.2.1⟩ (h _ _ rfl) ⟨x_callB C hy.1 hy.2.1 hl rfl rfl hy.2.2.2 hR, C.2.2.2.2.1 _ hy.2.2.1⟩ ⟨xPcX.blind, fun U hU hW => ⟨rfl, by rw [hU]; exact h1, hK.moved hW.alike, by rw [hU]; exact Nat.le_trans C.2.2.2.2.2.2.2 h2.1, hX.next hW (by rw [hU]; exact h2)⟩⟩ rfl rfl h3.1 rfl (lv_room hcat) d hf) (fun v hv => by cases hv; exact k w1 hF) (fun E hE => by cases hE)
  | some (.inr E, w1), hF, h =>
    cases hF
    refine xv_back (rest := rest) (o1 := .inr E) (mc1 := 1) (ms1 := 6) H locs ls h2 h3 (vx_runS (rm := xRX d1 (mco (Sum.inr E : Unit ⊕ String)) (6 * (mco (Sum.inr E : Unit ⊕ String)))) (As := [v1]) (rest := rest) ⟨C.1, C.2.1, C.2.2.1, C.2.2.2.1, C.2.2.2.2.1⟩ (h _ _ rfl) ⟨x_callB C hy.1 hy.2.1 hl rfl rfl hy.2.2.2 hR, C.2.2.2.2.1 _ hy.2.2.1⟩ ⟨xPcX.blind, fun U hU hW => ⟨rfl, by rw [hU]; exact h1, hK.moved hW.alike, by rw [hU]; exact Nat.le_trans C.2.2.2.2.2.2.2 h2.1, hX.next hW (by rw [hU]; exact h2)⟩⟩ rfl rfl h3.1 rfl (lv_room hcat) d (hfx E rfl)) (fun v hv => by cases hv) (fun E' hE H1 locs1 q ce g1 g2 g3 g4 g5 => by cases hE; exact xv_out C hout rfl g1 g2 g3 g4 g5 (hc E rfl).1 (hc E rfl).2)
theorem cXV0_2 (C : xC p m c s args meth G b cc nL own) (hX : xF b s) (hout : ∀ x ∈ c.exceptionTable.toList, False) {β : Type} {val : β → Option Value} {v1 v2 : Value} {y : MethodName} {bytes : ByteArray} {maxL index ci a0 d1 : Nat} {ret : Option FieldType} {fs : List Value} {K9 : vw_C} {rest : List Value} {M : Option ((Unit ⊕ String) × xWt)} {f : Unit → xWt → Option ((β ⊕ String) × xWt)} {o' : β ⊕ String} {w' : xWt} (hF : bx M f = some (o', w')) (h : ∀ (o1 : Unit ⊕ String) (w1 : xWt), M = some (o1, w1) → xMetX l G b y bytes maxL ret (xRX d1 (mco o1) (6 * mco o1)) (.ref a0 :: [v1, v2]) P (ov (fun _ => none) o1) (CW G b w1) (mco o1) (6 * mco o1))
    (hy : xVm y bytes maxL ret 2) (hl : Cond.methodLink own index y ∈ gw) (hR : d1 + 1 ≤ R.frames ∧ 8 + (maxL + 11) + 36 * d1 ≤ R.locals) (hci : vwCl[ci]? = some K9) (hK1 : K9.1 = y.cls) (hat : ∀ H, P H → va_at G.1 vwCl (a0, .inr (ci, fs)) H) (hcat : (rest.map fun v => v.category).sum ≤ 8) (hf : cells ≤ R.cells ∧ slots ≤ R.slots) (hfx : ∀ E, o' = .inr E → cells + 1 ≤ R.cells ∧ slots + 6 ≤ R.slots) (hc : ∀ E, o' = .inr E → cells + 1 ≤ mc ∧ slots + 6 ≤ ms) (d : decode cc pc = .ok (.invokevirtual index, 3))
    (k : ∀ (w1 : xWt), f () w1 = some (o', w') → xW p l e R s m args below meth c (xvM below b (ov val o') (CW G b w') args s mc ms) b nL (CW G b w1) cells slots (pc + 3) lv rest) : xW p l e R s m args below meth c (xvM below b (ov val o') (CW G b w') args s mc ms) b nL P cells slots pc lv (v2 :: v1 :: .ref a0 :: rest) := by
  intro H locs ls h1 h2 h3
  have hK : va_K G.1 vwCl (xT G) s := C.2.2.2.2.2.2.1
  match M, hF, h with
  | some (.inl a, w1), hF, h =>
    refine xv_back (rest := rest) (o1 := .inl none) (mc1 := 0) (ms1 := 0) H locs ls h2 h3 (vx_runV (rm := xRX d1 (mco (Sum.inl a : Unit ⊕ String)) (6 * (mco (Sum.inl a : Unit ⊕ String)))) (As := [v1, v2]) (rest := rest) (C := K9.1) ⟨C.1, C.2.1, C.2.2.1, C.2.2.2.1, C.2.2.2.2.1⟩ (h _ _ rfl) ⟨x_callB C hy.1 hy.2.1 hl rfl rfl hy.2.2.2.2 hR, C.2.2.2.2.1 _ hy.2.2.1, C.2.2.2.2.1 _ (by rw [hK1]; exact hy.2.2.2.1)⟩ ⟨xPcX.blind, va_recv (q0 := 0) (ws := [(a0, .inr (ci, fs))]) hK (fun j q hq => by
      match j, hq with
      | 0, hq => cases hq; exact hat H h1
      | j + 1, hq => simp at hq) hci rfl, fun U hU hW => ⟨rfl, by rw [hU]; exact h1, hK.moved hW.alike, by rw [hU]; exact Nat.le_trans C.2.2.2.2.2.2.2 h2.1, hX.next hW (by rw [hU]; exact h2)⟩⟩ rfl rfl h3.1 rfl (lv_room hcat) d hf) (fun v hv => by cases hv; exact k w1 hF) (fun E hE => by cases hE)
  | some (.inr E, w1), hF, h =>
    cases hF
    refine xv_back (rest := rest) (o1 := .inr E) (mc1 := 1) (ms1 := 6) H locs ls h2 h3 (vx_runV (rm := xRX d1 (mco (Sum.inr E : Unit ⊕ String)) (6 * (mco (Sum.inr E : Unit ⊕ String)))) (As := [v1, v2]) (rest := rest) (C := K9.1) ⟨C.1, C.2.1, C.2.2.1, C.2.2.2.1, C.2.2.2.2.1⟩ (h _ _ rfl) ⟨x_callB C hy.1 hy.2.1 hl rfl rfl hy.2.2.2.2 hR, C.2.2.2.2.1 _ hy.2.2.1, C.2.2.2.2.1 _ (by rw [hK1]; exact hy.2.2.2.1)⟩ ⟨xPcX.blind, va_recv (q0 := 0) (ws := [(a0, .inr (ci, fs))]) hK (fun j q hq => by
      match j, hq with
      | 0, hq => cases hq; exact hat H h1
      | j + 1, hq => simp at hq) hci rfl, fun U hU hW => ⟨rfl, by rw [hU]; exact h1, hK.moved hW.alike, by rw [hU]; exact Nat.le_trans C.2.2.2.2.2.2.2 h2.1, hX.next hW (by rw [hU]; exact h2)⟩⟩ rfl rfl h3.1 rfl (lv_room hcat) d (hfx E rfl)) (fun v hv => by cases hv) (fun E' hE H1 locs1 q ce g1 g2 g3 g4 g5 => by cases hE; exact xv_out C hout rfl g1 g2 g3 g4 g5 (hc E rfl).1 (hc E rfl).2)
theorem cXS0_2 (C : xC p m c s args meth G b cc nL own) (hX : xF b s) (hout : ∀ x ∈ c.exceptionTable.toList, False) {β : Type} {val : β → Option Value} {v1 v2 : Value} {y : MethodName} {bytes : ByteArray} {maxL index d1 : Nat} {ret : Option FieldType} {rest : List Value} {M : Option ((Unit ⊕ String) × xWt)} {f : Unit → xWt → Option ((β ⊕ String) × xWt)} {o' : β ⊕ String} {w' : xWt} (hF : bx M f = some (o', w')) (h : ∀ (o1 : Unit ⊕ String) (w1 : xWt), M = some (o1, w1) → xMetX l G b y bytes maxL ret (xRX d1 (mco o1) (6 * mco o1)) ([v1, v2]) P (ov (fun _ => none) o1) (CW G b w1) (mco o1) (6 * mco o1))
    (hy : xSm y bytes maxL ret 2) (hl : Cond.methodLink own index y ∈ gw) (hR : d1 + 1 ≤ R.frames ∧ 8 + (maxL + 11) + 36 * d1 ≤ R.locals) (hcat : (rest.map fun v => v.category).sum ≤ 8) (hf : cells ≤ R.cells ∧ slots ≤ R.slots) (hfx : ∀ E, o' = .inr E → cells + 1 ≤ R.cells ∧ slots + 6 ≤ R.slots) (hc : ∀ E, o' = .inr E → cells + 1 ≤ mc ∧ slots + 6 ≤ ms) (d : decode cc pc = .ok (.invokestatic index, 3))
    (k : ∀ (w1 : xWt), f () w1 = some (o', w') → xW p l e R s m args below meth c (xvM below b (ov val o') (CW G b w') args s mc ms) b nL (CW G b w1) cells slots (pc + 3) lv rest) : xW p l e R s m args below meth c (xvM below b (ov val o') (CW G b w') args s mc ms) b nL P cells slots pc lv (v2 :: v1 :: rest) := by
  intro H locs ls h1 h2 h3
  have hK : va_K G.1 vwCl (xT G) s := C.2.2.2.2.2.2.1
  match M, hF, h with
  | some (.inl a, w1), hF, h =>
    refine xv_back (rest := rest) (o1 := .inl none) (mc1 := 0) (ms1 := 0) H locs ls h2 h3 (vx_runS (rm := xRX d1 (mco (Sum.inl a : Unit ⊕ String)) (6 * (mco (Sum.inl a : Unit ⊕ String)))) (As := [v1, v2]) (rest := rest) ⟨C.1, C.2.1, C.2.2.1, C.2.2.2.1, C.2.2.2.2.1⟩ (h _ _ rfl) ⟨x_callB C hy.1 hy.2.1 hl rfl rfl hy.2.2.2 hR, C.2.2.2.2.1 _ hy.2.2.1⟩ ⟨xPcX.blind, fun U hU hW => ⟨rfl, by rw [hU]; exact h1, hK.moved hW.alike, by rw [hU]; exact Nat.le_trans C.2.2.2.2.2.2.2 h2.1, hX.next hW (by rw [hU]; exact h2)⟩⟩ rfl rfl h3.1 rfl (lv_room hcat) d hf) (fun v hv => by cases hv; exact k w1 hF) (fun E hE => by cases hE)
  | some (.inr E, w1), hF, h =>
    cases hF
    refine xv_back (rest := rest) (o1 := .inr E) (mc1 := 1) (ms1 := 6) H locs ls h2 h3 (vx_runS (rm := xRX d1 (mco (Sum.inr E : Unit ⊕ String)) (6 * (mco (Sum.inr E : Unit ⊕ String)))) (As := [v1, v2]) (rest := rest) ⟨C.1, C.2.1, C.2.2.1, C.2.2.2.1, C.2.2.2.2.1⟩ (h _ _ rfl) ⟨x_callB C hy.1 hy.2.1 hl rfl rfl hy.2.2.2 hR, C.2.2.2.2.1 _ hy.2.2.1⟩ ⟨xPcX.blind, fun U hU hW => ⟨rfl, by rw [hU]; exact h1, hK.moved hW.alike, by rw [hU]; exact Nat.le_trans C.2.2.2.2.2.2.2 h2.1, hX.next hW (by rw [hU]; exact h2)⟩⟩ rfl rfl h3.1 rfl (lv_room hcat) d (hfx E rfl)) (fun v hv => by cases hv) (fun E' hE H1 locs1 q ce g1 g2 g3 g4 g5 => by cases hE; exact xv_out C hout rfl g1 g2 g3 g4 g5 (hc E rfl).1 (hc E rfl).2)
theorem cXV0_3 (C : xC p m c s args meth G b cc nL own) (hX : xF b s) (hout : ∀ x ∈ c.exceptionTable.toList, False) {β : Type} {val : β → Option Value} {v1 v2 v3 : Value} {y : MethodName} {bytes : ByteArray} {maxL index ci a0 d1 : Nat} {ret : Option FieldType} {fs : List Value} {K9 : vw_C} {rest : List Value} {M : Option ((Unit ⊕ String) × xWt)} {f : Unit → xWt → Option ((β ⊕ String) × xWt)} {o' : β ⊕ String} {w' : xWt} (hF : bx M f = some (o', w')) (h : ∀ (o1 : Unit ⊕ String) (w1 : xWt), M = some (o1, w1) → xMetX l G b y bytes maxL ret (xRX d1 (mco o1) (6 * mco o1)) (.ref a0 :: [v1, v2, v3]) P (ov (fun _ => none) o1) (CW G b w1) (mco o1) (6 * mco o1))
    (hy : xVm y bytes maxL ret 3) (hl : Cond.methodLink own index y ∈ gw) (hR : d1 + 1 ≤ R.frames ∧ 8 + (maxL + 11) + 36 * d1 ≤ R.locals) (hci : vwCl[ci]? = some K9) (hK1 : K9.1 = y.cls) (hat : ∀ H, P H → va_at G.1 vwCl (a0, .inr (ci, fs)) H) (hcat : (rest.map fun v => v.category).sum ≤ 8) (hf : cells ≤ R.cells ∧ slots ≤ R.slots) (hfx : ∀ E, o' = .inr E → cells + 1 ≤ R.cells ∧ slots + 6 ≤ R.slots) (hc : ∀ E, o' = .inr E → cells + 1 ≤ mc ∧ slots + 6 ≤ ms) (d : decode cc pc = .ok (.invokevirtual index, 3))
    (k : ∀ (w1 : xWt), f () w1 = some (o', w') → xW p l e R s m args below meth c (xvM below b (ov val o') (CW G b w') args s mc ms) b nL (CW G b w1) cells slots (pc + 3) lv rest) : xW p l e R s m args below meth c (xvM below b (ov val o') (CW G b w') args s mc ms) b nL P cells slots pc lv (v3 :: v2 :: v1 :: .ref a0 :: rest) := by
  intro H locs ls h1 h2 h3
  have hK : va_K G.1 vwCl (xT G) s := C.2.2.2.2.2.2.1
  match M, hF, h with
  | some (.inl a, w1), hF, h =>
    refine xv_back (rest := rest) (o1 := .inl none) (mc1 := 0) (ms1 := 0) H locs ls h2 h3 (vx_runV (rm := xRX d1 (mco (Sum.inl a : Unit ⊕ String)) (6 * (mco (Sum.inl a : Unit ⊕ String)))) (As := [v1, v2, v3]) (rest := rest) (C := K9.1) ⟨C.1, C.2.1, C.2.2.1, C.2.2.2.1, C.2.2.2.2.1⟩ (h _ _ rfl) ⟨x_callB C hy.1 hy.2.1 hl rfl rfl hy.2.2.2.2 hR, C.2.2.2.2.1 _ hy.2.2.1, C.2.2.2.2.1 _ (by rw [hK1]; exact hy.2.2.2.1)⟩ ⟨xPcX.blind, va_recv (q0 := 0) (ws := [(a0, .inr (ci, fs))]) hK (fun j q hq => by
      match j, hq with
      | 0, hq => cases hq; exact hat H h1
      | j + 1, hq => simp at hq) hci rfl, fun U hU hW => ⟨rfl, by rw [hU]; exact h1, hK.moved hW.alike, by rw [hU]; exact Nat.le_trans C.2.2.2.2.2.2.2 h2.1, hX.next hW (by rw [hU]; exact h2)⟩⟩ rfl rfl h3.1 rfl (lv_room hcat) d hf) (fun v hv => by cases hv; exact k w1 hF) (fun E hE => by cases hE)
  | some (.inr E, w1), hF, h =>
    cases hF
    refine xv_back (rest := rest) (o1 := .inr E) (mc1 := 1) (ms1 := 6) H locs ls h2 h3 (vx_runV (rm := xRX d1 (mco (Sum.inr E : Unit ⊕ String)) (6 * (mco (Sum.inr E : Unit ⊕ String)))) (As := [v1, v2, v3]) (rest := rest) (C := K9.1) ⟨C.1, C.2.1, C.2.2.1, C.2.2.2.1, C.2.2.2.2.1⟩ (h _ _ rfl) ⟨x_callB C hy.1 hy.2.1 hl rfl rfl hy.2.2.2.2 hR, C.2.2.2.2.1 _ hy.2.2.1, C.2.2.2.2.1 _ (by rw [hK1]; exact hy.2.2.2.1)⟩ ⟨xPcX.blind, va_recv (q0 := 0) (ws := [(a0, .inr (ci, fs))]) hK (fun j q hq => by
      match j, hq with
      | 0, hq => cases hq; exact hat H h1
      | j + 1, hq => simp at hq) hci rfl, fun U hU hW => ⟨rfl, by rw [hU]; exact h1, hK.moved hW.alike, by rw [hU]; exact Nat.le_trans C.2.2.2.2.2.2.2 h2.1, hX.next hW (by rw [hU]; exact h2)⟩⟩ rfl rfl h3.1 rfl (lv_room hcat) d (hfx E rfl)) (fun v hv => by cases hv) (fun E' hE H1 locs1 q ce g1 g2 g3 g4 g5 => by cases hE; exact xv_out C hout rfl g1 g2 g3 g4 g5 (hc E rfl).1 (hc E rfl).2)
theorem cXS0_3 (C : xC p m c s args meth G b cc nL own) (hX : xF b s) (hout : ∀ x ∈ c.exceptionTable.toList, False) {β : Type} {val : β → Option Value} {v1 v2 v3 : Value} {y : MethodName} {bytes : ByteArray} {maxL index d1 : Nat} {ret : Option FieldType} {rest : List Value} {M : Option ((Unit ⊕ String) × xWt)} {f : Unit → xWt → Option ((β ⊕ String) × xWt)} {o' : β ⊕ String} {w' : xWt} (hF : bx M f = some (o', w')) (h : ∀ (o1 : Unit ⊕ String) (w1 : xWt), M = some (o1, w1) → xMetX l G b y bytes maxL ret (xRX d1 (mco o1) (6 * mco o1)) ([v1, v2, v3]) P (ov (fun _ => none) o1) (CW G b w1) (mco o1) (6 * mco o1))
    (hy : xSm y bytes maxL ret 3) (hl : Cond.methodLink own index y ∈ gw) (hR : d1 + 1 ≤ R.frames ∧ 8 + (maxL + 11) + 36 * d1 ≤ R.locals) (hcat : (rest.map fun v => v.category).sum ≤ 8) (hf : cells ≤ R.cells ∧ slots ≤ R.slots) (hfx : ∀ E, o' = .inr E → cells + 1 ≤ R.cells ∧ slots + 6 ≤ R.slots) (hc : ∀ E, o' = .inr E → cells + 1 ≤ mc ∧ slots + 6 ≤ ms) (d : decode cc pc = .ok (.invokestatic index, 3))
    (k : ∀ (w1 : xWt), f () w1 = some (o', w') → xW p l e R s m args below meth c (xvM below b (ov val o') (CW G b w') args s mc ms) b nL (CW G b w1) cells slots (pc + 3) lv rest) : xW p l e R s m args below meth c (xvM below b (ov val o') (CW G b w') args s mc ms) b nL P cells slots pc lv (v3 :: v2 :: v1 :: rest) := by
  intro H locs ls h1 h2 h3
  have hK : va_K G.1 vwCl (xT G) s := C.2.2.2.2.2.2.1
  match M, hF, h with
  | some (.inl a, w1), hF, h =>
    refine xv_back (rest := rest) (o1 := .inl none) (mc1 := 0) (ms1 := 0) H locs ls h2 h3 (vx_runS (rm := xRX d1 (mco (Sum.inl a : Unit ⊕ String)) (6 * (mco (Sum.inl a : Unit ⊕ String)))) (As := [v1, v2, v3]) (rest := rest) ⟨C.1, C.2.1, C.2.2.1, C.2.2.2.1, C.2.2.2.2.1⟩ (h _ _ rfl) ⟨x_callB C hy.1 hy.2.1 hl rfl rfl hy.2.2.2 hR, C.2.2.2.2.1 _ hy.2.2.1⟩ ⟨xPcX.blind, fun U hU hW => ⟨rfl, by rw [hU]; exact h1, hK.moved hW.alike, by rw [hU]; exact Nat.le_trans C.2.2.2.2.2.2.2 h2.1, hX.next hW (by rw [hU]; exact h2)⟩⟩ rfl rfl h3.1 rfl (lv_room hcat) d hf) (fun v hv => by cases hv; exact k w1 hF) (fun E hE => by cases hE)
  | some (.inr E, w1), hF, h =>
    cases hF
    refine xv_back (rest := rest) (o1 := .inr E) (mc1 := 1) (ms1 := 6) H locs ls h2 h3 (vx_runS (rm := xRX d1 (mco (Sum.inr E : Unit ⊕ String)) (6 * (mco (Sum.inr E : Unit ⊕ String)))) (As := [v1, v2, v3]) (rest := rest) ⟨C.1, C.2.1, C.2.2.1, C.2.2.2.1, C.2.2.2.2.1⟩ (h _ _ rfl) ⟨x_callB C hy.1 hy.2.1 hl rfl rfl hy.2.2.2 hR, C.2.2.2.2.1 _ hy.2.2.1⟩ ⟨xPcX.blind, fun U hU hW => ⟨rfl, by rw [hU]; exact h1, hK.moved hW.alike, by rw [hU]; exact Nat.le_trans C.2.2.2.2.2.2.2 h2.1, hX.next hW (by rw [hU]; exact h2)⟩⟩ rfl rfl h3.1 rfl (lv_room hcat) d (hfx E rfl)) (fun v hv => by cases hv) (fun E' hE H1 locs1 q ce g1 g2 g3 g4 g5 => by cases hE; exact xv_out C hout rfl g1 g2 g3 g4 g5 (hc E rfl).1 (hc E rfl).2)
end XThrow
