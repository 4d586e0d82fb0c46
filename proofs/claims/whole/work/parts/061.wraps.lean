/-! the law's small methods: a call of the face, and what it throws as a number -/
abbrev xWsH (y : MethodName) (cc : ByteArray) (n : Nat) (ret : Option FieldType) (hh : List (Nat × Nat × Nat × Nat)) : List Cond := Cond.codeWith y cc n ret hh :: gw
def xMetL (l : Launch) (G : xG) (b : Nat) (y : MethodName) (cc : ByteArray) (n : Nat) (ret : Option FieldType) (hh : List (Nat × Nat × Nat × Nat)) (rm : Room) (as : List Value) (P : Heap → Prop) (v : Option Value) (P' : Heap → Prop) (mc ms : Nat) : Prop :=
  vx_Met l y (xWsH y cc n ret hh) rm (xPcX G b as P) (xQ b v P') (fun _ _ _ => False) mc ms (xA b)
abbrev xlM (below : List Frame) (b : Nat) (v : Option Value) (P' : Heap → Prop) (args : Array Value) (s : State) (mc ms : Nat) : State → Prop := vx_MQ below (xQ b v P') (fun _ _ _ => False) args s mc ms (xA b)
def hcode : List String → Int32 → String → Option Int32
  | [], _, _ => none
  | E :: r, n, X => if X = E then some n else hcode r (n + 1) X
def lwrap (M : Option ((Int32 ⊕ String) × xWt)) (Es : List String) : Option (Int32 × xWt) := match M with
  | some (.inl v, w1) => match w1.2.2 with
    | some _ => some (0, sO w1 v.toInt64)
    | none => none
  | some (.inr E, w1) => (hcode Es 1 E).map (fun n => (n, w1))
  | none => none
def old {β : Type} (w : xWt) (f : Int64 → Option β) : Option β := match w.2.2 with
  | some v => f v
  | none => none
section XL
variable {p : Program} {l : Launch} {e : Env} {R : Room} {s : State} {m : MethodId} {args : Array Value} {below : List Frame} {meth : Method} {c : Code} {Q : State → Prop} {b nL : Nat} {P P' : Heap → Prop} {cells slots pc mc ms : Nat} {lv lv' : List (Nat × Value)} {st : List Value} {G : xG} {cc : ByteArray} {own : String} {w : xWt}
theorem x_ofL {y : MethodName} {ret : Option FieldType} {hh : List (Nat × Nat × Nat × Nat)} {rm : Room} {as : List Value} {v : Option Value} (ho : y.cls = own) (hy : plainName y.cls = true) (hlen : (lg_sl as).length ≤ nL)
    (body : ∀ p e s m args below meth c, args = as.toArray → xC p m c s args meth G b cc nL own → meth.sig.returnType = ret → xF b s → c.exceptionTable.toList = tableOf hh → xW p l e rm s m args below meth c (xlM below b v P' args s mc ms) b nL P 0 0 0 (lv_args 0 as) []) : xMetL l G b y cc nL ret hh rm as P v P' mc ms := by
  subst ho
  refine vx_ofWH (cc := cc) (maxL := nL) (ret := ret) (hh := hh) hy rfl ?_
  intro p e s m args below meth c s₁ B hml hv
  obtain ⟨hargs, hP, hK, hbl, hF⟩ := hv
  have hts := atoms_spec (ws := xWsH y cc nL ret hh) B.pre
  have hC : xC p m c s args meth G b cc nL y.cls := ⟨B.exec, B.bytes, hml, findClass_of_methodNamed B.named, fun w hw => hts w (List.mem_cons_of_mem _ hw), B.notSynchronized, hK, hbl⟩
  have hl := lv_entry as (n := nL) hlen
  have k := body p e s m args below meth c hargs hC B.returns hF (vx_table (x := y) B (hts _ List.mem_cons_self))
  have h2 := k s.heap [] _ hP va_S.rf hl
  rw [hargs]
  rw [hargs] at h2
  rw [lg_entry_eq]
  exact h2
theorem xl_ret {v : Option Value} (hc : cells ≤ mc) (hs : slots ≤ ms) (k : xW p l e R s m args below meth c (MQ below (xQ b v P') args s mc ms (xA b)) b nL P mc ms pc lv st) : xW p l e R s m args below meth c (xlM below b v P' args s mc ms) b nL P cells slots pc lv st := by
  intro H locs ls h1 h2 h3
  refine W.widen hc hs ?_
  intro T hT X
  obtain ⟨t, a1, oc, b1, b2, b3, b4⟩ := k H locs ls h1 h2 h3 T hT X
  exact ⟨t, a1, oc, b1, b2, Or.inl ⟨b3, b4⟩⟩
theorem w_last (C : xC p m c s args meth G b cc nL own) {x v0 : Int64} (hv0 : w.2.2 = some v0) (d : decode cc pc = .ok (.lastore, 1)) (k : xW p l e R s m args below meth c Q b nL (CW G b (sO w x)) cells slots (pc + 1) lv st) : xW p l e R s m args below meth c Q b nL (CW G b w) cells slots pc lv (.long x :: .int 0 :: .ref (oub G) :: st) := by
  intro H locs ls h1 h2 h3
  have hb := (h1.ou _ hv0).1
  refine x_last (P' := CW G b (sO w x)) C (fun H h => (h.ou _ hv0).2) (show ¬ ((0 : Int32) < 0 ∨ 1 ≤ (0 : Int32).toNatClampNeg) by decide) (by omega) (fun H H' h _ oq hn => h.out hb oq ?_) d k H locs ls h1 h2 h3
  have e : vp_updL (fun j => if j = 0 then v0 else 0) (0 : Int32).toNatClampNeg x = (fun j => if j = 0 then x else 0) := by
    funext j
    show (if j = 0 then x else _) = _
    by_cases hj : j = 0 <;> simp [hj]
  rw [e] at hn
  exact hn
theorem w_lald (C : xC p m c s args meth G b cc nL own) {β : Type} {f : Int64 → Option β} {z : β} (hF : old w f = some z) (d : decode cc pc = .ok (.laload, 1)) (k : ∀ x, f x = some z → xW p l e R s m args below meth c Q b nL (CW G b w) cells slots (pc + 1) lv (.long x :: st)) : xW p l e R s m args below meth c Q b nL (CW G b w) cells slots pc lv (.int 0 :: .ref (oub G) :: st) := by
  unfold old at hF
  split at hF
  · next v0 hv0 => exact x_lald (i := 0) C (fun H h => (h.ou _ hv0).2) (show ¬ ((0 : Int32) < 0 ∨ 1 ≤ (0 : Int32).toNatClampNeg) by decide) d (k _ hF)
  · cases hF
/-- a thrown one is caught here -/
theorem xl_catch {hh : List (Nat × Nat × Nat × Nat)} {E : String} {H : Heap} {locs : List Loc} {ls : Array Slot} {q : Addr} {ce : Cell} {rest : List Value} (C : xC p m c s args meth G b cc nL own) (hX : xF b s) (htab : c.exceptionTable.toList = tableOf hh) (pre : List ExceptionTableEntry) (x : ExceptionTableEntry) (suf : List ExceptionTableEntry) (hsplit : tableOf hh = pre ++ x :: suf)
    (hpass : ∀ z ∈ pre, covers z pc = false ∨ (z.catchType ≠ 0 ∧ ∃ nm : String, Cond.classLink own z.catchType nm ∈ gw ∧ (E, nm) ∈ xPairs)) (hx : covers x pc = true) (h0 : x.catchType ≠ 0) (hlink : Cond.classLink own x.catchType E ∈ gw) (hE : E ∈ xExc) (hP : P H) (hS : va_S (xA b) s.heap H locs) (hl : lv_has ls nL lv) (hce : H[q]? = some ce) (hv : ce.vm = .none) (hcl : s.vm.findClass E = some ce.cls)
    (k : xW p l e R s m args below meth c Q b nL P cells slots x.handlerPc lv [.ref q]) : vx_W p l e R s m args below meth c H locs cells slots Q (F0 m pc ls rest) q := by
  refine vx_catch C.2.2.2.1 pre x suf (htab.trans hsplit) (fun z hz => ?_) hx h0 (C.2.2.2.2.1 _ hlink) (va_Nw.use rfl (hX.2.2.2.1 E hE)) hce hv hcl (k H locs ls hP hS hl)
  rcases hpass z hz with h | ⟨h1, nm, h2, h3⟩
  · exact Or.inl h
  · exact Or.inr ⟨h1, nm, C.2.2.2.2.1 _ h2, hX.2.2.2.2.1 _ h3⟩
theorem xl_call_0 (C : xC p m c s args meth G b cc nL own) (hX : xF b s) {y : MethodName} {bytes : ByteArray} {maxL index ci a0 mc1 ms1 : Nat} {ret : Option FieldType} {rm : Room} {fs : List Value} {K9 : vw_C} {rest : List Value} {M : Option ((Int32 ⊕ String) × xWt)} {Es : List String} {v : Int32} {w' : xWt} (hF : lwrap M Es = some (v, w')) (h : ∀ (o1 : Int32 ⊕ String) (w1 : xWt), M = some (o1, w1) → xMetX l G b y bytes maxL ret rm (.ref a0 :: []) P (ov (fun v => some (.int v)) o1) (CW G b w1) mc1 ms1)
    (hy : xVm y bytes maxL ret 0) (hl : Cond.methodLink own index y ∈ gw) (hrc : rm.cells = mc1) (hrs : rm.slots = ms1) (hR : rm.frames + 1 ≤ R.frames ∧ 8 + (maxL + 11) + rm.locals ≤ R.locals) (hci : vwCl[ci]? = some K9) (hK1 : K9.1 = y.cls) (hat : ∀ H, P H → va_at G.1 vwCl (a0, .inr (ci, fs)) H) (hcat : (rest.map fun v => v.category).sum ≤ 8) (hf : cells + mc1 ≤ R.cells ∧ slots + ms1 ≤ R.slots) (d : decode cc pc = .ok (.invokevirtual index, 3))
    (k : ∀ (x : Int32) (w1 : xWt) (v0 : Int64), w1.2.2 = some v0 → v = 0 → w' = sO w1 x.toInt64 → xW p l e R s m args below meth c Q b nL (CW G b w1) (cells + mc1) (slots + ms1) (pc + 3) lv (.int x :: rest))
    (kx : ∀ E, hcode Es 1 E = some v → ∀ (H1 : Heap) (locs1 : List Loc) (ls : Array Slot) (q : Addr) (ce : Cell), CW G b w' H1 → va_S (xA b) s.heap H1 locs1 → lv_has ls nL lv → H1[q]? = some ce → ce.vm = .none → s.vm.findClass E = some ce.cls → vx_W p l e R s m args below meth c H1 locs1 (cells + mc1) (slots + ms1) Q (F0 m pc ls rest) q) : xW p l e R s m args below meth c Q b nL P cells slots pc lv (.ref a0 :: rest) := by
  intro H locs ls h1 h2 h3
  have hK : va_K G.1 vwCl (xT G) s := C.2.2.2.2.2.2.1
  have hrun : ∀ (o1 : Int32 ⊕ String) (w1 : xWt), M = some (o1, w1) → vx_Run p l e R s m args below meth c H locs cells slots mc1 ms1 (F0 m pc ls (.ref a0 :: rest)) rest (xvQ b (ov (fun v => some (.int v)) o1) (CW G b w1) (Value.ref a0 :: []).toArray) (xvX b (ov (fun v => some (.int v)) o1) (CW G b w1)) (xA b) := fun o1 w1 hM =>
    vx_runV (rm := rm) (As := []) (rest := rest) (C := K9.1) ⟨C.1, C.2.1, C.2.2.1, C.2.2.2.1, C.2.2.2.2.1⟩ (h _ _ hM) ⟨x_callB C hy.1 hy.2.1 hl hrc hrs hy.2.2.2.2 hR, C.2.2.2.2.1 _ hy.2.2.1, C.2.2.2.2.1 _ (by rw [hK1]; exact hy.2.2.2.1)⟩ ⟨xPcX.blind, va_recv (q0 := 0) (ws := [(a0, .inr (ci, fs))]) hK (fun j q hq => by
      match j, hq with
      | 0, hq => cases hq; exact hat H h1
      | j + 1, hq => simp at hq) hci rfl, fun U hU hW => ⟨rfl, by rw [hU]; exact h1, hK.moved hW.alike, by rw [hU]; exact Nat.le_trans C.2.2.2.2.2.2.2 h2.1, hX.next hW (by rw [hU]; exact h2)⟩⟩ rfl rfl h3.1 rfl (lv_room hcat) d hf
  match M, hF, hrun with
  | some (.inl x, w1), hF, hrun =>
    unfold lwrap at hF
    dsimp only at hF
    split at hF
    · next v0 hv0 =>
      cases hF
      exact xv_back (rest := rest) H locs ls h2 h3 (hrun _ _ rfl) (fun v hv => by cases hv; exact k x w1 v0 hv0 rfl rfl) (fun E hE => by cases hE)
    · cases hF
  | some (.inr E, w1), hF, hrun =>
    have hF : (hcode Es 1 E).map (fun n => (n, w1)) = some (v, w') := hF
    cases hh : hcode Es 1 E with
    | none => rw [hh] at hF; cases hF
    | some n =>
      rw [hh] at hF
      cases hF
      exact xv_back (rest := rest) H locs ls h2 h3 (hrun _ _ rfl) (fun v hv => by cases hv) (fun E' hE H1 locs1 q ce g1 g2 g3 g4 g5 => by cases hE; exact kx E hh H1 locs1 ls q ce g1 g2 h3 g3 g4 g5)
theorem xl_call_1 (C : xC p m c s args meth G b cc nL own) (hX : xF b s) {v1 : Value} {y : MethodName} {bytes : ByteArray} {maxL index ci a0 mc1 ms1 : Nat} {ret : Option FieldType} {rm : Room} {fs : List Value} {K9 : vw_C} {rest : List Value} {M : Option ((Int32 ⊕ String) × xWt)} {Es : List String} {v : Int32} {w' : xWt} (hF : lwrap M Es = some (v, w')) (h : ∀ (o1 : Int32 ⊕ String) (w1 : xWt), M = some (o1, w1) → xMetX l G b y bytes maxL ret rm (.ref a0 :: [v1]) P (ov (fun v => some (.int v)) o1) (CW G b w1) mc1 ms1)
    (hy : xVm y bytes maxL ret 1) (hl : Cond.methodLink own index y ∈ gw) (hrc : rm.cells = mc1) (hrs : rm.slots = ms1) (hR : rm.frames + 1 ≤ R.frames ∧ 8 + (maxL + 11) + rm.locals ≤ R.locals) (hci : vwCl[ci]? = some K9) (hK1 : K9.1 = y.cls) (hat : ∀ H, P H → va_at G.1 vwCl (a0, .inr (ci, fs)) H) (hcat : (rest.map fun v => v.category).sum ≤ 8) (hf : cells + mc1 ≤ R.cells ∧ slots + ms1 ≤ R.slots) (d : decode cc pc = .ok (.invokevirtual index, 3))
    (k : ∀ (x : Int32) (w1 : xWt) (v0 : Int64), w1.2.2 = some v0 → v = 0 → w' = sO w1 x.toInt64 → xW p l e R s m args below meth c Q b nL (CW G b w1) (cells + mc1) (slots + ms1) (pc + 3) lv (.int x :: rest))
    (kx : ∀ E, hcode Es 1 E = some v → ∀ (H1 : Heap) (locs1 : List Loc) (ls : Array Slot) (q : Addr) (ce : Cell), CW G b w' H1 → va_S (xA b) s.heap H1 locs1 → lv_has ls nL lv → H1[q]? = some ce → ce.vm = .none → s.vm.findClass E = some ce.cls → vx_W p l e R s m args below meth c H1 locs1 (cells + mc1) (slots + ms1) Q (F0 m pc ls rest) q) : xW p l e R s m args below meth c Q b nL P cells slots pc lv (v1 :: .ref a0 :: rest) := by
  intro H locs ls h1 h2 h3
  have hK : va_K G.1 vwCl (xT G) s := C.2.2.2.2.2.2.1
  have hrun : ∀ (o1 : Int32 ⊕ String) (w1 : xWt), M = some (o1, w1) → vx_Run p l e R s m args below meth c H locs cells slots mc1 ms1 (F0 m pc ls (v1 :: .ref a0 :: rest)) rest (xvQ b (ov (fun v => some (.int v)) o1) (CW G b w1) (Value.ref a0 :: [v1]).toArray) (xvX b (ov (fun v => some (.int v)) o1) (CW G b w1)) (xA b) := fun o1 w1 hM =>
    vx_runV (rm := rm) (As := [v1]) (rest := rest) (C := K9.1) ⟨C.1, C.2.1, C.2.2.1, C.2.2.2.1, C.2.2.2.2.1⟩ (h _ _ hM) ⟨x_callB C hy.1 hy.2.1 hl hrc hrs hy.2.2.2.2 hR, C.2.2.2.2.1 _ hy.2.2.1, C.2.2.2.2.1 _ (by rw [hK1]; exact hy.2.2.2.1)⟩ ⟨xPcX.blind, va_recv (q0 := 0) (ws := [(a0, .inr (ci, fs))]) hK (fun j q hq => by
      match j, hq with
      | 0, hq => cases hq; exact hat H h1
      | j + 1, hq => simp at hq) hci rfl, fun U hU hW => ⟨rfl, by rw [hU]; exact h1, hK.moved hW.alike, by rw [hU]; exact Nat.le_trans C.2.2.2.2.2.2.2 h2.1, hX.next hW (by rw [hU]; exact h2)⟩⟩ rfl rfl h3.1 rfl (lv_room hcat) d hf
  match M, hF, hrun with
  | some (.inl x, w1), hF, hrun =>
    unfold lwrap at hF
    dsimp only at hF
    split at hF
    · next v0 hv0 =>
      cases hF
      exact xv_back (rest := rest) H locs ls h2 h3 (hrun _ _ rfl) (fun v hv => by cases hv; exact k x w1 v0 hv0 rfl rfl) (fun E hE => by cases hE)
    · cases hF
  | some (.inr E, w1), hF, hrun =>
    have hF : (hcode Es 1 E).map (fun n => (n, w1)) = some (v, w') := hF
    cases hh : hcode Es 1 E with
    | none => rw [hh] at hF; cases hF
    | some n =>
      rw [hh] at hF
      cases hF
      exact xv_back (rest := rest) H locs ls h2 h3 (hrun _ _ rfl) (fun v hv => by cases hv) (fun E' hE H1 locs1 q ce g1 g2 g3 g4 g5 => by cases hE; exact kx E hh H1 locs1 ls q ce g1 g2 h3 g3 g4 g5)
theorem xl_call_2 (C : xC p m c s args meth G b cc nL own) (hX : xF b s) {v1 v2 : Value} {y : MethodName} {bytes : ByteArray} {maxL index ci a0 mc1 ms1 : Nat} {ret : Option FieldType} {rm : Room} {fs : List Value} {K9 : vw_C} {rest : List Value} {M : Option ((Int32 ⊕ String) × xWt)} {Es : List String} {v : Int32} {w' : xWt} (hF : lwrap M Es = some (v, w')) (h : ∀ (o1 : Int32 ⊕ String) (w1 : xWt), M = some (o1, w1) → xMetX l G b y bytes maxL ret rm (.ref a0 :: [v1, v2]) P (ov (fun v => some (.int v)) o1) (CW G b w1) mc1 ms1)
    (hy : xVm y bytes maxL ret 2) (hl : Cond.methodLink own index y ∈ gw) (hrc : rm.cells = mc1) (hrs : rm.slots = ms1) (hR : rm.frames + 1 ≤ R.frames ∧ 8 + (maxL + 11) + rm.locals ≤ R.locals) (hci : vwCl[ci]? = some K9) (hK1 : K9.1 = y.cls) (hat : ∀ H, P H → va_at G.1 vwCl (a0, .inr (ci, fs)) H) (hcat : (rest.map fun v => v.category).sum ≤ 8) (hf : cells + mc1 ≤ R.cells ∧ slots + ms1 ≤ R.slots) (d : decode cc pc = .ok (.invokevirtual index, 3))
    (k : ∀ (x : Int32) (w1 : xWt) (v0 : Int64), w1.2.2 = some v0 → v = 0 → w' = sO w1 x.toInt64 → xW p l e R s m args below meth c Q b nL (CW G b w1) (cells + mc1) (slots + ms1) (pc + 3) lv (.int x :: rest))
    (kx : ∀ E, hcode Es 1 E = some v → ∀ (H1 : Heap) (locs1 : List Loc) (ls : Array Slot) (q : Addr) (ce : Cell), CW G b w' H1 → va_S (xA b) s.heap H1 locs1 → lv_has ls nL lv → H1[q]? = some ce → ce.vm = .none → s.vm.findClass E = some ce.cls → vx_W p l e R s m args below meth c H1 locs1 (cells + mc1) (slots + ms1) Q (F0 m pc ls rest) q) : xW p l e R s m args below meth c Q b nL P cells slots pc lv (v2 :: v1 :: .ref a0 :: rest) := by
  intro H locs ls h1 h2 h3
  have hK : va_K G.1 vwCl (xT G) s := C.2.2.2.2.2.2.1
  have hrun : ∀ (o1 : Int32 ⊕ String) (w1 : xWt), M = some (o1, w1) → vx_Run p l e R s m args below meth c H locs cells slots mc1 ms1 (F0 m pc ls (v2 :: v1 :: .ref a0 :: rest)) rest (xvQ b (ov (fun v => some (.int v)) o1) (CW G b w1) (Value.ref a0 :: [v1, v2]).toArray) (xvX b (ov (fun v => some (.int v)) o1) (CW G b w1)) (xA b) := fun o1 w1 hM =>
    vx_runV (rm := rm) (As := [v1, v2]) (rest := rest) (C := K9.1) ⟨C.1, C.2.1, C.2.2.1, C.2.2.2.1, C.2.2.2.2.1⟩ (h _ _ hM) ⟨x_callB C hy.1 hy.2.1 hl hrc hrs hy.2.2.2.2 hR, C.2.2.2.2.1 _ hy.2.2.1, C.2.2.2.2.1 _ (by rw [hK1]; exact hy.2.2.2.1)⟩ ⟨xPcX.blind, va_recv (q0 := 0) (ws := [(a0, .inr (ci, fs))]) hK (fun j q hq => by
      match j, hq with
      | 0, hq => cases hq; exact hat H h1
      | j + 1, hq => simp at hq) hci rfl, fun U hU hW => ⟨rfl, by rw [hU]; exact h1, hK.moved hW.alike, by rw [hU]; exact Nat.le_trans C.2.2.2.2.2.2.2 h2.1, hX.next hW (by rw [hU]; exact h2)⟩⟩ rfl rfl h3.1 rfl (lv_room hcat) d hf
  match M, hF, hrun with
  | some (.inl x, w1), hF, hrun =>
    unfold lwrap at hF
    dsimp only at hF
    split at hF
    · next v0 hv0 =>
      cases hF
      exact xv_back (rest := rest) H locs ls h2 h3 (hrun _ _ rfl) (fun v hv => by cases hv; exact k x w1 v0 hv0 rfl rfl) (fun E hE => by cases hE)
    · cases hF
  | some (.inr E, w1), hF, hrun =>
    have hF : (hcode Es 1 E).map (fun n => (n, w1)) = some (v, w') := hF
    cases hh : hcode Es 1 E with
    | none => rw [hh] at hF; cases hF
    | some n =>
      rw [hh] at hF
      cases hF
      exact xv_back (rest := rest) H locs ls h2 h3 (hrun _ _ rfl) (fun v hv => by cases hv) (fun E' hE H1 locs1 q ce g1 g2 g3 g4 g5 => by cases hE; exact kx E hh H1 locs1 ls q ce g1 g2 h3 g3 g4 g5)
theorem xl_call_3 (C : xC p m c s args meth G b cc nL own) (hX : xF b s) {v1 v2 v3 : Value} {y : MethodName} {bytes : ByteArray} {maxL index ci a0 mc1 ms1 : Nat} {ret : Option FieldType} {rm : Room} {fs : List Value} {K9 : vw_C} {rest : List Value} {M : Option ((Int32 ⊕ String) × xWt)} {Es : List String} {v : Int32} {w' : xWt} (hF : lwrap M Es = some (v, w')) (h : ∀ (o1 : Int32 ⊕ String) (w1 : xWt), M = some (o1, w1) → xMetX l G b y bytes maxL ret rm (.ref a0 :: [v1, v2, v3]) P (ov (fun v => some (.int v)) o1) (CW G b w1) mc1 ms1)
    (hy : xVm y bytes maxL ret 3) (hl : Cond.methodLink own index y ∈ gw) (hrc : rm.cells = mc1) (hrs : rm.slots = ms1) (hR : rm.frames + 1 ≤ R.frames ∧ 8 + (maxL + 11) + rm.locals ≤ R.locals) (hci : vwCl[ci]? = some K9) (hK1 : K9.1 = y.cls) (hat : ∀ H, P H → va_at G.1 vwCl (a0, .inr (ci, fs)) H) (hcat : (rest.map fun v => v.category).sum ≤ 8) (hf : cells + mc1 ≤ R.cells ∧ slots + ms1 ≤ R.slots) (d : decode cc pc = .ok (.invokevirtual index, 3))
    (k : ∀ (x : Int32) (w1 : xWt) (v0 : Int64), w1.2.2 = some v0 → v = 0 → w' = sO w1 x.toInt64 → xW p l e R s m args below meth c Q b nL (CW G b w1) (cells + mc1) (slots + ms1) (pc + 3) lv (.int x :: rest))
    (kx : ∀ E, hcode Es 1 E = some v → ∀ (H1 : Heap) (locs1 : List Loc) (ls : Array Slot) (q : Addr) (ce : Cell), CW G b w' H1 → va_S (xA b) s.heap H1 locs1 → lv_has ls nL lv → H1[q]? = some ce → ce.vm = .none → s.vm.findClass E = some ce.cls → vx_W p l e R s m args below meth c H1 locs1 (cells + mc1) (slots + ms1) Q (F0 m pc ls rest) q) : xW p l e R s m args below meth c Q b nL P cells slots pc lv (v3 :: v2 :: v1 :: .ref a0 :: rest) := by
  intro H locs ls h1 h2 h3
  have hK : va_K G.1 vwCl (xT G) s := C.2.2.2.2.2.2.1
  have hrun : ∀ (o1 : Int32 ⊕ String) (w1 : xWt), M = some (o1, w1) → vx_Run p l e R s m args below meth c H locs cells slots mc1 ms1 (F0 m pc ls (v3 :: v2 :: v1 :: .ref a0 :: rest)) rest (xvQ b (ov (fun v => some (.int v)) o1) (CW G b w1) (Value.ref a0 :: [v1, v2, v3]).toArray) (xvX b (ov (fun v => some (.int v)) o1) (CW G b w1)) (xA b) := fun o1 w1 hM =>
    vx_runV (rm := rm) (As := [v1, v2, v3]) (rest := rest) (C := K9.1) ⟨C.1, C.2.1, C.2.2.1, C.2.2.2.1, C.2.2.2.2.1⟩ (h _ _ hM) ⟨x_callB C hy.1 hy.2.1 hl hrc hrs hy.2.2.2.2 hR, C.2.2.2.2.1 _ hy.2.2.1, C.2.2.2.2.1 _ (by rw [hK1]; exact hy.2.2.2.1)⟩ ⟨xPcX.blind, va_recv (q0 := 0) (ws := [(a0, .inr (ci, fs))]) hK (fun j q hq => by
      match j, hq with
      | 0, hq => cases hq; exact hat H h1
      | j + 1, hq => simp at hq) hci rfl, fun U hU hW => ⟨rfl, by rw [hU]; exact h1, hK.moved hW.alike, by rw [hU]; exact Nat.le_trans C.2.2.2.2.2.2.2 h2.1, hX.next hW (by rw [hU]; exact h2)⟩⟩ rfl rfl h3.1 rfl (lv_room hcat) d hf
  match M, hF, hrun with
  | some (.inl x, w1), hF, hrun =>
    unfold lwrap at hF
    dsimp only at hF
    split at hF
    · next v0 hv0 =>
      cases hF
      exact xv_back (rest := rest) H locs ls h2 h3 (hrun _ _ rfl) (fun v hv => by cases hv; exact k x w1 v0 hv0 rfl rfl) (fun E hE => by cases hE)
    · cases hF
  | some (.inr E, w1), hF, hrun =>
    have hF : (hcode Es 1 E).map (fun n => (n, w1)) = some (v, w') := hF
    cases hh : hcode Es 1 E with
    | none => rw [hh] at hF; cases hF
    | some n =>
      rw [hh] at hF
      cases hF
      exact xv_back (rest := rest) H locs ls h2 h3 (hrun _ _ rfl) (fun v hv => by cases hv) (fun E' hE H1 locs1 q ce g1 g2 g3 g4 g5 => by cases hE; exact kx E hh H1 locs1 ls q ce g1 g2 h3 g3 g4 g5)
end XL
theorem pn_L : plainName RL = true := by decide +kernel
def F_L_come  (w : xWt) : Option (Int32 × xWt) := lwrap (F_X7_come  w) [eS']
def F_L_leave (a1 : Int32) (w : xWt) : Option (Int32 × xWt) := lwrap (F_X7_leave a1 w) [eI', eS']
def F_L_enter (a1 : Int32) (w : xWt) : Option (Int32 × xWt) := lwrap (F_X7_enter a1 w) [eI', eS']
def F_L_rest (a1 : Int32) (w : xWt) : Option (Int32 × xWt) := lwrap (F_X7_rest a1 w) [eI', eS']
def F_L_ring  (w : xWt) : Option (Int32 × xWt) := lwrap (F_X7_ring  w) [eS']
def F_L_grow (a1 : Int32) (a2 : Int32) (w : xWt) : Option (Int32 × xWt) := lwrap (F_X7_grow a1 a2 w) [eI', eA', eS']
def F_L_note (a1 : Int32) (a2 : Int32) (a3 : Int32) (w : xWt) : Option (Int32 × xWt) := lwrap (F_X7_note a1 a2 a3 w) [eI', eS']
def F_L_pin (a1 : Int32) (a2 : Int32) (w : xWt) : Option (Int32 × xWt) := lwrap (F_X7_pin a1 a2 w) [eI', eS']
def F_L_loosen (a1 : Int32) (a2 : Int32) (w : xWt) : Option (Int32 × xWt) := lwrap (F_X7_loosen a1 a2 w) [eI', eS']
def F_L_look (a1 : Int32) (a2 : Int32) (w : xWt) : Option (Int32 × xWt) := lwrap (F_X7_look a1 a2 w) [eI', eS']
def F_L_take (a1 : Int32) (a2 : Int32) (w : xWt) : Option (Int32 × xWt) := lwrap (F_X7_take a1 a2 w) [eI', eS']
def F_L_swap (a1 : Int32) (a2 : Int32) (a3 : Int32) (w : xWt) : Option (Int32 × xWt) := lwrap (F_X7_swap a1 a2 a3 w) [eI', eA', eS']
def F_L_rake (a1 : Int32) (w : xWt) : Option (Int32 × xWt) := lwrap (F_X7_rake a1 w) [eI', eS']
def F_L_set (a1 : Int32) (a2 : Int32) (w : xWt) : Option (Int32 × xWt) := lwrap (F_X7_set a1 a2 w) [eI', eA']
def F_L_append (a1 : Int32) (w : xWt) : Option (Int32 × xWt) := lwrap (F_X7_append a1 w) [eA', eS']
def F_L_obey  (w : xWt) : Option (Int32 × xWt) := lwrap (F_X7_obey  w) [eA']
def F_L_goBack  (w : xWt) : Option (Int32 × xWt) := lwrap (F_X7_goBack  w) [eS']
def F_L_undo  (w : xWt) : Option (Int32 × xWt) := lwrap (F_X7_undo  w) [eS']
def F_L_branch (a1 : Int32) (w : xWt) : Option (Int32 × xWt) := lwrap (F_X7_branch a1 w) [eI']
def F_L_leaf (a1 : Int32) (a2 : Int32) (w : xWt) : Option (Int32 × xWt) := lwrap (F_X7_leaf a1 a2 w) [eI', eA']
def F_L_child (a1 : Int32) (a2 : Int32) (w : xWt) : Option (Int32 × xWt) := lwrap (F_X7_child a1 a2 w) [eI', eA']
def F_L_hook (a1 : Int32) (a2 : Int32) (a3 : Int32) (w : xWt) : Option (Int32 × xWt) := lwrap (F_X7_hook a1 a2 a3 w) [eI', eA']
def F_L_heap (a1 : Int32) (a2 : Int32) (w : xWt) : Option (Int32 × xWt) := lwrap (F_X7_heap a1 a2 w) [eI', eA']
def F_L_count (a1 : Int32) (w : xWt) : Option (Int32 × xWt) := lwrap (F_X7_count a1 w) [eA']
def F_L_setting (a1 : Int32) (w : xWt) : Option (Int32 × xWt) := lwrap (F_X7_setting a1 w) [eI']
def F_L_why (a1 : Int32) (w : xWt) : Option (Int32 × xWt) := lwrap (F_X7_why a1 w) [eI']
def F_L_ifRaked (a1 : Int32) (a2 : Int32) (w : xWt) : Option (Int32 × xWt) := lwrap (F_X7_ifRaked a1 a2 w) [eI', eA']
def F_L_ifLoosened (a1 : Int32) (a2 : Int32) (w : xWt) : Option (Int32 × xWt) := lwrap (F_X7_ifLoosened a1 a2 w) [eI']
def F_L_ifRested (a1 : Int32) (w : xWt) : Option (Int32 × xWt) := lwrap (F_X7_ifRested a1 w) [eI']
theorem c_L_come (l : Launch) (G : xG) (b : Nat) (hl : l.stackTraces = false)  {w w' : xWt} {v : Int32} (hF : F_L_come  w = some (v, w')) : xMetL l G b yL_come cL_come 3 (some .int) [(0, 8, 11, 13)] (xRX 7 1 6) [.ref b, .ref (oub G)] (CW G b w) (some (.int v)) (CW G b w') 1 6 := by
  refine x_ofL (own := RL) rfl pn_L (Nat.le_of_ble_eq_true rfl) ?_
  intro p e s m args below meth c ha C hr hX htab
  unfold F_L_come at hF
  refine x_aload_n (pc := 0) C 1 dL_come_0 rfl rfl ?_
  refine x_iconst (pc := 1) C 0 dL_come_1 ki_0 ?_
  refine x_aload_n (pc := 2) C 0 dL_come_2 rfl rfl ?_
  refine xl_call_0 (pc := 3) C hX hF (fun _ _ h => c_X7_come l G b hl h) vm_X7_come wq136 rfl rfl ⟨Nat.le_of_ble_eq_true rfl, Nat.le_of_ble_eq_true rfl⟩ rfl rfl (fun _ h => CW.pl h) (Nat.le_of_ble_eq_true rfl) ⟨Nat.le_of_ble_eq_true rfl, Nat.le_of_ble_eq_true rfl⟩ dL_come_3 (fun x w1 v0 hv0 e1 e2 => ?_) (fun E hE H1 locs1 ls q ce g1 g2 g3 g4 g5 g6 => ?_)
  · subst e1; subst e2
    refine x_i2l (pc := 6) C dL_come_6 ?_
    refine w_last (pc := 7) C hv0 dL_come_7 ?_
    refine x_goto (pc := 8) C 14 dL_come_8 rfl ?_
    refine x_iconst (pc := 14) C 0 dL_come_14 ki_0 ?_
    refine xl_ret (Nat.le_of_ble_eq_true rfl) (Nat.le_of_ble_eq_true rfl) ?_
    exact x_iret (pc := 15) C hr rfl (fun _ h => h) dL_come_15
  · unfold hcode at hE
    split at hE
    · next hq =>
      subst hq
      obtain rfl : _ = v := Option.some.inj hE
      refine xl_catch C hX htab [] ⟨0, 8, 11, 13⟩ [] rfl (fun z hz => by cases hz) rfl (by decide) wq135 (by decide) g1 g2 g3 g4 g5 g6 ?_
      refine x_astore_n (pc := 11) C [(2, .ref q), (0, .ref b), (1, .ref (oub G))] dL_come_11 rfl (by decide) rfl ?_
      refine x_iconst (pc := 12) C 1 dL_come_12 ki_1 ?_
      refine xl_ret (Nat.le_of_ble_eq_true rfl) (Nat.le_of_ble_eq_true rfl) ?_
      exact x_iret (pc := 13) C hr rfl (fun _ h => h) dL_come_13
    · unfold hcode at hE
      exact none_ne hE
theorem c_L_leave (l : Launch) (G : xG) (b : Nat) (hl : l.stackTraces = false) (a1 : Int32) {w w' : xWt} {v : Int32} (hF : F_L_leave a1 w = some (v, w')) : xMetL l G b yL_leave cL_leave 4 (some .int) [(0, 9, 12, 19), (0, 9, 15, 13)] (xRX 8 2 12) [.ref b, .int a1, .ref (oub G)] (CW G b w) (some (.int v)) (CW G b w') 2 12 := by
  refine x_ofL (own := RL) rfl pn_L (Nat.le_of_ble_eq_true rfl) ?_
  intro p e s m args below meth c ha C hr hX htab
  unfold F_L_leave at hF
  refine x_aload_n (pc := 0) C 2 dL_leave_0 rfl rfl ?_
  refine x_iconst (pc := 1) C 0 dL_leave_1 ki_0 ?_
  refine x_aload_n (pc := 2) C 0 dL_leave_2 rfl rfl ?_
  refine x_iload_n (pc := 3) C 1 dL_leave_3 rfl rfl ?_
  refine xl_call_1 (pc := 4) C hX hF (fun _ _ h => c_X7_leave l G b hl _ h) vm_X7_leave wq238 rfl rfl ⟨Nat.le_of_ble_eq_true rfl, Nat.le_of_ble_eq_true rfl⟩ rfl rfl (fun _ h => CW.pl h) (Nat.le_of_ble_eq_true rfl) ⟨Nat.le_of_ble_eq_true rfl, Nat.le_of_ble_eq_true rfl⟩ dL_leave_4 (fun x w1 v0 hv0 e1 e2 => ?_) (fun E hE H1 locs1 ls q ce g1 g2 g3 g4 g5 g6 => ?_)
  · subst e1; subst e2
    refine x_i2l (pc := 7) C dL_leave_7 ?_
    refine w_last (pc := 8) C hv0 dL_leave_8 ?_
    refine x_goto (pc := 9) C 18 dL_leave_9 rfl ?_
    refine x_iconst (pc := 18) C 0 dL_leave_18 ki_0 ?_
    refine xl_ret (Nat.le_of_ble_eq_true rfl) (Nat.le_of_ble_eq_true rfl) ?_
    exact x_iret (pc := 19) C hr rfl (fun _ h => h) dL_leave_19
  · unfold hcode at hE
    split at hE
    · next hq =>
      subst hq
      obtain rfl : _ = v := Option.some.inj hE
      refine xl_catch C hX htab [] ⟨0, 9, 12, 19⟩ [⟨0, 9, 15, 13⟩] rfl (fun z hz => by cases hz) rfl (by decide) wq237 (by decide) g1 g2 g3 g4 g5 g6 ?_
      refine x_astore_n (pc := 12) C [(3, .ref q), (0, .ref b), (1, .int a1), (2, .ref (oub G))] dL_leave_12 rfl (by decide) rfl ?_
      refine x_iconst (pc := 13) C 1 dL_leave_13 ki_1 ?_
      refine xl_ret (Nat.le_of_ble_eq_true rfl) (Nat.le_of_ble_eq_true rfl) ?_
      exact x_iret (pc := 14) C hr rfl (fun _ h => h) dL_leave_14
    · unfold hcode at hE
      split at hE
      · next hq =>
        subst hq
        obtain rfl : _ = v := Option.some.inj hE
        refine xl_catch C hX htab [⟨0, 9, 12, 19⟩] ⟨0, 9, 15, 13⟩ [] rfl (fun z hz => by
          simp only [List.mem_cons, List.not_mem_nil, or_false] at hz
          subst hz
          exact Or.inr ⟨by decide, _, wq237, by decide⟩) rfl (by decide) wq135 (by decide) g1 g2 g3 g4 g5 g6 ?_
        refine x_astore_n (pc := 15) C [(3, .ref q), (0, .ref b), (1, .int a1), (2, .ref (oub G))] dL_leave_15 rfl (by decide) rfl ?_
        refine x_iconst (pc := 16) C 2 dL_leave_16 ki_2 ?_
        refine xl_ret (Nat.le_of_ble_eq_true rfl) (Nat.le_of_ble_eq_true rfl) ?_
        exact x_iret (pc := 17) C hr rfl (fun _ h => h) dL_leave_17
      · unfold hcode at hE
        exact none_ne hE
theorem c_L_enter (l : Launch) (G : xG) (b : Nat) (hl : l.stackTraces = false) (a1 : Int32) {w w' : xWt} {v : Int32} (hF : F_L_enter a1 w = some (v, w')) : xMetL l G b yL_enter cL_enter 4 (some .int) [(0, 9, 12, 19), (0, 9, 15, 13)] (xRX 8 2 12) [.ref b, .int a1, .ref (oub G)] (CW G b w) (some (.int v)) (CW G b w') 2 12 := by
  refine x_ofL (own := RL) rfl pn_L (Nat.le_of_ble_eq_true rfl) ?_
  intro p e s m args below meth c ha C hr hX htab
  unfold F_L_enter at hF
  refine x_aload_n (pc := 0) C 2 dL_enter_0 rfl rfl ?_
  refine x_iconst (pc := 1) C 0 dL_enter_1 ki_0 ?_
  refine x_aload_n (pc := 2) C 0 dL_enter_2 rfl rfl ?_
  refine x_iload_n (pc := 3) C 1 dL_enter_3 rfl rfl ?_
  refine xl_call_1 (pc := 4) C hX hF (fun _ _ h => c_X7_enter l G b hl _ h) vm_X7_enter wq333 rfl rfl ⟨Nat.le_of_ble_eq_true rfl, Nat.le_of_ble_eq_true rfl⟩ rfl rfl (fun _ h => CW.pl h) (Nat.le_of_ble_eq_true rfl) ⟨Nat.le_of_ble_eq_true rfl, Nat.le_of_ble_eq_true rfl⟩ dL_enter_4 (fun x w1 v0 hv0 e1 e2 => ?_) (fun E hE H1 locs1 ls q ce g1 g2 g3 g4 g5 g6 => ?_)
  · subst e1; subst e2
    refine x_i2l (pc := 7) C dL_enter_7 ?_
    refine w_last (pc := 8) C hv0 dL_enter_8 ?_
    refine x_goto (pc := 9) C 18 dL_enter_9 rfl ?_
    refine x_iconst (pc := 18) C 0 dL_enter_18 ki_0 ?_
    refine xl_ret (Nat.le_of_ble_eq_true rfl) (Nat.le_of_ble_eq_true rfl) ?_
    exact x_iret (pc := 19) C hr rfl (fun _ h => h) dL_enter_19
  · unfold hcode at hE
    split at hE
    · next hq =>
      subst hq
      obtain rfl : _ = v := Option.some.inj hE
      refine xl_catch C hX htab [] ⟨0, 9, 12, 19⟩ [⟨0, 9, 15, 13⟩] rfl (fun z hz => by cases hz) rfl (by decide) wq237 (by decide) g1 g2 g3 g4 g5 g6 ?_
      refine x_astore_n (pc := 12) C [(3, .ref q), (0, .ref b), (1, .int a1), (2, .ref (oub G))] dL_enter_12 rfl (by decide) rfl ?_
      refine x_iconst (pc := 13) C 1 dL_enter_13 ki_1 ?_
      refine xl_ret (Nat.le_of_ble_eq_true rfl) (Nat.le_of_ble_eq_true rfl) ?_
      exact x_iret (pc := 14) C hr rfl (fun _ h => h) dL_enter_14
    · unfold hcode at hE
      split at hE
      · next hq =>
        subst hq
        obtain rfl : _ = v := Option.some.inj hE
        refine xl_catch C hX htab [⟨0, 9, 12, 19⟩] ⟨0, 9, 15, 13⟩ [] rfl (fun z hz => by
          simp only [List.mem_cons, List.not_mem_nil, or_false] at hz
          subst hz
          exact Or.inr ⟨by decide, _, wq237, by decide⟩) rfl (by decide) wq135 (by decide) g1 g2 g3 g4 g5 g6 ?_
        refine x_astore_n (pc := 15) C [(3, .ref q), (0, .ref b), (1, .int a1), (2, .ref (oub G))] dL_enter_15 rfl (by decide) rfl ?_
        refine x_iconst (pc := 16) C 2 dL_enter_16 ki_2 ?_
        refine xl_ret (Nat.le_of_ble_eq_true rfl) (Nat.le_of_ble_eq_true rfl) ?_
        exact x_iret (pc := 17) C hr rfl (fun _ h => h) dL_enter_17
      · unfold hcode at hE
        exact none_ne hE
theorem c_L_rest (l : Launch) (G : xG) (b : Nat) (hl : l.stackTraces = false) (a1 : Int32) {w w' : xWt} {v : Int32} (hF : F_L_rest a1 w = some (v, w')) : xMetL l G b yL_rest cL_rest 4 (some .int) [(0, 9, 12, 19), (0, 9, 15, 13)] (xRX 8 2 12) [.ref b, .int a1, .ref (oub G)] (CW G b w) (some (.int v)) (CW G b w') 2 12 := by
  refine x_ofL (own := RL) rfl pn_L (Nat.le_of_ble_eq_true rfl) ?_
  intro p e s m args below meth c ha C hr hX htab
  unfold F_L_rest at hF
  refine x_aload_n (pc := 0) C 2 dL_rest_0 rfl rfl ?_
  refine x_iconst (pc := 1) C 0 dL_rest_1 ki_0 ?_
  refine x_aload_n (pc := 2) C 0 dL_rest_2 rfl rfl ?_
  refine x_iload_n (pc := 3) C 1 dL_rest_3 rfl rfl ?_
  refine xl_call_1 (pc := 4) C hX hF (fun _ _ h => c_X7_rest l G b hl _ h) vm_X7_rest wq370 rfl rfl ⟨Nat.le_of_ble_eq_true rfl, Nat.le_of_ble_eq_true rfl⟩ rfl rfl (fun _ h => CW.pl h) (Nat.le_of_ble_eq_true rfl) ⟨Nat.le_of_ble_eq_true rfl, Nat.le_of_ble_eq_true rfl⟩ dL_rest_4 (fun x w1 v0 hv0 e1 e2 => ?_) (fun E hE H1 locs1 ls q ce g1 g2 g3 g4 g5 g6 => ?_)
  · subst e1; subst e2
    refine x_i2l (pc := 7) C dL_rest_7 ?_
    refine w_last (pc := 8) C hv0 dL_rest_8 ?_
    refine x_goto (pc := 9) C 18 dL_rest_9 rfl ?_
    refine x_iconst (pc := 18) C 0 dL_rest_18 ki_0 ?_
    refine xl_ret (Nat.le_of_ble_eq_true rfl) (Nat.le_of_ble_eq_true rfl) ?_
    exact x_iret (pc := 19) C hr rfl (fun _ h => h) dL_rest_19
  · unfold hcode at hE
    split at hE
    · next hq =>
      subst hq
      obtain rfl : _ = v := Option.some.inj hE
      refine xl_catch C hX htab [] ⟨0, 9, 12, 19⟩ [⟨0, 9, 15, 13⟩] rfl (fun z hz => by cases hz) rfl (by decide) wq237 (by decide) g1 g2 g3 g4 g5 g6 ?_
      refine x_astore_n (pc := 12) C [(3, .ref q), (0, .ref b), (1, .int a1), (2, .ref (oub G))] dL_rest_12 rfl (by decide) rfl ?_
      refine x_iconst (pc := 13) C 1 dL_rest_13 ki_1 ?_
      refine xl_ret (Nat.le_of_ble_eq_true rfl) (Nat.le_of_ble_eq_true rfl) ?_
      exact x_iret (pc := 14) C hr rfl (fun _ h => h) dL_rest_14
    · unfold hcode at hE
      split at hE
      · next hq =>
        subst hq
        obtain rfl : _ = v := Option.some.inj hE
        refine xl_catch C hX htab [⟨0, 9, 12, 19⟩] ⟨0, 9, 15, 13⟩ [] rfl (fun z hz => by
          simp only [List.mem_cons, List.not_mem_nil, or_false] at hz
          subst hz
          exact Or.inr ⟨by decide, _, wq237, by decide⟩) rfl (by decide) wq135 (by decide) g1 g2 g3 g4 g5 g6 ?_
        refine x_astore_n (pc := 15) C [(3, .ref q), (0, .ref b), (1, .int a1), (2, .ref (oub G))] dL_rest_15 rfl (by decide) rfl ?_
        refine x_iconst (pc := 16) C 2 dL_rest_16 ki_2 ?_
        refine xl_ret (Nat.le_of_ble_eq_true rfl) (Nat.le_of_ble_eq_true rfl) ?_
        exact x_iret (pc := 17) C hr rfl (fun _ h => h) dL_rest_17
      · unfold hcode at hE
        exact none_ne hE
theorem c_L_ring (l : Launch) (G : xG) (b : Nat) (hl : l.stackTraces = false)  {w w' : xWt} {v : Int32} (hF : F_L_ring  w = some (v, w')) : xMetL l G b yL_ring cL_ring 3 (some .int) [(0, 8, 11, 13)] (xRX 7 1 6) [.ref b, .ref (oub G)] (CW G b w) (some (.int v)) (CW G b w') 1 6 := by
  refine x_ofL (own := RL) rfl pn_L (Nat.le_of_ble_eq_true rfl) ?_
  intro p e s m args below meth c ha C hr hX htab
  unfold F_L_ring at hF
  refine x_aload_n (pc := 0) C 1 dL_ring_0 rfl rfl ?_
  refine x_iconst (pc := 1) C 0 dL_ring_1 ki_0 ?_
  refine x_aload_n (pc := 2) C 0 dL_ring_2 rfl rfl ?_
  refine xl_call_0 (pc := 3) C hX hF (fun _ _ h => c_X7_ring l G b hl h) vm_X7_ring wq410 rfl rfl ⟨Nat.le_of_ble_eq_true rfl, Nat.le_of_ble_eq_true rfl⟩ rfl rfl (fun _ h => CW.pl h) (Nat.le_of_ble_eq_true rfl) ⟨Nat.le_of_ble_eq_true rfl, Nat.le_of_ble_eq_true rfl⟩ dL_ring_3 (fun x w1 v0 hv0 e1 e2 => ?_) (fun E hE H1 locs1 ls q ce g1 g2 g3 g4 g5 g6 => ?_)
  · subst e1; subst e2
    refine x_i2l (pc := 6) C dL_ring_6 ?_
    refine w_last (pc := 7) C hv0 dL_ring_7 ?_
    refine x_goto (pc := 8) C 14 dL_ring_8 rfl ?_
    refine x_iconst (pc := 14) C 0 dL_ring_14 ki_0 ?_
    refine xl_ret (Nat.le_of_ble_eq_true rfl) (Nat.le_of_ble_eq_true rfl) ?_
    exact x_iret (pc := 15) C hr rfl (fun _ h => h) dL_ring_15
  · unfold hcode at hE
    split at hE
    · next hq =>
      subst hq
      obtain rfl : _ = v := Option.some.inj hE
      refine xl_catch C hX htab [] ⟨0, 8, 11, 13⟩ [] rfl (fun z hz => by cases hz) rfl (by decide) wq135 (by decide) g1 g2 g3 g4 g5 g6 ?_
      refine x_astore_n (pc := 11) C [(2, .ref q), (0, .ref b), (1, .ref (oub G))] dL_ring_11 rfl (by decide) rfl ?_
      refine x_iconst (pc := 12) C 1 dL_ring_12 ki_1 ?_
      refine xl_ret (Nat.le_of_ble_eq_true rfl) (Nat.le_of_ble_eq_true rfl) ?_
      exact x_iret (pc := 13) C hr rfl (fun _ h => h) dL_ring_13
    · unfold hcode at hE
      exact none_ne hE
theorem c_L_grow (l : Launch) (G : xG) (b : Nat) (hl : l.stackTraces = false) (a1 : Int32) (a2 : Int32) {w w' : xWt} {v : Int32} (hF : F_L_grow a1 a2 w = some (v, w')) : xMetL l G b yL_grow cL_grow 5 (some .int) [(0, 10, 13, 19), (0, 10, 17, 34), (0, 10, 21, 13)] (xRX 8 3 18) [.ref b, .int a1, .int a2, .ref (oub G)] (CW G b w) (some (.int v)) (CW G b w') 3 18 := by
  refine x_ofL (own := RL) rfl pn_L (Nat.le_of_ble_eq_true rfl) ?_
  intro p e s m args below meth c ha C hr hX htab
  unfold F_L_grow at hF
  refine x_aload_n (pc := 0) C 3 dL_grow_0 rfl rfl ?_
  refine x_iconst (pc := 1) C 0 dL_grow_1 ki_0 ?_
  refine x_aload_n (pc := 2) C 0 dL_grow_2 rfl rfl ?_
  refine x_iload_n (pc := 3) C 1 dL_grow_3 rfl rfl ?_
  refine x_iload_n (pc := 4) C 2 dL_grow_4 rfl rfl ?_
  refine xl_call_2 (pc := 5) C hX hF (fun _ _ h => c_X7_grow l G b hl _ _ h) vm_X7_grow wq443 rfl rfl ⟨Nat.le_of_ble_eq_true rfl, Nat.le_of_ble_eq_true rfl⟩ rfl rfl (fun _ h => CW.pl h) (Nat.le_of_ble_eq_true rfl) ⟨Nat.le_of_ble_eq_true rfl, Nat.le_of_ble_eq_true rfl⟩ dL_grow_5 (fun x w1 v0 hv0 e1 e2 => ?_) (fun E hE H1 locs1 ls q ce g1 g2 g3 g4 g5 g6 => ?_)
  · subst e1; subst e2
    refine x_i2l (pc := 8) C dL_grow_8 ?_
    refine w_last (pc := 9) C hv0 dL_grow_9 ?_
    refine x_goto (pc := 10) C 25 dL_grow_10 rfl ?_
    refine x_iconst (pc := 25) C 0 dL_grow_25 ki_0 ?_
    refine xl_ret (Nat.le_of_ble_eq_true rfl) (Nat.le_of_ble_eq_true rfl) ?_
    exact x_iret (pc := 26) C hr rfl (fun _ h => h) dL_grow_26
  · unfold hcode at hE
    split at hE
    · next hq =>
      subst hq
      obtain rfl : _ = v := Option.some.inj hE
      refine xl_catch C hX htab [] ⟨0, 10, 13, 19⟩ [⟨0, 10, 17, 34⟩, ⟨0, 10, 21, 13⟩] rfl (fun z hz => by cases hz) rfl (by decide) wq237 (by decide) g1 g2 g3 g4 g5 g6 ?_
      refine x_astore (pc := 13) C [(4, .ref q), (0, .ref b), (1, .int a1), (2, .int a2), (3, .ref (oub G))] dL_grow_13 (by decide) rfl ?_
      refine x_iconst (pc := 15) C 1 dL_grow_15 ki_1 ?_
      refine xl_ret (Nat.le_of_ble_eq_true rfl) (Nat.le_of_ble_eq_true rfl) ?_
      exact x_iret (pc := 16) C hr rfl (fun _ h => h) dL_grow_16
    · unfold hcode at hE
      split at hE
      · next hq =>
        subst hq
        obtain rfl : _ = v := Option.some.inj hE
        refine xl_catch C hX htab [⟨0, 10, 13, 19⟩] ⟨0, 10, 17, 34⟩ [⟨0, 10, 21, 13⟩] rfl (fun z hz => by
          simp only [List.mem_cons, List.not_mem_nil, or_false] at hz
          subst hz
          exact Or.inr ⟨by decide, _, wq237, by decide⟩) rfl (by decide) wq442 (by decide) g1 g2 g3 g4 g5 g6 ?_
        refine x_astore (pc := 17) C [(4, .ref q), (0, .ref b), (1, .int a1), (2, .int a2), (3, .ref (oub G))] dL_grow_17 (by decide) rfl ?_
        refine x_iconst (pc := 19) C 2 dL_grow_19 ki_2 ?_
        refine xl_ret (Nat.le_of_ble_eq_true rfl) (Nat.le_of_ble_eq_true rfl) ?_
        exact x_iret (pc := 20) C hr rfl (fun _ h => h) dL_grow_20
      · unfold hcode at hE
        split at hE
        · next hq =>
          subst hq
          obtain rfl : _ = v := Option.some.inj hE
          refine xl_catch C hX htab [⟨0, 10, 13, 19⟩, ⟨0, 10, 17, 34⟩] ⟨0, 10, 21, 13⟩ [] rfl (fun z hz => by
            simp only [List.mem_cons, List.not_mem_nil, or_false] at hz
            rcases hz with rfl | rfl
            · exact Or.inr ⟨by decide, _, wq237, by decide⟩
            · exact Or.inr ⟨by decide, _, wq442, by decide⟩) rfl (by decide) wq135 (by decide) g1 g2 g3 g4 g5 g6 ?_
          refine x_astore (pc := 21) C [(4, .ref q), (0, .ref b), (1, .int a1), (2, .int a2), (3, .ref (oub G))] dL_grow_21 (by decide) rfl ?_
          refine x_iconst (pc := 23) C 3 dL_grow_23 ki_3 ?_
          refine xl_ret (Nat.le_of_ble_eq_true rfl) (Nat.le_of_ble_eq_true rfl) ?_
          exact x_iret (pc := 24) C hr rfl (fun _ h => h) dL_grow_24
        · unfold hcode at hE
          exact none_ne hE
theorem c_L_note (l : Launch) (G : xG) (b : Nat) (hl : l.stackTraces = false) (a1 : Int32) (a2 : Int32) (a3 : Int32) {w w' : xWt} {v : Int32} (hF : F_L_note a1 a2 a3 w = some (v, w')) : xMetL l G b yL_note cL_note 6 (some .int) [(0, 12, 15, 19), (0, 12, 19, 13)] (xRX 9 4 24) [.ref b, .int a1, .int a2, .int a3, .ref (oub G)] (CW G b w) (some (.int v)) (CW G b w') 4 24 := by
  refine x_ofL (own := RL) rfl pn_L (Nat.le_of_ble_eq_true rfl) ?_
  intro p e s m args below meth c ha C hr hX htab
  unfold F_L_note at hF
  refine x_aload (pc := 0) C 4 dL_note_0 rfl ?_
  refine x_iconst (pc := 2) C 0 dL_note_2 ki_0 ?_
  refine x_aload_n (pc := 3) C 0 dL_note_3 rfl rfl ?_
  refine x_iload_n (pc := 4) C 1 dL_note_4 rfl rfl ?_
  refine x_iload_n (pc := 5) C 2 dL_note_5 rfl rfl ?_
  refine x_iload_n (pc := 6) C 3 dL_note_6 rfl rfl ?_
  refine xl_call_3 (pc := 7) C hX hF (fun _ _ h => c_X7_note l G b hl _ _ _ h) vm_X7_note wq488 rfl rfl ⟨Nat.le_of_ble_eq_true rfl, Nat.le_of_ble_eq_true rfl⟩ rfl rfl (fun _ h => CW.pl h) (Nat.le_of_ble_eq_true rfl) ⟨Nat.le_of_ble_eq_true rfl, Nat.le_of_ble_eq_true rfl⟩ dL_note_7 (fun x w1 v0 hv0 e1 e2 => ?_) (fun E hE H1 locs1 ls q ce g1 g2 g3 g4 g5 g6 => ?_)
  · subst e1; subst e2
    refine x_i2l (pc := 10) C dL_note_10 ?_
    refine w_last (pc := 11) C hv0 dL_note_11 ?_
    refine x_goto (pc := 12) C 23 dL_note_12 rfl ?_
    refine x_iconst (pc := 23) C 0 dL_note_23 ki_0 ?_
    refine xl_ret (Nat.le_of_ble_eq_true rfl) (Nat.le_of_ble_eq_true rfl) ?_
    exact x_iret (pc := 24) C hr rfl (fun _ h => h) dL_note_24
  · unfold hcode at hE
    split at hE
    · next hq =>
      subst hq
      obtain rfl : _ = v := Option.some.inj hE
      refine xl_catch C hX htab [] ⟨0, 12, 15, 19⟩ [⟨0, 12, 19, 13⟩] rfl (fun z hz => by cases hz) rfl (by decide) wq237 (by decide) g1 g2 g3 g4 g5 g6 ?_
      refine x_astore (pc := 15) C [(5, .ref q), (0, .ref b), (1, .int a1), (2, .int a2), (3, .int a3), (4, .ref (oub G))] dL_note_15 (by decide) rfl ?_
      refine x_iconst (pc := 17) C 1 dL_note_17 ki_1 ?_
      refine xl_ret (Nat.le_of_ble_eq_true rfl) (Nat.le_of_ble_eq_true rfl) ?_
      exact x_iret (pc := 18) C hr rfl (fun _ h => h) dL_note_18
    · unfold hcode at hE
      split at hE
      · next hq =>
        subst hq
        obtain rfl : _ = v := Option.some.inj hE
        refine xl_catch C hX htab [⟨0, 12, 15, 19⟩] ⟨0, 12, 19, 13⟩ [] rfl (fun z hz => by
          simp only [List.mem_cons, List.not_mem_nil, or_false] at hz
          subst hz
          exact Or.inr ⟨by decide, _, wq237, by decide⟩) rfl (by decide) wq135 (by decide) g1 g2 g3 g4 g5 g6 ?_
        refine x_astore (pc := 19) C [(5, .ref q), (0, .ref b), (1, .int a1), (2, .int a2), (3, .int a3), (4, .ref (oub G))] dL_note_19 (by decide) rfl ?_
        refine x_iconst (pc := 21) C 2 dL_note_21 ki_2 ?_
        refine xl_ret (Nat.le_of_ble_eq_true rfl) (Nat.le_of_ble_eq_true rfl) ?_
        exact x_iret (pc := 22) C hr rfl (fun _ h => h) dL_note_22
      · unfold hcode at hE
        exact none_ne hE
theorem c_L_pin (l : Launch) (G : xG) (b : Nat) (hl : l.stackTraces = false) (a1 : Int32) (a2 : Int32) {w w' : xWt} {v : Int32} (hF : F_L_pin a1 a2 w = some (v, w')) : xMetL l G b yL_pin cL_pin 5 (some .int) [(0, 10, 13, 19), (0, 10, 17, 13)] (xRX 9 3 18) [.ref b, .int a1, .int a2, .ref (oub G)] (CW G b w) (some (.int v)) (CW G b w') 3 18 := by
  refine x_ofL (own := RL) rfl pn_L (Nat.le_of_ble_eq_true rfl) ?_
  intro p e s m args below meth c ha C hr hX htab
  unfold F_L_pin at hF
  refine x_aload_n (pc := 0) C 3 dL_pin_0 rfl rfl ?_
  refine x_iconst (pc := 1) C 0 dL_pin_1 ki_0 ?_
  refine x_aload_n (pc := 2) C 0 dL_pin_2 rfl rfl ?_
  refine x_iload_n (pc := 3) C 1 dL_pin_3 rfl rfl ?_
  refine x_iload_n (pc := 4) C 2 dL_pin_4 rfl rfl ?_
  refine xl_call_2 (pc := 5) C hX hF (fun _ _ h => c_X7_pin l G b hl _ _ h) vm_X7_pin wq531 rfl rfl ⟨Nat.le_of_ble_eq_true rfl, Nat.le_of_ble_eq_true rfl⟩ rfl rfl (fun _ h => CW.pl h) (Nat.le_of_ble_eq_true rfl) ⟨Nat.le_of_ble_eq_true rfl, Nat.le_of_ble_eq_true rfl⟩ dL_pin_5 (fun x w1 v0 hv0 e1 e2 => ?_) (fun E hE H1 locs1 ls q ce g1 g2 g3 g4 g5 g6 => ?_)
  · subst e1; subst e2
    refine x_i2l (pc := 8) C dL_pin_8 ?_
    refine w_last (pc := 9) C hv0 dL_pin_9 ?_
    refine x_goto (pc := 10) C 21 dL_pin_10 rfl ?_
    refine x_iconst (pc := 21) C 0 dL_pin_21 ki_0 ?_
    refine xl_ret (Nat.le_of_ble_eq_true rfl) (Nat.le_of_ble_eq_true rfl) ?_
    exact x_iret (pc := 22) C hr rfl (fun _ h => h) dL_pin_22
  · unfold hcode at hE
    split at hE
    · next hq =>
      subst hq
      obtain rfl : _ = v := Option.some.inj hE
      refine xl_catch C hX htab [] ⟨0, 10, 13, 19⟩ [⟨0, 10, 17, 13⟩] rfl (fun z hz => by cases hz) rfl (by decide) wq237 (by decide) g1 g2 g3 g4 g5 g6 ?_
      refine x_astore (pc := 13) C [(4, .ref q), (0, .ref b), (1, .int a1), (2, .int a2), (3, .ref (oub G))] dL_pin_13 (by decide) rfl ?_
      refine x_iconst (pc := 15) C 1 dL_pin_15 ki_1 ?_
      refine xl_ret (Nat.le_of_ble_eq_true rfl) (Nat.le_of_ble_eq_true rfl) ?_
      exact x_iret (pc := 16) C hr rfl (fun _ h => h) dL_pin_16
    · unfold hcode at hE
      split at hE
      · next hq =>
        subst hq
        obtain rfl : _ = v := Option.some.inj hE
        refine xl_catch C hX htab [⟨0, 10, 13, 19⟩] ⟨0, 10, 17, 13⟩ [] rfl (fun z hz => by
          simp only [List.mem_cons, List.not_mem_nil, or_false] at hz
          subst hz
          exact Or.inr ⟨by decide, _, wq237, by decide⟩) rfl (by decide) wq135 (by decide) g1 g2 g3 g4 g5 g6 ?_
        refine x_astore (pc := 17) C [(4, .ref q), (0, .ref b), (1, .int a1), (2, .int a2), (3, .ref (oub G))] dL_pin_17 (by decide) rfl ?_
        refine x_iconst (pc := 19) C 2 dL_pin_19 ki_2 ?_
        refine xl_ret (Nat.le_of_ble_eq_true rfl) (Nat.le_of_ble_eq_true rfl) ?_
        exact x_iret (pc := 20) C hr rfl (fun _ h => h) dL_pin_20
      · unfold hcode at hE
        exact none_ne hE
theorem c_L_loosen (l : Launch) (G : xG) (b : Nat) (hl : l.stackTraces = false) (a1 : Int32) (a2 : Int32) {w w' : xWt} {v : Int32} (hF : F_L_loosen a1 a2 w = some (v, w')) : xMetL l G b yL_loosen cL_loosen 5 (some .int) [(0, 10, 13, 19), (0, 10, 17, 13)] (xRX 9 3 18) [.ref b, .int a1, .int a2, .ref (oub G)] (CW G b w) (some (.int v)) (CW G b w') 3 18 := by
  refine x_ofL (own := RL) rfl pn_L (Nat.le_of_ble_eq_true rfl) ?_
  intro p e s m args below meth c ha C hr hX htab
  unfold F_L_loosen at hF
  refine x_aload_n (pc := 0) C 3 dL_loosen_0 rfl rfl ?_
  refine x_iconst (pc := 1) C 0 dL_loosen_1 ki_0 ?_
  refine x_aload_n (pc := 2) C 0 dL_loosen_2 rfl rfl ?_
  refine x_iload_n (pc := 3) C 1 dL_loosen_3 rfl rfl ?_
  refine x_iload_n (pc := 4) C 2 dL_loosen_4 rfl rfl ?_
  refine xl_call_2 (pc := 5) C hX hF (fun _ _ h => c_X7_loosen l G b hl _ _ h) vm_X7_loosen wq571 rfl rfl ⟨Nat.le_of_ble_eq_true rfl, Nat.le_of_ble_eq_true rfl⟩ rfl rfl (fun _ h => CW.pl h) (Nat.le_of_ble_eq_true rfl) ⟨Nat.le_of_ble_eq_true rfl, Nat.le_of_ble_eq_true rfl⟩ dL_loosen_5 (fun x w1 v0 hv0 e1 e2 => ?_) (fun E hE H1 locs1 ls q ce g1 g2 g3 g4 g5 g6 => ?_)
  · subst e1; subst e2
    refine x_i2l (pc := 8) C dL_loosen_8 ?_
    refine w_last (pc := 9) C hv0 dL_loosen_9 ?_
    refine x_goto (pc := 10) C 21 dL_loosen_10 rfl ?_
    refine x_iconst (pc := 21) C 0 dL_loosen_21 ki_0 ?_
    refine xl_ret (Nat.le_of_ble_eq_true rfl) (Nat.le_of_ble_eq_true rfl) ?_
    exact x_iret (pc := 22) C hr rfl (fun _ h => h) dL_loosen_22
  · unfold hcode at hE
    split at hE
    · next hq =>
      subst hq
      obtain rfl : _ = v := Option.some.inj hE
      refine xl_catch C hX htab [] ⟨0, 10, 13, 19⟩ [⟨0, 10, 17, 13⟩] rfl (fun z hz => by cases hz) rfl (by decide) wq237 (by decide) g1 g2 g3 g4 g5 g6 ?_
      refine x_astore (pc := 13) C [(4, .ref q), (0, .ref b), (1, .int a1), (2, .int a2), (3, .ref (oub G))] dL_loosen_13 (by decide) rfl ?_
      refine x_iconst (pc := 15) C 1 dL_loosen_15 ki_1 ?_
      refine xl_ret (Nat.le_of_ble_eq_true rfl) (Nat.le_of_ble_eq_true rfl) ?_
      exact x_iret (pc := 16) C hr rfl (fun _ h => h) dL_loosen_16
    · unfold hcode at hE
      split at hE
      · next hq =>
        subst hq
        obtain rfl : _ = v := Option.some.inj hE
        refine xl_catch C hX htab [⟨0, 10, 13, 19⟩] ⟨0, 10, 17, 13⟩ [] rfl (fun z hz => by
          simp only [List.mem_cons, List.not_mem_nil, or_false] at hz
          subst hz
          exact Or.inr ⟨by decide, _, wq237, by decide⟩) rfl (by decide) wq135 (by decide) g1 g2 g3 g4 g5 g6 ?_
        refine x_astore (pc := 17) C [(4, .ref q), (0, .ref b), (1, .int a1), (2, .int a2), (3, .ref (oub G))] dL_loosen_17 (by decide) rfl ?_
        refine x_iconst (pc := 19) C 2 dL_loosen_19 ki_2 ?_
        refine xl_ret (Nat.le_of_ble_eq_true rfl) (Nat.le_of_ble_eq_true rfl) ?_
        exact x_iret (pc := 20) C hr rfl (fun _ h => h) dL_loosen_20
      · unfold hcode at hE
        exact none_ne hE
theorem c_L_look (l : Launch) (G : xG) (b : Nat) (hl : l.stackTraces = false) (a1 : Int32) (a2 : Int32) {w w' : xWt} {v : Int32} (hF : F_L_look a1 a2 w = some (v, w')) : xMetL l G b yL_look cL_look 5 (some .int) [(0, 10, 13, 19), (0, 10, 17, 13)] (xRX 9 3 18) [.ref b, .int a1, .int a2, .ref (oub G)] (CW G b w) (some (.int v)) (CW G b w') 3 18 := by
  refine x_ofL (own := RL) rfl pn_L (Nat.le_of_ble_eq_true rfl) ?_
  intro p e s m args below meth c ha C hr hX htab
  unfold F_L_look at hF
  refine x_aload_n (pc := 0) C 3 dL_look_0 rfl rfl ?_
  refine x_iconst (pc := 1) C 0 dL_look_1 ki_0 ?_
  refine x_aload_n (pc := 2) C 0 dL_look_2 rfl rfl ?_
  refine x_iload_n (pc := 3) C 1 dL_look_3 rfl rfl ?_
  refine x_iload_n (pc := 4) C 2 dL_look_4 rfl rfl ?_
  refine xl_call_2 (pc := 5) C hX hF (fun _ _ h => c_X7_look l G b hl _ _ h) vm_X7_look wq598 rfl rfl ⟨Nat.le_of_ble_eq_true rfl, Nat.le_of_ble_eq_true rfl⟩ rfl rfl (fun _ h => CW.pl h) (Nat.le_of_ble_eq_true rfl) ⟨Nat.le_of_ble_eq_true rfl, Nat.le_of_ble_eq_true rfl⟩ dL_look_5 (fun x w1 v0 hv0 e1 e2 => ?_) (fun E hE H1 locs1 ls q ce g1 g2 g3 g4 g5 g6 => ?_)
  · subst e1; subst e2
    refine x_i2l (pc := 8) C dL_look_8 ?_
    refine w_last (pc := 9) C hv0 dL_look_9 ?_
    refine x_goto (pc := 10) C 21 dL_look_10 rfl ?_
    refine x_iconst (pc := 21) C 0 dL_look_21 ki_0 ?_
    refine xl_ret (Nat.le_of_ble_eq_true rfl) (Nat.le_of_ble_eq_true rfl) ?_
    exact x_iret (pc := 22) C hr rfl (fun _ h => h) dL_look_22
  · unfold hcode at hE
    split at hE
    · next hq =>
      subst hq
      obtain rfl : _ = v := Option.some.inj hE
      refine xl_catch C hX htab [] ⟨0, 10, 13, 19⟩ [⟨0, 10, 17, 13⟩] rfl (fun z hz => by cases hz) rfl (by decide) wq237 (by decide) g1 g2 g3 g4 g5 g6 ?_
      refine x_astore (pc := 13) C [(4, .ref q), (0, .ref b), (1, .int a1), (2, .int a2), (3, .ref (oub G))] dL_look_13 (by decide) rfl ?_
      refine x_iconst (pc := 15) C 1 dL_look_15 ki_1 ?_
      refine xl_ret (Nat.le_of_ble_eq_true rfl) (Nat.le_of_ble_eq_true rfl) ?_
      exact x_iret (pc := 16) C hr rfl (fun _ h => h) dL_look_16
    · unfold hcode at hE
      split at hE
      · next hq =>
        subst hq
        obtain rfl : _ = v := Option.some.inj hE
        refine xl_catch C hX htab [⟨0, 10, 13, 19⟩] ⟨0, 10, 17, 13⟩ [] rfl (fun z hz => by
          simp only [List.mem_cons, List.not_mem_nil, or_false] at hz
          subst hz
          exact Or.inr ⟨by decide, _, wq237, by decide⟩) rfl (by decide) wq135 (by decide) g1 g2 g3 g4 g5 g6 ?_
        refine x_astore (pc := 17) C [(4, .ref q), (0, .ref b), (1, .int a1), (2, .int a2), (3, .ref (oub G))] dL_look_17 (by decide) rfl ?_
        refine x_iconst (pc := 19) C 2 dL_look_19 ki_2 ?_
        refine xl_ret (Nat.le_of_ble_eq_true rfl) (Nat.le_of_ble_eq_true rfl) ?_
        exact x_iret (pc := 20) C hr rfl (fun _ h => h) dL_look_20
      · unfold hcode at hE
        exact none_ne hE
theorem c_L_take (l : Launch) (G : xG) (b : Nat) (hl : l.stackTraces = false) (a1 : Int32) (a2 : Int32) {w w' : xWt} {v : Int32} (hF : F_L_take a1 a2 w = some (v, w')) : xMetL l G b yL_take cL_take 5 (some .int) [(0, 10, 13, 19), (0, 10, 17, 13)] (xRX 8 3 18) [.ref b, .int a1, .int a2, .ref (oub G)] (CW G b w) (some (.int v)) (CW G b w') 3 18 := by
  refine x_ofL (own := RL) rfl pn_L (Nat.le_of_ble_eq_true rfl) ?_
  intro p e s m args below meth c ha C hr hX htab
  unfold F_L_take at hF
  refine x_aload_n (pc := 0) C 3 dL_take_0 rfl rfl ?_
  refine x_iconst (pc := 1) C 0 dL_take_1 ki_0 ?_
  refine x_aload_n (pc := 2) C 0 dL_take_2 rfl rfl ?_
  refine x_iload_n (pc := 3) C 1 dL_take_3 rfl rfl ?_
  refine x_iload_n (pc := 4) C 2 dL_take_4 rfl rfl ?_
  refine xl_call_2 (pc := 5) C hX hF (fun _ _ h => c_X7_take l G b hl _ _ h) vm_X7_take wq615 rfl rfl ⟨Nat.le_of_ble_eq_true rfl, Nat.le_of_ble_eq_true rfl⟩ rfl rfl (fun _ h => CW.pl h) (Nat.le_of_ble_eq_true rfl) ⟨Nat.le_of_ble_eq_true rfl, Nat.le_of_ble_eq_true rfl⟩ dL_take_5 (fun x w1 v0 hv0 e1 e2 => ?_) (fun E hE H1 locs1 ls q ce g1 g2 g3 g4 g5 g6 => ?_)
  · subst e1; subst e2
    refine x_i2l (pc := 8) C dL_take_8 ?_
    refine w_last (pc := 9) C hv0 dL_take_9 ?_
    refine x_goto (pc := 10) C 21 dL_take_10 rfl ?_
    refine x_iconst (pc := 21) C 0 dL_take_21 ki_0 ?_
    refine xl_ret (Nat.le_of_ble_eq_true rfl) (Nat.le_of_ble_eq_true rfl) ?_
    exact x_iret (pc := 22) C hr rfl (fun _ h => h) dL_take_22
  · unfold hcode at hE
    split at hE
    · next hq =>
      subst hq
      obtain rfl : _ = v := Option.some.inj hE
      refine xl_catch C hX htab [] ⟨0, 10, 13, 19⟩ [⟨0, 10, 17, 13⟩] rfl (fun z hz => by cases hz) rfl (by decide) wq237 (by decide) g1 g2 g3 g4 g5 g6 ?_
      refine x_astore (pc := 13) C [(4, .ref q), (0, .ref b), (1, .int a1), (2, .int a2), (3, .ref (oub G))] dL_take_13 (by decide) rfl ?_
      refine x_iconst (pc := 15) C 1 dL_take_15 ki_1 ?_
      refine xl_ret (Nat.le_of_ble_eq_true rfl) (Nat.le_of_ble_eq_true rfl) ?_
      exact x_iret (pc := 16) C hr rfl (fun _ h => h) dL_take_16
    · unfold hcode at hE
      split at hE
      · next hq =>
        subst hq
        obtain rfl : _ = v := Option.some.inj hE
        refine xl_catch C hX htab [⟨0, 10, 13, 19⟩] ⟨0, 10, 17, 13⟩ [] rfl (fun z hz => by
          simp only [List.mem_cons, List.not_mem_nil, or_false] at hz
          subst hz
          exact Or.inr ⟨by decide, _, wq237, by decide⟩) rfl (by decide) wq135 (by decide) g1 g2 g3 g4 g5 g6 ?_
        refine x_astore (pc := 17) C [(4, .ref q), (0, .ref b), (1, .int a1), (2, .int a2), (3, .ref (oub G))] dL_take_17 (by decide) rfl ?_
        refine x_iconst (pc := 19) C 2 dL_take_19 ki_2 ?_
        refine xl_ret (Nat.le_of_ble_eq_true rfl) (Nat.le_of_ble_eq_true rfl) ?_
        exact x_iret (pc := 20) C hr rfl (fun _ h => h) dL_take_20
      · unfold hcode at hE
        exact none_ne hE
theorem c_L_swap (l : Launch) (G : xG) (b : Nat) (hl : l.stackTraces = false) (a1 : Int32) (a2 : Int32) (a3 : Int32) {w w' : xWt} {v : Int32} (hF : F_L_swap a1 a2 a3 w = some (v, w')) : xMetL l G b yL_swap cL_swap 6 (some .int) [(0, 12, 15, 19), (0, 12, 19, 34), (0, 12, 23, 13)] (xRX 8 4 24) [.ref b, .int a1, .int a2, .int a3, .ref (oub G)] (CW G b w) (some (.int v)) (CW G b w') 4 24 := by
  refine x_ofL (own := RL) rfl pn_L (Nat.le_of_ble_eq_true rfl) ?_
  intro p e s m args below meth c ha C hr hX htab
  unfold F_L_swap at hF
  refine x_aload (pc := 0) C 4 dL_swap_0 rfl ?_
  refine x_iconst (pc := 2) C 0 dL_swap_2 ki_0 ?_
  refine x_aload_n (pc := 3) C 0 dL_swap_3 rfl rfl ?_
  refine x_iload_n (pc := 4) C 1 dL_swap_4 rfl rfl ?_
  refine x_iload_n (pc := 5) C 2 dL_swap_5 rfl rfl ?_
  refine x_iload_n (pc := 6) C 3 dL_swap_6 rfl rfl ?_
  refine xl_call_3 (pc := 7) C hX hF (fun _ _ h => c_X7_swap l G b hl _ _ _ h) vm_X7_swap wq697 rfl rfl ⟨Nat.le_of_ble_eq_true rfl, Nat.le_of_ble_eq_true rfl⟩ rfl rfl (fun _ h => CW.pl h) (Nat.le_of_ble_eq_true rfl) ⟨Nat.le_of_ble_eq_true rfl, Nat.le_of_ble_eq_true rfl⟩ dL_swap_7 (fun x w1 v0 hv0 e1 e2 => ?_) (fun E hE H1 locs1 ls q ce g1 g2 g3 g4 g5 g6 => ?_)
  · subst e1; subst e2
    refine x_i2l (pc := 10) C dL_swap_10 ?_
    refine w_last (pc := 11) C hv0 dL_swap_11 ?_
    refine x_goto (pc := 12) C 27 dL_swap_12 rfl ?_
    refine x_iconst (pc := 27) C 0 dL_swap_27 ki_0 ?_
    refine xl_ret (Nat.le_of_ble_eq_true rfl) (Nat.le_of_ble_eq_true rfl) ?_
    exact x_iret (pc := 28) C hr rfl (fun _ h => h) dL_swap_28
  · unfold hcode at hE
    split at hE
    · next hq =>
      subst hq
      obtain rfl : _ = v := Option.some.inj hE
      refine xl_catch C hX htab [] ⟨0, 12, 15, 19⟩ [⟨0, 12, 19, 34⟩, ⟨0, 12, 23, 13⟩] rfl (fun z hz => by cases hz) rfl (by decide) wq237 (by decide) g1 g2 g3 g4 g5 g6 ?_
      refine x_astore (pc := 15) C [(5, .ref q), (0, .ref b), (1, .int a1), (2, .int a2), (3, .int a3), (4, .ref (oub G))] dL_swap_15 (by decide) rfl ?_
      refine x_iconst (pc := 17) C 1 dL_swap_17 ki_1 ?_
      refine xl_ret (Nat.le_of_ble_eq_true rfl) (Nat.le_of_ble_eq_true rfl) ?_
      exact x_iret (pc := 18) C hr rfl (fun _ h => h) dL_swap_18
    · unfold hcode at hE
      split at hE
      · next hq =>
        subst hq
        obtain rfl : _ = v := Option.some.inj hE
        refine xl_catch C hX htab [⟨0, 12, 15, 19⟩] ⟨0, 12, 19, 34⟩ [⟨0, 12, 23, 13⟩] rfl (fun z hz => by
          simp only [List.mem_cons, List.not_mem_nil, or_false] at hz
          subst hz
          exact Or.inr ⟨by decide, _, wq237, by decide⟩) rfl (by decide) wq442 (by decide) g1 g2 g3 g4 g5 g6 ?_
        refine x_astore (pc := 19) C [(5, .ref q), (0, .ref b), (1, .int a1), (2, .int a2), (3, .int a3), (4, .ref (oub G))] dL_swap_19 (by decide) rfl ?_
        refine x_iconst (pc := 21) C 2 dL_swap_21 ki_2 ?_
        refine xl_ret (Nat.le_of_ble_eq_true rfl) (Nat.le_of_ble_eq_true rfl) ?_
        exact x_iret (pc := 22) C hr rfl (fun _ h => h) dL_swap_22
      · unfold hcode at hE
        split at hE
        · next hq =>
          subst hq
          obtain rfl : _ = v := Option.some.inj hE
          refine xl_catch C hX htab [⟨0, 12, 15, 19⟩, ⟨0, 12, 19, 34⟩] ⟨0, 12, 23, 13⟩ [] rfl (fun z hz => by
            simp only [List.mem_cons, List.not_mem_nil, or_false] at hz
            rcases hz with rfl | rfl
            · exact Or.inr ⟨by decide, _, wq237, by decide⟩
            · exact Or.inr ⟨by decide, _, wq442, by decide⟩) rfl (by decide) wq135 (by decide) g1 g2 g3 g4 g5 g6 ?_
          refine x_astore (pc := 23) C [(5, .ref q), (0, .ref b), (1, .int a1), (2, .int a2), (3, .int a3), (4, .ref (oub G))] dL_swap_23 (by decide) rfl ?_
          refine x_iconst (pc := 25) C 3 dL_swap_25 ki_3 ?_
          refine xl_ret (Nat.le_of_ble_eq_true rfl) (Nat.le_of_ble_eq_true rfl) ?_
          exact x_iret (pc := 26) C hr rfl (fun _ h => h) dL_swap_26
        · unfold hcode at hE
          exact none_ne hE
theorem c_L_rake (l : Launch) (G : xG) (b : Nat) (hl : l.stackTraces = false) (a1 : Int32) {w w' : xWt} {v : Int32} (hF : F_L_rake a1 w = some (v, w')) : xMetL l G b yL_rake cL_rake 4 (some .int) [(0, 9, 12, 19), (0, 9, 15, 13)] (xRX 8 2 12) [.ref b, .int a1, .ref (oub G)] (CW G b w) (some (.int v)) (CW G b w') 2 12 := by
  refine x_ofL (own := RL) rfl pn_L (Nat.le_of_ble_eq_true rfl) ?_
  intro p e s m args below meth c ha C hr hX htab
  unfold F_L_rake at hF
  refine x_aload_n (pc := 0) C 2 dL_rake_0 rfl rfl ?_
  refine x_iconst (pc := 1) C 0 dL_rake_1 ki_0 ?_
  refine x_aload_n (pc := 2) C 0 dL_rake_2 rfl rfl ?_
  refine x_iload_n (pc := 3) C 1 dL_rake_3 rfl rfl ?_
  refine xl_call_1 (pc := 4) C hX hF (fun _ _ h => c_X7_rake l G b hl _ h) vm_X7_rake wq727 rfl rfl ⟨Nat.le_of_ble_eq_true rfl, Nat.le_of_ble_eq_true rfl⟩ rfl rfl (fun _ h => CW.pl h) (Nat.le_of_ble_eq_true rfl) ⟨Nat.le_of_ble_eq_true rfl, Nat.le_of_ble_eq_true rfl⟩ dL_rake_4 (fun x w1 v0 hv0 e1 e2 => ?_) (fun E hE H1 locs1 ls q ce g1 g2 g3 g4 g5 g6 => ?_)
  · subst e1; subst e2
    refine x_i2l (pc := 7) C dL_rake_7 ?_
    refine w_last (pc := 8) C hv0 dL_rake_8 ?_
    refine x_goto (pc := 9) C 18 dL_rake_9 rfl ?_
    refine x_iconst (pc := 18) C 0 dL_rake_18 ki_0 ?_
    refine xl_ret (Nat.le_of_ble_eq_true rfl) (Nat.le_of_ble_eq_true rfl) ?_
    exact x_iret (pc := 19) C hr rfl (fun _ h => h) dL_rake_19
  · unfold hcode at hE
    split at hE
    · next hq =>
      subst hq
      obtain rfl : _ = v := Option.some.inj hE
      refine xl_catch C hX htab [] ⟨0, 9, 12, 19⟩ [⟨0, 9, 15, 13⟩] rfl (fun z hz => by cases hz) rfl (by decide) wq237 (by decide) g1 g2 g3 g4 g5 g6 ?_
      refine x_astore_n (pc := 12) C [(3, .ref q), (0, .ref b), (1, .int a1), (2, .ref (oub G))] dL_rake_12 rfl (by decide) rfl ?_
      refine x_iconst (pc := 13) C 1 dL_rake_13 ki_1 ?_
      refine xl_ret (Nat.le_of_ble_eq_true rfl) (Nat.le_of_ble_eq_true rfl) ?_
      exact x_iret (pc := 14) C hr rfl (fun _ h => h) dL_rake_14
    · unfold hcode at hE
      split at hE
      · next hq =>
        subst hq
        obtain rfl : _ = v := Option.some.inj hE
        refine xl_catch C hX htab [⟨0, 9, 12, 19⟩] ⟨0, 9, 15, 13⟩ [] rfl (fun z hz => by
          simp only [List.mem_cons, List.not_mem_nil, or_false] at hz
          subst hz
          exact Or.inr ⟨by decide, _, wq237, by decide⟩) rfl (by decide) wq135 (by decide) g1 g2 g3 g4 g5 g6 ?_
        refine x_astore_n (pc := 15) C [(3, .ref q), (0, .ref b), (1, .int a1), (2, .ref (oub G))] dL_rake_15 rfl (by decide) rfl ?_
        refine x_iconst (pc := 16) C 2 dL_rake_16 ki_2 ?_
        refine xl_ret (Nat.le_of_ble_eq_true rfl) (Nat.le_of_ble_eq_true rfl) ?_
        exact x_iret (pc := 17) C hr rfl (fun _ h => h) dL_rake_17
      · unfold hcode at hE
        exact none_ne hE
theorem c_L_set (l : Launch) (G : xG) (b : Nat) (hl : l.stackTraces = false) (a1 : Int32) (a2 : Int32) {w w' : xWt} {v : Int32} (hF : F_L_set a1 a2 w = some (v, w')) : xMetL l G b yL_set cL_set 5 (some .int) [(0, 10, 13, 19), (0, 10, 17, 34)] (xRX 8 2 12) [.ref b, .int a1, .int a2, .ref (oub G)] (CW G b w) (some (.int v)) (CW G b w') 2 12 := by
  refine x_ofL (own := RL) rfl pn_L (Nat.le_of_ble_eq_true rfl) ?_
  intro p e s m args below meth c ha C hr hX htab
  unfold F_L_set at hF
  refine x_aload_n (pc := 0) C 3 dL_set_0 rfl rfl ?_
  refine x_iconst (pc := 1) C 0 dL_set_1 ki_0 ?_
  refine x_aload_n (pc := 2) C 0 dL_set_2 rfl rfl ?_
  refine x_iload_n (pc := 3) C 1 dL_set_3 rfl rfl ?_
  refine x_iload_n (pc := 4) C 2 dL_set_4 rfl rfl ?_
  refine xl_call_2 (pc := 5) C hX hF (fun _ _ h => c_X7_set l G b hl _ _ h) vm_X7_set wq747 rfl rfl ⟨Nat.le_of_ble_eq_true rfl, Nat.le_of_ble_eq_true rfl⟩ rfl rfl (fun _ h => CW.pl h) (Nat.le_of_ble_eq_true rfl) ⟨Nat.le_of_ble_eq_true rfl, Nat.le_of_ble_eq_true rfl⟩ dL_set_5 (fun x w1 v0 hv0 e1 e2 => ?_) (fun E hE H1 locs1 ls q ce g1 g2 g3 g4 g5 g6 => ?_)
  · subst e1; subst e2
    refine x_i2l (pc := 8) C dL_set_8 ?_
    refine w_last (pc := 9) C hv0 dL_set_9 ?_
    refine x_goto (pc := 10) C 21 dL_set_10 rfl ?_
    refine x_iconst (pc := 21) C 0 dL_set_21 ki_0 ?_
    refine xl_ret (Nat.le_of_ble_eq_true rfl) (Nat.le_of_ble_eq_true rfl) ?_
    exact x_iret (pc := 22) C hr rfl (fun _ h => h) dL_set_22
  · unfold hcode at hE
    split at hE
    · next hq =>
      subst hq
      obtain rfl : _ = v := Option.some.inj hE
      refine xl_catch C hX htab [] ⟨0, 10, 13, 19⟩ [⟨0, 10, 17, 34⟩] rfl (fun z hz => by cases hz) rfl (by decide) wq237 (by decide) g1 g2 g3 g4 g5 g6 ?_
      refine x_astore (pc := 13) C [(4, .ref q), (0, .ref b), (1, .int a1), (2, .int a2), (3, .ref (oub G))] dL_set_13 (by decide) rfl ?_
      refine x_iconst (pc := 15) C 1 dL_set_15 ki_1 ?_
      refine xl_ret (Nat.le_of_ble_eq_true rfl) (Nat.le_of_ble_eq_true rfl) ?_
      exact x_iret (pc := 16) C hr rfl (fun _ h => h) dL_set_16
    · unfold hcode at hE
      split at hE
      · next hq =>
        subst hq
        obtain rfl : _ = v := Option.some.inj hE
        refine xl_catch C hX htab [⟨0, 10, 13, 19⟩] ⟨0, 10, 17, 34⟩ [] rfl (fun z hz => by
          simp only [List.mem_cons, List.not_mem_nil, or_false] at hz
          subst hz
          exact Or.inr ⟨by decide, _, wq237, by decide⟩) rfl (by decide) wq442 (by decide) g1 g2 g3 g4 g5 g6 ?_
        refine x_astore (pc := 17) C [(4, .ref q), (0, .ref b), (1, .int a1), (2, .int a2), (3, .ref (oub G))] dL_set_17 (by decide) rfl ?_
        refine x_iconst (pc := 19) C 2 dL_set_19 ki_2 ?_
        refine xl_ret (Nat.le_of_ble_eq_true rfl) (Nat.le_of_ble_eq_true rfl) ?_
        exact x_iret (pc := 20) C hr rfl (fun _ h => h) dL_set_20
      · unfold hcode at hE
        exact none_ne hE
theorem c_L_append (l : Launch) (G : xG) (b : Nat) (hl : l.stackTraces = false) (a1 : Int32) {w w' : xWt} {v : Int32} (hF : F_L_append a1 w = some (v, w')) : xMetL l G b yL_append cL_append 4 (some .int) [(0, 9, 12, 34), (0, 9, 15, 13)] (xRX 7 1 6) [.ref b, .int a1, .ref (oub G)] (CW G b w) (some (.int v)) (CW G b w') 1 6 := by
  refine x_ofL (own := RL) rfl pn_L (Nat.le_of_ble_eq_true rfl) ?_
  intro p e s m args below meth c ha C hr hX htab
  unfold F_L_append at hF
  refine x_aload_n (pc := 0) C 2 dL_append_0 rfl rfl ?_
  refine x_iconst (pc := 1) C 0 dL_append_1 ki_0 ?_
  refine x_aload_n (pc := 2) C 0 dL_append_2 rfl rfl ?_
  refine x_iload_n (pc := 3) C 1 dL_append_3 rfl rfl ?_
  refine xl_call_1 (pc := 4) C hX hF (fun _ _ h => c_X7_append l G b hl _ h) vm_X7_append wq772 rfl rfl ⟨Nat.le_of_ble_eq_true rfl, Nat.le_of_ble_eq_true rfl⟩ rfl rfl (fun _ h => CW.pl h) (Nat.le_of_ble_eq_true rfl) ⟨Nat.le_of_ble_eq_true rfl, Nat.le_of_ble_eq_true rfl⟩ dL_append_4 (fun x w1 v0 hv0 e1 e2 => ?_) (fun E hE H1 locs1 ls q ce g1 g2 g3 g4 g5 g6 => ?_)
  · subst e1; subst e2
    refine x_i2l (pc := 7) C dL_append_7 ?_
    refine w_last (pc := 8) C hv0 dL_append_8 ?_
    refine x_goto (pc := 9) C 18 dL_append_9 rfl ?_
    refine x_iconst (pc := 18) C 0 dL_append_18 ki_0 ?_
    refine xl_ret (Nat.le_of_ble_eq_true rfl) (Nat.le_of_ble_eq_true rfl) ?_
    exact x_iret (pc := 19) C hr rfl (fun _ h => h) dL_append_19
  · unfold hcode at hE
    split at hE
    · next hq =>
      subst hq
      obtain rfl : _ = v := Option.some.inj hE
      refine xl_catch C hX htab [] ⟨0, 9, 12, 34⟩ [⟨0, 9, 15, 13⟩] rfl (fun z hz => by cases hz) rfl (by decide) wq442 (by decide) g1 g2 g3 g4 g5 g6 ?_
      refine x_astore_n (pc := 12) C [(3, .ref q), (0, .ref b), (1, .int a1), (2, .ref (oub G))] dL_append_12 rfl (by decide) rfl ?_
      refine x_iconst (pc := 13) C 1 dL_append_13 ki_1 ?_
      refine xl_ret (Nat.le_of_ble_eq_true rfl) (Nat.le_of_ble_eq_true rfl) ?_
      exact x_iret (pc := 14) C hr rfl (fun _ h => h) dL_append_14
    · unfold hcode at hE
      split at hE
      · next hq =>
        subst hq
        obtain rfl : _ = v := Option.some.inj hE
        refine xl_catch C hX htab [⟨0, 9, 12, 34⟩] ⟨0, 9, 15, 13⟩ [] rfl (fun z hz => by
          simp only [List.mem_cons, List.not_mem_nil, or_false] at hz
          subst hz
          exact Or.inr ⟨by decide, _, wq442, by decide⟩) rfl (by decide) wq135 (by decide) g1 g2 g3 g4 g5 g6 ?_
        refine x_astore_n (pc := 15) C [(3, .ref q), (0, .ref b), (1, .int a1), (2, .ref (oub G))] dL_append_15 rfl (by decide) rfl ?_
        refine x_iconst (pc := 16) C 2 dL_append_16 ki_2 ?_
        refine xl_ret (Nat.le_of_ble_eq_true rfl) (Nat.le_of_ble_eq_true rfl) ?_
        exact x_iret (pc := 17) C hr rfl (fun _ h => h) dL_append_17
      · unfold hcode at hE
        exact none_ne hE
theorem c_L_obey (l : Launch) (G : xG) (b : Nat) (hl : l.stackTraces = false)  {w w' : xWt} {v : Int32} (hF : F_L_obey  w = some (v, w')) : xMetL l G b yL_obey cL_obey 3 (some .int) [(0, 8, 11, 34)] (xRX 7 1 6) [.ref b, .ref (oub G)] (CW G b w) (some (.int v)) (CW G b w') 1 6 := by
  refine x_ofL (own := RL) rfl pn_L (Nat.le_of_ble_eq_true rfl) ?_
  intro p e s m args below meth c ha C hr hX htab
  unfold F_L_obey at hF
  refine x_aload_n (pc := 0) C 1 dL_obey_0 rfl rfl ?_
  refine x_iconst (pc := 1) C 0 dL_obey_1 ki_0 ?_
  refine x_aload_n (pc := 2) C 0 dL_obey_2 rfl rfl ?_
  refine xl_call_0 (pc := 3) C hX hF (fun _ _ h => c_X7_obey l G b hl h) vm_X7_obey wq855 rfl rfl ⟨Nat.le_of_ble_eq_true rfl, Nat.le_of_ble_eq_true rfl⟩ rfl rfl (fun _ h => CW.pl h) (Nat.le_of_ble_eq_true rfl) ⟨Nat.le_of_ble_eq_true rfl, Nat.le_of_ble_eq_true rfl⟩ dL_obey_3 (fun x w1 v0 hv0 e1 e2 => ?_) (fun E hE H1 locs1 ls q ce g1 g2 g3 g4 g5 g6 => ?_)
  · subst e1; subst e2
    refine x_i2l (pc := 6) C dL_obey_6 ?_
    refine w_last (pc := 7) C hv0 dL_obey_7 ?_
    refine x_goto (pc := 8) C 14 dL_obey_8 rfl ?_
    refine x_iconst (pc := 14) C 0 dL_obey_14 ki_0 ?_
    refine xl_ret (Nat.le_of_ble_eq_true rfl) (Nat.le_of_ble_eq_true rfl) ?_
    exact x_iret (pc := 15) C hr rfl (fun _ h => h) dL_obey_15
  · unfold hcode at hE
    split at hE
    · next hq =>
      subst hq
      obtain rfl : _ = v := Option.some.inj hE
      refine xl_catch C hX htab [] ⟨0, 8, 11, 34⟩ [] rfl (fun z hz => by cases hz) rfl (by decide) wq442 (by decide) g1 g2 g3 g4 g5 g6 ?_
      refine x_astore_n (pc := 11) C [(2, .ref q), (0, .ref b), (1, .ref (oub G))] dL_obey_11 rfl (by decide) rfl ?_
      refine x_iconst (pc := 12) C 1 dL_obey_12 ki_1 ?_
      refine xl_ret (Nat.le_of_ble_eq_true rfl) (Nat.le_of_ble_eq_true rfl) ?_
      exact x_iret (pc := 13) C hr rfl (fun _ h => h) dL_obey_13
    · unfold hcode at hE
      exact none_ne hE
theorem c_L_goBack (l : Launch) (G : xG) (b : Nat) (hl : l.stackTraces = false)  {w w' : xWt} {v : Int32} (hF : F_L_goBack  w = some (v, w')) : xMetL l G b yL_goBack cL_goBack 3 (some .int) [(0, 8, 11, 13)] (xRX 7 1 6) [.ref b, .ref (oub G)] (CW G b w) (some (.int v)) (CW G b w') 1 6 := by
  refine x_ofL (own := RL) rfl pn_L (Nat.le_of_ble_eq_true rfl) ?_
  intro p e s m args below meth c ha C hr hX htab
  unfold F_L_goBack at hF
  refine x_aload_n (pc := 0) C 1 dL_goBack_0 rfl rfl ?_
  refine x_iconst (pc := 1) C 0 dL_goBack_1 ki_0 ?_
  refine x_aload_n (pc := 2) C 0 dL_goBack_2 rfl rfl ?_
  refine xl_call_0 (pc := 3) C hX hF (fun _ _ h => c_X7_goBack l G b hl h) vm_X7_goBack wq909 rfl rfl ⟨Nat.le_of_ble_eq_true rfl, Nat.le_of_ble_eq_true rfl⟩ rfl rfl (fun _ h => CW.pl h) (Nat.le_of_ble_eq_true rfl) ⟨Nat.le_of_ble_eq_true rfl, Nat.le_of_ble_eq_true rfl⟩ dL_goBack_3 (fun x w1 v0 hv0 e1 e2 => ?_) (fun E hE H1 locs1 ls q ce g1 g2 g3 g4 g5 g6 => ?_)
  · subst e1; subst e2
    refine x_i2l (pc := 6) C dL_goBack_6 ?_
    refine w_last (pc := 7) C hv0 dL_goBack_7 ?_
    refine x_goto (pc := 8) C 14 dL_goBack_8 rfl ?_
    refine x_iconst (pc := 14) C 0 dL_goBack_14 ki_0 ?_
    refine xl_ret (Nat.le_of_ble_eq_true rfl) (Nat.le_of_ble_eq_true rfl) ?_
    exact x_iret (pc := 15) C hr rfl (fun _ h => h) dL_goBack_15
  · unfold hcode at hE
    split at hE
    · next hq =>
      subst hq
      obtain rfl : _ = v := Option.some.inj hE
      refine xl_catch C hX htab [] ⟨0, 8, 11, 13⟩ [] rfl (fun z hz => by cases hz) rfl (by decide) wq135 (by decide) g1 g2 g3 g4 g5 g6 ?_
      refine x_astore_n (pc := 11) C [(2, .ref q), (0, .ref b), (1, .ref (oub G))] dL_goBack_11 rfl (by decide) rfl ?_
      refine x_iconst (pc := 12) C 1 dL_goBack_12 ki_1 ?_
      refine xl_ret (Nat.le_of_ble_eq_true rfl) (Nat.le_of_ble_eq_true rfl) ?_
      exact x_iret (pc := 13) C hr rfl (fun _ h => h) dL_goBack_13
    · unfold hcode at hE
      exact none_ne hE
theorem c_L_undo (l : Launch) (G : xG) (b : Nat) (hl : l.stackTraces = false)  {w w' : xWt} {v : Int32} (hF : F_L_undo  w = some (v, w')) : xMetL l G b yL_undo cL_undo 3 (some .int) [(0, 8, 11, 13)] (xRX 7 1 6) [.ref b, .ref (oub G)] (CW G b w) (some (.int v)) (CW G b w') 1 6 := by
  refine x_ofL (own := RL) rfl pn_L (Nat.le_of_ble_eq_true rfl) ?_
  intro p e s m args below meth c ha C hr hX htab
  unfold F_L_undo at hF
  refine x_aload_n (pc := 0) C 1 dL_undo_0 rfl rfl ?_
  refine x_iconst (pc := 1) C 0 dL_undo_1 ki_0 ?_
  refine x_aload_n (pc := 2) C 0 dL_undo_2 rfl rfl ?_
  refine xl_call_0 (pc := 3) C hX hF (fun _ _ h => c_X7_undo l G b hl h) vm_X7_undo wq920 rfl rfl ⟨Nat.le_of_ble_eq_true rfl, Nat.le_of_ble_eq_true rfl⟩ rfl rfl (fun _ h => CW.pl h) (Nat.le_of_ble_eq_true rfl) ⟨Nat.le_of_ble_eq_true rfl, Nat.le_of_ble_eq_true rfl⟩ dL_undo_3 (fun x w1 v0 hv0 e1 e2 => ?_) (fun E hE H1 locs1 ls q ce g1 g2 g3 g4 g5 g6 => ?_)
  · subst e1; subst e2
    refine x_i2l (pc := 6) C dL_undo_6 ?_
    refine w_last (pc := 7) C hv0 dL_undo_7 ?_
    refine x_goto (pc := 8) C 14 dL_undo_8 rfl ?_
    refine x_iconst (pc := 14) C 0 dL_undo_14 ki_0 ?_
    refine xl_ret (Nat.le_of_ble_eq_true rfl) (Nat.le_of_ble_eq_true rfl) ?_
    exact x_iret (pc := 15) C hr rfl (fun _ h => h) dL_undo_15
  · unfold hcode at hE
    split at hE
    · next hq =>
      subst hq
      obtain rfl : _ = v := Option.some.inj hE
      refine xl_catch C hX htab [] ⟨0, 8, 11, 13⟩ [] rfl (fun z hz => by cases hz) rfl (by decide) wq135 (by decide) g1 g2 g3 g4 g5 g6 ?_
      refine x_astore_n (pc := 11) C [(2, .ref q), (0, .ref b), (1, .ref (oub G))] dL_undo_11 rfl (by decide) rfl ?_
      refine x_iconst (pc := 12) C 1 dL_undo_12 ki_1 ?_
      refine xl_ret (Nat.le_of_ble_eq_true rfl) (Nat.le_of_ble_eq_true rfl) ?_
      exact x_iret (pc := 13) C hr rfl (fun _ h => h) dL_undo_13
    · unfold hcode at hE
      exact none_ne hE
theorem c_L_branch (l : Launch) (G : xG) (b : Nat) (hl : l.stackTraces = false) (a1 : Int32) {w w' : xWt} {v : Int32} (hF : F_L_branch a1 w = some (v, w')) : xMetL l G b yL_branch cL_branch 4 (some .int) [(0, 9, 12, 19)] (xRX 8 1 6) [.ref b, .int a1, .ref (oub G)] (CW G b w) (some (.int v)) (CW G b w') 1 6 := by
  refine x_ofL (own := RL) rfl pn_L (Nat.le_of_ble_eq_true rfl) ?_
  intro p e s m args below meth c ha C hr hX htab
  unfold F_L_branch at hF
  refine x_aload_n (pc := 0) C 2 dL_branch_0 rfl rfl ?_
  refine x_iconst (pc := 1) C 0 dL_branch_1 ki_0 ?_
  refine x_aload_n (pc := 2) C 0 dL_branch_2 rfl rfl ?_
  refine x_iload_n (pc := 3) C 1 dL_branch_3 rfl rfl ?_
  refine xl_call_1 (pc := 4) C hX hF (fun _ _ h => c_X7_branch l G b hl _ h) vm_X7_branch wq939 rfl rfl ⟨Nat.le_of_ble_eq_true rfl, Nat.le_of_ble_eq_true rfl⟩ rfl rfl (fun _ h => CW.pl h) (Nat.le_of_ble_eq_true rfl) ⟨Nat.le_of_ble_eq_true rfl, Nat.le_of_ble_eq_true rfl⟩ dL_branch_4 (fun x w1 v0 hv0 e1 e2 => ?_) (fun E hE H1 locs1 ls q ce g1 g2 g3 g4 g5 g6 => ?_)
  · subst e1; subst e2
    refine x_i2l (pc := 7) C dL_branch_7 ?_
    refine w_last (pc := 8) C hv0 dL_branch_8 ?_
    refine x_goto (pc := 9) C 15 dL_branch_9 rfl ?_
    refine x_iconst (pc := 15) C 0 dL_branch_15 ki_0 ?_
    refine xl_ret (Nat.le_of_ble_eq_true rfl) (Nat.le_of_ble_eq_true rfl) ?_
    exact x_iret (pc := 16) C hr rfl (fun _ h => h) dL_branch_16
  · unfold hcode at hE
    split at hE
    · next hq =>
      subst hq
      obtain rfl : _ = v := Option.some.inj hE
      refine xl_catch C hX htab [] ⟨0, 9, 12, 19⟩ [] rfl (fun z hz => by cases hz) rfl (by decide) wq237 (by decide) g1 g2 g3 g4 g5 g6 ?_
      refine x_astore_n (pc := 12) C [(3, .ref q), (0, .ref b), (1, .int a1), (2, .ref (oub G))] dL_branch_12 rfl (by decide) rfl ?_
      refine x_iconst (pc := 13) C 1 dL_branch_13 ki_1 ?_
      refine xl_ret (Nat.le_of_ble_eq_true rfl) (Nat.le_of_ble_eq_true rfl) ?_
      exact x_iret (pc := 14) C hr rfl (fun _ h => h) dL_branch_14
    · unfold hcode at hE
      exact none_ne hE
theorem c_L_leaf (l : Launch) (G : xG) (b : Nat) (hl : l.stackTraces = false) (a1 : Int32) (a2 : Int32) {w w' : xWt} {v : Int32} (hF : F_L_leaf a1 a2 w = some (v, w')) : xMetL l G b yL_leaf cL_leaf 5 (some .int) [(0, 10, 13, 19), (0, 10, 17, 34)] (xRX 8 2 12) [.ref b, .int a1, .int a2, .ref (oub G)] (CW G b w) (some (.int v)) (CW G b w') 2 12 := by
  refine x_ofL (own := RL) rfl pn_L (Nat.le_of_ble_eq_true rfl) ?_
  intro p e s m args below meth c ha C hr hX htab
  unfold F_L_leaf at hF
  refine x_aload_n (pc := 0) C 3 dL_leaf_0 rfl rfl ?_
  refine x_iconst (pc := 1) C 0 dL_leaf_1 ki_0 ?_
  refine x_aload_n (pc := 2) C 0 dL_leaf_2 rfl rfl ?_
  refine x_iload_n (pc := 3) C 1 dL_leaf_3 rfl rfl ?_
  refine x_iload_n (pc := 4) C 2 dL_leaf_4 rfl rfl ?_
  refine xl_call_2 (pc := 5) C hX hF (fun _ _ h => c_X7_leaf l G b hl _ _ h) vm_X7_leaf wq952 rfl rfl ⟨Nat.le_of_ble_eq_true rfl, Nat.le_of_ble_eq_true rfl⟩ rfl rfl (fun _ h => CW.pl h) (Nat.le_of_ble_eq_true rfl) ⟨Nat.le_of_ble_eq_true rfl, Nat.le_of_ble_eq_true rfl⟩ dL_leaf_5 (fun x w1 v0 hv0 e1 e2 => ?_) (fun E hE H1 locs1 ls q ce g1 g2 g3 g4 g5 g6 => ?_)
  · subst e1; subst e2
    refine x_i2l (pc := 8) C dL_leaf_8 ?_
    refine w_last (pc := 9) C hv0 dL_leaf_9 ?_
    refine x_goto (pc := 10) C 21 dL_leaf_10 rfl ?_
    refine x_iconst (pc := 21) C 0 dL_leaf_21 ki_0 ?_
    refine xl_ret (Nat.le_of_ble_eq_true rfl) (Nat.le_of_ble_eq_true rfl) ?_
    exact x_iret (pc := 22) C hr rfl (fun _ h => h) dL_leaf_22
  · unfold hcode at hE
    split at hE
    · next hq =>
      subst hq
      obtain rfl : _ = v := Option.some.inj hE
      refine xl_catch C hX htab [] ⟨0, 10, 13, 19⟩ [⟨0, 10, 17, 34⟩] rfl (fun z hz => by cases hz) rfl (by decide) wq237 (by decide) g1 g2 g3 g4 g5 g6 ?_
      refine x_astore (pc := 13) C [(4, .ref q), (0, .ref b), (1, .int a1), (2, .int a2), (3, .ref (oub G))] dL_leaf_13 (by decide) rfl ?_
      refine x_iconst (pc := 15) C 1 dL_leaf_15 ki_1 ?_
      refine xl_ret (Nat.le_of_ble_eq_true rfl) (Nat.le_of_ble_eq_true rfl) ?_
      exact x_iret (pc := 16) C hr rfl (fun _ h => h) dL_leaf_16
    · unfold hcode at hE
      split at hE
      · next hq =>
        subst hq
        obtain rfl : _ = v := Option.some.inj hE
        refine xl_catch C hX htab [⟨0, 10, 13, 19⟩] ⟨0, 10, 17, 34⟩ [] rfl (fun z hz => by
          simp only [List.mem_cons, List.not_mem_nil, or_false] at hz
          subst hz
          exact Or.inr ⟨by decide, _, wq237, by decide⟩) rfl (by decide) wq442 (by decide) g1 g2 g3 g4 g5 g6 ?_
        refine x_astore (pc := 17) C [(4, .ref q), (0, .ref b), (1, .int a1), (2, .int a2), (3, .ref (oub G))] dL_leaf_17 (by decide) rfl ?_
        refine x_iconst (pc := 19) C 2 dL_leaf_19 ki_2 ?_
        refine xl_ret (Nat.le_of_ble_eq_true rfl) (Nat.le_of_ble_eq_true rfl) ?_
        exact x_iret (pc := 20) C hr rfl (fun _ h => h) dL_leaf_20
      · unfold hcode at hE
        exact none_ne hE
theorem c_L_child (l : Launch) (G : xG) (b : Nat) (hl : l.stackTraces = false) (a1 : Int32) (a2 : Int32) {w w' : xWt} {v : Int32} (hF : F_L_child a1 a2 w = some (v, w')) : xMetL l G b yL_child cL_child 5 (some .int) [(0, 10, 13, 19), (0, 10, 17, 34)] (xRX 8 2 12) [.ref b, .int a1, .int a2, .ref (oub G)] (CW G b w) (some (.int v)) (CW G b w') 2 12 := by
  refine x_ofL (own := RL) rfl pn_L (Nat.le_of_ble_eq_true rfl) ?_
  intro p e s m args below meth c ha C hr hX htab
  unfold F_L_child at hF
  refine x_aload_n (pc := 0) C 3 dL_child_0 rfl rfl ?_
  refine x_iconst (pc := 1) C 0 dL_child_1 ki_0 ?_
  refine x_aload_n (pc := 2) C 0 dL_child_2 rfl rfl ?_
  refine x_iload_n (pc := 3) C 1 dL_child_3 rfl rfl ?_
  refine x_iload_n (pc := 4) C 2 dL_child_4 rfl rfl ?_
  refine xl_call_2 (pc := 5) C hX hF (fun _ _ h => c_X7_child l G b hl _ _ h) vm_X7_child wq1004 rfl rfl ⟨Nat.le_of_ble_eq_true rfl, Nat.le_of_ble_eq_true rfl⟩ rfl rfl (fun _ h => CW.pl h) (Nat.le_of_ble_eq_true rfl) ⟨Nat.le_of_ble_eq_true rfl, Nat.le_of_ble_eq_true rfl⟩ dL_child_5 (fun x w1 v0 hv0 e1 e2 => ?_) (fun E hE H1 locs1 ls q ce g1 g2 g3 g4 g5 g6 => ?_)
  · subst e1; subst e2
    refine x_i2l (pc := 8) C dL_child_8 ?_
    refine w_last (pc := 9) C hv0 dL_child_9 ?_
    refine x_goto (pc := 10) C 21 dL_child_10 rfl ?_
    refine x_iconst (pc := 21) C 0 dL_child_21 ki_0 ?_
    refine xl_ret (Nat.le_of_ble_eq_true rfl) (Nat.le_of_ble_eq_true rfl) ?_
    exact x_iret (pc := 22) C hr rfl (fun _ h => h) dL_child_22
  · unfold hcode at hE
    split at hE
    · next hq =>
      subst hq
      obtain rfl : _ = v := Option.some.inj hE
      refine xl_catch C hX htab [] ⟨0, 10, 13, 19⟩ [⟨0, 10, 17, 34⟩] rfl (fun z hz => by cases hz) rfl (by decide) wq237 (by decide) g1 g2 g3 g4 g5 g6 ?_
      refine x_astore (pc := 13) C [(4, .ref q), (0, .ref b), (1, .int a1), (2, .int a2), (3, .ref (oub G))] dL_child_13 (by decide) rfl ?_
      refine x_iconst (pc := 15) C 1 dL_child_15 ki_1 ?_
      refine xl_ret (Nat.le_of_ble_eq_true rfl) (Nat.le_of_ble_eq_true rfl) ?_
      exact x_iret (pc := 16) C hr rfl (fun _ h => h) dL_child_16
    · unfold hcode at hE
      split at hE
      · next hq =>
        subst hq
        obtain rfl : _ = v := Option.some.inj hE
        refine xl_catch C hX htab [⟨0, 10, 13, 19⟩] ⟨0, 10, 17, 34⟩ [] rfl (fun z hz => by
          simp only [List.mem_cons, List.not_mem_nil, or_false] at hz
          subst hz
          exact Or.inr ⟨by decide, _, wq237, by decide⟩) rfl (by decide) wq442 (by decide) g1 g2 g3 g4 g5 g6 ?_
        refine x_astore (pc := 17) C [(4, .ref q), (0, .ref b), (1, .int a1), (2, .int a2), (3, .ref (oub G))] dL_child_17 (by decide) rfl ?_
        refine x_iconst (pc := 19) C 2 dL_child_19 ki_2 ?_
        refine xl_ret (Nat.le_of_ble_eq_true rfl) (Nat.le_of_ble_eq_true rfl) ?_
        exact x_iret (pc := 20) C hr rfl (fun _ h => h) dL_child_20
      · unfold hcode at hE
        exact none_ne hE
theorem c_L_hook (l : Launch) (G : xG) (b : Nat) (hl : l.stackTraces = false) (a1 : Int32) (a2 : Int32) (a3 : Int32) {w w' : xWt} {v : Int32} (hF : F_L_hook a1 a2 a3 w = some (v, w')) : xMetL l G b yL_hook cL_hook 6 (some .int) [(0, 12, 15, 19), (0, 12, 19, 34)] (xRX 9 3 18) [.ref b, .int a1, .int a2, .int a3, .ref (oub G)] (CW G b w) (some (.int v)) (CW G b w') 3 18 := by
  refine x_ofL (own := RL) rfl pn_L (Nat.le_of_ble_eq_true rfl) ?_
  intro p e s m args below meth c ha C hr hX htab
  unfold F_L_hook at hF
  refine x_aload (pc := 0) C 4 dL_hook_0 rfl ?_
  refine x_iconst (pc := 2) C 0 dL_hook_2 ki_0 ?_
  refine x_aload_n (pc := 3) C 0 dL_hook_3 rfl rfl ?_
  refine x_iload_n (pc := 4) C 1 dL_hook_4 rfl rfl ?_
  refine x_iload_n (pc := 5) C 2 dL_hook_5 rfl rfl ?_
  refine x_iload_n (pc := 6) C 3 dL_hook_6 rfl rfl ?_
  refine xl_call_3 (pc := 7) C hX hF (fun _ _ h => c_X7_hook l G b hl _ _ _ h) vm_X7_hook wq1027 rfl rfl ⟨Nat.le_of_ble_eq_true rfl, Nat.le_of_ble_eq_true rfl⟩ rfl rfl (fun _ h => CW.pl h) (Nat.le_of_ble_eq_true rfl) ⟨Nat.le_of_ble_eq_true rfl, Nat.le_of_ble_eq_true rfl⟩ dL_hook_7 (fun x w1 v0 hv0 e1 e2 => ?_) (fun E hE H1 locs1 ls q ce g1 g2 g3 g4 g5 g6 => ?_)
  · subst e1; subst e2
    refine x_i2l (pc := 10) C dL_hook_10 ?_
    refine w_last (pc := 11) C hv0 dL_hook_11 ?_
    refine x_goto (pc := 12) C 23 dL_hook_12 rfl ?_
    refine x_iconst (pc := 23) C 0 dL_hook_23 ki_0 ?_
    refine xl_ret (Nat.le_of_ble_eq_true rfl) (Nat.le_of_ble_eq_true rfl) ?_
    exact x_iret (pc := 24) C hr rfl (fun _ h => h) dL_hook_24
  · unfold hcode at hE
    split at hE
    · next hq =>
      subst hq
      obtain rfl : _ = v := Option.some.inj hE
      refine xl_catch C hX htab [] ⟨0, 12, 15, 19⟩ [⟨0, 12, 19, 34⟩] rfl (fun z hz => by cases hz) rfl (by decide) wq237 (by decide) g1 g2 g3 g4 g5 g6 ?_
      refine x_astore (pc := 15) C [(5, .ref q), (0, .ref b), (1, .int a1), (2, .int a2), (3, .int a3), (4, .ref (oub G))] dL_hook_15 (by decide) rfl ?_
      refine x_iconst (pc := 17) C 1 dL_hook_17 ki_1 ?_
      refine xl_ret (Nat.le_of_ble_eq_true rfl) (Nat.le_of_ble_eq_true rfl) ?_
      exact x_iret (pc := 18) C hr rfl (fun _ h => h) dL_hook_18
    · unfold hcode at hE
      split at hE
      · next hq =>
        subst hq
        obtain rfl : _ = v := Option.some.inj hE
        refine xl_catch C hX htab [⟨0, 12, 15, 19⟩] ⟨0, 12, 19, 34⟩ [] rfl (fun z hz => by
          simp only [List.mem_cons, List.not_mem_nil, or_false] at hz
          subst hz
          exact Or.inr ⟨by decide, _, wq237, by decide⟩) rfl (by decide) wq442 (by decide) g1 g2 g3 g4 g5 g6 ?_
        refine x_astore (pc := 19) C [(5, .ref q), (0, .ref b), (1, .int a1), (2, .int a2), (3, .int a3), (4, .ref (oub G))] dL_hook_19 (by decide) rfl ?_
        refine x_iconst (pc := 21) C 2 dL_hook_21 ki_2 ?_
        refine xl_ret (Nat.le_of_ble_eq_true rfl) (Nat.le_of_ble_eq_true rfl) ?_
        exact x_iret (pc := 22) C hr rfl (fun _ h => h) dL_hook_22
      · unfold hcode at hE
        exact none_ne hE
theorem c_L_heap (l : Launch) (G : xG) (b : Nat) (hl : l.stackTraces = false) (a1 : Int32) (a2 : Int32) {w w' : xWt} {v : Int32} (hF : F_L_heap a1 a2 w = some (v, w')) : xMetL l G b yL_heap cL_heap 5 (some .int) [(0, 10, 13, 19), (0, 10, 17, 34)] (xRX 8 2 12) [.ref b, .int a1, .int a2, .ref (oub G)] (CW G b w) (some (.int v)) (CW G b w') 2 12 := by
  refine x_ofL (own := RL) rfl pn_L (Nat.le_of_ble_eq_true rfl) ?_
  intro p e s m args below meth c ha C hr hX htab
  unfold F_L_heap at hF
  refine x_aload_n (pc := 0) C 3 dL_heap_0 rfl rfl ?_
  refine x_iconst (pc := 1) C 0 dL_heap_1 ki_0 ?_
  refine x_aload_n (pc := 2) C 0 dL_heap_2 rfl rfl ?_
  refine x_iload_n (pc := 3) C 1 dL_heap_3 rfl rfl ?_
  refine x_iload_n (pc := 4) C 2 dL_heap_4 rfl rfl ?_
  refine xl_call_2 (pc := 5) C hX hF (fun _ _ h => c_X7_heap l G b hl _ _ h) vm_X7_heap wq1046 rfl rfl ⟨Nat.le_of_ble_eq_true rfl, Nat.le_of_ble_eq_true rfl⟩ rfl rfl (fun _ h => CW.pl h) (Nat.le_of_ble_eq_true rfl) ⟨Nat.le_of_ble_eq_true rfl, Nat.le_of_ble_eq_true rfl⟩ dL_heap_5 (fun x w1 v0 hv0 e1 e2 => ?_) (fun E hE H1 locs1 ls q ce g1 g2 g3 g4 g5 g6 => ?_)
  · subst e1; subst e2
    refine x_i2l (pc := 8) C dL_heap_8 ?_
    refine w_last (pc := 9) C hv0 dL_heap_9 ?_
    refine x_goto (pc := 10) C 21 dL_heap_10 rfl ?_
    refine x_iconst (pc := 21) C 0 dL_heap_21 ki_0 ?_
    refine xl_ret (Nat.le_of_ble_eq_true rfl) (Nat.le_of_ble_eq_true rfl) ?_
    exact x_iret (pc := 22) C hr rfl (fun _ h => h) dL_heap_22
  · unfold hcode at hE
    split at hE
    · next hq =>
      subst hq
      obtain rfl : _ = v := Option.some.inj hE
      refine xl_catch C hX htab [] ⟨0, 10, 13, 19⟩ [⟨0, 10, 17, 34⟩] rfl (fun z hz => by cases hz) rfl (by decide) wq237 (by decide) g1 g2 g3 g4 g5 g6 ?_
      refine x_astore (pc := 13) C [(4, .ref q), (0, .ref b), (1, .int a1), (2, .int a2), (3, .ref (oub G))] dL_heap_13 (by decide) rfl ?_
      refine x_iconst (pc := 15) C 1 dL_heap_15 ki_1 ?_
      refine xl_ret (Nat.le_of_ble_eq_true rfl) (Nat.le_of_ble_eq_true rfl) ?_
      exact x_iret (pc := 16) C hr rfl (fun _ h => h) dL_heap_16
    · unfold hcode at hE
      split at hE
      · next hq =>
        subst hq
        obtain rfl : _ = v := Option.some.inj hE
        refine xl_catch C hX htab [⟨0, 10, 13, 19⟩] ⟨0, 10, 17, 34⟩ [] rfl (fun z hz => by
          simp only [List.mem_cons, List.not_mem_nil, or_false] at hz
          subst hz
          exact Or.inr ⟨by decide, _, wq237, by decide⟩) rfl (by decide) wq442 (by decide) g1 g2 g3 g4 g5 g6 ?_
        refine x_astore (pc := 17) C [(4, .ref q), (0, .ref b), (1, .int a1), (2, .int a2), (3, .ref (oub G))] dL_heap_17 (by decide) rfl ?_
        refine x_iconst (pc := 19) C 2 dL_heap_19 ki_2 ?_
        refine xl_ret (Nat.le_of_ble_eq_true rfl) (Nat.le_of_ble_eq_true rfl) ?_
        exact x_iret (pc := 20) C hr rfl (fun _ h => h) dL_heap_20
      · unfold hcode at hE
        exact none_ne hE
theorem c_L_count (l : Launch) (G : xG) (b : Nat) (hl : l.stackTraces = false) (a1 : Int32) {w w' : xWt} {v : Int32} (hF : F_L_count a1 w = some (v, w')) : xMetL l G b yL_count cL_count 4 (some .int) [(0, 9, 12, 34)] (xRX 8 1 6) [.ref b, .int a1, .ref (oub G)] (CW G b w) (some (.int v)) (CW G b w') 1 6 := by
  refine x_ofL (own := RL) rfl pn_L (Nat.le_of_ble_eq_true rfl) ?_
  intro p e s m args below meth c ha C hr hX htab
  unfold F_L_count at hF
  refine x_aload_n (pc := 0) C 2 dL_count_0 rfl rfl ?_
  refine x_iconst (pc := 1) C 0 dL_count_1 ki_0 ?_
  refine x_aload_n (pc := 2) C 0 dL_count_2 rfl rfl ?_
  refine x_iload_n (pc := 3) C 1 dL_count_3 rfl rfl ?_
  refine xl_call_1 (pc := 4) C hX hF (fun _ _ h => c_X7_count l G b hl _ h) vm_X7_count wq1058 rfl rfl ⟨Nat.le_of_ble_eq_true rfl, Nat.le_of_ble_eq_true rfl⟩ rfl rfl (fun _ h => CW.pl h) (Nat.le_of_ble_eq_true rfl) ⟨Nat.le_of_ble_eq_true rfl, Nat.le_of_ble_eq_true rfl⟩ dL_count_4 (fun x w1 v0 hv0 e1 e2 => ?_) (fun E hE H1 locs1 ls q ce g1 g2 g3 g4 g5 g6 => ?_)
  · subst e1; subst e2
    refine x_i2l (pc := 7) C dL_count_7 ?_
    refine w_last (pc := 8) C hv0 dL_count_8 ?_
    refine x_goto (pc := 9) C 15 dL_count_9 rfl ?_
    refine x_iconst (pc := 15) C 0 dL_count_15 ki_0 ?_
    refine xl_ret (Nat.le_of_ble_eq_true rfl) (Nat.le_of_ble_eq_true rfl) ?_
    exact x_iret (pc := 16) C hr rfl (fun _ h => h) dL_count_16
  · unfold hcode at hE
    split at hE
    · next hq =>
      subst hq
      obtain rfl : _ = v := Option.some.inj hE
      refine xl_catch C hX htab [] ⟨0, 9, 12, 34⟩ [] rfl (fun z hz => by cases hz) rfl (by decide) wq442 (by decide) g1 g2 g3 g4 g5 g6 ?_
      refine x_astore_n (pc := 12) C [(3, .ref q), (0, .ref b), (1, .int a1), (2, .ref (oub G))] dL_count_12 rfl (by decide) rfl ?_
      refine x_iconst (pc := 13) C 1 dL_count_13 ki_1 ?_
      refine xl_ret (Nat.le_of_ble_eq_true rfl) (Nat.le_of_ble_eq_true rfl) ?_
      exact x_iret (pc := 14) C hr rfl (fun _ h => h) dL_count_14
    · unfold hcode at hE
      exact none_ne hE
theorem c_L_setting (l : Launch) (G : xG) (b : Nat) (hl : l.stackTraces = false) (a1 : Int32) {w w' : xWt} {v : Int32} (hF : F_L_setting a1 w = some (v, w')) : xMetL l G b yL_setting cL_setting 4 (some .int) [(0, 9, 12, 19)] (xRX 8 1 6) [.ref b, .int a1, .ref (oub G)] (CW G b w) (some (.int v)) (CW G b w') 1 6 := by
  refine x_ofL (own := RL) rfl pn_L (Nat.le_of_ble_eq_true rfl) ?_
  intro p e s m args below meth c ha C hr hX htab
  unfold F_L_setting at hF
  refine x_aload_n (pc := 0) C 2 dL_setting_0 rfl rfl ?_
  refine x_iconst (pc := 1) C 0 dL_setting_1 ki_0 ?_
  refine x_aload_n (pc := 2) C 0 dL_setting_2 rfl rfl ?_
  refine x_iload_n (pc := 3) C 1 dL_setting_3 rfl rfl ?_
  refine xl_call_1 (pc := 4) C hX hF (fun _ _ h => c_X7_setting l G b hl _ h) vm_X7_setting wq1097 rfl rfl ⟨Nat.le_of_ble_eq_true rfl, Nat.le_of_ble_eq_true rfl⟩ rfl rfl (fun _ h => CW.pl h) (Nat.le_of_ble_eq_true rfl) ⟨Nat.le_of_ble_eq_true rfl, Nat.le_of_ble_eq_true rfl⟩ dL_setting_4 (fun x w1 v0 hv0 e1 e2 => ?_) (fun E hE H1 locs1 ls q ce g1 g2 g3 g4 g5 g6 => ?_)
  · subst e1; subst e2
    refine x_i2l (pc := 7) C dL_setting_7 ?_
    refine w_last (pc := 8) C hv0 dL_setting_8 ?_
    refine x_goto (pc := 9) C 15 dL_setting_9 rfl ?_
    refine x_iconst (pc := 15) C 0 dL_setting_15 ki_0 ?_
    refine xl_ret (Nat.le_of_ble_eq_true rfl) (Nat.le_of_ble_eq_true rfl) ?_
    exact x_iret (pc := 16) C hr rfl (fun _ h => h) dL_setting_16
  · unfold hcode at hE
    split at hE
    · next hq =>
      subst hq
      obtain rfl : _ = v := Option.some.inj hE
      refine xl_catch C hX htab [] ⟨0, 9, 12, 19⟩ [] rfl (fun z hz => by cases hz) rfl (by decide) wq237 (by decide) g1 g2 g3 g4 g5 g6 ?_
      refine x_astore_n (pc := 12) C [(3, .ref q), (0, .ref b), (1, .int a1), (2, .ref (oub G))] dL_setting_12 rfl (by decide) rfl ?_
      refine x_iconst (pc := 13) C 1 dL_setting_13 ki_1 ?_
      refine xl_ret (Nat.le_of_ble_eq_true rfl) (Nat.le_of_ble_eq_true rfl) ?_
      exact x_iret (pc := 14) C hr rfl (fun _ h => h) dL_setting_14
    · unfold hcode at hE
      exact none_ne hE
theorem c_L_why (l : Launch) (G : xG) (b : Nat) (hl : l.stackTraces = false) (a1 : Int32) {w w' : xWt} {v : Int32} (hF : F_L_why a1 w = some (v, w')) : xMetL l G b yL_why cL_why 4 (some .int) [(0, 9, 12, 19)] (xRX 8 1 6) [.ref b, .int a1, .ref (oub G)] (CW G b w) (some (.int v)) (CW G b w') 1 6 := by
  refine x_ofL (own := RL) rfl pn_L (Nat.le_of_ble_eq_true rfl) ?_
  intro p e s m args below meth c ha C hr hX htab
  unfold F_L_why at hF
  refine x_aload_n (pc := 0) C 2 dL_why_0 rfl rfl ?_
  refine x_iconst (pc := 1) C 0 dL_why_1 ki_0 ?_
  refine x_aload_n (pc := 2) C 0 dL_why_2 rfl rfl ?_
  refine x_iload_n (pc := 3) C 1 dL_why_3 rfl rfl ?_
  refine xl_call_1 (pc := 4) C hX hF (fun _ _ h => c_X7_why l G b hl _ h) vm_X7_why wq1109 rfl rfl ⟨Nat.le_of_ble_eq_true rfl, Nat.le_of_ble_eq_true rfl⟩ rfl rfl (fun _ h => CW.pl h) (Nat.le_of_ble_eq_true rfl) ⟨Nat.le_of_ble_eq_true rfl, Nat.le_of_ble_eq_true rfl⟩ dL_why_4 (fun x w1 v0 hv0 e1 e2 => ?_) (fun E hE H1 locs1 ls q ce g1 g2 g3 g4 g5 g6 => ?_)
  · subst e1; subst e2
    refine x_i2l (pc := 7) C dL_why_7 ?_
    refine w_last (pc := 8) C hv0 dL_why_8 ?_
    refine x_goto (pc := 9) C 15 dL_why_9 rfl ?_
    refine x_iconst (pc := 15) C 0 dL_why_15 ki_0 ?_
    refine xl_ret (Nat.le_of_ble_eq_true rfl) (Nat.le_of_ble_eq_true rfl) ?_
    exact x_iret (pc := 16) C hr rfl (fun _ h => h) dL_why_16
  · unfold hcode at hE
    split at hE
    · next hq =>
      subst hq
      obtain rfl : _ = v := Option.some.inj hE
      refine xl_catch C hX htab [] ⟨0, 9, 12, 19⟩ [] rfl (fun z hz => by cases hz) rfl (by decide) wq237 (by decide) g1 g2 g3 g4 g5 g6 ?_
      refine x_astore_n (pc := 12) C [(3, .ref q), (0, .ref b), (1, .int a1), (2, .ref (oub G))] dL_why_12 rfl (by decide) rfl ?_
      refine x_iconst (pc := 13) C 1 dL_why_13 ki_1 ?_
      refine xl_ret (Nat.le_of_ble_eq_true rfl) (Nat.le_of_ble_eq_true rfl) ?_
      exact x_iret (pc := 14) C hr rfl (fun _ h => h) dL_why_14
    · unfold hcode at hE
      exact none_ne hE
theorem c_L_ifRaked (l : Launch) (G : xG) (b : Nat) (hl : l.stackTraces = false) (a1 : Int32) (a2 : Int32) {w w' : xWt} {v : Int32} (hF : F_L_ifRaked a1 a2 w = some (v, w')) : xMetL l G b yL_ifRaked cL_ifRaked 5 (some .int) [(0, 10, 13, 19), (0, 10, 17, 34)] (xRX 8 2 12) [.ref b, .int a1, .int a2, .ref (oub G)] (CW G b w) (some (.int v)) (CW G b w') 2 12 := by
  refine x_ofL (own := RL) rfl pn_L (Nat.le_of_ble_eq_true rfl) ?_
  intro p e s m args below meth c ha C hr hX htab
  unfold F_L_ifRaked at hF
  refine x_aload_n (pc := 0) C 3 dL_ifRaked_0 rfl rfl ?_
  refine x_iconst (pc := 1) C 0 dL_ifRaked_1 ki_0 ?_
  refine x_aload_n (pc := 2) C 0 dL_ifRaked_2 rfl rfl ?_
  refine x_iload_n (pc := 3) C 1 dL_ifRaked_3 rfl rfl ?_
  refine x_iload_n (pc := 4) C 2 dL_ifRaked_4 rfl rfl ?_
  refine xl_call_2 (pc := 5) C hX hF (fun _ _ h => c_X7_ifRaked l G b hl _ _ h) vm_X7_ifRaked wq1128 rfl rfl ⟨Nat.le_of_ble_eq_true rfl, Nat.le_of_ble_eq_true rfl⟩ rfl rfl (fun _ h => CW.pl h) (Nat.le_of_ble_eq_true rfl) ⟨Nat.le_of_ble_eq_true rfl, Nat.le_of_ble_eq_true rfl⟩ dL_ifRaked_5 (fun x w1 v0 hv0 e1 e2 => ?_) (fun E hE H1 locs1 ls q ce g1 g2 g3 g4 g5 g6 => ?_)
  · subst e1; subst e2
    refine x_i2l (pc := 8) C dL_ifRaked_8 ?_
    refine w_last (pc := 9) C hv0 dL_ifRaked_9 ?_
    refine x_goto (pc := 10) C 21 dL_ifRaked_10 rfl ?_
    refine x_iconst (pc := 21) C 0 dL_ifRaked_21 ki_0 ?_
    refine xl_ret (Nat.le_of_ble_eq_true rfl) (Nat.le_of_ble_eq_true rfl) ?_
    exact x_iret (pc := 22) C hr rfl (fun _ h => h) dL_ifRaked_22
  · unfold hcode at hE
    split at hE
    · next hq =>
      subst hq
      obtain rfl : _ = v := Option.some.inj hE
      refine xl_catch C hX htab [] ⟨0, 10, 13, 19⟩ [⟨0, 10, 17, 34⟩] rfl (fun z hz => by cases hz) rfl (by decide) wq237 (by decide) g1 g2 g3 g4 g5 g6 ?_
      refine x_astore (pc := 13) C [(4, .ref q), (0, .ref b), (1, .int a1), (2, .int a2), (3, .ref (oub G))] dL_ifRaked_13 (by decide) rfl ?_
      refine x_iconst (pc := 15) C 1 dL_ifRaked_15 ki_1 ?_
      refine xl_ret (Nat.le_of_ble_eq_true rfl) (Nat.le_of_ble_eq_true rfl) ?_
      exact x_iret (pc := 16) C hr rfl (fun _ h => h) dL_ifRaked_16
    · unfold hcode at hE
      split at hE
      · next hq =>
        subst hq
        obtain rfl : _ = v := Option.some.inj hE
        refine xl_catch C hX htab [⟨0, 10, 13, 19⟩] ⟨0, 10, 17, 34⟩ [] rfl (fun z hz => by
          simp only [List.mem_cons, List.not_mem_nil, or_false] at hz
          subst hz
          exact Or.inr ⟨by decide, _, wq237, by decide⟩) rfl (by decide) wq442 (by decide) g1 g2 g3 g4 g5 g6 ?_
        refine x_astore (pc := 17) C [(4, .ref q), (0, .ref b), (1, .int a1), (2, .int a2), (3, .ref (oub G))] dL_ifRaked_17 (by decide) rfl ?_
        refine x_iconst (pc := 19) C 2 dL_ifRaked_19 ki_2 ?_
        refine xl_ret (Nat.le_of_ble_eq_true rfl) (Nat.le_of_ble_eq_true rfl) ?_
        exact x_iret (pc := 20) C hr rfl (fun _ h => h) dL_ifRaked_20
      · unfold hcode at hE
        exact none_ne hE
theorem c_L_ifLoosened (l : Launch) (G : xG) (b : Nat) (hl : l.stackTraces = false) (a1 : Int32) (a2 : Int32) {w w' : xWt} {v : Int32} (hF : F_L_ifLoosened a1 a2 w = some (v, w')) : xMetL l G b yL_ifLoosened cL_ifLoosened 5 (some .int) [(0, 10, 13, 19)] (xRX 9 2 12) [.ref b, .int a1, .int a2, .ref (oub G)] (CW G b w) (some (.int v)) (CW G b w') 2 12 := by
  refine x_ofL (own := RL) rfl pn_L (Nat.le_of_ble_eq_true rfl) ?_
  intro p e s m args below meth c ha C hr hX htab
  unfold F_L_ifLoosened at hF
  refine x_aload_n (pc := 0) C 3 dL_ifLoosened_0 rfl rfl ?_
  refine x_iconst (pc := 1) C 0 dL_ifLoosened_1 ki_0 ?_
  refine x_aload_n (pc := 2) C 0 dL_ifLoosened_2 rfl rfl ?_
  refine x_iload_n (pc := 3) C 1 dL_ifLoosened_3 rfl rfl ?_
  refine x_iload_n (pc := 4) C 2 dL_ifLoosened_4 rfl rfl ?_
  refine xl_call_2 (pc := 5) C hX hF (fun _ _ h => c_X7_ifLoosened l G b hl _ _ h) vm_X7_ifLoosened wq1164 rfl rfl ⟨Nat.le_of_ble_eq_true rfl, Nat.le_of_ble_eq_true rfl⟩ rfl rfl (fun _ h => CW.pl h) (Nat.le_of_ble_eq_true rfl) ⟨Nat.le_of_ble_eq_true rfl, Nat.le_of_ble_eq_true rfl⟩ dL_ifLoosened_5 (fun x w1 v0 hv0 e1 e2 => ?_) (fun E hE H1 locs1 ls q ce g1 g2 g3 g4 g5 g6 => ?_)
  · subst e1; subst e2
    refine x_i2l (pc := 8) C dL_ifLoosened_8 ?_
    refine w_last (pc := 9) C hv0 dL_ifLoosened_9 ?_
    refine x_goto (pc := 10) C 17 dL_ifLoosened_10 rfl ?_
    refine x_iconst (pc := 17) C 0 dL_ifLoosened_17 ki_0 ?_
    refine xl_ret (Nat.le_of_ble_eq_true rfl) (Nat.le_of_ble_eq_true rfl) ?_
    exact x_iret (pc := 18) C hr rfl (fun _ h => h) dL_ifLoosened_18
  · unfold hcode at hE
    split at hE
    · next hq =>
      subst hq
      obtain rfl : _ = v := Option.some.inj hE
      refine xl_catch C hX htab [] ⟨0, 10, 13, 19⟩ [] rfl (fun z hz => by cases hz) rfl (by decide) wq237 (by decide) g1 g2 g3 g4 g5 g6 ?_
      refine x_astore (pc := 13) C [(4, .ref q), (0, .ref b), (1, .int a1), (2, .int a2), (3, .ref (oub G))] dL_ifLoosened_13 (by decide) rfl ?_
      refine x_iconst (pc := 15) C 1 dL_ifLoosened_15 ki_1 ?_
      refine xl_ret (Nat.le_of_ble_eq_true rfl) (Nat.le_of_ble_eq_true rfl) ?_
      exact x_iret (pc := 16) C hr rfl (fun _ h => h) dL_ifLoosened_16
    · unfold hcode at hE
      exact none_ne hE
theorem c_L_ifRested (l : Launch) (G : xG) (b : Nat) (hl : l.stackTraces = false) (a1 : Int32) {w w' : xWt} {v : Int32} (hF : F_L_ifRested a1 w = some (v, w')) : xMetL l G b yL_ifRested cL_ifRested 4 (some .int) [(0, 9, 12, 19)] (xRX 8 1 6) [.ref b, .int a1, .ref (oub G)] (CW G b w) (some (.int v)) (CW G b w') 1 6 := by
  refine x_ofL (own := RL) rfl pn_L (Nat.le_of_ble_eq_true rfl) ?_
  intro p e s m args below meth c ha C hr hX htab
  unfold F_L_ifRested at hF
  refine x_aload_n (pc := 0) C 2 dL_ifRested_0 rfl rfl ?_
  refine x_iconst (pc := 1) C 0 dL_ifRested_1 ki_0 ?_
  refine x_aload_n (pc := 2) C 0 dL_ifRested_2 rfl rfl ?_
  refine x_iload_n (pc := 3) C 1 dL_ifRested_3 rfl rfl ?_
  refine xl_call_1 (pc := 4) C hX hF (fun _ _ h => c_X7_ifRested l G b hl _ h) vm_X7_ifRested wq1192 rfl rfl ⟨Nat.le_of_ble_eq_true rfl, Nat.le_of_ble_eq_true rfl⟩ rfl rfl (fun _ h => CW.pl h) (Nat.le_of_ble_eq_true rfl) ⟨Nat.le_of_ble_eq_true rfl, Nat.le_of_ble_eq_true rfl⟩ dL_ifRested_4 (fun x w1 v0 hv0 e1 e2 => ?_) (fun E hE H1 locs1 ls q ce g1 g2 g3 g4 g5 g6 => ?_)
  · subst e1; subst e2
    refine x_i2l (pc := 7) C dL_ifRested_7 ?_
    refine w_last (pc := 8) C hv0 dL_ifRested_8 ?_
    refine x_goto (pc := 9) C 15 dL_ifRested_9 rfl ?_
    refine x_iconst (pc := 15) C 0 dL_ifRested_15 ki_0 ?_
    refine xl_ret (Nat.le_of_ble_eq_true rfl) (Nat.le_of_ble_eq_true rfl) ?_
    exact x_iret (pc := 16) C hr rfl (fun _ h => h) dL_ifRested_16
  · unfold hcode at hE
    split at hE
    · next hq =>
      subst hq
      obtain rfl : _ = v := Option.some.inj hE
      refine xl_catch C hX htab [] ⟨0, 9, 12, 19⟩ [] rfl (fun z hz => by cases hz) rfl (by decide) wq237 (by decide) g1 g2 g3 g4 g5 g6 ?_
      refine x_astore_n (pc := 12) C [(3, .ref q), (0, .ref b), (1, .int a1), (2, .ref (oub G))] dL_ifRested_12 rfl (by decide) rfl ?_
      refine x_iconst (pc := 13) C 1 dL_ifRested_13 ki_1 ?_
      refine xl_ret (Nat.le_of_ble_eq_true rfl) (Nat.le_of_ble_eq_true rfl) ?_
      exact x_iret (pc := 14) C hr rfl (fun _ h => h) dL_ifRested_14
    · unfold hcode at hE
      exact none_ne hE
