/-! the law's small methods: a call of the face, and what it throws as a number -/
abbrev xWsH (y : MethodName) (cc : ByteArray) (n : Nat) (ret : Option FieldType) (hh : List (Nat × Nat × Nat × Nat)) : List Cond := Cond.codeWith y cc n ret hh :: gw
def xMetL (l : Launch) (G : xG) (b : Nat) (y : MethodName) (cc : ByteArray) (n : Nat) (ret : Option FieldType) (hh : List (Nat × Nat × Nat × Nat)) (rm : Room) (as : List Value) (P : Heap → Prop) (v : Option Value) (P' : Heap → Prop) (mc ms : Nat) : Prop :=
  vx_Met l y (xWsH y cc n ret hh) rm (xPcX G b as P) (xQ b v P') (fun _ _ _ => False) mc ms (xA b)
abbrev xlM (below : List Frame) (b : Nat) (v : Option Value) (P' : Heap → Prop) (args : Array Value) (s : State) (mc ms : Nat) : State → Prop := vx_MQ below (xQ b v P') (fun _ _ _ => False) args s mc ms (xA b)
def hcode : List (String × Int32) → String → Option Int32
  | [], _ => none
  | (E, n) :: r, X => if X = E then some n else hcode r X
def lwrap (M : Option ((Int32 ⊕ String) × xWt)) (Es : List (String × Int32)) : Option (Int32 × xWt) := match M with
  | some (.inl v, w1) => some (v, w1)
  | some (.inr E, w1) => (hcode Es E).map (fun n => (n, w1))
  | none => none
section XL
variable {p : Program} {l : Launch} {e : Env} {R : Room} {s : State} {m : MethodId} {args : Array Value} {below : List Frame} {meth : Method} {c : Code} {Q : State → Prop} {b nL : Nat} {P P' : Heap → Prop} {cells slots pc mc ms : Nat} {lv lv' : List (Nat × Value)} {st : List Value} {G : xG} {cc : ByteArray} {own : String} {w : xWt}
theorem x_ofL {y : MethodName} {ret : Option FieldType} {hh : List (Nat × Nat × Nat × Nat)} {rm : Room} {as : List Value} {v : Option Value} (ho : y.cls = own) (hy : plainName y.cls = true) (hlen : (lg_sl as).length ≤ nL)
    (body : ∀ p e s m args below meth c, args = as.toArray → xC p m c s args meth G b cc nL own → meth.sig.returnType = ret → xF b s → c.exceptionTable.toList = tableOf hh → xW p l e rm s m args below meth c (xlM below b v P' args s mc ms) b nL P 0 0 0 (lv_args 0 as) []) : xMetL l G b y cc nL ret hh rm as P v P' mc ms := by
  subst ho
  refine vx_ofWH (cc := cc) (maxL := nL) (ret := ret) (hh := hh) hy rfl ?_
  intro p e s m args below meth c s₁ B hml hv
  obtain ⟨hargs, hP, hK, hbl, hF⟩ := hv
  have hts := atoms_spec (ws := xWsH y cc nL ret hh) B.pre
  have hC : xC p m c s args meth G b cc nL y.cls := ⟨B.exec, B.bytes, hml, findClass_of_methodNamed B.named, fun w hw => hts w (List.mem_cons_of_mem _ hw), B.notSynchronized, hK, hbl⟩
  have hl := lv_entry as (n := nL) hlen
  have k := body p e s m args below meth c hargs hC B.returns hF (vx_table (x := y) B (hts _ List.mem_cons_self))
  have h2 := k s.heap [] _ hP va_S.rf hl
  rw [hargs]
  rw [hargs] at h2
  rw [lg_entry_eq]
  exact h2
theorem xl_ret {v : Option Value} (hc : cells ≤ mc) (hs : slots ≤ ms) (k : xW p l e R s m args below meth c (MQ below (xQ b v P') args s mc ms (xA b)) b nL P mc ms pc lv st) : xW p l e R s m args below meth c (xlM below b v P' args s mc ms) b nL P cells slots pc lv st := by
  intro H locs ls h1 h2 h3
  refine W.widen hc hs ?_
  intro T hT X
  obtain ⟨t, a1, oc, b1, b2, b3, b4⟩ := k H locs ls h1 h2 h3 T hT X
  exact ⟨t, a1, oc, b1, b2, Or.inl ⟨b3, b4⟩⟩
/-- a thrown one is caught here -/
theorem xl_catch {hh : List (Nat × Nat × Nat × Nat)} {E : String} {H : Heap} {locs : List Loc} {ls : Array Slot} {q : Addr} {ce : Cell} {rest : List Value} (C : xC p m c s args meth G b cc nL own) (hX : xF b s) (htab : c.exceptionTable.toList = tableOf hh) (pre : List ExceptionTableEntry) (x : ExceptionTableEntry) (suf : List ExceptionTableEntry) (hsplit : tableOf hh = pre ++ x :: suf)
    (hpass : ∀ z ∈ pre, covers z pc = false ∨ (z.catchType ≠ 0 ∧ ∃ nm : String, Cond.classLink own z.catchType nm ∈ gw ∧ (E, nm) ∈ xPairs)) (hx : covers x pc = true) (h0 : x.catchType ≠ 0) (hlink : Cond.classLink own x.catchType E ∈ gw) (hE : E ∈ xExc) (hP : P H) (hS : va_S (xA b) s.heap H locs) (hl : lv_has ls nL lv) (hce : H[q]? = some ce) (hv : ce.vm = .none) (hcl : s.vm.findClass E = some ce.cls)
    (k : xW p l e R s m args below meth c Q b nL P cells slots x.handlerPc lv [.ref q]) : vx_W p l e R s m args below meth c H locs cells slots Q (F0 m pc ls rest) q := by
  refine vx_catch C.2.2.2.1 pre x suf (htab.trans hsplit) (fun z hz => ?_) hx h0 (C.2.2.2.2.1 _ hlink) (va_Nw.use rfl (hX.2.2.2.1 E hE)) hce hv hcl (k H locs ls hP hS hl)
  rcases hpass z hz with h | ⟨h1, nm, h2, h3⟩
  · exact Or.inl h
  · exact Or.inr ⟨h1, nm, C.2.2.2.2.1 _ h2, hX.2.2.2.2.1 _ h3⟩
theorem xl_call_0 (C : xC p m c s args meth G b cc nL own) (hX : xF b s) {y : MethodName} {bytes : ByteArray} {maxL index ci a0 d1 : Nat} {ret : Option FieldType} {fs : List Value} {K9 : vw_C} {rest : List Value} {M : Option ((Int32 ⊕ String) × xWt)} {Es : List (String × Int32)} {v : Int32} {w' : xWt} (hF : lwrap M Es = some (v, w')) (h : ∀ (o1 : Int32 ⊕ String) (w1 : xWt), M = some (o1, w1) → xMetX l G b y bytes maxL ret (xRX d1 (mco o1) (6 * mco o1)) (.ref a0 :: []) P (ov (fun v => some (.int v)) o1) (CW G b w1) (mco o1) (6 * mco o1))
    (hy : xVm y bytes maxL ret 0) (hl : Cond.methodLink own index y ∈ gw) (hR : d1 + 1 ≤ R.frames ∧ 8 + (maxL + 11) + 36 * d1 ≤ R.locals) (hci : vwCl[ci]? = some K9) (hK1 : K9.1 = y.cls) (hat : ∀ H, P H → va_at G.1 vwCl (a0, .inr (ci, fs)) H) (hcat : (rest.map fun v => v.category).sum ≤ 8) (hf : cells + 1 ≤ R.cells ∧ slots + 6 ≤ R.slots) (d : decode cc pc = .ok (.invokevirtual index, 3))
    (k : xW p l e R s m args below meth c Q b nL (CW G b w') cells slots (pc + 3) lv (.int v :: rest))
    (kx : ∀ E, hcode Es E = some v → ∀ (H1 : Heap) (locs1 : List Loc) (ls : Array Slot) (q : Addr) (ce : Cell), CW G b w' H1 → va_S (xA b) s.heap H1 locs1 → lv_has ls nL lv → H1[q]? = some ce → ce.vm = .none → s.vm.findClass E = some ce.cls → vx_W p l e R s m args below meth c H1 locs1 (cells + 1) (slots + 6) Q (F0 m pc ls rest) q) : xW p l e R s m args below meth c Q b nL P cells slots pc lv (.ref a0 :: rest) := by
  intro H locs ls h1 h2 h3
  have hK : va_K G.1 vwCl (xT G) s := C.2.2.2.2.2.2.1
  have hrun : ∀ (o1 : Int32 ⊕ String) (w1 : xWt), M = some (o1, w1) → vx_Run p l e R s m args below meth c H locs cells slots (mco o1) (6 * mco o1) (F0 m pc ls (.ref a0 :: rest)) rest (xvQ b (ov (fun v => some (.int v)) o1) (CW G b w1) (Value.ref a0 :: []).toArray) (xvX b (ov (fun v => some (.int v)) o1) (CW G b w1)) (xA b) := fun o1 w1 hM =>
    vx_runV (rm := xRX d1 (mco o1) (6 * mco o1)) (As := []) (rest := rest) (C := K9.1) ⟨C.1, C.2.1, C.2.2.1, C.2.2.2.1, C.2.2.2.2.1⟩ (h _ _ hM) ⟨x_callB C hy.1 hy.2.1 hl rfl rfl hy.2.2.2.2 hR, C.2.2.2.2.1 _ hy.2.2.1, C.2.2.2.2.1 _ (by rw [hK1]; exact hy.2.2.2.1)⟩ ⟨xPcX.blind, va_recv (q0 := 0) (ws := [(a0, .inr (ci, fs))]) hK (fun j q hq => by
      match j, hq with
      | 0, hq => cases hq; exact hat H h1
      | j + 1, hq => simp at hq) hci rfl, fun U hU hW => ⟨rfl, by rw [hU]; exact h1, hK.moved hW.alike, by rw [hU]; exact Nat.le_trans C.2.2.2.2.2.2.2 h2.1, hX.next hW (by rw [hU]; exact h2)⟩⟩ rfl rfl h3.1 rfl (lv_room hcat) d (by
        match o1 with
        | .inl _ => exact ⟨Nat.le_trans (Nat.le_succ _) hf.1, Nat.le_trans (Nat.le_add_right _ 6) hf.2⟩
        | .inr _ => exact hf)
  match M, hF, hrun with
  | some (.inl x, w1), hF, hrun =>
    have hF : some (x, w1) = some (v, w') := hF
    cases hF
    exact xv_back (rest := rest) (mc1 := 0) (ms1 := 0) H locs ls h2 h3 (hrun _ _ rfl) (fun v hv => by cases hv; exact k) (fun E hE => by cases hE)
  | some (.inr E, w1), hF, hrun =>
    have hF : (hcode Es E).map (fun n => (n, w1)) = some (v, w') := hF
    cases hh : hcode Es E with
    | none => rw [hh] at hF; cases hF
    | some n =>
      rw [hh] at hF
      cases hF
      exact xv_back (rest := rest) (mc1 := 1) (ms1 := 6) H locs ls h2 h3 (hrun _ _ rfl) (fun v hv => by cases hv) (fun E' hE H1 locs1 q ce g1 g2 g3 g4 g5 => by cases hE; exact kx E hh H1 locs1 ls q ce g1 g2 h3 g3 g4 g5)
theorem xl_call_1 (C : xC p m c s args meth G b cc nL own) (hX : xF b s) {v1 : Value} {y : MethodName} {bytes : ByteArray} {maxL index ci a0 d1 : Nat} {ret : Option FieldType} {fs : List Value} {K9 : vw_C} {rest : List Value} {M : Option ((Int32 ⊕ String) × xWt)} {Es : List (String × Int32)} {v : Int32} {w' : xWt} (hF : lwrap M Es = some (v, w')) (h : ∀ (o1 : Int32 ⊕ String) (w1 : xWt), M = some (o1, w1) → xMetX l G b y bytes maxL ret (xRX d1 (mco o1) (6 * mco o1)) (.ref a0 :: [v1]) P (ov (fun v => some (.int v)) o1) (CW G b w1) (mco o1) (6 * mco o1))
    (hy : xVm y bytes maxL ret 1) (hl : Cond.methodLink own index y ∈ gw) (hR : d1 + 1 ≤ R.frames ∧ 8 + (maxL + 11) + 36 * d1 ≤ R.locals) (hci : vwCl[ci]? = some K9) (hK1 : K9.1 = y.cls) (hat : ∀ H, P H → va_at G.1 vwCl (a0, .inr (ci, fs)) H) (hcat : (rest.map fun v => v.category).sum ≤ 8) (hf : cells + 1 ≤ R.cells ∧ slots + 6 ≤ R.slots) (d : decode cc pc = .ok (.invokevirtual index, 3))
    (k : xW p l e R s m args below meth c Q b nL (CW G b w') cells slots (pc + 3) lv (.int v :: rest))
    (kx : ∀ E, hcode Es E = some v → ∀ (H1 : Heap) (locs1 : List Loc) (ls : Array Slot) (q : Addr) (ce : Cell), CW G b w' H1 → va_S (xA b) s.heap H1 locs1 → lv_has ls nL lv → H1[q]? = some ce → ce.vm = .none → s.vm.findClass E = some ce.cls → vx_W p l e R s m args below meth c H1 locs1 (cells + 1) (slots + 6) Q (F0 m pc ls rest) q) : xW p l e R s m args below meth c Q b nL P cells slots pc lv (v1 :: .ref a0 :: rest) := by
  intro H locs ls h1 h2 h3
  have hK : va_K G.1 vwCl (xT G) s := C.2.2.2.2.2.2.1
  have hrun : ∀ (o1 : Int32 ⊕ String) (w1 : xWt), M = some (o1, w1) → vx_Run p l e R s m args below meth c H locs cells slots (mco o1) (6 * mco o1) (F0 m pc ls (v1 :: .ref a0 :: rest)) rest (xvQ b (ov (fun v => some (.int v)) o1) (CW G b w1) (Value.ref a0 :: [v1]).toArray) (xvX b (ov (fun v => some (.int v)) o1) (CW G b w1)) (xA b) := fun o1 w1 hM =>
    vx_runV (rm := xRX d1 (mco o1) (6 * mco o1)) (As := [v1]) (rest := rest) (C := K9.1) ⟨C.1, C.2.1, C.2.2.1, C.2.2.2.1, C.2.2.2.2.1⟩ (h _ _ hM) ⟨x_callB C hy.1 hy.2.1 hl rfl rfl hy.2.2.2.2 hR, C.2.2.2.2.1 _ hy.2.2.1, C.2.2.2.2.1 _ (by rw [hK1]; exact hy.2.2.2.1)⟩ ⟨xPcX.blind, va_recv (q0 := 0) (ws := [(a0, .inr (ci, fs))]) hK (fun j q hq => by
      match j, hq with
      | 0, hq => cases hq; exact hat H h1
      | j + 1, hq => simp at hq) hci rfl, fun U hU hW => ⟨rfl, by rw [hU]; exact h1, hK.moved hW.alike, by rw [hU]; exact Nat.le_trans C.2.2.2.2.2.2.2 h2.1, hX.next hW (by rw [hU]; exact h2)⟩⟩ rfl rfl h3.1 rfl (lv_room hcat) d (by
        match o1 with
        | .inl _ => exact ⟨Nat.le_trans (Nat.le_succ _) hf.1, Nat.le_trans (Nat.le_add_right _ 6) hf.2⟩
        | .inr _ => exact hf)
  match M, hF, hrun with
  | some (.inl x, w1), hF, hrun =>
    have hF : some (x, w1) = some (v, w') := hF
    cases hF
    exact xv_back (rest := rest) (mc1 := 0) (ms1 := 0) H locs ls h2 h3 (hrun _ _ rfl) (fun v hv => by cases hv; exact k) (fun E hE => by cases hE)
  | some (.inr E, w1), hF, hrun =>
    have hF : (hcode Es E).map (fun n => (n, w1)) = some (v, w') := hF
    cases hh : hcode Es E with
    | none => rw [hh] at hF; cases hF
    | some n =>
      rw [hh] at hF
      cases hF
      exact xv_back (rest := rest) (mc1 := 1) (ms1 := 6) H locs ls h2 h3 (hrun _ _ rfl) (fun v hv => by cases hv) (fun E' hE H1 locs1 q ce g1 g2 g3 g4 g5 => by cases hE; exact kx E hh H1 locs1 ls q ce g1 g2 h3 g3 g4 g5)
theorem xl_call_2 (C : xC p m c s args meth G b cc nL own) (hX : xF b s) {v1 v2 : Value} {y : MethodName} {bytes : ByteArray} {maxL index ci a0 d1 : Nat} {ret : Option FieldType} {fs : List Value} {K9 : vw_C} {rest : List Value} {M : Option ((Int32 ⊕ String) × xWt)} {Es : List (String × Int32)} {v : Int32} {w' : xWt} (hF : lwrap M Es = some (v, w')) (h : ∀ (o1 : Int32 ⊕ String) (w1 : xWt), M = some (o1, w1) → xMetX l G b y bytes maxL ret (xRX d1 (mco o1) (6 * mco o1)) (.ref a0 :: [v1, v2]) P (ov (fun v => some (.int v)) o1) (CW G b w1) (mco o1) (6 * mco o1))
    (hy : xVm y bytes maxL ret 2) (hl : Cond.methodLink own index y ∈ gw) (hR : d1 + 1 ≤ R.frames ∧ 8 + (maxL + 11) + 36 * d1 ≤ R.locals) (hci : vwCl[ci]? = some K9) (hK1 : K9.1 = y.cls) (hat : ∀ H, P H → va_at G.1 vwCl (a0, .inr (ci, fs)) H) (hcat : (rest.map fun v => v.category).sum ≤ 8) (hf : cells + 1 ≤ R.cells ∧ slots + 6 ≤ R.slots) (d : decode cc pc = .ok (.invokevirtual index, 3))
    (k : xW p l e R s m args below meth c Q b nL (CW G b w') cells slots (pc + 3) lv (.int v :: rest))
    (kx : ∀ E, hcode Es E = some v → ∀ (H1 : Heap) (locs1 : List Loc) (ls : Array Slot) (q : Addr) (ce : Cell), CW G b w' H1 → va_S (xA b) s.heap H1 locs1 → lv_has ls nL lv → H1[q]? = some ce → ce.vm = .none → s.vm.findClass E = some ce.cls → vx_W p l e R s m args below meth c H1 locs1 (cells + 1) (slots + 6) Q (F0 m pc ls rest) q) : xW p l e R s m args below meth c Q b nL P cells slots pc lv (v2 :: v1 :: .ref a0 :: rest) := by
  intro H locs ls h1 h2 h3
  have hK : va_K G.1 vwCl (xT G) s := C.2.2.2.2.2.2.1
  have hrun : ∀ (o1 : Int32 ⊕ String) (w1 : xWt), M = some (o1, w1) → vx_Run p l e R s m args below meth c H locs cells slots (mco o1) (6 * mco o1) (F0 m pc ls (v2 :: v1 :: .ref a0 :: rest)) rest (xvQ b (ov (fun v => some (.int v)) o1) (CW G b w1) (Value.ref a0 :: [v1, v2]).toArray) (xvX b (ov (fun v => some (.int v)) o1) (CW G b w1)) (xA b) := fun o1 w1 hM =>
    vx_runV (rm := xRX d1 (mco o1) (6 * mco o1)) (As := [v1, v2]) (rest := rest) (C := K9.1) ⟨C.1, C.2.1, C.2.2.1, C.2.2.2.1, C.2.2.2.2.1⟩ (h _ _ hM) ⟨x_callB C hy.1 hy.2.1 hl rfl rfl hy.2.2.2.2 hR, C.2.2.2.2.1 _ hy.2.2.1, C.2.2.2.2.1 _ (by rw [hK1]; exact hy.2.2.2.1)⟩ ⟨xPcX.blind, va_recv (q0 := 0) (ws := [(a0, .inr (ci, fs))]) hK (fun j q hq => by
      match j, hq with
      | 0, hq => cases hq; exact hat H h1
      | j + 1, hq => simp at hq) hci rfl, fun U hU hW => ⟨rfl, by rw [hU]; exact h1, hK.moved hW.alike, by rw [hU]; exact Nat.le_trans C.2.2.2.2.2.2.2 h2.1, hX.next hW (by rw [hU]; exact h2)⟩⟩ rfl rfl h3.1 rfl (lv_room hcat) d (by
        match o1 with
        | .inl _ => exact ⟨Nat.le_trans (Nat.le_succ _) hf.1, Nat.le_trans (Nat.le_add_right _ 6) hf.2⟩
        | .inr _ => exact hf)
  match M, hF, hrun with
  | some (.inl x, w1), hF, hrun =>
    have hF : some (x, w1) = some (v, w') := hF
    cases hF
    exact xv_back (rest := rest) (mc1 := 0) (ms1 := 0) H locs ls h2 h3 (hrun _ _ rfl) (fun v hv => by cases hv; exact k) (fun E hE => by cases hE)
  | some (.inr E, w1), hF, hrun =>
    have hF : (hcode Es E).map (fun n => (n, w1)) = some (v, w') := hF
    cases hh : hcode Es E with
    | none => rw [hh] at hF; cases hF
    | some n =>
      rw [hh] at hF
      cases hF
      exact xv_back (rest := rest) (mc1 := 1) (ms1 := 6) H locs ls h2 h3 (hrun _ _ rfl) (fun v hv => by cases hv) (fun E' hE H1 locs1 q ce g1 g2 g3 g4 g5 => by cases hE; exact kx E hh H1 locs1 ls q ce g1 g2 h3 g3 g4 g5)
theorem xl_call_3 (C : xC p m c s args meth G b cc nL own) (hX : xF b s) {v1 v2 v3 : Value} {y : MethodName} {bytes : ByteArray} {maxL index ci a0 d1 : Nat} {ret : Option FieldType} {fs : List Value} {K9 : vw_C} {rest : List Value} {M : Option ((Int32 ⊕ String) × xWt)} {Es : List (String × Int32)} {v : Int32} {w' : xWt} (hF : lwrap M Es = some (v, w')) (h : ∀ (o1 : Int32 ⊕ String) (w1 : xWt), M = some (o1, w1) → xMetX l G b y bytes maxL ret (xRX d1 (mco o1) (6 * mco o1)) (.ref a0 :: [v1, v2, v3]) P (ov (fun v => some (.int v)) o1) (CW G b w1) (mco o1) (6 * mco o1))
    (hy : xVm y bytes maxL ret 3) (hl : Cond.methodLink own index y ∈ gw) (hR : d1 + 1 ≤ R.frames ∧ 8 + (maxL + 11) + 36 * d1 ≤ R.locals) (hci : vwCl[ci]? = some K9) (hK1 : K9.1 = y.cls) (hat : ∀ H, P H → va_at G.1 vwCl (a0, .inr (ci, fs)) H) (hcat : (rest.map fun v => v.category).sum ≤ 8) (hf : cells + 1 ≤ R.cells ∧ slots + 6 ≤ R.slots) (d : decode cc pc = .ok (.invokevirtual index, 3))
    (k : xW p l e R s m args below meth c Q b nL (CW G b w') cells slots (pc + 3) lv (.int v :: rest))
    (kx : ∀ E, hcode Es E = some v → ∀ (H1 : Heap) (locs1 : List Loc) (ls : Array Slot) (q : Addr) (ce : Cell), CW G b w' H1 → va_S (xA b) s.heap H1 locs1 → lv_has ls nL lv → H1[q]? = some ce → ce.vm = .none → s.vm.findClass E = some ce.cls → vx_W p l e R s m args below meth c H1 locs1 (cells + 1) (slots + 6) Q (F0 m pc ls rest) q) : xW p l e R s m args below meth c Q b nL P cells slots pc lv (v3 :: v2 :: v1 :: .ref a0 :: rest) := by
  intro H locs ls h1 h2 h3
  have hK : va_K G.1 vwCl (xT G) s := C.2.2.2.2.2.2.1
  have hrun : ∀ (o1 : Int32 ⊕ String) (w1 : xWt), M = some (o1, w1) → vx_Run p l e R s m args below meth c H locs cells slots (mco o1) (6 * mco o1) (F0 m pc ls (v3 :: v2 :: v1 :: .ref a0 :: rest)) rest (xvQ b (ov (fun v => some (.int v)) o1) (CW G b w1) (Value.ref a0 :: [v1, v2, v3]).toArray) (xvX b (ov (fun v => some (.int v)) o1) (CW G b w1)) (xA b) := fun o1 w1 hM =>
    vx_runV (rm := xRX d1 (mco o1) (6 * mco o1)) (As := [v1, v2, v3]) (rest := rest) (C := K9.1) ⟨C.1, C.2.1, C.2.2.1, C.2.2.2.1, C.2.2.2.2.1⟩ (h _ _ hM) ⟨x_callB C hy.1 hy.2.1 hl rfl rfl hy.2.2.2.2 hR, C.2.2.2.2.1 _ hy.2.2.1, C.2.2.2.2.1 _ (by rw [hK1]; exact hy.2.2.2.1)⟩ ⟨xPcX.blind, va_recv (q0 := 0) (ws := [(a0, .inr (ci, fs))]) hK (fun j q hq => by
      match j, hq with
      | 0, hq => cases hq; exact hat H h1
      | j + 1, hq => simp at hq) hci rfl, fun U hU hW => ⟨rfl, by rw [hU]; exact h1, hK.moved hW.alike, by rw [hU]; exact Nat.le_trans C.2.2.2.2.2.2.2 h2.1, hX.next hW (by rw [hU]; exact h2)⟩⟩ rfl rfl h3.1 rfl (lv_room hcat) d (by
        match o1 with
        | .inl _ => exact ⟨Nat.le_trans (Nat.le_succ _) hf.1, Nat.le_trans (Nat.le_add_right _ 6) hf.2⟩
        | .inr _ => exact hf)
  match M, hF, hrun with
  | some (.inl x, w1), hF, hrun =>
    have hF : some (x, w1) = some (v, w') := hF
    cases hF
    exact xv_back (rest := rest) (mc1 := 0) (ms1 := 0) H locs ls h2 h3 (hrun _ _ rfl) (fun v hv => by cases hv; exact k) (fun E hE => by cases hE)
  | some (.inr E, w1), hF, hrun =>
    have hF : (hcode Es E).map (fun n => (n, w1)) = some (v, w') := hF
    cases hh : hcode Es E with
    | none => rw [hh] at hF; cases hF
    | some n =>
      rw [hh] at hF
      cases hF
      exact xv_back (rest := rest) (mc1 := 1) (ms1 := 6) H locs ls h2 h3 (hrun _ _ rfl) (fun v hv => by cases hv) (fun E' hE H1 locs1 q ce g1 g2 g3 g4 g5 => by cases hE; exact kx E hh H1 locs1 ls q ce g1 g2 h3 g3 g4 g5)
end XL
theorem kb_m33 : (Int8.ofInt (-33)).toInt32 = (-33) := by decide
theorem kb_m32 : (Int8.ofInt (-32)).toInt32 = (-32) := by decide
theorem kb_m31 : (Int8.ofInt (-31)).toInt32 = (-31) := by decide
def F_L_child (a1 : Int32) (a2 : Int32) (w : xWt) : Option (Int32 × xWt) := lwrap (F_X7_child a1 a2 w) [(eI', (-31)), (eA', (-32))]
def F_L_undo  (w : xWt) : Option (Int32 × xWt) := lwrap (F_X7_undo  w) [(eS', (-33))]
def F_L_enter (a1 : Int32) (w : xWt) : Option (Int32 × xWt) := lwrap (F_X7_enter a1 w) [(eI', (-31)), (eS', (-33))]
def F_L_rest (a1 : Int32) (w : xWt) : Option (Int32 × xWt) := lwrap (F_X7_rest a1 w) [(eI', (-31)), (eS', (-33))]
def F_L_ring  (w : xWt) : Option (Int32 × xWt) := lwrap (F_X7_ring  w) [(eS', (-33))]
def F_L_come  (w : xWt) : Option (Int32 × xWt) := lwrap (F_X7_come  w) [(eS', (-33))]
def F_L_set (a1 : Int32) (a2 : Int32) (w : xWt) : Option (Int32 × xWt) := lwrap (F_X7_set a1 a2 w) [(eI', (-31)), (eA', (-32))]
def F_L_leave (a1 : Int32) (w : xWt) : Option (Int32 × xWt) := lwrap (F_X7_leave a1 w) [(eI', (-31)), (eS', (-33))]
def F_L_note (a1 : Int32) (a2 : Int32) (a3 : Int32) (w : xWt) : Option (Int32 × xWt) := lwrap (F_X7_note a1 a2 a3 w) [(eI', (-31)), (eS', (-33))]
def F_L_pin (a1 : Int32) (a2 : Int32) (w : xWt) : Option (Int32 × xWt) := lwrap (F_X7_pin a1 a2 w) [(eI', (-31)), (eS', (-33))]
def F_L_loosen (a1 : Int32) (a2 : Int32) (w : xWt) : Option (Int32 × xWt) := lwrap (F_X7_loosen a1 a2 w) [(eI', (-31)), (eS', (-33))]
def F_L_look (a1 : Int32) (a2 : Int32) (w : xWt) : Option (Int32 × xWt) := lwrap (F_X7_look a1 a2 w) [(eI', (-31)), (eS', (-33))]
def F_L_grow (a1 : Int32) (a2 : Int32) (w : xWt) : Option (Int32 × xWt) := lwrap (F_X7_grow a1 a2 w) [(eI', (-31)), (eA', (-32)), (eS', (-33))]
def F_L_take (a1 : Int32) (a2 : Int32) (w : xWt) : Option (Int32 × xWt) := lwrap (F_X7_take a1 a2 w) [(eI', (-31)), (eS', (-33))]
def F_L_swap (a1 : Int32) (a2 : Int32) (a3 : Int32) (w : xWt) : Option (Int32 × xWt) := lwrap (F_X7_swap a1 a2 a3 w) [(eI', (-31)), (eA', (-32)), (eS', (-33))]
def F_L_rake (a1 : Int32) (w : xWt) : Option (Int32 × xWt) := lwrap (F_X7_rake a1 w) [(eI', (-31)), (eS', (-33))]
theorem c_L_child (l : Launch) (G : xG) (b : Nat) (hl : l.stackTraces = false) (a1 : Int32) (a2 : Int32) {w w' : xWt} {v : Int32} (hF : F_L_child a1 a2 w = some (v, w')) : xMetL l G b yL_child cL_child 5 (some .int) [(0, 7, 10, 21), (0, 7, 15, 36)] (xRX 8 1 6) [.ref b, .int a1, .int a2] (CW G b w) (some (.int v)) (CW G b w') 1 6 := by
  refine x_ofL (own := RL) rfl pn_L (Nat.le_of_ble_eq_true rfl) ?_
  intro p e s m args below meth c ha C hr hX htab
  unfold F_L_child at hF
  refine x_aload_n (pc := 0) C 0 dL_child_0 rfl rfl ?_
  refine x_iload_n (pc := 1) C 1 dL_child_1 rfl rfl ?_
  refine x_iload_n (pc := 2) C 2 dL_child_2 rfl rfl ?_
  refine xl_call_2 (pc := 3) C hX hF (fun _ _ h => c_X7_child l G b hl _ _ h) vm_X7_child wq326 ⟨Nat.le_of_ble_eq_true rfl, Nat.le_of_ble_eq_true rfl⟩ rfl rfl (fun _ h => CW.pl h) (Nat.le_of_ble_eq_true rfl) ⟨Nat.le_of_ble_eq_true rfl, Nat.le_of_ble_eq_true rfl⟩ dL_child_3 ?_ (fun E hE H1 locs1 ls q ce g1 g2 g3 g4 g5 g6 => ?_)
  · refine x_istore_n (pc := 6) C [(3, .int v), (0, .ref b), (1, .int a1), (2, .int a2)] dL_child_6 rfl (by decide) rfl ?_
    refine x_goto (pc := 7) C 20 dL_child_7 rfl ?_
    refine x_iload_n (pc := 20) C 0 dL_child_20 rfl rfl ?_
    refine xl_ret (Nat.le_of_ble_eq_true rfl) (Nat.le_of_ble_eq_true rfl) ?_
    exact x_iret (pc := 21) C hr rfl (fun _ h => h) dL_child_21
  · unfold hcode at hE
    split at hE
    · next hq =>
      subst hq
      obtain rfl : _ = v := Option.some.inj hE
      refine xl_catch C hX htab [] ⟨0, 7, 10, 21⟩ [⟨0, 7, 15, 36⟩] rfl (fun z hz => by cases hz) rfl (by decide) wq324 (by decide) g1 g2 g3 g4 g5 g6 ?_
      refine x_astore (pc := 10) C [(4, .ref q), (0, .ref b), (1, .int a1), (2, .int a2)] dL_child_10 (by decide) rfl ?_
      refine x_bipush (pc := 12) C (-31) dL_child_12 kb_m31 ?_
      refine xl_ret (Nat.le_of_ble_eq_true rfl) (Nat.le_of_ble_eq_true rfl) ?_
      exact x_iret (pc := 14) C hr rfl (fun _ h => h) dL_child_14
    · unfold hcode at hE
      split at hE
      · next hq =>
        subst hq
        obtain rfl : _ = v := Option.some.inj hE
        refine xl_catch C hX htab [⟨0, 7, 10, 21⟩] ⟨0, 7, 15, 36⟩ [] rfl (fun z hz => by
          simp only [List.mem_cons, List.not_mem_nil, or_false] at hz
          subst hz
          exact Or.inr ⟨by decide, _, wq324, by decide⟩) rfl (by decide) wq325 (by decide) g1 g2 g3 g4 g5 g6 ?_
        refine x_astore (pc := 15) C [(4, .ref q), (0, .ref b), (1, .int a1), (2, .int a2)] dL_child_15 (by decide) rfl ?_
        refine x_bipush (pc := 17) C (-32) dL_child_17 kb_m32 ?_
        refine xl_ret (Nat.le_of_ble_eq_true rfl) (Nat.le_of_ble_eq_true rfl) ?_
        exact x_iret (pc := 19) C hr rfl (fun _ h => h) dL_child_19
      · unfold hcode at hE
        exact none_ne hE
theorem c_L_undo (l : Launch) (G : xG) (b : Nat) (hl : l.stackTraces = false)  {w w' : xWt} {v : Int32} (hF : F_L_undo  w = some (v, w')) : xMetL l G b yL_undo cL_undo 3 (some .int) [(0, 5, 8, 15)] (xRX 7 1 6) [.ref b] (CW G b w) (some (.int v)) (CW G b w') 1 6 := by
  refine x_ofL (own := RL) rfl pn_L (Nat.le_of_ble_eq_true rfl) ?_
  intro p e s m args below meth c ha C hr hX htab
  unfold F_L_undo at hF
  refine x_aload_n (pc := 0) C 0 dL_undo_0 rfl rfl ?_
  refine xl_call_0 (pc := 1) C hX hF (fun _ _ h => c_X7_undo l G b hl h) vm_X7_undo wq436 ⟨Nat.le_of_ble_eq_true rfl, Nat.le_of_ble_eq_true rfl⟩ rfl rfl (fun _ h => CW.pl h) (Nat.le_of_ble_eq_true rfl) ⟨Nat.le_of_ble_eq_true rfl, Nat.le_of_ble_eq_true rfl⟩ dL_undo_1 ?_ (fun E hE H1 locs1 ls q ce g1 g2 g3 g4 g5 g6 => ?_)
  · refine x_istore_n (pc := 4) C [(1, .int v), (0, .ref b)] dL_undo_4 rfl (by decide) rfl ?_
    refine x_goto (pc := 5) C 12 dL_undo_5 rfl ?_
    refine x_iload_n (pc := 12) C 0 dL_undo_12 rfl rfl ?_
    refine xl_ret (Nat.le_of_ble_eq_true rfl) (Nat.le_of_ble_eq_true rfl) ?_
    exact x_iret (pc := 13) C hr rfl (fun _ h => h) dL_undo_13
  · unfold hcode at hE
    split at hE
    · next hq =>
      subst hq
      obtain rfl : _ = v := Option.some.inj hE
      refine xl_catch C hX htab [] ⟨0, 5, 8, 15⟩ [] rfl (fun z hz => by cases hz) rfl (by decide) wq435 (by decide) g1 g2 g3 g4 g5 g6 ?_
      refine x_astore_n (pc := 8) C [(2, .ref q), (0, .ref b)] dL_undo_8 rfl (by decide) rfl ?_
      refine x_bipush (pc := 9) C (-33) dL_undo_9 kb_m33 ?_
      refine xl_ret (Nat.le_of_ble_eq_true rfl) (Nat.le_of_ble_eq_true rfl) ?_
      exact x_iret (pc := 11) C hr rfl (fun _ h => h) dL_undo_11
    · unfold hcode at hE
      exact none_ne hE
theorem c_L_enter (l : Launch) (G : xG) (b : Nat) (hl : l.stackTraces = false) (a1 : Int32) {w w' : xWt} {v : Int32} (hF : F_L_enter a1 w = some (v, w')) : xMetL l G b yL_enter cL_enter 4 (some .int) [(0, 6, 9, 21), (0, 6, 13, 15)] (xRX 8 1 6) [.ref b, .int a1] (CW G b w) (some (.int v)) (CW G b w') 1 6 := by
  refine x_ofL (own := RL) rfl pn_L (Nat.le_of_ble_eq_true rfl) ?_
  intro p e s m args below meth c ha C hr hX htab
  unfold F_L_enter at hF
  refine x_aload_n (pc := 0) C 0 dL_enter_0 rfl rfl ?_
  refine x_iload_n (pc := 1) C 1 dL_enter_1 rfl rfl ?_
  refine xl_call_1 (pc := 2) C hX hF (fun _ _ h => c_X7_enter l G b hl _ h) vm_X7_enter wq495 ⟨Nat.le_of_ble_eq_true rfl, Nat.le_of_ble_eq_true rfl⟩ rfl rfl (fun _ h => CW.pl h) (Nat.le_of_ble_eq_true rfl) ⟨Nat.le_of_ble_eq_true rfl, Nat.le_of_ble_eq_true rfl⟩ dL_enter_2 ?_ (fun E hE H1 locs1 ls q ce g1 g2 g3 g4 g5 g6 => ?_)
  · refine x_istore_n (pc := 5) C [(2, .int v), (0, .ref b), (1, .int a1)] dL_enter_5 rfl (by decide) rfl ?_
    refine x_goto (pc := 6) C 17 dL_enter_6 rfl ?_
    refine x_iload_n (pc := 17) C 0 dL_enter_17 rfl rfl ?_
    refine xl_ret (Nat.le_of_ble_eq_true rfl) (Nat.le_of_ble_eq_true rfl) ?_
    exact x_iret (pc := 18) C hr rfl (fun _ h => h) dL_enter_18
  · unfold hcode at hE
    split at hE
    · next hq =>
      subst hq
      obtain rfl : _ = v := Option.some.inj hE
      refine xl_catch C hX htab [] ⟨0, 6, 9, 21⟩ [⟨0, 6, 13, 15⟩] rfl (fun z hz => by cases hz) rfl (by decide) wq324 (by decide) g1 g2 g3 g4 g5 g6 ?_
      refine x_astore_n (pc := 9) C [(3, .ref q), (0, .ref b), (1, .int a1)] dL_enter_9 rfl (by decide) rfl ?_
      refine x_bipush (pc := 10) C (-31) dL_enter_10 kb_m31 ?_
      refine xl_ret (Nat.le_of_ble_eq_true rfl) (Nat.le_of_ble_eq_true rfl) ?_
      exact x_iret (pc := 12) C hr rfl (fun _ h => h) dL_enter_12
    · unfold hcode at hE
      split at hE
      · next hq =>
        subst hq
        obtain rfl : _ = v := Option.some.inj hE
        refine xl_catch C hX htab [⟨0, 6, 9, 21⟩] ⟨0, 6, 13, 15⟩ [] rfl (fun z hz => by
          simp only [List.mem_cons, List.not_mem_nil, or_false] at hz
          subst hz
          exact Or.inr ⟨by decide, _, wq324, by decide⟩) rfl (by decide) wq435 (by decide) g1 g2 g3 g4 g5 g6 ?_
        refine x_astore_n (pc := 13) C [(3, .ref q), (0, .ref b), (1, .int a1)] dL_enter_13 rfl (by decide) rfl ?_
        refine x_bipush (pc := 14) C (-33) dL_enter_14 kb_m33 ?_
        refine xl_ret (Nat.le_of_ble_eq_true rfl) (Nat.le_of_ble_eq_true rfl) ?_
        exact x_iret (pc := 16) C hr rfl (fun _ h => h) dL_enter_16
      · unfold hcode at hE
        exact none_ne hE
theorem c_L_rest (l : Launch) (G : xG) (b : Nat) (hl : l.stackTraces = false) (a1 : Int32) {w w' : xWt} {v : Int32} (hF : F_L_rest a1 w = some (v, w')) : xMetL l G b yL_rest cL_rest 4 (some .int) [(0, 6, 9, 21), (0, 6, 13, 15)] (xRX 8 1 6) [.ref b, .int a1] (CW G b w) (some (.int v)) (CW G b w') 1 6 := by
  refine x_ofL (own := RL) rfl pn_L (Nat.le_of_ble_eq_true rfl) ?_
  intro p e s m args below meth c ha C hr hX htab
  unfold F_L_rest at hF
  refine x_aload_n (pc := 0) C 0 dL_rest_0 rfl rfl ?_
  refine x_iload_n (pc := 1) C 1 dL_rest_1 rfl rfl ?_
  refine xl_call_1 (pc := 2) C hX hF (fun _ _ h => c_X7_rest l G b hl _ h) vm_X7_rest wq517 ⟨Nat.le_of_ble_eq_true rfl, Nat.le_of_ble_eq_true rfl⟩ rfl rfl (fun _ h => CW.pl h) (Nat.le_of_ble_eq_true rfl) ⟨Nat.le_of_ble_eq_true rfl, Nat.le_of_ble_eq_true rfl⟩ dL_rest_2 ?_ (fun E hE H1 locs1 ls q ce g1 g2 g3 g4 g5 g6 => ?_)
  · refine x_istore_n (pc := 5) C [(2, .int v), (0, .ref b), (1, .int a1)] dL_rest_5 rfl (by decide) rfl ?_
    refine x_goto (pc := 6) C 17 dL_rest_6 rfl ?_
    refine x_iload_n (pc := 17) C 0 dL_rest_17 rfl rfl ?_
    refine xl_ret (Nat.le_of_ble_eq_true rfl) (Nat.le_of_ble_eq_true rfl) ?_
    exact x_iret (pc := 18) C hr rfl (fun _ h => h) dL_rest_18
  · unfold hcode at hE
    split at hE
    · next hq =>
      subst hq
      obtain rfl : _ = v := Option.some.inj hE
      refine xl_catch C hX htab [] ⟨0, 6, 9, 21⟩ [⟨0, 6, 13, 15⟩] rfl (fun z hz => by cases hz) rfl (by decide) wq324 (by decide) g1 g2 g3 g4 g5 g6 ?_
      refine x_astore_n (pc := 9) C [(3, .ref q), (0, .ref b), (1, .int a1)] dL_rest_9 rfl (by decide) rfl ?_
      refine x_bipush (pc := 10) C (-31) dL_rest_10 kb_m31 ?_
      refine xl_ret (Nat.le_of_ble_eq_true rfl) (Nat.le_of_ble_eq_true rfl) ?_
      exact x_iret (pc := 12) C hr rfl (fun _ h => h) dL_rest_12
    · unfold hcode at hE
      split at hE
      · next hq =>
        subst hq
        obtain rfl : _ = v := Option.some.inj hE
        refine xl_catch C hX htab [⟨0, 6, 9, 21⟩] ⟨0, 6, 13, 15⟩ [] rfl (fun z hz => by
          simp only [List.mem_cons, List.not_mem_nil, or_false] at hz
          subst hz
          exact Or.inr ⟨by decide, _, wq324, by decide⟩) rfl (by decide) wq435 (by decide) g1 g2 g3 g4 g5 g6 ?_
        refine x_astore_n (pc := 13) C [(3, .ref q), (0, .ref b), (1, .int a1)] dL_rest_13 rfl (by decide) rfl ?_
        refine x_bipush (pc := 14) C (-33) dL_rest_14 kb_m33 ?_
        refine xl_ret (Nat.le_of_ble_eq_true rfl) (Nat.le_of_ble_eq_true rfl) ?_
        exact x_iret (pc := 16) C hr rfl (fun _ h => h) dL_rest_16
      · unfold hcode at hE
        exact none_ne hE
theorem c_L_ring (l : Launch) (G : xG) (b : Nat) (hl : l.stackTraces = false)  {w w' : xWt} {v : Int32} (hF : F_L_ring  w = some (v, w')) : xMetL l G b yL_ring cL_ring 3 (some .int) [(0, 5, 8, 15)] (xRX 7 1 6) [.ref b] (CW G b w) (some (.int v)) (CW G b w') 1 6 := by
  refine x_ofL (own := RL) rfl pn_L (Nat.le_of_ble_eq_true rfl) ?_
  intro p e s m args below meth c ha C hr hX htab
  unfold F_L_ring at hF
  refine x_aload_n (pc := 0) C 0 dL_ring_0 rfl rfl ?_
  refine xl_call_0 (pc := 1) C hX hF (fun _ _ h => c_X7_ring l G b hl h) vm_X7_ring wq541 ⟨Nat.le_of_ble_eq_true rfl, Nat.le_of_ble_eq_true rfl⟩ rfl rfl (fun _ h => CW.pl h) (Nat.le_of_ble_eq_true rfl) ⟨Nat.le_of_ble_eq_true rfl, Nat.le_of_ble_eq_true rfl⟩ dL_ring_1 ?_ (fun E hE H1 locs1 ls q ce g1 g2 g3 g4 g5 g6 => ?_)
  · refine x_istore_n (pc := 4) C [(1, .int v), (0, .ref b)] dL_ring_4 rfl (by decide) rfl ?_
    refine x_goto (pc := 5) C 12 dL_ring_5 rfl ?_
    refine x_iload_n (pc := 12) C 0 dL_ring_12 rfl rfl ?_
    refine xl_ret (Nat.le_of_ble_eq_true rfl) (Nat.le_of_ble_eq_true rfl) ?_
    exact x_iret (pc := 13) C hr rfl (fun _ h => h) dL_ring_13
  · unfold hcode at hE
    split at hE
    · next hq =>
      subst hq
      obtain rfl : _ = v := Option.some.inj hE
      refine xl_catch C hX htab [] ⟨0, 5, 8, 15⟩ [] rfl (fun z hz => by cases hz) rfl (by decide) wq435 (by decide) g1 g2 g3 g4 g5 g6 ?_
      refine x_astore_n (pc := 8) C [(2, .ref q), (0, .ref b)] dL_ring_8 rfl (by decide) rfl ?_
      refine x_bipush (pc := 9) C (-33) dL_ring_9 kb_m33 ?_
      refine xl_ret (Nat.le_of_ble_eq_true rfl) (Nat.le_of_ble_eq_true rfl) ?_
      exact x_iret (pc := 11) C hr rfl (fun _ h => h) dL_ring_11
    · unfold hcode at hE
      exact none_ne hE
theorem c_L_come (l : Launch) (G : xG) (b : Nat) (hl : l.stackTraces = false)  {w w' : xWt} {v : Int32} (hF : F_L_come  w = some (v, w')) : xMetL l G b yL_come cL_come 3 (some .int) [(0, 5, 8, 15)] (xRX 7 1 6) [.ref b] (CW G b w) (some (.int v)) (CW G b w') 1 6 := by
  refine x_ofL (own := RL) rfl pn_L (Nat.le_of_ble_eq_true rfl) ?_
  intro p e s m args below meth c ha C hr hX htab
  unfold F_L_come at hF
  refine x_aload_n (pc := 0) C 0 dL_come_0 rfl rfl ?_
  refine xl_call_0 (pc := 1) C hX hF (fun _ _ h => c_X7_come l G b hl h) vm_X7_come wq557 ⟨Nat.le_of_ble_eq_true rfl, Nat.le_of_ble_eq_true rfl⟩ rfl rfl (fun _ h => CW.pl h) (Nat.le_of_ble_eq_true rfl) ⟨Nat.le_of_ble_eq_true rfl, Nat.le_of_ble_eq_true rfl⟩ dL_come_1 ?_ (fun E hE H1 locs1 ls q ce g1 g2 g3 g4 g5 g6 => ?_)
  · refine x_istore_n (pc := 4) C [(1, .int v), (0, .ref b)] dL_come_4 rfl (by decide) rfl ?_
    refine x_goto (pc := 5) C 12 dL_come_5 rfl ?_
    refine x_iload_n (pc := 12) C 0 dL_come_12 rfl rfl ?_
    refine xl_ret (Nat.le_of_ble_eq_true rfl) (Nat.le_of_ble_eq_true rfl) ?_
    exact x_iret (pc := 13) C hr rfl (fun _ h => h) dL_come_13
  · unfold hcode at hE
    split at hE
    · next hq =>
      subst hq
      obtain rfl : _ = v := Option.some.inj hE
      refine xl_catch C hX htab [] ⟨0, 5, 8, 15⟩ [] rfl (fun z hz => by cases hz) rfl (by decide) wq435 (by decide) g1 g2 g3 g4 g5 g6 ?_
      refine x_astore_n (pc := 8) C [(2, .ref q), (0, .ref b)] dL_come_8 rfl (by decide) rfl ?_
      refine x_bipush (pc := 9) C (-33) dL_come_9 kb_m33 ?_
      refine xl_ret (Nat.le_of_ble_eq_true rfl) (Nat.le_of_ble_eq_true rfl) ?_
      exact x_iret (pc := 11) C hr rfl (fun _ h => h) dL_come_11
    · unfold hcode at hE
      exact none_ne hE
theorem c_L_set (l : Launch) (G : xG) (b : Nat) (hl : l.stackTraces = false) (a1 : Int32) (a2 : Int32) {w w' : xWt} {v : Int32} (hF : F_L_set a1 a2 w = some (v, w')) : xMetL l G b yL_set cL_set 5 (some .int) [(0, 7, 10, 21), (0, 7, 15, 36)] (xRX 8 1 6) [.ref b, .int a1, .int a2] (CW G b w) (some (.int v)) (CW G b w') 1 6 := by
  refine x_ofL (own := RL) rfl pn_L (Nat.le_of_ble_eq_true rfl) ?_
  intro p e s m args below meth c ha C hr hX htab
  unfold F_L_set at hF
  refine x_aload_n (pc := 0) C 0 dL_set_0 rfl rfl ?_
  refine x_iload_n (pc := 1) C 1 dL_set_1 rfl rfl ?_
  refine x_iload_n (pc := 2) C 2 dL_set_2 rfl rfl ?_
  refine xl_call_2 (pc := 3) C hX hF (fun _ _ h => c_X7_set l G b hl _ _ h) vm_X7_set wq577 ⟨Nat.le_of_ble_eq_true rfl, Nat.le_of_ble_eq_true rfl⟩ rfl rfl (fun _ h => CW.pl h) (Nat.le_of_ble_eq_true rfl) ⟨Nat.le_of_ble_eq_true rfl, Nat.le_of_ble_eq_true rfl⟩ dL_set_3 ?_ (fun E hE H1 locs1 ls q ce g1 g2 g3 g4 g5 g6 => ?_)
  · refine x_istore_n (pc := 6) C [(3, .int v), (0, .ref b), (1, .int a1), (2, .int a2)] dL_set_6 rfl (by decide) rfl ?_
    refine x_goto (pc := 7) C 20 dL_set_7 rfl ?_
    refine x_iload_n (pc := 20) C 0 dL_set_20 rfl rfl ?_
    refine xl_ret (Nat.le_of_ble_eq_true rfl) (Nat.le_of_ble_eq_true rfl) ?_
    exact x_iret (pc := 21) C hr rfl (fun _ h => h) dL_set_21
  · unfold hcode at hE
    split at hE
    · next hq =>
      subst hq
      obtain rfl : _ = v := Option.some.inj hE
      refine xl_catch C hX htab [] ⟨0, 7, 10, 21⟩ [⟨0, 7, 15, 36⟩] rfl (fun z hz => by cases hz) rfl (by decide) wq324 (by decide) g1 g2 g3 g4 g5 g6 ?_
      refine x_astore (pc := 10) C [(4, .ref q), (0, .ref b), (1, .int a1), (2, .int a2)] dL_set_10 (by decide) rfl ?_
      refine x_bipush (pc := 12) C (-31) dL_set_12 kb_m31 ?_
      refine xl_ret (Nat.le_of_ble_eq_true rfl) (Nat.le_of_ble_eq_true rfl) ?_
      exact x_iret (pc := 14) C hr rfl (fun _ h => h) dL_set_14
    · unfold hcode at hE
      split at hE
      · next hq =>
        subst hq
        obtain rfl : _ = v := Option.some.inj hE
        refine xl_catch C hX htab [⟨0, 7, 10, 21⟩] ⟨0, 7, 15, 36⟩ [] rfl (fun z hz => by
          simp only [List.mem_cons, List.not_mem_nil, or_false] at hz
          subst hz
          exact Or.inr ⟨by decide, _, wq324, by decide⟩) rfl (by decide) wq325 (by decide) g1 g2 g3 g4 g5 g6 ?_
        refine x_astore (pc := 15) C [(4, .ref q), (0, .ref b), (1, .int a1), (2, .int a2)] dL_set_15 (by decide) rfl ?_
        refine x_bipush (pc := 17) C (-32) dL_set_17 kb_m32 ?_
        refine xl_ret (Nat.le_of_ble_eq_true rfl) (Nat.le_of_ble_eq_true rfl) ?_
        exact x_iret (pc := 19) C hr rfl (fun _ h => h) dL_set_19
      · unfold hcode at hE
        exact none_ne hE
theorem c_L_leave (l : Launch) (G : xG) (b : Nat) (hl : l.stackTraces = false) (a1 : Int32) {w w' : xWt} {v : Int32} (hF : F_L_leave a1 w = some (v, w')) : xMetL l G b yL_leave cL_leave 4 (some .int) [(0, 6, 9, 21), (0, 6, 13, 15)] (xRX 8 1 6) [.ref b, .int a1] (CW G b w) (some (.int v)) (CW G b w') 1 6 := by
  refine x_ofL (own := RL) rfl pn_L (Nat.le_of_ble_eq_true rfl) ?_
  intro p e s m args below meth c ha C hr hX htab
  unfold F_L_leave at hF
  refine x_aload_n (pc := 0) C 0 dL_leave_0 rfl rfl ?_
  refine x_iload_n (pc := 1) C 1 dL_leave_1 rfl rfl ?_
  refine xl_call_1 (pc := 2) C hX hF (fun _ _ h => c_X7_leave l G b hl _ h) vm_X7_leave wq592 ⟨Nat.le_of_ble_eq_true rfl, Nat.le_of_ble_eq_true rfl⟩ rfl rfl (fun _ h => CW.pl h) (Nat.le_of_ble_eq_true rfl) ⟨Nat.le_of_ble_eq_true rfl, Nat.le_of_ble_eq_true rfl⟩ dL_leave_2 ?_ (fun E hE H1 locs1 ls q ce g1 g2 g3 g4 g5 g6 => ?_)
  · refine x_istore_n (pc := 5) C [(2, .int v), (0, .ref b), (1, .int a1)] dL_leave_5 rfl (by decide) rfl ?_
    refine x_goto (pc := 6) C 17 dL_leave_6 rfl ?_
    refine x_iload_n (pc := 17) C 0 dL_leave_17 rfl rfl ?_
    refine xl_ret (Nat.le_of_ble_eq_true rfl) (Nat.le_of_ble_eq_true rfl) ?_
    exact x_iret (pc := 18) C hr rfl (fun _ h => h) dL_leave_18
  · unfold hcode at hE
    split at hE
    · next hq =>
      subst hq
      obtain rfl : _ = v := Option.some.inj hE
      refine xl_catch C hX htab [] ⟨0, 6, 9, 21⟩ [⟨0, 6, 13, 15⟩] rfl (fun z hz => by cases hz) rfl (by decide) wq324 (by decide) g1 g2 g3 g4 g5 g6 ?_
      refine x_astore_n (pc := 9) C [(3, .ref q), (0, .ref b), (1, .int a1)] dL_leave_9 rfl (by decide) rfl ?_
      refine x_bipush (pc := 10) C (-31) dL_leave_10 kb_m31 ?_
      refine xl_ret (Nat.le_of_ble_eq_true rfl) (Nat.le_of_ble_eq_true rfl) ?_
      exact x_iret (pc := 12) C hr rfl (fun _ h => h) dL_leave_12
    · unfold hcode at hE
      split at hE
      · next hq =>
        subst hq
        obtain rfl : _ = v := Option.some.inj hE
        refine xl_catch C hX htab [⟨0, 6, 9, 21⟩] ⟨0, 6, 13, 15⟩ [] rfl (fun z hz => by
          simp only [List.mem_cons, List.not_mem_nil, or_false] at hz
          subst hz
          exact Or.inr ⟨by decide, _, wq324, by decide⟩) rfl (by decide) wq435 (by decide) g1 g2 g3 g4 g5 g6 ?_
        refine x_astore_n (pc := 13) C [(3, .ref q), (0, .ref b), (1, .int a1)] dL_leave_13 rfl (by decide) rfl ?_
        refine x_bipush (pc := 14) C (-33) dL_leave_14 kb_m33 ?_
        refine xl_ret (Nat.le_of_ble_eq_true rfl) (Nat.le_of_ble_eq_true rfl) ?_
        exact x_iret (pc := 16) C hr rfl (fun _ h => h) dL_leave_16
      · unfold hcode at hE
        exact none_ne hE
theorem c_L_note (l : Launch) (G : xG) (b : Nat) (hl : l.stackTraces = false) (a1 : Int32) (a2 : Int32) (a3 : Int32) {w w' : xWt} {v : Int32} (hF : F_L_note a1 a2 a3 w = some (v, w')) : xMetL l G b yL_note cL_note 6 (some .int) [(0, 9, 12, 21), (0, 9, 17, 15)] (xRX 9 1 6) [.ref b, .int a1, .int a2, .int a3] (CW G b w) (some (.int v)) (CW G b w') 1 6 := by
  refine x_ofL (own := RL) rfl pn_L (Nat.le_of_ble_eq_true rfl) ?_
  intro p e s m args below meth c ha C hr hX htab
  unfold F_L_note at hF
  refine x_aload_n (pc := 0) C 0 dL_note_0 rfl rfl ?_
  refine x_iload_n (pc := 1) C 1 dL_note_1 rfl rfl ?_
  refine x_iload_n (pc := 2) C 2 dL_note_2 rfl rfl ?_
  refine x_iload_n (pc := 3) C 3 dL_note_3 rfl rfl ?_
  refine xl_call_3 (pc := 4) C hX hF (fun _ _ h => c_X7_note l G b hl _ _ _ h) vm_X7_note wq627 ⟨Nat.le_of_ble_eq_true rfl, Nat.le_of_ble_eq_true rfl⟩ rfl rfl (fun _ h => CW.pl h) (Nat.le_of_ble_eq_true rfl) ⟨Nat.le_of_ble_eq_true rfl, Nat.le_of_ble_eq_true rfl⟩ dL_note_4 ?_ (fun E hE H1 locs1 ls q ce g1 g2 g3 g4 g5 g6 => ?_)
  · refine x_istore (pc := 7) C [(4, .int v), (0, .ref b), (1, .int a1), (2, .int a2), (3, .int a3)] dL_note_7 (by decide) rfl ?_
    refine x_goto (pc := 9) C 22 dL_note_9 rfl ?_
    refine x_iload (pc := 22) C 0 dL_note_22 rfl ?_
    refine xl_ret (Nat.le_of_ble_eq_true rfl) (Nat.le_of_ble_eq_true rfl) ?_
    exact x_iret (pc := 24) C hr rfl (fun _ h => h) dL_note_24
  · unfold hcode at hE
    split at hE
    · next hq =>
      subst hq
      obtain rfl : _ = v := Option.some.inj hE
      refine xl_catch C hX htab [] ⟨0, 9, 12, 21⟩ [⟨0, 9, 17, 15⟩] rfl (fun z hz => by cases hz) rfl (by decide) wq324 (by decide) g1 g2 g3 g4 g5 g6 ?_
      refine x_astore (pc := 12) C [(5, .ref q), (0, .ref b), (1, .int a1), (2, .int a2), (3, .int a3)] dL_note_12 (by decide) rfl ?_
      refine x_bipush (pc := 14) C (-31) dL_note_14 kb_m31 ?_
      refine xl_ret (Nat.le_of_ble_eq_true rfl) (Nat.le_of_ble_eq_true rfl) ?_
      exact x_iret (pc := 16) C hr rfl (fun _ h => h) dL_note_16
    · unfold hcode at hE
      split at hE
      · next hq =>
        subst hq
        obtain rfl : _ = v := Option.some.inj hE
        refine xl_catch C hX htab [⟨0, 9, 12, 21⟩] ⟨0, 9, 17, 15⟩ [] rfl (fun z hz => by
          simp only [List.mem_cons, List.not_mem_nil, or_false] at hz
          subst hz
          exact Or.inr ⟨by decide, _, wq324, by decide⟩) rfl (by decide) wq435 (by decide) g1 g2 g3 g4 g5 g6 ?_
        refine x_astore (pc := 17) C [(5, .ref q), (0, .ref b), (1, .int a1), (2, .int a2), (3, .int a3)] dL_note_17 (by decide) rfl ?_
        refine x_bipush (pc := 19) C (-33) dL_note_19 kb_m33 ?_
        refine xl_ret (Nat.le_of_ble_eq_true rfl) (Nat.le_of_ble_eq_true rfl) ?_
        exact x_iret (pc := 21) C hr rfl (fun _ h => h) dL_note_21
      · unfold hcode at hE
        exact none_ne hE
theorem c_L_pin (l : Launch) (G : xG) (b : Nat) (hl : l.stackTraces = false) (a1 : Int32) (a2 : Int32) {w w' : xWt} {v : Int32} (hF : F_L_pin a1 a2 w = some (v, w')) : xMetL l G b yL_pin cL_pin 5 (some .int) [(0, 7, 10, 21), (0, 7, 15, 15)] (xRX 9 1 6) [.ref b, .int a1, .int a2] (CW G b w) (some (.int v)) (CW G b w') 1 6 := by
  refine x_ofL (own := RL) rfl pn_L (Nat.le_of_ble_eq_true rfl) ?_
  intro p e s m args below meth c ha C hr hX htab
  unfold F_L_pin at hF
  refine x_aload_n (pc := 0) C 0 dL_pin_0 rfl rfl ?_
  refine x_iload_n (pc := 1) C 1 dL_pin_1 rfl rfl ?_
  refine x_iload_n (pc := 2) C 2 dL_pin_2 rfl rfl ?_
  refine xl_call_2 (pc := 3) C hX hF (fun _ _ h => c_X7_pin l G b hl _ _ h) vm_X7_pin wq647 ⟨Nat.le_of_ble_eq_true rfl, Nat.le_of_ble_eq_true rfl⟩ rfl rfl (fun _ h => CW.pl h) (Nat.le_of_ble_eq_true rfl) ⟨Nat.le_of_ble_eq_true rfl, Nat.le_of_ble_eq_true rfl⟩ dL_pin_3 ?_ (fun E hE H1 locs1 ls q ce g1 g2 g3 g4 g5 g6 => ?_)
  · refine x_istore_n (pc := 6) C [(3, .int v), (0, .ref b), (1, .int a1), (2, .int a2)] dL_pin_6 rfl (by decide) rfl ?_
    refine x_goto (pc := 7) C 20 dL_pin_7 rfl ?_
    refine x_iload_n (pc := 20) C 0 dL_pin_20 rfl rfl ?_
    refine xl_ret (Nat.le_of_ble_eq_true rfl) (Nat.le_of_ble_eq_true rfl) ?_
    exact x_iret (pc := 21) C hr rfl (fun _ h => h) dL_pin_21
  · unfold hcode at hE
    split at hE
    · next hq =>
      subst hq
      obtain rfl : _ = v := Option.some.inj hE
      refine xl_catch C hX htab [] ⟨0, 7, 10, 21⟩ [⟨0, 7, 15, 15⟩] rfl (fun z hz => by cases hz) rfl (by decide) wq324 (by decide) g1 g2 g3 g4 g5 g6 ?_
      refine x_astore (pc := 10) C [(4, .ref q), (0, .ref b), (1, .int a1), (2, .int a2)] dL_pin_10 (by decide) rfl ?_
      refine x_bipush (pc := 12) C (-31) dL_pin_12 kb_m31 ?_
      refine xl_ret (Nat.le_of_ble_eq_true rfl) (Nat.le_of_ble_eq_true rfl) ?_
      exact x_iret (pc := 14) C hr rfl (fun _ h => h) dL_pin_14
    · unfold hcode at hE
      split at hE
      · next hq =>
        subst hq
        obtain rfl : _ = v := Option.some.inj hE
        refine xl_catch C hX htab [⟨0, 7, 10, 21⟩] ⟨0, 7, 15, 15⟩ [] rfl (fun z hz => by
          simp only [List.mem_cons, List.not_mem_nil, or_false] at hz
          subst hz
          exact Or.inr ⟨by decide, _, wq324, by decide⟩) rfl (by decide) wq435 (by decide) g1 g2 g3 g4 g5 g6 ?_
        refine x_astore (pc := 15) C [(4, .ref q), (0, .ref b), (1, .int a1), (2, .int a2)] dL_pin_15 (by decide) rfl ?_
        refine x_bipush (pc := 17) C (-33) dL_pin_17 kb_m33 ?_
        refine xl_ret (Nat.le_of_ble_eq_true rfl) (Nat.le_of_ble_eq_true rfl) ?_
        exact x_iret (pc := 19) C hr rfl (fun _ h => h) dL_pin_19
      · unfold hcode at hE
        exact none_ne hE
theorem c_L_loosen (l : Launch) (G : xG) (b : Nat) (hl : l.stackTraces = false) (a1 : Int32) (a2 : Int32) {w w' : xWt} {v : Int32} (hF : F_L_loosen a1 a2 w = some (v, w')) : xMetL l G b yL_loosen cL_loosen 5 (some .int) [(0, 7, 10, 21), (0, 7, 15, 15)] (xRX 9 1 6) [.ref b, .int a1, .int a2] (CW G b w) (some (.int v)) (CW G b w') 1 6 := by
  refine x_ofL (own := RL) rfl pn_L (Nat.le_of_ble_eq_true rfl) ?_
  intro p e s m args below meth c ha C hr hX htab
  unfold F_L_loosen at hF
  refine x_aload_n (pc := 0) C 0 dL_loosen_0 rfl rfl ?_
  refine x_iload_n (pc := 1) C 1 dL_loosen_1 rfl rfl ?_
  refine x_iload_n (pc := 2) C 2 dL_loosen_2 rfl rfl ?_
  refine xl_call_2 (pc := 3) C hX hF (fun _ _ h => c_X7_loosen l G b hl _ _ h) vm_X7_loosen wq668 ⟨Nat.le_of_ble_eq_true rfl, Nat.le_of_ble_eq_true rfl⟩ rfl rfl (fun _ h => CW.pl h) (Nat.le_of_ble_eq_true rfl) ⟨Nat.le_of_ble_eq_true rfl, Nat.le_of_ble_eq_true rfl⟩ dL_loosen_3 ?_ (fun E hE H1 locs1 ls q ce g1 g2 g3 g4 g5 g6 => ?_)
  · refine x_istore_n (pc := 6) C [(3, .int v), (0, .ref b), (1, .int a1), (2, .int a2)] dL_loosen_6 rfl (by decide) rfl ?_
    refine x_goto (pc := 7) C 20 dL_loosen_7 rfl ?_
    refine x_iload_n (pc := 20) C 0 dL_loosen_20 rfl rfl ?_
    refine xl_ret (Nat.le_of_ble_eq_true rfl) (Nat.le_of_ble_eq_true rfl) ?_
    exact x_iret (pc := 21) C hr rfl (fun _ h => h) dL_loosen_21
  · unfold hcode at hE
    split at hE
    · next hq =>
      subst hq
      obtain rfl : _ = v := Option.some.inj hE
      refine xl_catch C hX htab [] ⟨0, 7, 10, 21⟩ [⟨0, 7, 15, 15⟩] rfl (fun z hz => by cases hz) rfl (by decide) wq324 (by decide) g1 g2 g3 g4 g5 g6 ?_
      refine x_astore (pc := 10) C [(4, .ref q), (0, .ref b), (1, .int a1), (2, .int a2)] dL_loosen_10 (by decide) rfl ?_
      refine x_bipush (pc := 12) C (-31) dL_loosen_12 kb_m31 ?_
      refine xl_ret (Nat.le_of_ble_eq_true rfl) (Nat.le_of_ble_eq_true rfl) ?_
      exact x_iret (pc := 14) C hr rfl (fun _ h => h) dL_loosen_14
    · unfold hcode at hE
      split at hE
      · next hq =>
        subst hq
        obtain rfl : _ = v := Option.some.inj hE
        refine xl_catch C hX htab [⟨0, 7, 10, 21⟩] ⟨0, 7, 15, 15⟩ [] rfl (fun z hz => by
          simp only [List.mem_cons, List.not_mem_nil, or_false] at hz
          subst hz
          exact Or.inr ⟨by decide, _, wq324, by decide⟩) rfl (by decide) wq435 (by decide) g1 g2 g3 g4 g5 g6 ?_
        refine x_astore (pc := 15) C [(4, .ref q), (0, .ref b), (1, .int a1), (2, .int a2)] dL_loosen_15 (by decide) rfl ?_
        refine x_bipush (pc := 17) C (-33) dL_loosen_17 kb_m33 ?_
        refine xl_ret (Nat.le_of_ble_eq_true rfl) (Nat.le_of_ble_eq_true rfl) ?_
        exact x_iret (pc := 19) C hr rfl (fun _ h => h) dL_loosen_19
      · unfold hcode at hE
        exact none_ne hE
theorem c_L_look (l : Launch) (G : xG) (b : Nat) (hl : l.stackTraces = false) (a1 : Int32) (a2 : Int32) {w w' : xWt} {v : Int32} (hF : F_L_look a1 a2 w = some (v, w')) : xMetL l G b yL_look cL_look 5 (some .int) [(0, 7, 10, 21), (0, 7, 15, 15)] (xRX 9 1 6) [.ref b, .int a1, .int a2] (CW G b w) (some (.int v)) (CW G b w') 1 6 := by
  refine x_ofL (own := RL) rfl pn_L (Nat.le_of_ble_eq_true rfl) ?_
  intro p e s m args below meth c ha C hr hX htab
  unfold F_L_look at hF
  refine x_aload_n (pc := 0) C 0 dL_look_0 rfl rfl ?_
  refine x_iload_n (pc := 1) C 1 dL_look_1 rfl rfl ?_
  refine x_iload_n (pc := 2) C 2 dL_look_2 rfl rfl ?_
  refine xl_call_2 (pc := 3) C hX hF (fun _ _ h => c_X7_look l G b hl _ _ h) vm_X7_look wq683 ⟨Nat.le_of_ble_eq_true rfl, Nat.le_of_ble_eq_true rfl⟩ rfl rfl (fun _ h => CW.pl h) (Nat.le_of_ble_eq_true rfl) ⟨Nat.le_of_ble_eq_true rfl, Nat.le_of_ble_eq_true rfl⟩ dL_look_3 ?_ (fun E hE H1 locs1 ls q ce g1 g2 g3 g4 g5 g6 => ?_)
  · refine x_istore_n (pc := 6) C [(3, .int v), (0, .ref b), (1, .int a1), (2, .int a2)] dL_look_6 rfl (by decide) rfl ?_
    refine x_goto (pc := 7) C 20 dL_look_7 rfl ?_
    refine x_iload_n (pc := 20) C 0 dL_look_20 rfl rfl ?_
    refine xl_ret (Nat.le_of_ble_eq_true rfl) (Nat.le_of_ble_eq_true rfl) ?_
    exact x_iret (pc := 21) C hr rfl (fun _ h => h) dL_look_21
  · unfold hcode at hE
    split at hE
    · next hq =>
      subst hq
      obtain rfl : _ = v := Option.some.inj hE
      refine xl_catch C hX htab [] ⟨0, 7, 10, 21⟩ [⟨0, 7, 15, 15⟩] rfl (fun z hz => by cases hz) rfl (by decide) wq324 (by decide) g1 g2 g3 g4 g5 g6 ?_
      refine x_astore (pc := 10) C [(4, .ref q), (0, .ref b), (1, .int a1), (2, .int a2)] dL_look_10 (by decide) rfl ?_
      refine x_bipush (pc := 12) C (-31) dL_look_12 kb_m31 ?_
      refine xl_ret (Nat.le_of_ble_eq_true rfl) (Nat.le_of_ble_eq_true rfl) ?_
      exact x_iret (pc := 14) C hr rfl (fun _ h => h) dL_look_14
    · unfold hcode at hE
      split at hE
      · next hq =>
        subst hq
        obtain rfl : _ = v := Option.some.inj hE
        refine xl_catch C hX htab [⟨0, 7, 10, 21⟩] ⟨0, 7, 15, 15⟩ [] rfl (fun z hz => by
          simp only [List.mem_cons, List.not_mem_nil, or_false] at hz
          subst hz
          exact Or.inr ⟨by decide, _, wq324, by decide⟩) rfl (by decide) wq435 (by decide) g1 g2 g3 g4 g5 g6 ?_
        refine x_astore (pc := 15) C [(4, .ref q), (0, .ref b), (1, .int a1), (2, .int a2)] dL_look_15 (by decide) rfl ?_
        refine x_bipush (pc := 17) C (-33) dL_look_17 kb_m33 ?_
        refine xl_ret (Nat.le_of_ble_eq_true rfl) (Nat.le_of_ble_eq_true rfl) ?_
        exact x_iret (pc := 19) C hr rfl (fun _ h => h) dL_look_19
      · unfold hcode at hE
        exact none_ne hE
theorem c_L_grow (l : Launch) (G : xG) (b : Nat) (hl : l.stackTraces = false) (a1 : Int32) (a2 : Int32) {w w' : xWt} {v : Int32} (hF : F_L_grow a1 a2 w = some (v, w')) : xMetL l G b yL_grow cL_grow 5 (some .int) [(0, 7, 10, 21), (0, 7, 15, 36), (0, 7, 20, 15)] (xRX 8 1 6) [.ref b, .int a1, .int a2] (CW G b w) (some (.int v)) (CW G b w') 1 6 := by
  refine x_ofL (own := RL) rfl pn_L (Nat.le_of_ble_eq_true rfl) ?_
  intro p e s m args below meth c ha C hr hX htab
  unfold F_L_grow at hF
  refine x_aload_n (pc := 0) C 0 dL_grow_0 rfl rfl ?_
  refine x_iload_n (pc := 1) C 1 dL_grow_1 rfl rfl ?_
  refine x_iload_n (pc := 2) C 2 dL_grow_2 rfl rfl ?_
  refine xl_call_2 (pc := 3) C hX hF (fun _ _ h => c_X7_grow l G b hl _ _ h) vm_X7_grow wq697 ⟨Nat.le_of_ble_eq_true rfl, Nat.le_of_ble_eq_true rfl⟩ rfl rfl (fun _ h => CW.pl h) (Nat.le_of_ble_eq_true rfl) ⟨Nat.le_of_ble_eq_true rfl, Nat.le_of_ble_eq_true rfl⟩ dL_grow_3 ?_ (fun E hE H1 locs1 ls q ce g1 g2 g3 g4 g5 g6 => ?_)
  · refine x_istore_n (pc := 6) C [(3, .int v), (0, .ref b), (1, .int a1), (2, .int a2)] dL_grow_6 rfl (by decide) rfl ?_
    refine x_goto (pc := 7) C 25 dL_grow_7 rfl ?_
    refine x_iload_n (pc := 25) C 0 dL_grow_25 rfl rfl ?_
    refine xl_ret (Nat.le_of_ble_eq_true rfl) (Nat.le_of_ble_eq_true rfl) ?_
    exact x_iret (pc := 26) C hr rfl (fun _ h => h) dL_grow_26
  · unfold hcode at hE
    split at hE
    · next hq =>
      subst hq
      obtain rfl : _ = v := Option.some.inj hE
      refine xl_catch C hX htab [] ⟨0, 7, 10, 21⟩ [⟨0, 7, 15, 36⟩, ⟨0, 7, 20, 15⟩] rfl (fun z hz => by cases hz) rfl (by decide) wq324 (by decide) g1 g2 g3 g4 g5 g6 ?_
      refine x_astore (pc := 10) C [(4, .ref q), (0, .ref b), (1, .int a1), (2, .int a2)] dL_grow_10 (by decide) rfl ?_
      refine x_bipush (pc := 12) C (-31) dL_grow_12 kb_m31 ?_
      refine xl_ret (Nat.le_of_ble_eq_true rfl) (Nat.le_of_ble_eq_true rfl) ?_
      exact x_iret (pc := 14) C hr rfl (fun _ h => h) dL_grow_14
    · unfold hcode at hE
      split at hE
      · next hq =>
        subst hq
        obtain rfl : _ = v := Option.some.inj hE
        refine xl_catch C hX htab [⟨0, 7, 10, 21⟩] ⟨0, 7, 15, 36⟩ [⟨0, 7, 20, 15⟩] rfl (fun z hz => by
          simp only [List.mem_cons, List.not_mem_nil, or_false] at hz
          subst hz
          exact Or.inr ⟨by decide, _, wq324, by decide⟩) rfl (by decide) wq325 (by decide) g1 g2 g3 g4 g5 g6 ?_
        refine x_astore (pc := 15) C [(4, .ref q), (0, .ref b), (1, .int a1), (2, .int a2)] dL_grow_15 (by decide) rfl ?_
        refine x_bipush (pc := 17) C (-32) dL_grow_17 kb_m32 ?_
        refine xl_ret (Nat.le_of_ble_eq_true rfl) (Nat.le_of_ble_eq_true rfl) ?_
        exact x_iret (pc := 19) C hr rfl (fun _ h => h) dL_grow_19
      · unfold hcode at hE
        split at hE
        · next hq =>
          subst hq
          obtain rfl : _ = v := Option.some.inj hE
          refine xl_catch C hX htab [⟨0, 7, 10, 21⟩, ⟨0, 7, 15, 36⟩] ⟨0, 7, 20, 15⟩ [] rfl (fun z hz => by
            simp only [List.mem_cons, List.not_mem_nil, or_false] at hz
            rcases hz with rfl | rfl
            · exact Or.inr ⟨by decide, _, wq324, by decide⟩
            · exact Or.inr ⟨by decide, _, wq325, by decide⟩) rfl (by decide) wq435 (by decide) g1 g2 g3 g4 g5 g6 ?_
          refine x_astore (pc := 20) C [(4, .ref q), (0, .ref b), (1, .int a1), (2, .int a2)] dL_grow_20 (by decide) rfl ?_
          refine x_bipush (pc := 22) C (-33) dL_grow_22 kb_m33 ?_
          refine xl_ret (Nat.le_of_ble_eq_true rfl) (Nat.le_of_ble_eq_true rfl) ?_
          exact x_iret (pc := 24) C hr rfl (fun _ h => h) dL_grow_24
        · unfold hcode at hE
          exact none_ne hE
theorem c_L_take (l : Launch) (G : xG) (b : Nat) (hl : l.stackTraces = false) (a1 : Int32) (a2 : Int32) {w w' : xWt} {v : Int32} (hF : F_L_take a1 a2 w = some (v, w')) : xMetL l G b yL_take cL_take 5 (some .int) [(0, 7, 10, 21), (0, 7, 15, 15)] (xRX 8 1 6) [.ref b, .int a1, .int a2] (CW G b w) (some (.int v)) (CW G b w') 1 6 := by
  refine x_ofL (own := RL) rfl pn_L (Nat.le_of_ble_eq_true rfl) ?_
  intro p e s m args below meth c ha C hr hX htab
  unfold F_L_take at hF
  refine x_aload_n (pc := 0) C 0 dL_take_0 rfl rfl ?_
  refine x_iload_n (pc := 1) C 1 dL_take_1 rfl rfl ?_
  refine x_iload_n (pc := 2) C 2 dL_take_2 rfl rfl ?_
  refine xl_call_2 (pc := 3) C hX hF (fun _ _ h => c_X7_take l G b hl _ _ h) vm_X7_take wq719 ⟨Nat.le_of_ble_eq_true rfl, Nat.le_of_ble_eq_true rfl⟩ rfl rfl (fun _ h => CW.pl h) (Nat.le_of_ble_eq_true rfl) ⟨Nat.le_of_ble_eq_true rfl, Nat.le_of_ble_eq_true rfl⟩ dL_take_3 ?_ (fun E hE H1 locs1 ls q ce g1 g2 g3 g4 g5 g6 => ?_)
  · refine x_istore_n (pc := 6) C [(3, .int v), (0, .ref b), (1, .int a1), (2, .int a2)] dL_take_6 rfl (by decide) rfl ?_
    refine x_goto (pc := 7) C 20 dL_take_7 rfl ?_
    refine x_iload_n (pc := 20) C 0 dL_take_20 rfl rfl ?_
    refine xl_ret (Nat.le_of_ble_eq_true rfl) (Nat.le_of_ble_eq_true rfl) ?_
    exact x_iret (pc := 21) C hr rfl (fun _ h => h) dL_take_21
  · unfold hcode at hE
    split at hE
    · next hq =>
      subst hq
      obtain rfl : _ = v := Option.some.inj hE
      refine xl_catch C hX htab [] ⟨0, 7, 10, 21⟩ [⟨0, 7, 15, 15⟩] rfl (fun z hz => by cases hz) rfl (by decide) wq324 (by decide) g1 g2 g3 g4 g5 g6 ?_
      refine x_astore (pc := 10) C [(4, .ref q), (0, .ref b), (1, .int a1), (2, .int a2)] dL_take_10 (by decide) rfl ?_
      refine x_bipush (pc := 12) C (-31) dL_take_12 kb_m31 ?_
      refine xl_ret (Nat.le_of_ble_eq_true rfl) (Nat.le_of_ble_eq_true rfl) ?_
      exact x_iret (pc := 14) C hr rfl (fun _ h => h) dL_take_14
    · unfold hcode at hE
      split at hE
      · next hq =>
        subst hq
        obtain rfl : _ = v := Option.some.inj hE
        refine xl_catch C hX htab [⟨0, 7, 10, 21⟩] ⟨0, 7, 15, 15⟩ [] rfl (fun z hz => by
          simp only [List.mem_cons, List.not_mem_nil, or_false] at hz
          subst hz
          exact Or.inr ⟨by decide, _, wq324, by decide⟩) rfl (by decide) wq435 (by decide) g1 g2 g3 g4 g5 g6 ?_
        refine x_astore (pc := 15) C [(4, .ref q), (0, .ref b), (1, .int a1), (2, .int a2)] dL_take_15 (by decide) rfl ?_
        refine x_bipush (pc := 17) C (-33) dL_take_17 kb_m33 ?_
        refine xl_ret (Nat.le_of_ble_eq_true rfl) (Nat.le_of_ble_eq_true rfl) ?_
        exact x_iret (pc := 19) C hr rfl (fun _ h => h) dL_take_19
      · unfold hcode at hE
        exact none_ne hE
theorem c_L_swap (l : Launch) (G : xG) (b : Nat) (hl : l.stackTraces = false) (a1 : Int32) (a2 : Int32) (a3 : Int32) {w w' : xWt} {v : Int32} (hF : F_L_swap a1 a2 a3 w = some (v, w')) : xMetL l G b yL_swap cL_swap 6 (some .int) [(0, 9, 12, 21), (0, 9, 17, 36), (0, 9, 22, 15)] (xRX 8 1 6) [.ref b, .int a1, .int a2, .int a3] (CW G b w) (some (.int v)) (CW G b w') 1 6 := by
  refine x_ofL (own := RL) rfl pn_L (Nat.le_of_ble_eq_true rfl) ?_
  intro p e s m args below meth c ha C hr hX htab
  unfold F_L_swap at hF
  refine x_aload_n (pc := 0) C 0 dL_swap_0 rfl rfl ?_
  refine x_iload_n (pc := 1) C 1 dL_swap_1 rfl rfl ?_
  refine x_iload_n (pc := 2) C 2 dL_swap_2 rfl rfl ?_
  refine x_iload_n (pc := 3) C 3 dL_swap_3 rfl rfl ?_
  refine xl_call_3 (pc := 4) C hX hF (fun _ _ h => c_X7_swap l G b hl _ _ _ h) vm_X7_swap wq758 ⟨Nat.le_of_ble_eq_true rfl, Nat.le_of_ble_eq_true rfl⟩ rfl rfl (fun _ h => CW.pl h) (Nat.le_of_ble_eq_true rfl) ⟨Nat.le_of_ble_eq_true rfl, Nat.le_of_ble_eq_true rfl⟩ dL_swap_4 ?_ (fun E hE H1 locs1 ls q ce g1 g2 g3 g4 g5 g6 => ?_)
  · refine x_istore (pc := 7) C [(4, .int v), (0, .ref b), (1, .int a1), (2, .int a2), (3, .int a3)] dL_swap_7 (by decide) rfl ?_
    refine x_goto (pc := 9) C 27 dL_swap_9 rfl ?_
    refine x_iload (pc := 27) C 0 dL_swap_27 rfl ?_
    refine xl_ret (Nat.le_of_ble_eq_true rfl) (Nat.le_of_ble_eq_true rfl) ?_
    exact x_iret (pc := 29) C hr rfl (fun _ h => h) dL_swap_29
  · unfold hcode at hE
    split at hE
    · next hq =>
      subst hq
      obtain rfl : _ = v := Option.some.inj hE
      refine xl_catch C hX htab [] ⟨0, 9, 12, 21⟩ [⟨0, 9, 17, 36⟩, ⟨0, 9, 22, 15⟩] rfl (fun z hz => by cases hz) rfl (by decide) wq324 (by decide) g1 g2 g3 g4 g5 g6 ?_
      refine x_astore (pc := 12) C [(5, .ref q), (0, .ref b), (1, .int a1), (2, .int a2), (3, .int a3)] dL_swap_12 (by decide) rfl ?_
      refine x_bipush (pc := 14) C (-31) dL_swap_14 kb_m31 ?_
      refine xl_ret (Nat.le_of_ble_eq_true rfl) (Nat.le_of_ble_eq_true rfl) ?_
      exact x_iret (pc := 16) C hr rfl (fun _ h => h) dL_swap_16
    · unfold hcode at hE
      split at hE
      · next hq =>
        subst hq
        obtain rfl : _ = v := Option.some.inj hE
        refine xl_catch C hX htab [⟨0, 9, 12, 21⟩] ⟨0, 9, 17, 36⟩ [⟨0, 9, 22, 15⟩] rfl (fun z hz => by
          simp only [List.mem_cons, List.not_mem_nil, or_false] at hz
          subst hz
          exact Or.inr ⟨by decide, _, wq324, by decide⟩) rfl (by decide) wq325 (by decide) g1 g2 g3 g4 g5 g6 ?_
        refine x_astore (pc := 17) C [(5, .ref q), (0, .ref b), (1, .int a1), (2, .int a2), (3, .int a3)] dL_swap_17 (by decide) rfl ?_
        refine x_bipush (pc := 19) C (-32) dL_swap_19 kb_m32 ?_
        refine xl_ret (Nat.le_of_ble_eq_true rfl) (Nat.le_of_ble_eq_true rfl) ?_
        exact x_iret (pc := 21) C hr rfl (fun _ h => h) dL_swap_21
      · unfold hcode at hE
        split at hE
        · next hq =>
          subst hq
          obtain rfl : _ = v := Option.some.inj hE
          refine xl_catch C hX htab [⟨0, 9, 12, 21⟩, ⟨0, 9, 17, 36⟩] ⟨0, 9, 22, 15⟩ [] rfl (fun z hz => by
            simp only [List.mem_cons, List.not_mem_nil, or_false] at hz
            rcases hz with rfl | rfl
            · exact Or.inr ⟨by decide, _, wq324, by decide⟩
            · exact Or.inr ⟨by decide, _, wq325, by decide⟩) rfl (by decide) wq435 (by decide) g1 g2 g3 g4 g5 g6 ?_
          refine x_astore (pc := 22) C [(5, .ref q), (0, .ref b), (1, .int a1), (2, .int a2), (3, .int a3)] dL_swap_22 (by decide) rfl ?_
          refine x_bipush (pc := 24) C (-33) dL_swap_24 kb_m33 ?_
          refine xl_ret (Nat.le_of_ble_eq_true rfl) (Nat.le_of_ble_eq_true rfl) ?_
          exact x_iret (pc := 26) C hr rfl (fun _ h => h) dL_swap_26
        · unfold hcode at hE
          exact none_ne hE
theorem c_L_rake (l : Launch) (G : xG) (b : Nat) (hl : l.stackTraces = false) (a1 : Int32) {w w' : xWt} {v : Int32} (hF : F_L_rake a1 w = some (v, w')) : xMetL l G b yL_rake cL_rake 4 (some .int) [(0, 6, 9, 21), (0, 6, 13, 15)] (xRX 8 1 6) [.ref b, .int a1] (CW G b w) (some (.int v)) (CW G b w') 1 6 := by
  refine x_ofL (own := RL) rfl pn_L (Nat.le_of_ble_eq_true rfl) ?_
  intro p e s m args below meth c ha C hr hX htab
  unfold F_L_rake at hF
  refine x_aload_n (pc := 0) C 0 dL_rake_0 rfl rfl ?_
  refine x_iload_n (pc := 1) C 1 dL_rake_1 rfl rfl ?_
  refine xl_call_1 (pc := 2) C hX hF (fun _ _ h => c_X7_rake l G b hl _ h) vm_X7_rake wq776 ⟨Nat.le_of_ble_eq_true rfl, Nat.le_of_ble_eq_true rfl⟩ rfl rfl (fun _ h => CW.pl h) (Nat.le_of_ble_eq_true rfl) ⟨Nat.le_of_ble_eq_true rfl, Nat.le_of_ble_eq_true rfl⟩ dL_rake_2 ?_ (fun E hE H1 locs1 ls q ce g1 g2 g3 g4 g5 g6 => ?_)
  · refine x_istore_n (pc := 5) C [(2, .int v), (0, .ref b), (1, .int a1)] dL_rake_5 rfl (by decide) rfl ?_
    refine x_goto (pc := 6) C 17 dL_rake_6 rfl ?_
    refine x_iload_n (pc := 17) C 0 dL_rake_17 rfl rfl ?_
    refine xl_ret (Nat.le_of_ble_eq_true rfl) (Nat.le_of_ble_eq_true rfl) ?_
    exact x_iret (pc := 18) C hr rfl (fun _ h => h) dL_rake_18
  · unfold hcode at hE
    split at hE
    · next hq =>
      subst hq
      obtain rfl : _ = v := Option.some.inj hE
      refine xl_catch C hX htab [] ⟨0, 6, 9, 21⟩ [⟨0, 6, 13, 15⟩] rfl (fun z hz => by cases hz) rfl (by decide) wq324 (by decide) g1 g2 g3 g4 g5 g6 ?_
      refine x_astore_n (pc := 9) C [(3, .ref q), (0, .ref b), (1, .int a1)] dL_rake_9 rfl (by decide) rfl ?_
      refine x_bipush (pc := 10) C (-31) dL_rake_10 kb_m31 ?_
      refine xl_ret (Nat.le_of_ble_eq_true rfl) (Nat.le_of_ble_eq_true rfl) ?_
      exact x_iret (pc := 12) C hr rfl (fun _ h => h) dL_rake_12
    · unfold hcode at hE
      split at hE
      · next hq =>
        subst hq
        obtain rfl : _ = v := Option.some.inj hE
        refine xl_catch C hX htab [⟨0, 6, 9, 21⟩] ⟨0, 6, 13, 15⟩ [] rfl (fun z hz => by
          simp only [List.mem_cons, List.not_mem_nil, or_false] at hz
          subst hz
          exact Or.inr ⟨by decide, _, wq324, by decide⟩) rfl (by decide) wq435 (by decide) g1 g2 g3 g4 g5 g6 ?_
        refine x_astore_n (pc := 13) C [(3, .ref q), (0, .ref b), (1, .int a1)] dL_rake_13 rfl (by decide) rfl ?_
        refine x_bipush (pc := 14) C (-33) dL_rake_14 kb_m33 ?_
        refine xl_ret (Nat.le_of_ble_eq_true rfl) (Nat.le_of_ble_eq_true rfl) ?_
        exact x_iret (pc := 16) C hr rfl (fun _ h => h) dL_rake_16
      · unfold hcode at hE
        exact none_ne hE
