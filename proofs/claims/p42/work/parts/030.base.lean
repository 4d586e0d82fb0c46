/-! The judgement that all walks here are said in: xW: at pc, with the locals lv and the stack st, from every heap that P holds of. -/
abbrev xG : Type := va_G × ClassId × ClassId × ClassId × Nat
def xT (G : xG) : List (ClassId × FieldType) := [(G.2.1, .int), (G.2.2.2.1, .object "PinnedLeaves$Yard")]
def xK (G : xG) (U : State) : Prop := va_K G.1 vwCl (xT G) U
theorem xK.moved {G : xG} {u U : State} (hvm : u.vm.Alike U.vm) (h : xK G u) : xK G U := va_K.moved hvm h
def xC (p : Program) (m : MethodId) (c : Code) (s : State) (args : Array Value) (meth : Method) (G : xG) (b : Nat) (cc : ByteArray) (nL : Nat) (own : String) : Prop :=
  p.tables.exec = Jvm.exec ∧ c.code = cc ∧ c.maxLocals = nL ∧ s.vm.findClass own = some m.cls ∧ (∀ w ∈ gw, w.before args s = true) ∧ meth.locks = false ∧ xK G s ∧ b ≤ s.heap.size
def xA (b : Nat) : Nat → Prop := fun q => b ≤ q
def xW (p : Program) (l : Launch) (e : Env) (R : Room) (s : State) (m : MethodId) (args : Array Value) (below : List Frame) (meth : Method) (c : Code) (Q : State → Prop) (b nL : Nat) (P : Heap → Prop) (cells slots pc : Nat) (lv : List (Nat × Value)) (st : List Value) : Prop :=
  ∀ (H : Heap) (locs : List Loc) (ls : Array Slot), P H → va_S (xA b) s.heap H locs → lv_has ls nL lv → W p l e R s m args below meth c H locs cells slots Q (F0 m pc ls st)
/-- a contract: from the arguments as, in a heap that P holds of, the answer is v, and P' holds then -/
def xPc (G : xG) (b : Nat) (as : List Value) (P : Heap → Prop) : Array Value → State → Prop := va_Pc as (fun U => P U.heap ∧ xK G U ∧ b ≤ U.heap.size)
def xQ (b : Nat) (v : Option Value) (P' : Heap → Prop) : Array Value → State → Outcome → State → Prop := fun _ st o t => o = .returned v ∧ P' t.heap ∧ va_F (xA b) st t
abbrev xWs (y : MethodName) (cc : ByteArray) (n : Nat) (ret : Option FieldType) : List Cond := Cond.code y cc n ret :: gw
def xMet (l : Launch) (G : xG) (b : Nat) (y : MethodName) (cc : ByteArray) (n : Nat) (ret : Option FieldType) (rm : Room) (as : List Value) (P : Heap → Prop) (v : Option Value) (P' : Heap → Prop) (mc ms : Nat) : Prop :=
  Met l y (xWs y cc n ret) rm (xPc G b as P) (xQ b v P') mc ms (xA b)
/-- the room of a method that stands d calls high and makes nothing -/
abbrev xR (d : Nat) : Room := { frames := d, cells := 0, slots := 0, locals := 36 * d }
theorem x_frames {s t : State} {w : Cond} {args : Array Value} (hb : w.before args s = true) (h : t = s) : w.before args t = true := h ▸ hb
theorem xPc.blind {G : xG} {b : Nat} {as : List Value} {P : Heap → Prop} : FrameBlind (xPc G b as P) := by
  intro a U g mk q
  obtain ⟨q0, q1, q2, q3⟩ := q
  exact ⟨q0, q1, va_K.moved (u := U) (U := U.calling g mk a) (Vm.Alike.refl U.vm) q2, q3⟩
theorem x_ofW {l : Launch} {y : MethodName} {ws ws' : List Cond} {rm : Room} {Pc : Array Value → State → Prop} {Qc : Array Value → State → Outcome → State → Prop} {mc ms : Nat} {free : Addr → Prop} {cc : ByteArray} {maxL : Nat} {ret : Option FieldType} (hy : plainFor y = true) (hw : ws = Cond.code y cc maxL ret :: ws')
    (body : ∀ p e s m args below meth c s₁, BodyLoose p l y (headSpec ws rm) cc maxL ret e s m args below meth c s₁ → c.maxLocals = maxL → Pc args s → W p l e (headSpec ws rm).room s m args below meth c s.heap [] 0 0 (MQ below Qc args s mc ms free) (entryFrame m args maxL)) : Met l y ws rm Pc Qc mc ms free := by
  refine MetFree.of_bodySF (code := cc) (maxLocals := maxL) (ret := ret) hy ?_ ?_
  · intro args s m h hn
    obtain ⟨meth, c, h1, h2, h3, h4, h5, h6, -⟩ := Cond.code_spec hn (atoms_spec (ws := ws) h _ (by rw [hw]; exact List.mem_cons_self))
    exact ⟨meth, c, h1, h2, h3, h4, h5, h6⟩
  · intro p e s m args below meth c s₁ B hml hP _
    obtain ⟨t, a1, o, b1, b2, b3⟩ := body p e s m args below meth c s₁ B hml hP s₁ (by rw [B.state]; rfl) (Stand.of_body B)
    exact ⟨t, o, a1, b1, b2, b3⟩
section XW
variable {p : Program} {l : Launch} {e : Env} {R : Room} {s : State} {m : MethodId} {args : Array Value} {below : List Frame} {meth : Method} {c : Code} {Q : State → Prop} {b nL : Nat} {P P' : Heap → Prop} {cells slots pc : Nat} {lv lv' : List (Nat × Value)} {st : List Value} {G : xG} {cc : ByteArray} {own : String}
theorem x_of {y : MethodName} {ret : Option FieldType} {rm : Room} {as : List Value} {v : Option Value} {mc ms : Nat} (ho : y.cls = own) (hy : plainFor y = true) (hlen : (lg_sl as).length ≤ nL)
    (body : ∀ p e s m args below meth c, args = as.toArray → xC p m c s args meth G b cc nL own → meth.sig.returnType = ret → meth.name = y.name → xW p l e rm s m args below meth c (MQ below (xQ b v P') args s mc ms (xA b)) b nL P 0 0 0 (lv_args 0 as) []) : xMet l G b y cc nL ret rm as P v P' mc ms := by
  subst ho
  refine x_ofW (cc := cc) (maxL := nL) (ret := ret) hy rfl ?_
  intro p e s m args below meth c s₁ B hml hv
  obtain ⟨hargs, hP, hK, hbl⟩ := hv
  have hts := atoms_spec (ws := xWs y cc nL ret) B.pre
  have hC : xC p m c s args meth G b cc nL y.cls := ⟨B.exec, B.bytes, hml, findClass_of_methodNamed B.named, fun w hw => hts w (List.mem_cons_of_mem _ hw), B.notSynchronized, hK, hbl⟩
  have hl := lv_entry as (n := nL) hlen
  have k := body p e s m args below meth c hargs hC B.returns (name_of_methodNamed B.named B.method).1
  have h2 := k s.heap [] _ hP va_S.rf hl
  rw [hargs]
  rw [hargs] at h2
  rw [lg_entry_eq]
  exact h2
theorem x_eq {pc' : Nat} {lv' : List (Nat × Value)} {st' : List Value} (h1 : pc' = pc) (h2 : lv' = lv) (h3 : st' = st) (k : xW p l e R s m args below meth c Q b nL P cells slots pc' lv' st') : xW p l e R s m args below meth c Q b nL P cells slots pc lv st := by
  subst h1; subst h2; subst h3; exact k
theorem x_sub (ks : List Nat) (h : lv_pick lv ks = lv') (k : xW p l e R s m args below meth c Q b nL P cells slots pc lv' st) : xW p l e R s m args below meth c Q b nL P cells slots pc lv st :=
  fun H locs ls h1 h2 h3 => k H locs ls h1 h2 (lv_sub h3 ks h)
theorem x_mono (h : ∀ H, P H → P' H) (k : xW p l e R s m args below meth c Q b nL P' cells slots pc lv st) : xW p l e R s m args below meth c Q b nL P cells slots pc lv st :=
  fun H locs ls h1 h2 h3 => k H locs ls (h H h1) h2 h3
theorem x_heap (h : ∀ H, P H → xW p l e R s m args below meth c Q b nL (fun H' => P H' ∧ H' = H) cells slots pc lv st) : xW p l e R s m args below meth c Q b nL P cells slots pc lv st :=
  fun H locs ls h1 h2 h3 => h H h1 H locs ls ⟨h1, rfl⟩ h2 h3

theorem x_iconst (C : xC p m c s args meth G b cc nL own) {n : Int} (v : Int32) (d : decode cc pc = .ok (.iconst n, 1)) (hv : Int32.ofInt n = v) (k : xW p l e R s m args below meth c Q b nL P cells slots (pc + 1) lv (.int v :: st)) : xW p l e R s m args below meth c Q b nL P cells slots (pc) lv (st) :=
  fun H locs ls h1 h2 h3 => lv_iconst C.1 C.2.1 d hv (k H locs ls h1 h2 h3)
theorem x_bipush (C : xC p m c s args meth G b cc nL own) {n : Int} (v : Int32) (d : decode cc pc = .ok (.bipush n, 2)) (hv : (Int8.ofInt n).toInt32 = v) (k : xW p l e R s m args below meth c Q b nL P cells slots (pc + 2) lv (.int v :: st)) : xW p l e R s m args below meth c Q b nL P cells slots (pc) lv (st) :=
  fun H locs ls h1 h2 h3 => lv_bipush C.1 C.2.1 d hv (k H locs ls h1 h2 h3)
theorem x_sipush (C : xC p m c s args meth G b cc nL own) {n : Int} (v : Int32) (d : decode cc pc = .ok (.sipush n, 3)) (hv : (Int16.ofInt n).toInt32 = v) (k : xW p l e R s m args below meth c Q b nL P cells slots (pc + 3) lv (.int v :: st)) : xW p l e R s m args below meth c Q b nL P cells slots (pc) lv (st) :=
  fun H locs ls h1 h2 h3 => lv_sipush C.1 C.2.1 d hv (k H locs ls h1 h2 h3)
theorem x_lconst (C : xC p m c s args meth G b cc nL own) {n : Fin 2} (v : Int64) (d : decode cc pc = .ok (.lconst n, 1)) (hv : Int64.ofNat (n : Nat) = v) (k : xW p l e R s m args below meth c Q b nL P cells slots (pc + 1) lv (.long v :: st)) : xW p l e R s m args below meth c Q b nL P cells slots (pc) lv (st) :=
  fun H locs ls h1 h2 h3 => lv_lconst C.1 C.2.1 d hv (k H locs ls h1 h2 h3)
theorem x_dconst0 (C : xC p m c s args meth G b cc nL own)  (d : decode cc pc = .ok (.dconst 0, 1))  (k : xW p l e R s m args below meth c Q b nL P cells slots (pc + 1) lv (.double FP.dconst0 :: st)) : xW p l e R s m args below meth c Q b nL P cells slots (pc) lv (st) :=
  fun H locs ls h1 h2 h3 => lv_dconst0 C.1 C.2.1 d  (k H locs ls h1 h2 h3)
theorem x_dconst1 (C : xC p m c s args meth G b cc nL own)  (d : decode cc pc = .ok (.dconst 1, 1))  (k : xW p l e R s m args below meth c Q b nL P cells slots (pc + 1) lv (.double FP.dconst1 :: st)) : xW p l e R s m args below meth c Q b nL P cells slots (pc) lv (st) :=
  fun H locs ls h1 h2 h3 => lv_dconst1 C.1 C.2.1 d  (k H locs ls h1 h2 h3)
theorem x_fconst0 (C : xC p m c s args meth G b cc nL own)  (d : decode cc pc = .ok (.fconst 0, 1))  (k : xW p l e R s m args below meth c Q b nL P cells slots (pc + 1) lv (.float FP.fconst0 :: st)) : xW p l e R s m args below meth c Q b nL P cells slots (pc) lv (st) :=
  fun H locs ls h1 h2 h3 => lv_fconst0 C.1 C.2.1 d  (k H locs ls h1 h2 h3)
theorem x_null (C : xC p m c s args meth G b cc nL own)  (d : decode cc pc = .ok (.aconst_null, 1))  (k : xW p l e R s m args below meth c Q b nL P cells slots (pc + 1) lv (.null :: st)) : xW p l e R s m args below meth c Q b nL P cells slots (pc) lv (st) :=
  fun H locs ls h1 h2 h3 => lv_null C.1 C.2.1 d  (k H locs ls h1 h2 h3)
theorem x_iadd (C : xC p m c s args meth G b cc nL own) {x y : Int32} (d : decode cc pc = .ok (.iadd, 1))  (k : xW p l e R s m args below meth c Q b nL P cells slots (pc + 1) lv (.int (x + y) :: st)) : xW p l e R s m args below meth c Q b nL P cells slots (pc) lv (.int y :: .int x :: st) :=
  fun H locs ls h1 h2 h3 => lv_iadd C.1 C.2.1 d  (k H locs ls h1 h2 h3)
theorem x_isub (C : xC p m c s args meth G b cc nL own) {x y : Int32} (d : decode cc pc = .ok (.isub, 1))  (k : xW p l e R s m args below meth c Q b nL P cells slots (pc + 1) lv (.int (x - y) :: st)) : xW p l e R s m args below meth c Q b nL P cells slots (pc) lv (.int y :: .int x :: st) :=
  fun H locs ls h1 h2 h3 => lv_isub C.1 C.2.1 d  (k H locs ls h1 h2 h3)
theorem x_imul (C : xC p m c s args meth G b cc nL own) {x y : Int32} (d : decode cc pc = .ok (.imul, 1))  (k : xW p l e R s m args below meth c Q b nL P cells slots (pc + 1) lv (.int (x * y) :: st)) : xW p l e R s m args below meth c Q b nL P cells slots (pc) lv (.int y :: .int x :: st) :=
  fun H locs ls h1 h2 h3 => lv_imul C.1 C.2.1 d  (k H locs ls h1 h2 h3)
theorem x_iand (C : xC p m c s args meth G b cc nL own) {x y : Int32} (d : decode cc pc = .ok (.iand, 1))  (k : xW p l e R s m args below meth c Q b nL P cells slots (pc + 1) lv (.int (x &&& y) :: st)) : xW p l e R s m args below meth c Q b nL P cells slots (pc) lv (.int y :: .int x :: st) :=
  fun H locs ls h1 h2 h3 => lv_iand C.1 C.2.1 d  (k H locs ls h1 h2 h3)
theorem x_ior (C : xC p m c s args meth G b cc nL own) {x y : Int32} (d : decode cc pc = .ok (.ior, 1))  (k : xW p l e R s m args below meth c Q b nL P cells slots (pc + 1) lv (.int (x ||| y) :: st)) : xW p l e R s m args below meth c Q b nL P cells slots (pc) lv (.int y :: .int x :: st) :=
  fun H locs ls h1 h2 h3 => lv_ior C.1 C.2.1 d  (k H locs ls h1 h2 h3)
theorem x_ishl (C : xC p m c s args meth G b cc nL own) {x y : Int32} (d : decode cc pc = .ok (.ishl, 1))  (k : xW p l e R s m args below meth c Q b nL P cells slots (pc + 1) lv (.int (x <<< (y &&& 31)) :: st)) : xW p l e R s m args below meth c Q b nL P cells slots (pc) lv (.int y :: .int x :: st) :=
  fun H locs ls h1 h2 h3 => lv_ishl C.1 C.2.1 d  (k H locs ls h1 h2 h3)
theorem x_ishr (C : xC p m c s args meth G b cc nL own) {x y : Int32} (d : decode cc pc = .ok (.ishr, 1))  (k : xW p l e R s m args below meth c Q b nL P cells slots (pc + 1) lv (.int (x >>> (y &&& 31)) :: st)) : xW p l e R s m args below meth c Q b nL P cells slots (pc) lv (.int y :: .int x :: st) :=
  fun H locs ls h1 h2 h3 => lv_ishr C.1 C.2.1 d  (k H locs ls h1 h2 h3)
theorem x_ladd (C : xC p m c s args meth G b cc nL own) {x y : Int64} (d : decode cc pc = .ok (.ladd, 1))  (k : xW p l e R s m args below meth c Q b nL P cells slots (pc + 1) lv (.long (x + y) :: st)) : xW p l e R s m args below meth c Q b nL P cells slots (pc) lv (.long y :: .long x :: st) :=
  fun H locs ls h1 h2 h3 => lv_ladd C.1 C.2.1 d  (k H locs ls h1 h2 h3)
theorem x_lsub (C : xC p m c s args meth G b cc nL own) {x y : Int64} (d : decode cc pc = .ok (.lsub, 1))  (k : xW p l e R s m args below meth c Q b nL P cells slots (pc + 1) lv (.long (x - y) :: st)) : xW p l e R s m args below meth c Q b nL P cells slots (pc) lv (.long y :: .long x :: st) :=
  fun H locs ls h1 h2 h3 => lv_lsub C.1 C.2.1 d  (k H locs ls h1 h2 h3)
theorem x_lmul (C : xC p m c s args meth G b cc nL own) {x y : Int64} (d : decode cc pc = .ok (.lmul, 1))  (k : xW p l e R s m args below meth c Q b nL P cells slots (pc + 1) lv (.long (x * y) :: st)) : xW p l e R s m args below meth c Q b nL P cells slots (pc) lv (.long y :: .long x :: st) :=
  fun H locs ls h1 h2 h3 => lv_lmul C.1 C.2.1 d  (k H locs ls h1 h2 h3)
theorem x_lshl (C : xC p m c s args meth G b cc nL own) {x : Int64} {y : Int32} (d : decode cc pc = .ok (.lshl, 1))  (k : xW p l e R s m args below meth c Q b nL P cells slots (pc + 1) lv (.long (x <<< (y.toInt64 &&& 63)) :: st)) : xW p l e R s m args below meth c Q b nL P cells slots (pc) lv (.int y :: .long x :: st) :=
  fun H locs ls h1 h2 h3 => lv_lshl C.1 C.2.1 d rfl (k H locs ls h1 h2 h3)
theorem x_i2l (C : xC p m c s args meth G b cc nL own) {x : Int32} (d : decode cc pc = .ok (.i2l, 1))  (k : xW p l e R s m args below meth c Q b nL P cells slots (pc + 1) lv (.long x.toInt64 :: st)) : xW p l e R s m args below meth c Q b nL P cells slots (pc) lv (.int x :: st) :=
  fun H locs ls h1 h2 h3 => lv_i2l C.1 C.2.1 d rfl (k H locs ls h1 h2 h3)
theorem x_i2d (C : xC p m c s args meth G b cc nL own) {x : Int32} (d : decode cc pc = .ok (.i2d, 1))  (k : xW p l e R s m args below meth c Q b nL P cells slots (pc + 1) lv (.double (FP.i2d x) :: st)) : xW p l e R s m args below meth c Q b nL P cells slots (pc) lv (.int x :: st) :=
  fun H locs ls h1 h2 h3 => lv_i2d C.1 C.2.1 d  (k H locs ls h1 h2 h3)
theorem x_i2f (C : xC p m c s args meth G b cc nL own) {x : Int32} (d : decode cc pc = .ok (.i2f, 1))  (k : xW p l e R s m args below meth c Q b nL P cells slots (pc + 1) lv (.float (FP.i2f x) :: st)) : xW p l e R s m args below meth c Q b nL P cells slots (pc) lv (.int x :: st) :=
  fun H locs ls h1 h2 h3 => lv_i2f C.1 C.2.1 d  (k H locs ls h1 h2 h3)
theorem x_l2d (C : xC p m c s args meth G b cc nL own) {x : Int64} (d : decode cc pc = .ok (.l2d, 1))  (k : xW p l e R s m args below meth c Q b nL P cells slots (pc + 1) lv (.double (FP.l2d x) :: st)) : xW p l e R s m args below meth c Q b nL P cells slots (pc) lv (.long x :: st) :=
  fun H locs ls h1 h2 h3 => lv_l2d C.1 C.2.1 d  (k H locs ls h1 h2 h3)
theorem x_d2l (C : xC p m c s args meth G b cc nL own) {x : UInt64} (d : decode cc pc = .ok (.d2l, 1))  (k : xW p l e R s m args below meth c Q b nL P cells slots (pc + 1) lv (.long (FP.d2l x) :: st)) : xW p l e R s m args below meth c Q b nL P cells slots (pc) lv (.double x :: st) :=
  fun H locs ls h1 h2 h3 => lv_d2l C.1 C.2.1 d  (k H locs ls h1 h2 h3)
theorem x_dcmp (C : xC p m c s args meth G b cc nL own) {x y : UInt64} {op : CmpOp} (d : decode cc pc = .ok (.dcmp op, 1))  (k : xW p l e R s m args below meth c Q b nL P cells slots (pc + 1) lv (.int (Op.cmpValue (FP.dcmp x y) op) :: st)) : xW p l e R s m args below meth c Q b nL P cells slots (pc) lv (.double y :: .double x :: st) :=
  fun H locs ls h1 h2 h3 => lv_dcmp C.1 C.2.1 d  (k H locs ls h1 h2 h3)
theorem x_fcmp (C : xC p m c s args meth G b cc nL own) {x y : UInt32} {op : CmpOp} (d : decode cc pc = .ok (.fcmp op, 1))  (k : xW p l e R s m args below meth c Q b nL P cells slots (pc + 1) lv (.int (Op.cmpValue (FP.fcmp x y) op) :: st)) : xW p l e R s m args below meth c Q b nL P cells slots (pc) lv (.float y :: .float x :: st) :=
  fun H locs ls h1 h2 h3 => lv_fcmp C.1 C.2.1 d  (k H locs ls h1 h2 h3)
theorem x_lcmp (C : xC p m c s args meth G b cc nL own) {x y : Int64} (d : decode cc pc = .ok (.lcmp, 1))  (k : xW p l e R s m args below meth c Q b nL P cells slots (pc + 1) lv (.int (lg_cmp x y) :: st)) : xW p l e R s m args below meth c Q b nL P cells slots (pc) lv (.long y :: .long x :: st) :=
  fun H locs ls h1 h2 h3 => W.lcmp C.1 C.2.1 d  (k H locs ls h1 h2 h3)
theorem x_dup (C : xC p m c s args meth G b cc nL own) {va : Value} (d : decode cc pc = .ok (.dup, 1)) (hv : va.category = 1) (k : xW p l e R s m args below meth c Q b nL P cells slots (pc + 1) lv (va :: va :: st)) : xW p l e R s m args below meth c Q b nL P cells slots (pc) lv (va :: st) :=
  fun H locs ls h1 h2 h3 => lv_dup C.1 C.2.1 d hv (k H locs ls h1 h2 h3)
theorem x_pop (C : xC p m c s args meth G b cc nL own) {va : Value} (d : decode cc pc = .ok (.pop, 1)) (hv : va.category = 1) (k : xW p l e R s m args below meth c Q b nL P cells slots (pc + 1) lv (st)) : xW p l e R s m args below meth c Q b nL P cells slots (pc) lv (va :: st) :=
  fun H locs ls h1 h2 h3 => lv_pop C.1 C.2.1 d hv (k H locs ls h1 h2 h3)
theorem x_dup2 (C : xC p m c s args meth G b cc nL own) {va vb : Value} (d : decode cc pc = .ok (.dup2, 1)) (hva : va.category = 1) (hvb : vb.category = 1) (k : xW p l e R s m args below meth c Q b nL P cells slots (pc + 1) lv (va :: vb :: va :: vb :: st)) : xW p l e R s m args below meth c Q b nL P cells slots (pc) lv (va :: vb :: st) :=
  fun H locs ls h1 h2 h3 => lv_dup2_11 C.1 C.2.1 d hva hvb (k H locs ls h1 h2 h3)
/-- pure readings: a step that may be undefined -/
def dv {β : Type} (x y : Int32) (f : Int32 → Option β) : Option β := if y = 0 then none else f (x / y)
def rm {β : Type} (x y : Int32) (f : Int32 → Option β) : Option β := if y = 0 then none else f (x - x / y * y)
def nd {β : Type} (r : UInt64) (f : UInt64 → Option β) : Option β := if r &&& 0x7fffffffffffffff ≤ 0x7ff0000000000000 then f r else none
def nf {β : Type} (r : UInt32) (f : UInt32 → Option β) : Option β := if r &&& 0x7fffffff ≤ 0x7f800000 then f r else none
theorem x_idiv (C : xC p m c s args meth G b cc nL own) {β : Type} {x y : Int32} {f : _ → Option β} {r : β} (d : decode cc pc = .ok (.idiv, 1)) (hF : dv x y f = some r) (k : f (x / y) = some r → xW p l e R s m args below meth c Q b nL P cells slots (pc + 1) lv (.int (x / y) :: st)) : xW p l e R s m args below meth c Q b nL P cells slots (pc) lv (.int y :: .int x :: st) := by
  unfold dv at hF
  split at hF
  · exact absurd hF (by simp)
  · exact fun H locs ls h1 h2 h3 => lv_idiv C.1 C.2.1 d (by assumption) (k hF H locs ls h1 h2 h3)
theorem x_irem (C : xC p m c s args meth G b cc nL own) {β : Type} {x y : Int32} {f : _ → Option β} {r : β} (d : decode cc pc = .ok (.irem, 1)) (hF : rm x y f = some r) (k : f (x - x / y * y) = some r → xW p l e R s m args below meth c Q b nL P cells slots (pc + 1) lv (.int (x - x / y * y) :: st)) : xW p l e R s m args below meth c Q b nL P cells slots (pc) lv (.int y :: .int x :: st) := by
  unfold rm at hF
  split at hF
  · exact absurd hF (by simp)
  · exact fun H locs ls h1 h2 h3 => lv_irem C.1 C.2.1 d (by assumption) (k hF H locs ls h1 h2 h3)
theorem x_dadd (C : xC p m c s args meth G b cc nL own) {β : Type} {x y : UInt64} {f : _ → Option β} {r : β} (d : decode cc pc = .ok (.dadd, 1)) (hF : nd (FP.dadd x y) f = some r) (k : f (FP.dadd x y) = some r → xW p l e R s m args below meth c Q b nL P cells slots (pc + 1) lv (.double (FP.dadd x y) :: st)) : xW p l e R s m args below meth c Q b nL P cells slots (pc) lv (.double y :: .double x :: st) := by
  unfold nd at hF
  split at hF
  · exact fun H locs ls h1 h2 h3 => lv_dadd C.1 C.2.1 d (by assumption) (k hF H locs ls h1 h2 h3)
  · exact absurd hF (by simp)
theorem x_dsub (C : xC p m c s args meth G b cc nL own) {β : Type} {x y : UInt64} {f : _ → Option β} {r : β} (d : decode cc pc = .ok (.dsub, 1)) (hF : nd (FP.dsub x y) f = some r) (k : f (FP.dsub x y) = some r → xW p l e R s m args below meth c Q b nL P cells slots (pc + 1) lv (.double (FP.dsub x y) :: st)) : xW p l e R s m args below meth c Q b nL P cells slots (pc) lv (.double y :: .double x :: st) := by
  unfold nd at hF
  split at hF
  · exact fun H locs ls h1 h2 h3 => lv_dsub C.1 C.2.1 d (by assumption) (k hF H locs ls h1 h2 h3)
  · exact absurd hF (by simp)
theorem x_dmul (C : xC p m c s args meth G b cc nL own) {β : Type} {x y : UInt64} {f : _ → Option β} {r : β} (d : decode cc pc = .ok (.dmul, 1)) (hF : nd (FP.dmul x y) f = some r) (k : f (FP.dmul x y) = some r → xW p l e R s m args below meth c Q b nL P cells slots (pc + 1) lv (.double (FP.dmul x y) :: st)) : xW p l e R s m args below meth c Q b nL P cells slots (pc) lv (.double y :: .double x :: st) := by
  unfold nd at hF
  split at hF
  · exact fun H locs ls h1 h2 h3 => lv_dmul C.1 C.2.1 d (by assumption) (k hF H locs ls h1 h2 h3)
  · exact absurd hF (by simp)
theorem x_ddiv (C : xC p m c s args meth G b cc nL own) {β : Type} {x y : UInt64} {f : _ → Option β} {r : β} (d : decode cc pc = .ok (.ddiv, 1)) (hF : nd (FP.ddiv x y) f = some r) (k : f (FP.ddiv x y) = some r → xW p l e R s m args below meth c Q b nL P cells slots (pc + 1) lv (.double (FP.ddiv x y) :: st)) : xW p l e R s m args below meth c Q b nL P cells slots (pc) lv (.double y :: .double x :: st) := by
  unfold nd at hF
  split at hF
  · exact fun H locs ls h1 h2 h3 => lv_ddiv C.1 C.2.1 d (by assumption) (k hF H locs ls h1 h2 h3)
  · exact absurd hF (by simp)
theorem x_fdiv (C : xC p m c s args meth G b cc nL own) {β : Type} {x y : UInt32} {f : _ → Option β} {r : β} (d : decode cc pc = .ok (.fdiv, 1)) (hF : nf (FP.fdiv x y) f = some r) (k : f (FP.fdiv x y) = some r → xW p l e R s m args below meth c Q b nL P cells slots (pc + 1) lv (.float (FP.fdiv x y) :: st)) : xW p l e R s m args below meth c Q b nL P cells slots (pc) lv (.float y :: .float x :: st) := by
  unfold nf at hF
  split at hF
  · exact fun H locs ls h1 h2 h3 => lv_fdiv C.1 C.2.1 d (by assumption) (k hF H locs ls h1 h2 h3)
  · exact absurd hF (by simp)
theorem x_f2d (C : xC p m c s args meth G b cc nL own) {β : Type} {x : UInt32} {f : _ → Option β} {r : β} (d : decode cc pc = .ok (.f2d, 1)) (hF : nd (FP.f2d x) f = some r) (k : f (FP.f2d x) = some r → xW p l e R s m args below meth c Q b nL P cells slots (pc + 1) lv (.double (FP.f2d x) :: st)) : xW p l e R s m args below meth c Q b nL P cells slots (pc) lv (.float x :: st) := by
  unfold nd at hF
  split at hF
  · exact fun H locs ls h1 h2 h3 => lv_f2d C.1 C.2.1 d (by assumption) (k hF H locs ls h1 h2 h3)
  · exact absurd hF (by simp)
theorem x_iload_n (C : xC p m c s args meth G b cc nL own) {k : Fin 4} {i : Nat} {x : Int32} (j : Nat) (d : decode cc pc = .ok (.iload_n k, 1)) (hi : (k : Nat) = i) (hj : lv[j]? = some (i, .int x)) (k : xW p l e R s m args below meth c Q b nL P cells slots (pc + 1) lv (.int x :: st)) : xW p l e R s m args below meth c Q b nL P cells slots (pc) lv (st) :=
  fun H locs ls h1 h2 h3 => lv_iload_n C.1 C.2.1 d hi (lv_at h3 j hj) (k H locs ls h1 h2 h3)
theorem x_iload (C : xC p m c s args meth G b cc nL own) {i : Nat} {x : Int32} (j : Nat) (d : decode cc pc = .ok (.iload i, 2)) (hj : lv[j]? = some (i, .int x)) (k : xW p l e R s m args below meth c Q b nL P cells slots (pc + 2) lv (.int x :: st)) : xW p l e R s m args below meth c Q b nL P cells slots (pc) lv (st) :=
  fun H locs ls h1 h2 h3 => lv_iload C.1 C.2.1 d (lv_at h3 j hj) (k H locs ls h1 h2 h3)
theorem x_istore_n (C : xC p m c s args meth G b cc nL own) {k : Fin 4} {i : Nat} {x : Int32} (lv' : List (Nat × Value)) (d : decode cc pc = .ok (.istore_n k, 1)) (hi : (k : Nat) = i) (hn : i < nL) (hl : (i, Value.int x) :: lv.filter (fun q => !(q.1 == i) && !(q.1 + 1 == i && q.2.category == 2)) = lv') (k : xW p l e R s m args below meth c Q b nL P cells slots (pc + 1) lv' (st)) : xW p l e R s m args below meth c Q b nL P cells slots (pc) lv (.int x :: st) :=
  fun H locs ls h1 h2 h3 => lv_istore_n C.1 C.2.1 d hi h3 hn hl (fun ls' h' => k H locs ls' h1 h2 h')
theorem x_istore (C : xC p m c s args meth G b cc nL own) {i : Nat} {x : Int32} (lv' : List (Nat × Value)) (d : decode cc pc = .ok (.istore i, 2)) (hn : i < nL) (hl : (i, Value.int x) :: lv.filter (fun q => !(q.1 == i) && !(q.1 + 1 == i && q.2.category == 2)) = lv') (k : xW p l e R s m args below meth c Q b nL P cells slots (pc + 2) lv' (st)) : xW p l e R s m args below meth c Q b nL P cells slots (pc) lv (.int x :: st) :=
  fun H locs ls h1 h2 h3 => lv_istore C.1 C.2.1 d h3 hn hl (fun ls' h' => k H locs ls' h1 h2 h')
theorem x_lload_n (C : xC p m c s args meth G b cc nL own) {k : Fin 4} {i : Nat} {x : Int64} (j : Nat) (d : decode cc pc = .ok (.lload_n k, 1)) (hi : (k : Nat) = i) (hj : lv[j]? = some (i, .long x)) (k : xW p l e R s m args below meth c Q b nL P cells slots (pc + 1) lv (.long x :: st)) : xW p l e R s m args below meth c Q b nL P cells slots (pc) lv (st) :=
  fun H locs ls h1 h2 h3 => lv_lload_n C.1 C.2.1 d hi (lv_at h3 j hj) (k H locs ls h1 h2 h3)
theorem x_lload (C : xC p m c s args meth G b cc nL own) {i : Nat} {x : Int64} (j : Nat) (d : decode cc pc = .ok (.lload i, 2)) (hj : lv[j]? = some (i, .long x)) (k : xW p l e R s m args below meth c Q b nL P cells slots (pc + 2) lv (.long x :: st)) : xW p l e R s m args below meth c Q b nL P cells slots (pc) lv (st) :=
  fun H locs ls h1 h2 h3 => lv_lload C.1 C.2.1 d (lv_at h3 j hj) (k H locs ls h1 h2 h3)
theorem x_lstore_n (C : xC p m c s args meth G b cc nL own) {k : Fin 4} {i : Nat} {x : Int64} (lv' : List (Nat × Value)) (d : decode cc pc = .ok (.lstore_n k, 1)) (hi : (k : Nat) = i) (hn : i + 1 < nL) (hl : (i, Value.long x) :: lv.filter (fun q => !(q.1 == i) && (!(q.1 == i + 1) && !(q.1 + 1 == i && q.2.category == 2))) = lv') (k : xW p l e R s m args below meth c Q b nL P cells slots (pc + 1) lv' (st)) : xW p l e R s m args below meth c Q b nL P cells slots (pc) lv (.long x :: st) :=
  fun H locs ls h1 h2 h3 => lv_lstore_n C.1 C.2.1 d hi h3 hn hl (fun ls' h' => k H locs ls' h1 h2 h')
theorem x_lstore (C : xC p m c s args meth G b cc nL own) {i : Nat} {x : Int64} (lv' : List (Nat × Value)) (d : decode cc pc = .ok (.lstore i, 2)) (hn : i + 1 < nL) (hl : (i, Value.long x) :: lv.filter (fun q => !(q.1 == i) && (!(q.1 == i + 1) && !(q.1 + 1 == i && q.2.category == 2))) = lv') (k : xW p l e R s m args below meth c Q b nL P cells slots (pc + 2) lv' (st)) : xW p l e R s m args below meth c Q b nL P cells slots (pc) lv (.long x :: st) :=
  fun H locs ls h1 h2 h3 => lv_lstore C.1 C.2.1 d h3 hn hl (fun ls' h' => k H locs ls' h1 h2 h')
theorem x_fload_n (C : xC p m c s args meth G b cc nL own) {k : Fin 4} {i : Nat} {x : UInt32} (j : Nat) (d : decode cc pc = .ok (.fload_n k, 1)) (hi : (k : Nat) = i) (hj : lv[j]? = some (i, .float x)) (k : xW p l e R s m args below meth c Q b nL P cells slots (pc + 1) lv (.float x :: st)) : xW p l e R s m args below meth c Q b nL P cells slots (pc) lv (st) :=
  fun H locs ls h1 h2 h3 => lv_fload_n C.1 C.2.1 d hi (lv_at h3 j hj) (k H locs ls h1 h2 h3)
theorem x_fload (C : xC p m c s args meth G b cc nL own) {i : Nat} {x : UInt32} (j : Nat) (d : decode cc pc = .ok (.fload i, 2)) (hj : lv[j]? = some (i, .float x)) (k : xW p l e R s m args below meth c Q b nL P cells slots (pc + 2) lv (.float x :: st)) : xW p l e R s m args below meth c Q b nL P cells slots (pc) lv (st) :=
  fun H locs ls h1 h2 h3 => lv_fload C.1 C.2.1 d (lv_at h3 j hj) (k H locs ls h1 h2 h3)
theorem x_fstore_n (C : xC p m c s args meth G b cc nL own) {k : Fin 4} {i : Nat} {x : UInt32} (lv' : List (Nat × Value)) (d : decode cc pc = .ok (.fstore_n k, 1)) (hi : (k : Nat) = i) (hn : i < nL) (hl : (i, Value.float x) :: lv.filter (fun q => !(q.1 == i) && !(q.1 + 1 == i && q.2.category == 2)) = lv') (k : xW p l e R s m args below meth c Q b nL P cells slots (pc + 1) lv' (st)) : xW p l e R s m args below meth c Q b nL P cells slots (pc) lv (.float x :: st) :=
  fun H locs ls h1 h2 h3 => lv_fstore_n C.1 C.2.1 d hi h3 hn hl (fun ls' h' => k H locs ls' h1 h2 h')
theorem x_fstore (C : xC p m c s args meth G b cc nL own) {i : Nat} {x : UInt32} (lv' : List (Nat × Value)) (d : decode cc pc = .ok (.fstore i, 2)) (hn : i < nL) (hl : (i, Value.float x) :: lv.filter (fun q => !(q.1 == i) && !(q.1 + 1 == i && q.2.category == 2)) = lv') (k : xW p l e R s m args below meth c Q b nL P cells slots (pc + 2) lv' (st)) : xW p l e R s m args below meth c Q b nL P cells slots (pc) lv (.float x :: st) :=
  fun H locs ls h1 h2 h3 => lv_fstore C.1 C.2.1 d h3 hn hl (fun ls' h' => k H locs ls' h1 h2 h')
theorem x_dload_n (C : xC p m c s args meth G b cc nL own) {k : Fin 4} {i : Nat} {x : UInt64} (j : Nat) (d : decode cc pc = .ok (.dload_n k, 1)) (hi : (k : Nat) = i) (hj : lv[j]? = some (i, .double x)) (k : xW p l e R s m args below meth c Q b nL P cells slots (pc + 1) lv (.double x :: st)) : xW p l e R s m args below meth c Q b nL P cells slots (pc) lv (st) :=
  fun H locs ls h1 h2 h3 => lv_dload_n C.1 C.2.1 d hi (lv_at h3 j hj) (k H locs ls h1 h2 h3)
theorem x_dload (C : xC p m c s args meth G b cc nL own) {i : Nat} {x : UInt64} (j : Nat) (d : decode cc pc = .ok (.dload i, 2)) (hj : lv[j]? = some (i, .double x)) (k : xW p l e R s m args below meth c Q b nL P cells slots (pc + 2) lv (.double x :: st)) : xW p l e R s m args below meth c Q b nL P cells slots (pc) lv (st) :=
  fun H locs ls h1 h2 h3 => lv_dload C.1 C.2.1 d (lv_at h3 j hj) (k H locs ls h1 h2 h3)
theorem x_dstore_n (C : xC p m c s args meth G b cc nL own) {k : Fin 4} {i : Nat} {x : UInt64} (lv' : List (Nat × Value)) (d : decode cc pc = .ok (.dstore_n k, 1)) (hi : (k : Nat) = i) (hn : i + 1 < nL) (hl : (i, Value.double x) :: lv.filter (fun q => !(q.1 == i) && (!(q.1 == i + 1) && !(q.1 + 1 == i && q.2.category == 2))) = lv') (k : xW p l e R s m args below meth c Q b nL P cells slots (pc + 1) lv' (st)) : xW p l e R s m args below meth c Q b nL P cells slots (pc) lv (.double x :: st) :=
  fun H locs ls h1 h2 h3 => lv_dstore_n C.1 C.2.1 d hi h3 hn hl (fun ls' h' => k H locs ls' h1 h2 h')
theorem x_dstore (C : xC p m c s args meth G b cc nL own) {i : Nat} {x : UInt64} (lv' : List (Nat × Value)) (d : decode cc pc = .ok (.dstore i, 2)) (hn : i + 1 < nL) (hl : (i, Value.double x) :: lv.filter (fun q => !(q.1 == i) && (!(q.1 == i + 1) && !(q.1 + 1 == i && q.2.category == 2))) = lv') (k : xW p l e R s m args below meth c Q b nL P cells slots (pc + 2) lv' (st)) : xW p l e R s m args below meth c Q b nL P cells slots (pc) lv (.double x :: st) :=
  fun H locs ls h1 h2 h3 => lv_dstore C.1 C.2.1 d h3 hn hl (fun ls' h' => k H locs ls' h1 h2 h')
theorem x_aload_n (C : xC p m c s args meth G b cc nL own) {k : Fin 4} {i : Nat} {x : Nat} (j : Nat) (d : decode cc pc = .ok (.aload_n k, 1)) (hi : (k : Nat) = i) (hj : lv[j]? = some (i, .ref x)) (k : xW p l e R s m args below meth c Q b nL P cells slots (pc + 1) lv (.ref x :: st)) : xW p l e R s m args below meth c Q b nL P cells slots (pc) lv (st) :=
  fun H locs ls h1 h2 h3 => lv_aload_n C.1 C.2.1 d hi (lv_at h3 j hj) (k H locs ls h1 h2 h3)
theorem x_aload (C : xC p m c s args meth G b cc nL own) {i : Nat} {x : Nat} (j : Nat) (d : decode cc pc = .ok (.aload i, 2)) (hj : lv[j]? = some (i, .ref x)) (k : xW p l e R s m args below meth c Q b nL P cells slots (pc + 2) lv (.ref x :: st)) : xW p l e R s m args below meth c Q b nL P cells slots (pc) lv (st) :=
  fun H locs ls h1 h2 h3 => lv_aload C.1 C.2.1 d (lv_at h3 j hj) (k H locs ls h1 h2 h3)
theorem x_astore_n (C : xC p m c s args meth G b cc nL own) {k : Fin 4} {i : Nat} {x : Nat} (lv' : List (Nat × Value)) (d : decode cc pc = .ok (.astore_n k, 1)) (hi : (k : Nat) = i) (hn : i < nL) (hl : (i, Value.ref x) :: lv.filter (fun q => !(q.1 == i) && !(q.1 + 1 == i && q.2.category == 2)) = lv') (k : xW p l e R s m args below meth c Q b nL P cells slots (pc + 1) lv' (st)) : xW p l e R s m args below meth c Q b nL P cells slots (pc) lv (.ref x :: st) :=
  fun H locs ls h1 h2 h3 => lv_astore_n C.1 C.2.1 d hi h3 hn hl (fun ls' h' => k H locs ls' h1 h2 h')
theorem x_astore (C : xC p m c s args meth G b cc nL own) {i : Nat} {x : Nat} (lv' : List (Nat × Value)) (d : decode cc pc = .ok (.astore i, 2)) (hn : i < nL) (hl : (i, Value.ref x) :: lv.filter (fun q => !(q.1 == i) && !(q.1 + 1 == i && q.2.category == 2)) = lv') (k : xW p l e R s m args below meth c Q b nL P cells slots (pc + 2) lv' (st)) : xW p l e R s m args below meth c Q b nL P cells slots (pc) lv (.ref x :: st) :=
  fun H locs ls h1 h2 h3 => lv_astore C.1 C.2.1 d h3 hn hl (fun ls' h' => k H locs ls' h1 h2 h')
theorem x_aload_nN (C : xC p m c s args meth G b cc nL own) {k : Fin 4} {i : Nat} (j : Nat) (d : decode cc pc = .ok (.aload_n k, 1)) (hi : (k : Nat) = i) (hj : lv[j]? = some (i, .null)) (k : xW p l e R s m args below meth c Q b nL P cells slots (pc + 1) lv (.null :: st)) : xW p l e R s m args below meth c Q b nL P cells slots (pc) lv (st) :=
  fun H locs ls h1 h2 h3 => lv_aload_nN C.1 C.2.1 d hi (lv_at h3 j hj) (k H locs ls h1 h2 h3)
theorem x_astore_nN (C : xC p m c s args meth G b cc nL own) {k : Fin 4} {i : Nat} (lv' : List (Nat × Value)) (d : decode cc pc = .ok (.astore_n k, 1)) (hi : (k : Nat) = i) (hn : i < nL) (hl : (i, Value.null) :: lv.filter (fun q => !(q.1 == i) && !(q.1 + 1 == i && q.2.category == 2)) = lv') (k : xW p l e R s m args below meth c Q b nL P cells slots (pc + 1) lv' (st)) : xW p l e R s m args below meth c Q b nL P cells slots (pc) lv (.null :: st) :=
  fun H locs ls h1 h2 h3 => lv_astore_nN C.1 C.2.1 d hi h3 hn hl (fun ls' h' => k H locs ls' h1 h2 h')
theorem x_iinc (C : xC p m c s args meth G b cc nL own) {i : Nat} {n : Int} {x v : Int32} (j : Nat) (lv' : List (Nat × Value)) (d : decode cc pc = .ok (.iinc i n, 3)) (hj : lv[j]? = some (i, .int x)) (hv : x + Int32.ofInt n = v) (hn : i < nL) (hl : (i, Value.int v) :: lv.filter (fun q => !(q.1 == i) && !(q.1 + 1 == i && q.2.category == 2)) = lv') (k : xW p l e R s m args below meth c Q b nL P cells slots (pc + 3) lv' (st)) : xW p l e R s m args below meth c Q b nL P cells slots (pc) lv (st) :=
  fun H locs ls h1 h2 h3 => lv_iinc C.1 C.2.1 d h3 hj hv hn hl (fun ls' h' => k H locs ls' h1 h2 h')
theorem x_goto (C : xC p m c s args meth G b cc nL own) {off : Int} (tgt : Nat) (d : decode cc pc = .ok (.goto off, 3)) (ht : (pc : Int) + off = (tgt : Int)) (k : xW p l e R s m args below meth c Q b nL P cells slots (tgt) lv (st)) : xW p l e R s m args below meth c Q b nL P cells slots (pc) lv (st) :=
  fun H locs ls h1 h2 h3 => lv_goto C.1 C.2.1 d ht (k H locs ls h1 h2 h3)
theorem x_icmp_eq (C : xC p m c s args meth G b cc nL own) {x y : Int32} {β : Type} {A1 A2 : Option β} {r : β} {off : Int} (tgt : Nat) (d : decode cc pc = .ok (.if_icmp .eq off, 3)) (ht : (pc : Int) + off = (tgt : Int)) (hF : (if x = y then A1 else A2) = some r)
    (kt : x = y → A1 = some r → xW p l e R s m args below meth c Q b nL P cells slots (tgt) lv (st)) (kf : ¬ x = y → A2 = some r → xW p l e R s m args below meth c Q b nL P cells slots (pc + 3) lv (st)) : xW p l e R s m args below meth c Q b nL P cells slots (pc) lv (.int y :: .int x :: st) :=
  fun H locs ls h1 h2 h3 => lv_icmp_eq C.1 C.2.1 d ht (fun q => kt q (by rw [if_pos q] at hF; exact hF) H locs ls h1 h2 h3) (fun q => kf q (by rw [if_neg q] at hF; exact hF) H locs ls h1 h2 h3)
theorem x_if_eq (C : xC p m c s args meth G b cc nL own) {x : Int32} {β : Type} {A1 A2 : Option β} {r : β} {off : Int} (tgt : Nat) (d : decode cc pc = .ok (.ifCond .eq off, 3)) (ht : (pc : Int) + off = (tgt : Int)) (hF : (if x = 0 then A1 else A2) = some r)
    (kt : x = 0 → A1 = some r → xW p l e R s m args below meth c Q b nL P cells slots (tgt) lv (st)) (kf : ¬ x = 0 → A2 = some r → xW p l e R s m args below meth c Q b nL P cells slots (pc + 3) lv (st)) : xW p l e R s m args below meth c Q b nL P cells slots (pc) lv (.int x :: st) :=
  fun H locs ls h1 h2 h3 => lv_if_eq C.1 C.2.1 d ht (fun q => kt q (by rw [if_pos q] at hF; exact hF) H locs ls h1 h2 h3) (fun q => kf q (by rw [if_neg q] at hF; exact hF) H locs ls h1 h2 h3)
theorem x_icmp_ne (C : xC p m c s args meth G b cc nL own) {x y : Int32} {β : Type} {A1 A2 : Option β} {r : β} {off : Int} (tgt : Nat) (d : decode cc pc = .ok (.if_icmp .ne off, 3)) (ht : (pc : Int) + off = (tgt : Int)) (hF : (if x = y then A1 else A2) = some r)
    (kt : ¬ x = y → A2 = some r → xW p l e R s m args below meth c Q b nL P cells slots (tgt) lv (st)) (kf : x = y → A1 = some r → xW p l e R s m args below meth c Q b nL P cells slots (pc + 3) lv (st)) : xW p l e R s m args below meth c Q b nL P cells slots (pc) lv (.int y :: .int x :: st) :=
  fun H locs ls h1 h2 h3 => lv_icmp_ne C.1 C.2.1 d ht (fun q => kt q (by rw [if_neg q] at hF; exact hF) H locs ls h1 h2 h3) (fun q => kf q (by rw [if_pos q] at hF; exact hF) H locs ls h1 h2 h3)
theorem x_if_ne (C : xC p m c s args meth G b cc nL own) {x : Int32} {β : Type} {A1 A2 : Option β} {r : β} {off : Int} (tgt : Nat) (d : decode cc pc = .ok (.ifCond .ne off, 3)) (ht : (pc : Int) + off = (tgt : Int)) (hF : (if x = 0 then A1 else A2) = some r)
    (kt : ¬ x = 0 → A2 = some r → xW p l e R s m args below meth c Q b nL P cells slots (tgt) lv (st)) (kf : x = 0 → A1 = some r → xW p l e R s m args below meth c Q b nL P cells slots (pc + 3) lv (st)) : xW p l e R s m args below meth c Q b nL P cells slots (pc) lv (.int x :: st) :=
  fun H locs ls h1 h2 h3 => lv_if_ne C.1 C.2.1 d ht (fun q => kt q (by rw [if_neg q] at hF; exact hF) H locs ls h1 h2 h3) (fun q => kf q (by rw [if_pos q] at hF; exact hF) H locs ls h1 h2 h3)
theorem x_icmp_lt (C : xC p m c s args meth G b cc nL own) {x y : Int32} {β : Type} {A1 A2 : Option β} {r : β} {off : Int} (tgt : Nat) (d : decode cc pc = .ok (.if_icmp .lt off, 3)) (ht : (pc : Int) + off = (tgt : Int)) (hF : (if x < y then A1 else A2) = some r)
    (kt : x < y → A1 = some r → xW p l e R s m args below meth c Q b nL P cells slots (tgt) lv (st)) (kf : ¬ x < y → A2 = some r → xW p l e R s m args below meth c Q b nL P cells slots (pc + 3) lv (st)) : xW p l e R s m args below meth c Q b nL P cells slots (pc) lv (.int y :: .int x :: st) :=
  fun H locs ls h1 h2 h3 => lv_icmp_lt C.1 C.2.1 d ht (fun q => kt q (by rw [if_pos q] at hF; exact hF) H locs ls h1 h2 h3) (fun q => kf q (by rw [if_neg q] at hF; exact hF) H locs ls h1 h2 h3)
theorem x_if_lt (C : xC p m c s args meth G b cc nL own) {x : Int32} {β : Type} {A1 A2 : Option β} {r : β} {off : Int} (tgt : Nat) (d : decode cc pc = .ok (.ifCond .lt off, 3)) (ht : (pc : Int) + off = (tgt : Int)) (hF : (if x < 0 then A1 else A2) = some r)
    (kt : x < 0 → A1 = some r → xW p l e R s m args below meth c Q b nL P cells slots (tgt) lv (st)) (kf : ¬ x < 0 → A2 = some r → xW p l e R s m args below meth c Q b nL P cells slots (pc + 3) lv (st)) : xW p l e R s m args below meth c Q b nL P cells slots (pc) lv (.int x :: st) :=
  fun H locs ls h1 h2 h3 => lv_if_lt C.1 C.2.1 d ht (fun q => kt q (by rw [if_pos q] at hF; exact hF) H locs ls h1 h2 h3) (fun q => kf q (by rw [if_neg q] at hF; exact hF) H locs ls h1 h2 h3)
theorem x_icmp_ge (C : xC p m c s args meth G b cc nL own) {x y : Int32} {β : Type} {A1 A2 : Option β} {r : β} {off : Int} (tgt : Nat) (d : decode cc pc = .ok (.if_icmp .ge off, 3)) (ht : (pc : Int) + off = (tgt : Int)) (hF : (if y ≤ x then A1 else A2) = some r)
    (kt : y ≤ x → A1 = some r → xW p l e R s m args below meth c Q b nL P cells slots (tgt) lv (st)) (kf : ¬ y ≤ x → A2 = some r → xW p l e R s m args below meth c Q b nL P cells slots (pc + 3) lv (st)) : xW p l e R s m args below meth c Q b nL P cells slots (pc) lv (.int y :: .int x :: st) :=
  fun H locs ls h1 h2 h3 => lv_icmp_ge C.1 C.2.1 d ht (fun q => kt q (by rw [if_pos q] at hF; exact hF) H locs ls h1 h2 h3) (fun q => kf q (by rw [if_neg q] at hF; exact hF) H locs ls h1 h2 h3)
theorem x_if_ge (C : xC p m c s args meth G b cc nL own) {x : Int32} {β : Type} {A1 A2 : Option β} {r : β} {off : Int} (tgt : Nat) (d : decode cc pc = .ok (.ifCond .ge off, 3)) (ht : (pc : Int) + off = (tgt : Int)) (hF : (if 0 ≤ x then A1 else A2) = some r)
    (kt : 0 ≤ x → A1 = some r → xW p l e R s m args below meth c Q b nL P cells slots (tgt) lv (st)) (kf : ¬ 0 ≤ x → A2 = some r → xW p l e R s m args below meth c Q b nL P cells slots (pc + 3) lv (st)) : xW p l e R s m args below meth c Q b nL P cells slots (pc) lv (.int x :: st) :=
  fun H locs ls h1 h2 h3 => lv_if_ge C.1 C.2.1 d ht (fun q => kt q (by rw [if_pos q] at hF; exact hF) H locs ls h1 h2 h3) (fun q => kf q (by rw [if_neg q] at hF; exact hF) H locs ls h1 h2 h3)
theorem x_icmp_gt (C : xC p m c s args meth G b cc nL own) {x y : Int32} {β : Type} {A1 A2 : Option β} {r : β} {off : Int} (tgt : Nat) (d : decode cc pc = .ok (.if_icmp .gt off, 3)) (ht : (pc : Int) + off = (tgt : Int)) (hF : (if y < x then A1 else A2) = some r)
    (kt : y < x → A1 = some r → xW p l e R s m args below meth c Q b nL P cells slots (tgt) lv (st)) (kf : ¬ y < x → A2 = some r → xW p l e R s m args below meth c Q b nL P cells slots (pc + 3) lv (st)) : xW p l e R s m args below meth c Q b nL P cells slots (pc) lv (.int y :: .int x :: st) :=
  fun H locs ls h1 h2 h3 => lv_icmp_gt C.1 C.2.1 d ht (fun q => kt q (by rw [if_pos q] at hF; exact hF) H locs ls h1 h2 h3) (fun q => kf q (by rw [if_neg q] at hF; exact hF) H locs ls h1 h2 h3)
theorem x_if_gt (C : xC p m c s args meth G b cc nL own) {x : Int32} {β : Type} {A1 A2 : Option β} {r : β} {off : Int} (tgt : Nat) (d : decode cc pc = .ok (.ifCond .gt off, 3)) (ht : (pc : Int) + off = (tgt : Int)) (hF : (if 0 < x then A1 else A2) = some r)
    (kt : 0 < x → A1 = some r → xW p l e R s m args below meth c Q b nL P cells slots (tgt) lv (st)) (kf : ¬ 0 < x → A2 = some r → xW p l e R s m args below meth c Q b nL P cells slots (pc + 3) lv (st)) : xW p l e R s m args below meth c Q b nL P cells slots (pc) lv (.int x :: st) :=
  fun H locs ls h1 h2 h3 => lv_if_gt C.1 C.2.1 d ht (fun q => kt q (by rw [if_pos q] at hF; exact hF) H locs ls h1 h2 h3) (fun q => kf q (by rw [if_neg q] at hF; exact hF) H locs ls h1 h2 h3)
theorem x_icmp_le (C : xC p m c s args meth G b cc nL own) {x y : Int32} {β : Type} {A1 A2 : Option β} {r : β} {off : Int} (tgt : Nat) (d : decode cc pc = .ok (.if_icmp .le off, 3)) (ht : (pc : Int) + off = (tgt : Int)) (hF : (if x ≤ y then A1 else A2) = some r)
    (kt : x ≤ y → A1 = some r → xW p l e R s m args below meth c Q b nL P cells slots (tgt) lv (st)) (kf : ¬ x ≤ y → A2 = some r → xW p l e R s m args below meth c Q b nL P cells slots (pc + 3) lv (st)) : xW p l e R s m args below meth c Q b nL P cells slots (pc) lv (.int y :: .int x :: st) :=
  fun H locs ls h1 h2 h3 => lv_icmp_le C.1 C.2.1 d ht (fun q => kt q (by rw [if_pos q] at hF; exact hF) H locs ls h1 h2 h3) (fun q => kf q (by rw [if_neg q] at hF; exact hF) H locs ls h1 h2 h3)
theorem x_if_le (C : xC p m c s args meth G b cc nL own) {x : Int32} {β : Type} {A1 A2 : Option β} {r : β} {off : Int} (tgt : Nat) (d : decode cc pc = .ok (.ifCond .le off, 3)) (ht : (pc : Int) + off = (tgt : Int)) (hF : (if x ≤ 0 then A1 else A2) = some r)
    (kt : x ≤ 0 → A1 = some r → xW p l e R s m args below meth c Q b nL P cells slots (tgt) lv (st)) (kf : ¬ x ≤ 0 → A2 = some r → xW p l e R s m args below meth c Q b nL P cells slots (pc + 3) lv (st)) : xW p l e R s m args below meth c Q b nL P cells slots (pc) lv (.int x :: st) :=
  fun H locs ls h1 h2 h3 => lv_if_le C.1 C.2.1 d ht (fun q => kt q (by rw [if_pos q] at hF; exact hF) H locs ls h1 h2 h3) (fun q => kf q (by rw [if_neg q] at hF; exact hF) H locs ls h1 h2 h3)
theorem x_ifnullN (C : xC p m c s args meth G b cc nL own) {off : Int} (tgt : Nat) (d : decode cc pc = .ok (.ifnull off, 3)) (ht : (pc : Int) + off = (tgt : Int)) (k : xW p l e R s m args below meth c Q b nL P cells slots (tgt) lv (st)) : xW p l e R s m args below meth c Q b nL P cells slots (pc) lv (.null :: st) :=
  fun H locs ls h1 h2 h3 => lv_ifnullN C.1 C.2.1 d ht (k H locs ls h1 h2 h3)
theorem x_ifnull (C : xC p m c s args meth G b cc nL own) {x : Nat} {off : Int} (d : decode cc pc = .ok (.ifnull off, 3)) (k : xW p l e R s m args below meth c Q b nL P cells slots (pc + 3) lv (st)) : xW p l e R s m args below meth c Q b nL P cells slots (pc) lv (.ref x :: st) :=
  fun H locs ls h1 h2 h3 => lv_ifnull C.1 C.2.1 d (k H locs ls h1 h2 h3)
theorem x_tabIn (C : xC p m c s args meth G b cc nL own) {dflt lo hi : Int} {offs : Array Int} {len : Nat} {x : Int32} {off n : Int} (tgt : Nat) (d : decode cc pc = .ok (.tableswitch dflt lo hi offs, len)) (hn : x.toInt = n) (h1 : ¬ n < lo) (h2 : ¬ hi < n) (ho : offs[(n - lo).toNat]? = some off) (ht : (pc : Int) + off = (tgt : Int)) (k : xW p l e R s m args below meth c Q b nL P cells slots (tgt) lv (st)) : xW p l e R s m args below meth c Q b nL P cells slots (pc) lv (.int x :: st) :=
  fun H locs ls q1 q2 q3 => lv_tableIn C.1 C.2.1 d (by rw [hn]; exact h1) (by rw [hn]; exact h2) (by rw [hn]; exact ho) ht (k H locs ls q1 q2 q3)
theorem x_tabOut (C : xC p m c s args meth G b cc nL own) {dflt lo hi : Int} {offs : Array Int} {len : Nat} {x : Int32} (tgt : Nat) (d : decode cc pc = .ok (.tableswitch dflt lo hi offs, len)) (h : x.toInt < lo ∨ hi < x.toInt) (ht : (pc : Int) + dflt = (tgt : Int)) (k : xW p l e R s m args below meth c Q b nL P cells slots (tgt) lv (st)) : xW p l e R s m args below meth c Q b nL P cells slots (pc) lv (.int x :: st) :=
  fun H locs ls q1 q2 q3 => lv_tableOut C.1 C.2.1 d h ht (k H locs ls q1 q2 q3)
theorem x_lookup (C : xC p m c s args meth G b cc nL own) {dflt : Int} {ps : Array (Int × Int)} {len : Nat} {x : Int32} {off : Int} (tgt : Nat) (d : decode cc pc = .ok (.lookupswitch dflt ps, len)) (hp : (ps.toList.zip (ps.toList.drop 1)).all (fun (a, next) => a.1 < next.1) = true) (ho : Op.lookupswitch.offset ps.toList dflt x.toInt = off) (ht : (pc : Int) + off = (tgt : Int)) (k : xW p l e R s m args below meth c Q b nL P cells slots (tgt) lv (st)) : xW p l e R s m args below meth c Q b nL P cells slots (pc) lv (.int x :: st) :=
  fun H locs ls q1 q2 q3 => lv_lookup C.1 C.2.1 d hp ho ht (k H locs ls q1 q2 q3)
theorem x_ldc (C : xC p m c s args meth G b cc nL own) {index : Nat} {v : Int32} (hw : Cond.constant own index v ∈ gw) (d : decode cc pc = .ok (.ldc index, 2)) (k : xW p l e R s m args below meth c Q b nL P cells slots (pc + 2) lv (.int v :: st)) : xW p l e R s m args below meth c Q b nL P cells slots (pc) lv (st) :=
  fun H locs ls h1 h2 h3 => lv_ldc C.1 C.2.1 C.2.2.2.1 (C.2.2.2.2.1 _ hw) d (k H locs ls h1 h2 h3)
theorem x_ldc2 (C : xC p m c s args meth G b cc nL own) {index : Nat} {v : Int64} (hw : Cond.constantLong own index v ∈ gw) (d : decode cc pc = .ok (.ldc2_w index, 3)) (k : xW p l e R s m args below meth c Q b nL P cells slots (pc + 3) lv (.long v :: st)) : xW p l e R s m args below meth c Q b nL P cells slots (pc) lv (st) :=
  fun H locs ls h1 h2 h3 => lv_ldc2 C.1 C.2.1 C.2.2.2.1 (C.2.2.2.2.1 _ hw) d (k H locs ls h1 h2 h3)
theorem x_ldc2d (C : xC p m c s args meth G b cc nL own) {index : Nat} {v : UInt64} (hw : Cond.constantDouble own index v ∈ gw) (d : decode cc pc = .ok (.ldc2_w index, 3)) (k : xW p l e R s m args below meth c Q b nL P cells slots (pc + 3) lv (.double v :: st)) : xW p l e R s m args below meth c Q b nL P cells slots (pc) lv (st) :=
  fun H locs ls h1 h2 h3 => lv_ldc2d C.1 C.2.1 C.2.2.2.1 (C.2.2.2.2.1 _ hw) d (k H locs ls h1 h2 h3)
theorem x_iret (C : xC p m c s args meth G b cc nL own) {x : Int32} {v : Option Value} (hr : meth.sig.returnType = some .int) (hv : some (.int x) = v) (hP : ∀ H, P H → P' H) (d : decode cc pc = .ok (.ireturn, 1)) : xW p l e R s m args below meth c (MQ below (xQ b v P') args s cells slots (xA b)) b nL P cells slots pc lv [.int x] := by
  subst hv
  intro H locs ls h1 h2 h3
  have hlocks := C.2.2.2.2.2.1
  exact W.iret C.1 C.2.1 hr  (fun t ht _ => ⟨rfl, by rw [ht]; exact hP H h1, h2.F ht⟩) h2.2.2 d
theorem x_zret (C : xC p m c s args meth G b cc nL own) {x : Int32} {ty : FieldType} (hn : narrow ty (.int x) = .int x) {v : Option Value} (hr : meth.sig.returnType = some ty) (hv : some (.int x) = v) (hP : ∀ H, P H → P' H) (d : decode cc pc = .ok (.ireturn, 1)) : xW p l e R s m args below meth c (MQ below (xQ b v P') args s cells slots (xA b)) b nL P cells slots pc lv [.int x] := by
  subst hv
  intro H locs ls h1 h2 h3
  have hlocks := C.2.2.2.2.2.1
  exact W.zret C.1 C.2.1 hr hn (fun t ht _ => ⟨rfl, by rw [ht]; exact hP H h1, h2.F ht⟩) h2.2.2 d
theorem x_lret (C : xC p m c s args meth G b cc nL own) {x : Int64} {v : Option Value} (hr : meth.sig.returnType = some .long) (hv : some (.long x) = v) (hP : ∀ H, P H → P' H) (d : decode cc pc = .ok (.lreturn, 1)) : xW p l e R s m args below meth c (MQ below (xQ b v P') args s cells slots (xA b)) b nL P cells slots pc lv [.long x] := by
  subst hv
  intro H locs ls h1 h2 h3
  have hlocks := C.2.2.2.2.2.1
  exact W.lret C.1 C.2.1 hr  (fun t ht _ => ⟨rfl, by rw [ht]; exact hP H h1, h2.F ht⟩) h2.2.2 d
theorem x_fret (C : xC p m c s args meth G b cc nL own) {x : UInt32} {v : Option Value} (hr : meth.sig.returnType = some .float) (hv : some (.float x) = v) (hP : ∀ H, P H → P' H) (d : decode cc pc = .ok (.freturn, 1)) : xW p l e R s m args below meth c (MQ below (xQ b v P') args s cells slots (xA b)) b nL P cells slots pc lv [.float x] := by
  subst hv
  intro H locs ls h1 h2 h3
  have hlocks := C.2.2.2.2.2.1
  exact W.fret C.1 C.2.1 hr  (fun t ht _ => ⟨rfl, by rw [ht]; exact hP H h1, h2.F ht⟩) h2.2.2 d
theorem x_dret (C : xC p m c s args meth G b cc nL own) {x : UInt64} {v : Option Value} (hr : meth.sig.returnType = some .double) (hv : some (.double x) = v) (hP : ∀ H, P H → P' H) (d : decode cc pc = .ok (.dreturn, 1)) : xW p l e R s m args below meth c (MQ below (xQ b v P') args s cells slots (xA b)) b nL P cells slots pc lv [.double x] := by
  subst hv
  intro H locs ls h1 h2 h3
  have hlocks := C.2.2.2.2.2.1
  exact W.dret C.1 C.2.1 hr  (fun t ht _ => ⟨rfl, by rw [ht]; exact hP H h1, h2.F ht⟩) h2.2.2 d
theorem x_aret (C : xC p m c s args meth G b cc nL own) {x : Value} {rt : FieldType} (hrt : (∃ n, rt = .object n) ∨ ∃ t, rt = .array t) (hva : x = .null ∨ ∃ a, x = .ref a) {v : Option Value} (hr : meth.sig.returnType = some rt) (hv : some x = v) (hP : ∀ H, P H → P' H) (d : decode cc pc = .ok (.areturn, 1)) : xW p l e R s m args below meth c (MQ below (xQ b v P') args s cells slots (xA b)) b nL P cells slots pc lv [x] := by
  subst hv
  intro H locs ls h1 h2 h3
  have hlocks := C.2.2.2.2.2.1
  exact W.aret C.1 C.2.1 hr hrt hva (fun t ht _ => ⟨rfl, by rw [ht]; exact hP H h1, h2.F ht⟩) h2.2.2 d
theorem x_vret (C : xC p m c s args meth G b cc nL own) (hr : meth.sig.returnType = none) (hP : ∀ H, P H → P' H) (d : decode cc pc = .ok (.return_, 1)) : xW p l e R s m args below meth c (MQ below (xQ b none P') args s cells slots (xA b)) b nL P cells slots pc lv [] := by
  intro H locs ls h1 h2 h3
  have hlocks := C.2.2.2.2.2.1
  exact W.vret C.1 C.2.1 hr (fun t ht _ => ⟨rfl, by rw [ht]; exact hP H h1, h2.F ht⟩) h2.2.2 d
/-- a field is read -/
theorem x_get (C : xC p m c s args meth G b cc nL own) {ref K : String} {T : u_T} {N ci index a : Nat} {fs : List Value} (hin : ∀ w ∈ u_ws K T N, w ∈ gw) (hc : vwCl[ci]? = some (K, T, N)) (k0 : Nat) (hk : k0 < N) (hlink : Cond.fieldLink own index ref (T k0).2.1 (T k0).2.2.1 ∈ gw) (href : ref = (T k0).1) (hat : ∀ H, P H → va_at G.1 vwCl (a, .inr (ci, fs)) H) {v : Value} (hv : fs[k0]? = some v) (d : decode cc pc = .ok (.getfield index, 3))
    (k : xW p l e R s m args below meth c Q b nL P cells slots (pc + 3) lv (v :: st)) : xW p l e R s m args below meth c Q b nL P cells slots (pc) lv (.ref a :: st) := by
  subst href
  intro H locs ls h1 h2 h3
  have hP : va_P G.1 vwCl [(a, .inr (ci, fs))] H := fun j q hq => by
    match j, hq with
    | 0, hq => cases hq; exact hat H h1
    | j + 1, hq => simp at hq
  exact va_get (D := G.1) (ci := ci) (C := K) (T := T) (N := N) C.1 C.2.1 C.2.2.2.2.1 hin C.2.2.2.1 C.2.2.2.2.2.2.1 hP 0 rfl hc k0 hk (C.2.2.2.2.1 _ hlink) (fun _ h => h) hv d (k H locs ls h1 h2 h3)
/-- a field that isn't final is written -/
theorem x_put (C : xC p m c s args meth G b cc nL own) {ref K : String} {T : u_T} {N ci index a : Nat} {fs : List Value} (hin : ∀ w ∈ u_ws K T N, w ∈ gw) (ty0 : Nat → FieldType) (hty : ∀ k, k < N → parseFieldDescriptor (T k).2.2.1 = some (ty0 k)) (hnm : ∀ a, a < N → ∀ b, b < N → a ≠ b → (T a).2.1 ≠ (T b).2.1) (hc : vwCl[ci]? = some (K, T, N)) (k0 : Nat) (hk : k0 < N) (hlink : Cond.fieldLink own index ref (T k0).2.1 (T k0).2.2.1 ∈ gw) (href : ref = (T k0).1) (hfin : (T k0).2.2.2 = false) {v : Value} (hn : narrow (ty0 k0) v = v) (hfit : fits (ty0 k0) v = true) (hl : k0 < fs.length)
    (hat : ∀ H, P H → va_at G.1 vwCl (a, .inr (ci, fs)) H) (hab : b ≤ a) (hnew : ∀ H H' : Heap, P H → H'.size = H.size → (∀ q : Nat, q ≠ a → H'[q]? = H[q]?) → va_at G.1 vwCl (a, .inr (ci, fs.set k0 v)) H' → P' H')
    (d : decode cc pc = .ok (.putfield index, 3)) (k : xW p l e R s m args below meth c Q b nL P' cells slots (pc + 3) lv (st)) : xW p l e R s m args below meth c Q b nL P cells slots (pc) lv (v :: .ref a :: st) := by
  subst href
  intro H locs ls h1 h2 h3
  have hts := C.2.2.2.2.1
  have hK : va_K G.1 vwCl (xT G) s := C.2.2.2.2.2.2.1
  have hap := va_apart (own := own) hts hin ty0 hty hnm hK hc
  obtain ⟨r, g1, cell, q1, q2, q3, q4⟩ := hat H h1
  have hr : r = (K, T, N) := Option.some.inj (g1.symm.trans hc)
  subst hr
  obtain ⟨hS, hfc, kC, hkC, hkind⟩ := hK.1 ci _ hc
  obtain ⟨cf, kf, fi, f, hi, hsl⟩ := hS k0 hk
  have hlay := hts _ (hin _ (u_in_lay hk))
  unfold u_lay at hlay
  rw [if_neg (by rw [hfin]; decide)] at hlay
  have h6 := u_store hfc hkC hkind hlay hi (hty k0 hk) hn hfit
  refine W.putK C.1 C.2.1 (f := f) ⟨C.2.2.2.1, hts _ hlink, ⟨_, _, _, hi⟩, (u_facts hfc hkC (u_lays hts hin hk) hi).1⟩ (by rw [q2]; exact h6) q1 q3 (by rw [hsl]; exact k2_hasslot (q4 k0 hk)) rfl rfl d fun H' e1 e2 e3 => ?_
  rw [hsl] at e1 ⊢
  exact k H' _ ls (hnew H H' h1 e2 e3 ⟨_, hc, t_OB.to (V := updV (vp_V fs) k0 v) ⟨_, e1, q2, q3, t_set q4 hap hk v⟩ (fun j _ => vp_updV_set hl v j)⟩) (h2.put e2 e3 hab) h3
/-- an int array is read -/
theorem x_iald (C : xC p m c s args meth G b cc nL own) {a n : Nat} {f : Nat → Int32} {i : Int32} (hat : ∀ H, P H → va_at G.1 vwCl (a, .inl (G.2.1, n, .inl f)) H) (hin : vp_in i n) (d : decode cc pc = .ok (.iaload, 1)) (k : xW p l e R s m args below meth c Q b nL P cells slots (pc + 1) lv (.int (f i.toNatClampNeg) :: st)) : xW p l e R s m args below meth c Q b nL P cells slots (pc) lv (.int i :: .ref a :: st) := by
  intro H locs ls h1 h2 h3
  have hP : va_P G.1 vwCl [(a, .inl (G.2.1, n, .inl f))] H := fun j q hq => by
    match j, hq with
    | 0, hq => cases hq; exact hat H h1
    | j + 1, hq => simp at hq
  exact va_iald C.1 C.2.1 C.2.2.2.2.2.2.1 hP 0 0 rfl rfl hin d (k H locs ls h1 h2 h3)
theorem x_aald (C : xC p m c s args meth G b cc nL own) {a n : Nat} {f : Nat → Option Nat} {i : Int32} (hat : ∀ H, P H → va_at G.1 vwCl (a, .inl (G.2.2.2.1, n, .inr (.inr (.inr (.inr f))))) H) (hin : vp_in i n) (d : decode cc pc = .ok (.aaload, 1)) (k : xW p l e R s m args below meth c Q b nL P cells slots (pc + 1) lv (va_rf (f i.toNatClampNeg) :: st)) : xW p l e R s m args below meth c Q b nL P cells slots (pc) lv (.int i :: .ref a :: st) := by
  intro H locs ls h1 h2 h3
  have hP : va_P G.1 vwCl [(a, .inl (G.2.2.2.1, n, .inr (.inr (.inr (.inr f)))))] H := fun j q hq => by
    match j, hq with
    | 0, hq => cases hq; exact hat H h1
    | j + 1, hq => simp at hq
  exact va_aldq C.1 C.2.1 C.2.2.2.2.2.2.1 hP 0 1 rfl rfl hin d (k H locs ls h1 h2 h3)
theorem x_alen (C : xC p m c s args meth G b cc nL own) {a : Nat} {cA : ClassId} {x : vp_A} {ty : FieldType} (t0 : Nat) (ht : (xT G)[t0]? = some (cA, ty)) (hat : ∀ H, P H → va_at G.1 vwCl (a, .inl (cA, x)) H) {v : Int32} (hv : Int32.ofNat x.1 = v) (d : decode cc pc = .ok (.arraylength, 1)) (k : xW p l e R s m args below meth c Q b nL P cells slots (pc + 1) lv (.int v :: st)) : xW p l e R s m args below meth c Q b nL P cells slots (pc) lv (.ref a :: st) := by
  intro H locs ls h1 h2 h3
  have hP : va_P G.1 vwCl [(a, .inl (cA, x))] H := fun j q hq => by
    match j, hq with
    | 0, hq => cases hq; exact hat H h1
    | j + 1, hq => simp at hq
  exact va_alen C.1 C.2.1 C.2.2.2.2.2.2.1 hP 0 t0 rfl ht hv d (k H locs ls h1 h2 h3)
/-- an int array is written -/
theorem x_iast (C : xC p m c s args meth G b cc nL own) {a n : Nat} {f : Nat → Int32} {i x : Int32} (hat : ∀ H, P H → va_at G.1 vwCl (a, .inl (G.2.1, n, .inl f)) H) (hin : vp_in i n) (hab : b ≤ a) (hnew : ∀ H H' : Heap, P H → H'.size = H.size → (∀ q : Nat, q ≠ a → H'[q]? = H[q]?) → va_at G.1 vwCl (a, .inl (G.2.1, n, .inl (upd f i.toNatClampNeg x))) H' → P' H')
    (d : decode cc pc = .ok (.iastore, 1)) (k : xW p l e R s m args below meth c Q b nL P' cells slots (pc + 1) lv (st)) : xW p l e R s m args below meth c Q b nL P cells slots (pc) lv (.int x :: .int i :: .ref a :: st) := by
  intro H locs ls h1 h2 h3
  have hK : va_K G.1 vwCl (xT G) s := C.2.2.2.2.2.2.1
  refine W.iast C.1 C.2.1 (hat H h1) ((hK.2 0 _ rfl).1 n (fun j => .int (f j))) (fun q => by cases q) (by show ¬ (i < 0 ∨ (arrV _ _ _).slots.size ≤ _); rw [arrV_size]; exact hin) rfl rfl d fun H1 e z oq => ?_
  refine k H1 _ ls (hnew H H1 h1 z oq ?_) (h2.put z oq hab) h3
  show H1[a]? = some (vp_cell _ _)
  rw [e, vp_cell_i, vp_cell_i, arrV_store]
  congr 2
  funext q
  by_cases hq : q = i.toNatClampNeg
  · subst hq; simp [updV, upd]
  · simp [updV, upd, hq]
/-- what a call needs of the words -/
theorem x_callB {y : MethodName} {bytes : ByteArray} {maxL n index : Nat} {ret : Option FieldType} {rm : Room} {mc ms : Nat} (C : xC p m c s args meth G b cc nL own) (hcode : Cond.code y bytes maxL ret ∈ gw) (hini : Cond.initialized y.cls ∈ gw) (hl : Cond.methodLink own index y ∈ gw) (hrc : rm.cells = mc) (hrs : rm.slots = ms)
    (hd : y.cls ≠ "java/lang/invoke/MethodHandle" ∧ y.cls ≠ "java/lang/invoke/VarHandle" ∧ (parseMethodDescriptor y.desc).map (fun d => d.parameters.length) = some n) (hR : rm.frames + 1 ≤ R.frames ∧ 8 + (maxL + 11) + rm.locals ≤ R.locals) : CallB R s args own index y bytes maxL ret (xWs y bytes maxL ret) rm mc ms n :=
  callB_of n C.2.2.2.2.1 (fun w h => (List.mem_cons.mp h).elim (fun e => by rw [e]; exact gw_good _ hcode) (fun h => gw_good w h)) rfl hrc hrs (C.2.2.2.2.1 _ hini) (C.2.2.2.2.1 _ hl) hd hR
/-- behind a call -/
theorem x_back {pc' : Nat} {rest : List Value} {v : Option Value} {mc ms : Nat} {a : Array Value} (H : Heap) (locs : List Loc) (ls : Array Slot) (h2 : va_S (xA b) s.heap H locs) (h3 : lv_has ls nL lv)
    (hr : va_Run p l e R s m args below meth c H locs cells slots mc ms (F0 m pc' ls st) rest (xQ b v P' a) (xA b)) (k : xW p l e R s m args below meth c Q b nL P' (cells + mc) (slots + ms) (pc' + 3) lv (v.toList ++ rest)) : W p l e R s m args below meth c H locs cells slots Q (F0 m pc' ls st) := by
  intro T hT X
  obtain ⟨v1, st₀, t, T', L, h0, X', hL, e1, e2, ⟨hv, hP', hz, hk⟩, stp⟩ := hr T hT X
  cases hv
  rw [h0] at hz hk
  have hS : va_S (xA b) s.heap T'.heap (locs ++ L) := ⟨Nat.le_trans h2.1 (by rw [e1]; exact hz), fun q g1 g2 => by rw [e1, hk q (Nat.lt_of_lt_of_le g1 h2.1) g2]; exact h2.2.1 q g1 g2, fun q hq => by
      rcases List.mem_append.mp hq with h | h
      · exact h2.2.2 q h
      · exact hL q h⟩
  obtain ⟨t2, a1, b1⟩ := k T'.heap (locs ++ L) ls (by rw [e1]; exact hP') hS h3 T' rfl X'
  exact ⟨t2, stp t2 a1, b1⟩
theorem x_callV (C : xC p m c s args meth G b cc nL own) {y : MethodName} {bytes : ByteArray} {maxL index ci a0 : Nat} {ret : Option FieldType} {rm : Room} {mc ms : Nat} {fs : List Value} {K : vw_C} (As : List Value) {rest : List Value} {v : Option Value}
    (hM : xMet l G b y bytes maxL ret rm (.ref a0 :: As) P v P' mc ms) (hcode : Cond.code y bytes maxL ret ∈ gw) (hini : Cond.initialized y.cls ∈ gw) (hl : Cond.methodLink own index y ∈ gw) (hinst : Cond.instanceMethod y ∈ gw) (hsel : Cond.selects K.1 y y ∈ gw) (hrc : rm.cells = mc) (hrs : rm.slots = ms)
    (hd : y.cls ≠ "java/lang/invoke/MethodHandle" ∧ y.cls ≠ "java/lang/invoke/VarHandle" ∧ (parseMethodDescriptor y.desc).map (fun d => d.parameters.length) = some As.length) (hR : rm.frames + 1 ≤ R.frames ∧ 8 + (maxL + 11) + rm.locals ≤ R.locals) (hci : vwCl[ci]? = some K) (hat : ∀ H, P H → va_at G.1 vwCl (a0, .inr (ci, fs)) H)
    (hst : st = As.reverse ++ .ref a0 :: rest) (hcat : (rest.map fun v => v.category).sum ≤ 8) (hf : cells + mc ≤ R.cells ∧ slots + ms ≤ R.slots) (d : decode cc pc = .ok (.invokevirtual index, 3)) (k : xW p l e R s m args below meth c Q b nL P' (cells + mc) (slots + ms) (pc + 3) lv (v.toList ++ rest)) : xW p l e R s m args below meth c Q b nL P cells slots (pc) lv (st) := by
  intro H locs ls h1 h2 h3
  subst hst
  have hK : va_K G.1 vwCl (xT G) s := C.2.2.2.2.2.2.1
  have hP : va_P G.1 vwCl [(a0, .inr (ci, fs))] H := fun j q hq => by
    match j, hq with
    | 0, hq => cases hq; exact hat H h1
    | j + 1, hq => simp at hq
  refine x_back H locs ls h2 h3 (va_runV (rm := rm) (As := As) (rest := rest) (C := K.1) ⟨C.1, C.2.1, C.2.2.1, C.2.2.2.1, C.2.2.2.2.1⟩ hM ⟨x_callB C hcode hini hl hrc hrs hd hR, C.2.2.2.2.1 _ hinst, C.2.2.2.2.1 _ hsel⟩ ⟨xPc.blind, va_recv (q0 := 0) hK hP hci rfl, fun U hU hW => ⟨rfl, by rw [hU]; exact h1, hK.moved hW.alike, by rw [hU]; exact Nat.le_trans C.2.2.2.2.2.2.2 h2.1⟩⟩ rfl rfl h3.1 rfl (lv_room hcat) d hf) k
theorem x_callS (C : xC p m c s args meth G b cc nL own) {y : MethodName} {bytes : ByteArray} {maxL index : Nat} {ret : Option FieldType} {rm : Room} {mc ms : Nat} (As : List Value) {rest : List Value} {v : Option Value}
    (hM : xMet l G b y bytes maxL ret rm As P v P' mc ms) (hcode : Cond.code y bytes maxL ret ∈ gw) (hini : Cond.initialized y.cls ∈ gw) (hl : Cond.methodLink own index y ∈ gw) (hstat : Cond.static y ∈ gw) (hrc : rm.cells = mc) (hrs : rm.slots = ms)
    (hd : y.cls ≠ "java/lang/invoke/MethodHandle" ∧ y.cls ≠ "java/lang/invoke/VarHandle" ∧ (parseMethodDescriptor y.desc).map (fun d => d.parameters.length) = some As.length) (hR : rm.frames + 1 ≤ R.frames ∧ 8 + (maxL + 11) + rm.locals ≤ R.locals)
    (hst : st = As.reverse ++ rest) (hcat : (rest.map fun v => v.category).sum ≤ 8) (hf : cells + mc ≤ R.cells ∧ slots + ms ≤ R.slots) (d : decode cc pc = .ok (.invokestatic index, 3)) (k : xW p l e R s m args below meth c Q b nL P' (cells + mc) (slots + ms) (pc + 3) lv (v.toList ++ rest)) : xW p l e R s m args below meth c Q b nL P cells slots (pc) lv (st) := by
  intro H locs ls h1 h2 h3
  subst hst
  have hK : va_K G.1 vwCl (xT G) s := C.2.2.2.2.2.2.1
  refine x_back H locs ls h2 h3 (va_runS (rm := rm) (As := As) (rest := rest) ⟨C.1, C.2.1, C.2.2.1, C.2.2.2.1, C.2.2.2.2.1⟩ hM ⟨x_callB C hcode hini hl hrc hrs hd hR, C.2.2.2.2.1 _ hstat⟩ ⟨xPc.blind, fun U hU hW => ⟨rfl, by rw [hU]; exact h1, hK.moved hW.alike, by rw [hU]; exact Nat.le_trans C.2.2.2.2.2.2.2 h2.1⟩⟩ rfl rfl h3.1 rfl (lv_room hcat) d hf) k
theorem x_callI (C : xC p m c s args meth G b cc nL own) {y : MethodName} {bytes : ByteArray} {maxL index a0 : Nat} {rm : Room} {mc ms : Nat} (As : List Value) {rest : List Value} {v : Option Value}
    (hM : xMet l G b y bytes maxL none rm (.ref a0 :: As) P v P' mc ms) (hcode : Cond.code y bytes maxL none ∈ gw) (hini : Cond.initialized y.cls ∈ gw) (hl : Cond.methodLink own index y ∈ gw) (hinst : Cond.instanceMethod y ∈ gw) (hnm : y.name = "<init>") (hrc : rm.cells = mc) (hrs : rm.slots = ms)
    (hd : y.cls ≠ "java/lang/invoke/MethodHandle" ∧ y.cls ≠ "java/lang/invoke/VarHandle" ∧ (parseMethodDescriptor y.desc).map (fun d => d.parameters.length) = some As.length) (hR : rm.frames + 1 ≤ R.frames ∧ 8 + (maxL + 11) + rm.locals ≤ R.locals)
    (hst : st = As.reverse ++ .ref a0 :: rest) (hcat : (rest.map fun v => v.category).sum ≤ 8) (hf : cells + mc ≤ R.cells ∧ slots + ms ≤ R.slots) (d : decode cc pc = .ok (.invokespecial index, 3)) (k : xW p l e R s m args below meth c Q b nL P' (cells + mc) (slots + ms) (pc + 3) lv (v.toList ++ rest)) : xW p l e R s m args below meth c Q b nL P cells slots (pc) lv (st) := by
  intro H locs ls h1 h2 h3
  subst hst
  have hK : va_K G.1 vwCl (xT G) s := C.2.2.2.2.2.2.1
  refine x_back H locs ls h2 h3 (va_runI (rm := rm) (As := As) (rest := rest) ⟨C.1, C.2.1, C.2.2.1, C.2.2.2.1, C.2.2.2.2.1⟩ hM ⟨x_callB C hcode hini hl hrc hrs hd hR, hnm, C.2.2.2.2.1 _ hinst⟩ ⟨xPc.blind, fun U hU hW => ⟨rfl, by rw [hU]; exact h1, hK.moved hW.alike, by rw [hU]; exact Nat.le_trans C.2.2.2.2.2.2.2 h2.1⟩⟩ rfl rfl h3.1 rfl (lv_room hcat) d hf) k
/-- a stronger start, a weaker end -/
theorem xMet.conseq {y : MethodName} {ret : Option FieldType} {rm : Room} {as : List Value} {P1 P2 : Heap → Prop} {v : Option Value} {mc ms : Nat} (h : ∀ H, P1 H → ∃ P P' : Heap → Prop, P H ∧ xMet l G b y cc nL ret rm as P v P' mc ms ∧ ∀ H', P' H' → P2 H') : xMet l G b y cc nL ret rm as P1 v P2 mc ms := by
  intro p e h1 h2 h3 s m args below h4 h5 h6 h7
  obtain ⟨ha, hP, hK, hbl⟩ := h6
  obtain ⟨P, P', g1, g2, g3⟩ := h s.heap hP
  obtain ⟨n, o, q1, q2, q3, ⟨w1, w2, w3⟩, q5⟩ := g2 p e h1 h2 h3 s m args below h4 h5 ⟨ha, g1, hK, hbl⟩ h7
  exact ⟨n, o, q1, q2, q3, ⟨w1, g3 _ w2, w3⟩, q5⟩
theorem bool_ok {x : Int32} (h : x = 0 ∨ x = 1) : narrow .boolean (.int x) = .int x := by
  rcases h with rfl | rfl <;> rfl
end XW
