section
-- ===== PART A: goes FIRST, ahead of the names: the tables' words, and 'selects' of the private methods out of them =====
/-- a private method of a class that the tables say can be made, by its rows of tables_1 -/
def lw_okq (q : MethodName × Nat) : Prop := (q.1.cls ≠ "java/lang/invoke/MethodHandle" ∧ q.1.cls ≠ "java/lang/invoke/VarHandle") ∧ Cond.instantiable q.1.cls q.2 ∈ tables_1 ∧ Cond.privateMethod q.1 ∈ tables_1 ∧ Cond.instanceMethod q.1 ∈ tables_1
theorem lw_p0 : lw_okq (⟨"java/lang/Throwable", "fillInStackTrace", "(I)Ljava/lang/Throwable;"⟩, 6) := ⟨⟨by decide +kernel, by decide +kernel⟩, List.mem_of_getElem? (i := 277) (by decide +kernel), List.mem_of_getElem? (i := 275) (by decide +kernel), List.mem_of_getElem? (i := 276) (by decide +kernel)⟩
theorem lw_p1 : lw_okq (⟨"PinnedLeaves", "counted", "(I)I"⟩, 5) := ⟨⟨by decide +kernel, by decide +kernel⟩, List.mem_of_getElem? (i := 18) (by decide +kernel), List.mem_of_getElem? (i := 307) (by decide +kernel), List.mem_of_getElem? (i := 308) (by decide +kernel)⟩
theorem lw_p2 : lw_okq (⟨"PinnedLeaves$SavedYards", "placeAt", "(I)LPinnedLeaves$Yard;"⟩, 3) := ⟨⟨by decide +kernel, by decide +kernel⟩, List.mem_of_getElem? (i := 184) (by decide +kernel), List.mem_of_getElem? (i := 393) (by decide +kernel), List.mem_of_getElem? (i := 394) (by decide +kernel)⟩
theorem lw_p3 : lw_okq (⟨"PinnedLeaves", "needChild", "(I)V"⟩, 5) := ⟨⟨by decide +kernel, by decide +kernel⟩, List.mem_of_getElem? (i := 18) (by decide +kernel), List.mem_of_getElem? (i := 439) (by decide +kernel), List.mem_of_getElem? (i := 440) (by decide +kernel)⟩
theorem lw_p4 : lw_okq (⟨"PinnedLeaves", "needHook", "(II)V"⟩, 5) := ⟨⟨by decide +kernel, by decide +kernel⟩, List.mem_of_getElem? (i := 18) (by decide +kernel), List.mem_of_getElem? (i := 639) (by decide +kernel), List.mem_of_getElem? (i := 640) (by decide +kernel)⟩
theorem lw_p5 : lw_okq (⟨"PinnedLeaves", "needLeaf", "(I)V"⟩, 5) := ⟨⟨by decide +kernel, by decide +kernel⟩, List.mem_of_getElem? (i := 18) (by decide +kernel), List.mem_of_getElem? (i := 884) (by decide +kernel), List.mem_of_getElem? (i := 885) (by decide +kernel)⟩
def lw_privs_1 : List (MethodName × Nat) := [(⟨"java/lang/Throwable", "fillInStackTrace", "(I)Ljava/lang/Throwable;"⟩, 6), (⟨"PinnedLeaves", "counted", "(I)I"⟩, 5), (⟨"PinnedLeaves$SavedYards", "placeAt", "(I)LPinnedLeaves$Yard;"⟩, 3), (⟨"PinnedLeaves", "needChild", "(I)V"⟩, 5), (⟨"PinnedLeaves", "needHook", "(II)V"⟩, 5), (⟨"PinnedLeaves", "needLeaf", "(I)V"⟩, 5)]
theorem lw_r1 : ∀ q ∈ lw_privs_1, lw_okq q := List.forall_mem_cons.mpr ⟨lw_p0, List.forall_mem_cons.mpr ⟨lw_p1, List.forall_mem_cons.mpr ⟨lw_p2, List.forall_mem_cons.mpr ⟨lw_p3, List.forall_mem_cons.mpr ⟨lw_p4, List.forall_mem_cons.mpr ⟨lw_p5, fun _ h => absurd h List.not_mem_nil⟩⟩⟩⟩⟩⟩
def lw_privs : List (MethodName × Nat) := lw_privs_1
def lw_tbl : List Cond := k2_sels lw_privs ++ tables_1
theorem lw_privs_ok : ∀ q ∈ lw_privs, lw_okq q := lw_r1
/-- the streams that the claim lets the run draw from -/
abbrev lw_cs : List Choice := [Jvm.Choice.named "NaN.bits"]
theorem lw_bits : nanBits ∈ lw_cs := by first | decide | exact List.mem_cons_self | simp [lw_cs, nanBits]
/-! ===== BEGIN words of one list among another's, by their places ===== -/
theorem goodIn_r {big : List Cond} (ws : List Cond) (ps : List Nat) (hp : ws = ps.filterMap (fun i => big[i]?)) (h : ws.all goodWord = true) : GoodIn big ws := by
  intro w hw
  have h1 := List.all_eq_true.mp h w hw
  rw [hp] at hw
  obtain ⟨i, -, hi⟩ := List.mem_filterMap.mp hw
  have hm : w ∈ big := by first | exact List.mem_of_getElem? hi | exact List.getElem?_mem hi
  exact ⟨hm, good_of_word h1⟩
theorem goodIn_app {big a b : List Cond} (ha : GoodIn big a) (hb : GoodIn big b) : GoodIn big (a ++ b) := fun w h => (List.mem_append.mp h).elim (ha w) (hb w)
theorem goodIn_ca {big a b : List Cond} {c : Cond} (ha : GoodIn big (c :: a)) (hb : GoodIn big b) : GoodIn big (c :: (a ++ b)) := fun w h => (List.mem_cons.mp h).elim (fun e => ha w (List.mem_cons.mpr (Or.inl e))) (fun h => (List.mem_append.mp h).elim (fun h => ha w (List.mem_cons.mpr (Or.inr h))) (hb w))
theorem goodIn_sub {big ws : List Cond} (hm : ∀ w ∈ ws, w ∈ big) (h : ws.all goodWord = true) : GoodIn big ws := fun w hw => ⟨hm w hw, good_of_word (List.all_eq_true.mp h w hw)⟩
/-! ===== END ===== -/

/-! ===== BEGIN exceptions that leave a method, and their catching by the caller (launches without stack traces) ===== -/
section VXA
/-! The laws vx_back, vx_callV, vx_callS, vx_callSW, vx_throw0, vx_throwS follow proofs of the library, with one case more: JvmDerived/Free/Laws.lean (Back.of_free), Shelf42/LK1.lean (callV, callS), Shelf/KitTraced.lean (throwNew0V, throwNewS). -/
/-- where a method has thrown q: the class by its name, the cell, what was written, the world -/
def vx_T (XC : String → State → State → Prop) (st : State) (q : Addr) (t : State) (mc ms : Nat) (free : Addr → Prop) : Prop :=
  ∃ (E : String) (ce : Cell) (L : List Loc), XC E st t ∧ t.heap[q]? = some ce ∧ ce.vm = .none ∧ st.vm.findClass E = some ce.cls ∧ st.WarmedH t.vm ∧ st.sameButNew ({ t with vm := st.vm } : State) L mc ms ∧ ∀ z ∈ L, free z.base
def vx_Q (Qc : Array Value → State → Outcome → State → Prop) (XC : String → State → State → Prop) (mc ms : Nat) (free : Addr → Prop) : Array Value → State → Outcome → State → Prop := fun a st o t =>
  (Qc a st o t ∧ ∃ L, FrameEnd st o t L mc ms ∧ ∀ q ∈ L, free q.base) ∨ ∃ q, o = .threw q ∧ vx_T XC st q t mc ms free
/-- a callee that returns or throws -/
def vx_Met (l : Launch) (y : MethodName) (ws : List Cond) (rm : Room) (Pc : Array Value → State → Prop) (Qc : Array Value → State → Outcome → State → Prop) (XC : String → State → State → Prop) (mc ms : Nat) (free : Addr → Prop) : Prop :=
  MetFree l y (headSpec ws rm) Pc (fun _ _ _ _ _ => True) (vx_Q Qc XC mc ms free)
def vx_Post (XC : String → State → State → Prop) (mc ms : Nat) (free : Addr → Prop) : Pt → Array Value → Addr → Pt → Prop := fun A a q B =>
  ∃ (g : JFrame) (mk : MethodId) (t : State) (L : List Loc) (E : String) (ce : Cell), B.U.heap = t.heap ∧ B.U.vm = t.vm ∧ XC E (A.U.calling g mk a) t ∧ t.heap[q]? = some ce ∧ ce.vm = .none ∧ A.U.vm.findClass E = some ce.cls ∧ B.locs = A.locs ++ L ∧ (∀ z ∈ L, free z.base) ∧ B.cells = A.cells + mc ∧ B.slots = A.slots + ms
def vx_Back (l : Launch) (R : Room) (p : Program) (e : Env) (below : List Frame) (s : State) (sargs : Array Value) (y : MethodName) (len W9 : Nat)
    (Pre : Pt → Array Value → Prop) (Post : Pt → Array Value → Option Value → Pt → Prop) (PostX : Pt → Array Value → Addr → Pt → Prop) : Prop :=
  ∀ (m : MethodId) (meth : Method) (c : Code) (A : Pt) (g : JFrame) (ig : Instr) (mk : MethodId) (a : Array Value),
    Stand p l e R s m sargs below meth c A.U A.locs A.cells A.slots → g.method = m → g.locals.size = c.maxLocals → decode c.code g.pc = .ok (ig, len) →
    2 * g.monitorRoom + (g.stack.map fun v => v.category).sum ≤ W9 → A.U.methodNamed? y = some mk → Pre A a →
    (∃ (v : Option Value) (B : Pt), Stand p l e R s m sargs below meth c B.U B.locs B.cells B.slots ∧ Post A a v B ∧
      Steps p.tables e below (doInvoke e (A.U.setTop g) [] mk a).1 (B.U.setTop { g with pc := g.pc + len, stack := v.toList ++ g.stack })) ∨
    (∃ (q : Addr) (B : Pt), Stand p l e R s m sargs below meth c B.U B.locs B.cells B.slots ∧ PostX A a q B ∧
      Steps p.tables e below (doInvoke e (A.U.setTop g) [] mk a).1 ((B.U.setTop g).pushFrame (.throwing q)))
section Payer
variable {l : Launch} {R : Room} {p : Program} {e : Env} {below : List Frame} {s : State} {sargs : Array Value} {y : MethodName} {len W9 : Nat}
theorem vx_back {ws : List Cond} {rm : Room} {Pc : Array Value → State → Prop} {Qc : Array Value → State → Outcome → State → Prop} {XC : String → State → State → Prop} {mc ms : Nat} {free : Addr → Prop} {bytes : ByteArray} {maxL : Nat} {ret : Option FieldType}
    (hM : vx_Met l y ws rm Pc Qc XC mc ms free) (hblind : FrameBlind Pc) (hrc : rm.cells = mc) (hrs : rm.slots = ms)
    (hframes : rm.frames + 1 ≤ R.frames) (hlocals : W9 + (maxL + 11) + rm.locals ≤ R.locals)
    (hws : ∀ w ∈ ws, ∀ a' U, s.WarmedH U.vm → w.before a' U = true) (hcode : Cond.code y bytes maxL ret ∈ ws) (hinit : ∀ a' U, s.WarmedH U.vm → (Cond.initialized y.cls).before a' U = true) :
    vx_Back l R p e below s sargs y len W9 (PreOf R mc ms Pc) (PostOf Qc mc ms free) (vx_Post XC mc ms free) := by
  intro m meth c A g ig mk a X hg hsize hdg hW hn hp
  have h1 : (headSpec ws rm).pre.before a A.U = true := atoms_intro fun w hw => hws w hw _ _ X.warmed
  have h2 : (Cond.code y bytes maxL ret).before a A.U = true := hws _ hcode _ _ X.warmed
  have h3 : (Cond.initialized y.cls).before a A.U = true := hinit _ _ X.warmed
  have h4 : A.cells + (headSpec ws rm).room.cells ≤ R.cells := by rw [show (headSpec ws rm).room.cells = mc from hrc]; exact hp.1
  have h5 : A.slots + (headSpec ws rm).room.slots ≤ R.slots := by rw [show (headSpec ws rm).room.slots = ms from hrs]; exact hp.2.1
  have hPc : Pc a (A.U.calling g mk a) := hblind _ _ _ _ hp.2.2
  obtain ⟨U, Ls, c0, s0⟩ := A
  dsimp only [Pt.U, Pt.locs, Pt.cells, Pt.slots] at h1 h2 h3 h4 h5 X hn hPc ⊢
  obtain ⟨methY, cY, hmY, hcY, -, hlY, -, -, -, -⟩ := Cond.code_spec hn h2
  obtain ⟨kY, hkY, -⟩ := className_of_methodNamed hn
  have hinitY : kY.init = .initialized := Cond.initialized_spec (findClass_of_methodNamed hn) hkY h3
  have h : At U g.method c below := by rw [hg]; exact X.here
  have hlocals9 : W9 + (maxL + 11) + (headSpec ws rm).room.locals ≤ R.locals := hlocals
  have happ : (headSpec ws rm).appliesLoose y e.platform (U.calling g mk a) = true :=
    Spec.appliesLoose_calling (g := g) h hdg hn hkY hinitY
      (X.room_calling (g := g) (R' := (headSpec ws rm).room) hsize hmY hcY hframes (by rw [hlY]; omega) h4 h5) h1
  obtain ⟨mid, hmid⟩ := h.above
  have hfr : (U.setTop g).frames = (.java g :: mid) ++ below := by rw [State.frames_setTop' g h.top, hmid]; rfl
  obtain ⟨o, s₂, hsteps, -, hend, hq⟩ := Steps.callFree hM p X.admits X.cas X.clock (acts := []) hfr happ hPc trivial
  have hq' : vx_Q Qc XC mc ms free a (U.calling g mk a) o s₂ := hq
  rw [State.frames_setTop' g h.top] at hend
  obtain ⟨g₀, hg0⟩ := Option.isSome_iff_exists.mp h.top
  obtain ⟨r, hr⟩ := State.topJava?_eq_some.mp hg0
  have hr' : (({ U with heap := s₂.heap, slotsUsed := s₂.slotsUsed } : State).setVm s₂.vm).frames = .java g₀ :: r := hr
  rcases hq' with ⟨hqc, L, hfe, hL⟩ | ⟨q, rfl, E, ce, L, hx, hce, hcv, hcl, hW₂, hsm, hL⟩
  · obtain ⟨⟨v, rfl⟩, hW₂, e2, q2, q3, q4, q5, q6⟩ := id hfe
    have e3 : s₂ = ({ (U.calling g mk a).setFrames s₂.frames with heap := s₂.heap, slotsUsed := s₂.slotsUsed } : State).setVm s₂.vm := by
      have : s₂ = ({ s₂ with vm := (U.calling g mk a).vm } : State).setVm s₂.vm := rfl
      rw [e2] at this
      exact this
    obtain ⟨c₂, i₂, len₂, hc₂, hd₂, hf₂⟩ := hend
    have hW' : U.WarmedH s₂.vm := hW₂
    have hcc : c₂ = c := by
      have h1 : s₂.code? g.method = U.code? g.method := by
        rw [State.code?_eq, State.code?_eq, hW'.alike.method?]
      exact Option.some.inj (hc₂.symm.trans (h1.trans h.code))
    subst hcc
    have hlen : len₂ = len := by rw [hdg] at hd₂; cases hd₂; rfl
    subst hlen
    have hs₂ : s₂ = (({ U with heap := s₂.heap, slotsUsed := s₂.slotsUsed } : State).setVm s₂.vm).setTop { g with pc := g.pc + len₂, stack := v.toList ++ g.stack } := by
      refine e3.trans ?_
      rw [hf₂, State.calling_eq h.top, State.setFrames_setFrames, State.setTop_of_frames _ hr', hr]
      rfl
    have hsame : U.sameButNew ({ U with heap := s₂.heap, slotsUsed := s₂.slotsUsed } : State) L mc ms := by
      refine ⟨?_, q2, q3, q4, q5, q6⟩
      obtain ⟨t, ht, -⟩ := State.frames_cons hr
      show ({ U with heap := s₂.heap, slotsUsed := s₂.slotsUsed } : State) = { U.setFrames U.frames with heap := s₂.heap, slotsUsed := s₂.slotsUsed }
      rw [State.setFrames_self ht]
    subst hg
    refine Or.inl ⟨v, ⟨(({ U with heap := s₂.heap, slotsUsed := s₂.slotsUsed } : State).setVm s₂.vm), Ls ++ L, c0 + mc, s0 + ms⟩,
      ⟨X.admits, X.cas, X.clock, X.frames, X.room, X.hears, X.method, X.code, (X.here.setHeapUsed s₂.heap s₂.slotsUsed).setVm hW'.alike, X.tail, State.WarmedH.trans X.warmed hW', X.limits, X.bytes, X.same.trans (hsame.setVm s.vm)⟩,
      ⟨g, mk, s₂, L, rfl, rfl, hqc, rfl, hL, rfl, rfl⟩, ?_⟩
    show Steps p.tables e below _ ((({ U with heap := s₂.heap, slotsUsed := s₂.slotsUsed } : State).setVm s₂.vm).setTop { g with pc := g.pc + len₂, stack := v.toList ++ g.stack })
    rw [← hs₂]
    exact hsteps
  · obtain ⟨e2, q2, q3, q4, q5, q6⟩ := id hsm
    have e3 : s₂ = ({ (U.calling g mk a).setFrames s₂.frames with heap := s₂.heap, slotsUsed := s₂.slotsUsed } : State).setVm s₂.vm := by
      have : s₂ = ({ s₂ with vm := (U.calling g mk a).vm } : State).setVm s₂.vm := rfl
      rw [e2] at this
      exact this
    have hf₂ : s₂.frames = .throwing q :: .java g :: U.frames.tail := hend
    have hW' : U.WarmedH s₂.vm := hW₂
    have hs₂ : s₂ = ((({ U with heap := s₂.heap, slotsUsed := s₂.slotsUsed } : State).setVm s₂.vm).setTop g).pushFrame (.throwing q) := by
      refine e3.trans ?_
      rw [hf₂, State.calling_eq h.top, State.setFrames_setFrames, State.pushFrame, State.frames_setTop _ hr', State.setTop_of_frames _ hr', State.setFrames_setFrames, hr]
      rfl
    have hsame : U.sameButNew ({ U with heap := s₂.heap, slotsUsed := s₂.slotsUsed } : State) L mc ms := by
      refine ⟨?_, q2, q3, q4, q5, q6⟩
      obtain ⟨t, ht, -⟩ := State.frames_cons hr
      show ({ U with heap := s₂.heap, slotsUsed := s₂.slotsUsed } : State) = { U.setFrames U.frames with heap := s₂.heap, slotsUsed := s₂.slotsUsed }
      rw [State.setFrames_self ht]
    subst hg
    refine Or.inr ⟨q, ⟨(({ U with heap := s₂.heap, slotsUsed := s₂.slotsUsed } : State).setVm s₂.vm), Ls ++ L, c0 + mc, s0 + ms⟩,
      ⟨X.admits, X.cas, X.clock, X.frames, X.room, X.hears, X.method, X.code, (X.here.setHeapUsed s₂.heap s₂.slotsUsed).setVm hW'.alike, X.tail, State.WarmedH.trans X.warmed hW', X.limits, X.bytes, X.same.trans (hsame.setVm s.vm)⟩,
      ⟨g, mk, s₂, L, E, ce, rfl, rfl, hx, hce, hcv, hcl, rfl, hL, rfl, rfl⟩, ?_⟩
    show Steps p.tables e below _ (((({ U with heap := s₂.heap, slotsUsed := s₂.slotsUsed } : State).setVm s₂.vm).setTop g).pushFrame (.throwing q))
    rw [← hs₂]
    exact hsteps
end Payer
section Calls
variable {p : Program} {l : Launch} {e : Env} {R : Room} {s : State} {m : MethodId} {args : Array Value} {below : List Frame} {meth : Method} {c : Code} {T : State} {locs : List Loc} {cells slots : Nat}
theorem vx_callV (X : Stand p l e R s m args below meth c T locs cells slots) (hexec : p.tables.exec = Jvm.exec) {own C : String} {index : Nat} {y : MethodName} {bytes : ByteArray} {maxL : Nat} {ret : Option FieldType}
    (hown : s.vm.findClass own = some m.cls) (hlink : (Cond.methodLink own index y).before args s = true) (hinst : (Cond.instanceMethod y).before args s = true) (hsel : (Cond.selects C y y).before args s = true)
    (hcode : (Cond.code y bytes maxL ret).before args s = true) (hy : y.cls ≠ "java/lang/invoke/MethodHandle" ∧ y.cls ≠ "java/lang/invoke/VarHandle")
    {W9 : Nat} {Pre : Pt → Array Value → Prop} {Post : Pt → Array Value → Option Value → Pt → Prop} {PostX : Pt → Array Value → Addr → Pt → Prop} (hK : vx_Back l R p e below s args y 3 W9 Pre Post PostX)
    {b : Addr} {cellB : Cell} (hcell : T.heap[b]? = some cellB) (hobj : cellB.vm.isStatics = false) (hcls : s.vm.findClass C = some cellB.cls)
    {g : JFrame} (hg : g.method = m) (hsize : g.locals.size = c.maxLocals) {argsL rest : List Value} (hlen : ∀ sig, parseMethodDescriptor y.desc = some sig → argsL.length = sig.parameters.length)
    (hstack : g.stack = argsL.reverse ++ .ref b :: rest) (hW : 2 * g.monitorRoom + (rest.map fun v => v.category).sum ≤ W9) (hdg : decode c.code g.pc = .ok (.invokevirtual index, 3))
    (hpre : ∀ vm₁, s.WarmedH vm₁ → Pre ⟨T.setVm vm₁, locs, cells, slots⟩ (Value.ref b :: argsL).toArray) :
    (∃ (v : Option Value) (vm₁ : Vm) (B : Pt), s.WarmedH vm₁ ∧ Stand p l e R s m args below meth c B.U B.locs B.cells B.slots ∧ Post ⟨T.setVm vm₁, locs, cells, slots⟩ (Value.ref b :: argsL).toArray v B ∧
      ∀ target, Steps p.tables e below (B.U.setTop { g with pc := g.pc + 3, stack := v.toList ++ rest }) target → Steps p.tables e below (T.setTop g) target) ∨
    (∃ (q : Addr) (vm₁ : Vm) (B : Pt), s.WarmedH vm₁ ∧ Stand p l e R s m args below meth c B.U B.locs B.cells B.slots ∧ PostX ⟨T.setVm vm₁, locs, cells, slots⟩ (Value.ref b :: argsL).toArray q B ∧
      Steps p.tables e below (T.setTop g) ((B.U.setTop { g with stack := rest }).pushFrame (.throwing q))) := by
  obtain ⟨mk, methM, hnamed, hmethM, hstM, habM⟩ := Cond.instanceMethod_spec hinst
  obtain ⟨methM', cM, hmethM', -, -, -, -, -, -, hsigM⟩ := Cond.code_spec hnamed hcode
  cases hmethM.symm.trans hmethM'
  obtain ⟨c2, r2, m2, q1, q2, q3, q4, kP, hkP, hkPi⟩ := Cond.selects_spec hsel
  cases hcls.symm.trans q1
  cases (State.methodFound?_of_named hnamed hy).symm.trans q2
  cases hnamed.symm.trans q3
  have hselP : selectMethod e.platform s.vm cellB.cls mk = .method mk := by rw [Launch.admits_selectMethod X.admits]; exact q4
  obtain ⟨vm₁, X₁, hstep₁⟩ := X.invokevirtual hexec hown hlink hnamed hmethM hstM hkP hkPi hy (a := b) (cell := cellB) hcell
    (fun z h => by rw [h] at hobj; cases hobj) hselP hmethM habM hkP hkPi (g := g) hg (argsL := argsL) (rest := rest) (hlen _ hsigM) hstack hdg
  rcases hK m meth c ⟨T.setVm vm₁, locs, cells, slots⟩ { g with stack := rest } (.invokevirtual index) mk (Value.ref b :: argsL).toArray X₁ hg hsize hdg hW (X₁.named hnamed) (hpre vm₁ X₁.warmed) with ⟨v, B, X', hpost, hsteps⟩ | ⟨q, B, X', hpost, hsteps⟩
  · exact Or.inl ⟨v, vm₁, B, X₁.warmed, X', hpost, fun target h => hstep₁ _ fun acts => by rw [doInvoke_state]; exact hsteps.trans h⟩
  · exact Or.inr ⟨q, vm₁, B, X₁.warmed, X', hpost, hstep₁ _ fun acts => by rw [doInvoke_state]; exact hsteps⟩
theorem vx_callS (X : Stand p l e R s m args below meth c T locs cells slots) (hexec : p.tables.exec = Jvm.exec) {own : String} {index : Nat} {y : MethodName} {bytes : ByteArray} {maxL : Nat} {ret : Option FieldType}
    (hown : s.vm.findClass own = some m.cls) (hlink : (Cond.methodLink own index y).before args s = true) (hstat : (Cond.static y).before args s = true) (hinit : (Cond.initialized y.cls).before args s = true)
    (hcode : (Cond.code y bytes maxL ret).before args s = true) (hy : y.cls ≠ "java/lang/invoke/MethodHandle" ∧ y.cls ≠ "java/lang/invoke/VarHandle")
    {W9 : Nat} {Pre : Pt → Array Value → Prop} {Post : Pt → Array Value → Option Value → Pt → Prop} {PostX : Pt → Array Value → Addr → Pt → Prop} (hK : vx_Back l R p e below s args y 3 W9 Pre Post PostX)
    {g : JFrame} (hg : g.method = m) (hsize : g.locals.size = c.maxLocals) {argsL rest : List Value} (hlen : ∀ sig, parseMethodDescriptor y.desc = some sig → argsL.length = sig.parameters.length)
    (hstack : g.stack = argsL.reverse ++ rest) (hW : 2 * g.monitorRoom + (rest.map fun v => v.category).sum ≤ W9) (hdg : decode c.code g.pc = .ok (.invokestatic index, 3))
    (hpre : ∀ vm₁, s.WarmedH vm₁ → Pre ⟨T.setVm vm₁, locs, cells, slots⟩ argsL.toArray) :
    (∃ (v : Option Value) (vm₁ : Vm) (B : Pt), s.WarmedH vm₁ ∧ Stand p l e R s m args below meth c B.U B.locs B.cells B.slots ∧ Post ⟨T.setVm vm₁, locs, cells, slots⟩ argsL.toArray v B ∧
      ∀ target, Steps p.tables e below (B.U.setTop { g with pc := g.pc + 3, stack := v.toList ++ rest }) target → Steps p.tables e below (T.setTop g) target) ∨
    (∃ (q : Addr) (vm₁ : Vm) (B : Pt), s.WarmedH vm₁ ∧ Stand p l e R s m args below meth c B.U B.locs B.cells B.slots ∧ PostX ⟨T.setVm vm₁, locs, cells, slots⟩ argsL.toArray q B ∧
      Steps p.tables e below (T.setTop g) ((B.U.setTop { g with stack := rest }).pushFrame (.throwing q))) := by
  obtain ⟨mk, hnamed⟩ := Cond.code_named hcode
  obtain ⟨methM, cM, hmethM, -, -, -, -, -, -, hsigM⟩ := Cond.code_spec hnamed hcode
  have hstatic : methM.isStatic = true := Cond.static_spec hnamed hmethM hstat
  obtain ⟨kP, hkP, -⟩ := className_of_methodNamed hnamed
  have hinitP : kP.init = .initialized := Cond.initialized_spec (findClass_of_methodNamed hnamed) hkP hinit
  obtain ⟨vm₁, X₁, hstep₁⟩ := X.invokestatic hexec hown hlink hnamed hmethM hstatic hkP hinitP hy (g := g) hg (argsL := argsL) (rest := rest) (hlen _ hsigM) hstack hdg
  rcases hK m meth c ⟨T.setVm vm₁, locs, cells, slots⟩ { g with stack := rest } (.invokestatic index) mk argsL.toArray X₁ hg hsize hdg hW (X₁.named hnamed) (hpre vm₁ X₁.warmed) with ⟨v, B, X', hpost, hsteps⟩ | ⟨q, B, X', hpost, hsteps⟩
  · exact Or.inl ⟨v, vm₁, B, X₁.warmed, X', hpost, fun target h => hstep₁ _ fun acts => by rw [doInvoke_state]; exact hsteps.trans h⟩
  · exact Or.inr ⟨q, vm₁, B, X₁.warmed, X', hpost, hstep₁ _ fun acts => by rw [doInvoke_state]; exact hsteps⟩
end Calls
theorem vx_cls {s : State} {T : State} {vm₁ : Vm} {E : String} {k : ClassId} (hW : s.WarmedH vm₁) (h : (T.setVm vm₁).vm.findClass E = some k) : s.vm.findClass E = some k := by
  have h1 : vm₁.findClass E = some k := h
  rw [hW.alike.findClass] at h1
  exact h1
/-- the method's frame g, with q thrown over it -/
def vx_W (p : Program) (l : Launch) (e : Env) (R : Room) (s : State) (m : MethodId) (args : Array Value) (below : List Frame) (meth : Method) (c : Code) (H : Heap) (locs : List Loc) (cells slots : Nat) (Q : State → Prop) (g : JFrame) (q : Addr) : Prop :=
  ∀ T : State, T.heap = H → Stand p l e R s m args below meth c T locs cells slots → ∃ t, Steps p.tables e below ((T.setTop g).pushFrame (.throwing q)) t ∧ Q t
def vx_Run (p : Program) (l : Launch) (e : Env) (R : Room) (s : State) (m : MethodId) (args : Array Value) (below : List Frame) (meth : Method) (c : Code) (H : Heap) (locs : List Loc) (cells slots mc ms : Nat) (g : JFrame) (rest : List Value) (Qa : State → Outcome → State → Prop) (XC : String → State → State → Prop) (free : Addr → Prop) : Prop :=
  ∀ T : State, T.heap = H → Stand p l e R s m args below meth c T locs cells slots →
    (∃ (v : Option Value) (st₀ t T' : State) (L : List Loc), st₀.heap = H ∧ Stand p l e R s m args below meth c T' (locs ++ L) (cells + mc) (slots + ms) ∧ (∀ q ∈ L, free q.base) ∧ T'.heap = t.heap ∧ T'.vm = t.vm ∧ Qa st₀ (.returned v) t ∧
      Goes p e below T g T' { g with pc := g.pc + 3, stack := v.toList ++ rest }) ∨
    (∃ (q : Addr) (st₀ t T' : State) (L : List Loc) (E : String) (ce : Cell), st₀.heap = H ∧ Stand p l e R s m args below meth c T' (locs ++ L) (cells + mc) (slots + ms) ∧ (∀ z ∈ L, free z.base) ∧ T'.heap = t.heap ∧ T'.vm = t.vm ∧ XC E st₀ t ∧ t.heap[q]? = some ce ∧ ce.vm = .none ∧ s.vm.findClass E = some ce.cls ∧
      Steps p.tables e below (T.setTop g) ((T'.setTop { g with stack := rest }).pushFrame (.throwing q)))
def vx_X {S : Type} (px : S → Prop) (B : String → S → State → Prop) (A : Nat → Prop) : String → State → State → Prop := fun E st t => ∃ u : S, px u ∧ B E u t ∧ va_F A st t
section Runs
variable {p : Program} {l : Launch} {e : Env} {R : Room} {s : State} {m : MethodId} {args : Array Value} {below : List Frame} {meth : Method} {c : Code} {H : Heap} {locs : List Loc} {cells slots : Nat}
variable {y : MethodName} {bytes cc : ByteArray} {maxL nL mc ms n index : Nat} {ret : Option FieldType} {ws : List Cond} {rm : Room} {Pc : Array Value → State → Prop} {Qc : Array Value → State → Outcome → State → Prop} {XC : String → State → State → Prop} {free : Addr → Prop} {Ts : List Cond} {own C : String} {b : Addr} {As rest : List Value} {g : JFrame}
theorem vx_callBack (cb : CallB R s args own index y bytes maxL ret ws rm mc ms n) (hM : vx_Met l y ws rm Pc Qc XC mc ms free) (hbl : FrameBlind Pc) : vx_Back l R p e below s args y 3 8 (PreOf R mc ms Pc) (PostOf Qc mc ms free) (vx_Post XC mc ms free) := by
  obtain ⟨hrc, hrs, hfr, hlo, hws, hcw, -, hini, -⟩ := cb
  exact vx_back (bytes := bytes) (maxL := maxL) (ret := ret) hM hbl hrc hrs hfr hlo hws hcw (fun a' U hW => word_at hW (Or.inl (by first | rfl | simp [Cond.onTables, Cond.keeps, Cond.steady])) hini)
theorem vx_runV (S : CallFix p m c cc nL s args Ts own) (hM : vx_Met l y ws rm Pc Qc XC mc ms free) (cw : CallW R s args own C index y bytes maxL ret ws rm mc ms n) (hp : PreV s H C b Pc As)
    (hg : g.method = m) (hn : As.length = n) (hsize : g.locals.size = nL) (hstack : g.stack = As.reverse ++ .ref b :: rest) (hW : 2 * g.monitorRoom + (rest.map fun v => v.category).sum ≤ 8) (hdg : decode cc g.pc = .ok (.invokevirtual index, 3)) (hf : cells + mc ≤ R.cells ∧ slots + ms ≤ R.slots) :
    vx_Run p l e R s m args below meth c H locs cells slots mc ms g rest (Qc (Value.ref b :: As).toArray) XC free := by
  have hK : vx_Back l R p e below s args y 3 8 (PreOf R mc ms Pc) (PostOf Qc mc ms free) (vx_Post XC mc ms free) := vx_callBack cw.1 hM hp.1
  obtain ⟨⟨-, -, -, -, -, -, hcode, -, hy, hlen, hl⟩, hin, hse⟩ := cw
  obtain ⟨hx, hb, hml, ho, -⟩ := S
  obtain ⟨-, ⟨cellB, hcB, hoB, hclB⟩, hPc⟩ := hp
  intro T hT X
  rcases vx_callV X hx (C := C) (bytes := bytes) (maxL := maxL) (ret := ret) ho hl hin hse hcode hy hK (by rw [hT]; exact hcB) hoB hclB hg (hsize.trans hml.symm) (argsL := As) (rest := rest) (fun sig h => hn.trans (hlen sig h)) hstack hW (by rw [hb]; exact hdg)
    (fun vm₁ hW₁ => ⟨hf.1, hf.2, hPc (T.setVm vm₁) hT hW₁⟩) with ⟨v, vm₁, ⟨U', l2, c2, s2⟩, hW₁, X', ⟨g', mk, t, L, e1, e2, hq, h1, hL, h2, h3⟩, st⟩ | ⟨q, vm₁, ⟨U', l2, c2, s2⟩, hW₁, X', ⟨g', mk, t, L, E, ce, e1, e2, hq, hce, hcv, hcl, h1, hL, h2, h3⟩, st⟩
  · dsimp only [Pt.U, Pt.locs, Pt.cells, Pt.slots] at X' e1 e2 h1 h2 h3 st
    subst h1; subst h2; subst h3
    exact Or.inl ⟨v, (T.setVm vm₁).calling g' mk (Value.ref b :: As).toArray, t, U', L, hT, X', hL, e1, e2, hq, st⟩
  · dsimp only [Pt.U, Pt.locs, Pt.cells, Pt.slots] at X' e1 e2 h1 h2 h3 st hcl
    subst h1; subst h2; subst h3
    exact Or.inr ⟨q, (T.setVm vm₁).calling g' mk (Value.ref b :: As).toArray, t, U', L, E, ce, hT, X', hL, e1, e2, hq, hce, hcv, vx_cls hW₁ hcl, st⟩
theorem vx_runS (S : CallFix p m c cc nL s args Ts own) (hM : vx_Met l y ws rm Pc Qc XC mc ms free) (cw : CallB R s args own index y bytes maxL ret ws rm mc ms n ∧ (Cond.static y).before args s = true) (hp : PreS s H Pc As)
    (hg : g.method = m) (hn : As.length = n) (hsize : g.locals.size = nL) (hstack : g.stack = As.reverse ++ rest) (hW : 2 * g.monitorRoom + (rest.map fun v => v.category).sum ≤ 8) (hdg : decode cc g.pc = .ok (.invokestatic index, 3)) (hf : cells + mc ≤ R.cells ∧ slots + ms ≤ R.slots) :
    vx_Run p l e R s m args below meth c H locs cells slots mc ms g rest (Qc As.toArray) XC free := by
  have hK : vx_Back l R p e below s args y 3 8 (PreOf R mc ms Pc) (PostOf Qc mc ms free) (vx_Post XC mc ms free) := vx_callBack cw.1 hM hp.1
  obtain ⟨⟨-, -, -, -, -, -, hcode, hini, hy, hlen, hl⟩, hstt⟩ := cw
  obtain ⟨hx, hb, hml, ho, -⟩ := S
  intro T hT X
  rcases vx_callS X hx (bytes := bytes) (maxL := maxL) (ret := ret) ho hl hstt hini hcode hy hK hg (hsize.trans hml.symm) (argsL := As) (rest := rest) (fun sig h => hn.trans (hlen sig h)) hstack hW (by rw [hb]; exact hdg)
    (fun vm₁ hW₁ => ⟨hf.1, hf.2, hp.2 (T.setVm vm₁) hT hW₁⟩) with ⟨v, vm₁, ⟨U', l2, c2, s2⟩, hW₁, X', ⟨g', mk, t, L, e1, e2, hq, h1, hL, h2, h3⟩, st⟩ | ⟨q, vm₁, ⟨U', l2, c2, s2⟩, hW₁, X', ⟨g', mk, t, L, E, ce, e1, e2, hq, hce, hcv, hcl, h1, hL, h2, h3⟩, st⟩
  · dsimp only [Pt.U, Pt.locs, Pt.cells, Pt.slots] at X' e1 e2 h1 h2 h3 st
    subst h1; subst h2; subst h3
    exact Or.inl ⟨v, (T.setVm vm₁).calling g' mk As.toArray, t, U', L, hT, X', hL, e1, e2, hq, st⟩
  · dsimp only [Pt.U, Pt.locs, Pt.cells, Pt.slots] at X' e1 e2 h1 h2 h3 st hcl
    subst h1; subst h2; subst h3
    exact Or.inr ⟨q, (T.setVm vm₁).calling g' mk As.toArray, t, U', L, E, ce, hT, X', hL, e1, e2, hq, hce, hcv, vx_cls hW₁ hcl, st⟩
end Runs
section Rows
variable {p : Program} {l : Launch} {e : Env} {R : Room} {s : State} {m : MethodId} {args : Array Value} {below : List Frame} {meth : Method} {c : Code} {H : Heap} {locs : List Loc} {cells slots : Nat} {Q : State → Prop}
variable {mc ms : Nat} {free : Addr → Prop} {A0 A1 : Nat → Prop} {H0 : Heap} {a : Array Value} {pc : Nat} {ls : Array Slot} {st0 rest : List Value}
theorem vx_keep {st₀ t T' : State} {L : List Loc} (h0 : st₀.heap = H) (e1 : T'.heap = t.heap) (hS : va_S A0 H0 H locs) (hA : ∀ q, q < H.size → A1 q → A0 q) (hf : ∀ q, free q → A0 q) (hL : ∀ q ∈ L, free q.base) (hF : va_F A1 st₀ t) :
    H.size ≤ T'.heap.size ∧ (∀ q : Nat, q < H.size → ¬ A1 q → T'.heap[q]? = H[q]?) ∧ va_S A0 H0 T'.heap (locs ++ L) := by
  obtain ⟨hz, hk⟩ := hF
  rw [h0] at hz hk
  exact ⟨by rw [e1]; exact hz, fun q h1 h2 => by rw [e1]; exact hk q h1 h2,
    ⟨Nat.le_trans hS.1 (by rw [e1]; exact hz), fun q h1 h2 => by rw [e1, hk q (Nat.lt_of_lt_of_le h1 hS.1) (fun z => h2 (hA q (Nat.lt_of_lt_of_le h1 hS.1) z))]; exact hS.2.1 q h1 h2, fun q hq => by
      rcases List.mem_append.mp hq with h | h
      · exact hS.2.2 q h
      · exact hf _ (hL q h)⟩⟩
theorem vx_calli {S SX : Type} {post : Int32 → S → Prop} {px : SX → Prop} {B : S → State → Prop} {BX : String → SX → State → Prop} {AX : Nat → Prop} (hr : vx_Run p l e R s m args below meth c H locs cells slots mc ms (F0 m pc ls st0) rest (va_Qi post B A1 a) (vx_X px BX AX) free) (hS : va_S A0 H0 H locs) (hA : ∀ q, q < H.size → A1 q → A0 q) (hf : ∀ q, free q → A0 q) (hAX : ∀ q, q < H.size → AX q → A0 q)
    (kx : ∀ (E : String) (ce : Cell) (q9 : Addr) (u : SX) (t : State) (H1 : Heap) (locs1 : List Loc), t.heap = H1 → s.vm.Alike t.vm → px u → BX E u t → H.size ≤ H1.size → (∀ q : Nat, q < H.size → ¬ AX q → H1[q]? = H[q]?) → va_S A0 H0 H1 locs1 → H1[q9]? = some ce → ce.vm = .none → s.vm.findClass E = some ce.cls → vx_W p l e R s m args below meth c H1 locs1 (cells + mc) (slots + ms) Q (F0 m pc ls rest) q9)
    (kk : ∀ (r : Int32) (u : S) (t : State) (H1 : Heap) (locs1 : List Loc), t.heap = H1 → s.vm.Alike t.vm → post r u → B u t → H.size ≤ H1.size → (∀ q : Nat, q < H.size → ¬ A1 q → H1[q]? = H[q]?) → va_S A0 H0 H1 locs1 → W p l e R s m args below meth c H1 locs1 (cells + mc) (slots + ms) Q (F0 m (pc + 3) ls (.int r :: rest))) : W p l e R s m args below meth c H locs cells slots Q (F0 m pc ls st0) := by
  intro T hT X
  rcases hr T hT X with ⟨v, st₀, t, T', L, h0, X', hL, e1, e2, ⟨⟨r, u, hv, hp, hb⟩, hF⟩, st⟩ | ⟨q, st₀, t, T', L, E, ce, h0, X', hL, e1, e2, ⟨u, hp, hb, hF⟩, hce, hcv, hcl, st⟩
  · cases hv
    obtain ⟨k1, k2, k3⟩ := vx_keep h0 e1 hS hA hf hL hF
    obtain ⟨t2, a1, b1⟩ := kk r u t T'.heap (locs ++ L) e1.symm (by rw [← e2]; exact X'.warmed.alike) hp hb k1 k2 k3 T' rfl X'
    exact ⟨t2, st t2 a1, b1⟩
  · obtain ⟨k1, k2, k3⟩ := vx_keep h0 e1 hS hAX hf hL hF
    obtain ⟨t2, a1, b1⟩ := kx E ce q u t T'.heap (locs ++ L) e1.symm (by rw [← e2]; exact X'.warmed.alike) hp hb k1 k2 k3 (by rw [e1]; exact hce) hcv hcl T' rfl X'
    exact ⟨t2, st.trans a1, b1⟩
theorem vx_calll {S SX : Type} {post : Int64 → S → Prop} {px : SX → Prop} {B : S → State → Prop} {BX : String → SX → State → Prop} {AX : Nat → Prop} (hr : vx_Run p l e R s m args below meth c H locs cells slots mc ms (F0 m pc ls st0) rest (va_Ql post B A1 a) (vx_X px BX AX) free) (hS : va_S A0 H0 H locs) (hA : ∀ q, q < H.size → A1 q → A0 q) (hf : ∀ q, free q → A0 q) (hAX : ∀ q, q < H.size → AX q → A0 q)
    (kx : ∀ (E : String) (ce : Cell) (q9 : Addr) (u : SX) (t : State) (H1 : Heap) (locs1 : List Loc), t.heap = H1 → s.vm.Alike t.vm → px u → BX E u t → H.size ≤ H1.size → (∀ q : Nat, q < H.size → ¬ AX q → H1[q]? = H[q]?) → va_S A0 H0 H1 locs1 → H1[q9]? = some ce → ce.vm = .none → s.vm.findClass E = some ce.cls → vx_W p l e R s m args below meth c H1 locs1 (cells + mc) (slots + ms) Q (F0 m pc ls rest) q9)
    (kk : ∀ (r : Int64) (u : S) (t : State) (H1 : Heap) (locs1 : List Loc), t.heap = H1 → s.vm.Alike t.vm → post r u → B u t → H.size ≤ H1.size → (∀ q : Nat, q < H.size → ¬ A1 q → H1[q]? = H[q]?) → va_S A0 H0 H1 locs1 → W p l e R s m args below meth c H1 locs1 (cells + mc) (slots + ms) Q (F0 m (pc + 3) ls (.long r :: rest))) : W p l e R s m args below meth c H locs cells slots Q (F0 m pc ls st0) := by
  intro T hT X
  rcases hr T hT X with ⟨v, st₀, t, T', L, h0, X', hL, e1, e2, ⟨⟨r, u, hv, hp, hb⟩, hF⟩, st⟩ | ⟨q, st₀, t, T', L, E, ce, h0, X', hL, e1, e2, ⟨u, hp, hb, hF⟩, hce, hcv, hcl, st⟩
  · cases hv
    obtain ⟨k1, k2, k3⟩ := vx_keep h0 e1 hS hA hf hL hF
    obtain ⟨t2, a1, b1⟩ := kk r u t T'.heap (locs ++ L) e1.symm (by rw [← e2]; exact X'.warmed.alike) hp hb k1 k2 k3 T' rfl X'
    exact ⟨t2, st t2 a1, b1⟩
  · obtain ⟨k1, k2, k3⟩ := vx_keep h0 e1 hS hAX hf hL hF
    obtain ⟨t2, a1, b1⟩ := kx E ce q u t T'.heap (locs ++ L) e1.symm (by rw [← e2]; exact X'.warmed.alike) hp hb k1 k2 k3 (by rw [e1]; exact hce) hcv hcl T' rfl X'
    exact ⟨t2, st.trans a1, b1⟩
theorem vx_callf {S SX : Type} {post : UInt32 → S → Prop} {px : SX → Prop} {B : S → State → Prop} {BX : String → SX → State → Prop} {AX : Nat → Prop} (hr : vx_Run p l e R s m args below meth c H locs cells slots mc ms (F0 m pc ls st0) rest (va_Qf post B A1 a) (vx_X px BX AX) free) (hS : va_S A0 H0 H locs) (hA : ∀ q, q < H.size → A1 q → A0 q) (hf : ∀ q, free q → A0 q) (hAX : ∀ q, q < H.size → AX q → A0 q)
    (kx : ∀ (E : String) (ce : Cell) (q9 : Addr) (u : SX) (t : State) (H1 : Heap) (locs1 : List Loc), t.heap = H1 → s.vm.Alike t.vm → px u → BX E u t → H.size ≤ H1.size → (∀ q : Nat, q < H.size → ¬ AX q → H1[q]? = H[q]?) → va_S A0 H0 H1 locs1 → H1[q9]? = some ce → ce.vm = .none → s.vm.findClass E = some ce.cls → vx_W p l e R s m args below meth c H1 locs1 (cells + mc) (slots + ms) Q (F0 m pc ls rest) q9)
    (kk : ∀ (r : UInt32) (u : S) (t : State) (H1 : Heap) (locs1 : List Loc), t.heap = H1 → s.vm.Alike t.vm → post r u → B u t → H.size ≤ H1.size → (∀ q : Nat, q < H.size → ¬ A1 q → H1[q]? = H[q]?) → va_S A0 H0 H1 locs1 → W p l e R s m args below meth c H1 locs1 (cells + mc) (slots + ms) Q (F0 m (pc + 3) ls (.float r :: rest))) : W p l e R s m args below meth c H locs cells slots Q (F0 m pc ls st0) := by
  intro T hT X
  rcases hr T hT X with ⟨v, st₀, t, T', L, h0, X', hL, e1, e2, ⟨⟨r, u, hv, hp, hb⟩, hF⟩, st⟩ | ⟨q, st₀, t, T', L, E, ce, h0, X', hL, e1, e2, ⟨u, hp, hb, hF⟩, hce, hcv, hcl, st⟩
  · cases hv
    obtain ⟨k1, k2, k3⟩ := vx_keep h0 e1 hS hA hf hL hF
    obtain ⟨t2, a1, b1⟩ := kk r u t T'.heap (locs ++ L) e1.symm (by rw [← e2]; exact X'.warmed.alike) hp hb k1 k2 k3 T' rfl X'
    exact ⟨t2, st t2 a1, b1⟩
  · obtain ⟨k1, k2, k3⟩ := vx_keep h0 e1 hS hAX hf hL hF
    obtain ⟨t2, a1, b1⟩ := kx E ce q u t T'.heap (locs ++ L) e1.symm (by rw [← e2]; exact X'.warmed.alike) hp hb k1 k2 k3 (by rw [e1]; exact hce) hcv hcl T' rfl X'
    exact ⟨t2, st.trans a1, b1⟩
theorem vx_calld {S SX : Type} {post : UInt64 → S → Prop} {px : SX → Prop} {B : S → State → Prop} {BX : String → SX → State → Prop} {AX : Nat → Prop} (hr : vx_Run p l e R s m args below meth c H locs cells slots mc ms (F0 m pc ls st0) rest (va_Qd post B A1 a) (vx_X px BX AX) free) (hS : va_S A0 H0 H locs) (hA : ∀ q, q < H.size → A1 q → A0 q) (hf : ∀ q, free q → A0 q) (hAX : ∀ q, q < H.size → AX q → A0 q)
    (kx : ∀ (E : String) (ce : Cell) (q9 : Addr) (u : SX) (t : State) (H1 : Heap) (locs1 : List Loc), t.heap = H1 → s.vm.Alike t.vm → px u → BX E u t → H.size ≤ H1.size → (∀ q : Nat, q < H.size → ¬ AX q → H1[q]? = H[q]?) → va_S A0 H0 H1 locs1 → H1[q9]? = some ce → ce.vm = .none → s.vm.findClass E = some ce.cls → vx_W p l e R s m args below meth c H1 locs1 (cells + mc) (slots + ms) Q (F0 m pc ls rest) q9)
    (kk : ∀ (r : UInt64) (u : S) (t : State) (H1 : Heap) (locs1 : List Loc), t.heap = H1 → s.vm.Alike t.vm → post r u → B u t → H.size ≤ H1.size → (∀ q : Nat, q < H.size → ¬ A1 q → H1[q]? = H[q]?) → va_S A0 H0 H1 locs1 → W p l e R s m args below meth c H1 locs1 (cells + mc) (slots + ms) Q (F0 m (pc + 3) ls (.double r :: rest))) : W p l e R s m args below meth c H locs cells slots Q (F0 m pc ls st0) := by
  intro T hT X
  rcases hr T hT X with ⟨v, st₀, t, T', L, h0, X', hL, e1, e2, ⟨⟨r, u, hv, hp, hb⟩, hF⟩, st⟩ | ⟨q, st₀, t, T', L, E, ce, h0, X', hL, e1, e2, ⟨u, hp, hb, hF⟩, hce, hcv, hcl, st⟩
  · cases hv
    obtain ⟨k1, k2, k3⟩ := vx_keep h0 e1 hS hA hf hL hF
    obtain ⟨t2, a1, b1⟩ := kk r u t T'.heap (locs ++ L) e1.symm (by rw [← e2]; exact X'.warmed.alike) hp hb k1 k2 k3 T' rfl X'
    exact ⟨t2, st t2 a1, b1⟩
  · obtain ⟨k1, k2, k3⟩ := vx_keep h0 e1 hS hAX hf hL hF
    obtain ⟨t2, a1, b1⟩ := kx E ce q u t T'.heap (locs ++ L) e1.symm (by rw [← e2]; exact X'.warmed.alike) hp hb k1 k2 k3 (by rw [e1]; exact hce) hcv hcl T' rfl X'
    exact ⟨t2, st.trans a1, b1⟩
theorem vx_callv {S SX : Type} {post : S → Prop} {px : SX → Prop} {B : S → State → Prop} {BX : String → SX → State → Prop} {AX : Nat → Prop} (hr : vx_Run p l e R s m args below meth c H locs cells slots mc ms (F0 m pc ls st0) rest (va_Qv post B A1 a) (vx_X px BX AX) free) (hS : va_S A0 H0 H locs) (hA : ∀ q, q < H.size → A1 q → A0 q) (hf : ∀ q, free q → A0 q) (hAX : ∀ q, q < H.size → AX q → A0 q)
    (kx : ∀ (E : String) (ce : Cell) (q9 : Addr) (u : SX) (t : State) (H1 : Heap) (locs1 : List Loc), t.heap = H1 → s.vm.Alike t.vm → px u → BX E u t → H.size ≤ H1.size → (∀ q : Nat, q < H.size → ¬ AX q → H1[q]? = H[q]?) → va_S A0 H0 H1 locs1 → H1[q9]? = some ce → ce.vm = .none → s.vm.findClass E = some ce.cls → vx_W p l e R s m args below meth c H1 locs1 (cells + mc) (slots + ms) Q (F0 m pc ls rest) q9)
    (kk : ∀ (u : S) (t : State) (H1 : Heap) (locs1 : List Loc), t.heap = H1 → s.vm.Alike t.vm → post u → B u t → H.size ≤ H1.size → (∀ q : Nat, q < H.size → ¬ A1 q → H1[q]? = H[q]?) → va_S A0 H0 H1 locs1 → W p l e R s m args below meth c H1 locs1 (cells + mc) (slots + ms) Q (F0 m (pc + 3) ls (rest))) : W p l e R s m args below meth c H locs cells slots Q (F0 m pc ls st0) := by
  intro T hT X
  rcases hr T hT X with ⟨v, st₀, t, T', L, h0, X', hL, e1, e2, ⟨⟨u, hv, hp, hb⟩, hF⟩, st⟩ | ⟨q, st₀, t, T', L, E, ce, h0, X', hL, e1, e2, ⟨u, hp, hb, hF⟩, hce, hcv, hcl, st⟩
  · cases hv
    obtain ⟨k1, k2, k3⟩ := vx_keep h0 e1 hS hA hf hL hF
    obtain ⟨t2, a1, b1⟩ := kk u t T'.heap (locs ++ L) e1.symm (by rw [← e2]; exact X'.warmed.alike) hp hb k1 k2 k3 T' rfl X'
    exact ⟨t2, st t2 a1, b1⟩
  · obtain ⟨k1, k2, k3⟩ := vx_keep h0 e1 hS hAX hf hL hF
    obtain ⟨t2, a1, b1⟩ := kx E ce q u t T'.heap (locs ++ L) e1.symm (by rw [← e2]; exact X'.warmed.alike) hp hb k1 k2 k3 (by rw [e1]; exact hce) hcv hcl T' rfl X'
    exact ⟨t2, st.trans a1, b1⟩
/-- caught by the row x of this method's table; the rows ahead don't take it -/
theorem vx_catch {own name : String} {E : String} {ce : Cell} {q : Addr} (hown : s.vm.findClass own = some m.cls) (pre : List ExceptionTableEntry) (x : ExceptionTableEntry) (suf : List ExceptionTableEntry) (hsplit : c.exceptionTable.toList = pre ++ x :: suf)
    (hpass : ∀ z ∈ pre, covers z pc = false ∨ (z.catchType ≠ 0 ∧ ∃ nm : String, (Cond.classLink own z.catchType nm).before args s = true ∧ va_Nc E nm s)) (hx : covers x pc = true) (h0 : x.catchType ≠ 0)
    (hlink : (Cond.classLink own x.catchType name).before args s = true) (hcast : (Cond.castable E name).before args s = true) (hcell : H[q]? = some ce) (hv : ce.vm = .none) (hcl : s.vm.findClass E = some ce.cls)
    (kk : W p l e R s m args below meth c H locs cells slots Q (F0 m x.handlerPc ls [.ref q])) : vx_W p l e R s m args below meth c H locs cells slots Q (F0 m pc ls rest) q := by
  intro T hT X
  have hpl : e.platform.magicAccessors = ({} : Platform).magicAccessors := by rw [X.admits.platform]
  obtain ⟨c3, c4, hc3, hc4, hasg⟩ := Cond.castable_spec hcast
  cases Option.some.inj (hc3.symm.trans hcl)
  obtain ⟨c5, hc5, hcl5⟩ := Cond.classLink_spec hown hlink e.platform hpl
  cases Option.some.inj (hc4.symm.trans hc5)
  obtain ⟨vm', X', st⟩ := X.thenCaughtThrough q (g := F0 m pc ls rest) rfl (Steps.refl _) (by rw [hT]; exact hcell) (by rw [hv]; rfl) (by obtain ⟨k9, h9, -⟩ := Vm.findClass_spec hcl; exact ⟨k9, h9⟩) pre x suf hsplit
    (fun z hz => by
      rcases hpass z hz with h | ⟨hz0, nm, hl1, hn1⟩
      · exact Or.inl h
      · obtain ⟨c6, hc6, hcl6⟩ := Cond.classLink_spec hown hl1 e.platform hpl
        obtain ⟨a8, b8, h1, h2, h3⟩ := hn1
        cases Option.some.inj (h1.symm.trans hcl)
        cases Option.some.inj (h2.symm.trans hc6)
        exact Or.inr ⟨hz0, _, hcl6, h3⟩) hx (Or.inr ⟨h0, c4, hcl5, hasg⟩)
  obtain ⟨t, a1, b1⟩ := kk (T.setVm vm') hT X'
  exact ⟨t, st.trans a1, b1⟩
end Rows
section Ends
variable {p : Program} {l : Launch} {e : Env} {R : Room} {s : State} {m : MethodId} {args : Array Value} {below : List Frame} {meth : Method} {c : Code} {H : Heap} {locs : List Loc} {cells slots : Nat} {Q : State → Prop}
variable {mc ms : Nat} {free : Addr → Prop} {A0 A1 : Nat → Prop} {H0 : Heap} {a : Array Value} {ls : Array Slot} {st0 rest : List Value}
variable {Qc : Array Value → State → Outcome → State → Prop} {XC : String → State → State → Prop}
/-- what a body that may throw owes at its end -/
def vx_MQ (below : List Frame) (Qc : Array Value → State → Outcome → State → Prop) (XC : String → State → State → Prop) (a : Array Value) (s : State) (mc ms : Nat) (free : Addr → Prop) : State → Prop := fun t =>
  ∃ o, t.status = .running ∧ Ended t below o ∧ vx_Q Qc XC mc ms free a s o t
theorem vx_ret {g : JFrame} {mc ms : Nat} (k : W p l e R s m args below meth c H locs cells slots (MQ below Qc args s mc ms free) g) : W p l e R s m args below meth c H locs cells slots (vx_MQ below Qc XC args s mc ms free) g := by
  intro T hT X
  obtain ⟨t, a1, o, b1, b2, b3, b4⟩ := k T hT X
  exact ⟨t, a1, o, b1, b2, Or.inl ⟨b3, b4⟩⟩
/-- not caught here: it goes on to the caller -/
theorem vx_widen {g : JFrame} {q : Addr} {k n : Nat} (h1 : cells ≤ k) (h2 : slots ≤ n) (kk : vx_W p l e R s m args below meth c H locs k n Q g q) : vx_W p l e R s m args below meth c H locs cells slots Q g q := fun T hT X => kk T hT (stand_widen X h1 h2)
theorem vx_out {pc : Nat} {E : String} {ce : Cell} {q : Addr} {mc ms : Nat} (hout : ∀ x ∈ c.exceptionTable.toList, covers x pc = false) (hlocks : meth.locks = false) (hcell : H[q]? = some ce) (hv : ce.vm = .none) (hcl : s.vm.findClass E = some ce.cls)
    (hx : ∀ t : State, t.heap = H → s.vm.Alike t.vm → XC E s t) (hf : ∀ z ∈ locs, free z.base) (hc : cells ≤ mc) (hs : slots ≤ ms) :
    vx_W p l e R s m args below meth c H locs cells slots (vx_MQ below Qc XC args s mc ms free) (F0 m pc ls rest) q := by
  intro T hT X
  obtain ⟨st1, hrun, hend, hW, hsm⟩ := X.leaveThrown q (g := F0 m pc ls rest) rfl rfl rfl hout hlocks
  have hcell9 : (T.setFrames (.throwing q :: below)).heap[q]? = some ce := by
    show T.heap[q]? = some ce
    rw [hT]; exact hcell
  exact ⟨_, st1, .threw q, hrun, hend, Or.inr ⟨q, rfl, E, ce, locs, hx _ hT hW.alike, hcell9, hv, hcl, hW, hsm.mono hc hs, hf⟩⟩
theorem vx_frame {U : State} {k n : Nat} (h : s.sameButNew ({ U with vm := s.vm } : State) locs k n) : s.heap.size ≤ U.heap.size ∧ ∀ q : Nat, q < s.heap.size → (∀ z ∈ locs, z.base ≠ q) → U.heap[q]? = s.heap[q]? := by
  obtain ⟨-, h2, -, -, -, h6⟩ := h
  refine ⟨h2, fun q hq hz => ?_⟩
  obtain ⟨c9, e1, e2, e3, e4⟩ := h6 q _ (Array.getElem?_eq_getElem hq)
  have hs : c9.slots = (s.heap[q]).slots := Array.ext_getElem? fun i => e4 i fun hm => hz _ hm rfl
  have h9 : c9 = s.heap[q] := by
    rw [hs] at e2
    exact e2
  have e5 : U.heap[q]? = some c9 := e1
  rw [e5, h9, Array.getElem?_eq_getElem hq]
/-- the words of a throw but the four that speak of the heap -/
def vx_no (w : Cond) : Bool := decide (w ≠ .isRef (.static Bundle.tN "UNASSIGNED_STACK" Bundle.steD)) && decide (w ≠ .isRef (.static Bundle.tN "SUPPRESSED_SENTINEL" Bundle.listD)) && decide (w ≠ .laysStatic Bundle.tN "UNASSIGNED_STACK" Bundle.steD) && decide (w ≠ .laysStatic Bundle.tN "SUPPRESSED_SENTINEL" Bundle.listD)
def vx_at0 (own : String) (ic : Nat) (X : String) (names : List String) : List Cond := (Bundle.ownAtoms0 own ic X names).filter vx_no
def vx_atS (own : String) (ic : Nat) (X : String) (names : List String) : List Cond := (Bundle.ownAtoms own ic X names).filter vx_no
/-- a word that the tables alone decide, or a good one -/
def vx_ot (w : Cond) : Bool := w.onTables || goodWord w
theorem vx_ot_at {args a' : Array Value} {s U : State} {w : Cond} (hW : s.WarmedH U.vm) (hvm : s.vm = U.vm) (hg : vx_ot w = true) (h : w.before args s = true) : w.before a' U = true := by
  simp only [vx_ot, Bool.or_eq_true] at hg
  rcases hg with hg | hg
  · exact va_tabs hg hvm h
  · exact word_at hW (good_of_word hg) h
/-- a list's words: the good ones out of the method's own list, the others by premises of their own -/
theorem vx_hat {args : Array Value} {s : State} {L B : List Cond} (h1 : ∀ w ∈ L.filter goodWord, w.before args s = true) (h2 : ∀ w ∈ L.filter (fun w => !goodWord w), w ∈ B) (h3 : ∀ w ∈ B, w.before args s = true) : ∀ w ∈ L, w.before args s = true := by
  intro w hw
  by_cases g : goodWord w = true
  · exact h1 w (List.mem_filter.mpr ⟨hw, g⟩)
  · refine h3 w (h2 w (List.mem_filter.mpr ⟨hw, ?_⟩))
    show (!goodWord w) = true
    cases hgw : goodWord w
    · rfl
    · exact absurd hgw g
theorem vx_c {args : Array Value} {s : State} {w : Cond} {B : List Cond} (h : w.before args s = true) (t : ∀ w ∈ B, w.before args s = true) : ∀ w' ∈ w :: B, w'.before args s = true := fun w' h' => (List.mem_cons.mp h').elim (fun e => by rw [e]; exact h) (t w')
theorem vx_n {args : Array Value} {s : State} : ∀ w ∈ ([] : List Cond), w.before args s = true := fun _ h => nomatch h
theorem vx_own {args : Array Value} {s : State} {L : List Cond} (h1 : ∀ w ∈ L.filter vx_no, w.before args s = true)
    (hU : (Cond.isRef (.static Bundle.tN "UNASSIGNED_STACK" Bundle.steD)).before args s = true) (hN : (Cond.isRef (.static Bundle.tN "SUPPRESSED_SENTINEL" Bundle.listD)).before args s = true)
    (lU : (Cond.laysStatic Bundle.tN "UNASSIGNED_STACK" Bundle.steD).before args s = true) (lN : (Cond.laysStatic Bundle.tN "SUPPRESSED_SENTINEL" Bundle.listD).before args s = true) : ∀ w ∈ L, w.before args s = true := by
  intro w hw
  by_cases e1 : w = .isRef (.static Bundle.tN "UNASSIGNED_STACK" Bundle.steD)
  · rw [e1]; exact hU
  · by_cases e2 : w = .isRef (.static Bundle.tN "SUPPRESSED_SENTINEL" Bundle.listD)
    · rw [e2]; exact hN
    · by_cases e3 : w = .laysStatic Bundle.tN "UNASSIGNED_STACK" Bundle.steD
      · rw [e3]; exact lU
      · by_cases e4 : w = .laysStatic Bundle.tN "SUPPRESSED_SENTINEL" Bundle.listD
        · rw [e4]; exact lN
        · exact h1 w (List.mem_filter.mpr ⟨hw, by unfold vx_no; rw [decide_eq_true e1, decide_eq_true e2, decide_eq_true e3, decide_eq_true e4]; rfl⟩)
/-- where a static field lies, its class's statics cell in H -/
def vx_L (C n d : String) (A : Nat → Prop) (U : State) (H : Heap) : Prop := ∃ (c : ClassId) (k : Class) (i : Nat) (f : Field) (a : Nat) (cell : Cell), U.vm.findClass C = some c ∧ U.fieldFound? C n d = some (c, k, i, f) ∧ f.isStatic = true ∧ k.statics = some a ∧ H[a]? = some cell ∧ cell.vm.isStatics = true ∧ cell.cls = c ∧ f.slot < cell.slots.size ∧ k.staticTypes[f.slot]? = some f.type ∧ ¬ A a
theorem vx_L.moved {C n d : String} {A : Nat → Prop} {u U : State} {H : Heap} (hvm : u.vm.Alike U.vm) (h : vx_L C n d A u H) : vx_L C n d A U H := by
  obtain ⟨c, k, i, f, a, cell, h1, h2, h3, h4, h5, h6, h7, h8, h9, h10⟩ := h
  obtain ⟨k', hi', he⟩ := State.fieldFound?_setVm hvm h2
  exact ⟨c, k', i, f, a, cell, by rw [hvm.findClass]; exact h1, hi', h3, by rw [he]; exact h4, h5, h6, h7, h8, by rw [he]; exact h9, h10⟩
theorem vx_L.kept {C n d : String} {A : Nat → Prop} {U : State} {H H1 : Heap} (h : vx_L C n d A U H) (hq : ∀ a : Nat, a < H.size → ¬ A a → H1[a]? = H[a]?) : vx_L C n d A U H1 := by
  obtain ⟨c, k, i, f, a, cell, h1, h2, h3, h4, h5, h6, h7, h8, h9, h10⟩ := h
  exact ⟨c, k, i, f, a, cell, h1, h2, h3, h4, by rw [hq a (Array.getElem?_eq_some_iff.mp h5).1 h10]; exact h5, h6, h7, h8, h9, h10⟩
theorem vx_L.narrow {C n d : String} {A B : Nat → Prop} {U : State} {H : Heap} (h : vx_L C n d A U H) (hAB : ∀ q, B q → A q) : vx_L C n d B U H := by
  obtain ⟨c, k, i, f, a, cell, h1, h2, h3, h4, h5, h6, h7, h8, h9, h10⟩ := h
  exact ⟨c, k, i, f, a, cell, h1, h2, h3, h4, h5, h6, h7, h8, h9, fun z => h10 (hAB _ z)⟩
theorem vx_L.word {C n d : String} {A : Nat → Prop} {s : State} {args : Array Value} (h : vx_L C n d A s s.heap) : (Cond.laysStatic C n d).before args s = true := by
  obtain ⟨c, k, i, f, a, cell, h1, h2, h3, h4, h5, h6, h7, h8, h9, -⟩ := h
  show (Cond.laysStatic C n d).holds args s none s [] = true
  exact Cond.laysStatic_of h1 h2 h3 h4 h5 h6 h7 h8 h9
/-- .. and what it holds: null or some reference -/
def vx_Zq (C n d : String) (A : Nat → Prop) (U : State) (H : Heap) : Prop := va_Zq C n d A U H ∧ vx_L C n d A U H
theorem vx_Zq.moved {C n d : String} {A : Nat → Prop} {u U : State} {H : Heap} (hvm : u.vm.Alike U.vm) (h : vx_Zq C n d A u H) : vx_Zq C n d A U H := ⟨va_Zq.moved hvm h.1, vx_L.moved hvm h.2⟩
theorem vx_Zq.kept {C n d : String} {A : Nat → Prop} {U : State} {H H1 : Heap} (h : vx_Zq C n d A U H) (hq : ∀ a : Nat, a < H.size → ¬ A a → H1[a]? = H[a]?) : vx_Zq C n d A U H1 := ⟨va_Zq.kept h.1 hq, vx_L.kept h.2 hq⟩
theorem vx_Zq.narrow {C n d : String} {A B : Nat → Prop} {U : State} {H : Heap} (h : vx_Zq C n d A U H) (hAB : ∀ q, B q → A q) : vx_Zq C n d B U H := ⟨va_Zq.narrow h.1 hAB, vx_L.narrow h.2 hAB⟩
theorem vx_Zqof {args : Array Value} {s : State} {C n d : String} {A : Nat → Prop} (hl : (Cond.laysStatic C n d).before args s = true) (hini : (Cond.initialized C).before args s = true) (h : (Cond.isRef (.static C n d)).before args s = true) (hA : ∀ a : Nat, a < s.heap.size → ¬ A a) : vx_Zq C n d A s s.heap := by
  refine ⟨va_Zqof hl hini h hA, ?_⟩
  obtain ⟨c, k, i, f, a, cell, h1, h2, h3, h4, h5, h6, h7, h8, h9⟩ := Cond.laysStatic_spec hl
  exact ⟨c, k, i, f, a, cell, h1, h2, h3, h4, h5, h6, h7, h8, h9, hA a (Array.getElem?_eq_some_iff.mp h5).1⟩
theorem vx_isRef {C n d : String} {v : Value} {A : Nat → Prop} {s : State} {args : Array Value} (h : va_Z C n d v A s s.heap) (hv : v.isRef = true) : (Cond.isRef (.static C n d)).before args s = true := by
  obtain ⟨cf, kf, fi, f, a, cell, h1, h2, h3, h4, h5, h6, h7, -⟩ := h
  have he : (Term.static C n d).eval args s none [] s = some v := by
    simp [Term.eval, State.fieldNamed?, h1, h2, h4, h5, h6, h7]
  simp only [Cond.before, Cond.holds, Cond.value, he]
  cases v <;> simp_all [Value.isRef]
theorem vx_isRefq {C n d : String} {A : Nat → Prop} {s : State} {args : Array Value} (h : va_Zq C n d A s s.heap) : (Cond.isRef (.static C n d)).before args s = true := by
  rcases h with h | ⟨t, h⟩
  · exact vx_isRef h rfl
  · exact vx_isRef h rfl
/-- the same frame, seen from here: as if the method were called anew in this heap -/
theorem vx_rebase {T : State} (X : Stand p l e R s m args below meth c T locs cells slots) {R' : Room} (hf : R'.frames ≤ R.frames) (hl : R'.locals ≤ R.locals) (hc : cells + R'.cells ≤ R.cells) (hs : slots + R'.slots ≤ R.slots) :
    Stand p l e R' ((T.setVm s.vm).setFrames (.invoking m args :: below)) m args below meth c T [] 0 0 := by
  have htop : (T.setVm s.vm).topJava?.isSome := X.here.top
  have hF : ((T.setVm s.vm).setFrames (.invoking m args :: below)).frames = .invoking m args :: below := State.frames_setFrames _ (State.cur_lt_of_top htop)
  obtain ⟨g₀, hg0⟩ := Option.isSome_iff_exists.mp htop
  obtain ⟨r, hr⟩ := State.topJava?_eq_some.mp hg0
  have hl9 : e.platform.stackLimits (T.setVm s.vm).me = e.platform.stackLimits s.me := X.limits
  have hb9 : (T.setVm s.vm).me.stackBytes = s.me.stackBytes := X.bytes
  refine ⟨X.admits, X.cas, X.clock, hF, ?_, X.hears, X.method, X.code, X.here, X.tail, X.warmed, ?_, ?_, ?_⟩
  · have h := X.room
    have hU : ((T.setVm s.vm).setFrames (.invoking m args :: below)).localsInUse = s.localsInUse := by
      rw [State.localsInUse_invoking hF (meth := meth) (c := c) X.method X.code, State.localsInUse_invoking X.frames X.method X.code]
    simp only [State.hasRoom, Bool.and_eq_true, decide_eq_true_eq] at h ⊢
    obtain ⟨⟨⟨⟨h1, h2, h3, h4, h5, h6⟩, h7⟩, h8⟩, h9⟩ := h
    rw [X.frames, List.length_cons] at h2 h3
    have q1 := X.heapSize
    have q2 := X.used
    simp only [hF, hU, List.length_cons, State.stackLimits_setFrames, State.stackBytes_setFrames, hl9, hb9]
    refine ⟨⟨⟨⟨by omega, by omega, by omega, by omega, by omega, h6⟩, ?_⟩, ?_⟩, X.book⟩
    · show T.heap.size + R'.cells ≤ e.platform.maxCells
      omega
    · show T.slotsUsed + R'.slots ≤ e.platform.maxSlots
      omega
  · rw [State.stackLimits_setFrames]; rfl
  · rw [State.stackBytes_setFrames]; rfl
  · refine ⟨?_, Nat.le_refl _, Nat.le_refl _, ?_, ?_, fun a c9 h9 => ⟨c9, h9, rfl, rfl, fun _ _ => rfl⟩⟩
    · obtain ⟨t, ht, -⟩ := State.frames_cons hr
      show T.setVm s.vm = { ((T.setVm s.vm).setFrames (.invoking m args :: below)).setFrames (T.setVm s.vm).frames with heap := T.heap, slotsUsed := T.slotsUsed }
      rw [State.setFrames_setFrames, State.setFrames_self ht]
      rfl
    · show T.slotsUsed = T.slotsUsed + ((T.heap.toList.drop T.heap.size).map (·.slots.size)).sum
      rw [List.drop_eq_nil_of_le (Nat.le_of_eq Array.length_toList)]
      rfl
    · show ((T.heap.toList.drop T.heap.size).map (·.slots.size)).sum ≤ 0
      rw [List.drop_eq_nil_of_le (Nat.le_of_eq Array.length_toList)]
      exact Nat.le_refl _
/-- 'throw new E()': new; dup; invokespecial; athrow -/
theorem vx_throw0 {cc : ByteArray} {pc : Nat} (hexec : p.tables.exec = Jvm.exec) (hb : c.code = cc) (hl : l.stackTraces = false) {own cls : String} {names : List String} {ik ic mc ms : Nat} {A : Nat → Prop}
    (hown : s.vm.findClass own = some m.cls) (hcls : Bundle.fit cls = true) (hnames : ∀ n ∈ names, Bundle.fit n = true)
    (hk : (Cond.classLink own ik cls).before args s = true) (hini : (Cond.initialized cls).before args s = true) (hat : ∀ w ∈ vx_at0 own ic cls names, w.before args s = true)
    (hgood : ∀ w ∈ Cond.classLink own ik cls :: Cond.initialized cls :: vx_at0 own ic cls names, vx_ot w = true)
    (hU : vx_Zq Bundle.tN "UNASSIGNED_STACK" Bundle.steD A s s.heap) (hN : vx_Zq Bundle.tN "SUPPRESSED_SENTINEL" Bundle.listD A s s.heap) (hS : va_S A s.heap H locs) (hsize : ls.size = c.maxLocals)
    (d0 : decode cc pc = .ok (.new ik, 3)) (d3 : decode cc (pc + 3) = .ok (.dup, 1)) (d4 : decode cc (pc + 4) = .ok (.invokespecial ic, 3)) (d7 : decode cc (pc + 7) = .ok (.athrow, 1))
    (hout : ∀ x ∈ c.exceptionTable.toList, covers x (pc + 7) = false)
    (hRframes : names.length + 3 < R.frames) (hRlocals : (rest.map fun v => v.category).sum + (13 * (names.length + 1) + 42) ≤ R.locals) (hRcells : cells + 1 ≤ R.cells) (hRslots : slots + 6 ≤ R.slots) (hlocks : meth.locks = false)
    (hx : ∀ t : State, s.vm.Alike t.vm → H.size ≤ t.heap.size → (∀ q : Nat, q < H.size → t.heap[q]? = H[q]?) → XC cls s t)
    (hf : ∀ z ∈ locs, free z.base) (hc : cells + 1 ≤ mc) (hs : slots + 6 ≤ ms) :
    W p l e R s m args below meth c H locs cells slots (vx_MQ below Qc XC args s mc ms free) (F0 m pc ls rest) := by
  intro T hT X
  have htr : e.platform.stackTraces = false := (show e.platform.stackTraces = l.stackTraces by rw [X.admits.platform]).trans hl
  have Y := vx_rebase X (R' := { frames := R.frames, locals := R.locals, cells := 1, slots := 6 }) (Nat.le_refl _) (Nat.le_refl _) hRcells hRslots
  obtain ⟨s', hA⟩ : ∃ z, z = (T.setVm s.vm).setFrames (.invoking m args :: below) := ⟨_, rfl⟩
  rw [← hA] at Y
  have hvm : s'.vm = s.vm := by rw [hA]; rfl
  have hhp : s'.heap = H := by rw [hA]; exact hT
  have hW0 : s.WarmedH s'.vm := by rw [hvm]; exact State.WarmedH.refl s
  have hat' : ∀ w ∈ vx_at0 own ic cls names, w.before args s' = true := fun w hw => vx_ot_at hW0 hvm.symm (hgood w (List.mem_cons_of_mem _ (List.mem_cons_of_mem _ hw))) (hat w hw)
  have hk' : (Cond.classLink own ik cls).before args s' = true := vx_ot_at hW0 hvm.symm (hgood _ List.mem_cons_self) hk
  have hini' : (Cond.initialized cls).before args s' = true := vx_ot_at hW0 hvm.symm (hgood _ (List.mem_cons_of_mem _ List.mem_cons_self)) hini
  have hU' : vx_Zq Bundle.tN "UNASSIGNED_STACK" Bundle.steD A s' s'.heap := by rw [hhp]; exact vx_Zq.moved hW0.alike (hU.kept hS.2.1)
  have hN' : vx_Zq Bundle.tN "SUPPRESSED_SENTINEL" Bundle.listD A s' s'.heap := by rw [hhp]; exact vx_Zq.moved hW0.alike (hN.kept hS.2.1)
  have h : ∀ w ∈ Bundle.ownAtoms0 own ic cls names, w.before args s' = true := vx_own hat' (vx_isRefq hU'.1) (vx_isRefq hN'.1) hU'.2.word hN'.2.word
  have hown' : s'.vm.findClass own = some m.cls := by rw [hvm]; exact hown
  have hins : (Cond.instantiable cls 6).before args s' = true := h _ (by simp [Bundle.ownAtoms0])
  obtain ⟨vm₁, cX, kX, hfX, hkX, -, -, X₁, st1⟩ := Y.newCold hexec (own := own) (C := cls) (index := ik) (n := 6) hown' hk' hins hini'
    (g := F0 m pc ls rest) rfl (by rw [hb]; exact d0) (Nat.le_refl _) (Nat.le_refl _)
  generalize hT1 : (T.setVm vm₁).pushCell { cls := cX, slots := kX.instanceTypes.map defaultValue, vm := .none } = T1 at X₁ st1
  have hcat : (Value.ref T.heap.size).category = 1 := rfl
  have hcellA : T1.heap[T.heap.size]? = some (freshCell cX kX) := by rw [← hT1]; exact State.heap_pushCell_size _ _
  have d3' : decode c.code (pc + 3) = .ok (.dup, 1) := by rw [hb]; exact d3
  obtain ⟨U, hsteps, hrun, hend, hW, hsame, ce, hce, hO⟩ := X₁.ctorThrow0 hexec htr (own := own) (cls := cls) (names := names) (ic := ic) hown' hcls hnames h (fun x hx => nomatch hx) hfX hkX hcellA (by rw [hhp, hT]; exact Nat.le_refl _)
    (g := { method := m, pc := pc + 4, locals := ls, stack := .ref T.heap.size :: .ref T.heap.size :: rest, locked := none }) rfl hsize rfl rfl (rest := rest) rfl
    (by rw [hb]; exact d4) (by rw [hb]; exact d7) hout hRframes (by simp only [List.map_cons, List.sum_cons, hcat]; omega) hlocks
  obtain ⟨f1, f2⟩ := vx_frame hsame
  rw [hhp] at f1 f2
  have hWs : s.WarmedH U.vm := State.WarmedH.trans hW0 hW
  have hcl : s.vm.findClass cls = some ce.cls := by
    have h9 := hO.cls
    rw [hvm] at h9
    exact h9
  have hall : s.sameButNew ({ U with vm := s.vm } : State) locs mc ms := by
    subst hA
    obtain ⟨e1, e2⟩ := hsame
    rw [State.setFrames_setFrames] at e1
    have h2 : (T.setVm s.vm).sameButNew ({ U with vm := s.vm } : State) [] (0 + 1) (0 + 6) := ⟨e1, e2⟩
    have h3 := X.same.trans h2
    rw [List.append_nil] at h3
    exact h3.mono hc hs
  refine ⟨U, ?_, .threw T.heap.size, hrun, hend, Or.inr ⟨T.heap.size, rfl, cls, ce, locs, hx U hWs.alike f1 (fun q hq => f2 q hq (fun z hz => nomatch hz)), hce, hO.vm, hcl, hWs, hall, hf⟩⟩
  refine st1 _ ?_
  show Steps p.tables e below (T1.setTop { method := m, pc := pc + 3, locals := ls, stack := .ref T.heap.size :: rest, locked := none }) _
  jvm_step X₁.here [X₁.here.top, hexec, d3', Value.category]
  exact hsteps
/-- 'throw new E("text")': new; dup; ldc; invokespecial; athrow -/
theorem vx_throwS {cc : ByteArray} {pc : Nat} (hexec : p.tables.exec = Jvm.exec) (hb : c.code = cc) (hl : l.stackTraces = false) {own cls text : String} {names : List String} {ik is ic mc ms sa : Nat} {A : Nat → Prop}
    (hown : s.vm.findClass own = some m.cls) (hcls : Bundle.fit cls = true) (hnames : ∀ n ∈ names, Bundle.fit n = true)
    (hk : (Cond.classLink own ik cls).before args s = true) (hini : (Cond.initialized cls).before args s = true) (hstr : vk_R own is text sa s) (hat : ∀ w ∈ vx_atS own ic cls names, w.before args s = true)
    (hgood : ∀ w ∈ Cond.classLink own ik cls :: Cond.initialized cls :: vx_atS own ic cls names, vx_ot w = true)
    (hU : vx_Zq Bundle.tN "UNASSIGNED_STACK" Bundle.steD A s s.heap) (hN : vx_Zq Bundle.tN "SUPPRESSED_SENTINEL" Bundle.listD A s s.heap) (hS : va_S A s.heap H locs) (hsize : ls.size = c.maxLocals)
    (d0 : decode cc pc = .ok (.new ik, 3)) (d3 : decode cc (pc + 3) = .ok (.dup, 1)) (d4 : decode cc (pc + 4) = .ok (.ldc is, 2)) (d6 : decode cc (pc + 6) = .ok (.invokespecial ic, 3)) (d9 : decode cc (pc + 9) = .ok (.athrow, 1))
    (hout : ∀ x ∈ c.exceptionTable.toList, covers x (pc + 9) = false)
    (hRframes : names.length + 3 < R.frames) (hRlocals : (rest.map fun v => v.category).sum + (13 * (names.length + 1) + 43) ≤ R.locals) (hRcells : cells + 1 ≤ R.cells) (hRslots : slots + 6 ≤ R.slots) (hlocks : meth.locks = false)
    (hx : ∀ t : State, s.vm.Alike t.vm → H.size ≤ t.heap.size → (∀ q : Nat, q < H.size → t.heap[q]? = H[q]?) → XC cls s t)
    (hf : ∀ z ∈ locs, free z.base) (hc : cells + 1 ≤ mc) (hs : slots + 6 ≤ ms) :
    W p l e R s m args below meth c H locs cells slots (vx_MQ below Qc XC args s mc ms free) (F0 m pc ls rest) := by
  intro T hT X
  have htr : e.platform.stackTraces = false := (show e.platform.stackTraces = l.stackTraces by rw [X.admits.platform]).trans hl
  have Y := vx_rebase X (R' := { frames := R.frames, locals := R.locals, cells := 1, slots := 6 }) (Nat.le_refl _) (Nat.le_refl _) hRcells hRslots
  obtain ⟨s', hA⟩ : ∃ z, z = (T.setVm s.vm).setFrames (.invoking m args :: below) := ⟨_, rfl⟩
  rw [← hA] at Y
  have hvm : s'.vm = s.vm := by rw [hA]; rfl
  have hhp : s'.heap = H := by rw [hA]; exact hT
  have hW0 : s.WarmedH s'.vm := by rw [hvm]; exact State.WarmedH.refl s
  have hat' : ∀ w ∈ vx_atS own ic cls names, w.before args s' = true := fun w hw => vx_ot_at hW0 hvm.symm (hgood w (List.mem_cons_of_mem _ (List.mem_cons_of_mem _ hw))) (hat w hw)
  have hk' : (Cond.classLink own ik cls).before args s' = true := vx_ot_at hW0 hvm.symm (hgood _ List.mem_cons_self) hk
  have hini' : (Cond.initialized cls).before args s' = true := vx_ot_at hW0 hvm.symm (hgood _ (List.mem_cons_of_mem _ List.mem_cons_self)) hini
  have hU' : vx_Zq Bundle.tN "UNASSIGNED_STACK" Bundle.steD A s' s'.heap := by rw [hhp]; exact vx_Zq.moved hW0.alike (hU.kept hS.2.1)
  have hN' : vx_Zq Bundle.tN "SUPPRESSED_SENTINEL" Bundle.listD A s' s'.heap := by rw [hhp]; exact vx_Zq.moved hW0.alike (hN.kept hS.2.1)
  have h : ∀ w ∈ Bundle.ownAtoms own ic cls names, w.before args s' = true := vx_own hat' (vx_isRefq hU'.1) (vx_isRefq hN'.1) hU'.2.word hN'.2.word
  have hown' : s'.vm.findClass own = some m.cls := by rw [hvm]; exact hown
  have hins : (Cond.instantiable cls 6).before args s' = true := h _ (by simp [Bundle.ownAtoms])
  obtain ⟨vm₁, cX, kX, hfX, hkX, -, -, X₁, st1⟩ := Y.newCold hexec (own := own) (C := cls) (index := ik) (n := 6) hown' hk' hins hini'
    (g := F0 m pc ls rest) rfl (by rw [hb]; exact d0) (Nat.le_refl _) (Nat.le_refl _)
  generalize hT1 : (T.setVm vm₁).pushCell { cls := cX, slots := kX.instanceTypes.map defaultValue, vm := .none } = T1 at X₁ st1
  have hcat : (Value.ref T.heap.size).category = 1 := rfl
  have hcellA : T1.heap[T.heap.size]? = some (freshCell cX kX) := by rw [← hT1]; exact State.heap_pushCell_size _ _
  have d3' : decode c.code (pc + 3) = .ok (.dup, 1) := by rw [hb]; exact d3
  have d4' : decode c.code (pc + 4) = .ok (.ldc is, 2) := by rw [hb]; exact d4
  have hstr' : vk_R own is text sa s' := vk_R.warm hW0 hstr
  obtain ⟨U, hsteps, hrun, hend, hW, hsame, ce, hce, hO⟩ := X₁.ctorThrowS hexec htr (own := own) (cls := cls) (names := names) (ic := ic) hown' hcls hnames h (fun x hx => nomatch hx) hfX hkX hcellA (by rw [hhp, hT]; exact Nat.le_refl _) (msg := .ref sa) rfl
    (g := { method := m, pc := pc + 6, locals := ls, stack := .ref sa :: .ref T.heap.size :: .ref T.heap.size :: rest, locked := none }) rfl hsize rfl rfl (rest := rest) rfl
    (by rw [hb]; exact d6) (by rw [hb]; exact d9) hout hRframes (by simp only [List.map_cons, List.sum_cons, hcat]; omega) hlocks
  obtain ⟨f1, f2⟩ := vx_frame hsame
  rw [hhp] at f1 f2
  have hWs : s.WarmedH U.vm := State.WarmedH.trans hW0 hW
  have hcl : s.vm.findClass cls = some ce.cls := by
    have h9 := hO.cls
    rw [hvm] at h9
    exact h9
  have hall : s.sameButNew ({ U with vm := s.vm } : State) locs mc ms := by
    subst hA
    obtain ⟨e1, e2⟩ := hsame
    rw [State.setFrames_setFrames] at e1
    have h2 : (T.setVm s.vm).sameButNew ({ U with vm := s.vm } : State) [] (0 + 1) (0 + 6) := ⟨e1, e2⟩
    have h3 := X.same.trans h2
    rw [List.append_nil] at h3
    exact h3.mono hc hs
  refine ⟨U, ?_, .threw T.heap.size, hrun, hend, Or.inr ⟨T.heap.size, rfl, cls, ce, locs, hx U hWs.alike f1 (fun q hq => f2 q hq (fun z hz => nomatch hz)), hce, hO.vm, hcl, hWs, hall, hf⟩⟩
  refine st1 _ ?_
  show Steps p.tables e below (T1.setTop { method := m, pc := pc + 3, locals := ls, stack := .ref T.heap.size :: rest, locked := none }) _
  jvm_step X₁.here [X₁.here.top, hexec, d3', Value.category]
  exact X₁.ldcString hexec (own := own) (text := text) (index := is) (a := sa) hown' hstr'.1 hstr'.2
    (g := { method := m, pc := pc + 4, locals := ls, stack := .ref T.heap.size :: .ref T.heap.size :: rest, locked := none }) rfl d4' _ hsteps
/-- 'throw new E("text")', the text by a wide index -/
theorem vx_throwSW {cc : ByteArray} {pc : Nat} (hexec : p.tables.exec = Jvm.exec) (hb : c.code = cc) (hl : l.stackTraces = false) {own cls text : String} {names : List String} {ik is ic mc ms sa : Nat} {A : Nat → Prop}
    (hown : s.vm.findClass own = some m.cls) (hcls : Bundle.fit cls = true) (hnames : ∀ n ∈ names, Bundle.fit n = true)
    (hk : (Cond.classLink own ik cls).before args s = true) (hini : (Cond.initialized cls).before args s = true) (hstr : vk_R own is text sa s) (hat : ∀ w ∈ vx_atS own ic cls names, w.before args s = true)
    (hgood : ∀ w ∈ Cond.classLink own ik cls :: Cond.initialized cls :: vx_atS own ic cls names, vx_ot w = true)
    (hU : vx_Zq Bundle.tN "UNASSIGNED_STACK" Bundle.steD A s s.heap) (hN : vx_Zq Bundle.tN "SUPPRESSED_SENTINEL" Bundle.listD A s s.heap) (hS : va_S A s.heap H locs) (hsize : ls.size = c.maxLocals)
    (d0 : decode cc pc = .ok (.new ik, 3)) (d3 : decode cc (pc + 3) = .ok (.dup, 1)) (d4 : decode cc (pc + 4) = .ok (.ldc_w is, 3)) (d7 : decode cc (pc + 7) = .ok (.invokespecial ic, 3)) (d10 : decode cc (pc + 10) = .ok (.athrow, 1))
    (hout : ∀ x ∈ c.exceptionTable.toList, covers x (pc + 10) = false)
    (hRframes : names.length + 3 < R.frames) (hRlocals : (rest.map fun v => v.category).sum + (13 * (names.length + 1) + 43) ≤ R.locals) (hRcells : cells + 1 ≤ R.cells) (hRslots : slots + 6 ≤ R.slots) (hlocks : meth.locks = false)
    (hx : ∀ t : State, s.vm.Alike t.vm → H.size ≤ t.heap.size → (∀ q : Nat, q < H.size → t.heap[q]? = H[q]?) → XC cls s t)
    (hf : ∀ z ∈ locs, free z.base) (hc : cells + 1 ≤ mc) (hs : slots + 6 ≤ ms) :
    W p l e R s m args below meth c H locs cells slots (vx_MQ below Qc XC args s mc ms free) (F0 m pc ls rest) := by
  intro T hT X
  have htr : e.platform.stackTraces = false := (show e.platform.stackTraces = l.stackTraces by rw [X.admits.platform]).trans hl
  have Y := vx_rebase X (R' := { frames := R.frames, locals := R.locals, cells := 1, slots := 6 }) (Nat.le_refl _) (Nat.le_refl _) hRcells hRslots
  obtain ⟨s', hA⟩ : ∃ z, z = (T.setVm s.vm).setFrames (.invoking m args :: below) := ⟨_, rfl⟩
  rw [← hA] at Y
  have hvm : s'.vm = s.vm := by rw [hA]; rfl
  have hhp : s'.heap = H := by rw [hA]; exact hT
  have hW0 : s.WarmedH s'.vm := by rw [hvm]; exact State.WarmedH.refl s
  have hat' : ∀ w ∈ vx_atS own ic cls names, w.before args s' = true := fun w hw => vx_ot_at hW0 hvm.symm (hgood w (List.mem_cons_of_mem _ (List.mem_cons_of_mem _ hw))) (hat w hw)
  have hk' : (Cond.classLink own ik cls).before args s' = true := vx_ot_at hW0 hvm.symm (hgood _ List.mem_cons_self) hk
  have hini' : (Cond.initialized cls).before args s' = true := vx_ot_at hW0 hvm.symm (hgood _ (List.mem_cons_of_mem _ List.mem_cons_self)) hini
  have hU' : vx_Zq Bundle.tN "UNASSIGNED_STACK" Bundle.steD A s' s'.heap := by rw [hhp]; exact vx_Zq.moved hW0.alike (hU.kept hS.2.1)
  have hN' : vx_Zq Bundle.tN "SUPPRESSED_SENTINEL" Bundle.listD A s' s'.heap := by rw [hhp]; exact vx_Zq.moved hW0.alike (hN.kept hS.2.1)
  have h : ∀ w ∈ Bundle.ownAtoms own ic cls names, w.before args s' = true := vx_own hat' (vx_isRefq hU'.1) (vx_isRefq hN'.1) hU'.2.word hN'.2.word
  have hown' : s'.vm.findClass own = some m.cls := by rw [hvm]; exact hown
  have hins : (Cond.instantiable cls 6).before args s' = true := h _ (by simp [Bundle.ownAtoms])
  obtain ⟨vm₁, cX, kX, hfX, hkX, -, -, X₁, st1⟩ := Y.newCold hexec (own := own) (C := cls) (index := ik) (n := 6) hown' hk' hins hini'
    (g := F0 m pc ls rest) rfl (by rw [hb]; exact d0) (Nat.le_refl _) (Nat.le_refl _)
  generalize hT1 : (T.setVm vm₁).pushCell { cls := cX, slots := kX.instanceTypes.map defaultValue, vm := .none } = T1 at X₁ st1
  have hcat : (Value.ref T.heap.size).category = 1 := rfl
  have hcellA : T1.heap[T.heap.size]? = some (freshCell cX kX) := by rw [← hT1]; exact State.heap_pushCell_size _ _
  have d3' : decode c.code (pc + 3) = .ok (.dup, 1) := by rw [hb]; exact d3
  have d4' : decode c.code (pc + 4) = .ok (.ldc_w is, 3) := by rw [hb]; exact d4
  have hstr' : vk_R own is text sa s' := vk_R.warm hW0 hstr
  obtain ⟨U, hsteps, hrun, hend, hW, hsame, ce, hce, hO⟩ := X₁.ctorThrowS hexec htr (own := own) (cls := cls) (names := names) (ic := ic) hown' hcls hnames h (fun x hx => nomatch hx) hfX hkX hcellA (by rw [hhp, hT]; exact Nat.le_refl _) (msg := .ref sa) rfl
    (g := { method := m, pc := pc + 7, locals := ls, stack := .ref sa :: .ref T.heap.size :: .ref T.heap.size :: rest, locked := none }) rfl hsize rfl rfl (rest := rest) rfl
    (by rw [hb]; exact d7) (by rw [hb]; exact d10) hout hRframes (by simp only [List.map_cons, List.sum_cons, hcat]; omega) hlocks
  obtain ⟨f1, f2⟩ := vx_frame hsame
  rw [hhp] at f1 f2
  have hWs : s.WarmedH U.vm := State.WarmedH.trans hW0 hW
  have hcl : s.vm.findClass cls = some ce.cls := by
    have h9 := hO.cls
    rw [hvm] at h9
    exact h9
  have hall : s.sameButNew ({ U with vm := s.vm } : State) locs mc ms := by
    subst hA
    obtain ⟨e1, e2⟩ := hsame
    rw [State.setFrames_setFrames] at e1
    have h2 : (T.setVm s.vm).sameButNew ({ U with vm := s.vm } : State) [] (0 + 1) (0 + 6) := ⟨e1, e2⟩
    have h3 := X.same.trans h2
    rw [List.append_nil] at h3
    exact h3.mono hc hs
  refine ⟨U, ?_, .threw T.heap.size, hrun, hend, Or.inr ⟨T.heap.size, rfl, cls, ce, locs, hx U hWs.alike f1 (fun q hq => f2 q hq (fun z hz => nomatch hz)), hce, hO.vm, hcl, hWs, hall, hf⟩⟩
  refine st1 _ ?_
  show Steps p.tables e below (T1.setTop { method := m, pc := pc + 3, locals := ls, stack := .ref T.heap.size :: rest, locked := none }) _
  jvm_step X₁.here [X₁.here.top, hexec, d3', Value.category]
  exact X₁.ldcStringW hexec (own := own) (text := text) (index := is) (a := sa) hown' hstr'.1 hstr'.2
    (g := { method := m, pc := pc + 4, locals := ls, stack := .ref T.heap.size :: .ref T.heap.size :: rest, locked := none }) rfl d4' _ hsteps
end Ends
section Bodies
variable {l : Launch}
theorem vx_ofW {y : MethodName} {ws ws' : List Cond} {rm : Room} {Pc : Array Value → State → Prop} {Qc : Array Value → State → Outcome → State → Prop} {XC : String → State → State → Prop} {mc ms : Nat} {free : Addr → Prop} {cc : ByteArray} {maxL : Nat} {ret : Option FieldType}
    (hy : plainName y.cls = true) (hw : ws = Cond.code y cc maxL ret :: ws')
    (body : ∀ p e s m args below meth c s₁, BodyLoose p l y (headSpec ws rm) cc maxL ret e s m args below meth c s₁ → c.maxLocals = maxL → (∀ x ∈ c.exceptionTable.toList, False) → Pc args s →
      W p l e (headSpec ws rm).room s m args below meth c s.heap [] 0 0 (vx_MQ below Qc XC args s mc ms free) (entryFrame m args maxL)) : vx_Met l y ws rm Pc Qc XC mc ms free := by
  refine MetFree.of_bodyS (code := cc) (maxLocals := maxL) (ret := ret) hy ?_ ?_
  · intro args s m h hn
    obtain ⟨meth, c, h1, h2, h3, h4, h5, h6, -, -⟩ := Cond.code_spec hn (atoms_spec (ws := ws) h _ (by rw [hw]; exact List.mem_cons_self))
    exact ⟨meth, c, h1, h2, h3, h4, h5, h6⟩
  · intro p e s m args below meth c s₁ B hml hP _
    have hh0 : s₁.heap = s.heap := by rw [B.state]; rfl
    have ht : ∀ x ∈ c.exceptionTable.toList, False := by
      obtain ⟨meth9, c9, h1, h2, -, -, -, -, h7, -⟩ := Cond.code_spec B.named (atoms_spec (ws := ws) B.pre _ (by rw [hw]; exact List.mem_cons_self))
      cases Option.some.inj (h1.symm.trans B.method)
      cases Option.some.inj (h2.symm.trans (Stand.of_body B).code)
      intro x hx
      rw [Array.isEmpty_iff.mp h7] at hx
      cases hx
    obtain ⟨t, a1, o, b1, b2, b3⟩ := body p e s m args below meth c s₁ B hml ht hP s₁ hh0 (Stand.of_body B)
    exact ⟨t, o, a1, b1, b2, b3⟩
/-- the table of a body with handlers -/
theorem vx_table {p : Program} {x y : MethodName} {S : Spec} {cc bytes : ByteArray} {maxL maxL' : Nat} {ret ret' : Option FieldType} {e : Env} {s s₁ : State} {m : MethodId} {args : Array Value} {below : List Frame} {meth : Method} {c : Code} {hh : List (Nat × Nat × Nat × Nat)}
    (B : BodyLoose p l y S cc maxL ret e s m args below meth c s₁) (h : (Cond.codeWith y bytes maxL' ret' hh).before args s = true) : c.exceptionTable.toList = tableOf hh := by
  obtain ⟨m9, meth9, c9, hn9, h1, h2, -, -, h6, -⟩ := Cond.codeWith_spec h
  cases Option.some.inj (hn9.symm.trans B.named)
  cases Option.some.inj (h1.symm.trans B.method)
  cases Option.some.inj (h2.symm.trans (Stand.of_body B).code)
  rw [← h6, table_eq]
end Bodies
end VXA
/-! ===== END ===== -/
/-! ===== BEGIN a static call of a method with an exception table ===== -/
section VXS
variable {p : Program} {l : Launch} {e : Env} {R : Room} {s : State} {m : MethodId} {args : Array Value} {below : List Frame} {meth : Method} {c : Code} {T : State} {H : Heap} {locs : List Loc} {cells slots : Nat}
abbrev vx_CSW (R : Room) (s : State) (args : Array Value) (own : String) (index : Nat) (y : MethodName) (bytes : ByteArray) (maxL : Nat) (ret : Option FieldType) (hh : List (Nat × Nat × Nat × Nat)) (ws : List Cond) (rm : Room) (mc ms n : Nat) : Prop :=
  (rm.cells = mc ∧ rm.slots = ms ∧ rm.frames + 1 ≤ R.frames ∧ 8 + (maxL + 11) + rm.locals ≤ R.locals ∧ (∀ w ∈ ws, ∀ (a' : Array Value) (U : State), s.WarmedH U.vm → w.before a' U = true) ∧ Cond.codeWith y bytes maxL ret hh ∈ ws) ∧
  (Cond.codeWith y bytes maxL ret hh).before args s = true ∧ (Cond.initialized y.cls).before args s = true ∧ (y.cls ≠ "java/lang/invoke/MethodHandle" ∧ y.cls ≠ "java/lang/invoke/VarHandle") ∧
  (∀ sig, parseMethodDescriptor y.desc = some sig → n = sig.parameters.length) ∧ (Cond.methodLink own index y).before args s = true ∧ (Cond.static y).before args s = true
theorem vx_cwSW {own : String} {index maxL mc ms : Nat} {y : MethodName} {bytes : ByteArray} {ret : Option FieldType} {hh : List (Nat × Nat × Nat × Nat)} {Ts ws ws' : List Cond} {rm : Room} (n : Nat) (ht : ∀ w ∈ Ts, w.before args s = true) (hT : GoodIn Ts (va_wsS own index y ws)) (hw : ws = Cond.codeWith y bytes maxL ret hh :: ws') (hrc : rm.cells = mc) (hrs : rm.slots = ms)
    (hd : y.cls ≠ "java/lang/invoke/MethodHandle" ∧ y.cls ≠ "java/lang/invoke/VarHandle" ∧ (parseMethodDescriptor y.desc).map (fun d => d.parameters.length) = some n) (hR : rm.frames + 1 ≤ R.frames ∧ 8 + (maxL + 11) + rm.locals ≤ R.locals) :
    vx_CSW R s args own index y bytes maxL ret hh ws rm mc ms n := by
  have ok : ∀ w ∈ va_wsS own index y ws, w.before args s = true := fun w h => ht w (hT w h).1
  have hG : GoodIn Ts ws := fun w h => hT w (by unfold va_wsS; exact List.mem_append_right _ h)
  have hc : Cond.codeWith y bytes maxL ret hh ∈ ws := by rw [hw]; exact List.mem_cons_self
  refine ⟨⟨hrc, hrs, hR.1, hR.2, pay_in ht hG, hc⟩, ht _ (hG _ hc).1, ok _ (by simp [va_wsS]), ⟨hd.1, hd.2.1⟩, fun sig h => ?_, ok _ (by simp [va_wsS]), ok _ (by simp [va_wsS])⟩
  have h2 := hd.2.2
  rw [h] at h2
  exact (Option.some.inj h2).symm
theorem vx_callSW (X : Stand p l e R s m args below meth c T locs cells slots) (hexec : p.tables.exec = Jvm.exec) {own : String} {index : Nat} {y : MethodName} {bytes : ByteArray} {maxL : Nat} {ret : Option FieldType} {hh : List (Nat × Nat × Nat × Nat)}
    (hown : s.vm.findClass own = some m.cls) (hlink : (Cond.methodLink own index y).before args s = true) (hstat : (Cond.static y).before args s = true) (hinit : (Cond.initialized y.cls).before args s = true)
    (hcode : (Cond.codeWith y bytes maxL ret hh).before args s = true) (hy : y.cls ≠ "java/lang/invoke/MethodHandle" ∧ y.cls ≠ "java/lang/invoke/VarHandle")
    {W9 : Nat} {Pre : Pt → Array Value → Prop} {Post : Pt → Array Value → Option Value → Pt → Prop} (hK : Back l R p e below s args y 3 W9 Pre Post)
    {g : JFrame} (hg : g.method = m) (hsize : g.locals.size = c.maxLocals) {argsL rest : List Value} (hlen : ∀ sig, parseMethodDescriptor y.desc = some sig → argsL.length = sig.parameters.length)
    (hstack : g.stack = argsL.reverse ++ rest) (hW : 2 * g.monitorRoom + (rest.map fun v => v.category).sum ≤ W9) (hdg : decode c.code g.pc = .ok (.invokestatic index, 3))
    (hpre : ∀ vm₁, s.WarmedH vm₁ → Pre ⟨T.setVm vm₁, locs, cells, slots⟩ argsL.toArray) :
    ∃ (v : Option Value) (vm₁ : Vm) (B : Pt), s.WarmedH vm₁ ∧ Stand p l e R s m args below meth c B.U B.locs B.cells B.slots ∧ Post ⟨T.setVm vm₁, locs, cells, slots⟩ argsL.toArray v B ∧
      ∀ target, Steps p.tables e below (B.U.setTop { g with pc := g.pc + 3, stack := v.toList ++ rest }) target → Steps p.tables e below (T.setTop g) target := by
  obtain ⟨mk, methM, cM, hnamed, hmethM, -, -, -, -, -, -, hsigM⟩ := Cond.codeWith_spec hcode
  have hstatic : methM.isStatic = true := Cond.static_spec hnamed hmethM hstat
  obtain ⟨kP, hkP, -⟩ := className_of_methodNamed hnamed
  have hinitP : kP.init = .initialized := Cond.initialized_spec (findClass_of_methodNamed hnamed) hkP hinit
  obtain ⟨vm₁, X₁, hstep₁⟩ := X.invokestatic hexec hown hlink hnamed hmethM hstatic hkP hinitP hy (g := g) hg (argsL := argsL) (rest := rest) (hlen _ hsigM) hstack hdg
  obtain ⟨v, B, X', hpost, hsteps⟩ := hK m meth c ⟨T.setVm vm₁, locs, cells, slots⟩ { g with stack := rest } (.invokestatic index) mk argsL.toArray X₁ hg hsize hdg hW (X₁.named hnamed) (hpre vm₁ X₁.warmed)
  exact ⟨v, vm₁, B, X₁.warmed, X', hpost, fun target h => hstep₁ _ fun acts => by rw [doInvoke_state]; exact hsteps.trans h⟩
theorem vx_runSW {y : MethodName} {bytes cc : ByteArray} {maxL nL mc ms n index : Nat} {ret : Option FieldType} {hh : List (Nat × Nat × Nat × Nat)} {ws : List Cond} {rm : Room} {Pc : Array Value → State → Prop} {Qc : Array Value → State → Outcome → State → Prop} {free : Addr → Prop} {Ts : List Cond} {own : String} {As rest : List Value} {g : JFrame}
    (S : CallFix p m c cc nL s args Ts own) (hM : Met l y ws rm Pc Qc mc ms free) (cw : vx_CSW R s args own index y bytes maxL ret hh ws rm mc ms n) (hp : PreS s H Pc As)
    (hg : g.method = m) (hn : As.length = n) (hsize : g.locals.size = nL) (hstack : g.stack = As.reverse ++ rest) (hW : 2 * g.monitorRoom + (rest.map fun v => v.category).sum ≤ 8) (hdg : decode cc g.pc = .ok (.invokestatic index, 3)) (hf : cells + mc ≤ R.cells ∧ slots + ms ≤ R.slots) :
    va_Run p l e R s m args below meth c H locs cells slots mc ms g rest (Qc As.toArray) (free) := by
  obtain ⟨⟨hrc, hrs, hfr, hlo, hws, hcw⟩, hcode, hini, hy, hlen, hl, hstt⟩ := cw
  have hK : Back l R p e below s args y 3 8 (PreOf R mc ms Pc) (PostOf Qc mc ms free) := va_backW (hh := hh) (bytes := bytes) (maxL := maxL) (ret := ret) hM hp.1 hrc hrs hfr hlo hws hcw (fun a' U hW => word_at hW (Or.inl (by first | rfl | simp [Cond.onTables, Cond.keeps, Cond.steady])) hini)
  obtain ⟨hx, hb, hml, ho, -⟩ := S
  intro T hT X
  obtain ⟨v, vm₁, ⟨U', l2, c2, s2⟩, hW₁, X', ⟨g', mk, t, L, e1, e2, hq, h1, hL, h2, h3⟩, st⟩ := vx_callSW X hx (hh := hh) (bytes := bytes) (maxL := maxL) (ret := ret) ho hl hstt hini hcode hy hK hg (hsize.trans hml.symm) (argsL := As) (rest := rest) (fun sig h => hn.trans (hlen sig h)) hstack hW (by rw [hb]; exact hdg)
    (fun vm₁ hW₁ => ⟨hf.1, hf.2, hp.2 (T.setVm vm₁) hT hW₁⟩)
  dsimp only [Pt.U, Pt.locs, Pt.cells, Pt.slots] at X' e1 e2 h1 h2 h3 st
  subst h1; subst h2; subst h3
  exact ⟨v, (T.setVm vm₁).calling g' mk As.toArray, t, U', L, hT, X', hL, e1, e2, hq, st⟩
/-- not caught here, past rows that name other classes: it goes on to the caller -/
theorem vx_outP {p : Program} {l : Launch} {e : Env} {R : Room} {s : State} {m : MethodId} {args : Array Value} {below : List Frame} {meth : Method} {c : Code} {H : Heap} {locs : List Loc} {cells slots : Nat} {free : Addr → Prop} {ls : Array Slot} {rest : List Value} {Qc : Array Value → State → Outcome → State → Prop} {XC : String → State → State → Prop}
    {pc : Nat} {own E : String} {ce : Cell} {q : Addr} {mc ms : Nat} (hown : s.vm.findClass own = some m.cls) (hlocks : meth.locks = false)
    (hpass : ∀ z ∈ c.exceptionTable.toList, covers z pc = false ∨ (z.catchType ≠ 0 ∧ ∃ nm : String, (Cond.classLink own z.catchType nm).before args s = true ∧ va_Nc E nm s)) (hcell : H[q]? = some ce) (hv : ce.vm = .none) (hcl : s.vm.findClass E = some ce.cls)
    (hx : ∀ t : State, t.heap = H → s.vm.Alike t.vm → XC E s t) (hf : ∀ z ∈ locs, free z.base) (hc : cells ≤ mc) (hs : slots ≤ ms) :
    vx_W p l e R s m args below meth c H locs cells slots (vx_MQ below Qc XC args s mc ms free) (F0 m pc ls rest) q := by
  intro T hT X
  have hpl : e.platform.magicAccessors = ({} : Platform).magicAccessors := by rw [X.admits.platform]
  obtain ⟨vm', hW', X', st⟩ := X.outThrough hlocks q (g := F0 m pc ls rest) rfl rfl rfl (cell := ce) (by rw [hT]; exact hcell) (by rw [hv]; rfl)
    (by obtain ⟨k9, h9, -⟩ := Vm.findClass_spec hcl; exact ⟨k9, h9⟩) (fun z hz => by
      rcases hpass z hz with h | ⟨hz0, nm, hl1, hn1⟩
      · exact Or.inl h
      · obtain ⟨c6, hc6, hcl6⟩ := Cond.classLink_spec hown hl1 e.platform hpl
        obtain ⟨a8, b8, h1, h2, h3⟩ := hn1
        cases Option.some.inj (h1.symm.trans hcl)
        cases Option.some.inj (h2.symm.trans hc6)
        exact Or.inr ⟨hz0, _, hcl6, h3⟩)
  obtain ⟨g₀, hfr⟩ := X'.frames_eq
  have hcell9 : ((T.setVm vm').setFrames (.throwing q :: below)).heap[q]? = some ce := by
    show T.heap[q]? = some ce
    rw [hT]; exact hcell
  have hend : Ended ((T.setVm vm').setFrames (.throwing q :: below)) below (.threw q) := State.frames_setFrames _ (State.cur_lt_of_frames hfr)
  refine ⟨(T.setVm vm').setFrames (.throwing q :: below), ?_, .threw q, X'.here.running, hend, Or.inr ⟨q, rfl, E, ce, locs, hx _ hT (X'.ends _).1.alike, hcell9, hv, hcl, (X'.ends _).1, (X'.ends _).2.mono hc hs, hf⟩⟩
  rw [X.pushThrowing_eq]
  exact st
/-- a thing of a world lies in the heap -/
theorem vx_lt {D : va_G} {cl : List vw_C} {ws : va_W} {H1 : Heap} (h : va_P D cl ws H1) {k : Nat} {q : Nat × va_E} (hk : ws[k]? = some q) : q.1 < H1.size := (h k q hk).lt
end VXS
/-! ===== END ===== -/
/-! ===== BEGIN methods with a table of their own: called by a name, returning or throwing ===== -/
section VXH
/-! vx_backW, vx_callVX, vx_callSX, vx_callVW, vx_runVW, vx_runVX, vx_runSX, vx_ofWH follow the same proofs as their sisters above (Free/Laws.lean, Shelf42/LK1.lean); vx_outP calls Shelf42/NT130.lean (outThrough). -/
section
variable {l : Launch} {R : Room} {p : Program} {e : Env} {below : List Frame} {s : State} {sargs : Array Value} {y : MethodName} {len W9 : Nat}
theorem vx_backW {ws : List Cond} {rm : Room} {Pc : Array Value → State → Prop} {Qc : Array Value → State → Outcome → State → Prop} {XC : String → State → State → Prop} {mc ms : Nat} {free : Addr → Prop} {bytes : ByteArray} {maxL : Nat} {ret : Option FieldType} {hh : List (Nat × Nat × Nat × Nat)}
    (hM : vx_Met l y ws rm Pc Qc XC mc ms free) (hblind : FrameBlind Pc) (hrc : rm.cells = mc) (hrs : rm.slots = ms)
    (hframes : rm.frames + 1 ≤ R.frames) (hlocals : W9 + (maxL + 11) + rm.locals ≤ R.locals)
    (hws : ∀ w ∈ ws, ∀ a' U, s.WarmedH U.vm → w.before a' U = true) (hcode : Cond.codeWith y bytes maxL ret hh ∈ ws) (hinit : ∀ a' U, s.WarmedH U.vm → (Cond.initialized y.cls).before a' U = true) :
    vx_Back l R p e below s sargs y len W9 (PreOf R mc ms Pc) (PostOf Qc mc ms free) (vx_Post XC mc ms free) := by
  intro m meth c A g ig mk a X hg hsize hdg hW hn hp
  have h1 : (headSpec ws rm).pre.before a A.U = true := atoms_intro fun w hw => hws w hw _ _ X.warmed
  have h2 : (Cond.codeWith y bytes maxL ret hh).before a A.U = true := hws _ hcode _ _ X.warmed
  have h3 : (Cond.initialized y.cls).before a A.U = true := hinit _ _ X.warmed
  have h4 : A.cells + (headSpec ws rm).room.cells ≤ R.cells := by rw [show (headSpec ws rm).room.cells = mc from hrc]; exact hp.1
  have h5 : A.slots + (headSpec ws rm).room.slots ≤ R.slots := by rw [show (headSpec ws rm).room.slots = ms from hrs]; exact hp.2.1
  have hPc : Pc a (A.U.calling g mk a) := hblind _ _ _ _ hp.2.2
  obtain ⟨U, Ls, c0, s0⟩ := A
  dsimp only [Pt.U, Pt.locs, Pt.cells, Pt.slots] at h1 h2 h3 h4 h5 X hn hPc ⊢
  obtain ⟨m9, methY, cY, hn9, hmY, hcY, -, hlY, -⟩ := Cond.codeWith_spec h2
  cases Option.some.inj (hn9.symm.trans hn)
  obtain ⟨kY, hkY, -⟩ := className_of_methodNamed hn
  have hinitY : kY.init = .initialized := Cond.initialized_spec (findClass_of_methodNamed hn) hkY h3
  have h : At U g.method c below := by rw [hg]; exact X.here
  have hlocals9 : W9 + (maxL + 11) + (headSpec ws rm).room.locals ≤ R.locals := hlocals
  have happ : (headSpec ws rm).appliesLoose y e.platform (U.calling g mk a) = true :=
    Spec.appliesLoose_calling (g := g) h hdg hn hkY hinitY
      (X.room_calling (g := g) (R' := (headSpec ws rm).room) hsize hmY hcY hframes (by rw [hlY]; omega) h4 h5) h1
  obtain ⟨mid, hmid⟩ := h.above
  have hfr : (U.setTop g).frames = (.java g :: mid) ++ below := by rw [State.frames_setTop' g h.top, hmid]; rfl
  obtain ⟨o, s₂, hsteps, -, hend, hq⟩ := Steps.callFree hM p X.admits X.cas X.clock (acts := []) hfr happ hPc trivial
  have hq' : vx_Q Qc XC mc ms free a (U.calling g mk a) o s₂ := hq
  rw [State.frames_setTop' g h.top] at hend
  obtain ⟨g₀, hg0⟩ := Option.isSome_iff_exists.mp h.top
  obtain ⟨r, hr⟩ := State.topJava?_eq_some.mp hg0
  have hr' : (({ U with heap := s₂.heap, slotsUsed := s₂.slotsUsed } : State).setVm s₂.vm).frames = .java g₀ :: r := hr
  rcases hq' with ⟨hqc, L, hfe, hL⟩ | ⟨q, rfl, E, ce, L, hx, hce, hcv, hcl, hW₂, hsm, hL⟩
  · obtain ⟨⟨v, rfl⟩, hW₂, e2, q2, q3, q4, q5, q6⟩ := id hfe
    have e3 : s₂ = ({ (U.calling g mk a).setFrames s₂.frames with heap := s₂.heap, slotsUsed := s₂.slotsUsed } : State).setVm s₂.vm := by
      have : s₂ = ({ s₂ with vm := (U.calling g mk a).vm } : State).setVm s₂.vm := rfl
      rw [e2] at this
      exact this
    obtain ⟨c₂, i₂, len₂, hc₂, hd₂, hf₂⟩ := hend
    have hW' : U.WarmedH s₂.vm := hW₂
    have hcc : c₂ = c := by
      have h1 : s₂.code? g.method = U.code? g.method := by
        rw [State.code?_eq, State.code?_eq, hW'.alike.method?]
      exact Option.some.inj (hc₂.symm.trans (h1.trans h.code))
    subst hcc
    have hlen : len₂ = len := by rw [hdg] at hd₂; cases hd₂; rfl
    subst hlen
    have hs₂ : s₂ = (({ U with heap := s₂.heap, slotsUsed := s₂.slotsUsed } : State).setVm s₂.vm).setTop { g with pc := g.pc + len₂, stack := v.toList ++ g.stack } := by
      refine e3.trans ?_
      rw [hf₂, State.calling_eq h.top, State.setFrames_setFrames, State.setTop_of_frames _ hr', hr]
      rfl
    have hsame : U.sameButNew ({ U with heap := s₂.heap, slotsUsed := s₂.slotsUsed } : State) L mc ms := by
      refine ⟨?_, q2, q3, q4, q5, q6⟩
      obtain ⟨t, ht, -⟩ := State.frames_cons hr
      show ({ U with heap := s₂.heap, slotsUsed := s₂.slotsUsed } : State) = { U.setFrames U.frames with heap := s₂.heap, slotsUsed := s₂.slotsUsed }
      rw [State.setFrames_self ht]
    subst hg
    refine Or.inl ⟨v, ⟨(({ U with heap := s₂.heap, slotsUsed := s₂.slotsUsed } : State).setVm s₂.vm), Ls ++ L, c0 + mc, s0 + ms⟩,
      ⟨X.admits, X.cas, X.clock, X.frames, X.room, X.hears, X.method, X.code, (X.here.setHeapUsed s₂.heap s₂.slotsUsed).setVm hW'.alike, X.tail, State.WarmedH.trans X.warmed hW', X.limits, X.bytes, X.same.trans (hsame.setVm s.vm)⟩,
      ⟨g, mk, s₂, L, rfl, rfl, hqc, rfl, hL, rfl, rfl⟩, ?_⟩
    show Steps p.tables e below _ ((({ U with heap := s₂.heap, slotsUsed := s₂.slotsUsed } : State).setVm s₂.vm).setTop { g with pc := g.pc + len₂, stack := v.toList ++ g.stack })
    rw [← hs₂]
    exact hsteps
  · obtain ⟨e2, q2, q3, q4, q5, q6⟩ := id hsm
    have e3 : s₂ = ({ (U.calling g mk a).setFrames s₂.frames with heap := s₂.heap, slotsUsed := s₂.slotsUsed } : State).setVm s₂.vm := by
      have : s₂ = ({ s₂ with vm := (U.calling g mk a).vm } : State).setVm s₂.vm := rfl
      rw [e2] at this
      exact this
    have hf₂ : s₂.frames = .throwing q :: .java g :: U.frames.tail := hend
    have hW' : U.WarmedH s₂.vm := hW₂
    have hs₂ : s₂ = ((({ U with heap := s₂.heap, slotsUsed := s₂.slotsUsed } : State).setVm s₂.vm).setTop g).pushFrame (.throwing q) := by
      refine e3.trans ?_
      rw [hf₂, State.calling_eq h.top, State.setFrames_setFrames, State.pushFrame, State.frames_setTop _ hr', State.setTop_of_frames _ hr', State.setFrames_setFrames, hr]
      rfl
    have hsame : U.sameButNew ({ U with heap := s₂.heap, slotsUsed := s₂.slotsUsed } : State) L mc ms := by
      refine ⟨?_, q2, q3, q4, q5, q6⟩
      obtain ⟨t, ht, -⟩ := State.frames_cons hr
      show ({ U with heap := s₂.heap, slotsUsed := s₂.slotsUsed } : State) = { U.setFrames U.frames with heap := s₂.heap, slotsUsed := s₂.slotsUsed }
      rw [State.setFrames_self ht]
    subst hg
    refine Or.inr ⟨q, ⟨(({ U with heap := s₂.heap, slotsUsed := s₂.slotsUsed } : State).setVm s₂.vm), Ls ++ L, c0 + mc, s0 + ms⟩,
      ⟨X.admits, X.cas, X.clock, X.frames, X.room, X.hears, X.method, X.code, (X.here.setHeapUsed s₂.heap s₂.slotsUsed).setVm hW'.alike, X.tail, State.WarmedH.trans X.warmed hW', X.limits, X.bytes, X.same.trans (hsame.setVm s.vm)⟩,
      ⟨g, mk, s₂, L, E, ce, rfl, rfl, hx, hce, hcv, hcl, rfl, hL, rfl, rfl⟩, ?_⟩
    show Steps p.tables e below _ (((({ U with heap := s₂.heap, slotsUsed := s₂.slotsUsed } : State).setVm s₂.vm).setTop g).pushFrame (.throwing q))
    rw [← hs₂]
    exact hsteps
end
variable {p : Program} {l : Launch} {e : Env} {R : Room} {s : State} {m : MethodId} {args : Array Value} {below : List Frame} {meth : Method} {c : Code} {T : State} {H : Heap} {locs : List Loc} {cells slots : Nat}
theorem vx_callVX (X : Stand p l e R s m args below meth c T locs cells slots) (hexec : p.tables.exec = Jvm.exec) {own C : String} {index : Nat} {y : MethodName} {bytes : ByteArray} {maxL : Nat} {ret : Option FieldType} {hh : List (Nat × Nat × Nat × Nat)}
    (hown : s.vm.findClass own = some m.cls) (hlink : (Cond.methodLink own index y).before args s = true) (hinst : (Cond.instanceMethod y).before args s = true) (hsel : (Cond.selects C y y).before args s = true)
    (hcode : (Cond.codeWith y bytes maxL ret hh).before args s = true) (hy : y.cls ≠ "java/lang/invoke/MethodHandle" ∧ y.cls ≠ "java/lang/invoke/VarHandle")
    {W9 : Nat} {Pre : Pt → Array Value → Prop} {Post : Pt → Array Value → Option Value → Pt → Prop} {PostX : Pt → Array Value → Addr → Pt → Prop} (hK : vx_Back l R p e below s args y 3 W9 Pre Post PostX)
    {b : Addr} {cellB : Cell} (hcell : T.heap[b]? = some cellB) (hobj : cellB.vm.isStatics = false) (hcls : s.vm.findClass C = some cellB.cls)
    {g : JFrame} (hg : g.method = m) (hsize : g.locals.size = c.maxLocals) {argsL rest : List Value} (hlen : ∀ sig, parseMethodDescriptor y.desc = some sig → argsL.length = sig.parameters.length)
    (hstack : g.stack = argsL.reverse ++ .ref b :: rest) (hW : 2 * g.monitorRoom + (rest.map fun v => v.category).sum ≤ W9) (hdg : decode c.code g.pc = .ok (.invokevirtual index, 3))
    (hpre : ∀ vm₁, s.WarmedH vm₁ → Pre ⟨T.setVm vm₁, locs, cells, slots⟩ (Value.ref b :: argsL).toArray) :
    (∃ (v : Option Value) (vm₁ : Vm) (B : Pt), s.WarmedH vm₁ ∧ Stand p l e R s m args below meth c B.U B.locs B.cells B.slots ∧ Post ⟨T.setVm vm₁, locs, cells, slots⟩ (Value.ref b :: argsL).toArray v B ∧
      ∀ target, Steps p.tables e below (B.U.setTop { g with pc := g.pc + 3, stack := v.toList ++ rest }) target → Steps p.tables e below (T.setTop g) target) ∨
    (∃ (q : Addr) (vm₁ : Vm) (B : Pt), s.WarmedH vm₁ ∧ Stand p l e R s m args below meth c B.U B.locs B.cells B.slots ∧ PostX ⟨T.setVm vm₁, locs, cells, slots⟩ (Value.ref b :: argsL).toArray q B ∧
      Steps p.tables e below (T.setTop g) ((B.U.setTop { g with stack := rest }).pushFrame (.throwing q))) := by
  obtain ⟨mk, methM, hnamed, hmethM, hstM, habM⟩ := Cond.instanceMethod_spec hinst
  obtain ⟨m8, methM', cM, hn8, hmethM', -, -, -, -, -, -, hsigM⟩ := Cond.codeWith_spec hcode
  cases Option.some.inj (hn8.symm.trans hnamed)
  cases hmethM.symm.trans hmethM'
  obtain ⟨c2, r2, m2, q1, q2, q3, q4, kP, hkP, hkPi⟩ := Cond.selects_spec hsel
  cases hcls.symm.trans q1
  cases (State.methodFound?_of_named hnamed hy).symm.trans q2
  cases hnamed.symm.trans q3
  have hselP : selectMethod e.platform s.vm cellB.cls mk = .method mk := by rw [Launch.admits_selectMethod X.admits]; exact q4
  obtain ⟨vm₁, X₁, hstep₁⟩ := X.invokevirtual hexec hown hlink hnamed hmethM hstM hkP hkPi hy (a := b) (cell := cellB) hcell
    (fun z h => by rw [h] at hobj; cases hobj) hselP hmethM habM hkP hkPi (g := g) hg (argsL := argsL) (rest := rest) (hlen _ hsigM) hstack hdg
  rcases hK m meth c ⟨T.setVm vm₁, locs, cells, slots⟩ { g with stack := rest } (.invokevirtual index) mk (Value.ref b :: argsL).toArray X₁ hg hsize hdg hW (X₁.named hnamed) (hpre vm₁ X₁.warmed) with ⟨v, B, X', hpost, hsteps⟩ | ⟨q, B, X', hpost, hsteps⟩
  · exact Or.inl ⟨v, vm₁, B, X₁.warmed, X', hpost, fun target h => hstep₁ _ fun acts => by rw [doInvoke_state]; exact hsteps.trans h⟩
  · exact Or.inr ⟨q, vm₁, B, X₁.warmed, X', hpost, hstep₁ _ fun acts => by rw [doInvoke_state]; exact hsteps⟩
theorem vx_callSX (X : Stand p l e R s m args below meth c T locs cells slots) (hexec : p.tables.exec = Jvm.exec) {own : String} {index : Nat} {y : MethodName} {bytes : ByteArray} {maxL : Nat} {ret : Option FieldType} {hh : List (Nat × Nat × Nat × Nat)}
    (hown : s.vm.findClass own = some m.cls) (hlink : (Cond.methodLink own index y).before args s = true) (hstat : (Cond.static y).before args s = true) (hinit : (Cond.initialized y.cls).before args s = true)
    (hcode : (Cond.codeWith y bytes maxL ret hh).before args s = true) (hy : y.cls ≠ "java/lang/invoke/MethodHandle" ∧ y.cls ≠ "java/lang/invoke/VarHandle")
    {W9 : Nat} {Pre : Pt → Array Value → Prop} {Post : Pt → Array Value → Option Value → Pt → Prop} {PostX : Pt → Array Value → Addr → Pt → Prop} (hK : vx_Back l R p e below s args y 3 W9 Pre Post PostX)
    {g : JFrame} (hg : g.method = m) (hsize : g.locals.size = c.maxLocals) {argsL rest : List Value} (hlen : ∀ sig, parseMethodDescriptor y.desc = some sig → argsL.length = sig.parameters.length)
    (hstack : g.stack = argsL.reverse ++ rest) (hW : 2 * g.monitorRoom + (rest.map fun v => v.category).sum ≤ W9) (hdg : decode c.code g.pc = .ok (.invokestatic index, 3))
    (hpre : ∀ vm₁, s.WarmedH vm₁ → Pre ⟨T.setVm vm₁, locs, cells, slots⟩ argsL.toArray) :
    (∃ (v : Option Value) (vm₁ : Vm) (B : Pt), s.WarmedH vm₁ ∧ Stand p l e R s m args below meth c B.U B.locs B.cells B.slots ∧ Post ⟨T.setVm vm₁, locs, cells, slots⟩ argsL.toArray v B ∧
      ∀ target, Steps p.tables e below (B.U.setTop { g with pc := g.pc + 3, stack := v.toList ++ rest }) target → Steps p.tables e below (T.setTop g) target) ∨
    (∃ (q : Addr) (vm₁ : Vm) (B : Pt), s.WarmedH vm₁ ∧ Stand p l e R s m args below meth c B.U B.locs B.cells B.slots ∧ PostX ⟨T.setVm vm₁, locs, cells, slots⟩ argsL.toArray q B ∧
      Steps p.tables e below (T.setTop g) ((B.U.setTop { g with stack := rest }).pushFrame (.throwing q))) := by
  obtain ⟨mk, methM, cM, hnamed, hmethM, -, -, -, -, -, -, hsigM⟩ := Cond.codeWith_spec hcode
  have hstatic : methM.isStatic = true := Cond.static_spec hnamed hmethM hstat
  obtain ⟨kP, hkP, -⟩ := className_of_methodNamed hnamed
  have hinitP : kP.init = .initialized := Cond.initialized_spec (findClass_of_methodNamed hnamed) hkP hinit
  obtain ⟨vm₁, X₁, hstep₁⟩ := X.invokestatic hexec hown hlink hnamed hmethM hstatic hkP hinitP hy (g := g) hg (argsL := argsL) (rest := rest) (hlen _ hsigM) hstack hdg
  rcases hK m meth c ⟨T.setVm vm₁, locs, cells, slots⟩ { g with stack := rest } (.invokestatic index) mk argsL.toArray X₁ hg hsize hdg hW (X₁.named hnamed) (hpre vm₁ X₁.warmed) with ⟨v, B, X', hpost, hsteps⟩ | ⟨q, B, X', hpost, hsteps⟩
  · exact Or.inl ⟨v, vm₁, B, X₁.warmed, X', hpost, fun target h => hstep₁ _ fun acts => by rw [doInvoke_state]; exact hsteps.trans h⟩
  · exact Or.inr ⟨q, vm₁, B, X₁.warmed, X', hpost, hstep₁ _ fun acts => by rw [doInvoke_state]; exact hsteps⟩
theorem vx_callVW (X : Stand p l e R s m args below meth c T locs cells slots) (hexec : p.tables.exec = Jvm.exec) {own C : String} {index : Nat} {y : MethodName} {bytes : ByteArray} {maxL : Nat} {ret : Option FieldType} {hh : List (Nat × Nat × Nat × Nat)}
    (hown : s.vm.findClass own = some m.cls) (hlink : (Cond.methodLink own index y).before args s = true) (hinst : (Cond.instanceMethod y).before args s = true) (hsel : (Cond.selects C y y).before args s = true)
    (hcode : (Cond.codeWith y bytes maxL ret hh).before args s = true) (hy : y.cls ≠ "java/lang/invoke/MethodHandle" ∧ y.cls ≠ "java/lang/invoke/VarHandle")
    {W9 : Nat} {Pre : Pt → Array Value → Prop} {Post : Pt → Array Value → Option Value → Pt → Prop} (hK : Back l R p e below s args y 3 W9 Pre Post)
    {b : Addr} {cellB : Cell} (hcell : T.heap[b]? = some cellB) (hobj : cellB.vm.isStatics = false) (hcls : s.vm.findClass C = some cellB.cls)
    {g : JFrame} (hg : g.method = m) (hsize : g.locals.size = c.maxLocals) {argsL rest : List Value} (hlen : ∀ sig, parseMethodDescriptor y.desc = some sig → argsL.length = sig.parameters.length)
    (hstack : g.stack = argsL.reverse ++ .ref b :: rest) (hW : 2 * g.monitorRoom + (rest.map fun v => v.category).sum ≤ W9) (hdg : decode c.code g.pc = .ok (.invokevirtual index, 3))
    (hpre : ∀ vm₁, s.WarmedH vm₁ → Pre ⟨T.setVm vm₁, locs, cells, slots⟩ (Value.ref b :: argsL).toArray) :
    ∃ (v : Option Value) (vm₁ : Vm) (B : Pt), s.WarmedH vm₁ ∧ Stand p l e R s m args below meth c B.U B.locs B.cells B.slots ∧ Post ⟨T.setVm vm₁, locs, cells, slots⟩ (Value.ref b :: argsL).toArray v B ∧
      ∀ target, Steps p.tables e below (B.U.setTop { g with pc := g.pc + 3, stack := v.toList ++ rest }) target → Steps p.tables e below (T.setTop g) target := by
  obtain ⟨mk, methM, hnamed, hmethM, hstM, habM⟩ := Cond.instanceMethod_spec hinst
  obtain ⟨m8, methM', cM, hn8, hmethM', -, -, -, -, -, -, hsigM⟩ := Cond.codeWith_spec hcode
  cases Option.some.inj (hn8.symm.trans hnamed)
  cases hmethM.symm.trans hmethM'
  obtain ⟨c2, r2, m2, q1, q2, q3, q4, kP, hkP, hkPi⟩ := Cond.selects_spec hsel
  cases hcls.symm.trans q1
  cases (State.methodFound?_of_named hnamed hy).symm.trans q2
  cases hnamed.symm.trans q3
  have hselP : selectMethod e.platform s.vm cellB.cls mk = .method mk := by rw [Launch.admits_selectMethod X.admits]; exact q4
  obtain ⟨vm₁, X₁, hstep₁⟩ := X.invokevirtual hexec hown hlink hnamed hmethM hstM hkP hkPi hy (a := b) (cell := cellB) hcell
    (fun z h => by rw [h] at hobj; cases hobj) hselP hmethM habM hkP hkPi (g := g) hg (argsL := argsL) (rest := rest) (hlen _ hsigM) hstack hdg
  obtain ⟨v, B, X', hpost, hsteps⟩ := hK m meth c ⟨T.setVm vm₁, locs, cells, slots⟩ { g with stack := rest } (.invokevirtual index) mk (Value.ref b :: argsL).toArray X₁ hg hsize hdg hW (X₁.named hnamed) (hpre vm₁ X₁.warmed)
  exact ⟨v, vm₁, B, X₁.warmed, X', hpost, fun target h => hstep₁ _ fun acts => by rw [doInvoke_state]; exact hsteps.trans h⟩
abbrev vx_CVW (R : Room) (s : State) (args : Array Value) (own C : String) (index : Nat) (y : MethodName) (bytes : ByteArray) (maxL : Nat) (ret : Option FieldType) (hh : List (Nat × Nat × Nat × Nat)) (ws : List Cond) (rm : Room) (mc ms n : Nat) : Prop :=
  (rm.cells = mc ∧ rm.slots = ms ∧ rm.frames + 1 ≤ R.frames ∧ 8 + (maxL + 11) + rm.locals ≤ R.locals ∧ (∀ w ∈ ws, ∀ (a' : Array Value) (U : State), s.WarmedH U.vm → w.before a' U = true) ∧ Cond.codeWith y bytes maxL ret hh ∈ ws) ∧
  (Cond.codeWith y bytes maxL ret hh).before args s = true ∧ (Cond.initialized y.cls).before args s = true ∧ (y.cls ≠ "java/lang/invoke/MethodHandle" ∧ y.cls ≠ "java/lang/invoke/VarHandle") ∧
  (∀ sig, parseMethodDescriptor y.desc = some sig → n = sig.parameters.length) ∧ (Cond.methodLink own index y).before args s = true ∧ (Cond.instanceMethod y).before args s = true ∧ (Cond.selects C y y).before args s = true
theorem vx_cwVW {own C : String} {index maxL mc ms : Nat} {y : MethodName} {bytes : ByteArray} {ret : Option FieldType} {hh : List (Nat × Nat × Nat × Nat)} {Ts ws ws' : List Cond} {rm : Room} (n : Nat) (ht : ∀ w ∈ Ts, w.before args s = true) (hT : GoodIn Ts (wsV own index C y ws)) (hw : ws = Cond.codeWith y bytes maxL ret hh :: ws') (hrc : rm.cells = mc) (hrs : rm.slots = ms)
    (hd : y.cls = C ∧ y.cls ≠ "java/lang/invoke/MethodHandle" ∧ y.cls ≠ "java/lang/invoke/VarHandle" ∧ (parseMethodDescriptor y.desc).map (fun d => d.parameters.length) = some n) (hR : rm.frames + 1 ≤ R.frames ∧ 8 + (maxL + 11) + rm.locals ≤ R.locals) :
    vx_CVW R s args own C index y bytes maxL ret hh ws rm mc ms n := by
  obtain ⟨hC, hd⟩ := hd
  subst hC
  have ok : ∀ w ∈ wsV own index y.cls y ws, w.before args s = true := fun w h => ht w (hT w h).1
  have hG : GoodIn Ts ws := fun w h => hT w (by unfold wsV; exact List.mem_append_right _ h)
  have hc : Cond.codeWith y bytes maxL ret hh ∈ ws := by rw [hw]; exact List.mem_cons_self
  refine ⟨⟨hrc, hrs, hR.1, hR.2, pay_in ht hG, hc⟩, ht _ (hG _ hc).1, ok _ (by simp [wsV]), ⟨hd.1, hd.2.1⟩, fun sig h => ?_, ok _ (by simp [wsV]), ok _ (by simp [wsV]), ok _ (by simp [wsV])⟩
  have h2 := hd.2.2
  rw [h] at h2
  exact (Option.some.inj h2).symm
theorem vx_runVW {y : MethodName} {bytes cc : ByteArray} {maxL nL mc ms n index : Nat} {ret : Option FieldType} {hh : List (Nat × Nat × Nat × Nat)} {ws : List Cond} {rm : Room} {Pc : Array Value → State → Prop} {Qc : Array Value → State → Outcome → State → Prop} {free : Addr → Prop} {Ts : List Cond} {own C : String} {b : Addr} {As rest : List Value} {g : JFrame}
    (S : CallFix p m c cc nL s args Ts own) (hM : Met l y ws rm Pc Qc mc ms free) (cw : vx_CVW R s args own C index y bytes maxL ret hh ws rm mc ms n) (hp : PreV s H C b Pc As)
    (hg : g.method = m) (hn : As.length = n) (hsize : g.locals.size = nL) (hstack : g.stack = As.reverse ++ .ref b :: rest) (hW : 2 * g.monitorRoom + (rest.map fun v => v.category).sum ≤ 8) (hdg : decode cc g.pc = .ok (.invokevirtual index, 3)) (hf : cells + mc ≤ R.cells ∧ slots + ms ≤ R.slots) :
    va_Run p l e R s m args below meth c H locs cells slots mc ms g rest (Qc (Value.ref b :: As).toArray) free := by
  obtain ⟨⟨hrc, hrs, hfr, hlo, hws, hcw⟩, hcode, hini, hy, hlen, hl, hin, hse⟩ := cw
  have hK : Back l R p e below s args y 3 8 (PreOf R mc ms Pc) (PostOf Qc mc ms free) := va_backW (hh := hh) (bytes := bytes) (maxL := maxL) (ret := ret) hM hp.1 hrc hrs hfr hlo hws hcw (fun a' U hW => word_at hW (Or.inl (by first | rfl | simp [Cond.onTables, Cond.keeps, Cond.steady])) hini)
  obtain ⟨hx, hb, hml, ho, -⟩ := S
  obtain ⟨-, ⟨cellB, hcB, hoB, hclB⟩, hPc⟩ := hp
  intro T hT X
  obtain ⟨v, vm₁, ⟨U', l2, c2, s2⟩, hW₁, X', ⟨g', mk, t, L, e1, e2, hq, h1, hL, h2, h3⟩, st⟩ := vx_callVW X hx (C := C) (hh := hh) (bytes := bytes) (maxL := maxL) (ret := ret) ho hl hin hse hcode hy hK (by rw [hT]; exact hcB) hoB hclB hg (hsize.trans hml.symm) (argsL := As) (rest := rest) (fun sig h => hn.trans (hlen sig h)) hstack hW (by rw [hb]; exact hdg)
    (fun vm₁ hW₁ => ⟨hf.1, hf.2, hPc (T.setVm vm₁) hT hW₁⟩)
  dsimp only [Pt.U, Pt.locs, Pt.cells, Pt.slots] at X' e1 e2 h1 h2 h3 st
  subst h1; subst h2; subst h3
  exact ⟨v, (T.setVm vm₁).calling g' mk (Value.ref b :: As).toArray, t, U', L, hT, X', hL, e1, e2, hq, st⟩
section
variable {y : MethodName} {bytes cc : ByteArray} {maxL nL mc ms n index : Nat} {ret : Option FieldType} {ws : List Cond} {rm : Room} {Pc : Array Value → State → Prop} {Qc : Array Value → State → Outcome → State → Prop} {XC : String → State → State → Prop} {free : Addr → Prop} {Ts : List Cond} {own C : String} {b : Addr} {As rest : List Value} {g : JFrame}
theorem vx_runVX {hh : List (Nat × Nat × Nat × Nat)} (S : CallFix p m c cc nL s args Ts own) (hM : vx_Met l y ws rm Pc Qc XC mc ms free) (cw : vx_CVW R s args own C index y bytes maxL ret hh ws rm mc ms n) (hp : PreV s H C b Pc As)
    (hg : g.method = m) (hn : As.length = n) (hsize : g.locals.size = nL) (hstack : g.stack = As.reverse ++ .ref b :: rest) (hW : 2 * g.monitorRoom + (rest.map fun v => v.category).sum ≤ 8) (hdg : decode cc g.pc = .ok (.invokevirtual index, 3)) (hf : cells + mc ≤ R.cells ∧ slots + ms ≤ R.slots) :
    vx_Run p l e R s m args below meth c H locs cells slots mc ms g rest (Qc (Value.ref b :: As).toArray) XC free := by
  obtain ⟨⟨hrc, hrs, hfr, hlo, hws, hcw⟩, hcode, hini, hy, hlen, hl, hin, hse⟩ := cw
  have hK : vx_Back l R p e below s args y 3 8 (PreOf R mc ms Pc) (PostOf Qc mc ms free) (vx_Post XC mc ms free) := vx_backW (hh := hh) (bytes := bytes) (maxL := maxL) (ret := ret) hM hp.1 hrc hrs hfr hlo hws hcw (fun a' U hW => word_at hW (Or.inl (by first | rfl | simp [Cond.onTables, Cond.keeps, Cond.steady])) hini)
  obtain ⟨hx, hb, hml, ho, -⟩ := S
  obtain ⟨-, ⟨cellB, hcB, hoB, hclB⟩, hPc⟩ := hp
  intro T hT X
  rcases vx_callVX X hx (C := C) (hh := hh) (bytes := bytes) (maxL := maxL) (ret := ret) ho hl hin hse hcode hy hK (by rw [hT]; exact hcB) hoB hclB hg (hsize.trans hml.symm) (argsL := As) (rest := rest) (fun sig h => hn.trans (hlen sig h)) hstack hW (by rw [hb]; exact hdg)
    (fun vm₁ hW₁ => ⟨hf.1, hf.2, hPc (T.setVm vm₁) hT hW₁⟩) with ⟨v, vm₁, ⟨U', l2, c2, s2⟩, hW₁, X', ⟨g', mk, t, L, e1, e2, hq, h1, hL, h2, h3⟩, st⟩ | ⟨q, vm₁, ⟨U', l2, c2, s2⟩, hW₁, X', ⟨g', mk, t, L, E, ce, e1, e2, hq, hce, hcv, hcl, h1, hL, h2, h3⟩, st⟩
  · dsimp only [Pt.U, Pt.locs, Pt.cells, Pt.slots] at X' e1 e2 h1 h2 h3 st
    subst h1; subst h2; subst h3
    exact Or.inl ⟨v, (T.setVm vm₁).calling g' mk (Value.ref b :: As).toArray, t, U', L, hT, X', hL, e1, e2, hq, st⟩
  · dsimp only [Pt.U, Pt.locs, Pt.cells, Pt.slots] at X' e1 e2 h1 h2 h3 st hcl
    subst h1; subst h2; subst h3
    exact Or.inr ⟨q, (T.setVm vm₁).calling g' mk (Value.ref b :: As).toArray, t, U', L, E, ce, hT, X', hL, e1, e2, hq, hce, hcv, vx_cls hW₁ hcl, st⟩
theorem vx_runSX {hh : List (Nat × Nat × Nat × Nat)} (S : CallFix p m c cc nL s args Ts own) (hM : vx_Met l y ws rm Pc Qc XC mc ms free) (cw : vx_CSW R s args own index y bytes maxL ret hh ws rm mc ms n) (hp : PreS s H Pc As)
    (hg : g.method = m) (hn : As.length = n) (hsize : g.locals.size = nL) (hstack : g.stack = As.reverse ++ rest) (hW : 2 * g.monitorRoom + (rest.map fun v => v.category).sum ≤ 8) (hdg : decode cc g.pc = .ok (.invokestatic index, 3)) (hf : cells + mc ≤ R.cells ∧ slots + ms ≤ R.slots) :
    vx_Run p l e R s m args below meth c H locs cells slots mc ms g rest (Qc As.toArray) XC free := by
  obtain ⟨⟨hrc, hrs, hfr, hlo, hws, hcw⟩, hcode, hini, hy, hlen, hl, hstt⟩ := cw
  have hK : vx_Back l R p e below s args y 3 8 (PreOf R mc ms Pc) (PostOf Qc mc ms free) (vx_Post XC mc ms free) := vx_backW (hh := hh) (bytes := bytes) (maxL := maxL) (ret := ret) hM hp.1 hrc hrs hfr hlo hws hcw (fun a' U hW => word_at hW (Or.inl (by first | rfl | simp [Cond.onTables, Cond.keeps, Cond.steady])) hini)
  obtain ⟨hx, hb, hml, ho, -⟩ := S
  intro T hT X
  rcases vx_callSX X hx (hh := hh) (bytes := bytes) (maxL := maxL) (ret := ret) ho hl hstt hini hcode hy hK hg (hsize.trans hml.symm) (argsL := As) (rest := rest) (fun sig h => hn.trans (hlen sig h)) hstack hW (by rw [hb]; exact hdg)
    (fun vm₁ hW₁ => ⟨hf.1, hf.2, hp.2 (T.setVm vm₁) hT hW₁⟩) with ⟨v, vm₁, ⟨U', l2, c2, s2⟩, hW₁, X', ⟨g', mk, t, L, e1, e2, hq, h1, hL, h2, h3⟩, st⟩ | ⟨q, vm₁, ⟨U', l2, c2, s2⟩, hW₁, X', ⟨g', mk, t, L, E, ce, e1, e2, hq, hce, hcv, hcl, h1, hL, h2, h3⟩, st⟩
  · dsimp only [Pt.U, Pt.locs, Pt.cells, Pt.slots] at X' e1 e2 h1 h2 h3 st
    subst h1; subst h2; subst h3
    exact Or.inl ⟨v, (T.setVm vm₁).calling g' mk As.toArray, t, U', L, hT, X', hL, e1, e2, hq, st⟩
  · dsimp only [Pt.U, Pt.locs, Pt.cells, Pt.slots] at X' e1 e2 h1 h2 h3 st hcl
    subst h1; subst h2; subst h3
    exact Or.inr ⟨q, (T.setVm vm₁).calling g' mk As.toArray, t, U', L, E, ce, hT, X', hL, e1, e2, hq, hce, hcv, vx_cls hW₁ hcl, st⟩
end
end VXH
theorem vx_ofWH {l : Launch} {y : MethodName} {ws ws' : List Cond} {rm : Room} {Pc : Array Value → State → Prop} {Qc : Array Value → State → Outcome → State → Prop} {XC : String → State → State → Prop} {mc ms : Nat} {free : Addr → Prop} {cc : ByteArray} {maxL : Nat} {ret : Option FieldType} {hh : List (Nat × Nat × Nat × Nat)}
    (hy : plainName y.cls = true) (hw : ws = Cond.codeWith y cc maxL ret hh :: ws')
    (body : ∀ p e s m args below meth c s₁, BodyLoose p l y (headSpec ws rm) cc maxL ret e s m args below meth c s₁ → c.maxLocals = maxL → Pc args s →
      W p l e (headSpec ws rm).room s m args below meth c s.heap [] 0 0 (vx_MQ below Qc XC args s mc ms free) (entryFrame m args maxL)) : vx_Met l y ws rm Pc Qc XC mc ms free := by
  refine MetFree.of_bodyS (code := cc) (maxLocals := maxL) (ret := ret) hy ?_ ?_
  · intro args s m h hn
    obtain ⟨m9, meth, c, hn9, h1, h2, h3, h4, -, h5, h6, -⟩ := Cond.codeWith_spec (atoms_spec (ws := ws) h _ (by rw [hw]; exact List.mem_cons_self))
    cases hn.symm.trans hn9
    exact ⟨meth, c, h1, h2, h3, h4, h5, h6⟩
  · intro p e s m args below meth c s₁ B hml hP _
    have hh0 : s₁.heap = s.heap := by rw [B.state]; rfl
    obtain ⟨t, a1, o, b1, b2, b3⟩ := body p e s m args below meth c s₁ B hml hP s₁ hh0 (Stand.of_body B)
    exact ⟨t, o, a1, b1, b2, b3⟩
/-! ===== END ===== -/
end
section
def RX0 : String := "PinnedLeaves$Children"
def TX0 : u_T := fun k => match k with
  | 0 => ("PinnedLeaves$Children", "here", "LPinnedLeaves$Row;", true)
  | 1 => ("PinnedLeaves$Children", "cameInAt", "LPinnedLeaves$Row;", true)
  | 2 => ("PinnedLeaves$Children", "tookOff", "LPinnedLeaves$Row;", true)
  | 3 => ("PinnedLeaves$Children", "burnt", "LPinnedLeaves$Row;", true)
  | 4 => ("PinnedLeaves$Children", "rakings", "LPinnedLeaves$Row;", true)
  | 5 => ("PinnedLeaves$Children", "heapSize", "LPinnedLeaves$Row;", true)
  | _ => ("PinnedLeaves$Children", "heaps", "LPinnedLeaves$Row;", true)
def tyX0 : Nat → FieldType := fun k => match k with
  | 0 => .object "PinnedLeaves$Row"
  | 1 => .object "PinnedLeaves$Row"
  | 2 => .object "PinnedLeaves$Row"
  | 3 => .object "PinnedLeaves$Row"
  | 4 => .object "PinnedLeaves$Row"
  | 5 => .object "PinnedLeaves$Row"
  | _ => .object "PinnedLeaves$Row"
abbrev wsX00 : List Cond := u_ws RX0 TX0 7
theorem nmX0 : ∀ a, a < 7 → ∀ b, b < 7 → a ≠ b → (TX0 a).2.1 ≠ (TX0 b).2.1 := by decide +kernel
theorem tyX0_ok : ∀ k, k < 7 → parseFieldDescriptor (TX0 k).2.2.1 = some (tyX0 k) := by decide +kernel
abbrev cX0_init : ByteArray := prog_2_method_1_code
def yX0_init : MethodName := ⟨RX0, "<init>", "()V"⟩
abbrev cX0_isHere : ByteArray := prog_2_method_2_code
def yX0_isHere : MethodName := ⟨RX0, "isHere", "(I)Z"⟩
abbrev cX0_isInYard : ByteArray := prog_2_method_3_code
def yX0_isInYard : MethodName := ⟨RX0, "isInYard", "(I)Z"⟩
abbrev cX0_number : ByteArray := prog_2_method_4_code
def yX0_number : MethodName := ⟨RX0, "number", "()I"⟩
abbrev cX0_numberInYard : ByteArray := prog_2_method_5_code
def yX0_numberInYard : MethodName := ⟨RX0, "numberInYard", "()I"⟩
abbrev cX0_mask : ByteArray := prog_2_method_6_code
def yX0_mask : MethodName := ⟨RX0, "mask", "()I"⟩
abbrev cX0_maskOfLate : ByteArray := prog_2_method_7_code
def yX0_maskOfLate : MethodName := ⟨RX0, "maskOfLate", "(I)I"⟩
abbrev cX0_lowestFree : ByteArray := prog_2_method_8_code
def yX0_lowestFree : MethodName := ⟨RX0, "lowestFree", "()I"⟩
abbrev cX0_lowestBesides : ByteArray := prog_2_method_9_code
def yX0_lowestBesides : MethodName := ⟨RX0, "lowestBesides", "(I)I"⟩
abbrev cX0_fillPlace : ByteArray := prog_2_method_10_code
def yX0_fillPlace : MethodName := ⟨RX0, "fillPlace", "(I)V"⟩
abbrev cX0_emptyPlace : ByteArray := prog_2_method_11_code
def yX0_emptyPlace : MethodName := ⟨RX0, "emptyPlace", "(I)V"⟩
abbrev cX0_leafOnHeap : ByteArray := prog_2_method_12_code
def yX0_leafOnHeap : MethodName := ⟨RX0, "leafOnHeap", "(II)I"⟩
abbrev cX0_putOnHeap : ByteArray := prog_2_method_13_code
def yX0_putOnHeap : MethodName := ⟨RX0, "putOnHeap", "(II)V"⟩
abbrev cX0_copyFrom : ByteArray := prog_2_method_14_code
def yX0_copyFrom : MethodName := ⟨RX0, "copyFrom", "(LPinnedLeaves$Children;)V"⟩
def RX1 : String := "PinnedLeaves$Hooks"
def TX1 : u_T := fun k => match k with
  | 0 => ("PinnedLeaves$Hooks", "pinned", "LPinnedLeaves$Row;", true)
  | 1 => ("PinnedLeaves$Hooks", "noted", "LPinnedLeaves$Row;", true)
  | _ => ("PinnedLeaves$Hooks", "branches", "LPinnedLeaves$Row;", true)
def tyX1 : Nat → FieldType := fun k => match k with
  | 0 => .object "PinnedLeaves$Row"
  | 1 => .object "PinnedLeaves$Row"
  | _ => .object "PinnedLeaves$Row"
abbrev wsX10 : List Cond := u_ws RX1 TX1 3
theorem nmX1 : ∀ a, a < 3 → ∀ b, b < 3 → a ≠ b → (TX1 a).2.1 ≠ (TX1 b).2.1 := by decide +kernel
theorem tyX1_ok : ∀ k, k < 3 → parseFieldDescriptor (TX1 k).2.2.1 = some (tyX1 k) := by decide +kernel
abbrev cX1_init : ByteArray := prog_3_method_1_code
def yX1_init : MethodName := ⟨RX1, "<init>", "()V"⟩
abbrev cX1_firstOf : ByteArray := prog_3_method_2_code
def yX1_firstOf : MethodName := ⟨RX1, "firstOf", "(I)I"⟩
abbrev cX1_kindOf : ByteArray := prog_3_method_3_code
def yX1_kindOf : MethodName := ⟨RX1, "kindOf", "(II)I"⟩
abbrev cX1_leafOf : ByteArray := prog_3_method_4_code
def yX1_leafOf : MethodName := ⟨RX1, "leafOf", "(II)I"⟩
abbrev cX1_branchOf : ByteArray := prog_3_method_5_code
def yX1_branchOf : MethodName := ⟨RX1, "branchOf", "(II)I"⟩
abbrev cX1_write : ByteArray := prog_3_method_6_code
def yX1_write : MethodName := ⟨RX1, "write", "(IIII)V"⟩
abbrev cX1_fasten : ByteArray := prog_3_method_7_code
def yX1_fasten : MethodName := ⟨RX1, "fasten", "(II)V"⟩
abbrev cX1_release : ByteArray := prog_3_method_8_code
def yX1_release : MethodName := ⟨RX1, "release", "(II)V"⟩
abbrev cX1_releaseAll : ByteArray := prog_3_method_9_code
def yX1_releaseAll : MethodName := ⟨RX1, "releaseAll", "(I)V"⟩
abbrev cX1_pins : ByteArray := prog_3_method_10_code
def yX1_pins : MethodName := ⟨RX1, "pins", "()I"⟩
abbrev cX1_notes : ByteArray := prog_3_method_11_code
def yX1_notes : MethodName := ⟨RX1, "notes", "()I"⟩
abbrev cX1_pinsOfChild : ByteArray := prog_3_method_12_code
def yX1_pinsOfChild : MethodName := ⟨RX1, "pinsOfChild", "(I)I"⟩
abbrev cX1_notesOfChild : ByteArray := prog_3_method_13_code
def yX1_notesOfChild : MethodName := ⟨RX1, "notesOfChild", "(I)I"⟩
abbrev cX1_pinsOn : ByteArray := prog_3_method_14_code
def yX1_pinsOn : MethodName := ⟨RX1, "pinsOn", "(I)I"⟩
abbrev cX1_notesOn : ByteArray := prog_3_method_15_code
def yX1_notesOn : MethodName := ⟨RX1, "notesOn", "(I)I"⟩
abbrev cX1_pinsOnBy : ByteArray := prog_3_method_16_code
def yX1_pinsOnBy : MethodName := ⟨RX1, "pinsOnBy", "(II)I"⟩
abbrev cX1_maskOfHolders : ByteArray := prog_3_method_17_code
def yX1_maskOfHolders : MethodName := ⟨RX1, "maskOfHolders", "(I)I"⟩
abbrev cX1_numberOfHook : ByteArray := prog_3_method_18_code
def yX1_numberOfHook : MethodName := ⟨RX1, "numberOfHook", "(III)I"⟩
abbrev cX1_copyFrom : ByteArray := prog_3_method_19_code
def yX1_copyFrom : MethodName := ⟨RX1, "copyFrom", "(LPinnedLeaves$Hooks;)V"⟩
def RX2 : String := "PinnedLeaves$Leaves"
def TX2 : u_T := fun k => match k with
  | 0 => ("PinnedLeaves$Leaves", "grown", "I", false)
  | 1 => ("PinnedLeaves$Leaves", "onBranch", "LPinnedLeaves$Row;", true)
  | 2 => ("PinnedLeaves$Leaves", "colours", "LPinnedLeaves$Row;", true)
  | 3 => ("PinnedLeaves$Leaves", "where", "LPinnedLeaves$Row;", true)
  | 4 => ("PinnedLeaves$Leaves", "lastBranch", "LPinnedLeaves$Row;", true)
  | 5 => ("PinnedLeaves$Leaves", "asideSince", "LPinnedLeaves$Row;", true)
  | _ => ("PinnedLeaves$Leaves", "heapOf", "LPinnedLeaves$Row;", true)
def tyX2 : Nat → FieldType := fun k => match k with
  | 0 => .int
  | 1 => .object "PinnedLeaves$Row"
  | 2 => .object "PinnedLeaves$Row"
  | 3 => .object "PinnedLeaves$Row"
  | 4 => .object "PinnedLeaves$Row"
  | 5 => .object "PinnedLeaves$Row"
  | _ => .object "PinnedLeaves$Row"
abbrev wsX20 : List Cond := u_ws RX2 TX2 7
theorem nmX2 : ∀ a, a < 7 → ∀ b, b < 7 → a ≠ b → (TX2 a).2.1 ≠ (TX2 b).2.1 := by decide +kernel
theorem tyX2_ok : ∀ k, k < 7 → parseFieldDescriptor (TX2 k).2.2.1 = some (tyX2 k) := by decide +kernel
abbrev cX2_init : ByteArray := prog_4_method_1_code
def yX2_init : MethodName := ⟨RX2, "<init>", "()V"⟩
abbrev cX2_sprout : ByteArray := prog_4_method_2_code
def yX2_sprout : MethodName := ⟨RX2, "sprout", "(II)I"⟩
abbrev cX2_putAside : ByteArray := prog_4_method_3_code
def yX2_putAside : MethodName := ⟨RX2, "putAside", "(III)V"⟩
abbrev cX2_burn : ByteArray := prog_4_method_4_code
def yX2_burn : MethodName := ⟨RX2, "burn", "(I)V"⟩
abbrev cX2_numberWhere : ByteArray := prog_4_method_5_code
def yX2_numberWhere : MethodName := ⟨RX2, "numberWhere", "(I)I"⟩
abbrev cX2_copyFrom : ByteArray := prog_4_method_6_code
def yX2_copyFrom : MethodName := ⟨RX2, "copyFrom", "(LPinnedLeaves$Leaves;)V"⟩
def RX3 : String := "PinnedLeaves$OrderText"
def TX3 : u_T := fun k => match k with
  | 0 => ("PinnedLeaves$OrderText", "signs", "LPinnedLeaves$Row;", true)
  | _ => ("PinnedLeaves$OrderText", "length", "I", false)
def tyX3 : Nat → FieldType := fun k => match k with
  | 0 => .object "PinnedLeaves$Row"
  | _ => .int
abbrev wsX30 : List Cond := u_ws RX3 TX3 2
theorem nmX3 : ∀ a, a < 2 → ∀ b, b < 2 → a ≠ b → (TX3 a).2.1 ≠ (TX3 b).2.1 := by decide +kernel
theorem tyX3_ok : ∀ k, k < 2 → parseFieldDescriptor (TX3 k).2.2.1 = some (tyX3 k) := by decide +kernel
abbrev cX3_init : ByteArray := prog_5_method_1_code
def yX3_init : MethodName := ⟨RX3, "<init>", "()V"⟩
def RX4 : String := "PinnedLeaves$Row"
def TX4 : u_T := fun k => match k with
  | _ => ("PinnedLeaves$Row", "cells", "[I", true)
def tyX4 : Nat → FieldType := fun k => match k with
  | _ => .array .int
abbrev wsX40 : List Cond := u_ws RX4 TX4 1
theorem nmX4 : ∀ a, a < 1 → ∀ b, b < 1 → a ≠ b → (TX4 a).2.1 ≠ (TX4 b).2.1 := by decide +kernel
theorem tyX4_ok : ∀ k, k < 1 → parseFieldDescriptor (TX4 k).2.2.1 = some (tyX4 k) := by decide +kernel
abbrev cX4_init : ByteArray := prog_6_method_1_code
def yX4_init : MethodName := ⟨RX4, "<init>", "(I)V"⟩
abbrev cX4_get : ByteArray := prog_6_method_2_code
def yX4_get : MethodName := ⟨RX4, "get", "(I)I"⟩
abbrev cX4_put : ByteArray := prog_6_method_3_code
def yX4_put : MethodName := ⟨RX4, "put", "(II)V"⟩
abbrev cX4_add : ByteArray := prog_6_method_4_code
def yX4_add : MethodName := ⟨RX4, "add", "(II)V"⟩
abbrev cX4_fill : ByteArray := prog_6_method_5_code
def yX4_fill : MethodName := ⟨RX4, "fill", "(I)V"⟩
abbrev cX4_number : ByteArray := prog_6_method_6_code
def yX4_number : MethodName := ⟨RX4, "number", "(III)I"⟩
abbrev cX4_copyFrom : ByteArray := prog_6_method_7_code
def yX4_copyFrom : MethodName := ⟨RX4, "copyFrom", "(LPinnedLeaves$Row;)V"⟩
def RX5 : String := "PinnedLeaves$SavedYards"
def TX5 : u_T := fun k => match k with
  | 0 => ("PinnedLeaves$SavedYards", "yards", "[LPinnedLeaves$Yard;", true)
  | 1 => ("PinnedLeaves$SavedYards", "next", "I", false)
  | _ => ("PinnedLeaves$SavedYards", "size", "I", false)
def tyX5 : Nat → FieldType := fun k => match k with
  | 0 => .array (.object "PinnedLeaves$Yard")
  | 1 => .int
  | _ => .int
abbrev wsX50 : List Cond := u_ws RX5 TX5 3
theorem nmX5 : ∀ a, a < 3 → ∀ b, b < 3 → a ≠ b → (TX5 a).2.1 ≠ (TX5 b).2.1 := by decide +kernel
theorem tyX5_ok : ∀ k, k < 3 → parseFieldDescriptor (TX5 k).2.2.1 = some (tyX5 k) := by decide +kernel
abbrev cX5_init : ByteArray := prog_7_method_1_code
def yX5_init : MethodName := ⟨RX5, "<init>", "()V"⟩
abbrev cX5_number : ByteArray := prog_7_method_2_code
def yX5_number : MethodName := ⟨RX5, "number", "()I"⟩
abbrev cX5_push : ByteArray := prog_7_method_3_code
def yX5_push : MethodName := ⟨RX5, "push", "(LPinnedLeaves$Yard;)V"⟩
abbrev cX5_popInto : ByteArray := prog_7_method_4_code
def yX5_popInto : MethodName := ⟨RX5, "popInto", "(LPinnedLeaves$Yard;)V"⟩
abbrev cX5_placeAt : ByteArray := prog_7_method_5_code
def yX5_placeAt : MethodName := ⟨RX5, "placeAt", "(I)LPinnedLeaves$Yard;"⟩
def RX6 : String := "PinnedLeaves$Yard"
def TX6 : u_T := fun k => match k with
  | 0 => ("PinnedLeaves$Yard", "bell", "I", false)
  | 1 => ("PinnedLeaves$Yard", "rakeAt", "I", false)
  | 2 => ("PinnedLeaves$Yard", "burnsBy", "I", false)
  | 3 => ("PinnedLeaves$Yard", "rakings", "I", false)
  | 4 => ("PinnedLeaves$Yard", "lookedThrough", "I", false)
  | 5 => ("PinnedLeaves$Yard", "failedPins", "I", false)
  | 6 => ("PinnedLeaves$Yard", "dangers", "I", false)
  | 7 => ("PinnedLeaves$Yard", "mostAside", "I", false)
  | 8 => ("PinnedLeaves$Yard", "leaves", "LPinnedLeaves$Leaves;", true)
  | 9 => ("PinnedLeaves$Yard", "children", "LPinnedLeaves$Children;", true)
  | _ => ("PinnedLeaves$Yard", "hooks", "LPinnedLeaves$Hooks;", true)
def tyX6 : Nat → FieldType := fun k => match k with
  | 0 => .int
  | 1 => .int
  | 2 => .int
  | 3 => .int
  | 4 => .int
  | 5 => .int
  | 6 => .int
  | 7 => .int
  | 8 => .object "PinnedLeaves$Leaves"
  | 9 => .object "PinnedLeaves$Children"
  | _ => .object "PinnedLeaves$Hooks"
abbrev wsX60 : List Cond := u_ws RX6 TX6 11
theorem nmX6 : ∀ a, a < 11 → ∀ b, b < 11 → a ≠ b → (TX6 a).2.1 ≠ (TX6 b).2.1 := by decide +kernel
theorem tyX6_ok : ∀ k, k < 11 → parseFieldDescriptor (TX6 k).2.2.1 = some (tyX6 k) := by decide +kernel
abbrev cX6_init : ByteArray := prog_8_method_1_code
def yX6_init : MethodName := ⟨RX6, "<init>", "()V"⟩
abbrev cX6_copyFrom : ByteArray := prog_8_method_2_code
def yX6_copyFrom : MethodName := ⟨RX6, "copyFrom", "(LPinnedLeaves$Yard;)V"⟩
abbrev cX6_addChild : ByteArray := prog_8_method_3_code
def yX6_addChild : MethodName := ⟨RX6, "addChild", "()I"⟩
abbrev cX6_removeChild : ByteArray := prog_8_method_4_code
def yX6_removeChild : MethodName := ⟨RX6, "removeChild", "(I)I"⟩
abbrev cX6_mayGoIn : ByteArray := prog_8_method_5_code
def yX6_mayGoIn : MethodName := ⟨RX6, "mayGoIn", "(I)Z"⟩
abbrev cX6_goIn : ByteArray := prog_8_method_6_code
def yX6_goIn : MethodName := ⟨RX6, "goIn", "(I)I"⟩
abbrev cX6_mayLieDown : ByteArray := prog_8_method_7_code
def yX6_mayLieDown : MethodName := ⟨RX6, "mayLieDown", "(I)Z"⟩
abbrev cX6_lieDown : ByteArray := prog_8_method_8_code
def yX6_lieDown : MethodName := ⟨RX6, "lieDown", "(I)I"⟩
abbrev cX6_mayStrike : ByteArray := prog_8_method_9_code
def yX6_mayStrike : MethodName := ⟨RX6, "mayStrike", "()Z"⟩
abbrev cX6_strike : ByteArray := prog_8_method_10_code
def yX6_strike : MethodName := ⟨RX6, "strike", "()I"⟩
abbrev cX6_maySprout : ByteArray := prog_8_method_11_code
def yX6_maySprout : MethodName := ⟨RX6, "maySprout", "(I)Z"⟩
abbrev cX6_mayWrite : ByteArray := prog_8_method_12_code
def yX6_mayWrite : MethodName := ⟨RX6, "mayWrite", "(III)Z"⟩
abbrev cX6_write : ByteArray := prog_8_method_13_code
def yX6_write : MethodName := ⟨RX6, "write", "(III)I"⟩
abbrev cX6_mayFasten : ByteArray := prog_8_method_14_code
def yX6_mayFasten : MethodName := ⟨RX6, "mayFasten", "(II)Z"⟩
abbrev cX6_fasten : ByteArray := prog_8_method_15_code
def yX6_fasten : MethodName := ⟨RX6, "fasten", "(II)I"⟩
abbrev cX6_mayRelease : ByteArray := prog_8_method_16_code
def yX6_mayRelease : MethodName := ⟨RX6, "mayRelease", "(II)Z"⟩
abbrev cX6_release : ByteArray := prog_8_method_17_code
def yX6_release : MethodName := ⟨RX6, "release", "(II)I"⟩
abbrev cX6_lookThrough : ByteArray := prog_8_method_18_code
def yX6_lookThrough : MethodName := ⟨RX6, "lookThrough", "(II)I"⟩
abbrev cX6_mayTakeOff : ByteArray := prog_8_method_19_code
def yX6_mayTakeOff : MethodName := ⟨RX6, "mayTakeOff", "(II)Z"⟩
abbrev cX6_takeOff : ByteArray := prog_8_method_20_code
def yX6_takeOff : MethodName := ⟨RX6, "takeOff", "(II)I"⟩
abbrev cX6_mayExchange : ByteArray := prog_8_method_21_code
def yX6_mayExchange : MethodName := ⟨RX6, "mayExchange", "(II)Z"⟩
abbrev cX6_exchange : ByteArray := prog_8_method_22_code
def yX6_exchange : MethodName := ⟨RX6, "exchange", "(III)I"⟩
abbrev cX6_mayClear : ByteArray := prog_8_method_23_code
def yX6_mayClear : MethodName := ⟨RX6, "mayClear", "(I)Z"⟩
abbrev cX6_clear : ByteArray := prog_8_method_24_code
def yX6_clear : MethodName := ⟨RX6, "clear", "(I)I"⟩
abbrev cX6_valueOf : ByteArray := prog_8_method_25_code
def yX6_valueOf : MethodName := ⟨RX6, "valueOf", "(I)I"⟩
abbrev cX6_change : ByteArray := prog_8_method_26_code
def yX6_change : MethodName := ⟨RX6, "change", "(II)I"⟩
abbrev cX6_mayBurn : ByteArray := prog_8_method_27_code
def yX6_mayBurn : MethodName := ⟨RX6, "mayBurn", "(III)Z"⟩
abbrev cX6_burnable : ByteArray := prog_8_method_28_code
def yX6_burnable : MethodName := ⟨RX6, "burnable", "(III)I"⟩
abbrev cX6_burnableIfRested : ByteArray := prog_8_method_29_code
def yX6_burnableIfRested : MethodName := ⟨RX6, "burnableIfRested", "(I)I"⟩
abbrev cX6_burnableIfAllRested : ByteArray := prog_8_method_30_code
def yX6_burnableIfAllRested : MethodName := ⟨RX6, "burnableIfAllRested", "()I"⟩
abbrev cX6_bestHeap : ByteArray := prog_8_method_31_code
def yX6_bestHeap : MethodName := ⟨RX6, "bestHeap", "()I"⟩
abbrev cX6_freedBy : ByteArray := prog_8_method_32_code
def yX6_freedBy : MethodName := ⟨RX6, "freedBy", "(II)I"⟩
abbrev cX6_mostPinned : ByteArray := prog_8_method_33_code
def yX6_mostPinned : MethodName := ⟨RX6, "mostPinned", "()I"⟩
abbrev cX6_whyNotBurnt : ByteArray := prog_8_method_34_code
def yX6_whyNotBurnt : MethodName := ⟨RX6, "whyNotBurnt", "(I)I"⟩
abbrev cX6_numberOfLeaf : ByteArray := prog_8_method_35_code
def yX6_numberOfLeaf : MethodName := ⟨RX6, "numberOfLeaf", "(II)I"⟩
abbrev cX6_numberOfChild : ByteArray := prog_8_method_36_code
def yX6_numberOfChild : MethodName := ⟨RX6, "numberOfChild", "(II)I"⟩
abbrev cX6_numberOfAll : ByteArray := prog_8_method_37_code
def yX6_numberOfAll : MethodName := ⟨RX6, "numberOfAll", "(I)I"⟩
def RX7 : String := "PinnedLeaves"
def TX7 : u_T := fun k => match k with
  | 0 => ("PinnedLeaves", "yard", "LPinnedLeaves$Yard;", true)
  | 1 => ("PinnedLeaves", "snapshot", "LPinnedLeaves$Yard;", true)
  | 2 => ("PinnedLeaves", "saved", "LPinnedLeaves$SavedYards;", true)
  | 3 => ("PinnedLeaves", "text", "LPinnedLeaves$OrderText;", true)
  | _ => ("PinnedLeaves", "hasSnapshot", "Z", false)
def tyX7 : Nat → FieldType := fun k => match k with
  | 0 => .object "PinnedLeaves$Yard"
  | 1 => .object "PinnedLeaves$Yard"
  | 2 => .object "PinnedLeaves$SavedYards"
  | 3 => .object "PinnedLeaves$OrderText"
  | _ => .boolean
abbrev wsX70 : List Cond := u_ws RX7 TX7 5
theorem nmX7 : ∀ a, a < 5 → ∀ b, b < 5 → a ≠ b → (TX7 a).2.1 ≠ (TX7 b).2.1 := by decide +kernel
theorem tyX7_ok : ∀ k, k < 5 → parseFieldDescriptor (TX7 k).2.2.1 = some (tyX7 k) := by decide +kernel
abbrev cX7_init : ByteArray := prog_1_method_1_code
def yX7_init : MethodName := ⟨RX7, "<init>", "()V"⟩
abbrev cX7_come : ByteArray := prog_1_method_2_code
def yX7_come : MethodName := ⟨RX7, "come", "()I"⟩
abbrev cX7_leave : ByteArray := prog_1_method_3_code
def yX7_leave : MethodName := ⟨RX7, "leave", "(I)I"⟩
abbrev cX7_enter : ByteArray := prog_1_method_4_code
def yX7_enter : MethodName := ⟨RX7, "enter", "(I)I"⟩
abbrev cX7_rest : ByteArray := prog_1_method_5_code
def yX7_rest : MethodName := ⟨RX7, "rest", "(I)I"⟩
abbrev cX7_ring : ByteArray := prog_1_method_6_code
def yX7_ring : MethodName := ⟨RX7, "ring", "()I"⟩
abbrev cX7_grow : ByteArray := prog_1_method_7_code
def yX7_grow : MethodName := ⟨RX7, "grow", "(II)I"⟩
abbrev cX7_note : ByteArray := prog_1_method_8_code
def yX7_note : MethodName := ⟨RX7, "note", "(III)I"⟩
abbrev cX7_pin : ByteArray := prog_1_method_9_code
def yX7_pin : MethodName := ⟨RX7, "pin", "(II)I"⟩
abbrev cX7_loosen : ByteArray := prog_1_method_10_code
def yX7_loosen : MethodName := ⟨RX7, "loosen", "(II)I"⟩
abbrev cX7_look : ByteArray := prog_1_method_11_code
def yX7_look : MethodName := ⟨RX7, "look", "(II)I"⟩
abbrev cX7_take : ByteArray := prog_1_method_12_code
def yX7_take : MethodName := ⟨RX7, "take", "(II)I"⟩
abbrev cX7_swap : ByteArray := prog_1_method_13_code
def yX7_swap : MethodName := ⟨RX7, "swap", "(III)I"⟩
abbrev cX7_rake : ByteArray := prog_1_method_14_code
def yX7_rake : MethodName := ⟨RX7, "rake", "(I)I"⟩
abbrev cX7_set : ByteArray := prog_1_method_15_code
def yX7_set : MethodName := ⟨RX7, "set", "(II)I"⟩
abbrev cX7_undo : ByteArray := prog_1_method_22_code
def yX7_undo : MethodName := ⟨RX7, "undo", "()I"⟩
abbrev cX7_branch : ByteArray := prog_1_method_23_code
def yX7_branch : MethodName := ⟨RX7, "branch", "(I)I"⟩
abbrev cX7_leaf : ByteArray := prog_1_method_24_code
def yX7_leaf : MethodName := ⟨RX7, "leaf", "(II)I"⟩
abbrev cX7_child : ByteArray := prog_1_method_25_code
def yX7_child : MethodName := ⟨RX7, "child", "(II)I"⟩
abbrev cX7_hook : ByteArray := prog_1_method_26_code
def yX7_hook : MethodName := ⟨RX7, "hook", "(III)I"⟩
abbrev cX7_heap : ByteArray := prog_1_method_27_code
def yX7_heap : MethodName := ⟨RX7, "heap", "(II)I"⟩
abbrev cX7_count : ByteArray := prog_1_method_28_code
def yX7_count : MethodName := ⟨RX7, "count", "(I)I"⟩
abbrev cX7_setting : ByteArray := prog_1_method_29_code
def yX7_setting : MethodName := ⟨RX7, "setting", "(I)I"⟩
abbrev cX7_why : ByteArray := prog_1_method_30_code
def yX7_why : MethodName := ⟨RX7, "why", "(I)I"⟩
abbrev cX7_ifRaked : ByteArray := prog_1_method_31_code
def yX7_ifRaked : MethodName := ⟨RX7, "ifRaked", "(II)I"⟩
abbrev cX7_bestRake : ByteArray := prog_1_method_32_code
def yX7_bestRake : MethodName := ⟨RX7, "bestRake", "()I"⟩
abbrev cX7_ifLoosened : ByteArray := prog_1_method_33_code
def yX7_ifLoosened : MethodName := ⟨RX7, "ifLoosened", "(II)I"⟩
abbrev cX7_late : ByteArray := prog_1_method_34_code
def yX7_late : MethodName := ⟨RX7, "late", "()I"⟩
abbrev cX7_ifRested : ByteArray := prog_1_method_35_code
def yX7_ifRested : MethodName := ⟨RX7, "ifRested", "(I)I"⟩
abbrev cX7_ifAllRested : ByteArray := prog_1_method_36_code
def yX7_ifAllRested : MethodName := ⟨RX7, "ifAllRested", "()I"⟩
abbrev cX7_mostHeld : ByteArray := prog_1_method_37_code
def yX7_mostHeld : MethodName := ⟨RX7, "mostHeld", "()I"⟩
abbrev cX7_burntShare : ByteArray := prog_1_method_38_code
def yX7_burntShare : MethodName := ⟨RX7, "burntShare", "()D"⟩
abbrev cX7_fullness : ByteArray := prog_1_method_39_code
def yX7_fullness : MethodName := ⟨RX7, "fullness", "()F"⟩
abbrev cX7_needChild : ByteArray := prog_1_method_41_code
def yX7_needChild : MethodName := ⟨RX7, "needChild", "(I)V"⟩
abbrev cX7_needHook : ByteArray := prog_1_method_42_code
def yX7_needHook : MethodName := ⟨RX7, "needHook", "(II)V"⟩
abbrev cX7_needLeaf : ByteArray := prog_1_method_43_code
def yX7_needLeaf : MethodName := ⟨RX7, "needLeaf", "(I)V"⟩
abbrev cX7_needBranch : ByteArray := prog_1_method_44_code
def yX7_needBranch : MethodName := ⟨RX7, "needBranch", "(I)V"⟩
abbrev cX7_needSetting : ByteArray := prog_1_method_45_code
def yX7_needSetting : MethodName := ⟨RX7, "needSetting", "(I)V"⟩
abbrev cX7_needColour : ByteArray := prog_1_method_46_code
def yX7_needColour : MethodName := ⟨RX7, "needColour", "(I)V"⟩
abbrev cX7_needWhat : ByteArray := prog_1_method_47_code
def yX7_needWhat : MethodName := ⟨RX7, "needWhat", "(II)V"⟩
abbrev cX7_isValueOf : ByteArray := prog_1_method_48_code
def yX7_isValueOf : MethodName := ⟨RX7, "isValueOf", "(II)Z"⟩
abbrev cX7_counted : ByteArray := prog_1_method_50_code
def yX7_counted : MethodName := ⟨RX7, "counted", "(I)I"⟩
def RX8 : String := "PinnedLeavesModel"
def TX8 : u_T := fun k => match k with
  | _ => ("", "", "", false)
def tyX8 : Nat → FieldType := fun k => match k with
  | _ => .int
abbrev wsX80 : List Cond := u_ws RX8 TX8 0
theorem nmX8 : ∀ a, a < 0 → ∀ b, b < 0 → a ≠ b → (TX8 a).2.1 ≠ (TX8 b).2.1 := by decide +kernel
theorem tyX8_ok : ∀ k, k < 0 → parseFieldDescriptor (TX8 k).2.2.1 = some (tyX8 k) := by decide +kernel
def RJ9 : String := "java/lang/Math"
def TJ9 : u_T := fun k => match k with
  | _ => ("", "", "", false)
def tyJ9 : Nat → FieldType := fun k => match k with
  | _ => .int
abbrev wsJ90 : List Cond := u_ws RJ9 TJ9 0
theorem nmJ9 : ∀ a, a < 0 → ∀ b, b < 0 → a ≠ b → (TJ9 a).2.1 ≠ (TJ9 b).2.1 := by decide +kernel
theorem tyJ9_ok : ∀ k, k < 0 → parseFieldDescriptor (TJ9 k).2.2.1 = some (tyJ9 k) := by decide +kernel
abbrev cJ9_max_7cf53 : ByteArray := prog_15_method_65_code
def yJ9_max_7cf53 : MethodName := ⟨RJ9, "max", "(II)I"⟩
abbrev cJ9_min_7cf53 : ByteArray := prog_15_method_69_code
def yJ9_min_7cf53 : MethodName := ⟨RJ9, "min", "(II)I"⟩
def RJ0 : String := "java/lang/String"
def TJ0 : u_T := fun k => match k with
  | _ => ("", "", "", false)
def tyJ0 : Nat → FieldType := fun k => match k with
  | _ => .int
abbrev wsJ00 : List Cond := u_ws RJ0 TJ0 0
theorem nmJ0 : ∀ a, a < 0 → ∀ b, b < 0 → a ≠ b → (TJ0 a).2.1 ≠ (TJ0 b).2.1 := by decide +kernel
theorem tyJ0_ok : ∀ k, k < 0 → parseFieldDescriptor (TJ0 k).2.2.1 = some (tyJ0 k) := by decide +kernel
def RJ10 : String := "java/lang/System"
def TJ10 : u_T := fun k => match k with
  | _ => ("", "", "", false)
def tyJ10 : Nat → FieldType := fun k => match k with
  | _ => .int
abbrev wsJ100 : List Cond := u_ws RJ10 TJ10 0
theorem nmJ10 : ∀ a, a < 0 → ∀ b, b < 0 → a ≠ b → (TJ10 a).2.1 ≠ (TJ10 b).2.1 := by decide +kernel
theorem tyJ10_ok : ∀ k, k < 0 → parseFieldDescriptor (TJ10 k).2.2.1 = some (tyJ10 k) := by decide +kernel
def RL : String := "PinnedLeavesLaw"
abbrev cL_cell : ByteArray := method_2_code
def yL_cell : MethodName := ⟨RL, "cell", "([II)I"⟩
abbrev cL_low : ByteArray := method_3_code
def yL_low : MethodName := ⟨RL, "low", "(II)I"⟩
abbrev cL_come : ByteArray := method_4_code
def yL_come : MethodName := ⟨RL, "come", "(LPinnedLeaves;)I"⟩
abbrev cL_leave : ByteArray := method_5_code
def yL_leave : MethodName := ⟨RL, "leave", "(LPinnedLeaves;I)I"⟩
abbrev cL_enter : ByteArray := method_6_code
def yL_enter : MethodName := ⟨RL, "enter", "(LPinnedLeaves;I)I"⟩
abbrev cL_rest : ByteArray := method_7_code
def yL_rest : MethodName := ⟨RL, "rest", "(LPinnedLeaves;I)I"⟩
abbrev cL_ring : ByteArray := method_8_code
def yL_ring : MethodName := ⟨RL, "ring", "(LPinnedLeaves;)I"⟩
abbrev cL_grow : ByteArray := method_9_code
def yL_grow : MethodName := ⟨RL, "grow", "(LPinnedLeaves;II)I"⟩
abbrev cL_note : ByteArray := method_10_code
def yL_note : MethodName := ⟨RL, "note", "(LPinnedLeaves;III)I"⟩
abbrev cL_pin : ByteArray := method_11_code
def yL_pin : MethodName := ⟨RL, "pin", "(LPinnedLeaves;II)I"⟩
abbrev cL_loosen : ByteArray := method_12_code
def yL_loosen : MethodName := ⟨RL, "loosen", "(LPinnedLeaves;II)I"⟩
abbrev cL_look : ByteArray := method_13_code
def yL_look : MethodName := ⟨RL, "look", "(LPinnedLeaves;II)I"⟩
abbrev cL_take : ByteArray := method_14_code
def yL_take : MethodName := ⟨RL, "take", "(LPinnedLeaves;II)I"⟩
abbrev cL_swap : ByteArray := method_15_code
def yL_swap : MethodName := ⟨RL, "swap", "(LPinnedLeaves;III)I"⟩
abbrev cL_rake : ByteArray := method_16_code
def yL_rake : MethodName := ⟨RL, "rake", "(LPinnedLeaves;I)I"⟩
abbrev cL_set : ByteArray := method_17_code
def yL_set : MethodName := ⟨RL, "set", "(LPinnedLeaves;II)I"⟩
abbrev cL_undo : ByteArray := method_18_code
def yL_undo : MethodName := ⟨RL, "undo", "(LPinnedLeaves;)I"⟩
abbrev cL_child : ByteArray := method_19_code
def yL_child : MethodName := ⟨RL, "child", "(LPinnedLeaves;II)I"⟩
abbrev cL_where : ByteArray := method_20_code
def yL_where : MethodName := ⟨RL, "where", "(I[I)I"⟩
abbrev cL_put : ByteArray := method_21_code
def yL_put : MethodName := ⟨RL, "put", "(II[I)V"⟩
abbrev cL_branch : ByteArray := method_22_code
def yL_branch : MethodName := ⟨RL, "branch", "(I[I)I"⟩
abbrev cL_noted : ByteArray := method_23_code
def yL_noted : MethodName := ⟨RL, "noted", "(I[I)I"⟩
abbrev cL_pins : ByteArray := method_24_code
def yL_pins : MethodName := ⟨RL, "pins", "(III[I)I"⟩
abbrev cL_may : ByteArray := method_25_code
def yL_may : MethodName := ⟨RL, "may", "(III[I[I[I)Z"⟩
abbrev cL_heap : ByteArray := method_26_code
def yL_heap : MethodName := ⟨RL, "heap", "(I[I[I[I)I"⟩
abbrev cL_children : ByteArray := method_27_code
def yL_children : MethodName := ⟨RL, "children", "([I)I"⟩
abbrev cL_raked : ByteArray := method_28_code
def yL_raked : MethodName := ⟨RL, "raked", "(I[I[I[I[I[I)I"⟩
abbrev cL_taken : ByteArray := method_29_code
def yL_taken : MethodName := ⟨RL, "taken", "(II[I[I[I[I[I[I)I"⟩
abbrev cL_grown : ByteArray := method_30_code
def yL_grown : MethodName := ⟨RL, "grown", "(II[I[I[I)I"⟩
abbrev cL_late : ByteArray := method_31_code
def yL_late : MethodName := ⟨RL, "late", "([I[I)I"⟩
abbrev cL_without : ByteArray := method_32_code
def yL_without : MethodName := ⟨RL, "without", "(I[I[I)V"⟩
abbrev cL_goes : ByteArray := method_33_code
def yL_goes : MethodName := ⟨RL, "goes", "(LPinnedLeaves;II[I[I[I[I[I)Z"⟩
abbrev cL_hooks : ByteArray := method_34_code
def yL_hooks : MethodName := ⟨RL, "hooks", "(LPinnedLeaves;II[I[I[I[I[I)Z"⟩
abbrev cL_leaves : ByteArray := method_35_code
def yL_leaves : MethodName := ⟨RL, "leaves", "(LPinnedLeaves;II[I[I[I[I[I[I)Z"⟩
abbrev cL_areLeaves : ByteArray := method_36_code
def yL_areLeaves : MethodName := ⟨RL, "areLeaves", "(LPinnedLeaves;[I[I[I[I)Z"⟩
abbrev cL_isChild : ByteArray := method_37_code
def yL_isChild : MethodName := ⟨RL, "isChild", "(LPinnedLeaves;I[I[I[I[I[I)Z"⟩
abbrev cL_burns : ByteArray := method_38_code
def yL_burns : MethodName := ⟨RL, "burns", "(II[I[I[I[I)I"⟩
abbrev cL_areChildren : ByteArray := method_39_code
def yL_areChildren : MethodName := ⟨RL, "areChildren", "(LPinnedLeaves;[I[I[I[I[I)Z"⟩
abbrev cL_isSo : ByteArray := method_40_code
def yL_isSo : MethodName := ⟨RL, "isSo", "(LPinnedLeaves;[I[I[I[I[I[I)Z"⟩
abbrev cL_law : ByteArray := code
def yL_law : MethodName := ⟨RL, "law", "([I)Z"⟩
theorem inJ9 : ∀ w ∈ wsJ90, w ∈ lw_tbl := by decide +kernel
theorem inJ0 : ∀ w ∈ wsJ00, w ∈ lw_tbl := by decide +kernel
theorem inJ10 : ∀ w ∈ wsJ100, w ∈ lw_tbl := by decide +kernel
abbrev vwCl : List vw_C := [(RX0, TX0, 7), (RX1, TX1, 3), (RX2, TX2, 7), (RX3, TX3, 2), (RX4, TX4, 1), (RX5, TX5, 3), (RX6, TX6, 11), (RX7, TX7, 5)]
/-! the words of all methods: the good ones of the tables -/
def gw : List Cond := lw_tbl.filter goodWord
theorem gw_good : GoodIn gw gw := fun w h => ⟨h, good_of_word (List.mem_filter.mp h).2⟩
theorem gw_tbl : ∀ w ∈ gw, w ∈ lw_tbl := fun w h => (List.mem_filter.mp h).1
theorem gw_t {w : Cond} (h : w ∈ tables_1) (g : goodWord w = true) : w ∈ gw := List.mem_filter.mpr ⟨List.mem_append_right _ h, g⟩
theorem gw_p {y : MethodName} {n : Nat} (h : (y, n) ∈ lw_privs) : Cond.selects y.cls y y ∈ gw := List.mem_filter.mpr ⟨List.mem_append_left _ (List.mem_map.mpr ⟨(y, n), h, rfl⟩), rfl⟩
theorem gw_t1 {w : Cond} (h : w ∈ tables_1_1) (g : goodWord w = true) : w ∈ gw := gw_t (List.mem_append_left _ h) g
theorem gw_t2 {w : Cond} (h : w ∈ tables_1_2) (g : goodWord w = true) : w ∈ gw := gw_t (List.mem_append_right _ (List.mem_append_left _ h)) g
theorem gw_t3 {w : Cond} (h : w ∈ tables_1_3) (g : goodWord w = true) : w ∈ gw := gw_t (List.mem_append_right _ (List.mem_append_right _ (List.mem_append_left _ h))) g
theorem gw_t4 {w : Cond} (h : w ∈ tables_1_4) (g : goodWord w = true) : w ∈ gw := gw_t (List.mem_append_right _ (List.mem_append_right _ (List.mem_append_right _ (List.mem_append_left _ h)))) g
theorem gw_t5 {w : Cond} (h : w ∈ tables_1_5) (g : goodWord w = true) : w ∈ gw := gw_t (List.mem_append_right _ (List.mem_append_right _ (List.mem_append_right _ (List.mem_append_right _ (h))))) g
theorem wq0 : Cond.classLink RL 10 RX7 ∈ gw := gw_t1 (List.mem_of_getElem? (i := 17) rfl) rfl
theorem wq1 : Cond.instantiable RX7 5 ∈ gw := gw_t1 (List.mem_of_getElem? (i := 18) rfl) rfl
theorem wq2 : Cond.initialized RX7 ∈ gw := gw_t1 (List.mem_of_getElem? (i := 1) rfl) rfl
theorem wq3 : Cond.arrayClass .int ∈ gw := gw_t1 (List.mem_of_getElem? (i := 47) rfl) rfl
theorem wq4 : Cond.methodLink RL 221 yX7_init ∈ gw := gw_t1 (List.mem_of_getElem? (i := 19) rfl) rfl
theorem wq5 : Cond.instanceMethod yX7_init ∈ gw := gw_t1 (List.mem_of_getElem? (i := 20) rfl) rfl
theorem wq6 : Cond.code yX7_init cX7_init 1 none ∈ gw := gw_t1 (List.mem_of_getElem? (i := 21) rfl) rfl
theorem wq7 : Cond.methodLink RX7 1 objectInit ∈ gw := gw_t1 (List.mem_of_getElem? (i := 22) rfl) rfl
theorem wq8 : Cond.instanceMethod objectInit ∈ gw := gw_t1 (List.mem_of_getElem? (i := 23) rfl) rfl
theorem wq9 : Cond.code objectInit ⟨#[0xb1]⟩ 1 none ∈ gw := gw_t1 (List.mem_of_getElem? (i := 24) rfl) rfl
theorem wq10 : Cond.classLink RX7 7 RX6 ∈ gw := gw_t1 (List.mem_of_getElem? (i := 25) rfl) rfl
theorem wq11 : Cond.instantiable RX6 11 ∈ gw := gw_t1 (List.mem_of_getElem? (i := 26) rfl) rfl
theorem wq12 : Cond.initialized RX6 ∈ gw := gw_t1 (List.mem_of_getElem? (i := 2) rfl) rfl
theorem wq13 : Cond.fieldLink RX7 10 "PinnedLeaves" "yard" "LPinnedLeaves$Yard;" ∈ gw := gw_t1 (List.mem_of_getElem? (i := 216) rfl) rfl
theorem wq14 : Cond.fieldLink RX7 16 "PinnedLeaves" "snapshot" "LPinnedLeaves$Yard;" ∈ gw := gw_t1 (List.mem_of_getElem? (i := 217) rfl) rfl
theorem wq15 : Cond.classLink RX7 19 RX5 ∈ gw := gw_t1 (List.mem_of_getElem? (i := 183) rfl) rfl
theorem wq16 : Cond.instantiable RX5 3 ∈ gw := gw_t1 (List.mem_of_getElem? (i := 184) rfl) rfl
theorem wq17 : Cond.initialized RX5 ∈ gw := gw_t1 (List.mem_of_getElem? (i := 7) rfl) rfl
theorem wq18 : Cond.fieldLink RX7 22 "PinnedLeaves" "saved" "LPinnedLeaves$SavedYards;" ∈ gw := gw_t1 (List.mem_of_getElem? (i := 218) rfl) rfl
theorem wq19 : Cond.classLink RX7 26 RX3 ∈ gw := gw_t1 (List.mem_of_getElem? (i := 202) rfl) rfl
theorem wq20 : Cond.instantiable RX3 2 ∈ gw := gw_t1 (List.mem_of_getElem? (i := 203) rfl) rfl
theorem wq21 : Cond.initialized RX3 ∈ gw := gw_t1 (List.mem_of_getElem? (i := 8) rfl) rfl
theorem wq22 : Cond.fieldLink RX7 29 "PinnedLeaves" "text" "LPinnedLeaves$OrderText;" ∈ gw := gw_t1 (List.mem_of_getElem? (i := 219) rfl) rfl
theorem wq23 : Cond.instanceMethod yX6_init ∈ gw := gw_t1 (List.mem_of_getElem? (i := 28) rfl) rfl
theorem wq24 : Cond.code yX6_init cX6_init 1 none ∈ gw := gw_t1 (List.mem_of_getElem? (i := 29) rfl) rfl
theorem wq25 : Cond.methodLink RX6 3 objectInit ∈ gw := gw_t1 (List.mem_of_getElem? (i := 30) rfl) rfl
theorem wq26 : Cond.fieldLink RX6 9 "PinnedLeaves$Yard" "rakeAt" "I" ∈ gw := gw_t1 (List.mem_of_getElem? (i := 146) rfl) rfl
theorem wq27 : Cond.fieldLink RX6 15 "PinnedLeaves$Yard" "burnsBy" "I" ∈ gw := gw_t1 (List.mem_of_getElem? (i := 148) rfl) rfl
theorem wq28 : Cond.classLink RX6 18 RX2 ∈ gw := gw_t1 (List.mem_of_getElem? (i := 31) rfl) rfl
theorem wq29 : Cond.instantiable RX2 7 ∈ gw := gw_t1 (List.mem_of_getElem? (i := 32) rfl) rfl
theorem wq30 : Cond.initialized RX2 ∈ gw := gw_t1 (List.mem_of_getElem? (i := 3) rfl) rfl
theorem wq31 : Cond.fieldLink RX6 21 "PinnedLeaves$Yard" "leaves" "LPinnedLeaves$Leaves;" ∈ gw := gw_t1 (List.mem_of_getElem? (i := 154) rfl) rfl
theorem wq32 : Cond.classLink RX6 25 RX0 ∈ gw := gw_t1 (List.mem_of_getElem? (i := 83) rfl) rfl
theorem wq33 : Cond.instantiable RX0 7 ∈ gw := gw_t1 (List.mem_of_getElem? (i := 84) rfl) rfl
theorem wq34 : Cond.initialized RX0 ∈ gw := gw_t1 (List.mem_of_getElem? (i := 5) rfl) rfl
theorem wq35 : Cond.fieldLink RX6 28 "PinnedLeaves$Yard" "children" "LPinnedLeaves$Children;" ∈ gw := gw_t1 (List.mem_of_getElem? (i := 156) rfl) rfl
theorem wq36 : Cond.classLink RX6 32 RX1 ∈ gw := gw_t1 (List.mem_of_getElem? (i := 124) rfl) rfl
theorem wq37 : Cond.instantiable RX1 3 ∈ gw := gw_t1 (List.mem_of_getElem? (i := 125) rfl) rfl
theorem wq38 : Cond.initialized RX1 ∈ gw := gw_t1 (List.mem_of_getElem? (i := 6) rfl) rfl
theorem wq39 : Cond.fieldLink RX6 35 "PinnedLeaves$Yard" "hooks" "LPinnedLeaves$Hooks;" ∈ gw := gw_t1 (List.mem_of_getElem? (i := 158) rfl) rfl
theorem wq40 : Cond.methodLink RX6 20 yX2_init ∈ gw := gw_t1 (List.mem_of_getElem? (i := 33) rfl) rfl
theorem wq41 : Cond.instanceMethod yX2_init ∈ gw := gw_t1 (List.mem_of_getElem? (i := 34) rfl) rfl
theorem wq42 : Cond.code yX2_init cX2_init 1 none ∈ gw := gw_t1 (List.mem_of_getElem? (i := 35) rfl) rfl
theorem wq43 : Cond.methodLink RX2 3 objectInit ∈ gw := gw_t1 (List.mem_of_getElem? (i := 36) rfl) rfl
theorem wq44 : Cond.classLink RX2 9 RX4 ∈ gw := gw_t1 (List.mem_of_getElem? (i := 37) rfl) rfl
theorem wq45 : Cond.instantiable RX4 1 ∈ gw := gw_t1 (List.mem_of_getElem? (i := 38) rfl) rfl
theorem wq46 : Cond.initialized RX4 ∈ gw := gw_t1 (List.mem_of_getElem? (i := 4) rfl) rfl
theorem wq47 : Cond.fieldLink RX2 14 "PinnedLeaves$Leaves" "onBranch" "LPinnedLeaves$Row;" ∈ gw := gw_t1 (List.mem_of_getElem? (i := 55) rfl) rfl
theorem wq48 : Cond.fieldLink RX2 20 "PinnedLeaves$Leaves" "colours" "LPinnedLeaves$Row;" ∈ gw := gw_t1 (List.mem_of_getElem? (i := 58) rfl) rfl
theorem wq49 : Cond.fieldLink RX2 23 "PinnedLeaves$Leaves" "where" "LPinnedLeaves$Row;" ∈ gw := gw_t1 (List.mem_of_getElem? (i := 60) rfl) rfl
theorem wq50 : Cond.fieldLink RX2 26 "PinnedLeaves$Leaves" "lastBranch" "LPinnedLeaves$Row;" ∈ gw := gw_t1 (List.mem_of_getElem? (i := 62) rfl) rfl
theorem wq51 : Cond.fieldLink RX2 29 "PinnedLeaves$Leaves" "asideSince" "LPinnedLeaves$Row;" ∈ gw := gw_t1 (List.mem_of_getElem? (i := 64) rfl) rfl
theorem wq52 : Cond.fieldLink RX2 32 "PinnedLeaves$Leaves" "heapOf" "LPinnedLeaves$Row;" ∈ gw := gw_t1 (List.mem_of_getElem? (i := 66) rfl) rfl
theorem wq53 : Cond.methodLink RX2 11 yX4_init ∈ gw := gw_t1 (List.mem_of_getElem? (i := 39) rfl) rfl
theorem wq54 : Cond.instanceMethod yX4_init ∈ gw := gw_t1 (List.mem_of_getElem? (i := 40) rfl) rfl
theorem wq55 : Cond.code yX4_init cX4_init 2 none ∈ gw := gw_t1 (List.mem_of_getElem? (i := 41) rfl) rfl
theorem wq56 : Cond.methodLink RX4 3 objectInit ∈ gw := gw_t1 (List.mem_of_getElem? (i := 42) rfl) rfl
theorem wq57 : Cond.fieldLink RX4 9 "PinnedLeaves$Row" "cells" "[I" ∈ gw := gw_t1 (List.mem_of_getElem? (i := 43) rfl) rfl
theorem wq58 : Cond.methodLink RX2 35 yX4_fill ∈ gw := gw_t1 (List.mem_of_getElem? (i := 48) rfl) rfl
theorem wq59 : Cond.instanceMethod yX4_fill ∈ gw := gw_t1 (List.mem_of_getElem? (i := 49) rfl) rfl
theorem wq60 : Cond.selects RX4 yX4_fill yX4_fill ∈ gw := gw_t1 (List.mem_of_getElem? (i := 50) rfl) rfl
theorem wq61 : Cond.code yX4_fill cX4_fill 3 none ∈ gw := gw_t1 (List.mem_of_getElem? (i := 51) rfl) rfl
theorem wq62 : Cond.methodLink RX6 27 yX0_init ∈ gw := gw_t1 (List.mem_of_getElem? (i := 85) rfl) rfl
theorem wq63 : Cond.instanceMethod yX0_init ∈ gw := gw_t1 (List.mem_of_getElem? (i := 86) rfl) rfl
theorem wq64 : Cond.code yX0_init cX0_init 1 none ∈ gw := gw_t1 (List.mem_of_getElem? (i := 87) rfl) rfl
theorem wq65 : Cond.methodLink RX0 3 objectInit ∈ gw := gw_t1 (List.mem_of_getElem? (i := 88) rfl) rfl
theorem wq66 : Cond.classLink RX0 9 RX4 ∈ gw := gw_t1 (List.mem_of_getElem? (i := 89) rfl) rfl
theorem wq67 : Cond.fieldLink RX0 14 "PinnedLeaves$Children" "here" "LPinnedLeaves$Row;" ∈ gw := gw_t1 (List.mem_of_getElem? (i := 96) rfl) rfl
theorem wq68 : Cond.fieldLink RX0 20 "PinnedLeaves$Children" "cameInAt" "LPinnedLeaves$Row;" ∈ gw := gw_t1 (List.mem_of_getElem? (i := 97) rfl) rfl
theorem wq69 : Cond.fieldLink RX0 23 "PinnedLeaves$Children" "tookOff" "LPinnedLeaves$Row;" ∈ gw := gw_t1 (List.mem_of_getElem? (i := 99) rfl) rfl
theorem wq70 : Cond.fieldLink RX0 26 "PinnedLeaves$Children" "burnt" "LPinnedLeaves$Row;" ∈ gw := gw_t1 (List.mem_of_getElem? (i := 101) rfl) rfl
theorem wq71 : Cond.fieldLink RX0 29 "PinnedLeaves$Children" "rakings" "LPinnedLeaves$Row;" ∈ gw := gw_t1 (List.mem_of_getElem? (i := 103) rfl) rfl
theorem wq72 : Cond.fieldLink RX0 32 "PinnedLeaves$Children" "heapSize" "LPinnedLeaves$Row;" ∈ gw := gw_t1 (List.mem_of_getElem? (i := 105) rfl) rfl
theorem wq73 : Cond.fieldLink RX0 35 "PinnedLeaves$Children" "heaps" "LPinnedLeaves$Row;" ∈ gw := gw_t1 (List.mem_of_getElem? (i := 107) rfl) rfl
theorem wq74 : Cond.methodLink RX0 11 yX4_init ∈ gw := gw_t1 (List.mem_of_getElem? (i := 90) rfl) rfl
theorem wq75 : Cond.methodLink RX0 38 yX4_fill ∈ gw := gw_t1 (List.mem_of_getElem? (i := 91) rfl) rfl
theorem wq76 : Cond.methodLink RX0 41 yX4_put ∈ gw := gw_t1 (List.mem_of_getElem? (i := 92) rfl) rfl
theorem wq77 : Cond.instanceMethod yX4_put ∈ gw := gw_t1 (List.mem_of_getElem? (i := 93) rfl) rfl
theorem wq78 : Cond.selects RX4 yX4_put yX4_put ∈ gw := gw_t1 (List.mem_of_getElem? (i := 94) rfl) rfl
theorem wq79 : Cond.code yX4_put cX4_put 3 none ∈ gw := gw_t1 (List.mem_of_getElem? (i := 95) rfl) rfl
theorem wq80 : Cond.methodLink RX6 34 yX1_init ∈ gw := gw_t1 (List.mem_of_getElem? (i := 126) rfl) rfl
theorem wq81 : Cond.instanceMethod yX1_init ∈ gw := gw_t1 (List.mem_of_getElem? (i := 127) rfl) rfl
theorem wq82 : Cond.code yX1_init cX1_init 1 none ∈ gw := gw_t1 (List.mem_of_getElem? (i := 128) rfl) rfl
theorem wq83 : Cond.methodLink RX1 3 objectInit ∈ gw := gw_t1 (List.mem_of_getElem? (i := 129) rfl) rfl
theorem wq84 : Cond.classLink RX1 9 RX4 ∈ gw := gw_t1 (List.mem_of_getElem? (i := 130) rfl) rfl
theorem wq85 : Cond.fieldLink RX1 16 "PinnedLeaves$Hooks" "pinned" "LPinnedLeaves$Row;" ∈ gw := gw_t1 (List.mem_of_getElem? (i := 133) rfl) rfl
theorem wq86 : Cond.fieldLink RX1 20 "PinnedLeaves$Hooks" "noted" "LPinnedLeaves$Row;" ∈ gw := gw_t1 (List.mem_of_getElem? (i := 135) rfl) rfl
theorem wq87 : Cond.fieldLink RX1 23 "PinnedLeaves$Hooks" "branches" "LPinnedLeaves$Row;" ∈ gw := gw_t1 (List.mem_of_getElem? (i := 136) rfl) rfl
theorem wq88 : Cond.methodLink RX1 13 yX4_init ∈ gw := gw_t1 (List.mem_of_getElem? (i := 131) rfl) rfl
theorem wq89 : Cond.methodLink RX1 26 yX4_fill ∈ gw := gw_t1 (List.mem_of_getElem? (i := 132) rfl) rfl
theorem wq90 : Cond.methodLink RX7 21 yX5_init ∈ gw := gw_t1 (List.mem_of_getElem? (i := 185) rfl) rfl
theorem wq91 : Cond.instanceMethod yX5_init ∈ gw := gw_t1 (List.mem_of_getElem? (i := 186) rfl) rfl
theorem wq92 : Cond.code yX5_init cX5_init 2 none ∈ gw := gw_t1 (List.mem_of_getElem? (i := 187) rfl) rfl
theorem wq93 : Cond.methodLink RX5 3 objectInit ∈ gw := gw_t1 (List.mem_of_getElem? (i := 188) rfl) rfl
theorem wq94 : Cond.classLink RX5 9 RX6 ∈ gw := gw_t1 (List.mem_of_getElem? (i := 189) rfl) rfl
theorem wq95 : Cond.fieldLink RX5 11 "PinnedLeaves$SavedYards" "yards" "[LPinnedLeaves$Yard;" ∈ gw := gw_t1 (List.mem_of_getElem? (i := 192) rfl) rfl
theorem wq96 : Cond.instanceMethod yX3_init ∈ gw := gw_t1 (List.mem_of_getElem? (i := 205) rfl) rfl
theorem wq97 : Cond.code yX3_init cX3_init 1 none ∈ gw := gw_t1 (List.mem_of_getElem? (i := 206) rfl) rfl
theorem wq98 : Cond.methodLink RX3 3 objectInit ∈ gw := gw_t1 (List.mem_of_getElem? (i := 207) rfl) rfl
theorem wq99 : Cond.classLink RX3 9 RX4 ∈ gw := gw_t1 (List.mem_of_getElem? (i := 208) rfl) rfl
theorem wq100 : Cond.fieldLink RX3 14 "PinnedLeaves$OrderText" "signs" "LPinnedLeaves$Row;" ∈ gw := gw_t1 (List.mem_of_getElem? (i := 210) rfl) rfl
theorem wq101 : Cond.methodLink RX3 11 yX4_init ∈ gw := gw_t1 (List.mem_of_getElem? (i := 209) rfl) rfl
theorem wq102 : Cond.methodLink RL 108 yL_without ∈ gw := gw_t2 (List.mem_of_getElem? (i := 184) rfl) rfl
theorem wq103 : Cond.static yL_without ∈ gw := gw_t2 (List.mem_of_getElem? (i := 185) rfl) rfl
theorem wq104 : Cond.initialized RL ∈ gw := gw_t1 (List.mem_of_getElem? (i := 0) rfl) rfl
theorem wq105 : Cond.code yL_without cL_without 4 none ∈ gw := gw_t2 (List.mem_of_getElem? (i := 186) rfl) rfl
theorem wq106 : Cond.methodLink RL 222 yL_isSo ∈ gw := gw_t4 (List.mem_of_getElem? (i := 114) rfl) rfl
theorem wq107 : Cond.static yL_isSo ∈ gw := gw_t4 (List.mem_of_getElem? (i := 115) rfl) rfl
theorem wq108 : Cond.code yL_isSo cL_isSo 17 (some .boolean) ∈ gw := gw_t4 (List.mem_of_getElem? (i := 116) rfl) rfl
theorem wq109 : Cond.methodLink RL 75 yL_pins ∈ gw := gw_t4 (List.mem_of_getElem? (i := 76) rfl) rfl
theorem wq110 : Cond.static yL_pins ∈ gw := gw_t4 (List.mem_of_getElem? (i := 77) rfl) rfl
theorem wq111 : Cond.code yL_pins cL_pins 6 (some .int) ∈ gw := gw_t4 (List.mem_of_getElem? (i := 78) rfl) rfl
theorem wq112 : Cond.methodLink RL 69 yL_where ∈ gw := gw_t3 (List.mem_of_getElem? (i := 139) rfl) rfl
theorem wq113 : Cond.static yL_where ∈ gw := gw_t3 (List.mem_of_getElem? (i := 140) rfl) rfl
theorem wq114 : Cond.code yL_where cL_where 2 (some .int) ∈ gw := gw_t3 (List.mem_of_getElem? (i := 141) rfl) rfl
theorem wq115 : Cond.methodLink RL 191 yX7_count ∈ gw := gw_t1 (List.mem_of_getElem? (i := 231) rfl) rfl
theorem wq116 : Cond.instanceMethod yX7_count ∈ gw := gw_t1 (List.mem_of_getElem? (i := 232) rfl) rfl
theorem wq117 : Cond.selects RX7 yX7_count yX7_count ∈ gw := gw_t1 (List.mem_of_getElem? (i := 233) rfl) rfl
theorem wq118 : Cond.code yX7_count cX7_count 2 (some .int) ∈ gw := gw_t1 (List.mem_of_getElem? (i := 234) rfl) rfl
theorem wq119 : Cond.methodLink RX7 247 yX7_needWhat ∈ gw := gw_t1 (List.mem_of_getElem? (i := 235) rfl) rfl
theorem wq120 : Cond.static yX7_needWhat ∈ gw := gw_t1 (List.mem_of_getElem? (i := 236) rfl) rfl
theorem wq121 : Cond.code yX7_needWhat cX7_needWhat 2 none ∈ gw := gw_t1 (List.mem_of_getElem? (i := 237) rfl) rfl
theorem wq122 : Cond.classLink RX7 181 "java/lang/IllegalArgumentException" ∈ gw := gw_t1 (List.mem_of_getElem? (i := 238) rfl) rfl
theorem wq123 : Cond.initialized "java/lang/IllegalArgumentException" ∈ gw := gw_t1 (List.mem_of_getElem? (i := 12) rfl) rfl
theorem wq124 : Cond.methodLink RX7 270 yX7_counted ∈ gw := gw_t2 (List.mem_of_getElem? (i := 66) rfl) rfl
theorem wq125 : Cond.instanceMethod yX7_counted ∈ gw := gw_t2 (List.mem_of_getElem? (i := 68) rfl) rfl
theorem wq126 : Cond.selects RX7 yX7_counted yX7_counted ∈ gw := gw_p (n := _) (List.mem_of_getElem? (i := 1) rfl)
theorem wq127 : Cond.code yX7_counted cX7_counted 2 (some .int) ∈ gw := gw_t2 (List.mem_of_getElem? (i := 69) rfl) rfl
theorem wq128 : Cond.methodLink RX7 229 yX5_number ∈ gw := gw_t2 (List.mem_of_getElem? (i := 70) rfl) rfl
theorem wq129 : Cond.instanceMethod yX5_number ∈ gw := gw_t2 (List.mem_of_getElem? (i := 71) rfl) rfl
theorem wq130 : Cond.selects RX5 yX5_number yX5_number ∈ gw := gw_t2 (List.mem_of_getElem? (i := 72) rfl) rfl
theorem wq131 : Cond.code yX5_number cX5_number 1 (some .int) ∈ gw := gw_t2 (List.mem_of_getElem? (i := 73) rfl) rfl
theorem wq132 : Cond.fieldLink RX5 18 "PinnedLeaves$SavedYards" "size" "I" ∈ gw := gw_t1 (List.mem_of_getElem? (i := 194) rfl) rfl
theorem wq133 : Cond.methodLink RX7 369 yX6_numberOfAll ∈ gw := gw_t2 (List.mem_of_getElem? (i := 74) rfl) rfl
theorem wq134 : Cond.instanceMethod yX6_numberOfAll ∈ gw := gw_t2 (List.mem_of_getElem? (i := 75) rfl) rfl
theorem wq135 : Cond.selects RX6 yX6_numberOfAll yX6_numberOfAll ∈ gw := gw_t2 (List.mem_of_getElem? (i := 76) rfl) rfl
theorem wq136 : Cond.code yX6_numberOfAll cX6_numberOfAll 2 (some .int) ∈ gw := gw_t2 (List.mem_of_getElem? (i := 77) rfl) rfl
theorem wq137 : Cond.fieldLink RX6 39 "PinnedLeaves$Yard" "bell" "I" ∈ gw := gw_t1 (List.mem_of_getElem? (i := 144) rfl) rfl
theorem wq138 : Cond.fieldLink RX6 127 "PinnedLeaves$Leaves" "grown" "I" ∈ gw := gw_t1 (List.mem_of_getElem? (i := 53) rfl) rfl
theorem wq139 : Cond.fieldLink RX6 42 "PinnedLeaves$Yard" "rakings" "I" ∈ gw := gw_t1 (List.mem_of_getElem? (i := 149) rfl) rfl
theorem wq140 : Cond.fieldLink RX6 45 "PinnedLeaves$Yard" "lookedThrough" "I" ∈ gw := gw_t1 (List.mem_of_getElem? (i := 150) rfl) rfl
theorem wq141 : Cond.fieldLink RX6 48 "PinnedLeaves$Yard" "failedPins" "I" ∈ gw := gw_t1 (List.mem_of_getElem? (i := 151) rfl) rfl
theorem wq142 : Cond.fieldLink RX6 51 "PinnedLeaves$Yard" "dangers" "I" ∈ gw := gw_t1 (List.mem_of_getElem? (i := 152) rfl) rfl
theorem wq143 : Cond.fieldLink RX6 54 "PinnedLeaves$Yard" "mostAside" "I" ∈ gw := gw_t1 (List.mem_of_getElem? (i := 153) rfl) rfl
theorem wq144 : Cond.methodLink RX6 237 yX0_mask ∈ gw := gw_t2 (List.mem_of_getElem? (i := 78) rfl) rfl
theorem wq145 : Cond.instanceMethod yX0_mask ∈ gw := gw_t2 (List.mem_of_getElem? (i := 79) rfl) rfl
theorem wq146 : Cond.selects RX0 yX0_mask yX0_mask ∈ gw := gw_t2 (List.mem_of_getElem? (i := 80) rfl) rfl
theorem wq147 : Cond.code yX0_mask cX0_mask 3 (some .int) ∈ gw := gw_t2 (List.mem_of_getElem? (i := 81) rfl) rfl
theorem wq148 : Cond.methodLink RX0 53 yX0_isHere ∈ gw := gw_t2 (List.mem_of_getElem? (i := 82) rfl) rfl
theorem wq149 : Cond.instanceMethod yX0_isHere ∈ gw := gw_t2 (List.mem_of_getElem? (i := 83) rfl) rfl
theorem wq150 : Cond.selects RX0 yX0_isHere yX0_isHere ∈ gw := gw_t2 (List.mem_of_getElem? (i := 84) rfl) rfl
theorem wq151 : Cond.code yX0_isHere cX0_isHere 2 (some .boolean) ∈ gw := gw_t2 (List.mem_of_getElem? (i := 85) rfl) rfl
theorem wq152 : Cond.methodLink RX0 45 yX4_get ∈ gw := gw_t2 (List.mem_of_getElem? (i := 86) rfl) rfl
theorem wq153 : Cond.instanceMethod yX4_get ∈ gw := gw_t2 (List.mem_of_getElem? (i := 87) rfl) rfl
theorem wq154 : Cond.selects RX4 yX4_get yX4_get ∈ gw := gw_t2 (List.mem_of_getElem? (i := 88) rfl) rfl
theorem wq155 : Cond.code yX4_get cX4_get 2 (some .int) ∈ gw := gw_t2 (List.mem_of_getElem? (i := 89) rfl) rfl
theorem wq156 : Cond.methodLink RX6 201 yX0_number ∈ gw := gw_t2 (List.mem_of_getElem? (i := 90) rfl) rfl
theorem wq157 : Cond.instanceMethod yX0_number ∈ gw := gw_t2 (List.mem_of_getElem? (i := 91) rfl) rfl
theorem wq158 : Cond.selects RX0 yX0_number yX0_number ∈ gw := gw_t2 (List.mem_of_getElem? (i := 92) rfl) rfl
theorem wq159 : Cond.code yX0_number cX0_number 1 (some .int) ∈ gw := gw_t2 (List.mem_of_getElem? (i := 93) rfl) rfl
theorem wq160 : Cond.methodLink RX0 49 yX4_number ∈ gw := gw_t2 (List.mem_of_getElem? (i := 94) rfl) rfl
theorem wq161 : Cond.instanceMethod yX4_number ∈ gw := gw_t2 (List.mem_of_getElem? (i := 95) rfl) rfl
theorem wq162 : Cond.selects RX4 yX4_number yX4_number ∈ gw := gw_t2 (List.mem_of_getElem? (i := 96) rfl) rfl
theorem wq163 : Cond.code yX4_number cX4_number 6 (some .int) ∈ gw := gw_t2 (List.mem_of_getElem? (i := 97) rfl) rfl
theorem wq164 : Cond.methodLink RX6 240 yX0_numberInYard ∈ gw := gw_t2 (List.mem_of_getElem? (i := 98) rfl) rfl
theorem wq165 : Cond.instanceMethod yX0_numberInYard ∈ gw := gw_t2 (List.mem_of_getElem? (i := 99) rfl) rfl
theorem wq166 : Cond.selects RX0 yX0_numberInYard yX0_numberInYard ∈ gw := gw_t2 (List.mem_of_getElem? (i := 100) rfl) rfl
theorem wq167 : Cond.code yX0_numberInYard cX0_numberInYard 1 (some .int) ∈ gw := gw_t2 (List.mem_of_getElem? (i := 101) rfl) rfl
theorem wq168 : Cond.methodLink RX6 168 yX2_numberWhere ∈ gw := gw_t2 (List.mem_of_getElem? (i := 102) rfl) rfl
theorem wq169 : Cond.instanceMethod yX2_numberWhere ∈ gw := gw_t2 (List.mem_of_getElem? (i := 103) rfl) rfl
theorem wq170 : Cond.selects RX2 yX2_numberWhere yX2_numberWhere ∈ gw := gw_t2 (List.mem_of_getElem? (i := 104) rfl) rfl
theorem wq171 : Cond.code yX2_numberWhere cX2_numberWhere 2 (some .int) ∈ gw := gw_t2 (List.mem_of_getElem? (i := 105) rfl) rfl
theorem wq172 : Cond.fieldLink RX2 38 "PinnedLeaves$Leaves" "grown" "I" ∈ gw := gw_t1 (List.mem_of_getElem? (i := 52) rfl) rfl
theorem wq173 : Cond.methodLink RX2 50 yX4_number ∈ gw := gw_t2 (List.mem_of_getElem? (i := 106) rfl) rfl
theorem wq174 : Cond.methodLink RX6 243 yX1_pins ∈ gw := gw_t2 (List.mem_of_getElem? (i := 107) rfl) rfl
theorem wq175 : Cond.instanceMethod yX1_pins ∈ gw := gw_t2 (List.mem_of_getElem? (i := 108) rfl) rfl
theorem wq176 : Cond.selects RX1 yX1_pins yX1_pins ∈ gw := gw_t2 (List.mem_of_getElem? (i := 109) rfl) rfl
theorem wq177 : Cond.code yX1_pins cX1_pins 1 (some .int) ∈ gw := gw_t2 (List.mem_of_getElem? (i := 110) rfl) rfl
theorem wq178 : Cond.methodLink RX1 43 yX4_number ∈ gw := gw_t2 (List.mem_of_getElem? (i := 111) rfl) rfl
theorem wq179 : Cond.methodLink RX6 246 yX1_notes ∈ gw := gw_t2 (List.mem_of_getElem? (i := 112) rfl) rfl
theorem wq180 : Cond.instanceMethod yX1_notes ∈ gw := gw_t2 (List.mem_of_getElem? (i := 113) rfl) rfl
theorem wq181 : Cond.selects RX1 yX1_notes yX1_notes ∈ gw := gw_t2 (List.mem_of_getElem? (i := 114) rfl) rfl
theorem wq182 : Cond.code yX1_notes cX1_notes 1 (some .int) ∈ gw := gw_t2 (List.mem_of_getElem? (i := 115) rfl) rfl
theorem wq183 : Cond.methodLink RL 90 yL_children ∈ gw := gw_t3 (List.mem_of_getElem? (i := 100) rfl) rfl
theorem wq184 : Cond.static yL_children ∈ gw := gw_t3 (List.mem_of_getElem? (i := 101) rfl) rfl
theorem wq185 : Cond.code yL_children cL_children 3 (some .int) ∈ gw := gw_t3 (List.mem_of_getElem? (i := 102) rfl) rfl
theorem wq186 : Cond.methodLink RL 194 yX7_setting ∈ gw := gw_t4 (List.mem_of_getElem? (i := 117) rfl) rfl
theorem wq187 : Cond.instanceMethod yX7_setting ∈ gw := gw_t4 (List.mem_of_getElem? (i := 118) rfl) rfl
theorem wq188 : Cond.selects RX7 yX7_setting yX7_setting ∈ gw := gw_t4 (List.mem_of_getElem? (i := 119) rfl) rfl
theorem wq189 : Cond.code yX7_setting cX7_setting 2 (some .int) ∈ gw := gw_t4 (List.mem_of_getElem? (i := 120) rfl) rfl
theorem wq190 : Cond.methodLink RX7 175 yX7_needSetting ∈ gw := gw_t3 (List.mem_of_getElem? (i := 84) rfl) rfl
theorem wq191 : Cond.static yX7_needSetting ∈ gw := gw_t3 (List.mem_of_getElem? (i := 85) rfl) rfl
theorem wq192 : Cond.code yX7_needSetting cX7_needSetting 1 none ∈ gw := gw_t3 (List.mem_of_getElem? (i := 86) rfl) rfl
theorem wq193 : Cond.classLink RX7 343 "java/lang/IndexOutOfBoundsException" ∈ gw := gw_t2 (List.mem_of_getElem? (i := 203) rfl) rfl
theorem wq194 : Cond.initialized "java/lang/IndexOutOfBoundsException" ∈ gw := gw_t1 (List.mem_of_getElem? (i := 13) rfl) rfl
theorem wq195 : Cond.methodLink RX7 273 yX6_valueOf ∈ gw := gw_t4 (List.mem_of_getElem? (i := 121) rfl) rfl
theorem wq196 : Cond.instanceMethod yX6_valueOf ∈ gw := gw_t3 (List.mem_of_getElem? (i := 97) rfl) rfl
theorem wq197 : Cond.selects RX6 yX6_valueOf yX6_valueOf ∈ gw := gw_t3 (List.mem_of_getElem? (i := 98) rfl) rfl
theorem wq198 : Cond.code yX6_valueOf cX6_valueOf 2 (some .int) ∈ gw := gw_t3 (List.mem_of_getElem? (i := 99) rfl) rfl
theorem wq199 : Cond.methodLink RL 197 yX7_late ∈ gw := gw_t4 (List.mem_of_getElem? (i := 122) rfl) rfl
theorem wq200 : Cond.instanceMethod yX7_late ∈ gw := gw_t4 (List.mem_of_getElem? (i := 123) rfl) rfl
theorem wq201 : Cond.selects RX7 yX7_late yX7_late ∈ gw := gw_t4 (List.mem_of_getElem? (i := 124) rfl) rfl
theorem wq202 : Cond.code yX7_late cX7_late 1 (some .int) ∈ gw := gw_t4 (List.mem_of_getElem? (i := 125) rfl) rfl
theorem wq203 : Cond.fieldLink RX7 33 "PinnedLeaves$Yard" "children" "LPinnedLeaves$Children;" ∈ gw := gw_t1 (List.mem_of_getElem? (i := 157) rfl) rfl
theorem wq204 : Cond.fieldLink RX7 223 "PinnedLeaves$Yard" "bell" "I" ∈ gw := gw_t1 (List.mem_of_getElem? (i := 145) rfl) rfl
theorem wq205 : Cond.methodLink RX7 290 yX0_maskOfLate ∈ gw := gw_t4 (List.mem_of_getElem? (i := 126) rfl) rfl
theorem wq206 : Cond.instanceMethod yX0_maskOfLate ∈ gw := gw_t3 (List.mem_of_getElem? (i := 46) rfl) rfl
theorem wq207 : Cond.selects RX0 yX0_maskOfLate yX0_maskOfLate ∈ gw := gw_t3 (List.mem_of_getElem? (i := 47) rfl) rfl
theorem wq208 : Cond.code yX0_maskOfLate cX0_maskOfLate 4 (some .int) ∈ gw := gw_t3 (List.mem_of_getElem? (i := 48) rfl) rfl
theorem wq209 : Cond.methodLink RX0 57 yX0_isInYard ∈ gw := gw_t3 (List.mem_of_getElem? (i := 49) rfl) rfl
theorem wq210 : Cond.instanceMethod yX0_isInYard ∈ gw := gw_t2 (List.mem_of_getElem? (i := 225) rfl) rfl
theorem wq211 : Cond.selects RX0 yX0_isInYard yX0_isInYard ∈ gw := gw_t2 (List.mem_of_getElem? (i := 226) rfl) rfl
theorem wq212 : Cond.code yX0_isInYard cX0_isInYard 2 (some .boolean) ∈ gw := gw_t2 (List.mem_of_getElem? (i := 227) rfl) rfl
theorem wq213 : Cond.methodLink RL 114 yL_late ∈ gw := gw_t3 (List.mem_of_getElem? (i := 31) rfl) rfl
theorem wq214 : Cond.static yL_late ∈ gw := gw_t3 (List.mem_of_getElem? (i := 32) rfl) rfl
theorem wq215 : Cond.code yL_late cL_late 4 (some .int) ∈ gw := gw_t3 (List.mem_of_getElem? (i := 33) rfl) rfl
theorem wq216 : Cond.methodLink RL 199 yX7_ifAllRested ∈ gw := gw_t4 (List.mem_of_getElem? (i := 127) rfl) rfl
theorem wq217 : Cond.instanceMethod yX7_ifAllRested ∈ gw := gw_t4 (List.mem_of_getElem? (i := 128) rfl) rfl
theorem wq218 : Cond.selects RX7 yX7_ifAllRested yX7_ifAllRested ∈ gw := gw_t4 (List.mem_of_getElem? (i := 129) rfl) rfl
theorem wq219 : Cond.code yX7_ifAllRested cX7_ifAllRested 1 (some .int) ∈ gw := gw_t4 (List.mem_of_getElem? (i := 130) rfl) rfl
theorem wq220 : Cond.methodLink RX7 296 yX6_burnableIfAllRested ∈ gw := gw_t4 (List.mem_of_getElem? (i := 131) rfl) rfl
theorem wq221 : Cond.instanceMethod yX6_burnableIfAllRested ∈ gw := gw_t4 (List.mem_of_getElem? (i := 132) rfl) rfl
theorem wq222 : Cond.selects RX6 yX6_burnableIfAllRested yX6_burnableIfAllRested ∈ gw := gw_t4 (List.mem_of_getElem? (i := 133) rfl) rfl
theorem wq223 : Cond.code yX6_burnableIfAllRested cX6_burnableIfAllRested 4 (some .int) ∈ gw := gw_t4 (List.mem_of_getElem? (i := 134) rfl) rfl
theorem wq224 : Cond.fieldLink RX6 207 "PinnedLeaves$Leaves" "asideSince" "LPinnedLeaves$Row;" ∈ gw := gw_t1 (List.mem_of_getElem? (i := 65) rfl) rfl
theorem wq225 : Cond.fieldLink RX6 149 "PinnedLeaves$Leaves" "where" "LPinnedLeaves$Row;" ∈ gw := gw_t1 (List.mem_of_getElem? (i := 61) rfl) rfl
theorem wq226 : Cond.methodLink RX6 79 yX4_get ∈ gw := gw_t3 (List.mem_of_getElem? (i := 116) rfl) rfl
theorem wq227 : Cond.methodLink RL 202 yX7_mostHeld ∈ gw := gw_t4 (List.mem_of_getElem? (i := 135) rfl) rfl
theorem wq228 : Cond.instanceMethod yX7_mostHeld ∈ gw := gw_t4 (List.mem_of_getElem? (i := 136) rfl) rfl
theorem wq229 : Cond.selects RX7 yX7_mostHeld yX7_mostHeld ∈ gw := gw_t4 (List.mem_of_getElem? (i := 137) rfl) rfl
theorem wq230 : Cond.code yX7_mostHeld cX7_mostHeld 1 (some .int) ∈ gw := gw_t4 (List.mem_of_getElem? (i := 138) rfl) rfl
theorem wq231 : Cond.methodLink RX7 299 yX6_mostPinned ∈ gw := gw_t4 (List.mem_of_getElem? (i := 139) rfl) rfl
theorem wq232 : Cond.instanceMethod yX6_mostPinned ∈ gw := gw_t4 (List.mem_of_getElem? (i := 140) rfl) rfl
theorem wq233 : Cond.selects RX6 yX6_mostPinned yX6_mostPinned ∈ gw := gw_t4 (List.mem_of_getElem? (i := 141) rfl) rfl
theorem wq234 : Cond.code yX6_mostPinned cX6_mostPinned 5 (some .int) ∈ gw := gw_t4 (List.mem_of_getElem? (i := 142) rfl) rfl
theorem wq235 : Cond.methodLink RX6 222 yX1_pinsOn ∈ gw := gw_t4 (List.mem_of_getElem? (i := 143) rfl) rfl
theorem wq236 : Cond.instanceMethod yX1_pinsOn ∈ gw := gw_t4 (List.mem_of_getElem? (i := 144) rfl) rfl
theorem wq237 : Cond.selects RX1 yX1_pinsOn yX1_pinsOn ∈ gw := gw_t4 (List.mem_of_getElem? (i := 145) rfl) rfl
theorem wq238 : Cond.code yX1_pinsOn cX1_pinsOn 2 (some .int) ∈ gw := gw_t4 (List.mem_of_getElem? (i := 146) rfl) rfl
theorem wq239 : Cond.methodLink RL 205 yX7_burntShare ∈ gw := gw_t4 (List.mem_of_getElem? (i := 147) rfl) rfl
theorem wq240 : Cond.instanceMethod yX7_burntShare ∈ gw := gw_t4 (List.mem_of_getElem? (i := 148) rfl) rfl
theorem wq241 : Cond.selects RX7 yX7_burntShare yX7_burntShare ∈ gw := gw_t4 (List.mem_of_getElem? (i := 149) rfl) rfl
theorem wq242 : Cond.code yX7_burntShare cX7_burntShare 3 (some .double) ∈ gw := gw_t4 (List.mem_of_getElem? (i := 150) rfl) rfl
theorem wq243 : Cond.fieldLink RX7 107 "PinnedLeaves$Yard" "leaves" "LPinnedLeaves$Leaves;" ∈ gw := gw_t1 (List.mem_of_getElem? (i := 155) rfl) rfl
theorem wq244 : Cond.methodLink RX7 302 yX2_numberWhere ∈ gw := gw_t4 (List.mem_of_getElem? (i := 151) rfl) rfl
theorem wq245 : Cond.methodLink RL 209 yX7_fullness ∈ gw := gw_t4 (List.mem_of_getElem? (i := 152) rfl) rfl
theorem wq246 : Cond.instanceMethod yX7_fullness ∈ gw := gw_t4 (List.mem_of_getElem? (i := 153) rfl) rfl
theorem wq247 : Cond.selects RX7 yX7_fullness yX7_fullness ∈ gw := gw_t4 (List.mem_of_getElem? (i := 154) rfl) rfl
theorem wq248 : Cond.code yX7_fullness cX7_fullness 2 (some .float) ∈ gw := gw_t4 (List.mem_of_getElem? (i := 155) rfl) rfl
theorem wq249 : Cond.fieldLink RX7 305 "PinnedLeaves$Yard" "rakeAt" "I" ∈ gw := gw_t1 (List.mem_of_getElem? (i := 147) rfl) rfl
theorem wq250 : Cond.methodLink RX7 61 yX0_number ∈ gw := gw_t3 (List.mem_of_getElem? (i := 110) rfl) rfl
theorem wq251 : Cond.methodLink RL 213 yL_areLeaves ∈ gw := gw_t4 (List.mem_of_getElem? (i := 156) rfl) rfl
theorem wq252 : Cond.static yL_areLeaves ∈ gw := gw_t4 (List.mem_of_getElem? (i := 157) rfl) rfl
theorem wq253 : Cond.code yL_areLeaves cL_areLeaves 9 (some .boolean) ∈ gw := gw_t4 (List.mem_of_getElem? (i := 158) rfl) rfl
theorem wq254 : Cond.methodLink RL 153 yX7_leaf ∈ gw := gw_t4 (List.mem_of_getElem? (i := 159) rfl) rfl
theorem wq255 : Cond.instanceMethod yX7_leaf ∈ gw := gw_t4 (List.mem_of_getElem? (i := 160) rfl) rfl
theorem wq256 : Cond.selects RX7 yX7_leaf yX7_leaf ∈ gw := gw_t4 (List.mem_of_getElem? (i := 161) rfl) rfl
theorem wq257 : Cond.code yX7_leaf cX7_leaf 3 (some .int) ∈ gw := gw_t4 (List.mem_of_getElem? (i := 162) rfl) rfl
theorem wq258 : Cond.methodLink RX7 244 yX7_needLeaf ∈ gw := gw_t4 (List.mem_of_getElem? (i := 163) rfl) rfl
theorem wq259 : Cond.instanceMethod yX7_needLeaf ∈ gw := gw_t4 (List.mem_of_getElem? (i := 165) rfl) rfl
theorem wq260 : Cond.selects RX7 yX7_needLeaf yX7_needLeaf ∈ gw := gw_p (n := _) (List.mem_of_getElem? (i := 5) rfl)
theorem wq261 : Cond.code yX7_needLeaf cX7_needLeaf 2 none ∈ gw := gw_t4 (List.mem_of_getElem? (i := 166) rfl) rfl
theorem wq262 : Cond.fieldLink RX7 314 "PinnedLeaves$Leaves" "grown" "I" ∈ gw := gw_t1 (List.mem_of_getElem? (i := 54) rfl) rfl
theorem wq263 : Cond.methodLink RX7 250 yX6_numberOfLeaf ∈ gw := gw_t4 (List.mem_of_getElem? (i := 168) rfl) rfl
theorem wq264 : Cond.instanceMethod yX6_numberOfLeaf ∈ gw := gw_t4 (List.mem_of_getElem? (i := 169) rfl) rfl
theorem wq265 : Cond.selects RX6 yX6_numberOfLeaf yX6_numberOfLeaf ∈ gw := gw_t4 (List.mem_of_getElem? (i := 170) rfl) rfl
theorem wq266 : Cond.code yX6_numberOfLeaf cX6_numberOfLeaf 3 (some .int) ∈ gw := gw_t4 (List.mem_of_getElem? (i := 171) rfl) rfl
theorem wq267 : Cond.fieldLink RX6 152 "PinnedLeaves$Leaves" "colours" "LPinnedLeaves$Row;" ∈ gw := gw_t1 (List.mem_of_getElem? (i := 59) rfl) rfl
theorem wq268 : Cond.fieldLink RX6 225 "PinnedLeaves$Leaves" "lastBranch" "LPinnedLeaves$Row;" ∈ gw := gw_t1 (List.mem_of_getElem? (i := 63) rfl) rfl
theorem wq269 : Cond.fieldLink RX6 96 "PinnedLeaves$Leaves" "heapOf" "LPinnedLeaves$Row;" ∈ gw := gw_t1 (List.mem_of_getElem? (i := 67) rfl) rfl
theorem wq270 : Cond.methodLink RX6 228 yX1_maskOfHolders ∈ gw := gw_t4 (List.mem_of_getElem? (i := 172) rfl) rfl
theorem wq271 : Cond.instanceMethod yX1_maskOfHolders ∈ gw := gw_t4 (List.mem_of_getElem? (i := 173) rfl) rfl
theorem wq272 : Cond.selects RX1 yX1_maskOfHolders yX1_maskOfHolders ∈ gw := gw_t4 (List.mem_of_getElem? (i := 174) rfl) rfl
theorem wq273 : Cond.code yX1_maskOfHolders cX1_maskOfHolders 4 (some .int) ∈ gw := gw_t4 (List.mem_of_getElem? (i := 175) rfl) rfl
theorem wq274 : Cond.methodLink RX1 47 yX1_pinsOnBy ∈ gw := gw_t4 (List.mem_of_getElem? (i := 176) rfl) rfl
theorem wq275 : Cond.instanceMethod yX1_pinsOnBy ∈ gw := gw_t4 (List.mem_of_getElem? (i := 177) rfl) rfl
theorem wq276 : Cond.selects RX1 yX1_pinsOnBy yX1_pinsOnBy ∈ gw := gw_t4 (List.mem_of_getElem? (i := 178) rfl) rfl
theorem wq277 : Cond.code yX1_pinsOnBy cX1_pinsOnBy 3 (some .int) ∈ gw := gw_t4 (List.mem_of_getElem? (i := 179) rfl) rfl
theorem wq278 : Cond.methodLink RX1 29 yX1_firstOf ∈ gw := gw_t3 (List.mem_of_getElem? (i := 19) rfl) rfl
theorem wq279 : Cond.static yX1_firstOf ∈ gw := gw_t3 (List.mem_of_getElem? (i := 20) rfl) rfl
theorem wq280 : Cond.code yX1_firstOf cX1_firstOf 1 (some .int) ∈ gw := gw_t3 (List.mem_of_getElem? (i := 21) rfl) rfl
theorem wq281 : Cond.methodLink RX6 231 yX1_notesOn ∈ gw := gw_t4 (List.mem_of_getElem? (i := 180) rfl) rfl
theorem wq282 : Cond.instanceMethod yX1_notesOn ∈ gw := gw_t4 (List.mem_of_getElem? (i := 181) rfl) rfl
theorem wq283 : Cond.selects RX1 yX1_notesOn yX1_notesOn ∈ gw := gw_t4 (List.mem_of_getElem? (i := 182) rfl) rfl
theorem wq284 : Cond.code yX1_notesOn cX1_notesOn 2 (some .int) ∈ gw := gw_t4 (List.mem_of_getElem? (i := 183) rfl) rfl
theorem wq285 : Cond.methodLink RL 156 yL_branch ∈ gw := gw_t4 (List.mem_of_getElem? (i := 184) rfl) rfl
theorem wq286 : Cond.static yL_branch ∈ gw := gw_t4 (List.mem_of_getElem? (i := 185) rfl) rfl
theorem wq287 : Cond.code yL_branch cL_branch 2 (some .int) ∈ gw := gw_t4 (List.mem_of_getElem? (i := 186) rfl) rfl
theorem wq288 : Cond.methodLink RL 79 yL_noted ∈ gw := gw_t4 (List.mem_of_getElem? (i := 79) rfl) rfl
theorem wq289 : Cond.static yL_noted ∈ gw := gw_t4 (List.mem_of_getElem? (i := 80) rfl) rfl
theorem wq290 : Cond.code yL_noted cL_noted 2 (some .int) ∈ gw := gw_t4 (List.mem_of_getElem? (i := 81) rfl) rfl
theorem wq291 : Cond.methodLink RL 159 yX7_why ∈ gw := gw_t4 (List.mem_of_getElem? (i := 187) rfl) rfl
theorem wq292 : Cond.instanceMethod yX7_why ∈ gw := gw_t4 (List.mem_of_getElem? (i := 188) rfl) rfl
theorem wq293 : Cond.selects RX7 yX7_why yX7_why ∈ gw := gw_t4 (List.mem_of_getElem? (i := 189) rfl) rfl
theorem wq294 : Cond.code yX7_why cX7_why 2 (some .int) ∈ gw := gw_t4 (List.mem_of_getElem? (i := 190) rfl) rfl
theorem wq295 : Cond.methodLink RX7 276 yX6_whyNotBurnt ∈ gw := gw_t4 (List.mem_of_getElem? (i := 191) rfl) rfl
theorem wq296 : Cond.instanceMethod yX6_whyNotBurnt ∈ gw := gw_t4 (List.mem_of_getElem? (i := 192) rfl) rfl
theorem wq297 : Cond.selects RX6 yX6_whyNotBurnt yX6_whyNotBurnt ∈ gw := gw_t4 (List.mem_of_getElem? (i := 193) rfl) rfl
theorem wq298 : Cond.code yX6_whyNotBurnt cX6_whyNotBurnt 3 (some .int) ∈ gw := gw_t4 (List.mem_of_getElem? (i := 194) rfl) rfl
theorem wq299 : Cond.methodLink RX6 189 yX6_mayBurn ∈ gw := gw_t4 (List.mem_of_getElem? (i := 54) rfl) rfl
theorem wq300 : Cond.instanceMethod yX6_mayBurn ∈ gw := gw_t4 (List.mem_of_getElem? (i := 55) rfl) rfl
theorem wq301 : Cond.selects RX6 yX6_mayBurn yX6_mayBurn ∈ gw := gw_t4 (List.mem_of_getElem? (i := 56) rfl) rfl
theorem wq302 : Cond.code yX6_mayBurn cX6_mayBurn 6 (some .boolean) ∈ gw := gw_t4 (List.mem_of_getElem? (i := 57) rfl) rfl
theorem wq303 : Cond.fieldLink RX6 213 "PinnedLeaves$Hooks" "pinned" "LPinnedLeaves$Row;" ∈ gw := gw_t1 (List.mem_of_getElem? (i := 134) rfl) rfl
theorem wq304 : Cond.methodLink RX6 210 yX1_firstOf ∈ gw := gw_t4 (List.mem_of_getElem? (i := 58) rfl) rfl
theorem wq305 : Cond.methodLink RX6 216 yX4_number ∈ gw := gw_t4 (List.mem_of_getElem? (i := 59) rfl) rfl
theorem wq306 : Cond.methodLink RL 82 yL_may ∈ gw := gw_t4 (List.mem_of_getElem? (i := 73) rfl) rfl
theorem wq307 : Cond.static yL_may ∈ gw := gw_t4 (List.mem_of_getElem? (i := 74) rfl) rfl
theorem wq308 : Cond.code yL_may cL_may 6 (some .boolean) ∈ gw := gw_t4 (List.mem_of_getElem? (i := 75) rfl) rfl
theorem wq309 : Cond.methodLink RL 162 yX7_branch ∈ gw := gw_t4 (List.mem_of_getElem? (i := 195) rfl) rfl
theorem wq310 : Cond.instanceMethod yX7_branch ∈ gw := gw_t4 (List.mem_of_getElem? (i := 196) rfl) rfl
theorem wq311 : Cond.selects RX7 yX7_branch yX7_branch ∈ gw := gw_t4 (List.mem_of_getElem? (i := 197) rfl) rfl
theorem wq312 : Cond.code yX7_branch cX7_branch 2 (some .int) ∈ gw := gw_t4 (List.mem_of_getElem? (i := 198) rfl) rfl
theorem wq313 : Cond.fieldLink RX7 235 "PinnedLeaves$Leaves" "onBranch" "LPinnedLeaves$Row;" ∈ gw := gw_t1 (List.mem_of_getElem? (i := 57) rfl) rfl
theorem wq314 : Cond.methodLink RX7 96 yX7_needBranch ∈ gw := gw_t3 (List.mem_of_getElem? (i := 163) rfl) rfl
theorem wq315 : Cond.static yX7_needBranch ∈ gw := gw_t3 (List.mem_of_getElem? (i := 164) rfl) rfl
theorem wq316 : Cond.code yX7_needBranch cX7_needBranch 1 none ∈ gw := gw_t3 (List.mem_of_getElem? (i := 165) rfl) rfl
theorem wq317 : Cond.methodLink RX7 239 yX4_get ∈ gw := gw_t4 (List.mem_of_getElem? (i := 199) rfl) rfl
theorem wq318 : Cond.methodLink RL 217 yL_areChildren ∈ gw := gw_t4 (List.mem_of_getElem? (i := 200) rfl) rfl
theorem wq319 : Cond.static yL_areChildren ∈ gw := gw_t4 (List.mem_of_getElem? (i := 201) rfl) rfl
theorem wq320 : Cond.code yL_areChildren cL_areChildren 10 (some .boolean) ∈ gw := gw_t4 (List.mem_of_getElem? (i := 202) rfl) rfl
theorem wq321 : Cond.methodLink RL 175 yL_child ∈ gw := gw_t4 (List.mem_of_getElem? (i := 203) rfl) rfl
theorem wq322 : Cond.static yL_child ∈ gw := gw_t4 (List.mem_of_getElem? (i := 204) rfl) rfl
theorem wq323 : Cond.codeWith yL_child cL_child 5 (some .int) [(0, 7, 10, 21), (0, 7, 15, 36)] ∈ gw := gw_t4 (List.mem_of_getElem? (i := 205) rfl) rfl
theorem wq324 : Cond.classLink RL 21 "java/lang/IndexOutOfBoundsException" ∈ gw := gw_t2 (List.mem_of_getElem? (i := 193) rfl) rfl
theorem wq325 : Cond.classLink RL 36 "java/lang/IllegalArgumentException" ∈ gw := gw_t3 (List.mem_of_getElem? (i := 79) rfl) rfl
theorem wq326 : Cond.methodLink RL 66 yX7_child ∈ gw := gw_t4 (List.mem_of_getElem? (i := 206) rfl) rfl
theorem wq327 : Cond.instanceMethod yX7_child ∈ gw := gw_t4 (List.mem_of_getElem? (i := 207) rfl) rfl
theorem wq328 : Cond.selects RX7 yX7_child yX7_child ∈ gw := gw_t4 (List.mem_of_getElem? (i := 208) rfl) rfl
theorem wq329 : Cond.code yX7_child cX7_child 3 (some .int) ∈ gw := gw_t4 (List.mem_of_getElem? (i := 209) rfl) rfl
theorem wq330 : Cond.methodLink RX7 57 yX7_needChild ∈ gw := gw_t2 (List.mem_of_getElem? (i := 198) rfl) rfl
theorem wq331 : Cond.instanceMethod yX7_needChild ∈ gw := gw_t2 (List.mem_of_getElem? (i := 200) rfl) rfl
theorem wq332 : Cond.selects RX7 yX7_needChild yX7_needChild ∈ gw := gw_p (n := _) (List.mem_of_getElem? (i := 3) rfl)
theorem wq333 : Cond.code yX7_needChild cX7_needChild 2 none ∈ gw := gw_t2 (List.mem_of_getElem? (i := 201) rfl) rfl
theorem wq334 : Cond.methodLink RX7 321 yX0_isHere ∈ gw := gw_t2 (List.mem_of_getElem? (i := 202) rfl) rfl
theorem wq335 : Cond.methodLink RX7 253 yX6_numberOfChild ∈ gw := gw_t4 (List.mem_of_getElem? (i := 210) rfl) rfl
theorem wq336 : Cond.instanceMethod yX6_numberOfChild ∈ gw := gw_t4 (List.mem_of_getElem? (i := 211) rfl) rfl
theorem wq337 : Cond.selects RX6 yX6_numberOfChild yX6_numberOfChild ∈ gw := gw_t4 (List.mem_of_getElem? (i := 212) rfl) rfl
theorem wq338 : Cond.code yX6_numberOfChild cX6_numberOfChild 3 (some .int) ∈ gw := gw_t4 (List.mem_of_getElem? (i := 213) rfl) rfl
theorem wq339 : Cond.fieldLink RX6 115 "PinnedLeaves$Children" "cameInAt" "LPinnedLeaves$Row;" ∈ gw := gw_t1 (List.mem_of_getElem? (i := 98) rfl) rfl
theorem wq340 : Cond.fieldLink RX6 75 "PinnedLeaves$Children" "heapSize" "LPinnedLeaves$Row;" ∈ gw := gw_t1 (List.mem_of_getElem? (i := 106) rfl) rfl
theorem wq341 : Cond.fieldLink RX6 159 "PinnedLeaves$Children" "tookOff" "LPinnedLeaves$Row;" ∈ gw := gw_t1 (List.mem_of_getElem? (i := 100) rfl) rfl
theorem wq342 : Cond.fieldLink RX6 196 "PinnedLeaves$Children" "burnt" "LPinnedLeaves$Row;" ∈ gw := gw_t1 (List.mem_of_getElem? (i := 102) rfl) rfl
theorem wq343 : Cond.fieldLink RX6 199 "PinnedLeaves$Children" "rakings" "LPinnedLeaves$Row;" ∈ gw := gw_t1 (List.mem_of_getElem? (i := 104) rfl) rfl
theorem wq344 : Cond.methodLink RX6 112 yX0_isInYard ∈ gw := gw_t2 (List.mem_of_getElem? (i := 224) rfl) rfl
theorem wq345 : Cond.methodLink RX6 118 yX1_pinsOfChild ∈ gw := gw_t3 (List.mem_of_getElem? (i := 15) rfl) rfl
theorem wq346 : Cond.instanceMethod yX1_pinsOfChild ∈ gw := gw_t3 (List.mem_of_getElem? (i := 16) rfl) rfl
theorem wq347 : Cond.selects RX1 yX1_pinsOfChild yX1_pinsOfChild ∈ gw := gw_t3 (List.mem_of_getElem? (i := 17) rfl) rfl
theorem wq348 : Cond.code yX1_pinsOfChild cX1_pinsOfChild 2 (some .int) ∈ gw := gw_t3 (List.mem_of_getElem? (i := 18) rfl) rfl
theorem wq349 : Cond.methodLink RX6 234 yX1_notesOfChild ∈ gw := gw_t4 (List.mem_of_getElem? (i := 214) rfl) rfl
theorem wq350 : Cond.instanceMethod yX1_notesOfChild ∈ gw := gw_t4 (List.mem_of_getElem? (i := 215) rfl) rfl
theorem wq351 : Cond.selects RX1 yX1_notesOfChild yX1_notesOfChild ∈ gw := gw_t4 (List.mem_of_getElem? (i := 216) rfl) rfl
theorem wq352 : Cond.code yX1_notesOfChild cX1_notesOfChild 2 (some .int) ∈ gw := gw_t4 (List.mem_of_getElem? (i := 217) rfl) rfl
theorem wq353 : Cond.methodLink RL 177 yL_isChild ∈ gw := gw_t4 (List.mem_of_getElem? (i := 218) rfl) rfl
theorem wq354 : Cond.static yL_isChild ∈ gw := gw_t4 (List.mem_of_getElem? (i := 219) rfl) rfl
theorem wq355 : Cond.code yL_isChild cL_isChild 13 (some .boolean) ∈ gw := gw_t4 (List.mem_of_getElem? (i := 220) rfl) rfl
theorem wq356 : Cond.methodLink RL 164 yX7_hook ∈ gw := gw_t4 (List.mem_of_getElem? (i := 221) rfl) rfl
theorem wq357 : Cond.instanceMethod yX7_hook ∈ gw := gw_t4 (List.mem_of_getElem? (i := 222) rfl) rfl
theorem wq358 : Cond.selects RX7 yX7_hook yX7_hook ∈ gw := gw_t4 (List.mem_of_getElem? (i := 223) rfl) rfl
theorem wq359 : Cond.code yX7_hook cX7_hook 4 (some .int) ∈ gw := gw_t4 (List.mem_of_getElem? (i := 224) rfl) rfl
theorem wq360 : Cond.fieldLink RX7 256 "PinnedLeaves$Yard" "hooks" "LPinnedLeaves$Hooks;" ∈ gw := gw_t1 (List.mem_of_getElem? (i := 159) rfl) rfl
theorem wq361 : Cond.methodLink RX7 117 yX7_needHook ∈ gw := gw_t3 (List.mem_of_getElem? (i := 158) rfl) rfl
theorem wq362 : Cond.instanceMethod yX7_needHook ∈ gw := gw_t3 (List.mem_of_getElem? (i := 160) rfl) rfl
theorem wq363 : Cond.selects RX7 yX7_needHook yX7_needHook ∈ gw := gw_p (n := _) (List.mem_of_getElem? (i := 4) rfl)
theorem wq364 : Cond.code yX7_needHook cX7_needHook 3 none ∈ gw := gw_t3 (List.mem_of_getElem? (i := 161) rfl) rfl
theorem wq365 : Cond.methodLink RX7 260 yX1_numberOfHook ∈ gw := gw_t4 (List.mem_of_getElem? (i := 225) rfl) rfl
theorem wq366 : Cond.instanceMethod yX1_numberOfHook ∈ gw := gw_t4 (List.mem_of_getElem? (i := 226) rfl) rfl
theorem wq367 : Cond.selects RX1 yX1_numberOfHook yX1_numberOfHook ∈ gw := gw_t4 (List.mem_of_getElem? (i := 227) rfl) rfl
theorem wq368 : Cond.code yX1_numberOfHook cX1_numberOfHook 4 (some .int) ∈ gw := gw_t4 (List.mem_of_getElem? (i := 228) rfl) rfl
theorem wq369 : Cond.methodLink RX1 51 yX1_kindOf ∈ gw := gw_t4 (List.mem_of_getElem? (i := 229) rfl) rfl
theorem wq370 : Cond.instanceMethod yX1_kindOf ∈ gw := gw_t3 (List.mem_of_getElem? (i := 172) rfl) rfl
theorem wq371 : Cond.selects RX1 yX1_kindOf yX1_kindOf ∈ gw := gw_t3 (List.mem_of_getElem? (i := 173) rfl) rfl
theorem wq372 : Cond.code yX1_kindOf cX1_kindOf 4 (some .int) ∈ gw := gw_t3 (List.mem_of_getElem? (i := 174) rfl) rfl
theorem wq373 : Cond.methodLink RX1 33 yX4_get ∈ gw := gw_t3 (List.mem_of_getElem? (i := 175) rfl) rfl
theorem wq374 : Cond.methodLink RX1 54 yX1_leafOf ∈ gw := gw_t4 (List.mem_of_getElem? (i := 230) rfl) rfl
theorem wq375 : Cond.instanceMethod yX1_leafOf ∈ gw := gw_t3 (List.mem_of_getElem? (i := 202) rfl) rfl
theorem wq376 : Cond.selects RX1 yX1_leafOf yX1_leafOf ∈ gw := gw_t3 (List.mem_of_getElem? (i := 203) rfl) rfl
theorem wq377 : Cond.code yX1_leafOf cX1_leafOf 4 (some .int) ∈ gw := gw_t3 (List.mem_of_getElem? (i := 204) rfl) rfl
theorem wq378 : Cond.methodLink RX1 57 yX1_branchOf ∈ gw := gw_t4 (List.mem_of_getElem? (i := 231) rfl) rfl
theorem wq379 : Cond.instanceMethod yX1_branchOf ∈ gw := gw_t3 (List.mem_of_getElem? (i := 206) rfl) rfl
theorem wq380 : Cond.selects RX1 yX1_branchOf yX1_branchOf ∈ gw := gw_t3 (List.mem_of_getElem? (i := 207) rfl) rfl
theorem wq381 : Cond.code yX1_branchOf cX1_branchOf 3 (some .int) ∈ gw := gw_t3 (List.mem_of_getElem? (i := 208) rfl) rfl
theorem wq382 : Cond.methodLink RL 167 yX7_ifLoosened ∈ gw := gw_t4 (List.mem_of_getElem? (i := 232) rfl) rfl
theorem wq383 : Cond.instanceMethod yX7_ifLoosened ∈ gw := gw_t4 (List.mem_of_getElem? (i := 233) rfl) rfl
theorem wq384 : Cond.selects RX7 yX7_ifLoosened yX7_ifLoosened ∈ gw := gw_t4 (List.mem_of_getElem? (i := 234) rfl) rfl
theorem wq385 : Cond.code yX7_ifLoosened cX7_ifLoosened 3 (some .int) ∈ gw := gw_t4 (List.mem_of_getElem? (i := 235) rfl) rfl
theorem wq386 : Cond.methodLink RX7 287 yX6_freedBy ∈ gw := gw_t4 (List.mem_of_getElem? (i := 236) rfl) rfl
theorem wq387 : Cond.instanceMethod yX6_freedBy ∈ gw := gw_t4 (List.mem_of_getElem? (i := 237) rfl) rfl
theorem wq388 : Cond.selects RX6 yX6_freedBy yX6_freedBy ∈ gw := gw_t4 (List.mem_of_getElem? (i := 238) rfl) rfl
theorem wq389 : Cond.code yX6_freedBy cX6_freedBy 5 (some .int) ∈ gw := gw_t4 (List.mem_of_getElem? (i := 239) rfl) rfl
theorem wq390 : Cond.methodLink RX6 137 yX1_leafOf ∈ gw := gw_t3 (List.mem_of_getElem? (i := 201) rfl) rfl
theorem wq391 : Cond.methodLink RX6 130 yX1_kindOf ∈ gw := gw_t3 (List.mem_of_getElem? (i := 171) rfl) rfl
theorem wq392 : Cond.methodLink RL 170 yX7_heap ∈ gw := gw_t5 (List.mem_of_getElem? (i := 0) rfl) rfl
theorem wq393 : Cond.instanceMethod yX7_heap ∈ gw := gw_t5 (List.mem_of_getElem? (i := 1) rfl) rfl
theorem wq394 : Cond.selects RX7 yX7_heap yX7_heap ∈ gw := gw_t5 (List.mem_of_getElem? (i := 2) rfl) rfl
theorem wq395 : Cond.code yX7_heap cX7_heap 3 (some .int) ∈ gw := gw_t5 (List.mem_of_getElem? (i := 3) rfl) rfl
theorem wq396 : Cond.methodLink RX7 267 yX0_leafOnHeap ∈ gw := gw_t5 (List.mem_of_getElem? (i := 5) rfl) rfl
theorem wq397 : Cond.instanceMethod yX0_leafOnHeap ∈ gw := gw_t3 (List.mem_of_getElem? (i := 122) rfl) rfl
theorem wq398 : Cond.selects RX0 yX0_leafOnHeap yX0_leafOnHeap ∈ gw := gw_t3 (List.mem_of_getElem? (i := 123) rfl) rfl
theorem wq399 : Cond.code yX0_leafOnHeap cX0_leafOnHeap 4 (some .int) ∈ gw := gw_t3 (List.mem_of_getElem? (i := 124) rfl) rfl
theorem wq400 : Cond.methodLink RL 172 yX7_ifRested ∈ gw := gw_t5 (List.mem_of_getElem? (i := 6) rfl) rfl
theorem wq401 : Cond.instanceMethod yX7_ifRested ∈ gw := gw_t5 (List.mem_of_getElem? (i := 7) rfl) rfl
theorem wq402 : Cond.selects RX7 yX7_ifRested yX7_ifRested ∈ gw := gw_t5 (List.mem_of_getElem? (i := 8) rfl) rfl
theorem wq403 : Cond.code yX7_ifRested cX7_ifRested 2 (some .int) ∈ gw := gw_t5 (List.mem_of_getElem? (i := 9) rfl) rfl
theorem wq404 : Cond.methodLink RX7 293 yX6_burnableIfRested ∈ gw := gw_t5 (List.mem_of_getElem? (i := 10) rfl) rfl
theorem wq405 : Cond.instanceMethod yX6_burnableIfRested ∈ gw := gw_t5 (List.mem_of_getElem? (i := 11) rfl) rfl
theorem wq406 : Cond.selects RX6 yX6_burnableIfRested yX6_burnableIfRested ∈ gw := gw_t5 (List.mem_of_getElem? (i := 12) rfl) rfl
theorem wq407 : Cond.code yX6_burnableIfRested cX6_burnableIfRested 4 (some .int) ∈ gw := gw_t5 (List.mem_of_getElem? (i := 13) rfl) rfl
theorem wq408 : Cond.methodLink RX6 219 yX6_burnable ∈ gw := gw_t5 (List.mem_of_getElem? (i := 14) rfl) rfl
theorem wq409 : Cond.instanceMethod yX6_burnable ∈ gw := gw_t5 (List.mem_of_getElem? (i := 15) rfl) rfl
theorem wq410 : Cond.selects RX6 yX6_burnable yX6_burnable ∈ gw := gw_t5 (List.mem_of_getElem? (i := 16) rfl) rfl
theorem wq411 : Cond.code yX6_burnable cX6_burnable 7 (some .int) ∈ gw := gw_t5 (List.mem_of_getElem? (i := 17) rfl) rfl
theorem wq412 : Cond.methodLink RX6 88 yX0_leafOnHeap ∈ gw := gw_t3 (List.mem_of_getElem? (i := 121) rfl) rfl
theorem wq413 : Cond.methodLink RL 181 yX7_ifRaked ∈ gw := gw_t5 (List.mem_of_getElem? (i := 18) rfl) rfl
theorem wq414 : Cond.instanceMethod yX7_ifRaked ∈ gw := gw_t5 (List.mem_of_getElem? (i := 19) rfl) rfl
theorem wq415 : Cond.selects RX7 yX7_ifRaked yX7_ifRaked ∈ gw := gw_t5 (List.mem_of_getElem? (i := 20) rfl) rfl
theorem wq416 : Cond.code yX7_ifRaked cX7_ifRaked 3 (some .int) ∈ gw := gw_t5 (List.mem_of_getElem? (i := 21) rfl) rfl
theorem wq417 : Cond.methodLink RX7 281 yX6_burnable ∈ gw := gw_t5 (List.mem_of_getElem? (i := 23) rfl) rfl
theorem wq418 : Cond.methodLink RL 184 yL_burns ∈ gw := gw_t5 (List.mem_of_getElem? (i := 24) rfl) rfl
theorem wq419 : Cond.static yL_burns ∈ gw := gw_t5 (List.mem_of_getElem? (i := 25) rfl) rfl
theorem wq420 : Cond.code yL_burns cL_burns 8 (some .int) ∈ gw := gw_t5 (List.mem_of_getElem? (i := 26) rfl) rfl
theorem wq421 : Cond.methodLink RL 94 yL_heap ∈ gw := gw_t3 (List.mem_of_getElem? (i := 142) rfl) rfl
theorem wq422 : Cond.static yL_heap ∈ gw := gw_t3 (List.mem_of_getElem? (i := 143) rfl) rfl
theorem wq423 : Cond.code yL_heap cL_heap 6 (some .int) ∈ gw := gw_t3 (List.mem_of_getElem? (i := 144) rfl) rfl
theorem wq424 : Cond.methodLink RL 188 yX7_bestRake ∈ gw := gw_t5 (List.mem_of_getElem? (i := 27) rfl) rfl
theorem wq425 : Cond.instanceMethod yX7_bestRake ∈ gw := gw_t5 (List.mem_of_getElem? (i := 28) rfl) rfl
theorem wq426 : Cond.selects RX7 yX7_bestRake yX7_bestRake ∈ gw := gw_t5 (List.mem_of_getElem? (i := 29) rfl) rfl
theorem wq427 : Cond.code yX7_bestRake cX7_bestRake 1 (some .int) ∈ gw := gw_t5 (List.mem_of_getElem? (i := 30) rfl) rfl
theorem wq428 : Cond.methodLink RX7 284 yX6_bestHeap ∈ gw := gw_t5 (List.mem_of_getElem? (i := 31) rfl) rfl
theorem wq429 : Cond.instanceMethod yX6_bestHeap ∈ gw := gw_t5 (List.mem_of_getElem? (i := 32) rfl) rfl
theorem wq430 : Cond.selects RX6 yX6_bestHeap yX6_bestHeap ∈ gw := gw_t5 (List.mem_of_getElem? (i := 33) rfl) rfl
theorem wq431 : Cond.code yX6_bestHeap cX6_bestHeap 6 (some .int) ∈ gw := gw_t5 (List.mem_of_getElem? (i := 34) rfl) rfl
theorem wq432 : Cond.methodLink RL 226 yL_undo ∈ gw := gw_t2 (List.mem_of_getElem? (i := 124) rfl) rfl
theorem wq433 : Cond.static yL_undo ∈ gw := gw_t2 (List.mem_of_getElem? (i := 125) rfl) rfl
theorem wq434 : Cond.codeWith yL_undo cL_undo 3 (some .int) [(0, 5, 8, 15)] ∈ gw := gw_t2 (List.mem_of_getElem? (i := 126) rfl) rfl
theorem wq435 : Cond.classLink RL 15 "java/lang/IllegalStateException" ∈ gw := gw_t2 (List.mem_of_getElem? (i := 127) rfl) rfl
theorem wq436 : Cond.methodLink RL 63 yX7_undo ∈ gw := gw_t2 (List.mem_of_getElem? (i := 128) rfl) rfl
theorem wq437 : Cond.instanceMethod yX7_undo ∈ gw := gw_t2 (List.mem_of_getElem? (i := 129) rfl) rfl
theorem wq438 : Cond.selects RX7 yX7_undo yX7_undo ∈ gw := gw_t2 (List.mem_of_getElem? (i := 130) rfl) rfl
theorem wq439 : Cond.code yX7_undo cX7_undo 1 (some .int) ∈ gw := gw_t2 (List.mem_of_getElem? (i := 131) rfl) rfl
theorem wq440 : Cond.classLink RX7 43 "java/lang/IllegalStateException" ∈ gw := gw_t2 (List.mem_of_getElem? (i := 132) rfl) rfl
theorem wq441 : Cond.initialized "java/lang/IllegalStateException" ∈ gw := gw_t1 (List.mem_of_getElem? (i := 14) rfl) rfl
theorem wq442 : Cond.methodLink RX7 232 yX5_popInto ∈ gw := gw_t2 (List.mem_of_getElem? (i := 148) rfl) rfl
theorem wq443 : Cond.instanceMethod yX5_popInto ∈ gw := gw_t2 (List.mem_of_getElem? (i := 149) rfl) rfl
theorem wq444 : Cond.selects RX5 yX5_popInto yX5_popInto ∈ gw := gw_t2 (List.mem_of_getElem? (i := 150) rfl) rfl
theorem wq445 : Cond.code yX5_popInto cX5_popInto 4 none ∈ gw := gw_t2 (List.mem_of_getElem? (i := 151) rfl) rfl
theorem wq446 : Cond.fieldLink RX5 22 "PinnedLeaves$SavedYards" "next" "I" ∈ gw := gw_t1 (List.mem_of_getElem? (i := 193) rfl) rfl
theorem wq447 : Cond.methodLink RX5 25 yX5_placeAt ∈ gw := gw_t2 (List.mem_of_getElem? (i := 152) rfl) rfl
theorem wq448 : Cond.instanceMethod yX5_placeAt ∈ gw := gw_t2 (List.mem_of_getElem? (i := 154) rfl) rfl
theorem wq449 : Cond.selects RX5 yX5_placeAt yX5_placeAt ∈ gw := gw_p (n := _) (List.mem_of_getElem? (i := 2) rfl)
theorem wq450 : Cond.code yX5_placeAt cX5_placeAt 2 (some (.object "PinnedLeaves$Yard")) ∈ gw := gw_t2 (List.mem_of_getElem? (i := 155) rfl) rfl
theorem wq451 : Cond.methodLink RX5 29 yX6_copyFrom ∈ gw := gw_t2 (List.mem_of_getElem? (i := 156) rfl) rfl
theorem wq452 : Cond.instanceMethod yX6_copyFrom ∈ gw := gw_t2 (List.mem_of_getElem? (i := 157) rfl) rfl
theorem wq453 : Cond.selects RX6 yX6_copyFrom yX6_copyFrom ∈ gw := gw_t2 (List.mem_of_getElem? (i := 158) rfl) rfl
theorem wq454 : Cond.code yX6_copyFrom cX6_copyFrom 2 none ∈ gw := gw_t2 (List.mem_of_getElem? (i := 159) rfl) rfl
theorem wq455 : Cond.methodLink RX6 57 yX2_copyFrom ∈ gw := gw_t2 (List.mem_of_getElem? (i := 160) rfl) rfl
theorem wq456 : Cond.instanceMethod yX2_copyFrom ∈ gw := gw_t2 (List.mem_of_getElem? (i := 161) rfl) rfl
theorem wq457 : Cond.selects RX2 yX2_copyFrom yX2_copyFrom ∈ gw := gw_t2 (List.mem_of_getElem? (i := 162) rfl) rfl
theorem wq458 : Cond.code yX2_copyFrom cX2_copyFrom 2 none ∈ gw := gw_t2 (List.mem_of_getElem? (i := 163) rfl) rfl
theorem wq459 : Cond.methodLink RX2 54 yX4_copyFrom ∈ gw := gw_t2 (List.mem_of_getElem? (i := 164) rfl) rfl
theorem wq460 : Cond.instanceMethod yX4_copyFrom ∈ gw := gw_t2 (List.mem_of_getElem? (i := 165) rfl) rfl
theorem wq461 : Cond.selects RX4 yX4_copyFrom yX4_copyFrom ∈ gw := gw_t2 (List.mem_of_getElem? (i := 166) rfl) rfl
theorem wq462 : Cond.code yX4_copyFrom cX4_copyFrom 2 none ∈ gw := gw_t2 (List.mem_of_getElem? (i := 167) rfl) rfl
theorem wq463 : Cond.methodLink RX4 23 Lib.Math.min.name ∈ gw := gw_t2 (List.mem_of_getElem? (i := 168) rfl) rfl
theorem wq464 : Cond.static Lib.Math.min.name ∈ gw := gw_t2 (List.mem_of_getElem? (i := 169) rfl) rfl
theorem wq465 : Cond.initialized "java/lang/Math" ∈ gw := gw_t1 (List.mem_of_getElem? (i := 15) rfl) rfl
theorem wq466 : Cond.code Lib.Math.min.name Lib.Math.min.code 2 (some .int) ∈ gw := gw_t2 (List.mem_of_getElem? (i := 170) rfl) rfl
theorem wq467 : Cond.methodLink RX4 29 arraycopyName ∈ gw := gw_t2 (List.mem_of_getElem? (i := 171) rfl) rfl
theorem wq468 : Cond.native arraycopyName ∈ gw := gw_t2 (List.mem_of_getElem? (i := 173) rfl) rfl
theorem wq469 : Cond.static arraycopyName ∈ gw := gw_t2 (List.mem_of_getElem? (i := 172) rfl) rfl
theorem wq470 : Cond.initialized "java/lang/System" ∈ gw := gw_t1 (List.mem_of_getElem? (i := 16) rfl) rfl
theorem wq471 : Cond.methodLink RX6 61 yX0_copyFrom ∈ gw := gw_t2 (List.mem_of_getElem? (i := 174) rfl) rfl
theorem wq472 : Cond.instanceMethod yX0_copyFrom ∈ gw := gw_t2 (List.mem_of_getElem? (i := 175) rfl) rfl
theorem wq473 : Cond.selects RX0 yX0_copyFrom yX0_copyFrom ∈ gw := gw_t2 (List.mem_of_getElem? (i := 176) rfl) rfl
theorem wq474 : Cond.code yX0_copyFrom cX0_copyFrom 2 none ∈ gw := gw_t2 (List.mem_of_getElem? (i := 177) rfl) rfl
theorem wq475 : Cond.methodLink RX0 63 yX4_copyFrom ∈ gw := gw_t2 (List.mem_of_getElem? (i := 178) rfl) rfl
theorem wq476 : Cond.methodLink RX6 64 yX1_copyFrom ∈ gw := gw_t2 (List.mem_of_getElem? (i := 179) rfl) rfl
theorem wq477 : Cond.instanceMethod yX1_copyFrom ∈ gw := gw_t2 (List.mem_of_getElem? (i := 180) rfl) rfl
theorem wq478 : Cond.selects RX1 yX1_copyFrom yX1_copyFrom ∈ gw := gw_t2 (List.mem_of_getElem? (i := 181) rfl) rfl
theorem wq479 : Cond.code yX1_copyFrom cX1_copyFrom 2 none ∈ gw := gw_t2 (List.mem_of_getElem? (i := 182) rfl) rfl
theorem wq480 : Cond.methodLink RX1 60 yX4_copyFrom ∈ gw := gw_t2 (List.mem_of_getElem? (i := 183) rfl) rfl
theorem wq481 : Cond.methodLink RL 228 yL_cell ∈ gw := gw_t2 (List.mem_of_getElem? (i := 116) rfl) rfl
theorem wq482 : Cond.static yL_cell ∈ gw := gw_t2 (List.mem_of_getElem? (i := 117) rfl) rfl
theorem wq483 : Cond.code yL_cell cL_cell 2 (some .int) ∈ gw := gw_t2 (List.mem_of_getElem? (i := 118) rfl) rfl
theorem wq484 : Cond.constant RL 7 (1640531527) ∈ gw := gw_t2 (List.mem_of_getElem? (i := 119) rfl) rfl
theorem wq485 : Cond.methodLink RL 102 yL_low ∈ gw := gw_t2 (List.mem_of_getElem? (i := 120) rfl) rfl
theorem wq486 : Cond.static yL_low ∈ gw := gw_t2 (List.mem_of_getElem? (i := 121) rfl) rfl
theorem wq487 : Cond.code yL_low cL_low 2 (some .int) ∈ gw := gw_t2 (List.mem_of_getElem? (i := 122) rfl) rfl
theorem wq488 : Cond.constant RL 8 (2147483647) ∈ gw := gw_t2 (List.mem_of_getElem? (i := 123) rfl) rfl
theorem wq489 : Cond.methodLink RL 232 yL_goes ∈ gw := gw_t2 (List.mem_of_getElem? (i := 187) rfl) rfl
theorem wq490 : Cond.static yL_goes ∈ gw := gw_t2 (List.mem_of_getElem? (i := 188) rfl) rfl
theorem wq491 : Cond.code yL_goes cL_goes 17 (some .boolean) ∈ gw := gw_t2 (List.mem_of_getElem? (i := 189) rfl) rfl
theorem wq492 : Cond.methodLink RL 105 yL_enter ∈ gw := gw_t2 (List.mem_of_getElem? (i := 190) rfl) rfl
theorem wq493 : Cond.static yL_enter ∈ gw := gw_t2 (List.mem_of_getElem? (i := 191) rfl) rfl
theorem wq494 : Cond.codeWith yL_enter cL_enter 4 (some .int) [(0, 6, 9, 21), (0, 6, 13, 15)] ∈ gw := gw_t2 (List.mem_of_getElem? (i := 192) rfl) rfl
theorem wq495 : Cond.methodLink RL 23 yX7_enter ∈ gw := gw_t2 (List.mem_of_getElem? (i := 194) rfl) rfl
theorem wq496 : Cond.instanceMethod yX7_enter ∈ gw := gw_t2 (List.mem_of_getElem? (i := 195) rfl) rfl
theorem wq497 : Cond.selects RX7 yX7_enter yX7_enter ∈ gw := gw_t2 (List.mem_of_getElem? (i := 196) rfl) rfl
theorem wq498 : Cond.code yX7_enter cX7_enter 2 (some .int) ∈ gw := gw_t2 (List.mem_of_getElem? (i := 197) rfl) rfl
theorem wq499 : Cond.methodLink RX7 70 yX6_mayGoIn ∈ gw := gw_t2 (List.mem_of_getElem? (i := 219) rfl) rfl
theorem wq500 : Cond.instanceMethod yX6_mayGoIn ∈ gw := gw_t2 (List.mem_of_getElem? (i := 220) rfl) rfl
theorem wq501 : Cond.selects RX6 yX6_mayGoIn yX6_mayGoIn ∈ gw := gw_t2 (List.mem_of_getElem? (i := 221) rfl) rfl
theorem wq502 : Cond.code yX6_mayGoIn cX6_mayGoIn 2 (some .boolean) ∈ gw := gw_t2 (List.mem_of_getElem? (i := 222) rfl) rfl
theorem wq503 : Cond.methodLink RX6 108 yX0_isHere ∈ gw := gw_t2 (List.mem_of_getElem? (i := 223) rfl) rfl
theorem wq504 : Cond.methodLink RX7 50 yX5_push ∈ gw := gw_t2 (List.mem_of_getElem? (i := 229) rfl) rfl
theorem wq505 : Cond.instanceMethod yX5_push ∈ gw := gw_t2 (List.mem_of_getElem? (i := 230) rfl) rfl
theorem wq506 : Cond.selects RX5 yX5_push yX5_push ∈ gw := gw_t2 (List.mem_of_getElem? (i := 231) rfl) rfl
theorem wq507 : Cond.code yX5_push cX5_push 3 none ∈ gw := gw_t2 (List.mem_of_getElem? (i := 232) rfl) rfl
theorem wq508 : Cond.methodLink RX5 33 Lib.Math.min.name ∈ gw := gw_t2 (List.mem_of_getElem? (i := 233) rfl) rfl
theorem wq509 : Cond.methodLink RX7 76 yX6_goIn ∈ gw := gw_t2 (List.mem_of_getElem? (i := 234) rfl) rfl
theorem wq510 : Cond.instanceMethod yX6_goIn ∈ gw := gw_t2 (List.mem_of_getElem? (i := 235) rfl) rfl
theorem wq511 : Cond.selects RX6 yX6_goIn yX6_goIn ∈ gw := gw_t2 (List.mem_of_getElem? (i := 236) rfl) rfl
theorem wq512 : Cond.code yX6_goIn cX6_goIn 2 (some .int) ∈ gw := gw_t2 (List.mem_of_getElem? (i := 237) rfl) rfl
theorem wq513 : Cond.methodLink RX6 99 yX4_put ∈ gw := gw_t2 (List.mem_of_getElem? (i := 238) rfl) rfl
theorem wq514 : Cond.methodLink RL 112 yL_rest ∈ gw := gw_t2 (List.mem_of_getElem? (i := 239) rfl) rfl
theorem wq515 : Cond.static yL_rest ∈ gw := gw_t3 (List.mem_of_getElem? (i := 0) rfl) rfl
theorem wq516 : Cond.codeWith yL_rest cL_rest 4 (some .int) [(0, 6, 9, 21), (0, 6, 13, 15)] ∈ gw := gw_t3 (List.mem_of_getElem? (i := 1) rfl) rfl
theorem wq517 : Cond.methodLink RL 26 yX7_rest ∈ gw := gw_t3 (List.mem_of_getElem? (i := 2) rfl) rfl
theorem wq518 : Cond.instanceMethod yX7_rest ∈ gw := gw_t3 (List.mem_of_getElem? (i := 3) rfl) rfl
theorem wq519 : Cond.selects RX7 yX7_rest yX7_rest ∈ gw := gw_t3 (List.mem_of_getElem? (i := 4) rfl) rfl
theorem wq520 : Cond.code yX7_rest cX7_rest 2 (some .int) ∈ gw := gw_t3 (List.mem_of_getElem? (i := 5) rfl) rfl
theorem wq521 : Cond.methodLink RX7 79 yX6_mayLieDown ∈ gw := gw_t3 (List.mem_of_getElem? (i := 6) rfl) rfl
theorem wq522 : Cond.instanceMethod yX6_mayLieDown ∈ gw := gw_t3 (List.mem_of_getElem? (i := 7) rfl) rfl
theorem wq523 : Cond.selects RX6 yX6_mayLieDown yX6_mayLieDown ∈ gw := gw_t3 (List.mem_of_getElem? (i := 8) rfl) rfl
theorem wq524 : Cond.code yX6_mayLieDown cX6_mayLieDown 2 (some .boolean) ∈ gw := gw_t3 (List.mem_of_getElem? (i := 9) rfl) rfl
theorem wq525 : Cond.methodLink RX7 84 yX6_lieDown ∈ gw := gw_t3 (List.mem_of_getElem? (i := 11) rfl) rfl
theorem wq526 : Cond.instanceMethod yX6_lieDown ∈ gw := gw_t3 (List.mem_of_getElem? (i := 12) rfl) rfl
theorem wq527 : Cond.selects RX6 yX6_lieDown yX6_lieDown ∈ gw := gw_t3 (List.mem_of_getElem? (i := 13) rfl) rfl
theorem wq528 : Cond.code yX6_lieDown cX6_lieDown 3 (some .int) ∈ gw := gw_t3 (List.mem_of_getElem? (i := 14) rfl) rfl
theorem wq529 : Cond.methodLink RX6 105 yX1_releaseAll ∈ gw := gw_t3 (List.mem_of_getElem? (i := 22) rfl) rfl
theorem wq530 : Cond.instanceMethod yX1_releaseAll ∈ gw := gw_t3 (List.mem_of_getElem? (i := 23) rfl) rfl
theorem wq531 : Cond.selects RX1 yX1_releaseAll yX1_releaseAll ∈ gw := gw_t3 (List.mem_of_getElem? (i := 24) rfl) rfl
theorem wq532 : Cond.code yX1_releaseAll cX1_releaseAll 3 none ∈ gw := gw_t3 (List.mem_of_getElem? (i := 25) rfl) rfl
theorem wq533 : Cond.methodLink RX1 40 yX1_release ∈ gw := gw_t3 (List.mem_of_getElem? (i := 26) rfl) rfl
theorem wq534 : Cond.instanceMethod yX1_release ∈ gw := gw_t3 (List.mem_of_getElem? (i := 27) rfl) rfl
theorem wq535 : Cond.selects RX1 yX1_release yX1_release ∈ gw := gw_t3 (List.mem_of_getElem? (i := 28) rfl) rfl
theorem wq536 : Cond.code yX1_release cX1_release 4 none ∈ gw := gw_t3 (List.mem_of_getElem? (i := 29) rfl) rfl
theorem wq537 : Cond.methodLink RX1 36 yX4_put ∈ gw := gw_t3 (List.mem_of_getElem? (i := 30) rfl) rfl
theorem wq538 : Cond.methodLink RL 118 yL_ring ∈ gw := gw_t3 (List.mem_of_getElem? (i := 34) rfl) rfl
theorem wq539 : Cond.static yL_ring ∈ gw := gw_t3 (List.mem_of_getElem? (i := 35) rfl) rfl
theorem wq540 : Cond.codeWith yL_ring cL_ring 3 (some .int) [(0, 5, 8, 15)] ∈ gw := gw_t3 (List.mem_of_getElem? (i := 36) rfl) rfl
theorem wq541 : Cond.methodLink RL 29 yX7_ring ∈ gw := gw_t3 (List.mem_of_getElem? (i := 37) rfl) rfl
theorem wq542 : Cond.instanceMethod yX7_ring ∈ gw := gw_t3 (List.mem_of_getElem? (i := 38) rfl) rfl
theorem wq543 : Cond.selects RX7 yX7_ring yX7_ring ∈ gw := gw_t3 (List.mem_of_getElem? (i := 39) rfl) rfl
theorem wq544 : Cond.code yX7_ring cX7_ring 1 (some .int) ∈ gw := gw_t3 (List.mem_of_getElem? (i := 40) rfl) rfl
theorem wq545 : Cond.methodLink RX7 87 yX6_mayStrike ∈ gw := gw_t3 (List.mem_of_getElem? (i := 41) rfl) rfl
theorem wq546 : Cond.instanceMethod yX6_mayStrike ∈ gw := gw_t3 (List.mem_of_getElem? (i := 42) rfl) rfl
theorem wq547 : Cond.selects RX6 yX6_mayStrike yX6_mayStrike ∈ gw := gw_t3 (List.mem_of_getElem? (i := 43) rfl) rfl
theorem wq548 : Cond.code yX6_mayStrike cX6_mayStrike 1 (some .boolean) ∈ gw := gw_t3 (List.mem_of_getElem? (i := 44) rfl) rfl
theorem wq549 : Cond.methodLink RX6 121 yX0_maskOfLate ∈ gw := gw_t3 (List.mem_of_getElem? (i := 45) rfl) rfl
theorem wq550 : Cond.methodLink RX7 93 yX6_strike ∈ gw := gw_t3 (List.mem_of_getElem? (i := 51) rfl) rfl
theorem wq551 : Cond.instanceMethod yX6_strike ∈ gw := gw_t3 (List.mem_of_getElem? (i := 52) rfl) rfl
theorem wq552 : Cond.selects RX6 yX6_strike yX6_strike ∈ gw := gw_t3 (List.mem_of_getElem? (i := 53) rfl) rfl
theorem wq553 : Cond.code yX6_strike cX6_strike 1 (some .int) ∈ gw := gw_t3 (List.mem_of_getElem? (i := 54) rfl) rfl
theorem wq554 : Cond.methodLink RL 121 yL_come ∈ gw := gw_t3 (List.mem_of_getElem? (i := 55) rfl) rfl
theorem wq555 : Cond.static yL_come ∈ gw := gw_t3 (List.mem_of_getElem? (i := 56) rfl) rfl
theorem wq556 : Cond.codeWith yL_come cL_come 3 (some .int) [(0, 5, 8, 15)] ∈ gw := gw_t3 (List.mem_of_getElem? (i := 57) rfl) rfl
theorem wq557 : Cond.methodLink RL 9 yX7_come ∈ gw := gw_t3 (List.mem_of_getElem? (i := 58) rfl) rfl
theorem wq558 : Cond.instanceMethod yX7_come ∈ gw := gw_t3 (List.mem_of_getElem? (i := 59) rfl) rfl
theorem wq559 : Cond.selects RX7 yX7_come yX7_come ∈ gw := gw_t3 (List.mem_of_getElem? (i := 60) rfl) rfl
theorem wq560 : Cond.code yX7_come cX7_come 1 (some .int) ∈ gw := gw_t3 (List.mem_of_getElem? (i := 61) rfl) rfl
theorem wq561 : Cond.methodLink RX7 37 yX0_lowestFree ∈ gw := gw_t3 (List.mem_of_getElem? (i := 62) rfl) rfl
theorem wq562 : Cond.instanceMethod yX0_lowestFree ∈ gw := gw_t3 (List.mem_of_getElem? (i := 63) rfl) rfl
theorem wq563 : Cond.selects RX0 yX0_lowestFree yX0_lowestFree ∈ gw := gw_t3 (List.mem_of_getElem? (i := 64) rfl) rfl
theorem wq564 : Cond.code yX0_lowestFree cX0_lowestFree 2 (some .int) ∈ gw := gw_t3 (List.mem_of_getElem? (i := 65) rfl) rfl
theorem wq565 : Cond.methodLink RX7 54 yX6_addChild ∈ gw := gw_t3 (List.mem_of_getElem? (i := 67) rfl) rfl
theorem wq566 : Cond.instanceMethod yX6_addChild ∈ gw := gw_t3 (List.mem_of_getElem? (i := 68) rfl) rfl
theorem wq567 : Cond.selects RX6 yX6_addChild yX6_addChild ∈ gw := gw_t3 (List.mem_of_getElem? (i := 69) rfl) rfl
theorem wq568 : Cond.code yX6_addChild cX6_addChild 2 (some .int) ∈ gw := gw_t3 (List.mem_of_getElem? (i := 70) rfl) rfl
theorem wq569 : Cond.methodLink RX6 67 yX0_lowestFree ∈ gw := gw_t3 (List.mem_of_getElem? (i := 71) rfl) rfl
theorem wq570 : Cond.methodLink RX6 71 yX0_fillPlace ∈ gw := gw_t3 (List.mem_of_getElem? (i := 72) rfl) rfl
theorem wq571 : Cond.instanceMethod yX0_fillPlace ∈ gw := gw_t3 (List.mem_of_getElem? (i := 73) rfl) rfl
theorem wq572 : Cond.selects RX0 yX0_fillPlace yX0_fillPlace ∈ gw := gw_t3 (List.mem_of_getElem? (i := 74) rfl) rfl
theorem wq573 : Cond.code yX0_fillPlace cX0_fillPlace 2 none ∈ gw := gw_t3 (List.mem_of_getElem? (i := 75) rfl) rfl
theorem wq574 : Cond.methodLink RL 123 yL_set ∈ gw := gw_t3 (List.mem_of_getElem? (i := 76) rfl) rfl
theorem wq575 : Cond.static yL_set ∈ gw := gw_t3 (List.mem_of_getElem? (i := 77) rfl) rfl
theorem wq576 : Cond.codeWith yL_set cL_set 5 (some .int) [(0, 7, 10, 21), (0, 7, 15, 36)] ∈ gw := gw_t3 (List.mem_of_getElem? (i := 78) rfl) rfl
theorem wq577 : Cond.methodLink RL 60 yX7_set ∈ gw := gw_t3 (List.mem_of_getElem? (i := 80) rfl) rfl
theorem wq578 : Cond.instanceMethod yX7_set ∈ gw := gw_t3 (List.mem_of_getElem? (i := 81) rfl) rfl
theorem wq579 : Cond.selects RX7 yX7_set yX7_set ∈ gw := gw_t3 (List.mem_of_getElem? (i := 82) rfl) rfl
theorem wq580 : Cond.code yX7_set cX7_set 3 (some .int) ∈ gw := gw_t3 (List.mem_of_getElem? (i := 83) rfl) rfl
theorem wq581 : Cond.methodLink RX7 178 yX7_isValueOf ∈ gw := gw_t3 (List.mem_of_getElem? (i := 88) rfl) rfl
theorem wq582 : Cond.static yX7_isValueOf ∈ gw := gw_t3 (List.mem_of_getElem? (i := 89) rfl) rfl
theorem wq583 : Cond.code yX7_isValueOf cX7_isValueOf 2 (some .boolean) ∈ gw := gw_t3 (List.mem_of_getElem? (i := 90) rfl) rfl
theorem wq584 : Cond.methodLink RX7 186 yX6_change ∈ gw := gw_t3 (List.mem_of_getElem? (i := 92) rfl) rfl
theorem wq585 : Cond.instanceMethod yX6_change ∈ gw := gw_t3 (List.mem_of_getElem? (i := 93) rfl) rfl
theorem wq586 : Cond.selects RX6 yX6_change yX6_change ∈ gw := gw_t3 (List.mem_of_getElem? (i := 94) rfl) rfl
theorem wq587 : Cond.code yX6_change cX6_change 4 (some .int) ∈ gw := gw_t3 (List.mem_of_getElem? (i := 95) rfl) rfl
theorem wq588 : Cond.methodLink RX6 204 yX6_valueOf ∈ gw := gw_t3 (List.mem_of_getElem? (i := 96) rfl) rfl
theorem wq589 : Cond.methodLink RL 126 yL_leave ∈ gw := gw_t3 (List.mem_of_getElem? (i := 103) rfl) rfl
theorem wq590 : Cond.static yL_leave ∈ gw := gw_t3 (List.mem_of_getElem? (i := 104) rfl) rfl
theorem wq591 : Cond.codeWith yL_leave cL_leave 4 (some .int) [(0, 6, 9, 21), (0, 6, 13, 15)] ∈ gw := gw_t3 (List.mem_of_getElem? (i := 105) rfl) rfl
theorem wq592 : Cond.methodLink RL 17 yX7_leave ∈ gw := gw_t3 (List.mem_of_getElem? (i := 106) rfl) rfl
theorem wq593 : Cond.instanceMethod yX7_leave ∈ gw := gw_t3 (List.mem_of_getElem? (i := 107) rfl) rfl
theorem wq594 : Cond.selects RX7 yX7_leave yX7_leave ∈ gw := gw_t3 (List.mem_of_getElem? (i := 108) rfl) rfl
theorem wq595 : Cond.code yX7_leave cX7_leave 2 (some .int) ∈ gw := gw_t3 (List.mem_of_getElem? (i := 109) rfl) rfl
theorem wq596 : Cond.methodLink RX7 66 yX6_removeChild ∈ gw := gw_t3 (List.mem_of_getElem? (i := 112) rfl) rfl
theorem wq597 : Cond.instanceMethod yX6_removeChild ∈ gw := gw_t3 (List.mem_of_getElem? (i := 113) rfl) rfl
theorem wq598 : Cond.selects RX6 yX6_removeChild yX6_removeChild ∈ gw := gw_t3 (List.mem_of_getElem? (i := 114) rfl) rfl
theorem wq599 : Cond.code yX6_removeChild cX6_removeChild 6 (some .int) ∈ gw := gw_t3 (List.mem_of_getElem? (i := 115) rfl) rfl
theorem wq600 : Cond.methodLink RX6 85 yX0_lowestBesides ∈ gw := gw_t3 (List.mem_of_getElem? (i := 117) rfl) rfl
theorem wq601 : Cond.instanceMethod yX0_lowestBesides ∈ gw := gw_t3 (List.mem_of_getElem? (i := 118) rfl) rfl
theorem wq602 : Cond.selects RX0 yX0_lowestBesides yX0_lowestBesides ∈ gw := gw_t3 (List.mem_of_getElem? (i := 119) rfl) rfl
theorem wq603 : Cond.code yX0_lowestBesides cX0_lowestBesides 3 (some .int) ∈ gw := gw_t3 (List.mem_of_getElem? (i := 120) rfl) rfl
theorem wq604 : Cond.methodLink RX6 92 yX0_putOnHeap ∈ gw := gw_t3 (List.mem_of_getElem? (i := 125) rfl) rfl
theorem wq605 : Cond.instanceMethod yX0_putOnHeap ∈ gw := gw_t3 (List.mem_of_getElem? (i := 126) rfl) rfl
theorem wq606 : Cond.selects RX0 yX0_putOnHeap yX0_putOnHeap ∈ gw := gw_t3 (List.mem_of_getElem? (i := 127) rfl) rfl
theorem wq607 : Cond.code yX0_putOnHeap cX0_putOnHeap 3 none ∈ gw := gw_t3 (List.mem_of_getElem? (i := 128) rfl) rfl
theorem wq608 : Cond.methodLink RX0 60 yX4_add ∈ gw := gw_t3 (List.mem_of_getElem? (i := 129) rfl) rfl
theorem wq609 : Cond.instanceMethod yX4_add ∈ gw := gw_t3 (List.mem_of_getElem? (i := 130) rfl) rfl
theorem wq610 : Cond.selects RX4 yX4_add yX4_add ∈ gw := gw_t3 (List.mem_of_getElem? (i := 131) rfl) rfl
theorem wq611 : Cond.code yX4_add cX4_add 3 none ∈ gw := gw_t3 (List.mem_of_getElem? (i := 132) rfl) rfl
theorem wq612 : Cond.methodLink RX4 15 yX4_get ∈ gw := gw_t3 (List.mem_of_getElem? (i := 133) rfl) rfl
theorem wq613 : Cond.methodLink RX4 19 yX4_put ∈ gw := gw_t3 (List.mem_of_getElem? (i := 134) rfl) rfl
theorem wq614 : Cond.methodLink RX6 102 yX0_emptyPlace ∈ gw := gw_t3 (List.mem_of_getElem? (i := 135) rfl) rfl
theorem wq615 : Cond.instanceMethod yX0_emptyPlace ∈ gw := gw_t3 (List.mem_of_getElem? (i := 136) rfl) rfl
theorem wq616 : Cond.selects RX0 yX0_emptyPlace yX0_emptyPlace ∈ gw := gw_t3 (List.mem_of_getElem? (i := 137) rfl) rfl
theorem wq617 : Cond.code yX0_emptyPlace cX0_emptyPlace 2 none ∈ gw := gw_t3 (List.mem_of_getElem? (i := 138) rfl) rfl
theorem wq618 : Cond.methodLink RL 86 yL_put ∈ gw := gw_t3 (List.mem_of_getElem? (i := 145) rfl) rfl
theorem wq619 : Cond.static yL_put ∈ gw := gw_t3 (List.mem_of_getElem? (i := 146) rfl) rfl
theorem wq620 : Cond.code yL_put cL_put 3 none ∈ gw := gw_t3 (List.mem_of_getElem? (i := 147) rfl) rfl
theorem wq621 : Cond.methodLink RL 236 yL_hooks ∈ gw := gw_t3 (List.mem_of_getElem? (i := 148) rfl) rfl
theorem wq622 : Cond.static yL_hooks ∈ gw := gw_t3 (List.mem_of_getElem? (i := 149) rfl) rfl
theorem wq623 : Cond.code yL_hooks cL_hooks 17 (some .boolean) ∈ gw := gw_t3 (List.mem_of_getElem? (i := 150) rfl) rfl
theorem wq624 : Cond.methodLink RL 128 yL_note ∈ gw := gw_t3 (List.mem_of_getElem? (i := 151) rfl) rfl
theorem wq625 : Cond.static yL_note ∈ gw := gw_t3 (List.mem_of_getElem? (i := 152) rfl) rfl
theorem wq626 : Cond.codeWith yL_note cL_note 6 (some .int) [(0, 9, 12, 21), (0, 9, 17, 15)] ∈ gw := gw_t3 (List.mem_of_getElem? (i := 153) rfl) rfl
theorem wq627 : Cond.methodLink RL 38 yX7_note ∈ gw := gw_t3 (List.mem_of_getElem? (i := 154) rfl) rfl
theorem wq628 : Cond.instanceMethod yX7_note ∈ gw := gw_t3 (List.mem_of_getElem? (i := 155) rfl) rfl
theorem wq629 : Cond.selects RX7 yX7_note yX7_note ∈ gw := gw_t3 (List.mem_of_getElem? (i := 156) rfl) rfl
theorem wq630 : Cond.code yX7_note cX7_note 4 (some .int) ∈ gw := gw_t3 (List.mem_of_getElem? (i := 157) rfl) rfl
theorem wq631 : Cond.methodLink RX7 121 yX6_mayWrite ∈ gw := gw_t3 (List.mem_of_getElem? (i := 167) rfl) rfl
theorem wq632 : Cond.instanceMethod yX6_mayWrite ∈ gw := gw_t3 (List.mem_of_getElem? (i := 168) rfl) rfl
theorem wq633 : Cond.selects RX6 yX6_mayWrite yX6_mayWrite ∈ gw := gw_t3 (List.mem_of_getElem? (i := 169) rfl) rfl
theorem wq634 : Cond.code yX6_mayWrite cX6_mayWrite 4 (some .boolean) ∈ gw := gw_t3 (List.mem_of_getElem? (i := 170) rfl) rfl
theorem wq635 : Cond.fieldLink RX6 124 "PinnedLeaves$Leaves" "onBranch" "LPinnedLeaves$Row;" ∈ gw := gw_t1 (List.mem_of_getElem? (i := 56) rfl) rfl
theorem wq636 : Cond.methodLink RX7 127 yX6_write ∈ gw := gw_t3 (List.mem_of_getElem? (i := 177) rfl) rfl
theorem wq637 : Cond.instanceMethod yX6_write ∈ gw := gw_t3 (List.mem_of_getElem? (i := 178) rfl) rfl
theorem wq638 : Cond.selects RX6 yX6_write yX6_write ∈ gw := gw_t3 (List.mem_of_getElem? (i := 179) rfl) rfl
theorem wq639 : Cond.code yX6_write cX6_write 5 (some .int) ∈ gw := gw_t3 (List.mem_of_getElem? (i := 180) rfl) rfl
theorem wq640 : Cond.methodLink RX6 133 yX1_write ∈ gw := gw_t3 (List.mem_of_getElem? (i := 181) rfl) rfl
theorem wq641 : Cond.instanceMethod yX1_write ∈ gw := gw_t3 (List.mem_of_getElem? (i := 182) rfl) rfl
theorem wq642 : Cond.selects RX1 yX1_write yX1_write ∈ gw := gw_t3 (List.mem_of_getElem? (i := 183) rfl) rfl
theorem wq643 : Cond.code yX1_write cX1_write 6 none ∈ gw := gw_t3 (List.mem_of_getElem? (i := 184) rfl) rfl
theorem wq644 : Cond.methodLink RL 131 yL_pin ∈ gw := gw_t3 (List.mem_of_getElem? (i := 185) rfl) rfl
theorem wq645 : Cond.static yL_pin ∈ gw := gw_t3 (List.mem_of_getElem? (i := 186) rfl) rfl
theorem wq646 : Cond.codeWith yL_pin cL_pin 5 (some .int) [(0, 7, 10, 21), (0, 7, 15, 15)] ∈ gw := gw_t3 (List.mem_of_getElem? (i := 187) rfl) rfl
theorem wq647 : Cond.methodLink RL 42 yX7_pin ∈ gw := gw_t3 (List.mem_of_getElem? (i := 188) rfl) rfl
theorem wq648 : Cond.instanceMethod yX7_pin ∈ gw := gw_t3 (List.mem_of_getElem? (i := 189) rfl) rfl
theorem wq649 : Cond.selects RX7 yX7_pin yX7_pin ∈ gw := gw_t3 (List.mem_of_getElem? (i := 190) rfl) rfl
theorem wq650 : Cond.code yX7_pin cX7_pin 3 (some .int) ∈ gw := gw_t3 (List.mem_of_getElem? (i := 191) rfl) rfl
theorem wq651 : Cond.methodLink RX7 131 yX6_mayFasten ∈ gw := gw_t3 (List.mem_of_getElem? (i := 192) rfl) rfl
theorem wq652 : Cond.instanceMethod yX6_mayFasten ∈ gw := gw_t3 (List.mem_of_getElem? (i := 193) rfl) rfl
theorem wq653 : Cond.selects RX6 yX6_mayFasten yX6_mayFasten ∈ gw := gw_t3 (List.mem_of_getElem? (i := 194) rfl) rfl
theorem wq654 : Cond.code yX6_mayFasten cX6_mayFasten 3 (some .boolean) ∈ gw := gw_t3 (List.mem_of_getElem? (i := 195) rfl) rfl
theorem wq655 : Cond.methodLink RX7 137 yX6_fasten ∈ gw := gw_t3 (List.mem_of_getElem? (i := 197) rfl) rfl
theorem wq656 : Cond.instanceMethod yX6_fasten ∈ gw := gw_t3 (List.mem_of_getElem? (i := 198) rfl) rfl
theorem wq657 : Cond.selects RX6 yX6_fasten yX6_fasten ∈ gw := gw_t3 (List.mem_of_getElem? (i := 199) rfl) rfl
theorem wq658 : Cond.code yX6_fasten cX6_fasten 4 (some .int) ∈ gw := gw_t3 (List.mem_of_getElem? (i := 200) rfl) rfl
theorem wq659 : Cond.methodLink RX6 140 yX1_branchOf ∈ gw := gw_t3 (List.mem_of_getElem? (i := 205) rfl) rfl
theorem wq660 : Cond.methodLink RX6 143 yX1_fasten ∈ gw := gw_t3 (List.mem_of_getElem? (i := 209) rfl) rfl
theorem wq661 : Cond.instanceMethod yX1_fasten ∈ gw := gw_t3 (List.mem_of_getElem? (i := 210) rfl) rfl
theorem wq662 : Cond.selects RX1 yX1_fasten yX1_fasten ∈ gw := gw_t3 (List.mem_of_getElem? (i := 211) rfl) rfl
theorem wq663 : Cond.code yX1_fasten cX1_fasten 4 none ∈ gw := gw_t3 (List.mem_of_getElem? (i := 212) rfl) rfl
theorem wq664 : Cond.methodLink RX6 146 yX1_release ∈ gw := gw_t3 (List.mem_of_getElem? (i := 213) rfl) rfl
theorem wq665 : Cond.methodLink RL 133 yL_loosen ∈ gw := gw_t3 (List.mem_of_getElem? (i := 214) rfl) rfl
theorem wq666 : Cond.static yL_loosen ∈ gw := gw_t3 (List.mem_of_getElem? (i := 215) rfl) rfl
theorem wq667 : Cond.codeWith yL_loosen cL_loosen 5 (some .int) [(0, 7, 10, 21), (0, 7, 15, 15)] ∈ gw := gw_t3 (List.mem_of_getElem? (i := 216) rfl) rfl
theorem wq668 : Cond.methodLink RL 45 yX7_loosen ∈ gw := gw_t3 (List.mem_of_getElem? (i := 217) rfl) rfl
theorem wq669 : Cond.instanceMethod yX7_loosen ∈ gw := gw_t3 (List.mem_of_getElem? (i := 218) rfl) rfl
theorem wq670 : Cond.selects RX7 yX7_loosen yX7_loosen ∈ gw := gw_t3 (List.mem_of_getElem? (i := 219) rfl) rfl
theorem wq671 : Cond.code yX7_loosen cX7_loosen 3 (some .int) ∈ gw := gw_t3 (List.mem_of_getElem? (i := 220) rfl) rfl
theorem wq672 : Cond.methodLink RX7 140 yX6_mayRelease ∈ gw := gw_t3 (List.mem_of_getElem? (i := 221) rfl) rfl
theorem wq673 : Cond.instanceMethod yX6_mayRelease ∈ gw := gw_t3 (List.mem_of_getElem? (i := 222) rfl) rfl
theorem wq674 : Cond.selects RX6 yX6_mayRelease yX6_mayRelease ∈ gw := gw_t3 (List.mem_of_getElem? (i := 223) rfl) rfl
theorem wq675 : Cond.code yX6_mayRelease cX6_mayRelease 3 (some .boolean) ∈ gw := gw_t3 (List.mem_of_getElem? (i := 224) rfl) rfl
theorem wq676 : Cond.methodLink RX7 145 yX6_release ∈ gw := gw_t3 (List.mem_of_getElem? (i := 226) rfl) rfl
theorem wq677 : Cond.instanceMethod yX6_release ∈ gw := gw_t3 (List.mem_of_getElem? (i := 227) rfl) rfl
theorem wq678 : Cond.selects RX6 yX6_release yX6_release ∈ gw := gw_t3 (List.mem_of_getElem? (i := 228) rfl) rfl
theorem wq679 : Cond.code yX6_release cX6_release 4 (some .int) ∈ gw := gw_t3 (List.mem_of_getElem? (i := 229) rfl) rfl
theorem wq680 : Cond.methodLink RL 135 yL_look ∈ gw := gw_t3 (List.mem_of_getElem? (i := 230) rfl) rfl
theorem wq681 : Cond.static yL_look ∈ gw := gw_t3 (List.mem_of_getElem? (i := 231) rfl) rfl
theorem wq682 : Cond.codeWith yL_look cL_look 5 (some .int) [(0, 7, 10, 21), (0, 7, 15, 15)] ∈ gw := gw_t3 (List.mem_of_getElem? (i := 232) rfl) rfl
theorem wq683 : Cond.methodLink RL 48 yX7_look ∈ gw := gw_t3 (List.mem_of_getElem? (i := 233) rfl) rfl
theorem wq684 : Cond.instanceMethod yX7_look ∈ gw := gw_t3 (List.mem_of_getElem? (i := 234) rfl) rfl
theorem wq685 : Cond.selects RX7 yX7_look yX7_look ∈ gw := gw_t3 (List.mem_of_getElem? (i := 235) rfl) rfl
theorem wq686 : Cond.code yX7_look cX7_look 3 (some .int) ∈ gw := gw_t3 (List.mem_of_getElem? (i := 236) rfl) rfl
theorem wq687 : Cond.methodLink RX7 148 yX6_lookThrough ∈ gw := gw_t3 (List.mem_of_getElem? (i := 237) rfl) rfl
theorem wq688 : Cond.instanceMethod yX6_lookThrough ∈ gw := gw_t3 (List.mem_of_getElem? (i := 238) rfl) rfl
theorem wq689 : Cond.selects RX6 yX6_lookThrough yX6_lookThrough ∈ gw := gw_t3 (List.mem_of_getElem? (i := 239) rfl) rfl
theorem wq690 : Cond.code yX6_lookThrough cX6_lookThrough 4 (some .int) ∈ gw := gw_t4 (List.mem_of_getElem? (i := 0) rfl) rfl
theorem wq691 : Cond.methodLink RL 239 yL_leaves ∈ gw := gw_t4 (List.mem_of_getElem? (i := 1) rfl) rfl
theorem wq692 : Cond.static yL_leaves ∈ gw := gw_t4 (List.mem_of_getElem? (i := 2) rfl) rfl
theorem wq693 : Cond.code yL_leaves cL_leaves 17 (some .boolean) ∈ gw := gw_t4 (List.mem_of_getElem? (i := 3) rfl) rfl
theorem wq694 : Cond.methodLink RL 137 yL_grow ∈ gw := gw_t4 (List.mem_of_getElem? (i := 4) rfl) rfl
theorem wq695 : Cond.static yL_grow ∈ gw := gw_t4 (List.mem_of_getElem? (i := 5) rfl) rfl
theorem wq696 : Cond.codeWith yL_grow cL_grow 5 (some .int) [(0, 7, 10, 21), (0, 7, 15, 36), (0, 7, 20, 15)] ∈ gw := gw_t4 (List.mem_of_getElem? (i := 6) rfl) rfl
theorem wq697 : Cond.methodLink RL 32 yX7_grow ∈ gw := gw_t4 (List.mem_of_getElem? (i := 7) rfl) rfl
theorem wq698 : Cond.instanceMethod yX7_grow ∈ gw := gw_t4 (List.mem_of_getElem? (i := 8) rfl) rfl
theorem wq699 : Cond.selects RX7 yX7_grow yX7_grow ∈ gw := gw_t4 (List.mem_of_getElem? (i := 9) rfl) rfl
theorem wq700 : Cond.code yX7_grow cX7_grow 3 (some .int) ∈ gw := gw_t4 (List.mem_of_getElem? (i := 10) rfl) rfl
theorem wq701 : Cond.methodLink RX7 99 yX7_needColour ∈ gw := gw_t4 (List.mem_of_getElem? (i := 11) rfl) rfl
theorem wq702 : Cond.static yX7_needColour ∈ gw := gw_t4 (List.mem_of_getElem? (i := 12) rfl) rfl
theorem wq703 : Cond.code yX7_needColour cX7_needColour 1 none ∈ gw := gw_t4 (List.mem_of_getElem? (i := 13) rfl) rfl
theorem wq704 : Cond.methodLink RX7 102 yX6_maySprout ∈ gw := gw_t4 (List.mem_of_getElem? (i := 15) rfl) rfl
theorem wq705 : Cond.instanceMethod yX6_maySprout ∈ gw := gw_t4 (List.mem_of_getElem? (i := 16) rfl) rfl
theorem wq706 : Cond.selects RX6 yX6_maySprout yX6_maySprout ∈ gw := gw_t4 (List.mem_of_getElem? (i := 17) rfl) rfl
theorem wq707 : Cond.code yX6_maySprout cX6_maySprout 2 (some .boolean) ∈ gw := gw_t4 (List.mem_of_getElem? (i := 18) rfl) rfl
theorem wq708 : Cond.methodLink RX7 111 yX2_sprout ∈ gw := gw_t4 (List.mem_of_getElem? (i := 20) rfl) rfl
theorem wq709 : Cond.instanceMethod yX2_sprout ∈ gw := gw_t4 (List.mem_of_getElem? (i := 21) rfl) rfl
theorem wq710 : Cond.selects RX2 yX2_sprout yX2_sprout ∈ gw := gw_t4 (List.mem_of_getElem? (i := 22) rfl) rfl
theorem wq711 : Cond.code yX2_sprout cX2_sprout 4 (some .int) ∈ gw := gw_t4 (List.mem_of_getElem? (i := 23) rfl) rfl
theorem wq712 : Cond.methodLink RX2 42 yX4_put ∈ gw := gw_t4 (List.mem_of_getElem? (i := 24) rfl) rfl
theorem wq713 : Cond.methodLink RL 139 yL_grown ∈ gw := gw_t4 (List.mem_of_getElem? (i := 25) rfl) rfl
theorem wq714 : Cond.static yL_grown ∈ gw := gw_t4 (List.mem_of_getElem? (i := 26) rfl) rfl
theorem wq715 : Cond.code yL_grown cL_grown 6 (some .int) ∈ gw := gw_t4 (List.mem_of_getElem? (i := 27) rfl) rfl
theorem wq716 : Cond.methodLink RL 143 yL_take ∈ gw := gw_t4 (List.mem_of_getElem? (i := 28) rfl) rfl
theorem wq717 : Cond.static yL_take ∈ gw := gw_t4 (List.mem_of_getElem? (i := 29) rfl) rfl
theorem wq718 : Cond.codeWith yL_take cL_take 5 (some .int) [(0, 7, 10, 21), (0, 7, 15, 15)] ∈ gw := gw_t4 (List.mem_of_getElem? (i := 30) rfl) rfl
theorem wq719 : Cond.methodLink RL 51 yX7_take ∈ gw := gw_t4 (List.mem_of_getElem? (i := 31) rfl) rfl
theorem wq720 : Cond.instanceMethod yX7_take ∈ gw := gw_t4 (List.mem_of_getElem? (i := 32) rfl) rfl
theorem wq721 : Cond.selects RX7 yX7_take yX7_take ∈ gw := gw_t4 (List.mem_of_getElem? (i := 33) rfl) rfl
theorem wq722 : Cond.code yX7_take cX7_take 3 (some .int) ∈ gw := gw_t4 (List.mem_of_getElem? (i := 34) rfl) rfl
theorem wq723 : Cond.methodLink RX7 151 yX6_mayTakeOff ∈ gw := gw_t4 (List.mem_of_getElem? (i := 35) rfl) rfl
theorem wq724 : Cond.instanceMethod yX6_mayTakeOff ∈ gw := gw_t4 (List.mem_of_getElem? (i := 36) rfl) rfl
theorem wq725 : Cond.selects RX6 yX6_mayTakeOff yX6_mayTakeOff ∈ gw := gw_t4 (List.mem_of_getElem? (i := 37) rfl) rfl
theorem wq726 : Cond.code yX6_mayTakeOff cX6_mayTakeOff 3 (some .boolean) ∈ gw := gw_t4 (List.mem_of_getElem? (i := 38) rfl) rfl
theorem wq727 : Cond.methodLink RX7 156 yX6_takeOff ∈ gw := gw_t4 (List.mem_of_getElem? (i := 40) rfl) rfl
theorem wq728 : Cond.instanceMethod yX6_takeOff ∈ gw := gw_t4 (List.mem_of_getElem? (i := 41) rfl) rfl
theorem wq729 : Cond.selects RX6 yX6_takeOff yX6_takeOff ∈ gw := gw_t4 (List.mem_of_getElem? (i := 42) rfl) rfl
theorem wq730 : Cond.code yX6_takeOff cX6_takeOff 5 (some .int) ∈ gw := gw_t4 (List.mem_of_getElem? (i := 43) rfl) rfl
theorem wq731 : Cond.methodLink RX6 171 Lib.Math.max.name ∈ gw := gw_t4 (List.mem_of_getElem? (i := 64) rfl) rfl
theorem wq732 : Cond.static Lib.Math.max.name ∈ gw := gw_t4 (List.mem_of_getElem? (i := 65) rfl) rfl
theorem wq733 : Cond.code Lib.Math.max.name Lib.Math.max.code 2 (some .int) ∈ gw := gw_t4 (List.mem_of_getElem? (i := 66) rfl) rfl
theorem wq734 : Cond.methodLink RX6 155 yX2_putAside ∈ gw := gw_t4 (List.mem_of_getElem? (i := 44) rfl) rfl
theorem wq735 : Cond.instanceMethod yX2_putAside ∈ gw := gw_t4 (List.mem_of_getElem? (i := 45) rfl) rfl
theorem wq736 : Cond.selects RX2 yX2_putAside yX2_putAside ∈ gw := gw_t4 (List.mem_of_getElem? (i := 46) rfl) rfl
theorem wq737 : Cond.code yX2_putAside cX2_putAside 4 none ∈ gw := gw_t4 (List.mem_of_getElem? (i := 47) rfl) rfl
theorem wq738 : Cond.methodLink RX2 46 yX4_get ∈ gw := gw_t4 (List.mem_of_getElem? (i := 48) rfl) rfl
theorem wq739 : Cond.methodLink RX6 162 yX4_add ∈ gw := gw_t4 (List.mem_of_getElem? (i := 49) rfl) rfl
theorem wq740 : Cond.methodLink RX6 165 yX6_clear ∈ gw := gw_t4 (List.mem_of_getElem? (i := 50) rfl) rfl
theorem wq741 : Cond.instanceMethod yX6_clear ∈ gw := gw_t4 (List.mem_of_getElem? (i := 51) rfl) rfl
theorem wq742 : Cond.selects RX6 yX6_clear yX6_clear ∈ gw := gw_t4 (List.mem_of_getElem? (i := 52) rfl) rfl
theorem wq743 : Cond.code yX6_clear cX6_clear 7 (some .int) ∈ gw := gw_t4 (List.mem_of_getElem? (i := 53) rfl) rfl
theorem wq744 : Cond.fieldLink RX6 186 "PinnedLeaves$Children" "heaps" "LPinnedLeaves$Row;" ∈ gw := gw_t1 (List.mem_of_getElem? (i := 108) rfl) rfl
theorem wq745 : Cond.methodLink RX6 193 yX2_burn ∈ gw := gw_t4 (List.mem_of_getElem? (i := 60) rfl) rfl
theorem wq746 : Cond.instanceMethod yX2_burn ∈ gw := gw_t4 (List.mem_of_getElem? (i := 61) rfl) rfl
theorem wq747 : Cond.selects RX2 yX2_burn yX2_burn ∈ gw := gw_t4 (List.mem_of_getElem? (i := 62) rfl) rfl
theorem wq748 : Cond.code yX2_burn cX2_burn 2 none ∈ gw := gw_t4 (List.mem_of_getElem? (i := 63) rfl) rfl
theorem wq749 : Cond.methodLink RL 145 yL_taken ∈ gw := gw_t4 (List.mem_of_getElem? (i := 67) rfl) rfl
theorem wq750 : Cond.static yL_taken ∈ gw := gw_t4 (List.mem_of_getElem? (i := 68) rfl) rfl
theorem wq751 : Cond.code yL_taken cL_taken 10 (some .int) ∈ gw := gw_t4 (List.mem_of_getElem? (i := 69) rfl) rfl
theorem wq752 : Cond.methodLink RL 98 yL_raked ∈ gw := gw_t4 (List.mem_of_getElem? (i := 70) rfl) rfl
theorem wq753 : Cond.static yL_raked ∈ gw := gw_t4 (List.mem_of_getElem? (i := 71) rfl) rfl
theorem wq754 : Cond.code yL_raked cL_raked 10 (some .int) ∈ gw := gw_t4 (List.mem_of_getElem? (i := 72) rfl) rfl
theorem wq755 : Cond.methodLink RL 149 yL_swap ∈ gw := gw_t4 (List.mem_of_getElem? (i := 82) rfl) rfl
theorem wq756 : Cond.static yL_swap ∈ gw := gw_t4 (List.mem_of_getElem? (i := 83) rfl) rfl
theorem wq757 : Cond.codeWith yL_swap cL_swap 6 (some .int) [(0, 9, 12, 21), (0, 9, 17, 36), (0, 9, 22, 15)] ∈ gw := gw_t4 (List.mem_of_getElem? (i := 84) rfl) rfl
theorem wq758 : Cond.methodLink RL 54 yX7_swap ∈ gw := gw_t4 (List.mem_of_getElem? (i := 85) rfl) rfl
theorem wq759 : Cond.instanceMethod yX7_swap ∈ gw := gw_t4 (List.mem_of_getElem? (i := 86) rfl) rfl
theorem wq760 : Cond.selects RX7 yX7_swap yX7_swap ∈ gw := gw_t4 (List.mem_of_getElem? (i := 87) rfl) rfl
theorem wq761 : Cond.code yX7_swap cX7_swap 4 (some .int) ∈ gw := gw_t4 (List.mem_of_getElem? (i := 88) rfl) rfl
theorem wq762 : Cond.methodLink RX7 159 yX6_mayExchange ∈ gw := gw_t4 (List.mem_of_getElem? (i := 89) rfl) rfl
theorem wq763 : Cond.instanceMethod yX6_mayExchange ∈ gw := gw_t4 (List.mem_of_getElem? (i := 90) rfl) rfl
theorem wq764 : Cond.selects RX6 yX6_mayExchange yX6_mayExchange ∈ gw := gw_t4 (List.mem_of_getElem? (i := 91) rfl) rfl
theorem wq765 : Cond.code yX6_mayExchange cX6_mayExchange 3 (some .boolean) ∈ gw := gw_t4 (List.mem_of_getElem? (i := 92) rfl) rfl
theorem wq766 : Cond.methodLink RX6 176 yX6_mayTakeOff ∈ gw := gw_t4 (List.mem_of_getElem? (i := 93) rfl) rfl
theorem wq767 : Cond.methodLink RX7 164 yX6_exchange ∈ gw := gw_t4 (List.mem_of_getElem? (i := 95) rfl) rfl
theorem wq768 : Cond.instanceMethod yX6_exchange ∈ gw := gw_t4 (List.mem_of_getElem? (i := 96) rfl) rfl
theorem wq769 : Cond.selects RX6 yX6_exchange yX6_exchange ∈ gw := gw_t4 (List.mem_of_getElem? (i := 97) rfl) rfl
theorem wq770 : Cond.code yX6_exchange cX6_exchange 4 (some .int) ∈ gw := gw_t4 (List.mem_of_getElem? (i := 98) rfl) rfl
theorem wq771 : Cond.methodLink RX6 180 yX6_takeOff ∈ gw := gw_t4 (List.mem_of_getElem? (i := 99) rfl) rfl
theorem wq772 : Cond.methodLink RX6 183 yX2_sprout ∈ gw := gw_t4 (List.mem_of_getElem? (i := 100) rfl) rfl
theorem wq773 : Cond.methodLink RL 151 yL_rake ∈ gw := gw_t4 (List.mem_of_getElem? (i := 101) rfl) rfl
theorem wq774 : Cond.static yL_rake ∈ gw := gw_t4 (List.mem_of_getElem? (i := 102) rfl) rfl
theorem wq775 : Cond.codeWith yL_rake cL_rake 4 (some .int) [(0, 6, 9, 21), (0, 6, 13, 15)] ∈ gw := gw_t4 (List.mem_of_getElem? (i := 103) rfl) rfl
theorem wq776 : Cond.methodLink RL 57 yX7_rake ∈ gw := gw_t4 (List.mem_of_getElem? (i := 104) rfl) rfl
theorem wq777 : Cond.instanceMethod yX7_rake ∈ gw := gw_t4 (List.mem_of_getElem? (i := 105) rfl) rfl
theorem wq778 : Cond.selects RX7 yX7_rake yX7_rake ∈ gw := gw_t4 (List.mem_of_getElem? (i := 106) rfl) rfl
theorem wq779 : Cond.code yX7_rake cX7_rake 2 (some .int) ∈ gw := gw_t4 (List.mem_of_getElem? (i := 107) rfl) rfl
theorem wq780 : Cond.methodLink RX7 167 yX6_mayClear ∈ gw := gw_t4 (List.mem_of_getElem? (i := 108) rfl) rfl
theorem wq781 : Cond.instanceMethod yX6_mayClear ∈ gw := gw_t4 (List.mem_of_getElem? (i := 109) rfl) rfl
theorem wq782 : Cond.selects RX6 yX6_mayClear yX6_mayClear ∈ gw := gw_t4 (List.mem_of_getElem? (i := 110) rfl) rfl
theorem wq783 : Cond.code yX6_mayClear cX6_mayClear 2 (some .boolean) ∈ gw := gw_t4 (List.mem_of_getElem? (i := 111) rfl) rfl
theorem wq784 : Cond.methodLink RX7 172 yX6_clear ∈ gw := gw_t4 (List.mem_of_getElem? (i := 113) rfl) rfl
theorem gw_x0 : ∀ w ∈ (vx_atS RX7 47 "java/lang/IllegalStateException" ["java/lang/RuntimeException", "java/lang/Exception"]).filter goodWord, w ∈ gw := fun w h => List.mem_filter.mpr ⟨(by decide +kernel : ∀ w ∈ (vx_atS RX7 47 "java/lang/IllegalStateException" ["java/lang/RuntimeException", "java/lang/Exception"]).filter goodWord, w ∈ lw_tbl) w h, (List.mem_filter.mp h).2⟩
theorem gw_x1 : ∀ w ∈ (vx_atS RX7 347 "java/lang/IndexOutOfBoundsException" ["java/lang/RuntimeException", "java/lang/Exception"]).filter goodWord, w ∈ gw := fun w h => List.mem_filter.mpr ⟨(by decide +kernel : ∀ w ∈ (vx_atS RX7 347 "java/lang/IndexOutOfBoundsException" ["java/lang/RuntimeException", "java/lang/Exception"]).filter goodWord, w ∈ lw_tbl) w h, (List.mem_filter.mp h).2⟩
theorem gw_x2 : ∀ w ∈ (vx_atS RX7 185 "java/lang/IllegalArgumentException" ["java/lang/RuntimeException", "java/lang/Exception"]).filter goodWord, w ∈ gw := fun w h => List.mem_filter.mpr ⟨(by decide +kernel : ∀ w ∈ (vx_atS RX7 185 "java/lang/IllegalArgumentException" ["java/lang/RuntimeException", "java/lang/Exception"]).filter goodWord, w ∈ lw_tbl) w h, (List.mem_filter.mp h).2⟩
theorem fw0 : ∀ w ∈ u_ws RX0 TX0 7, w ∈ gw := fun w h => List.mem_filter.mpr ⟨(by decide +kernel : ∀ w ∈ u_ws RX0 TX0 7, w ∈ lw_tbl) w h, (by decide +kernel : ∀ w ∈ u_ws RX0 TX0 7, goodWord w = true) w h⟩
theorem fw1 : ∀ w ∈ u_ws RX1 TX1 3, w ∈ gw := fun w h => List.mem_filter.mpr ⟨(by decide +kernel : ∀ w ∈ u_ws RX1 TX1 3, w ∈ lw_tbl) w h, (by decide +kernel : ∀ w ∈ u_ws RX1 TX1 3, goodWord w = true) w h⟩
theorem fw2 : ∀ w ∈ u_ws RX2 TX2 7, w ∈ gw := fun w h => List.mem_filter.mpr ⟨(by decide +kernel : ∀ w ∈ u_ws RX2 TX2 7, w ∈ lw_tbl) w h, (by decide +kernel : ∀ w ∈ u_ws RX2 TX2 7, goodWord w = true) w h⟩
theorem fw3 : ∀ w ∈ u_ws RX3 TX3 2, w ∈ gw := fun w h => List.mem_filter.mpr ⟨(by decide +kernel : ∀ w ∈ u_ws RX3 TX3 2, w ∈ lw_tbl) w h, (by decide +kernel : ∀ w ∈ u_ws RX3 TX3 2, goodWord w = true) w h⟩
theorem fw4 : ∀ w ∈ u_ws RX4 TX4 1, w ∈ gw := fun w h => List.mem_filter.mpr ⟨(by decide +kernel : ∀ w ∈ u_ws RX4 TX4 1, w ∈ lw_tbl) w h, (by decide +kernel : ∀ w ∈ u_ws RX4 TX4 1, goodWord w = true) w h⟩
theorem fw5 : ∀ w ∈ u_ws RX5 TX5 3, w ∈ gw := fun w h => List.mem_filter.mpr ⟨(by decide +kernel : ∀ w ∈ u_ws RX5 TX5 3, w ∈ lw_tbl) w h, (by decide +kernel : ∀ w ∈ u_ws RX5 TX5 3, goodWord w = true) w h⟩
theorem fw6 : ∀ w ∈ u_ws RX6 TX6 11, w ∈ gw := fun w h => List.mem_filter.mpr ⟨(by decide +kernel : ∀ w ∈ u_ws RX6 TX6 11, w ∈ lw_tbl) w h, (by decide +kernel : ∀ w ∈ u_ws RX6 TX6 11, goodWord w = true) w h⟩
theorem fw7 : ∀ w ∈ u_ws RX7 TX7 5, w ∈ gw := fun w h => List.mem_filter.mpr ⟨(by decide +kernel : ∀ w ∈ u_ws RX7 TX7 5, w ∈ lw_tbl) w h, (by decide +kernel : ∀ w ∈ u_ws RX7 TX7 5, goodWord w = true) w h⟩
theorem fw8 : ∀ w ∈ u_ws RX8 TX8 0, w ∈ gw := fun w h => List.mem_filter.mpr ⟨(by decide +kernel : ∀ w ∈ u_ws RX8 TX8 0, w ∈ lw_tbl) w h, (by decide +kernel : ∀ w ∈ u_ws RX8 TX8 0, goodWord w = true) w h⟩
end
section
theorem dX0_init_0 : decode cX0_init 0 = .ok (.aload_n 0, 1) := by decide +kernel
theorem dX0_init_1 : decode cX0_init 1 = .ok (.invokespecial 3, 3) := by decide +kernel
theorem dX0_init_4 : decode cX0_init 4 = .ok (.aload_n 0, 1) := by decide +kernel
theorem dX0_init_5 : decode cX0_init 5 = .ok (.new 9, 3) := by decide +kernel
theorem dX0_init_8 : decode cX0_init 8 = .ok (.dup, 1) := by decide +kernel
theorem dX0_init_9 : decode cX0_init 9 = .ok (.iconst 5, 1) := by decide +kernel
theorem dX0_init_10 : decode cX0_init 10 = .ok (.invokespecial 11, 3) := by decide +kernel
theorem dX0_init_13 : decode cX0_init 13 = .ok (.putfield 14, 3) := by decide +kernel
theorem dX0_init_16 : decode cX0_init 16 = .ok (.aload_n 0, 1) := by decide +kernel
theorem dX0_init_17 : decode cX0_init 17 = .ok (.new 9, 3) := by decide +kernel
theorem dX0_init_20 : decode cX0_init 20 = .ok (.dup, 1) := by decide +kernel
theorem dX0_init_21 : decode cX0_init 21 = .ok (.iconst 5, 1) := by decide +kernel
theorem dX0_init_22 : decode cX0_init 22 = .ok (.invokespecial 11, 3) := by decide +kernel
theorem dX0_init_25 : decode cX0_init 25 = .ok (.putfield 20, 3) := by decide +kernel
theorem dX0_init_28 : decode cX0_init 28 = .ok (.aload_n 0, 1) := by decide +kernel
theorem dX0_init_29 : decode cX0_init 29 = .ok (.new 9, 3) := by decide +kernel
theorem dX0_init_32 : decode cX0_init 32 = .ok (.dup, 1) := by decide +kernel
theorem dX0_init_33 : decode cX0_init 33 = .ok (.iconst 5, 1) := by decide +kernel
theorem dX0_init_34 : decode cX0_init 34 = .ok (.invokespecial 11, 3) := by decide +kernel
theorem dX0_init_37 : decode cX0_init 37 = .ok (.putfield 23, 3) := by decide +kernel
theorem dX0_init_40 : decode cX0_init 40 = .ok (.aload_n 0, 1) := by decide +kernel
theorem dX0_init_41 : decode cX0_init 41 = .ok (.new 9, 3) := by decide +kernel
theorem dX0_init_44 : decode cX0_init 44 = .ok (.dup, 1) := by decide +kernel
theorem dX0_init_45 : decode cX0_init 45 = .ok (.iconst 5, 1) := by decide +kernel
theorem dX0_init_46 : decode cX0_init 46 = .ok (.invokespecial 11, 3) := by decide +kernel
theorem dX0_init_49 : decode cX0_init 49 = .ok (.putfield 26, 3) := by decide +kernel
theorem dX0_init_52 : decode cX0_init 52 = .ok (.aload_n 0, 1) := by decide +kernel
theorem dX0_init_53 : decode cX0_init 53 = .ok (.new 9, 3) := by decide +kernel
theorem dX0_init_56 : decode cX0_init 56 = .ok (.dup, 1) := by decide +kernel
theorem dX0_init_57 : decode cX0_init 57 = .ok (.iconst 5, 1) := by decide +kernel
theorem dX0_init_58 : decode cX0_init 58 = .ok (.invokespecial 11, 3) := by decide +kernel
theorem dX0_init_61 : decode cX0_init 61 = .ok (.putfield 29, 3) := by decide +kernel
theorem dX0_init_64 : decode cX0_init 64 = .ok (.aload_n 0, 1) := by decide +kernel
theorem dX0_init_65 : decode cX0_init 65 = .ok (.new 9, 3) := by decide +kernel
theorem dX0_init_68 : decode cX0_init 68 = .ok (.dup, 1) := by decide +kernel
theorem dX0_init_69 : decode cX0_init 69 = .ok (.iconst 5, 1) := by decide +kernel
theorem dX0_init_70 : decode cX0_init 70 = .ok (.invokespecial 11, 3) := by decide +kernel
theorem dX0_init_73 : decode cX0_init 73 = .ok (.putfield 32, 3) := by decide +kernel
theorem dX0_init_76 : decode cX0_init 76 = .ok (.aload_n 0, 1) := by decide +kernel
theorem dX0_init_77 : decode cX0_init 77 = .ok (.new 9, 3) := by decide +kernel
theorem dX0_init_80 : decode cX0_init 80 = .ok (.dup, 1) := by decide +kernel
theorem dX0_init_81 : decode cX0_init 81 = .ok (.sipush 600, 3) := by decide +kernel
theorem dX0_init_84 : decode cX0_init 84 = .ok (.invokespecial 11, 3) := by decide +kernel
theorem dX0_init_87 : decode cX0_init 87 = .ok (.putfield 35, 3) := by decide +kernel
theorem dX0_init_90 : decode cX0_init 90 = .ok (.aload_n 0, 1) := by decide +kernel
theorem dX0_init_91 : decode cX0_init 91 = .ok (.getfield 20, 3) := by decide +kernel
theorem dX0_init_94 : decode cX0_init 94 = .ok (.iconst (-1), 1) := by decide +kernel
theorem dX0_init_95 : decode cX0_init 95 = .ok (.invokevirtual 38, 3) := by decide +kernel
theorem dX0_init_98 : decode cX0_init 98 = .ok (.aload_n 0, 1) := by decide +kernel
theorem dX0_init_99 : decode cX0_init 99 = .ok (.getfield 14, 3) := by decide +kernel
theorem dX0_init_102 : decode cX0_init 102 = .ok (.iconst 0, 1) := by decide +kernel
theorem dX0_init_103 : decode cX0_init 103 = .ok (.iconst 1, 1) := by decide +kernel
theorem dX0_init_104 : decode cX0_init 104 = .ok (.invokevirtual 41, 3) := by decide +kernel
theorem dX0_init_107 : decode cX0_init 107 = .ok (.aload_n 0, 1) := by decide +kernel
theorem dX0_init_108 : decode cX0_init 108 = .ok (.getfield 14, 3) := by decide +kernel
theorem dX0_init_111 : decode cX0_init 111 = .ok (.iconst 1, 1) := by decide +kernel
theorem dX0_init_112 : decode cX0_init 112 = .ok (.iconst 1, 1) := by decide +kernel
theorem dX0_init_113 : decode cX0_init 113 = .ok (.invokevirtual 41, 3) := by decide +kernel
theorem dX0_init_116 : decode cX0_init 116 = .ok (.return_, 1) := by decide +kernel
theorem dX0_isHere_0 : decode cX0_isHere 0 = .ok (.aload_n 0, 1) := by decide +kernel
theorem dX0_isHere_1 : decode cX0_isHere 1 = .ok (.getfield 14, 3) := by decide +kernel
theorem dX0_isHere_4 : decode cX0_isHere 4 = .ok (.iload_n 1, 1) := by decide +kernel
theorem dX0_isHere_5 : decode cX0_isHere 5 = .ok (.invokevirtual 45, 3) := by decide +kernel
theorem dX0_isHere_8 : decode cX0_isHere 8 = .ok (.iconst 1, 1) := by decide +kernel
theorem dX0_isHere_9 : decode cX0_isHere 9 = .ok (.if_icmp .ne 7, 3) := by decide +kernel
theorem dX0_isHere_12 : decode cX0_isHere 12 = .ok (.iconst 1, 1) := by decide +kernel
theorem dX0_isHere_13 : decode cX0_isHere 13 = .ok (.goto 4, 3) := by decide +kernel
theorem dX0_isHere_16 : decode cX0_isHere 16 = .ok (.iconst 0, 1) := by decide +kernel
theorem dX0_isHere_17 : decode cX0_isHere 17 = .ok (.ireturn, 1) := by decide +kernel
theorem dX0_isInYard_0 : decode cX0_isInYard 0 = .ok (.aload_n 0, 1) := by decide +kernel
theorem dX0_isInYard_1 : decode cX0_isInYard 1 = .ok (.getfield 20, 3) := by decide +kernel
theorem dX0_isInYard_4 : decode cX0_isInYard 4 = .ok (.iload_n 1, 1) := by decide +kernel
theorem dX0_isInYard_5 : decode cX0_isInYard 5 = .ok (.invokevirtual 45, 3) := by decide +kernel
theorem dX0_isInYard_8 : decode cX0_isInYard 8 = .ok (.iconst (-1), 1) := by decide +kernel
theorem dX0_isInYard_9 : decode cX0_isInYard 9 = .ok (.if_icmp .eq 7, 3) := by decide +kernel
theorem dX0_isInYard_12 : decode cX0_isInYard 12 = .ok (.iconst 1, 1) := by decide +kernel
theorem dX0_isInYard_13 : decode cX0_isInYard 13 = .ok (.goto 4, 3) := by decide +kernel
theorem dX0_isInYard_16 : decode cX0_isInYard 16 = .ok (.iconst 0, 1) := by decide +kernel
theorem dX0_isInYard_17 : decode cX0_isInYard 17 = .ok (.ireturn, 1) := by decide +kernel
theorem dX0_number_0 : decode cX0_number 0 = .ok (.aload_n 0, 1) := by decide +kernel
theorem dX0_number_1 : decode cX0_number 1 = .ok (.getfield 14, 3) := by decide +kernel
theorem dX0_number_4 : decode cX0_number 4 = .ok (.iconst 1, 1) := by decide +kernel
theorem dX0_number_5 : decode cX0_number 5 = .ok (.iconst 0, 1) := by decide +kernel
theorem dX0_number_6 : decode cX0_number 6 = .ok (.iconst 5, 1) := by decide +kernel
theorem dX0_number_7 : decode cX0_number 7 = .ok (.invokevirtual 49, 3) := by decide +kernel
theorem dX0_number_10 : decode cX0_number 10 = .ok (.ireturn, 1) := by decide +kernel
theorem dX0_numberInYard_0 : decode cX0_numberInYard 0 = .ok (.iconst 5, 1) := by decide +kernel
theorem dX0_numberInYard_1 : decode cX0_numberInYard 1 = .ok (.aload_n 0, 1) := by decide +kernel
theorem dX0_numberInYard_2 : decode cX0_numberInYard 2 = .ok (.getfield 20, 3) := by decide +kernel
theorem dX0_numberInYard_5 : decode cX0_numberInYard 5 = .ok (.iconst (-1), 1) := by decide +kernel
theorem dX0_numberInYard_6 : decode cX0_numberInYard 6 = .ok (.iconst 0, 1) := by decide +kernel
theorem dX0_numberInYard_7 : decode cX0_numberInYard 7 = .ok (.iconst 5, 1) := by decide +kernel
theorem dX0_numberInYard_8 : decode cX0_numberInYard 8 = .ok (.invokevirtual 49, 3) := by decide +kernel
theorem dX0_numberInYard_11 : decode cX0_numberInYard 11 = .ok (.isub, 1) := by decide +kernel
theorem dX0_numberInYard_12 : decode cX0_numberInYard 12 = .ok (.ireturn, 1) := by decide +kernel
theorem dX0_mask_0 : decode cX0_mask 0 = .ok (.iconst 0, 1) := by decide +kernel
theorem dX0_mask_1 : decode cX0_mask 1 = .ok (.istore_n 1, 1) := by decide +kernel
theorem dX0_mask_2 : decode cX0_mask 2 = .ok (.iconst 0, 1) := by decide +kernel
theorem dX0_mask_3 : decode cX0_mask 3 = .ok (.istore_n 2, 1) := by decide +kernel
theorem dX0_mask_4 : decode cX0_mask 4 = .ok (.iload_n 2, 1) := by decide +kernel
theorem dX0_mask_5 : decode cX0_mask 5 = .ok (.iconst 5, 1) := by decide +kernel
theorem dX0_mask_6 : decode cX0_mask 6 = .ok (.if_icmp .ge 27, 3) := by decide +kernel
theorem dX0_mask_9 : decode cX0_mask 9 = .ok (.iload_n 1, 1) := by decide +kernel
theorem dX0_mask_10 : decode cX0_mask 10 = .ok (.aload_n 0, 1) := by decide +kernel
theorem dX0_mask_11 : decode cX0_mask 11 = .ok (.iload_n 2, 1) := by decide +kernel
theorem dX0_mask_12 : decode cX0_mask 12 = .ok (.invokevirtual 53, 3) := by decide +kernel
theorem dX0_mask_15 : decode cX0_mask 15 = .ok (.ifCond .eq 9, 3) := by decide +kernel
theorem dX0_mask_18 : decode cX0_mask 18 = .ok (.iconst 1, 1) := by decide +kernel
theorem dX0_mask_19 : decode cX0_mask 19 = .ok (.iload_n 2, 1) := by decide +kernel
theorem dX0_mask_20 : decode cX0_mask 20 = .ok (.ishl, 1) := by decide +kernel
theorem dX0_mask_21 : decode cX0_mask 21 = .ok (.goto 4, 3) := by decide +kernel
theorem dX0_mask_24 : decode cX0_mask 24 = .ok (.iconst 0, 1) := by decide +kernel
theorem dX0_mask_25 : decode cX0_mask 25 = .ok (.ior, 1) := by decide +kernel
theorem dX0_mask_26 : decode cX0_mask 26 = .ok (.istore_n 1, 1) := by decide +kernel
theorem dX0_mask_27 : decode cX0_mask 27 = .ok (.iinc 2 1, 3) := by decide +kernel
theorem dX0_mask_30 : decode cX0_mask 30 = .ok (.goto (-26), 3) := by decide +kernel
theorem dX0_mask_33 : decode cX0_mask 33 = .ok (.iload_n 1, 1) := by decide +kernel
theorem dX0_mask_34 : decode cX0_mask 34 = .ok (.ireturn, 1) := by decide +kernel
theorem dX0_maskOfLate_0 : decode cX0_maskOfLate 0 = .ok (.iconst 0, 1) := by decide +kernel
theorem dX0_maskOfLate_1 : decode cX0_maskOfLate 1 = .ok (.istore_n 2, 1) := by decide +kernel
theorem dX0_maskOfLate_2 : decode cX0_maskOfLate 2 = .ok (.iconst 0, 1) := by decide +kernel
theorem dX0_maskOfLate_3 : decode cX0_maskOfLate 3 = .ok (.istore_n 3, 1) := by decide +kernel
theorem dX0_maskOfLate_4 : decode cX0_maskOfLate 4 = .ok (.iload_n 3, 1) := by decide +kernel
theorem dX0_maskOfLate_5 : decode cX0_maskOfLate 5 = .ok (.iconst 5, 1) := by decide +kernel
theorem dX0_maskOfLate_6 : decode cX0_maskOfLate 6 = .ok (.if_icmp .ge 39, 3) := by decide +kernel
theorem dX0_maskOfLate_9 : decode cX0_maskOfLate 9 = .ok (.iload_n 2, 1) := by decide +kernel
theorem dX0_maskOfLate_10 : decode cX0_maskOfLate 10 = .ok (.aload_n 0, 1) := by decide +kernel
theorem dX0_maskOfLate_11 : decode cX0_maskOfLate 11 = .ok (.iload_n 3, 1) := by decide +kernel
theorem dX0_maskOfLate_12 : decode cX0_maskOfLate 12 = .ok (.invokevirtual 57, 3) := by decide +kernel
theorem dX0_maskOfLate_15 : decode cX0_maskOfLate 15 = .ok (.ifCond .eq 21, 3) := by decide +kernel
theorem dX0_maskOfLate_18 : decode cX0_maskOfLate 18 = .ok (.aload_n 0, 1) := by decide +kernel
theorem dX0_maskOfLate_19 : decode cX0_maskOfLate 19 = .ok (.getfield 20, 3) := by decide +kernel
theorem dX0_maskOfLate_22 : decode cX0_maskOfLate 22 = .ok (.iload_n 3, 1) := by decide +kernel
theorem dX0_maskOfLate_23 : decode cX0_maskOfLate 23 = .ok (.invokevirtual 45, 3) := by decide +kernel
theorem dX0_maskOfLate_26 : decode cX0_maskOfLate 26 = .ok (.iload_n 1, 1) := by decide +kernel
theorem dX0_maskOfLate_27 : decode cX0_maskOfLate 27 = .ok (.if_icmp .eq 9, 3) := by decide +kernel
theorem dX0_maskOfLate_30 : decode cX0_maskOfLate 30 = .ok (.iconst 1, 1) := by decide +kernel
theorem dX0_maskOfLate_31 : decode cX0_maskOfLate 31 = .ok (.iload_n 3, 1) := by decide +kernel
theorem dX0_maskOfLate_32 : decode cX0_maskOfLate 32 = .ok (.ishl, 1) := by decide +kernel
theorem dX0_maskOfLate_33 : decode cX0_maskOfLate 33 = .ok (.goto 4, 3) := by decide +kernel
theorem dX0_maskOfLate_36 : decode cX0_maskOfLate 36 = .ok (.iconst 0, 1) := by decide +kernel
theorem dX0_maskOfLate_37 : decode cX0_maskOfLate 37 = .ok (.ior, 1) := by decide +kernel
theorem dX0_maskOfLate_38 : decode cX0_maskOfLate 38 = .ok (.istore_n 2, 1) := by decide +kernel
theorem dX0_maskOfLate_39 : decode cX0_maskOfLate 39 = .ok (.iinc 3 1, 3) := by decide +kernel
theorem dX0_maskOfLate_42 : decode cX0_maskOfLate 42 = .ok (.goto (-38), 3) := by decide +kernel
theorem dX0_maskOfLate_45 : decode cX0_maskOfLate 45 = .ok (.iload_n 2, 1) := by decide +kernel
theorem dX0_maskOfLate_46 : decode cX0_maskOfLate 46 = .ok (.ireturn, 1) := by decide +kernel
theorem dX0_lowestFree_0 : decode cX0_lowestFree 0 = .ok (.iconst 0, 1) := by decide +kernel
theorem dX0_lowestFree_1 : decode cX0_lowestFree 1 = .ok (.istore_n 1, 1) := by decide +kernel
theorem dX0_lowestFree_2 : decode cX0_lowestFree 2 = .ok (.iload_n 1, 1) := by decide +kernel
theorem dX0_lowestFree_3 : decode cX0_lowestFree 3 = .ok (.iconst 5, 1) := by decide +kernel
theorem dX0_lowestFree_4 : decode cX0_lowestFree 4 = .ok (.if_icmp .ge 19, 3) := by decide +kernel
theorem dX0_lowestFree_7 : decode cX0_lowestFree 7 = .ok (.aload_n 0, 1) := by decide +kernel
theorem dX0_lowestFree_8 : decode cX0_lowestFree 8 = .ok (.iload_n 1, 1) := by decide +kernel
theorem dX0_lowestFree_9 : decode cX0_lowestFree 9 = .ok (.invokevirtual 53, 3) := by decide +kernel
theorem dX0_lowestFree_12 : decode cX0_lowestFree 12 = .ok (.ifCond .ne 5, 3) := by decide +kernel
theorem dX0_lowestFree_15 : decode cX0_lowestFree 15 = .ok (.iload_n 1, 1) := by decide +kernel
theorem dX0_lowestFree_16 : decode cX0_lowestFree 16 = .ok (.ireturn, 1) := by decide +kernel
theorem dX0_lowestFree_17 : decode cX0_lowestFree 17 = .ok (.iinc 1 1, 3) := by decide +kernel
theorem dX0_lowestFree_20 : decode cX0_lowestFree 20 = .ok (.goto (-18), 3) := by decide +kernel
theorem dX0_lowestFree_23 : decode cX0_lowestFree 23 = .ok (.iconst (-1), 1) := by decide +kernel
theorem dX0_lowestFree_24 : decode cX0_lowestFree 24 = .ok (.ireturn, 1) := by decide +kernel
theorem dX0_lowestBesides_0 : decode cX0_lowestBesides 0 = .ok (.iconst 0, 1) := by decide +kernel
theorem dX0_lowestBesides_1 : decode cX0_lowestBesides 1 = .ok (.istore_n 2, 1) := by decide +kernel
theorem dX0_lowestBesides_2 : decode cX0_lowestBesides 2 = .ok (.iload_n 2, 1) := by decide +kernel
theorem dX0_lowestBesides_3 : decode cX0_lowestBesides 3 = .ok (.iconst 5, 1) := by decide +kernel
theorem dX0_lowestBesides_4 : decode cX0_lowestBesides 4 = .ok (.if_icmp .ge 24, 3) := by decide +kernel
theorem dX0_lowestBesides_7 : decode cX0_lowestBesides 7 = .ok (.iload_n 2, 1) := by decide +kernel
theorem dX0_lowestBesides_8 : decode cX0_lowestBesides 8 = .ok (.iload_n 1, 1) := by decide +kernel
theorem dX0_lowestBesides_9 : decode cX0_lowestBesides 9 = .ok (.if_icmp .eq 13, 3) := by decide +kernel
theorem dX0_lowestBesides_12 : decode cX0_lowestBesides 12 = .ok (.aload_n 0, 1) := by decide +kernel
theorem dX0_lowestBesides_13 : decode cX0_lowestBesides 13 = .ok (.iload_n 2, 1) := by decide +kernel
theorem dX0_lowestBesides_14 : decode cX0_lowestBesides 14 = .ok (.invokevirtual 53, 3) := by decide +kernel
theorem dX0_lowestBesides_17 : decode cX0_lowestBesides 17 = .ok (.ifCond .eq 5, 3) := by decide +kernel
theorem dX0_lowestBesides_20 : decode cX0_lowestBesides 20 = .ok (.iload_n 2, 1) := by decide +kernel
theorem dX0_lowestBesides_21 : decode cX0_lowestBesides 21 = .ok (.ireturn, 1) := by decide +kernel
theorem dX0_lowestBesides_22 : decode cX0_lowestBesides 22 = .ok (.iinc 2 1, 3) := by decide +kernel
theorem dX0_lowestBesides_25 : decode cX0_lowestBesides 25 = .ok (.goto (-23), 3) := by decide +kernel
theorem dX0_lowestBesides_28 : decode cX0_lowestBesides 28 = .ok (.iconst (-1), 1) := by decide +kernel
theorem dX0_lowestBesides_29 : decode cX0_lowestBesides 29 = .ok (.ireturn, 1) := by decide +kernel
theorem dX0_fillPlace_0 : decode cX0_fillPlace 0 = .ok (.aload_n 0, 1) := by decide +kernel
theorem dX0_fillPlace_1 : decode cX0_fillPlace 1 = .ok (.getfield 14, 3) := by decide +kernel
theorem dX0_fillPlace_4 : decode cX0_fillPlace 4 = .ok (.iload_n 1, 1) := by decide +kernel
theorem dX0_fillPlace_5 : decode cX0_fillPlace 5 = .ok (.iconst 1, 1) := by decide +kernel
theorem dX0_fillPlace_6 : decode cX0_fillPlace 6 = .ok (.invokevirtual 41, 3) := by decide +kernel
theorem dX0_fillPlace_9 : decode cX0_fillPlace 9 = .ok (.aload_n 0, 1) := by decide +kernel
theorem dX0_fillPlace_10 : decode cX0_fillPlace 10 = .ok (.getfield 23, 3) := by decide +kernel
theorem dX0_fillPlace_13 : decode cX0_fillPlace 13 = .ok (.iload_n 1, 1) := by decide +kernel
theorem dX0_fillPlace_14 : decode cX0_fillPlace 14 = .ok (.iconst 0, 1) := by decide +kernel
theorem dX0_fillPlace_15 : decode cX0_fillPlace 15 = .ok (.invokevirtual 41, 3) := by decide +kernel
theorem dX0_fillPlace_18 : decode cX0_fillPlace 18 = .ok (.aload_n 0, 1) := by decide +kernel
theorem dX0_fillPlace_19 : decode cX0_fillPlace 19 = .ok (.getfield 26, 3) := by decide +kernel
theorem dX0_fillPlace_22 : decode cX0_fillPlace 22 = .ok (.iload_n 1, 1) := by decide +kernel
theorem dX0_fillPlace_23 : decode cX0_fillPlace 23 = .ok (.iconst 0, 1) := by decide +kernel
theorem dX0_fillPlace_24 : decode cX0_fillPlace 24 = .ok (.invokevirtual 41, 3) := by decide +kernel
theorem dX0_fillPlace_27 : decode cX0_fillPlace 27 = .ok (.aload_n 0, 1) := by decide +kernel
theorem dX0_fillPlace_28 : decode cX0_fillPlace 28 = .ok (.getfield 29, 3) := by decide +kernel
theorem dX0_fillPlace_31 : decode cX0_fillPlace 31 = .ok (.iload_n 1, 1) := by decide +kernel
theorem dX0_fillPlace_32 : decode cX0_fillPlace 32 = .ok (.iconst 0, 1) := by decide +kernel
theorem dX0_fillPlace_33 : decode cX0_fillPlace 33 = .ok (.invokevirtual 41, 3) := by decide +kernel
theorem dX0_fillPlace_36 : decode cX0_fillPlace 36 = .ok (.return_, 1) := by decide +kernel
theorem dX0_emptyPlace_0 : decode cX0_emptyPlace 0 = .ok (.aload_n 0, 1) := by decide +kernel
theorem dX0_emptyPlace_1 : decode cX0_emptyPlace 1 = .ok (.getfield 14, 3) := by decide +kernel
theorem dX0_emptyPlace_4 : decode cX0_emptyPlace 4 = .ok (.iload_n 1, 1) := by decide +kernel
theorem dX0_emptyPlace_5 : decode cX0_emptyPlace 5 = .ok (.iconst 0, 1) := by decide +kernel
theorem dX0_emptyPlace_6 : decode cX0_emptyPlace 6 = .ok (.invokevirtual 41, 3) := by decide +kernel
theorem dX0_emptyPlace_9 : decode cX0_emptyPlace 9 = .ok (.aload_n 0, 1) := by decide +kernel
theorem dX0_emptyPlace_10 : decode cX0_emptyPlace 10 = .ok (.getfield 20, 3) := by decide +kernel
theorem dX0_emptyPlace_13 : decode cX0_emptyPlace 13 = .ok (.iload_n 1, 1) := by decide +kernel
theorem dX0_emptyPlace_14 : decode cX0_emptyPlace 14 = .ok (.iconst (-1), 1) := by decide +kernel
theorem dX0_emptyPlace_15 : decode cX0_emptyPlace 15 = .ok (.invokevirtual 41, 3) := by decide +kernel
theorem dX0_emptyPlace_18 : decode cX0_emptyPlace 18 = .ok (.aload_n 0, 1) := by decide +kernel
theorem dX0_emptyPlace_19 : decode cX0_emptyPlace 19 = .ok (.getfield 32, 3) := by decide +kernel
theorem dX0_emptyPlace_22 : decode cX0_emptyPlace 22 = .ok (.iload_n 1, 1) := by decide +kernel
theorem dX0_emptyPlace_23 : decode cX0_emptyPlace 23 = .ok (.iconst 0, 1) := by decide +kernel
theorem dX0_emptyPlace_24 : decode cX0_emptyPlace 24 = .ok (.invokevirtual 41, 3) := by decide +kernel
theorem dX0_emptyPlace_27 : decode cX0_emptyPlace 27 = .ok (.return_, 1) := by decide +kernel
theorem dX0_leafOnHeap_0 : decode cX0_leafOnHeap 0 = .ok (.iload_n 2, 1) := by decide +kernel
theorem dX0_leafOnHeap_1 : decode cX0_leafOnHeap 1 = .ok (.ifCond .lt 19, 3) := by decide +kernel
theorem dX0_leafOnHeap_4 : decode cX0_leafOnHeap 4 = .ok (.iload_n 2, 1) := by decide +kernel
theorem dX0_leafOnHeap_5 : decode cX0_leafOnHeap 5 = .ok (.aload_n 0, 1) := by decide +kernel
theorem dX0_leafOnHeap_6 : decode cX0_leafOnHeap 6 = .ok (.getfield 32, 3) := by decide +kernel
theorem dX0_leafOnHeap_9 : decode cX0_leafOnHeap 9 = .ok (.iload_n 1, 1) := by decide +kernel
theorem dX0_leafOnHeap_10 : decode cX0_leafOnHeap 10 = .ok (.invokevirtual 45, 3) := by decide +kernel
theorem dX0_leafOnHeap_13 : decode cX0_leafOnHeap 13 = .ok (.if_icmp .ge 7, 3) := by decide +kernel
theorem dX0_leafOnHeap_16 : decode cX0_leafOnHeap 16 = .ok (.iconst 1, 1) := by decide +kernel
theorem dX0_leafOnHeap_17 : decode cX0_leafOnHeap 17 = .ok (.goto 4, 3) := by decide +kernel
theorem dX0_leafOnHeap_20 : decode cX0_leafOnHeap 20 = .ok (.iconst 0, 1) := by decide +kernel
theorem dX0_leafOnHeap_21 : decode cX0_leafOnHeap 21 = .ok (.istore_n 3, 1) := by decide +kernel
theorem dX0_leafOnHeap_22 : decode cX0_leafOnHeap 22 = .ok (.iload_n 3, 1) := by decide +kernel
theorem dX0_leafOnHeap_23 : decode cX0_leafOnHeap 23 = .ok (.ifCond .eq 19, 3) := by decide +kernel
theorem dX0_leafOnHeap_26 : decode cX0_leafOnHeap 26 = .ok (.aload_n 0, 1) := by decide +kernel
theorem dX0_leafOnHeap_27 : decode cX0_leafOnHeap 27 = .ok (.getfield 35, 3) := by decide +kernel
theorem dX0_leafOnHeap_30 : decode cX0_leafOnHeap 30 = .ok (.iload_n 1, 1) := by decide +kernel
theorem dX0_leafOnHeap_31 : decode cX0_leafOnHeap 31 = .ok (.bipush 120, 2) := by decide +kernel
theorem dX0_leafOnHeap_33 : decode cX0_leafOnHeap 33 = .ok (.imul, 1) := by decide +kernel
theorem dX0_leafOnHeap_34 : decode cX0_leafOnHeap 34 = .ok (.iload_n 2, 1) := by decide +kernel
theorem dX0_leafOnHeap_35 : decode cX0_leafOnHeap 35 = .ok (.iadd, 1) := by decide +kernel
theorem dX0_leafOnHeap_36 : decode cX0_leafOnHeap 36 = .ok (.invokevirtual 45, 3) := by decide +kernel
theorem dX0_leafOnHeap_39 : decode cX0_leafOnHeap 39 = .ok (.goto 4, 3) := by decide +kernel
theorem dX0_leafOnHeap_42 : decode cX0_leafOnHeap 42 = .ok (.iconst (-1), 1) := by decide +kernel
theorem dX0_leafOnHeap_43 : decode cX0_leafOnHeap 43 = .ok (.ireturn, 1) := by decide +kernel
theorem dX0_putOnHeap_0 : decode cX0_putOnHeap 0 = .ok (.aload_n 0, 1) := by decide +kernel
theorem dX0_putOnHeap_1 : decode cX0_putOnHeap 1 = .ok (.getfield 35, 3) := by decide +kernel
theorem dX0_putOnHeap_4 : decode cX0_putOnHeap 4 = .ok (.iload_n 1, 1) := by decide +kernel
theorem dX0_putOnHeap_5 : decode cX0_putOnHeap 5 = .ok (.bipush 120, 2) := by decide +kernel
theorem dX0_putOnHeap_7 : decode cX0_putOnHeap 7 = .ok (.imul, 1) := by decide +kernel
theorem dX0_putOnHeap_8 : decode cX0_putOnHeap 8 = .ok (.aload_n 0, 1) := by decide +kernel
theorem dX0_putOnHeap_9 : decode cX0_putOnHeap 9 = .ok (.getfield 32, 3) := by decide +kernel
theorem dX0_putOnHeap_12 : decode cX0_putOnHeap 12 = .ok (.iload_n 1, 1) := by decide +kernel
theorem dX0_putOnHeap_13 : decode cX0_putOnHeap 13 = .ok (.invokevirtual 45, 3) := by decide +kernel
theorem dX0_putOnHeap_16 : decode cX0_putOnHeap 16 = .ok (.iadd, 1) := by decide +kernel
theorem dX0_putOnHeap_17 : decode cX0_putOnHeap 17 = .ok (.iload_n 2, 1) := by decide +kernel
theorem dX0_putOnHeap_18 : decode cX0_putOnHeap 18 = .ok (.invokevirtual 41, 3) := by decide +kernel
theorem dX0_putOnHeap_21 : decode cX0_putOnHeap 21 = .ok (.aload_n 0, 1) := by decide +kernel
theorem dX0_putOnHeap_22 : decode cX0_putOnHeap 22 = .ok (.getfield 32, 3) := by decide +kernel
theorem dX0_putOnHeap_25 : decode cX0_putOnHeap 25 = .ok (.iload_n 1, 1) := by decide +kernel
theorem dX0_putOnHeap_26 : decode cX0_putOnHeap 26 = .ok (.iconst 1, 1) := by decide +kernel
theorem dX0_putOnHeap_27 : decode cX0_putOnHeap 27 = .ok (.invokevirtual 60, 3) := by decide +kernel
theorem dX0_putOnHeap_30 : decode cX0_putOnHeap 30 = .ok (.return_, 1) := by decide +kernel
theorem dX0_copyFrom_0 : decode cX0_copyFrom 0 = .ok (.aload_n 0, 1) := by decide +kernel
theorem dX0_copyFrom_1 : decode cX0_copyFrom 1 = .ok (.getfield 14, 3) := by decide +kernel
theorem dX0_copyFrom_4 : decode cX0_copyFrom 4 = .ok (.aload_n 1, 1) := by decide +kernel
theorem dX0_copyFrom_5 : decode cX0_copyFrom 5 = .ok (.getfield 14, 3) := by decide +kernel
theorem dX0_copyFrom_8 : decode cX0_copyFrom 8 = .ok (.invokevirtual 63, 3) := by decide +kernel
theorem dX0_copyFrom_11 : decode cX0_copyFrom 11 = .ok (.aload_n 0, 1) := by decide +kernel
theorem dX0_copyFrom_12 : decode cX0_copyFrom 12 = .ok (.getfield 20, 3) := by decide +kernel
theorem dX0_copyFrom_15 : decode cX0_copyFrom 15 = .ok (.aload_n 1, 1) := by decide +kernel
theorem dX0_copyFrom_16 : decode cX0_copyFrom 16 = .ok (.getfield 20, 3) := by decide +kernel
theorem dX0_copyFrom_19 : decode cX0_copyFrom 19 = .ok (.invokevirtual 63, 3) := by decide +kernel
theorem dX0_copyFrom_22 : decode cX0_copyFrom 22 = .ok (.aload_n 0, 1) := by decide +kernel
theorem dX0_copyFrom_23 : decode cX0_copyFrom 23 = .ok (.getfield 23, 3) := by decide +kernel
theorem dX0_copyFrom_26 : decode cX0_copyFrom 26 = .ok (.aload_n 1, 1) := by decide +kernel
theorem dX0_copyFrom_27 : decode cX0_copyFrom 27 = .ok (.getfield 23, 3) := by decide +kernel
theorem dX0_copyFrom_30 : decode cX0_copyFrom 30 = .ok (.invokevirtual 63, 3) := by decide +kernel
theorem dX0_copyFrom_33 : decode cX0_copyFrom 33 = .ok (.aload_n 0, 1) := by decide +kernel
theorem dX0_copyFrom_34 : decode cX0_copyFrom 34 = .ok (.getfield 26, 3) := by decide +kernel
theorem dX0_copyFrom_37 : decode cX0_copyFrom 37 = .ok (.aload_n 1, 1) := by decide +kernel
theorem dX0_copyFrom_38 : decode cX0_copyFrom 38 = .ok (.getfield 26, 3) := by decide +kernel
theorem dX0_copyFrom_41 : decode cX0_copyFrom 41 = .ok (.invokevirtual 63, 3) := by decide +kernel
theorem dX0_copyFrom_44 : decode cX0_copyFrom 44 = .ok (.aload_n 0, 1) := by decide +kernel
theorem dX0_copyFrom_45 : decode cX0_copyFrom 45 = .ok (.getfield 29, 3) := by decide +kernel
theorem dX0_copyFrom_48 : decode cX0_copyFrom 48 = .ok (.aload_n 1, 1) := by decide +kernel
theorem dX0_copyFrom_49 : decode cX0_copyFrom 49 = .ok (.getfield 29, 3) := by decide +kernel
theorem dX0_copyFrom_52 : decode cX0_copyFrom 52 = .ok (.invokevirtual 63, 3) := by decide +kernel
theorem dX0_copyFrom_55 : decode cX0_copyFrom 55 = .ok (.aload_n 0, 1) := by decide +kernel
theorem dX0_copyFrom_56 : decode cX0_copyFrom 56 = .ok (.getfield 32, 3) := by decide +kernel
theorem dX0_copyFrom_59 : decode cX0_copyFrom 59 = .ok (.aload_n 1, 1) := by decide +kernel
theorem dX0_copyFrom_60 : decode cX0_copyFrom 60 = .ok (.getfield 32, 3) := by decide +kernel
theorem dX0_copyFrom_63 : decode cX0_copyFrom 63 = .ok (.invokevirtual 63, 3) := by decide +kernel
theorem dX0_copyFrom_66 : decode cX0_copyFrom 66 = .ok (.aload_n 0, 1) := by decide +kernel
theorem dX0_copyFrom_67 : decode cX0_copyFrom 67 = .ok (.getfield 35, 3) := by decide +kernel
theorem dX0_copyFrom_70 : decode cX0_copyFrom 70 = .ok (.aload_n 1, 1) := by decide +kernel
theorem dX0_copyFrom_71 : decode cX0_copyFrom 71 = .ok (.getfield 35, 3) := by decide +kernel
theorem dX0_copyFrom_74 : decode cX0_copyFrom 74 = .ok (.invokevirtual 63, 3) := by decide +kernel
theorem dX0_copyFrom_77 : decode cX0_copyFrom 77 = .ok (.return_, 1) := by decide +kernel
theorem dX1_init_0 : decode cX1_init 0 = .ok (.aload_n 0, 1) := by decide +kernel
theorem dX1_init_1 : decode cX1_init 1 = .ok (.invokespecial 3, 3) := by decide +kernel
theorem dX1_init_4 : decode cX1_init 4 = .ok (.aload_n 0, 1) := by decide +kernel
theorem dX1_init_5 : decode cX1_init 5 = .ok (.new 9, 3) := by decide +kernel
theorem dX1_init_8 : decode cX1_init 8 = .ok (.dup, 1) := by decide +kernel
theorem dX1_init_9 : decode cX1_init 9 = .ok (.bipush 15, 2) := by decide +kernel
theorem dX1_init_11 : decode cX1_init 11 = .ok (.invokespecial 13, 3) := by decide +kernel
theorem dX1_init_14 : decode cX1_init 14 = .ok (.putfield 16, 3) := by decide +kernel
theorem dX1_init_17 : decode cX1_init 17 = .ok (.aload_n 0, 1) := by decide +kernel
theorem dX1_init_18 : decode cX1_init 18 = .ok (.new 9, 3) := by decide +kernel
theorem dX1_init_21 : decode cX1_init 21 = .ok (.dup, 1) := by decide +kernel
theorem dX1_init_22 : decode cX1_init 22 = .ok (.bipush 15, 2) := by decide +kernel
theorem dX1_init_24 : decode cX1_init 24 = .ok (.invokespecial 13, 3) := by decide +kernel
theorem dX1_init_27 : decode cX1_init 27 = .ok (.putfield 20, 3) := by decide +kernel
theorem dX1_init_30 : decode cX1_init 30 = .ok (.aload_n 0, 1) := by decide +kernel
theorem dX1_init_31 : decode cX1_init 31 = .ok (.new 9, 3) := by decide +kernel
theorem dX1_init_34 : decode cX1_init 34 = .ok (.dup, 1) := by decide +kernel
theorem dX1_init_35 : decode cX1_init 35 = .ok (.bipush 15, 2) := by decide +kernel
theorem dX1_init_37 : decode cX1_init 37 = .ok (.invokespecial 13, 3) := by decide +kernel
theorem dX1_init_40 : decode cX1_init 40 = .ok (.putfield 23, 3) := by decide +kernel
theorem dX1_init_43 : decode cX1_init 43 = .ok (.aload_n 0, 1) := by decide +kernel
theorem dX1_init_44 : decode cX1_init 44 = .ok (.getfield 16, 3) := by decide +kernel
theorem dX1_init_47 : decode cX1_init 47 = .ok (.iconst (-1), 1) := by decide +kernel
theorem dX1_init_48 : decode cX1_init 48 = .ok (.invokevirtual 26, 3) := by decide +kernel
theorem dX1_init_51 : decode cX1_init 51 = .ok (.aload_n 0, 1) := by decide +kernel
theorem dX1_init_52 : decode cX1_init 52 = .ok (.getfield 20, 3) := by decide +kernel
theorem dX1_init_55 : decode cX1_init 55 = .ok (.iconst (-1), 1) := by decide +kernel
theorem dX1_init_56 : decode cX1_init 56 = .ok (.invokevirtual 26, 3) := by decide +kernel
theorem dX1_init_59 : decode cX1_init 59 = .ok (.aload_n 0, 1) := by decide +kernel
theorem dX1_init_60 : decode cX1_init 60 = .ok (.getfield 23, 3) := by decide +kernel
theorem dX1_init_63 : decode cX1_init 63 = .ok (.iconst (-1), 1) := by decide +kernel
theorem dX1_init_64 : decode cX1_init 64 = .ok (.invokevirtual 26, 3) := by decide +kernel
theorem dX1_init_67 : decode cX1_init 67 = .ok (.return_, 1) := by decide +kernel
theorem dX1_firstOf_0 : decode cX1_firstOf 0 = .ok (.iload_n 0, 1) := by decide +kernel
theorem dX1_firstOf_1 : decode cX1_firstOf 1 = .ok (.iconst 3, 1) := by decide +kernel
theorem dX1_firstOf_2 : decode cX1_firstOf 2 = .ok (.imul, 1) := by decide +kernel
theorem dX1_firstOf_3 : decode cX1_firstOf 3 = .ok (.ireturn, 1) := by decide +kernel
theorem dX1_kindOf_0 : decode cX1_kindOf 0 = .ok (.iload_n 1, 1) := by decide +kernel
theorem dX1_kindOf_1 : decode cX1_kindOf 1 = .ok (.invokestatic 29, 3) := by decide +kernel
theorem dX1_kindOf_4 : decode cX1_kindOf 4 = .ok (.iload_n 2, 1) := by decide +kernel
theorem dX1_kindOf_5 : decode cX1_kindOf 5 = .ok (.iadd, 1) := by decide +kernel
theorem dX1_kindOf_6 : decode cX1_kindOf 6 = .ok (.istore_n 3, 1) := by decide +kernel
theorem dX1_kindOf_7 : decode cX1_kindOf 7 = .ok (.aload_n 0, 1) := by decide +kernel
theorem dX1_kindOf_8 : decode cX1_kindOf 8 = .ok (.getfield 16, 3) := by decide +kernel
theorem dX1_kindOf_11 : decode cX1_kindOf 11 = .ok (.iload_n 3, 1) := by decide +kernel
theorem dX1_kindOf_12 : decode cX1_kindOf 12 = .ok (.invokevirtual 33, 3) := by decide +kernel
theorem dX1_kindOf_15 : decode cX1_kindOf 15 = .ok (.iconst (-1), 1) := by decide +kernel
theorem dX1_kindOf_16 : decode cX1_kindOf 16 = .ok (.if_icmp .eq 5, 3) := by decide +kernel
theorem dX1_kindOf_19 : decode cX1_kindOf 19 = .ok (.iconst 2, 1) := by decide +kernel
theorem dX1_kindOf_20 : decode cX1_kindOf 20 = .ok (.ireturn, 1) := by decide +kernel
theorem dX1_kindOf_21 : decode cX1_kindOf 21 = .ok (.aload_n 0, 1) := by decide +kernel
theorem dX1_kindOf_22 : decode cX1_kindOf 22 = .ok (.getfield 20, 3) := by decide +kernel
theorem dX1_kindOf_25 : decode cX1_kindOf 25 = .ok (.iload_n 3, 1) := by decide +kernel
theorem dX1_kindOf_26 : decode cX1_kindOf 26 = .ok (.invokevirtual 33, 3) := by decide +kernel
theorem dX1_kindOf_29 : decode cX1_kindOf 29 = .ok (.iconst (-1), 1) := by decide +kernel
theorem dX1_kindOf_30 : decode cX1_kindOf 30 = .ok (.if_icmp .eq 7, 3) := by decide +kernel
theorem dX1_kindOf_33 : decode cX1_kindOf 33 = .ok (.iconst 1, 1) := by decide +kernel
theorem dX1_kindOf_34 : decode cX1_kindOf 34 = .ok (.goto 4, 3) := by decide +kernel
theorem dX1_kindOf_37 : decode cX1_kindOf 37 = .ok (.iconst 0, 1) := by decide +kernel
theorem dX1_kindOf_38 : decode cX1_kindOf 38 = .ok (.ireturn, 1) := by decide +kernel
theorem dX1_leafOf_0 : decode cX1_leafOf 0 = .ok (.iload_n 1, 1) := by decide +kernel
theorem dX1_leafOf_1 : decode cX1_leafOf 1 = .ok (.invokestatic 29, 3) := by decide +kernel
theorem dX1_leafOf_4 : decode cX1_leafOf 4 = .ok (.iload_n 2, 1) := by decide +kernel
theorem dX1_leafOf_5 : decode cX1_leafOf 5 = .ok (.iadd, 1) := by decide +kernel
theorem dX1_leafOf_6 : decode cX1_leafOf 6 = .ok (.istore_n 3, 1) := by decide +kernel
theorem dX1_leafOf_7 : decode cX1_leafOf 7 = .ok (.aload_n 0, 1) := by decide +kernel
theorem dX1_leafOf_8 : decode cX1_leafOf 8 = .ok (.getfield 16, 3) := by decide +kernel
theorem dX1_leafOf_11 : decode cX1_leafOf 11 = .ok (.iload_n 3, 1) := by decide +kernel
theorem dX1_leafOf_12 : decode cX1_leafOf 12 = .ok (.invokevirtual 33, 3) := by decide +kernel
theorem dX1_leafOf_15 : decode cX1_leafOf 15 = .ok (.iconst (-1), 1) := by decide +kernel
theorem dX1_leafOf_16 : decode cX1_leafOf 16 = .ok (.if_icmp .eq 14, 3) := by decide +kernel
theorem dX1_leafOf_19 : decode cX1_leafOf 19 = .ok (.aload_n 0, 1) := by decide +kernel
theorem dX1_leafOf_20 : decode cX1_leafOf 20 = .ok (.getfield 16, 3) := by decide +kernel
theorem dX1_leafOf_23 : decode cX1_leafOf 23 = .ok (.iload_n 3, 1) := by decide +kernel
theorem dX1_leafOf_24 : decode cX1_leafOf 24 = .ok (.invokevirtual 33, 3) := by decide +kernel
theorem dX1_leafOf_27 : decode cX1_leafOf 27 = .ok (.goto 11, 3) := by decide +kernel
theorem dX1_leafOf_30 : decode cX1_leafOf 30 = .ok (.aload_n 0, 1) := by decide +kernel
theorem dX1_leafOf_31 : decode cX1_leafOf 31 = .ok (.getfield 20, 3) := by decide +kernel
theorem dX1_leafOf_34 : decode cX1_leafOf 34 = .ok (.iload_n 3, 1) := by decide +kernel
theorem dX1_leafOf_35 : decode cX1_leafOf 35 = .ok (.invokevirtual 33, 3) := by decide +kernel
theorem dX1_leafOf_38 : decode cX1_leafOf 38 = .ok (.ireturn, 1) := by decide +kernel
theorem dX1_branchOf_0 : decode cX1_branchOf 0 = .ok (.aload_n 0, 1) := by decide +kernel
theorem dX1_branchOf_1 : decode cX1_branchOf 1 = .ok (.getfield 23, 3) := by decide +kernel
theorem dX1_branchOf_4 : decode cX1_branchOf 4 = .ok (.iload_n 1, 1) := by decide +kernel
theorem dX1_branchOf_5 : decode cX1_branchOf 5 = .ok (.invokestatic 29, 3) := by decide +kernel
theorem dX1_branchOf_8 : decode cX1_branchOf 8 = .ok (.iload_n 2, 1) := by decide +kernel
theorem dX1_branchOf_9 : decode cX1_branchOf 9 = .ok (.iadd, 1) := by decide +kernel
theorem dX1_branchOf_10 : decode cX1_branchOf 10 = .ok (.invokevirtual 33, 3) := by decide +kernel
theorem dX1_branchOf_13 : decode cX1_branchOf 13 = .ok (.ireturn, 1) := by decide +kernel
theorem dX1_write_0 : decode cX1_write 0 = .ok (.iload_n 1, 1) := by decide +kernel
theorem dX1_write_1 : decode cX1_write 1 = .ok (.invokestatic 29, 3) := by decide +kernel
theorem dX1_write_4 : decode cX1_write 4 = .ok (.iload_n 2, 1) := by decide +kernel
theorem dX1_write_5 : decode cX1_write 5 = .ok (.iadd, 1) := by decide +kernel
theorem dX1_write_6 : decode cX1_write 6 = .ok (.istore 5, 2) := by decide +kernel
theorem dX1_write_8 : decode cX1_write 8 = .ok (.aload_n 0, 1) := by decide +kernel
theorem dX1_write_9 : decode cX1_write 9 = .ok (.getfield 20, 3) := by decide +kernel
theorem dX1_write_12 : decode cX1_write 12 = .ok (.iload 5, 2) := by decide +kernel
theorem dX1_write_14 : decode cX1_write 14 = .ok (.iload_n 3, 1) := by decide +kernel
theorem dX1_write_15 : decode cX1_write 15 = .ok (.invokevirtual 36, 3) := by decide +kernel
theorem dX1_write_18 : decode cX1_write 18 = .ok (.aload_n 0, 1) := by decide +kernel
theorem dX1_write_19 : decode cX1_write 19 = .ok (.getfield 23, 3) := by decide +kernel
theorem dX1_write_22 : decode cX1_write 22 = .ok (.iload 5, 2) := by decide +kernel
theorem dX1_write_24 : decode cX1_write 24 = .ok (.iload 4, 2) := by decide +kernel
theorem dX1_write_26 : decode cX1_write 26 = .ok (.invokevirtual 36, 3) := by decide +kernel
theorem dX1_write_29 : decode cX1_write 29 = .ok (.return_, 1) := by decide +kernel
theorem dX1_fasten_0 : decode cX1_fasten 0 = .ok (.iload_n 1, 1) := by decide +kernel
theorem dX1_fasten_1 : decode cX1_fasten 1 = .ok (.invokestatic 29, 3) := by decide +kernel
theorem dX1_fasten_4 : decode cX1_fasten 4 = .ok (.iload_n 2, 1) := by decide +kernel
theorem dX1_fasten_5 : decode cX1_fasten 5 = .ok (.iadd, 1) := by decide +kernel
theorem dX1_fasten_6 : decode cX1_fasten 6 = .ok (.istore_n 3, 1) := by decide +kernel
theorem dX1_fasten_7 : decode cX1_fasten 7 = .ok (.aload_n 0, 1) := by decide +kernel
theorem dX1_fasten_8 : decode cX1_fasten 8 = .ok (.getfield 16, 3) := by decide +kernel
theorem dX1_fasten_11 : decode cX1_fasten 11 = .ok (.iload_n 3, 1) := by decide +kernel
theorem dX1_fasten_12 : decode cX1_fasten 12 = .ok (.aload_n 0, 1) := by decide +kernel
theorem dX1_fasten_13 : decode cX1_fasten 13 = .ok (.getfield 20, 3) := by decide +kernel
theorem dX1_fasten_16 : decode cX1_fasten 16 = .ok (.iload_n 3, 1) := by decide +kernel
theorem dX1_fasten_17 : decode cX1_fasten 17 = .ok (.invokevirtual 33, 3) := by decide +kernel
theorem dX1_fasten_20 : decode cX1_fasten 20 = .ok (.invokevirtual 36, 3) := by decide +kernel
theorem dX1_fasten_23 : decode cX1_fasten 23 = .ok (.aload_n 0, 1) := by decide +kernel
theorem dX1_fasten_24 : decode cX1_fasten 24 = .ok (.getfield 20, 3) := by decide +kernel
theorem dX1_fasten_27 : decode cX1_fasten 27 = .ok (.iload_n 3, 1) := by decide +kernel
theorem dX1_fasten_28 : decode cX1_fasten 28 = .ok (.iconst (-1), 1) := by decide +kernel
theorem dX1_fasten_29 : decode cX1_fasten 29 = .ok (.invokevirtual 36, 3) := by decide +kernel
theorem dX1_fasten_32 : decode cX1_fasten 32 = .ok (.aload_n 0, 1) := by decide +kernel
theorem dX1_fasten_33 : decode cX1_fasten 33 = .ok (.getfield 23, 3) := by decide +kernel
theorem dX1_fasten_36 : decode cX1_fasten 36 = .ok (.iload_n 3, 1) := by decide +kernel
theorem dX1_fasten_37 : decode cX1_fasten 37 = .ok (.iconst (-1), 1) := by decide +kernel
theorem dX1_fasten_38 : decode cX1_fasten 38 = .ok (.invokevirtual 36, 3) := by decide +kernel
theorem dX1_fasten_41 : decode cX1_fasten 41 = .ok (.return_, 1) := by decide +kernel
theorem dX1_release_0 : decode cX1_release 0 = .ok (.iload_n 1, 1) := by decide +kernel
theorem dX1_release_1 : decode cX1_release 1 = .ok (.invokestatic 29, 3) := by decide +kernel
theorem dX1_release_4 : decode cX1_release 4 = .ok (.iload_n 2, 1) := by decide +kernel
theorem dX1_release_5 : decode cX1_release 5 = .ok (.iadd, 1) := by decide +kernel
theorem dX1_release_6 : decode cX1_release 6 = .ok (.istore_n 3, 1) := by decide +kernel
theorem dX1_release_7 : decode cX1_release 7 = .ok (.aload_n 0, 1) := by decide +kernel
theorem dX1_release_8 : decode cX1_release 8 = .ok (.getfield 16, 3) := by decide +kernel
theorem dX1_release_11 : decode cX1_release 11 = .ok (.iload_n 3, 1) := by decide +kernel
theorem dX1_release_12 : decode cX1_release 12 = .ok (.iconst (-1), 1) := by decide +kernel
theorem dX1_release_13 : decode cX1_release 13 = .ok (.invokevirtual 36, 3) := by decide +kernel
theorem dX1_release_16 : decode cX1_release 16 = .ok (.aload_n 0, 1) := by decide +kernel
theorem dX1_release_17 : decode cX1_release 17 = .ok (.getfield 20, 3) := by decide +kernel
theorem dX1_release_20 : decode cX1_release 20 = .ok (.iload_n 3, 1) := by decide +kernel
theorem dX1_release_21 : decode cX1_release 21 = .ok (.iconst (-1), 1) := by decide +kernel
theorem dX1_release_22 : decode cX1_release 22 = .ok (.invokevirtual 36, 3) := by decide +kernel
theorem dX1_release_25 : decode cX1_release 25 = .ok (.aload_n 0, 1) := by decide +kernel
theorem dX1_release_26 : decode cX1_release 26 = .ok (.getfield 23, 3) := by decide +kernel
theorem dX1_release_29 : decode cX1_release 29 = .ok (.iload_n 3, 1) := by decide +kernel
theorem dX1_release_30 : decode cX1_release 30 = .ok (.iconst (-1), 1) := by decide +kernel
theorem dX1_release_31 : decode cX1_release 31 = .ok (.invokevirtual 36, 3) := by decide +kernel
theorem dX1_release_34 : decode cX1_release 34 = .ok (.return_, 1) := by decide +kernel
theorem dX1_releaseAll_0 : decode cX1_releaseAll 0 = .ok (.iconst 0, 1) := by decide +kernel
theorem dX1_releaseAll_1 : decode cX1_releaseAll 1 = .ok (.istore_n 2, 1) := by decide +kernel
theorem dX1_releaseAll_2 : decode cX1_releaseAll 2 = .ok (.iload_n 2, 1) := by decide +kernel
theorem dX1_releaseAll_3 : decode cX1_releaseAll 3 = .ok (.iconst 3, 1) := by decide +kernel
theorem dX1_releaseAll_4 : decode cX1_releaseAll 4 = .ok (.if_icmp .ge 15, 3) := by decide +kernel
theorem dX1_releaseAll_7 : decode cX1_releaseAll 7 = .ok (.aload_n 0, 1) := by decide +kernel
theorem dX1_releaseAll_8 : decode cX1_releaseAll 8 = .ok (.iload_n 1, 1) := by decide +kernel
theorem dX1_releaseAll_9 : decode cX1_releaseAll 9 = .ok (.iload_n 2, 1) := by decide +kernel
theorem dX1_releaseAll_10 : decode cX1_releaseAll 10 = .ok (.invokevirtual 40, 3) := by decide +kernel
theorem dX1_releaseAll_13 : decode cX1_releaseAll 13 = .ok (.iinc 2 1, 3) := by decide +kernel
theorem dX1_releaseAll_16 : decode cX1_releaseAll 16 = .ok (.goto (-14), 3) := by decide +kernel
theorem dX1_releaseAll_19 : decode cX1_releaseAll 19 = .ok (.return_, 1) := by decide +kernel
theorem dX1_pins_0 : decode cX1_pins 0 = .ok (.bipush 15, 2) := by decide +kernel
theorem dX1_pins_2 : decode cX1_pins 2 = .ok (.aload_n 0, 1) := by decide +kernel
theorem dX1_pins_3 : decode cX1_pins 3 = .ok (.getfield 16, 3) := by decide +kernel
theorem dX1_pins_6 : decode cX1_pins 6 = .ok (.iconst (-1), 1) := by decide +kernel
theorem dX1_pins_7 : decode cX1_pins 7 = .ok (.iconst 0, 1) := by decide +kernel
theorem dX1_pins_8 : decode cX1_pins 8 = .ok (.bipush 15, 2) := by decide +kernel
theorem dX1_pins_10 : decode cX1_pins 10 = .ok (.invokevirtual 43, 3) := by decide +kernel
theorem dX1_pins_13 : decode cX1_pins 13 = .ok (.isub, 1) := by decide +kernel
theorem dX1_pins_14 : decode cX1_pins 14 = .ok (.ireturn, 1) := by decide +kernel
theorem dX1_notes_0 : decode cX1_notes 0 = .ok (.bipush 15, 2) := by decide +kernel
theorem dX1_notes_2 : decode cX1_notes 2 = .ok (.aload_n 0, 1) := by decide +kernel
theorem dX1_notes_3 : decode cX1_notes 3 = .ok (.getfield 20, 3) := by decide +kernel
theorem dX1_notes_6 : decode cX1_notes 6 = .ok (.iconst (-1), 1) := by decide +kernel
theorem dX1_notes_7 : decode cX1_notes 7 = .ok (.iconst 0, 1) := by decide +kernel
theorem dX1_notes_8 : decode cX1_notes 8 = .ok (.bipush 15, 2) := by decide +kernel
theorem dX1_notes_10 : decode cX1_notes 10 = .ok (.invokevirtual 43, 3) := by decide +kernel
theorem dX1_notes_13 : decode cX1_notes 13 = .ok (.isub, 1) := by decide +kernel
theorem dX1_notes_14 : decode cX1_notes 14 = .ok (.ireturn, 1) := by decide +kernel
theorem dX1_pinsOfChild_0 : decode cX1_pinsOfChild 0 = .ok (.iconst 3, 1) := by decide +kernel
theorem dX1_pinsOfChild_1 : decode cX1_pinsOfChild 1 = .ok (.aload_n 0, 1) := by decide +kernel
theorem dX1_pinsOfChild_2 : decode cX1_pinsOfChild 2 = .ok (.getfield 16, 3) := by decide +kernel
theorem dX1_pinsOfChild_5 : decode cX1_pinsOfChild 5 = .ok (.iconst (-1), 1) := by decide +kernel
theorem dX1_pinsOfChild_6 : decode cX1_pinsOfChild 6 = .ok (.iload_n 1, 1) := by decide +kernel
theorem dX1_pinsOfChild_7 : decode cX1_pinsOfChild 7 = .ok (.invokestatic 29, 3) := by decide +kernel
theorem dX1_pinsOfChild_10 : decode cX1_pinsOfChild 10 = .ok (.iload_n 1, 1) := by decide +kernel
theorem dX1_pinsOfChild_11 : decode cX1_pinsOfChild 11 = .ok (.invokestatic 29, 3) := by decide +kernel
theorem dX1_pinsOfChild_14 : decode cX1_pinsOfChild 14 = .ok (.iconst 3, 1) := by decide +kernel
theorem dX1_pinsOfChild_15 : decode cX1_pinsOfChild 15 = .ok (.iadd, 1) := by decide +kernel
theorem dX1_pinsOfChild_16 : decode cX1_pinsOfChild 16 = .ok (.invokevirtual 43, 3) := by decide +kernel
theorem dX1_pinsOfChild_19 : decode cX1_pinsOfChild 19 = .ok (.isub, 1) := by decide +kernel
theorem dX1_pinsOfChild_20 : decode cX1_pinsOfChild 20 = .ok (.ireturn, 1) := by decide +kernel
theorem dX1_notesOfChild_0 : decode cX1_notesOfChild 0 = .ok (.iconst 3, 1) := by decide +kernel
theorem dX1_notesOfChild_1 : decode cX1_notesOfChild 1 = .ok (.aload_n 0, 1) := by decide +kernel
theorem dX1_notesOfChild_2 : decode cX1_notesOfChild 2 = .ok (.getfield 20, 3) := by decide +kernel
theorem dX1_notesOfChild_5 : decode cX1_notesOfChild 5 = .ok (.iconst (-1), 1) := by decide +kernel
theorem dX1_notesOfChild_6 : decode cX1_notesOfChild 6 = .ok (.iload_n 1, 1) := by decide +kernel
theorem dX1_notesOfChild_7 : decode cX1_notesOfChild 7 = .ok (.invokestatic 29, 3) := by decide +kernel
theorem dX1_notesOfChild_10 : decode cX1_notesOfChild 10 = .ok (.iload_n 1, 1) := by decide +kernel
theorem dX1_notesOfChild_11 : decode cX1_notesOfChild 11 = .ok (.invokestatic 29, 3) := by decide +kernel
theorem dX1_notesOfChild_14 : decode cX1_notesOfChild 14 = .ok (.iconst 3, 1) := by decide +kernel
theorem dX1_notesOfChild_15 : decode cX1_notesOfChild 15 = .ok (.iadd, 1) := by decide +kernel
theorem dX1_notesOfChild_16 : decode cX1_notesOfChild 16 = .ok (.invokevirtual 43, 3) := by decide +kernel
theorem dX1_notesOfChild_19 : decode cX1_notesOfChild 19 = .ok (.isub, 1) := by decide +kernel
theorem dX1_notesOfChild_20 : decode cX1_notesOfChild 20 = .ok (.ireturn, 1) := by decide +kernel
theorem dX1_pinsOn_0 : decode cX1_pinsOn 0 = .ok (.aload_n 0, 1) := by decide +kernel
theorem dX1_pinsOn_1 : decode cX1_pinsOn 1 = .ok (.getfield 16, 3) := by decide +kernel
theorem dX1_pinsOn_4 : decode cX1_pinsOn 4 = .ok (.iload_n 1, 1) := by decide +kernel
theorem dX1_pinsOn_5 : decode cX1_pinsOn 5 = .ok (.iconst 0, 1) := by decide +kernel
theorem dX1_pinsOn_6 : decode cX1_pinsOn 6 = .ok (.bipush 15, 2) := by decide +kernel
theorem dX1_pinsOn_8 : decode cX1_pinsOn 8 = .ok (.invokevirtual 43, 3) := by decide +kernel
theorem dX1_pinsOn_11 : decode cX1_pinsOn 11 = .ok (.ireturn, 1) := by decide +kernel
theorem dX1_notesOn_0 : decode cX1_notesOn 0 = .ok (.aload_n 0, 1) := by decide +kernel
theorem dX1_notesOn_1 : decode cX1_notesOn 1 = .ok (.getfield 20, 3) := by decide +kernel
theorem dX1_notesOn_4 : decode cX1_notesOn 4 = .ok (.iload_n 1, 1) := by decide +kernel
theorem dX1_notesOn_5 : decode cX1_notesOn 5 = .ok (.iconst 0, 1) := by decide +kernel
theorem dX1_notesOn_6 : decode cX1_notesOn 6 = .ok (.bipush 15, 2) := by decide +kernel
theorem dX1_notesOn_8 : decode cX1_notesOn 8 = .ok (.invokevirtual 43, 3) := by decide +kernel
theorem dX1_notesOn_11 : decode cX1_notesOn 11 = .ok (.ireturn, 1) := by decide +kernel
theorem dX1_pinsOnBy_0 : decode cX1_pinsOnBy 0 = .ok (.aload_n 0, 1) := by decide +kernel
theorem dX1_pinsOnBy_1 : decode cX1_pinsOnBy 1 = .ok (.getfield 16, 3) := by decide +kernel
theorem dX1_pinsOnBy_4 : decode cX1_pinsOnBy 4 = .ok (.iload_n 2, 1) := by decide +kernel
theorem dX1_pinsOnBy_5 : decode cX1_pinsOnBy 5 = .ok (.iload_n 1, 1) := by decide +kernel
theorem dX1_pinsOnBy_6 : decode cX1_pinsOnBy 6 = .ok (.invokestatic 29, 3) := by decide +kernel
theorem dX1_pinsOnBy_9 : decode cX1_pinsOnBy 9 = .ok (.iload_n 1, 1) := by decide +kernel
theorem dX1_pinsOnBy_10 : decode cX1_pinsOnBy 10 = .ok (.invokestatic 29, 3) := by decide +kernel
theorem dX1_pinsOnBy_13 : decode cX1_pinsOnBy 13 = .ok (.iconst 3, 1) := by decide +kernel
theorem dX1_pinsOnBy_14 : decode cX1_pinsOnBy 14 = .ok (.iadd, 1) := by decide +kernel
theorem dX1_pinsOnBy_15 : decode cX1_pinsOnBy 15 = .ok (.invokevirtual 43, 3) := by decide +kernel
theorem dX1_pinsOnBy_18 : decode cX1_pinsOnBy 18 = .ok (.ireturn, 1) := by decide +kernel
theorem dX1_maskOfHolders_0 : decode cX1_maskOfHolders 0 = .ok (.iconst 0, 1) := by decide +kernel
theorem dX1_maskOfHolders_1 : decode cX1_maskOfHolders 1 = .ok (.istore_n 2, 1) := by decide +kernel
theorem dX1_maskOfHolders_2 : decode cX1_maskOfHolders 2 = .ok (.iconst 0, 1) := by decide +kernel
theorem dX1_maskOfHolders_3 : decode cX1_maskOfHolders 3 = .ok (.istore_n 3, 1) := by decide +kernel
theorem dX1_maskOfHolders_4 : decode cX1_maskOfHolders 4 = .ok (.iload_n 3, 1) := by decide +kernel
theorem dX1_maskOfHolders_5 : decode cX1_maskOfHolders 5 = .ok (.iconst 5, 1) := by decide +kernel
theorem dX1_maskOfHolders_6 : decode cX1_maskOfHolders 6 = .ok (.if_icmp .ge 28, 3) := by decide +kernel
theorem dX1_maskOfHolders_9 : decode cX1_maskOfHolders 9 = .ok (.iload_n 2, 1) := by decide +kernel
theorem dX1_maskOfHolders_10 : decode cX1_maskOfHolders 10 = .ok (.aload_n 0, 1) := by decide +kernel
theorem dX1_maskOfHolders_11 : decode cX1_maskOfHolders 11 = .ok (.iload_n 3, 1) := by decide +kernel
theorem dX1_maskOfHolders_12 : decode cX1_maskOfHolders 12 = .ok (.iload_n 1, 1) := by decide +kernel
theorem dX1_maskOfHolders_13 : decode cX1_maskOfHolders 13 = .ok (.invokevirtual 47, 3) := by decide +kernel
theorem dX1_maskOfHolders_16 : decode cX1_maskOfHolders 16 = .ok (.ifCond .le 9, 3) := by decide +kernel
theorem dX1_maskOfHolders_19 : decode cX1_maskOfHolders 19 = .ok (.iconst 1, 1) := by decide +kernel
theorem dX1_maskOfHolders_20 : decode cX1_maskOfHolders 20 = .ok (.iload_n 3, 1) := by decide +kernel
theorem dX1_maskOfHolders_21 : decode cX1_maskOfHolders 21 = .ok (.ishl, 1) := by decide +kernel
theorem dX1_maskOfHolders_22 : decode cX1_maskOfHolders 22 = .ok (.goto 4, 3) := by decide +kernel
theorem dX1_maskOfHolders_25 : decode cX1_maskOfHolders 25 = .ok (.iconst 0, 1) := by decide +kernel
theorem dX1_maskOfHolders_26 : decode cX1_maskOfHolders 26 = .ok (.ior, 1) := by decide +kernel
theorem dX1_maskOfHolders_27 : decode cX1_maskOfHolders 27 = .ok (.istore_n 2, 1) := by decide +kernel
theorem dX1_maskOfHolders_28 : decode cX1_maskOfHolders 28 = .ok (.iinc 3 1, 3) := by decide +kernel
theorem dX1_maskOfHolders_31 : decode cX1_maskOfHolders 31 = .ok (.goto (-27), 3) := by decide +kernel
theorem dX1_maskOfHolders_34 : decode cX1_maskOfHolders 34 = .ok (.iload_n 2, 1) := by decide +kernel
theorem dX1_maskOfHolders_35 : decode cX1_maskOfHolders 35 = .ok (.ireturn, 1) := by decide +kernel
theorem dX1_numberOfHook_0 : decode cX1_numberOfHook 0 = .ok (.iload_n 3, 1) := by decide +kernel
theorem dX1_numberOfHook_1 : decode cX1_numberOfHook 1 = .ok (.lookupswitch 41 #[(0, 27), (1, 34)], 27) := by decide +kernel
theorem dX1_numberOfHook_28 : decode cX1_numberOfHook 28 = .ok (.aload_n 0, 1) := by decide +kernel
theorem dX1_numberOfHook_29 : decode cX1_numberOfHook 29 = .ok (.iload_n 1, 1) := by decide +kernel
theorem dX1_numberOfHook_30 : decode cX1_numberOfHook 30 = .ok (.iload_n 2, 1) := by decide +kernel
theorem dX1_numberOfHook_31 : decode cX1_numberOfHook 31 = .ok (.invokevirtual 51, 3) := by decide +kernel
theorem dX1_numberOfHook_34 : decode cX1_numberOfHook 34 = .ok (.ireturn, 1) := by decide +kernel
theorem dX1_numberOfHook_35 : decode cX1_numberOfHook 35 = .ok (.aload_n 0, 1) := by decide +kernel
theorem dX1_numberOfHook_36 : decode cX1_numberOfHook 36 = .ok (.iload_n 1, 1) := by decide +kernel
theorem dX1_numberOfHook_37 : decode cX1_numberOfHook 37 = .ok (.iload_n 2, 1) := by decide +kernel
theorem dX1_numberOfHook_38 : decode cX1_numberOfHook 38 = .ok (.invokevirtual 54, 3) := by decide +kernel
theorem dX1_numberOfHook_41 : decode cX1_numberOfHook 41 = .ok (.ireturn, 1) := by decide +kernel
theorem dX1_numberOfHook_42 : decode cX1_numberOfHook 42 = .ok (.aload_n 0, 1) := by decide +kernel
theorem dX1_numberOfHook_43 : decode cX1_numberOfHook 43 = .ok (.iload_n 1, 1) := by decide +kernel
theorem dX1_numberOfHook_44 : decode cX1_numberOfHook 44 = .ok (.iload_n 2, 1) := by decide +kernel
theorem dX1_numberOfHook_45 : decode cX1_numberOfHook 45 = .ok (.invokevirtual 57, 3) := by decide +kernel
theorem dX1_numberOfHook_48 : decode cX1_numberOfHook 48 = .ok (.ireturn, 1) := by decide +kernel
theorem dX1_copyFrom_0 : decode cX1_copyFrom 0 = .ok (.aload_n 0, 1) := by decide +kernel
theorem dX1_copyFrom_1 : decode cX1_copyFrom 1 = .ok (.getfield 16, 3) := by decide +kernel
theorem dX1_copyFrom_4 : decode cX1_copyFrom 4 = .ok (.aload_n 1, 1) := by decide +kernel
theorem dX1_copyFrom_5 : decode cX1_copyFrom 5 = .ok (.getfield 16, 3) := by decide +kernel
theorem dX1_copyFrom_8 : decode cX1_copyFrom 8 = .ok (.invokevirtual 60, 3) := by decide +kernel
theorem dX1_copyFrom_11 : decode cX1_copyFrom 11 = .ok (.aload_n 0, 1) := by decide +kernel
theorem dX1_copyFrom_12 : decode cX1_copyFrom 12 = .ok (.getfield 20, 3) := by decide +kernel
theorem dX1_copyFrom_15 : decode cX1_copyFrom 15 = .ok (.aload_n 1, 1) := by decide +kernel
theorem dX1_copyFrom_16 : decode cX1_copyFrom 16 = .ok (.getfield 20, 3) := by decide +kernel
theorem dX1_copyFrom_19 : decode cX1_copyFrom 19 = .ok (.invokevirtual 60, 3) := by decide +kernel
theorem dX1_copyFrom_22 : decode cX1_copyFrom 22 = .ok (.aload_n 0, 1) := by decide +kernel
theorem dX1_copyFrom_23 : decode cX1_copyFrom 23 = .ok (.getfield 23, 3) := by decide +kernel
theorem dX1_copyFrom_26 : decode cX1_copyFrom 26 = .ok (.aload_n 1, 1) := by decide +kernel
theorem dX1_copyFrom_27 : decode cX1_copyFrom 27 = .ok (.getfield 23, 3) := by decide +kernel
theorem dX1_copyFrom_30 : decode cX1_copyFrom 30 = .ok (.invokevirtual 60, 3) := by decide +kernel
theorem dX1_copyFrom_33 : decode cX1_copyFrom 33 = .ok (.return_, 1) := by decide +kernel
theorem dX2_init_0 : decode cX2_init 0 = .ok (.aload_n 0, 1) := by decide +kernel
theorem dX2_init_1 : decode cX2_init 1 = .ok (.invokespecial 3, 3) := by decide +kernel
theorem dX2_init_4 : decode cX2_init 4 = .ok (.aload_n 0, 1) := by decide +kernel
theorem dX2_init_5 : decode cX2_init 5 = .ok (.new 9, 3) := by decide +kernel
theorem dX2_init_8 : decode cX2_init 8 = .ok (.dup, 1) := by decide +kernel
theorem dX2_init_9 : decode cX2_init 9 = .ok (.bipush 12, 2) := by decide +kernel
theorem dX2_init_11 : decode cX2_init 11 = .ok (.invokespecial 11, 3) := by decide +kernel
theorem dX2_init_14 : decode cX2_init 14 = .ok (.putfield 14, 3) := by decide +kernel
theorem dX2_init_17 : decode cX2_init 17 = .ok (.aload_n 0, 1) := by decide +kernel
theorem dX2_init_18 : decode cX2_init 18 = .ok (.new 9, 3) := by decide +kernel
theorem dX2_init_21 : decode cX2_init 21 = .ok (.dup, 1) := by decide +kernel
theorem dX2_init_22 : decode cX2_init 22 = .ok (.bipush 120, 2) := by decide +kernel
theorem dX2_init_24 : decode cX2_init 24 = .ok (.invokespecial 11, 3) := by decide +kernel
theorem dX2_init_27 : decode cX2_init 27 = .ok (.putfield 20, 3) := by decide +kernel
theorem dX2_init_30 : decode cX2_init 30 = .ok (.aload_n 0, 1) := by decide +kernel
theorem dX2_init_31 : decode cX2_init 31 = .ok (.new 9, 3) := by decide +kernel
theorem dX2_init_34 : decode cX2_init 34 = .ok (.dup, 1) := by decide +kernel
theorem dX2_init_35 : decode cX2_init 35 = .ok (.bipush 120, 2) := by decide +kernel
theorem dX2_init_37 : decode cX2_init 37 = .ok (.invokespecial 11, 3) := by decide +kernel
theorem dX2_init_40 : decode cX2_init 40 = .ok (.putfield 23, 3) := by decide +kernel
theorem dX2_init_43 : decode cX2_init 43 = .ok (.aload_n 0, 1) := by decide +kernel
theorem dX2_init_44 : decode cX2_init 44 = .ok (.new 9, 3) := by decide +kernel
theorem dX2_init_47 : decode cX2_init 47 = .ok (.dup, 1) := by decide +kernel
theorem dX2_init_48 : decode cX2_init 48 = .ok (.bipush 120, 2) := by decide +kernel
theorem dX2_init_50 : decode cX2_init 50 = .ok (.invokespecial 11, 3) := by decide +kernel
theorem dX2_init_53 : decode cX2_init 53 = .ok (.putfield 26, 3) := by decide +kernel
theorem dX2_init_56 : decode cX2_init 56 = .ok (.aload_n 0, 1) := by decide +kernel
theorem dX2_init_57 : decode cX2_init 57 = .ok (.new 9, 3) := by decide +kernel
theorem dX2_init_60 : decode cX2_init 60 = .ok (.dup, 1) := by decide +kernel
theorem dX2_init_61 : decode cX2_init 61 = .ok (.bipush 120, 2) := by decide +kernel
theorem dX2_init_63 : decode cX2_init 63 = .ok (.invokespecial 11, 3) := by decide +kernel
theorem dX2_init_66 : decode cX2_init 66 = .ok (.putfield 29, 3) := by decide +kernel
theorem dX2_init_69 : decode cX2_init 69 = .ok (.aload_n 0, 1) := by decide +kernel
theorem dX2_init_70 : decode cX2_init 70 = .ok (.new 9, 3) := by decide +kernel
theorem dX2_init_73 : decode cX2_init 73 = .ok (.dup, 1) := by decide +kernel
theorem dX2_init_74 : decode cX2_init 74 = .ok (.bipush 120, 2) := by decide +kernel
theorem dX2_init_76 : decode cX2_init 76 = .ok (.invokespecial 11, 3) := by decide +kernel
theorem dX2_init_79 : decode cX2_init 79 = .ok (.putfield 32, 3) := by decide +kernel
theorem dX2_init_82 : decode cX2_init 82 = .ok (.aload_n 0, 1) := by decide +kernel
theorem dX2_init_83 : decode cX2_init 83 = .ok (.getfield 14, 3) := by decide +kernel
theorem dX2_init_86 : decode cX2_init 86 = .ok (.iconst (-1), 1) := by decide +kernel
theorem dX2_init_87 : decode cX2_init 87 = .ok (.invokevirtual 35, 3) := by decide +kernel
theorem dX2_init_90 : decode cX2_init 90 = .ok (.return_, 1) := by decide +kernel
theorem dX2_sprout_0 : decode cX2_sprout 0 = .ok (.aload_n 0, 1) := by decide +kernel
theorem dX2_sprout_1 : decode cX2_sprout 1 = .ok (.getfield 38, 3) := by decide +kernel
theorem dX2_sprout_4 : decode cX2_sprout 4 = .ok (.istore_n 3, 1) := by decide +kernel
theorem dX2_sprout_5 : decode cX2_sprout 5 = .ok (.aload_n 0, 1) := by decide +kernel
theorem dX2_sprout_6 : decode cX2_sprout 6 = .ok (.dup, 1) := by decide +kernel
theorem dX2_sprout_7 : decode cX2_sprout 7 = .ok (.getfield 38, 3) := by decide +kernel
theorem dX2_sprout_10 : decode cX2_sprout 10 = .ok (.iconst 1, 1) := by decide +kernel
theorem dX2_sprout_11 : decode cX2_sprout 11 = .ok (.iadd, 1) := by decide +kernel
theorem dX2_sprout_12 : decode cX2_sprout 12 = .ok (.putfield 38, 3) := by decide +kernel
theorem dX2_sprout_15 : decode cX2_sprout 15 = .ok (.aload_n 0, 1) := by decide +kernel
theorem dX2_sprout_16 : decode cX2_sprout 16 = .ok (.getfield 14, 3) := by decide +kernel
theorem dX2_sprout_19 : decode cX2_sprout 19 = .ok (.iload_n 1, 1) := by decide +kernel
theorem dX2_sprout_20 : decode cX2_sprout 20 = .ok (.iload_n 3, 1) := by decide +kernel
theorem dX2_sprout_21 : decode cX2_sprout 21 = .ok (.invokevirtual 42, 3) := by decide +kernel
theorem dX2_sprout_24 : decode cX2_sprout 24 = .ok (.aload_n 0, 1) := by decide +kernel
theorem dX2_sprout_25 : decode cX2_sprout 25 = .ok (.getfield 20, 3) := by decide +kernel
theorem dX2_sprout_28 : decode cX2_sprout 28 = .ok (.iload_n 3, 1) := by decide +kernel
theorem dX2_sprout_29 : decode cX2_sprout 29 = .ok (.iload_n 2, 1) := by decide +kernel
theorem dX2_sprout_30 : decode cX2_sprout 30 = .ok (.invokevirtual 42, 3) := by decide +kernel
theorem dX2_sprout_33 : decode cX2_sprout 33 = .ok (.aload_n 0, 1) := by decide +kernel
theorem dX2_sprout_34 : decode cX2_sprout 34 = .ok (.getfield 23, 3) := by decide +kernel
theorem dX2_sprout_37 : decode cX2_sprout 37 = .ok (.iload_n 3, 1) := by decide +kernel
theorem dX2_sprout_38 : decode cX2_sprout 38 = .ok (.iconst 0, 1) := by decide +kernel
theorem dX2_sprout_39 : decode cX2_sprout 39 = .ok (.invokevirtual 42, 3) := by decide +kernel
theorem dX2_sprout_42 : decode cX2_sprout 42 = .ok (.aload_n 0, 1) := by decide +kernel
theorem dX2_sprout_43 : decode cX2_sprout 43 = .ok (.getfield 26, 3) := by decide +kernel
theorem dX2_sprout_46 : decode cX2_sprout 46 = .ok (.iload_n 3, 1) := by decide +kernel
theorem dX2_sprout_47 : decode cX2_sprout 47 = .ok (.iload_n 1, 1) := by decide +kernel
theorem dX2_sprout_48 : decode cX2_sprout 48 = .ok (.invokevirtual 42, 3) := by decide +kernel
theorem dX2_sprout_51 : decode cX2_sprout 51 = .ok (.aload_n 0, 1) := by decide +kernel
theorem dX2_sprout_52 : decode cX2_sprout 52 = .ok (.getfield 29, 3) := by decide +kernel
theorem dX2_sprout_55 : decode cX2_sprout 55 = .ok (.iload_n 3, 1) := by decide +kernel
theorem dX2_sprout_56 : decode cX2_sprout 56 = .ok (.iconst (-1), 1) := by decide +kernel
theorem dX2_sprout_57 : decode cX2_sprout 57 = .ok (.invokevirtual 42, 3) := by decide +kernel
theorem dX2_sprout_60 : decode cX2_sprout 60 = .ok (.aload_n 0, 1) := by decide +kernel
theorem dX2_sprout_61 : decode cX2_sprout 61 = .ok (.getfield 32, 3) := by decide +kernel
theorem dX2_sprout_64 : decode cX2_sprout 64 = .ok (.iload_n 3, 1) := by decide +kernel
theorem dX2_sprout_65 : decode cX2_sprout 65 = .ok (.iconst (-1), 1) := by decide +kernel
theorem dX2_sprout_66 : decode cX2_sprout 66 = .ok (.invokevirtual 42, 3) := by decide +kernel
theorem dX2_sprout_69 : decode cX2_sprout 69 = .ok (.iload_n 3, 1) := by decide +kernel
theorem dX2_sprout_70 : decode cX2_sprout 70 = .ok (.ireturn, 1) := by decide +kernel
theorem dX2_putAside_0 : decode cX2_putAside 0 = .ok (.aload_n 0, 1) := by decide +kernel
theorem dX2_putAside_1 : decode cX2_putAside 1 = .ok (.getfield 14, 3) := by decide +kernel
theorem dX2_putAside_4 : decode cX2_putAside 4 = .ok (.aload_n 0, 1) := by decide +kernel
theorem dX2_putAside_5 : decode cX2_putAside 5 = .ok (.getfield 26, 3) := by decide +kernel
theorem dX2_putAside_8 : decode cX2_putAside 8 = .ok (.iload_n 1, 1) := by decide +kernel
theorem dX2_putAside_9 : decode cX2_putAside 9 = .ok (.invokevirtual 46, 3) := by decide +kernel
theorem dX2_putAside_12 : decode cX2_putAside 12 = .ok (.iconst (-1), 1) := by decide +kernel
theorem dX2_putAside_13 : decode cX2_putAside 13 = .ok (.invokevirtual 42, 3) := by decide +kernel
theorem dX2_putAside_16 : decode cX2_putAside 16 = .ok (.aload_n 0, 1) := by decide +kernel
theorem dX2_putAside_17 : decode cX2_putAside 17 = .ok (.getfield 23, 3) := by decide +kernel
theorem dX2_putAside_20 : decode cX2_putAside 20 = .ok (.iload_n 1, 1) := by decide +kernel
theorem dX2_putAside_21 : decode cX2_putAside 21 = .ok (.iconst 1, 1) := by decide +kernel
theorem dX2_putAside_22 : decode cX2_putAside 22 = .ok (.invokevirtual 42, 3) := by decide +kernel
theorem dX2_putAside_25 : decode cX2_putAside 25 = .ok (.aload_n 0, 1) := by decide +kernel
theorem dX2_putAside_26 : decode cX2_putAside 26 = .ok (.getfield 29, 3) := by decide +kernel
theorem dX2_putAside_29 : decode cX2_putAside 29 = .ok (.iload_n 1, 1) := by decide +kernel
theorem dX2_putAside_30 : decode cX2_putAside 30 = .ok (.iload_n 3, 1) := by decide +kernel
theorem dX2_putAside_31 : decode cX2_putAside 31 = .ok (.invokevirtual 42, 3) := by decide +kernel
theorem dX2_putAside_34 : decode cX2_putAside 34 = .ok (.aload_n 0, 1) := by decide +kernel
theorem dX2_putAside_35 : decode cX2_putAside 35 = .ok (.getfield 32, 3) := by decide +kernel
theorem dX2_putAside_38 : decode cX2_putAside 38 = .ok (.iload_n 1, 1) := by decide +kernel
theorem dX2_putAside_39 : decode cX2_putAside 39 = .ok (.iload_n 2, 1) := by decide +kernel
theorem dX2_putAside_40 : decode cX2_putAside 40 = .ok (.invokevirtual 42, 3) := by decide +kernel
theorem dX2_putAside_43 : decode cX2_putAside 43 = .ok (.return_, 1) := by decide +kernel
theorem dX2_burn_0 : decode cX2_burn 0 = .ok (.aload_n 0, 1) := by decide +kernel
theorem dX2_burn_1 : decode cX2_burn 1 = .ok (.getfield 23, 3) := by decide +kernel
theorem dX2_burn_4 : decode cX2_burn 4 = .ok (.iload_n 1, 1) := by decide +kernel
theorem dX2_burn_5 : decode cX2_burn 5 = .ok (.iconst 2, 1) := by decide +kernel
theorem dX2_burn_6 : decode cX2_burn 6 = .ok (.invokevirtual 42, 3) := by decide +kernel
theorem dX2_burn_9 : decode cX2_burn 9 = .ok (.aload_n 0, 1) := by decide +kernel
theorem dX2_burn_10 : decode cX2_burn 10 = .ok (.getfield 32, 3) := by decide +kernel
theorem dX2_burn_13 : decode cX2_burn 13 = .ok (.iload_n 1, 1) := by decide +kernel
theorem dX2_burn_14 : decode cX2_burn 14 = .ok (.iconst (-1), 1) := by decide +kernel
theorem dX2_burn_15 : decode cX2_burn 15 = .ok (.invokevirtual 42, 3) := by decide +kernel
theorem dX2_burn_18 : decode cX2_burn 18 = .ok (.return_, 1) := by decide +kernel
theorem dX2_numberWhere_0 : decode cX2_numberWhere 0 = .ok (.aload_n 0, 1) := by decide +kernel
theorem dX2_numberWhere_1 : decode cX2_numberWhere 1 = .ok (.getfield 23, 3) := by decide +kernel
theorem dX2_numberWhere_4 : decode cX2_numberWhere 4 = .ok (.iload_n 1, 1) := by decide +kernel
theorem dX2_numberWhere_5 : decode cX2_numberWhere 5 = .ok (.iconst 0, 1) := by decide +kernel
theorem dX2_numberWhere_6 : decode cX2_numberWhere 6 = .ok (.aload_n 0, 1) := by decide +kernel
theorem dX2_numberWhere_7 : decode cX2_numberWhere 7 = .ok (.getfield 38, 3) := by decide +kernel
theorem dX2_numberWhere_10 : decode cX2_numberWhere 10 = .ok (.invokevirtual 50, 3) := by decide +kernel
theorem dX2_numberWhere_13 : decode cX2_numberWhere 13 = .ok (.ireturn, 1) := by decide +kernel
theorem dX2_copyFrom_0 : decode cX2_copyFrom 0 = .ok (.aload_n 0, 1) := by decide +kernel
theorem dX2_copyFrom_1 : decode cX2_copyFrom 1 = .ok (.aload_n 1, 1) := by decide +kernel
theorem dX2_copyFrom_2 : decode cX2_copyFrom 2 = .ok (.getfield 38, 3) := by decide +kernel
theorem dX2_copyFrom_5 : decode cX2_copyFrom 5 = .ok (.putfield 38, 3) := by decide +kernel
theorem dX2_copyFrom_8 : decode cX2_copyFrom 8 = .ok (.aload_n 0, 1) := by decide +kernel
theorem dX2_copyFrom_9 : decode cX2_copyFrom 9 = .ok (.getfield 14, 3) := by decide +kernel
theorem dX2_copyFrom_12 : decode cX2_copyFrom 12 = .ok (.aload_n 1, 1) := by decide +kernel
theorem dX2_copyFrom_13 : decode cX2_copyFrom 13 = .ok (.getfield 14, 3) := by decide +kernel
theorem dX2_copyFrom_16 : decode cX2_copyFrom 16 = .ok (.invokevirtual 54, 3) := by decide +kernel
theorem dX2_copyFrom_19 : decode cX2_copyFrom 19 = .ok (.aload_n 0, 1) := by decide +kernel
theorem dX2_copyFrom_20 : decode cX2_copyFrom 20 = .ok (.getfield 20, 3) := by decide +kernel
theorem dX2_copyFrom_23 : decode cX2_copyFrom 23 = .ok (.aload_n 1, 1) := by decide +kernel
theorem dX2_copyFrom_24 : decode cX2_copyFrom 24 = .ok (.getfield 20, 3) := by decide +kernel
theorem dX2_copyFrom_27 : decode cX2_copyFrom 27 = .ok (.invokevirtual 54, 3) := by decide +kernel
theorem dX2_copyFrom_30 : decode cX2_copyFrom 30 = .ok (.aload_n 0, 1) := by decide +kernel
theorem dX2_copyFrom_31 : decode cX2_copyFrom 31 = .ok (.getfield 23, 3) := by decide +kernel
theorem dX2_copyFrom_34 : decode cX2_copyFrom 34 = .ok (.aload_n 1, 1) := by decide +kernel
theorem dX2_copyFrom_35 : decode cX2_copyFrom 35 = .ok (.getfield 23, 3) := by decide +kernel
theorem dX2_copyFrom_38 : decode cX2_copyFrom 38 = .ok (.invokevirtual 54, 3) := by decide +kernel
theorem dX2_copyFrom_41 : decode cX2_copyFrom 41 = .ok (.aload_n 0, 1) := by decide +kernel
theorem dX2_copyFrom_42 : decode cX2_copyFrom 42 = .ok (.getfield 26, 3) := by decide +kernel
theorem dX2_copyFrom_45 : decode cX2_copyFrom 45 = .ok (.aload_n 1, 1) := by decide +kernel
theorem dX2_copyFrom_46 : decode cX2_copyFrom 46 = .ok (.getfield 26, 3) := by decide +kernel
theorem dX2_copyFrom_49 : decode cX2_copyFrom 49 = .ok (.invokevirtual 54, 3) := by decide +kernel
theorem dX2_copyFrom_52 : decode cX2_copyFrom 52 = .ok (.aload_n 0, 1) := by decide +kernel
theorem dX2_copyFrom_53 : decode cX2_copyFrom 53 = .ok (.getfield 29, 3) := by decide +kernel
theorem dX2_copyFrom_56 : decode cX2_copyFrom 56 = .ok (.aload_n 1, 1) := by decide +kernel
theorem dX2_copyFrom_57 : decode cX2_copyFrom 57 = .ok (.getfield 29, 3) := by decide +kernel
theorem dX2_copyFrom_60 : decode cX2_copyFrom 60 = .ok (.invokevirtual 54, 3) := by decide +kernel
theorem dX2_copyFrom_63 : decode cX2_copyFrom 63 = .ok (.aload_n 0, 1) := by decide +kernel
theorem dX2_copyFrom_64 : decode cX2_copyFrom 64 = .ok (.getfield 32, 3) := by decide +kernel
theorem dX2_copyFrom_67 : decode cX2_copyFrom 67 = .ok (.aload_n 1, 1) := by decide +kernel
theorem dX2_copyFrom_68 : decode cX2_copyFrom 68 = .ok (.getfield 32, 3) := by decide +kernel
theorem dX2_copyFrom_71 : decode cX2_copyFrom 71 = .ok (.invokevirtual 54, 3) := by decide +kernel
theorem dX2_copyFrom_74 : decode cX2_copyFrom 74 = .ok (.return_, 1) := by decide +kernel
theorem dX3_init_0 : decode cX3_init 0 = .ok (.aload_n 0, 1) := by decide +kernel
theorem dX3_init_1 : decode cX3_init 1 = .ok (.invokespecial 3, 3) := by decide +kernel
theorem dX3_init_4 : decode cX3_init 4 = .ok (.aload_n 0, 1) := by decide +kernel
theorem dX3_init_5 : decode cX3_init 5 = .ok (.new 9, 3) := by decide +kernel
theorem dX3_init_8 : decode cX3_init 8 = .ok (.dup, 1) := by decide +kernel
theorem dX3_init_9 : decode cX3_init 9 = .ok (.bipush 60, 2) := by decide +kernel
theorem dX3_init_11 : decode cX3_init 11 = .ok (.invokespecial 11, 3) := by decide +kernel
theorem dX3_init_14 : decode cX3_init 14 = .ok (.putfield 14, 3) := by decide +kernel
theorem dX3_init_17 : decode cX3_init 17 = .ok (.return_, 1) := by decide +kernel
theorem dX4_init_0 : decode cX4_init 0 = .ok (.aload_n 0, 1) := by decide +kernel
theorem dX4_init_1 : decode cX4_init 1 = .ok (.invokespecial 3, 3) := by decide +kernel
theorem dX4_init_4 : decode cX4_init 4 = .ok (.aload_n 0, 1) := by decide +kernel
theorem dX4_init_5 : decode cX4_init 5 = .ok (.iload_n 1, 1) := by decide +kernel
theorem dX4_init_6 : decode cX4_init 6 = .ok (.ifCond .ge 7, 3) := by decide +kernel
theorem dX4_init_9 : decode cX4_init 9 = .ok (.iconst 0, 1) := by decide +kernel
theorem dX4_init_10 : decode cX4_init 10 = .ok (.goto 4, 3) := by decide +kernel
theorem dX4_init_13 : decode cX4_init 13 = .ok (.iload_n 1, 1) := by decide +kernel
theorem dX4_init_14 : decode cX4_init 14 = .ok (.newarray .int, 2) := by decide +kernel
theorem dX4_init_16 : decode cX4_init 16 = .ok (.putfield 9, 3) := by decide +kernel
theorem dX4_init_19 : decode cX4_init 19 = .ok (.return_, 1) := by decide +kernel
theorem dX4_get_0 : decode cX4_get 0 = .ok (.iload_n 1, 1) := by decide +kernel
theorem dX4_get_1 : decode cX4_get 1 = .ok (.ifCond .lt 21, 3) := by decide +kernel
theorem dX4_get_4 : decode cX4_get 4 = .ok (.iload_n 1, 1) := by decide +kernel
theorem dX4_get_5 : decode cX4_get 5 = .ok (.aload_n 0, 1) := by decide +kernel
theorem dX4_get_6 : decode cX4_get 6 = .ok (.getfield 9, 3) := by decide +kernel
theorem dX4_get_9 : decode cX4_get 9 = .ok (.arraylength, 1) := by decide +kernel
theorem dX4_get_10 : decode cX4_get 10 = .ok (.if_icmp .ge 12, 3) := by decide +kernel
theorem dX4_get_13 : decode cX4_get 13 = .ok (.aload_n 0, 1) := by decide +kernel
theorem dX4_get_14 : decode cX4_get 14 = .ok (.getfield 9, 3) := by decide +kernel
theorem dX4_get_17 : decode cX4_get 17 = .ok (.iload_n 1, 1) := by decide +kernel
theorem dX4_get_18 : decode cX4_get 18 = .ok (.iaload, 1) := by decide +kernel
theorem dX4_get_19 : decode cX4_get 19 = .ok (.goto 4, 3) := by decide +kernel
theorem dX4_get_22 : decode cX4_get 22 = .ok (.iconst (-1), 1) := by decide +kernel
theorem dX4_get_23 : decode cX4_get 23 = .ok (.ireturn, 1) := by decide +kernel
theorem dX4_put_0 : decode cX4_put 0 = .ok (.iload_n 1, 1) := by decide +kernel
theorem dX4_put_1 : decode cX4_put 1 = .ok (.ifCond .lt 19, 3) := by decide +kernel
theorem dX4_put_4 : decode cX4_put 4 = .ok (.iload_n 1, 1) := by decide +kernel
theorem dX4_put_5 : decode cX4_put 5 = .ok (.aload_n 0, 1) := by decide +kernel
theorem dX4_put_6 : decode cX4_put 6 = .ok (.getfield 9, 3) := by decide +kernel
theorem dX4_put_9 : decode cX4_put 9 = .ok (.arraylength, 1) := by decide +kernel
theorem dX4_put_10 : decode cX4_put 10 = .ok (.if_icmp .ge 10, 3) := by decide +kernel
theorem dX4_put_13 : decode cX4_put 13 = .ok (.aload_n 0, 1) := by decide +kernel
theorem dX4_put_14 : decode cX4_put 14 = .ok (.getfield 9, 3) := by decide +kernel
theorem dX4_put_17 : decode cX4_put 17 = .ok (.iload_n 1, 1) := by decide +kernel
theorem dX4_put_18 : decode cX4_put 18 = .ok (.iload_n 2, 1) := by decide +kernel
theorem dX4_put_19 : decode cX4_put 19 = .ok (.iastore, 1) := by decide +kernel
theorem dX4_put_20 : decode cX4_put 20 = .ok (.return_, 1) := by decide +kernel
theorem dX4_add_0 : decode cX4_add 0 = .ok (.aload_n 0, 1) := by decide +kernel
theorem dX4_add_1 : decode cX4_add 1 = .ok (.iload_n 1, 1) := by decide +kernel
theorem dX4_add_2 : decode cX4_add 2 = .ok (.aload_n 0, 1) := by decide +kernel
theorem dX4_add_3 : decode cX4_add 3 = .ok (.iload_n 1, 1) := by decide +kernel
theorem dX4_add_4 : decode cX4_add 4 = .ok (.invokevirtual 15, 3) := by decide +kernel
theorem dX4_add_7 : decode cX4_add 7 = .ok (.iload_n 2, 1) := by decide +kernel
theorem dX4_add_8 : decode cX4_add 8 = .ok (.iadd, 1) := by decide +kernel
theorem dX4_add_9 : decode cX4_add 9 = .ok (.invokevirtual 19, 3) := by decide +kernel
theorem dX4_add_12 : decode cX4_add 12 = .ok (.return_, 1) := by decide +kernel
theorem dX4_fill_0 : decode cX4_fill 0 = .ok (.iconst 0, 1) := by decide +kernel
theorem dX4_fill_1 : decode cX4_fill 1 = .ok (.istore_n 2, 1) := by decide +kernel
theorem dX4_fill_2 : decode cX4_fill 2 = .ok (.iload_n 2, 1) := by decide +kernel
theorem dX4_fill_3 : decode cX4_fill 3 = .ok (.aload_n 0, 1) := by decide +kernel
theorem dX4_fill_4 : decode cX4_fill 4 = .ok (.getfield 9, 3) := by decide +kernel
theorem dX4_fill_7 : decode cX4_fill 7 = .ok (.arraylength, 1) := by decide +kernel
theorem dX4_fill_8 : decode cX4_fill 8 = .ok (.if_icmp .ge 16, 3) := by decide +kernel
theorem dX4_fill_11 : decode cX4_fill 11 = .ok (.aload_n 0, 1) := by decide +kernel
theorem dX4_fill_12 : decode cX4_fill 12 = .ok (.getfield 9, 3) := by decide +kernel
theorem dX4_fill_15 : decode cX4_fill 15 = .ok (.iload_n 2, 1) := by decide +kernel
theorem dX4_fill_16 : decode cX4_fill 16 = .ok (.iload_n 1, 1) := by decide +kernel
theorem dX4_fill_17 : decode cX4_fill 17 = .ok (.iastore, 1) := by decide +kernel
theorem dX4_fill_18 : decode cX4_fill 18 = .ok (.iinc 2 1, 3) := by decide +kernel
theorem dX4_fill_21 : decode cX4_fill 21 = .ok (.goto (-19), 3) := by decide +kernel
theorem dX4_fill_24 : decode cX4_fill 24 = .ok (.return_, 1) := by decide +kernel
theorem dX4_number_0 : decode cX4_number 0 = .ok (.iconst 0, 1) := by decide +kernel
theorem dX4_number_1 : decode cX4_number 1 = .ok (.istore 4, 2) := by decide +kernel
theorem dX4_number_3 : decode cX4_number 3 = .ok (.iload_n 2, 1) := by decide +kernel
theorem dX4_number_4 : decode cX4_number 4 = .ok (.ifCond .ge 7, 3) := by decide +kernel
theorem dX4_number_7 : decode cX4_number 7 = .ok (.iconst 0, 1) := by decide +kernel
theorem dX4_number_8 : decode cX4_number 8 = .ok (.goto 4, 3) := by decide +kernel
theorem dX4_number_11 : decode cX4_number 11 = .ok (.iload_n 2, 1) := by decide +kernel
theorem dX4_number_12 : decode cX4_number 12 = .ok (.istore 5, 2) := by decide +kernel
theorem dX4_number_14 : decode cX4_number 14 = .ok (.iload 5, 2) := by decide +kernel
theorem dX4_number_16 : decode cX4_number 16 = .ok (.iload_n 3, 1) := by decide +kernel
theorem dX4_number_17 : decode cX4_number 17 = .ok (.if_icmp .ge 40, 3) := by decide +kernel
theorem dX4_number_20 : decode cX4_number 20 = .ok (.iload 5, 2) := by decide +kernel
theorem dX4_number_22 : decode cX4_number 22 = .ok (.aload_n 0, 1) := by decide +kernel
theorem dX4_number_23 : decode cX4_number 23 = .ok (.getfield 9, 3) := by decide +kernel
theorem dX4_number_26 : decode cX4_number 26 = .ok (.arraylength, 1) := by decide +kernel
theorem dX4_number_27 : decode cX4_number 27 = .ok (.if_icmp .ge 30, 3) := by decide +kernel
theorem dX4_number_30 : decode cX4_number 30 = .ok (.iload 4, 2) := by decide +kernel
theorem dX4_number_32 : decode cX4_number 32 = .ok (.aload_n 0, 1) := by decide +kernel
theorem dX4_number_33 : decode cX4_number 33 = .ok (.getfield 9, 3) := by decide +kernel
theorem dX4_number_36 : decode cX4_number 36 = .ok (.iload 5, 2) := by decide +kernel
theorem dX4_number_38 : decode cX4_number 38 = .ok (.iaload, 1) := by decide +kernel
theorem dX4_number_39 : decode cX4_number 39 = .ok (.iload_n 1, 1) := by decide +kernel
theorem dX4_number_40 : decode cX4_number 40 = .ok (.if_icmp .ne 7, 3) := by decide +kernel
theorem dX4_number_43 : decode cX4_number 43 = .ok (.iconst 1, 1) := by decide +kernel
theorem dX4_number_44 : decode cX4_number 44 = .ok (.goto 4, 3) := by decide +kernel
theorem dX4_number_47 : decode cX4_number 47 = .ok (.iconst 0, 1) := by decide +kernel
theorem dX4_number_48 : decode cX4_number 48 = .ok (.iadd, 1) := by decide +kernel
theorem dX4_number_49 : decode cX4_number 49 = .ok (.istore 4, 2) := by decide +kernel
theorem dX4_number_51 : decode cX4_number 51 = .ok (.iinc 5 1, 3) := by decide +kernel
theorem dX4_number_54 : decode cX4_number 54 = .ok (.goto (-40), 3) := by decide +kernel
theorem dX4_number_57 : decode cX4_number 57 = .ok (.iload 4, 2) := by decide +kernel
theorem dX4_number_59 : decode cX4_number 59 = .ok (.ireturn, 1) := by decide +kernel
theorem dX4_copyFrom_0 : decode cX4_copyFrom 0 = .ok (.aload_n 1, 1) := by decide +kernel
theorem dX4_copyFrom_1 : decode cX4_copyFrom 1 = .ok (.getfield 9, 3) := by decide +kernel
theorem dX4_copyFrom_4 : decode cX4_copyFrom 4 = .ok (.iconst 0, 1) := by decide +kernel
theorem dX4_copyFrom_5 : decode cX4_copyFrom 5 = .ok (.aload_n 0, 1) := by decide +kernel
theorem dX4_copyFrom_6 : decode cX4_copyFrom 6 = .ok (.getfield 9, 3) := by decide +kernel
theorem dX4_copyFrom_9 : decode cX4_copyFrom 9 = .ok (.iconst 0, 1) := by decide +kernel
theorem dX4_copyFrom_10 : decode cX4_copyFrom 10 = .ok (.aload_n 0, 1) := by decide +kernel
theorem dX4_copyFrom_11 : decode cX4_copyFrom 11 = .ok (.getfield 9, 3) := by decide +kernel
theorem dX4_copyFrom_14 : decode cX4_copyFrom 14 = .ok (.arraylength, 1) := by decide +kernel
theorem dX4_copyFrom_15 : decode cX4_copyFrom 15 = .ok (.aload_n 1, 1) := by decide +kernel
theorem dX4_copyFrom_16 : decode cX4_copyFrom 16 = .ok (.getfield 9, 3) := by decide +kernel
theorem dX4_copyFrom_19 : decode cX4_copyFrom 19 = .ok (.arraylength, 1) := by decide +kernel
theorem dX4_copyFrom_20 : decode cX4_copyFrom 20 = .ok (.invokestatic 23, 3) := by decide +kernel
theorem dX4_copyFrom_23 : decode cX4_copyFrom 23 = .ok (.invokestatic 29, 3) := by decide +kernel
theorem dX4_copyFrom_26 : decode cX4_copyFrom 26 = .ok (.return_, 1) := by decide +kernel
theorem dX5_init_0 : decode cX5_init 0 = .ok (.aload_n 0, 1) := by decide +kernel
theorem dX5_init_1 : decode cX5_init 1 = .ok (.invokespecial 3, 3) := by decide +kernel
theorem dX5_init_4 : decode cX5_init 4 = .ok (.aload_n 0, 1) := by decide +kernel
theorem dX5_init_5 : decode cX5_init 5 = .ok (.bipush 6, 2) := by decide +kernel
theorem dX5_init_7 : decode cX5_init 7 = .ok (.anewarray 9, 3) := by decide +kernel
theorem dX5_init_10 : decode cX5_init 10 = .ok (.putfield 11, 3) := by decide +kernel
theorem dX5_init_13 : decode cX5_init 13 = .ok (.iconst 0, 1) := by decide +kernel
theorem dX5_init_14 : decode cX5_init 14 = .ok (.istore_n 1, 1) := by decide +kernel
theorem dX5_init_15 : decode cX5_init 15 = .ok (.iload_n 1, 1) := by decide +kernel
theorem dX5_init_16 : decode cX5_init 16 = .ok (.aload_n 0, 1) := by decide +kernel
theorem dX5_init_17 : decode cX5_init 17 = .ok (.getfield 11, 3) := by decide +kernel
theorem dX5_init_20 : decode cX5_init 20 = .ok (.arraylength, 1) := by decide +kernel
theorem dX5_init_21 : decode cX5_init 21 = .ok (.if_icmp .ge 22, 3) := by decide +kernel
theorem dX5_init_24 : decode cX5_init 24 = .ok (.aload_n 0, 1) := by decide +kernel
theorem dX5_init_25 : decode cX5_init 25 = .ok (.getfield 11, 3) := by decide +kernel
theorem dX5_init_28 : decode cX5_init 28 = .ok (.iload_n 1, 1) := by decide +kernel
theorem dX5_init_29 : decode cX5_init 29 = .ok (.new 9, 3) := by decide +kernel
theorem dX5_init_32 : decode cX5_init 32 = .ok (.dup, 1) := by decide +kernel
theorem dX5_init_33 : decode cX5_init 33 = .ok (.invokespecial 17, 3) := by decide +kernel
theorem dX5_init_36 : decode cX5_init 36 = .ok (.aastore, 1) := by decide +kernel
theorem dX5_init_37 : decode cX5_init 37 = .ok (.iinc 1 1, 3) := by decide +kernel
theorem dX5_init_40 : decode cX5_init 40 = .ok (.goto (-25), 3) := by decide +kernel
theorem dX5_init_43 : decode cX5_init 43 = .ok (.return_, 1) := by decide +kernel
theorem dX5_number_0 : decode cX5_number 0 = .ok (.aload_n 0, 1) := by decide +kernel
theorem dX5_number_1 : decode cX5_number 1 = .ok (.getfield 18, 3) := by decide +kernel
theorem dX5_number_4 : decode cX5_number 4 = .ok (.ireturn, 1) := by decide +kernel
theorem dX5_push_0 : decode cX5_push 0 = .ok (.aload_n 0, 1) := by decide +kernel
theorem dX5_push_1 : decode cX5_push 1 = .ok (.aload_n 0, 1) := by decide +kernel
theorem dX5_push_2 : decode cX5_push 2 = .ok (.getfield 22, 3) := by decide +kernel
theorem dX5_push_5 : decode cX5_push 5 = .ok (.invokevirtual 25, 3) := by decide +kernel
theorem dX5_push_8 : decode cX5_push 8 = .ok (.astore_n 2, 1) := by decide +kernel
theorem dX5_push_9 : decode cX5_push 9 = .ok (.aload_n 2, 1) := by decide +kernel
theorem dX5_push_10 : decode cX5_push 10 = .ok (.ifnull 48, 3) := by decide +kernel
theorem dX5_push_13 : decode cX5_push 13 = .ok (.aload_n 2, 1) := by decide +kernel
theorem dX5_push_14 : decode cX5_push 14 = .ok (.aload_n 1, 1) := by decide +kernel
theorem dX5_push_15 : decode cX5_push 15 = .ok (.invokevirtual 29, 3) := by decide +kernel
theorem dX5_push_18 : decode cX5_push 18 = .ok (.aload_n 0, 1) := by decide +kernel
theorem dX5_push_19 : decode cX5_push 19 = .ok (.aload_n 0, 1) := by decide +kernel
theorem dX5_push_20 : decode cX5_push 20 = .ok (.getfield 22, 3) := by decide +kernel
theorem dX5_push_23 : decode cX5_push 23 = .ok (.iconst 1, 1) := by decide +kernel
theorem dX5_push_24 : decode cX5_push 24 = .ok (.iadd, 1) := by decide +kernel
theorem dX5_push_25 : decode cX5_push 25 = .ok (.bipush 6, 2) := by decide +kernel
theorem dX5_push_27 : decode cX5_push 27 = .ok (.if_icmp .ge 12, 3) := by decide +kernel
theorem dX5_push_30 : decode cX5_push 30 = .ok (.aload_n 0, 1) := by decide +kernel
theorem dX5_push_31 : decode cX5_push 31 = .ok (.getfield 22, 3) := by decide +kernel
theorem dX5_push_34 : decode cX5_push 34 = .ok (.iconst 1, 1) := by decide +kernel
theorem dX5_push_35 : decode cX5_push 35 = .ok (.iadd, 1) := by decide +kernel
theorem dX5_push_36 : decode cX5_push 36 = .ok (.goto 4, 3) := by decide +kernel
theorem dX5_push_39 : decode cX5_push 39 = .ok (.iconst 0, 1) := by decide +kernel
theorem dX5_push_40 : decode cX5_push 40 = .ok (.putfield 22, 3) := by decide +kernel
theorem dX5_push_43 : decode cX5_push 43 = .ok (.aload_n 0, 1) := by decide +kernel
theorem dX5_push_44 : decode cX5_push 44 = .ok (.aload_n 0, 1) := by decide +kernel
theorem dX5_push_45 : decode cX5_push 45 = .ok (.getfield 18, 3) := by decide +kernel
theorem dX5_push_48 : decode cX5_push 48 = .ok (.iconst 1, 1) := by decide +kernel
theorem dX5_push_49 : decode cX5_push 49 = .ok (.iadd, 1) := by decide +kernel
theorem dX5_push_50 : decode cX5_push 50 = .ok (.bipush 6, 2) := by decide +kernel
theorem dX5_push_52 : decode cX5_push 52 = .ok (.invokestatic 33, 3) := by decide +kernel
theorem dX5_push_55 : decode cX5_push 55 = .ok (.putfield 18, 3) := by decide +kernel
theorem dX5_push_58 : decode cX5_push 58 = .ok (.return_, 1) := by decide +kernel
theorem dX5_popInto_0 : decode cX5_popInto 0 = .ok (.aload_n 0, 1) := by decide +kernel
theorem dX5_popInto_1 : decode cX5_popInto 1 = .ok (.getfield 22, 3) := by decide +kernel
theorem dX5_popInto_4 : decode cX5_popInto 4 = .ok (.ifCond .le 12, 3) := by decide +kernel
theorem dX5_popInto_7 : decode cX5_popInto 7 = .ok (.aload_n 0, 1) := by decide +kernel
theorem dX5_popInto_8 : decode cX5_popInto 8 = .ok (.getfield 22, 3) := by decide +kernel
theorem dX5_popInto_11 : decode cX5_popInto 11 = .ok (.iconst 1, 1) := by decide +kernel
theorem dX5_popInto_12 : decode cX5_popInto 12 = .ok (.isub, 1) := by decide +kernel
theorem dX5_popInto_13 : decode cX5_popInto 13 = .ok (.goto 4, 3) := by decide +kernel
theorem dX5_popInto_16 : decode cX5_popInto 16 = .ok (.iconst 5, 1) := by decide +kernel
theorem dX5_popInto_17 : decode cX5_popInto 17 = .ok (.istore_n 2, 1) := by decide +kernel
theorem dX5_popInto_18 : decode cX5_popInto 18 = .ok (.aload_n 0, 1) := by decide +kernel
theorem dX5_popInto_19 : decode cX5_popInto 19 = .ok (.iload_n 2, 1) := by decide +kernel
theorem dX5_popInto_20 : decode cX5_popInto 20 = .ok (.invokevirtual 25, 3) := by decide +kernel
theorem dX5_popInto_23 : decode cX5_popInto 23 = .ok (.astore_n 3, 1) := by decide +kernel
theorem dX5_popInto_24 : decode cX5_popInto 24 = .ok (.aload_n 0, 1) := by decide +kernel
theorem dX5_popInto_25 : decode cX5_popInto 25 = .ok (.getfield 18, 3) := by decide +kernel
theorem dX5_popInto_28 : decode cX5_popInto 28 = .ok (.ifCond .le 27, 3) := by decide +kernel
theorem dX5_popInto_31 : decode cX5_popInto 31 = .ok (.aload_n 3, 1) := by decide +kernel
theorem dX5_popInto_32 : decode cX5_popInto 32 = .ok (.ifnull 23, 3) := by decide +kernel
theorem dX5_popInto_35 : decode cX5_popInto 35 = .ok (.aload_n 1, 1) := by decide +kernel
theorem dX5_popInto_36 : decode cX5_popInto 36 = .ok (.aload_n 3, 1) := by decide +kernel
theorem dX5_popInto_37 : decode cX5_popInto 37 = .ok (.invokevirtual 29, 3) := by decide +kernel
theorem dX5_popInto_40 : decode cX5_popInto 40 = .ok (.aload_n 0, 1) := by decide +kernel
theorem dX5_popInto_41 : decode cX5_popInto 41 = .ok (.iload_n 2, 1) := by decide +kernel
theorem dX5_popInto_42 : decode cX5_popInto 42 = .ok (.putfield 22, 3) := by decide +kernel
theorem dX5_popInto_45 : decode cX5_popInto 45 = .ok (.aload_n 0, 1) := by decide +kernel
theorem dX5_popInto_46 : decode cX5_popInto 46 = .ok (.dup, 1) := by decide +kernel
theorem dX5_popInto_47 : decode cX5_popInto 47 = .ok (.getfield 18, 3) := by decide +kernel
theorem dX5_popInto_50 : decode cX5_popInto 50 = .ok (.iconst 1, 1) := by decide +kernel
theorem dX5_popInto_51 : decode cX5_popInto 51 = .ok (.isub, 1) := by decide +kernel
theorem dX5_popInto_52 : decode cX5_popInto 52 = .ok (.putfield 18, 3) := by decide +kernel
theorem dX5_popInto_55 : decode cX5_popInto 55 = .ok (.return_, 1) := by decide +kernel
theorem dX5_placeAt_0 : decode cX5_placeAt 0 = .ok (.iload_n 1, 1) := by decide +kernel
theorem dX5_placeAt_1 : decode cX5_placeAt 1 = .ok (.ifCond .lt 21, 3) := by decide +kernel
theorem dX5_placeAt_4 : decode cX5_placeAt 4 = .ok (.iload_n 1, 1) := by decide +kernel
theorem dX5_placeAt_5 : decode cX5_placeAt 5 = .ok (.aload_n 0, 1) := by decide +kernel
theorem dX5_placeAt_6 : decode cX5_placeAt 6 = .ok (.getfield 11, 3) := by decide +kernel
theorem dX5_placeAt_9 : decode cX5_placeAt 9 = .ok (.arraylength, 1) := by decide +kernel
theorem dX5_placeAt_10 : decode cX5_placeAt 10 = .ok (.if_icmp .ge 12, 3) := by decide +kernel
theorem dX5_placeAt_13 : decode cX5_placeAt 13 = .ok (.aload_n 0, 1) := by decide +kernel
theorem dX5_placeAt_14 : decode cX5_placeAt 14 = .ok (.getfield 11, 3) := by decide +kernel
theorem dX5_placeAt_17 : decode cX5_placeAt 17 = .ok (.iload_n 1, 1) := by decide +kernel
theorem dX5_placeAt_18 : decode cX5_placeAt 18 = .ok (.aaload, 1) := by decide +kernel
theorem dX5_placeAt_19 : decode cX5_placeAt 19 = .ok (.goto 4, 3) := by decide +kernel
theorem dX5_placeAt_22 : decode cX5_placeAt 22 = .ok (.aconst_null, 1) := by decide +kernel
theorem dX5_placeAt_23 : decode cX5_placeAt 23 = .ok (.areturn, 1) := by decide +kernel
theorem dX6_init_0 : decode cX6_init 0 = .ok (.aload_n 0, 1) := by decide +kernel
theorem dX6_init_1 : decode cX6_init 1 = .ok (.invokespecial 3, 3) := by decide +kernel
theorem dX6_init_4 : decode cX6_init 4 = .ok (.aload_n 0, 1) := by decide +kernel
theorem dX6_init_5 : decode cX6_init 5 = .ok (.iconst 4, 1) := by decide +kernel
theorem dX6_init_6 : decode cX6_init 6 = .ok (.putfield 9, 3) := by decide +kernel
theorem dX6_init_9 : decode cX6_init 9 = .ok (.aload_n 0, 1) := by decide +kernel
theorem dX6_init_10 : decode cX6_init 10 = .ok (.iconst 0, 1) := by decide +kernel
theorem dX6_init_11 : decode cX6_init 11 = .ok (.putfield 15, 3) := by decide +kernel
theorem dX6_init_14 : decode cX6_init 14 = .ok (.aload_n 0, 1) := by decide +kernel
theorem dX6_init_15 : decode cX6_init 15 = .ok (.new 18, 3) := by decide +kernel
theorem dX6_init_18 : decode cX6_init 18 = .ok (.dup, 1) := by decide +kernel
theorem dX6_init_19 : decode cX6_init 19 = .ok (.invokespecial 20, 3) := by decide +kernel
theorem dX6_init_22 : decode cX6_init 22 = .ok (.putfield 21, 3) := by decide +kernel
theorem dX6_init_25 : decode cX6_init 25 = .ok (.aload_n 0, 1) := by decide +kernel
theorem dX6_init_26 : decode cX6_init 26 = .ok (.new 25, 3) := by decide +kernel
theorem dX6_init_29 : decode cX6_init 29 = .ok (.dup, 1) := by decide +kernel
theorem dX6_init_30 : decode cX6_init 30 = .ok (.invokespecial 27, 3) := by decide +kernel
theorem dX6_init_33 : decode cX6_init 33 = .ok (.putfield 28, 3) := by decide +kernel
theorem dX6_init_36 : decode cX6_init 36 = .ok (.aload_n 0, 1) := by decide +kernel
theorem dX6_init_37 : decode cX6_init 37 = .ok (.new 32, 3) := by decide +kernel
theorem dX6_init_40 : decode cX6_init 40 = .ok (.dup, 1) := by decide +kernel
theorem dX6_init_41 : decode cX6_init 41 = .ok (.invokespecial 34, 3) := by decide +kernel
theorem dX6_init_44 : decode cX6_init 44 = .ok (.putfield 35, 3) := by decide +kernel
theorem dX6_init_47 : decode cX6_init 47 = .ok (.return_, 1) := by decide +kernel
theorem dX6_copyFrom_0 : decode cX6_copyFrom 0 = .ok (.aload_n 0, 1) := by decide +kernel
theorem dX6_copyFrom_1 : decode cX6_copyFrom 1 = .ok (.aload_n 1, 1) := by decide +kernel
theorem dX6_copyFrom_2 : decode cX6_copyFrom 2 = .ok (.getfield 39, 3) := by decide +kernel
theorem dX6_copyFrom_5 : decode cX6_copyFrom 5 = .ok (.putfield 39, 3) := by decide +kernel
theorem dX6_copyFrom_8 : decode cX6_copyFrom 8 = .ok (.aload_n 0, 1) := by decide +kernel
theorem dX6_copyFrom_9 : decode cX6_copyFrom 9 = .ok (.aload_n 1, 1) := by decide +kernel
theorem dX6_copyFrom_10 : decode cX6_copyFrom 10 = .ok (.getfield 9, 3) := by decide +kernel
theorem dX6_copyFrom_13 : decode cX6_copyFrom 13 = .ok (.putfield 9, 3) := by decide +kernel
theorem dX6_copyFrom_16 : decode cX6_copyFrom 16 = .ok (.aload_n 0, 1) := by decide +kernel
theorem dX6_copyFrom_17 : decode cX6_copyFrom 17 = .ok (.aload_n 1, 1) := by decide +kernel
theorem dX6_copyFrom_18 : decode cX6_copyFrom 18 = .ok (.getfield 15, 3) := by decide +kernel
theorem dX6_copyFrom_21 : decode cX6_copyFrom 21 = .ok (.putfield 15, 3) := by decide +kernel
theorem dX6_copyFrom_24 : decode cX6_copyFrom 24 = .ok (.aload_n 0, 1) := by decide +kernel
theorem dX6_copyFrom_25 : decode cX6_copyFrom 25 = .ok (.aload_n 1, 1) := by decide +kernel
theorem dX6_copyFrom_26 : decode cX6_copyFrom 26 = .ok (.getfield 42, 3) := by decide +kernel
theorem dX6_copyFrom_29 : decode cX6_copyFrom 29 = .ok (.putfield 42, 3) := by decide +kernel
theorem dX6_copyFrom_32 : decode cX6_copyFrom 32 = .ok (.aload_n 0, 1) := by decide +kernel
theorem dX6_copyFrom_33 : decode cX6_copyFrom 33 = .ok (.aload_n 1, 1) := by decide +kernel
theorem dX6_copyFrom_34 : decode cX6_copyFrom 34 = .ok (.getfield 45, 3) := by decide +kernel
theorem dX6_copyFrom_37 : decode cX6_copyFrom 37 = .ok (.putfield 45, 3) := by decide +kernel
theorem dX6_copyFrom_40 : decode cX6_copyFrom 40 = .ok (.aload_n 0, 1) := by decide +kernel
theorem dX6_copyFrom_41 : decode cX6_copyFrom 41 = .ok (.aload_n 1, 1) := by decide +kernel
theorem dX6_copyFrom_42 : decode cX6_copyFrom 42 = .ok (.getfield 48, 3) := by decide +kernel
theorem dX6_copyFrom_45 : decode cX6_copyFrom 45 = .ok (.putfield 48, 3) := by decide +kernel
theorem dX6_copyFrom_48 : decode cX6_copyFrom 48 = .ok (.aload_n 0, 1) := by decide +kernel
theorem dX6_copyFrom_49 : decode cX6_copyFrom 49 = .ok (.aload_n 1, 1) := by decide +kernel
theorem dX6_copyFrom_50 : decode cX6_copyFrom 50 = .ok (.getfield 51, 3) := by decide +kernel
theorem dX6_copyFrom_53 : decode cX6_copyFrom 53 = .ok (.putfield 51, 3) := by decide +kernel
theorem dX6_copyFrom_56 : decode cX6_copyFrom 56 = .ok (.aload_n 0, 1) := by decide +kernel
theorem dX6_copyFrom_57 : decode cX6_copyFrom 57 = .ok (.aload_n 1, 1) := by decide +kernel
theorem dX6_copyFrom_58 : decode cX6_copyFrom 58 = .ok (.getfield 54, 3) := by decide +kernel
theorem dX6_copyFrom_61 : decode cX6_copyFrom 61 = .ok (.putfield 54, 3) := by decide +kernel
theorem dX6_copyFrom_64 : decode cX6_copyFrom 64 = .ok (.aload_n 0, 1) := by decide +kernel
theorem dX6_copyFrom_65 : decode cX6_copyFrom 65 = .ok (.getfield 21, 3) := by decide +kernel
theorem dX6_copyFrom_68 : decode cX6_copyFrom 68 = .ok (.aload_n 1, 1) := by decide +kernel
theorem dX6_copyFrom_69 : decode cX6_copyFrom 69 = .ok (.getfield 21, 3) := by decide +kernel
theorem dX6_copyFrom_72 : decode cX6_copyFrom 72 = .ok (.invokevirtual 57, 3) := by decide +kernel
theorem dX6_copyFrom_75 : decode cX6_copyFrom 75 = .ok (.aload_n 0, 1) := by decide +kernel
theorem dX6_copyFrom_76 : decode cX6_copyFrom 76 = .ok (.getfield 28, 3) := by decide +kernel
theorem dX6_copyFrom_79 : decode cX6_copyFrom 79 = .ok (.aload_n 1, 1) := by decide +kernel
theorem dX6_copyFrom_80 : decode cX6_copyFrom 80 = .ok (.getfield 28, 3) := by decide +kernel
theorem dX6_copyFrom_83 : decode cX6_copyFrom 83 = .ok (.invokevirtual 61, 3) := by decide +kernel
theorem dX6_copyFrom_86 : decode cX6_copyFrom 86 = .ok (.aload_n 0, 1) := by decide +kernel
theorem dX6_copyFrom_87 : decode cX6_copyFrom 87 = .ok (.getfield 35, 3) := by decide +kernel
theorem dX6_copyFrom_90 : decode cX6_copyFrom 90 = .ok (.aload_n 1, 1) := by decide +kernel
theorem dX6_copyFrom_91 : decode cX6_copyFrom 91 = .ok (.getfield 35, 3) := by decide +kernel
theorem dX6_copyFrom_94 : decode cX6_copyFrom 94 = .ok (.invokevirtual 64, 3) := by decide +kernel
theorem dX6_copyFrom_97 : decode cX6_copyFrom 97 = .ok (.return_, 1) := by decide +kernel
theorem dX6_addChild_0 : decode cX6_addChild 0 = .ok (.aload_n 0, 1) := by decide +kernel
theorem dX6_addChild_1 : decode cX6_addChild 1 = .ok (.getfield 28, 3) := by decide +kernel
theorem dX6_addChild_4 : decode cX6_addChild 4 = .ok (.invokevirtual 67, 3) := by decide +kernel
theorem dX6_addChild_7 : decode cX6_addChild 7 = .ok (.istore_n 1, 1) := by decide +kernel
theorem dX6_addChild_8 : decode cX6_addChild 8 = .ok (.aload_n 0, 1) := by decide +kernel
theorem dX6_addChild_9 : decode cX6_addChild 9 = .ok (.getfield 28, 3) := by decide +kernel
theorem dX6_addChild_12 : decode cX6_addChild 12 = .ok (.iload_n 1, 1) := by decide +kernel
theorem dX6_addChild_13 : decode cX6_addChild 13 = .ok (.invokevirtual 71, 3) := by decide +kernel
theorem dX6_addChild_16 : decode cX6_addChild 16 = .ok (.iload_n 1, 1) := by decide +kernel
theorem dX6_addChild_17 : decode cX6_addChild 17 = .ok (.ireturn, 1) := by decide +kernel
theorem dX6_removeChild_0 : decode cX6_removeChild 0 = .ok (.aload_n 0, 1) := by decide +kernel
theorem dX6_removeChild_1 : decode cX6_removeChild 1 = .ok (.getfield 28, 3) := by decide +kernel
theorem dX6_removeChild_4 : decode cX6_removeChild 4 = .ok (.getfield 75, 3) := by decide +kernel
theorem dX6_removeChild_7 : decode cX6_removeChild 7 = .ok (.iload_n 1, 1) := by decide +kernel
theorem dX6_removeChild_8 : decode cX6_removeChild 8 = .ok (.invokevirtual 79, 3) := by decide +kernel
theorem dX6_removeChild_11 : decode cX6_removeChild 11 = .ok (.istore_n 2, 1) := by decide +kernel
theorem dX6_removeChild_12 : decode cX6_removeChild 12 = .ok (.aload_n 0, 1) := by decide +kernel
theorem dX6_removeChild_13 : decode cX6_removeChild 13 = .ok (.getfield 28, 3) := by decide +kernel
theorem dX6_removeChild_16 : decode cX6_removeChild 16 = .ok (.iload_n 1, 1) := by decide +kernel
theorem dX6_removeChild_17 : decode cX6_removeChild 17 = .ok (.invokevirtual 85, 3) := by decide +kernel
theorem dX6_removeChild_20 : decode cX6_removeChild 20 = .ok (.istore_n 3, 1) := by decide +kernel
theorem dX6_removeChild_21 : decode cX6_removeChild 21 = .ok (.iconst 0, 1) := by decide +kernel
theorem dX6_removeChild_22 : decode cX6_removeChild 22 = .ok (.istore 4, 2) := by decide +kernel
theorem dX6_removeChild_24 : decode cX6_removeChild 24 = .ok (.iload 4, 2) := by decide +kernel
theorem dX6_removeChild_26 : decode cX6_removeChild 26 = .ok (.iload_n 2, 1) := by decide +kernel
theorem dX6_removeChild_27 : decode cX6_removeChild 27 = .ok (.if_icmp .ge 44, 3) := by decide +kernel
theorem dX6_removeChild_30 : decode cX6_removeChild 30 = .ok (.aload_n 0, 1) := by decide +kernel
theorem dX6_removeChild_31 : decode cX6_removeChild 31 = .ok (.getfield 28, 3) := by decide +kernel
theorem dX6_removeChild_34 : decode cX6_removeChild 34 = .ok (.iload_n 1, 1) := by decide +kernel
theorem dX6_removeChild_35 : decode cX6_removeChild 35 = .ok (.iload 4, 2) := by decide +kernel
theorem dX6_removeChild_37 : decode cX6_removeChild 37 = .ok (.invokevirtual 88, 3) := by decide +kernel
theorem dX6_removeChild_40 : decode cX6_removeChild 40 = .ok (.istore 5, 2) := by decide +kernel
theorem dX6_removeChild_42 : decode cX6_removeChild 42 = .ok (.aload_n 0, 1) := by decide +kernel
theorem dX6_removeChild_43 : decode cX6_removeChild 43 = .ok (.getfield 28, 3) := by decide +kernel
theorem dX6_removeChild_46 : decode cX6_removeChild 46 = .ok (.iload_n 3, 1) := by decide +kernel
theorem dX6_removeChild_47 : decode cX6_removeChild 47 = .ok (.iload 5, 2) := by decide +kernel
theorem dX6_removeChild_49 : decode cX6_removeChild 49 = .ok (.invokevirtual 92, 3) := by decide +kernel
theorem dX6_removeChild_52 : decode cX6_removeChild 52 = .ok (.aload_n 0, 1) := by decide +kernel
theorem dX6_removeChild_53 : decode cX6_removeChild 53 = .ok (.getfield 21, 3) := by decide +kernel
theorem dX6_removeChild_56 : decode cX6_removeChild 56 = .ok (.getfield 96, 3) := by decide +kernel
theorem dX6_removeChild_59 : decode cX6_removeChild 59 = .ok (.iload 5, 2) := by decide +kernel
theorem dX6_removeChild_61 : decode cX6_removeChild 61 = .ok (.iload_n 3, 1) := by decide +kernel
theorem dX6_removeChild_62 : decode cX6_removeChild 62 = .ok (.invokevirtual 99, 3) := by decide +kernel
theorem dX6_removeChild_65 : decode cX6_removeChild 65 = .ok (.iinc 4 1, 3) := by decide +kernel
theorem dX6_removeChild_68 : decode cX6_removeChild 68 = .ok (.goto (-44), 3) := by decide +kernel
theorem dX6_removeChild_71 : decode cX6_removeChild 71 = .ok (.aload_n 0, 1) := by decide +kernel
theorem dX6_removeChild_72 : decode cX6_removeChild 72 = .ok (.getfield 28, 3) := by decide +kernel
theorem dX6_removeChild_75 : decode cX6_removeChild 75 = .ok (.iload_n 1, 1) := by decide +kernel
theorem dX6_removeChild_76 : decode cX6_removeChild 76 = .ok (.invokevirtual 102, 3) := by decide +kernel
theorem dX6_removeChild_79 : decode cX6_removeChild 79 = .ok (.aload_n 0, 1) := by decide +kernel
theorem dX6_removeChild_80 : decode cX6_removeChild 80 = .ok (.getfield 35, 3) := by decide +kernel
theorem dX6_removeChild_83 : decode cX6_removeChild 83 = .ok (.iload_n 1, 1) := by decide +kernel
theorem dX6_removeChild_84 : decode cX6_removeChild 84 = .ok (.invokevirtual 105, 3) := by decide +kernel
theorem dX6_removeChild_87 : decode cX6_removeChild 87 = .ok (.iload_n 2, 1) := by decide +kernel
theorem dX6_removeChild_88 : decode cX6_removeChild 88 = .ok (.ireturn, 1) := by decide +kernel
theorem dX6_mayGoIn_0 : decode cX6_mayGoIn 0 = .ok (.aload_n 0, 1) := by decide +kernel
theorem dX6_mayGoIn_1 : decode cX6_mayGoIn 1 = .ok (.getfield 28, 3) := by decide +kernel
theorem dX6_mayGoIn_4 : decode cX6_mayGoIn 4 = .ok (.iload_n 1, 1) := by decide +kernel
theorem dX6_mayGoIn_5 : decode cX6_mayGoIn 5 = .ok (.invokevirtual 108, 3) := by decide +kernel
theorem dX6_mayGoIn_8 : decode cX6_mayGoIn 8 = .ok (.ifCond .eq 18, 3) := by decide +kernel
theorem dX6_mayGoIn_11 : decode cX6_mayGoIn 11 = .ok (.aload_n 0, 1) := by decide +kernel
theorem dX6_mayGoIn_12 : decode cX6_mayGoIn 12 = .ok (.getfield 28, 3) := by decide +kernel
theorem dX6_mayGoIn_15 : decode cX6_mayGoIn 15 = .ok (.iload_n 1, 1) := by decide +kernel
theorem dX6_mayGoIn_16 : decode cX6_mayGoIn 16 = .ok (.invokevirtual 112, 3) := by decide +kernel
theorem dX6_mayGoIn_19 : decode cX6_mayGoIn 19 = .ok (.ifCond .ne 7, 3) := by decide +kernel
theorem dX6_mayGoIn_22 : decode cX6_mayGoIn 22 = .ok (.iconst 1, 1) := by decide +kernel
theorem dX6_mayGoIn_23 : decode cX6_mayGoIn 23 = .ok (.goto 4, 3) := by decide +kernel
theorem dX6_mayGoIn_26 : decode cX6_mayGoIn 26 = .ok (.iconst 0, 1) := by decide +kernel
theorem dX6_mayGoIn_27 : decode cX6_mayGoIn 27 = .ok (.ireturn, 1) := by decide +kernel
theorem dX6_goIn_0 : decode cX6_goIn 0 = .ok (.aload_n 0, 1) := by decide +kernel
theorem dX6_goIn_1 : decode cX6_goIn 1 = .ok (.getfield 28, 3) := by decide +kernel
theorem dX6_goIn_4 : decode cX6_goIn 4 = .ok (.getfield 115, 3) := by decide +kernel
theorem dX6_goIn_7 : decode cX6_goIn 7 = .ok (.iload_n 1, 1) := by decide +kernel
theorem dX6_goIn_8 : decode cX6_goIn 8 = .ok (.aload_n 0, 1) := by decide +kernel
theorem dX6_goIn_9 : decode cX6_goIn 9 = .ok (.getfield 39, 3) := by decide +kernel
theorem dX6_goIn_12 : decode cX6_goIn 12 = .ok (.invokevirtual 99, 3) := by decide +kernel
theorem dX6_goIn_15 : decode cX6_goIn 15 = .ok (.aload_n 0, 1) := by decide +kernel
theorem dX6_goIn_16 : decode cX6_goIn 16 = .ok (.getfield 39, 3) := by decide +kernel
theorem dX6_goIn_19 : decode cX6_goIn 19 = .ok (.ireturn, 1) := by decide +kernel
theorem dX6_mayLieDown_0 : decode cX6_mayLieDown 0 = .ok (.aload_n 0, 1) := by decide +kernel
theorem dX6_mayLieDown_1 : decode cX6_mayLieDown 1 = .ok (.getfield 28, 3) := by decide +kernel
theorem dX6_mayLieDown_4 : decode cX6_mayLieDown 4 = .ok (.iload_n 1, 1) := by decide +kernel
theorem dX6_mayLieDown_5 : decode cX6_mayLieDown 5 = .ok (.invokevirtual 112, 3) := by decide +kernel
theorem dX6_mayLieDown_8 : decode cX6_mayLieDown 8 = .ok (.ireturn, 1) := by decide +kernel
theorem dX6_lieDown_0 : decode cX6_lieDown 0 = .ok (.aload_n 0, 1) := by decide +kernel
theorem dX6_lieDown_1 : decode cX6_lieDown 1 = .ok (.getfield 35, 3) := by decide +kernel
theorem dX6_lieDown_4 : decode cX6_lieDown 4 = .ok (.iload_n 1, 1) := by decide +kernel
theorem dX6_lieDown_5 : decode cX6_lieDown 5 = .ok (.invokevirtual 118, 3) := by decide +kernel
theorem dX6_lieDown_8 : decode cX6_lieDown 8 = .ok (.istore_n 2, 1) := by decide +kernel
theorem dX6_lieDown_9 : decode cX6_lieDown 9 = .ok (.aload_n 0, 1) := by decide +kernel
theorem dX6_lieDown_10 : decode cX6_lieDown 10 = .ok (.getfield 28, 3) := by decide +kernel
theorem dX6_lieDown_13 : decode cX6_lieDown 13 = .ok (.getfield 115, 3) := by decide +kernel
theorem dX6_lieDown_16 : decode cX6_lieDown 16 = .ok (.iload_n 1, 1) := by decide +kernel
theorem dX6_lieDown_17 : decode cX6_lieDown 17 = .ok (.iconst (-1), 1) := by decide +kernel
theorem dX6_lieDown_18 : decode cX6_lieDown 18 = .ok (.invokevirtual 99, 3) := by decide +kernel
theorem dX6_lieDown_21 : decode cX6_lieDown 21 = .ok (.aload_n 0, 1) := by decide +kernel
theorem dX6_lieDown_22 : decode cX6_lieDown 22 = .ok (.getfield 35, 3) := by decide +kernel
theorem dX6_lieDown_25 : decode cX6_lieDown 25 = .ok (.iload_n 1, 1) := by decide +kernel
theorem dX6_lieDown_26 : decode cX6_lieDown 26 = .ok (.invokevirtual 105, 3) := by decide +kernel
theorem dX6_lieDown_29 : decode cX6_lieDown 29 = .ok (.iload_n 2, 1) := by decide +kernel
theorem dX6_lieDown_30 : decode cX6_lieDown 30 = .ok (.ireturn, 1) := by decide +kernel
theorem dX6_mayStrike_0 : decode cX6_mayStrike 0 = .ok (.aload_n 0, 1) := by decide +kernel
theorem dX6_mayStrike_1 : decode cX6_mayStrike 1 = .ok (.getfield 28, 3) := by decide +kernel
theorem dX6_mayStrike_4 : decode cX6_mayStrike 4 = .ok (.aload_n 0, 1) := by decide +kernel
theorem dX6_mayStrike_5 : decode cX6_mayStrike 5 = .ok (.getfield 39, 3) := by decide +kernel
theorem dX6_mayStrike_8 : decode cX6_mayStrike 8 = .ok (.invokevirtual 121, 3) := by decide +kernel
theorem dX6_mayStrike_11 : decode cX6_mayStrike 11 = .ok (.ifCond .ne 7, 3) := by decide +kernel
theorem dX6_mayStrike_14 : decode cX6_mayStrike 14 = .ok (.iconst 1, 1) := by decide +kernel
theorem dX6_mayStrike_15 : decode cX6_mayStrike 15 = .ok (.goto 4, 3) := by decide +kernel
theorem dX6_mayStrike_18 : decode cX6_mayStrike 18 = .ok (.iconst 0, 1) := by decide +kernel
theorem dX6_mayStrike_19 : decode cX6_mayStrike 19 = .ok (.ireturn, 1) := by decide +kernel
theorem dX6_strike_0 : decode cX6_strike 0 = .ok (.aload_n 0, 1) := by decide +kernel
theorem dX6_strike_1 : decode cX6_strike 1 = .ok (.dup, 1) := by decide +kernel
theorem dX6_strike_2 : decode cX6_strike 2 = .ok (.getfield 39, 3) := by decide +kernel
theorem dX6_strike_5 : decode cX6_strike 5 = .ok (.iconst 1, 1) := by decide +kernel
theorem dX6_strike_6 : decode cX6_strike 6 = .ok (.iadd, 1) := by decide +kernel
theorem dX6_strike_7 : decode cX6_strike 7 = .ok (.putfield 39, 3) := by decide +kernel
theorem dX6_strike_10 : decode cX6_strike 10 = .ok (.aload_n 0, 1) := by decide +kernel
theorem dX6_strike_11 : decode cX6_strike 11 = .ok (.getfield 39, 3) := by decide +kernel
theorem dX6_strike_14 : decode cX6_strike 14 = .ok (.ireturn, 1) := by decide +kernel
theorem dX6_maySprout_0 : decode cX6_maySprout 0 = .ok (.aload_n 0, 1) := by decide +kernel
theorem dX6_maySprout_1 : decode cX6_maySprout 1 = .ok (.getfield 21, 3) := by decide +kernel
theorem dX6_maySprout_4 : decode cX6_maySprout 4 = .ok (.getfield 124, 3) := by decide +kernel
theorem dX6_maySprout_7 : decode cX6_maySprout 7 = .ok (.iload_n 1, 1) := by decide +kernel
theorem dX6_maySprout_8 : decode cX6_maySprout 8 = .ok (.invokevirtual 79, 3) := by decide +kernel
theorem dX6_maySprout_11 : decode cX6_maySprout 11 = .ok (.iconst (-1), 1) := by decide +kernel
theorem dX6_maySprout_12 : decode cX6_maySprout 12 = .ok (.if_icmp .ne 19, 3) := by decide +kernel
theorem dX6_maySprout_15 : decode cX6_maySprout 15 = .ok (.aload_n 0, 1) := by decide +kernel
theorem dX6_maySprout_16 : decode cX6_maySprout 16 = .ok (.getfield 21, 3) := by decide +kernel
theorem dX6_maySprout_19 : decode cX6_maySprout 19 = .ok (.getfield 127, 3) := by decide +kernel
theorem dX6_maySprout_22 : decode cX6_maySprout 22 = .ok (.bipush 120, 2) := by decide +kernel
theorem dX6_maySprout_24 : decode cX6_maySprout 24 = .ok (.if_icmp .ge 7, 3) := by decide +kernel
theorem dX6_maySprout_27 : decode cX6_maySprout 27 = .ok (.iconst 1, 1) := by decide +kernel
theorem dX6_maySprout_28 : decode cX6_maySprout 28 = .ok (.goto 4, 3) := by decide +kernel
theorem dX6_maySprout_31 : decode cX6_maySprout 31 = .ok (.iconst 0, 1) := by decide +kernel
theorem dX6_maySprout_32 : decode cX6_maySprout 32 = .ok (.ireturn, 1) := by decide +kernel
theorem dX6_mayWrite_0 : decode cX6_mayWrite 0 = .ok (.aload_n 0, 1) := by decide +kernel
theorem dX6_mayWrite_1 : decode cX6_mayWrite 1 = .ok (.getfield 28, 3) := by decide +kernel
theorem dX6_mayWrite_4 : decode cX6_mayWrite 4 = .ok (.iload_n 1, 1) := by decide +kernel
theorem dX6_mayWrite_5 : decode cX6_mayWrite 5 = .ok (.invokevirtual 112, 3) := by decide +kernel
theorem dX6_mayWrite_8 : decode cX6_mayWrite 8 = .ok (.ifCond .eq 34, 3) := by decide +kernel
theorem dX6_mayWrite_11 : decode cX6_mayWrite 11 = .ok (.aload_n 0, 1) := by decide +kernel
theorem dX6_mayWrite_12 : decode cX6_mayWrite 12 = .ok (.getfield 35, 3) := by decide +kernel
theorem dX6_mayWrite_15 : decode cX6_mayWrite 15 = .ok (.iload_n 1, 1) := by decide +kernel
theorem dX6_mayWrite_16 : decode cX6_mayWrite 16 = .ok (.iload_n 2, 1) := by decide +kernel
theorem dX6_mayWrite_17 : decode cX6_mayWrite 17 = .ok (.invokevirtual 130, 3) := by decide +kernel
theorem dX6_mayWrite_20 : decode cX6_mayWrite 20 = .ok (.ifCond .ne 22, 3) := by decide +kernel
theorem dX6_mayWrite_23 : decode cX6_mayWrite 23 = .ok (.aload_n 0, 1) := by decide +kernel
theorem dX6_mayWrite_24 : decode cX6_mayWrite 24 = .ok (.getfield 21, 3) := by decide +kernel
theorem dX6_mayWrite_27 : decode cX6_mayWrite 27 = .ok (.getfield 124, 3) := by decide +kernel
theorem dX6_mayWrite_30 : decode cX6_mayWrite 30 = .ok (.iload_n 3, 1) := by decide +kernel
theorem dX6_mayWrite_31 : decode cX6_mayWrite 31 = .ok (.invokevirtual 79, 3) := by decide +kernel
theorem dX6_mayWrite_34 : decode cX6_mayWrite 34 = .ok (.iconst (-1), 1) := by decide +kernel
theorem dX6_mayWrite_35 : decode cX6_mayWrite 35 = .ok (.if_icmp .eq 7, 3) := by decide +kernel
theorem dX6_mayWrite_38 : decode cX6_mayWrite 38 = .ok (.iconst 1, 1) := by decide +kernel
theorem dX6_mayWrite_39 : decode cX6_mayWrite 39 = .ok (.goto 4, 3) := by decide +kernel
theorem dX6_mayWrite_42 : decode cX6_mayWrite 42 = .ok (.iconst 0, 1) := by decide +kernel
theorem dX6_mayWrite_43 : decode cX6_mayWrite 43 = .ok (.ireturn, 1) := by decide +kernel
theorem dX6_write_0 : decode cX6_write 0 = .ok (.aload_n 0, 1) := by decide +kernel
theorem dX6_write_1 : decode cX6_write 1 = .ok (.getfield 21, 3) := by decide +kernel
theorem dX6_write_4 : decode cX6_write 4 = .ok (.getfield 124, 3) := by decide +kernel
theorem dX6_write_7 : decode cX6_write 7 = .ok (.iload_n 3, 1) := by decide +kernel
theorem dX6_write_8 : decode cX6_write 8 = .ok (.invokevirtual 79, 3) := by decide +kernel
theorem dX6_write_11 : decode cX6_write 11 = .ok (.istore 4, 2) := by decide +kernel
theorem dX6_write_13 : decode cX6_write 13 = .ok (.aload_n 0, 1) := by decide +kernel
theorem dX6_write_14 : decode cX6_write 14 = .ok (.getfield 35, 3) := by decide +kernel
theorem dX6_write_17 : decode cX6_write 17 = .ok (.iload_n 1, 1) := by decide +kernel
theorem dX6_write_18 : decode cX6_write 18 = .ok (.iload_n 2, 1) := by decide +kernel
theorem dX6_write_19 : decode cX6_write 19 = .ok (.iload 4, 2) := by decide +kernel
theorem dX6_write_21 : decode cX6_write 21 = .ok (.iload_n 3, 1) := by decide +kernel
theorem dX6_write_22 : decode cX6_write 22 = .ok (.invokevirtual 133, 3) := by decide +kernel
theorem dX6_write_25 : decode cX6_write 25 = .ok (.iload 4, 2) := by decide +kernel
theorem dX6_write_27 : decode cX6_write 27 = .ok (.ireturn, 1) := by decide +kernel
theorem dX6_mayFasten_0 : decode cX6_mayFasten 0 = .ok (.aload_n 0, 1) := by decide +kernel
theorem dX6_mayFasten_1 : decode cX6_mayFasten 1 = .ok (.getfield 35, 3) := by decide +kernel
theorem dX6_mayFasten_4 : decode cX6_mayFasten 4 = .ok (.iload_n 1, 1) := by decide +kernel
theorem dX6_mayFasten_5 : decode cX6_mayFasten 5 = .ok (.iload_n 2, 1) := by decide +kernel
theorem dX6_mayFasten_6 : decode cX6_mayFasten 6 = .ok (.invokevirtual 130, 3) := by decide +kernel
theorem dX6_mayFasten_9 : decode cX6_mayFasten 9 = .ok (.iconst 1, 1) := by decide +kernel
theorem dX6_mayFasten_10 : decode cX6_mayFasten 10 = .ok (.if_icmp .ne 7, 3) := by decide +kernel
theorem dX6_mayFasten_13 : decode cX6_mayFasten 13 = .ok (.iconst 1, 1) := by decide +kernel
theorem dX6_mayFasten_14 : decode cX6_mayFasten 14 = .ok (.goto 4, 3) := by decide +kernel
theorem dX6_mayFasten_17 : decode cX6_mayFasten 17 = .ok (.iconst 0, 1) := by decide +kernel
theorem dX6_mayFasten_18 : decode cX6_mayFasten 18 = .ok (.ireturn, 1) := by decide +kernel
theorem dX6_fasten_0 : decode cX6_fasten 0 = .ok (.aload_n 0, 1) := by decide +kernel
theorem dX6_fasten_1 : decode cX6_fasten 1 = .ok (.getfield 35, 3) := by decide +kernel
theorem dX6_fasten_4 : decode cX6_fasten 4 = .ok (.iload_n 1, 1) := by decide +kernel
theorem dX6_fasten_5 : decode cX6_fasten 5 = .ok (.iload_n 2, 1) := by decide +kernel
theorem dX6_fasten_6 : decode cX6_fasten 6 = .ok (.invokevirtual 137, 3) := by decide +kernel
theorem dX6_fasten_9 : decode cX6_fasten 9 = .ok (.istore_n 3, 1) := by decide +kernel
theorem dX6_fasten_10 : decode cX6_fasten 10 = .ok (.aload_n 0, 1) := by decide +kernel
theorem dX6_fasten_11 : decode cX6_fasten 11 = .ok (.getfield 21, 3) := by decide +kernel
theorem dX6_fasten_14 : decode cX6_fasten 14 = .ok (.getfield 124, 3) := by decide +kernel
theorem dX6_fasten_17 : decode cX6_fasten 17 = .ok (.aload_n 0, 1) := by decide +kernel
theorem dX6_fasten_18 : decode cX6_fasten 18 = .ok (.getfield 35, 3) := by decide +kernel
theorem dX6_fasten_21 : decode cX6_fasten 21 = .ok (.iload_n 1, 1) := by decide +kernel
theorem dX6_fasten_22 : decode cX6_fasten 22 = .ok (.iload_n 2, 1) := by decide +kernel
theorem dX6_fasten_23 : decode cX6_fasten 23 = .ok (.invokevirtual 140, 3) := by decide +kernel
theorem dX6_fasten_26 : decode cX6_fasten 26 = .ok (.invokevirtual 79, 3) := by decide +kernel
theorem dX6_fasten_29 : decode cX6_fasten 29 = .ok (.iload_n 3, 1) := by decide +kernel
theorem dX6_fasten_30 : decode cX6_fasten 30 = .ok (.if_icmp .ne 14, 3) := by decide +kernel
theorem dX6_fasten_33 : decode cX6_fasten 33 = .ok (.aload_n 0, 1) := by decide +kernel
theorem dX6_fasten_34 : decode cX6_fasten 34 = .ok (.getfield 35, 3) := by decide +kernel
theorem dX6_fasten_37 : decode cX6_fasten 37 = .ok (.iload_n 1, 1) := by decide +kernel
theorem dX6_fasten_38 : decode cX6_fasten 38 = .ok (.iload_n 2, 1) := by decide +kernel
theorem dX6_fasten_39 : decode cX6_fasten 39 = .ok (.invokevirtual 143, 3) := by decide +kernel
theorem dX6_fasten_42 : decode cX6_fasten 42 = .ok (.iconst 1, 1) := by decide +kernel
theorem dX6_fasten_43 : decode cX6_fasten 43 = .ok (.ireturn, 1) := by decide +kernel
theorem dX6_fasten_44 : decode cX6_fasten 44 = .ok (.aload_n 0, 1) := by decide +kernel
theorem dX6_fasten_45 : decode cX6_fasten 45 = .ok (.getfield 35, 3) := by decide +kernel
theorem dX6_fasten_48 : decode cX6_fasten 48 = .ok (.iload_n 1, 1) := by decide +kernel
theorem dX6_fasten_49 : decode cX6_fasten 49 = .ok (.iload_n 2, 1) := by decide +kernel
theorem dX6_fasten_50 : decode cX6_fasten 50 = .ok (.invokevirtual 146, 3) := by decide +kernel
theorem dX6_fasten_53 : decode cX6_fasten 53 = .ok (.aload_n 0, 1) := by decide +kernel
theorem dX6_fasten_54 : decode cX6_fasten 54 = .ok (.dup, 1) := by decide +kernel
theorem dX6_fasten_55 : decode cX6_fasten 55 = .ok (.getfield 48, 3) := by decide +kernel
theorem dX6_fasten_58 : decode cX6_fasten 58 = .ok (.iconst 1, 1) := by decide +kernel
theorem dX6_fasten_59 : decode cX6_fasten 59 = .ok (.iadd, 1) := by decide +kernel
theorem dX6_fasten_60 : decode cX6_fasten 60 = .ok (.putfield 48, 3) := by decide +kernel
theorem dX6_fasten_63 : decode cX6_fasten 63 = .ok (.iconst 0, 1) := by decide +kernel
theorem dX6_fasten_64 : decode cX6_fasten 64 = .ok (.ireturn, 1) := by decide +kernel
theorem dX6_mayRelease_0 : decode cX6_mayRelease 0 = .ok (.aload_n 0, 1) := by decide +kernel
theorem dX6_mayRelease_1 : decode cX6_mayRelease 1 = .ok (.getfield 35, 3) := by decide +kernel
theorem dX6_mayRelease_4 : decode cX6_mayRelease 4 = .ok (.iload_n 1, 1) := by decide +kernel
theorem dX6_mayRelease_5 : decode cX6_mayRelease 5 = .ok (.iload_n 2, 1) := by decide +kernel
theorem dX6_mayRelease_6 : decode cX6_mayRelease 6 = .ok (.invokevirtual 130, 3) := by decide +kernel
theorem dX6_mayRelease_9 : decode cX6_mayRelease 9 = .ok (.ifCond .eq 7, 3) := by decide +kernel
theorem dX6_mayRelease_12 : decode cX6_mayRelease 12 = .ok (.iconst 1, 1) := by decide +kernel
theorem dX6_mayRelease_13 : decode cX6_mayRelease 13 = .ok (.goto 4, 3) := by decide +kernel
theorem dX6_mayRelease_16 : decode cX6_mayRelease 16 = .ok (.iconst 0, 1) := by decide +kernel
theorem dX6_mayRelease_17 : decode cX6_mayRelease 17 = .ok (.ireturn, 1) := by decide +kernel
theorem dX6_release_0 : decode cX6_release 0 = .ok (.aload_n 0, 1) := by decide +kernel
theorem dX6_release_1 : decode cX6_release 1 = .ok (.getfield 35, 3) := by decide +kernel
theorem dX6_release_4 : decode cX6_release 4 = .ok (.iload_n 1, 1) := by decide +kernel
theorem dX6_release_5 : decode cX6_release 5 = .ok (.iload_n 2, 1) := by decide +kernel
theorem dX6_release_6 : decode cX6_release 6 = .ok (.invokevirtual 137, 3) := by decide +kernel
theorem dX6_release_9 : decode cX6_release 9 = .ok (.istore_n 3, 1) := by decide +kernel
theorem dX6_release_10 : decode cX6_release 10 = .ok (.aload_n 0, 1) := by decide +kernel
theorem dX6_release_11 : decode cX6_release 11 = .ok (.getfield 35, 3) := by decide +kernel
theorem dX6_release_14 : decode cX6_release 14 = .ok (.iload_n 1, 1) := by decide +kernel
theorem dX6_release_15 : decode cX6_release 15 = .ok (.iload_n 2, 1) := by decide +kernel
theorem dX6_release_16 : decode cX6_release 16 = .ok (.invokevirtual 146, 3) := by decide +kernel
theorem dX6_release_19 : decode cX6_release 19 = .ok (.iload_n 3, 1) := by decide +kernel
theorem dX6_release_20 : decode cX6_release 20 = .ok (.ireturn, 1) := by decide +kernel
theorem dX6_lookThrough_0 : decode cX6_lookThrough 0 = .ok (.aload_n 0, 1) := by decide +kernel
theorem dX6_lookThrough_1 : decode cX6_lookThrough 1 = .ok (.getfield 35, 3) := by decide +kernel
theorem dX6_lookThrough_4 : decode cX6_lookThrough 4 = .ok (.iload_n 1, 1) := by decide +kernel
theorem dX6_lookThrough_5 : decode cX6_lookThrough 5 = .ok (.iload_n 2, 1) := by decide +kernel
theorem dX6_lookThrough_6 : decode cX6_lookThrough 6 = .ok (.invokevirtual 137, 3) := by decide +kernel
theorem dX6_lookThrough_9 : decode cX6_lookThrough 9 = .ok (.istore_n 3, 1) := by decide +kernel
theorem dX6_lookThrough_10 : decode cX6_lookThrough 10 = .ok (.aload_n 0, 1) := by decide +kernel
theorem dX6_lookThrough_11 : decode cX6_lookThrough 11 = .ok (.getfield 35, 3) := by decide +kernel
theorem dX6_lookThrough_14 : decode cX6_lookThrough 14 = .ok (.iload_n 1, 1) := by decide +kernel
theorem dX6_lookThrough_15 : decode cX6_lookThrough 15 = .ok (.iload_n 2, 1) := by decide +kernel
theorem dX6_lookThrough_16 : decode cX6_lookThrough 16 = .ok (.invokevirtual 130, 3) := by decide +kernel
theorem dX6_lookThrough_19 : decode cX6_lookThrough 19 = .ok (.iconst 1, 1) := by decide +kernel
theorem dX6_lookThrough_20 : decode cX6_lookThrough 20 = .ok (.if_icmp .ne 30, 3) := by decide +kernel
theorem dX6_lookThrough_23 : decode cX6_lookThrough 23 = .ok (.aload_n 0, 1) := by decide +kernel
theorem dX6_lookThrough_24 : decode cX6_lookThrough 24 = .ok (.getfield 21, 3) := by decide +kernel
theorem dX6_lookThrough_27 : decode cX6_lookThrough 27 = .ok (.getfield 149, 3) := by decide +kernel
theorem dX6_lookThrough_30 : decode cX6_lookThrough 30 = .ok (.iload_n 3, 1) := by decide +kernel
theorem dX6_lookThrough_31 : decode cX6_lookThrough 31 = .ok (.invokevirtual 79, 3) := by decide +kernel
theorem dX6_lookThrough_34 : decode cX6_lookThrough 34 = .ok (.iconst 2, 1) := by decide +kernel
theorem dX6_lookThrough_35 : decode cX6_lookThrough 35 = .ok (.if_icmp .ne 15, 3) := by decide +kernel
theorem dX6_lookThrough_38 : decode cX6_lookThrough 38 = .ok (.aload_n 0, 1) := by decide +kernel
theorem dX6_lookThrough_39 : decode cX6_lookThrough 39 = .ok (.dup, 1) := by decide +kernel
theorem dX6_lookThrough_40 : decode cX6_lookThrough 40 = .ok (.getfield 51, 3) := by decide +kernel
theorem dX6_lookThrough_43 : decode cX6_lookThrough 43 = .ok (.iconst 1, 1) := by decide +kernel
theorem dX6_lookThrough_44 : decode cX6_lookThrough 44 = .ok (.iadd, 1) := by decide +kernel
theorem dX6_lookThrough_45 : decode cX6_lookThrough 45 = .ok (.putfield 51, 3) := by decide +kernel
theorem dX6_lookThrough_48 : decode cX6_lookThrough 48 = .ok (.iconst (-1), 1) := by decide +kernel
theorem dX6_lookThrough_49 : decode cX6_lookThrough 49 = .ok (.ireturn, 1) := by decide +kernel
theorem dX6_lookThrough_50 : decode cX6_lookThrough 50 = .ok (.aload_n 0, 1) := by decide +kernel
theorem dX6_lookThrough_51 : decode cX6_lookThrough 51 = .ok (.getfield 21, 3) := by decide +kernel
theorem dX6_lookThrough_54 : decode cX6_lookThrough 54 = .ok (.getfield 152, 3) := by decide +kernel
theorem dX6_lookThrough_57 : decode cX6_lookThrough 57 = .ok (.iload_n 3, 1) := by decide +kernel
theorem dX6_lookThrough_58 : decode cX6_lookThrough 58 = .ok (.invokevirtual 79, 3) := by decide +kernel
theorem dX6_lookThrough_61 : decode cX6_lookThrough 61 = .ok (.ireturn, 1) := by decide +kernel
theorem dX6_mayTakeOff_0 : decode cX6_mayTakeOff 0 = .ok (.aload_n 0, 1) := by decide +kernel
theorem dX6_mayTakeOff_1 : decode cX6_mayTakeOff 1 = .ok (.getfield 28, 3) := by decide +kernel
theorem dX6_mayTakeOff_4 : decode cX6_mayTakeOff 4 = .ok (.iload_n 1, 1) := by decide +kernel
theorem dX6_mayTakeOff_5 : decode cX6_mayTakeOff 5 = .ok (.invokevirtual 112, 3) := by decide +kernel
theorem dX6_mayTakeOff_8 : decode cX6_mayTakeOff 8 = .ok (.ifCond .eq 22, 3) := by decide +kernel
theorem dX6_mayTakeOff_11 : decode cX6_mayTakeOff 11 = .ok (.aload_n 0, 1) := by decide +kernel
theorem dX6_mayTakeOff_12 : decode cX6_mayTakeOff 12 = .ok (.getfield 21, 3) := by decide +kernel
theorem dX6_mayTakeOff_15 : decode cX6_mayTakeOff 15 = .ok (.getfield 124, 3) := by decide +kernel
theorem dX6_mayTakeOff_18 : decode cX6_mayTakeOff 18 = .ok (.iload_n 2, 1) := by decide +kernel
theorem dX6_mayTakeOff_19 : decode cX6_mayTakeOff 19 = .ok (.invokevirtual 79, 3) := by decide +kernel
theorem dX6_mayTakeOff_22 : decode cX6_mayTakeOff 22 = .ok (.iconst (-1), 1) := by decide +kernel
theorem dX6_mayTakeOff_23 : decode cX6_mayTakeOff 23 = .ok (.if_icmp .eq 7, 3) := by decide +kernel
theorem dX6_mayTakeOff_26 : decode cX6_mayTakeOff 26 = .ok (.iconst 1, 1) := by decide +kernel
theorem dX6_mayTakeOff_27 : decode cX6_mayTakeOff 27 = .ok (.goto 4, 3) := by decide +kernel
theorem dX6_mayTakeOff_30 : decode cX6_mayTakeOff 30 = .ok (.iconst 0, 1) := by decide +kernel
theorem dX6_mayTakeOff_31 : decode cX6_mayTakeOff 31 = .ok (.ireturn, 1) := by decide +kernel
theorem dX6_takeOff_0 : decode cX6_takeOff 0 = .ok (.aload_n 0, 1) := by decide +kernel
theorem dX6_takeOff_1 : decode cX6_takeOff 1 = .ok (.getfield 21, 3) := by decide +kernel
theorem dX6_takeOff_4 : decode cX6_takeOff 4 = .ok (.getfield 124, 3) := by decide +kernel
theorem dX6_takeOff_7 : decode cX6_takeOff 7 = .ok (.iload_n 2, 1) := by decide +kernel
theorem dX6_takeOff_8 : decode cX6_takeOff 8 = .ok (.invokevirtual 79, 3) := by decide +kernel
theorem dX6_takeOff_11 : decode cX6_takeOff 11 = .ok (.istore_n 3, 1) := by decide +kernel
theorem dX6_takeOff_12 : decode cX6_takeOff 12 = .ok (.aload_n 0, 1) := by decide +kernel
theorem dX6_takeOff_13 : decode cX6_takeOff 13 = .ok (.getfield 21, 3) := by decide +kernel
theorem dX6_takeOff_16 : decode cX6_takeOff 16 = .ok (.iload_n 3, 1) := by decide +kernel
theorem dX6_takeOff_17 : decode cX6_takeOff 17 = .ok (.iload_n 1, 1) := by decide +kernel
theorem dX6_takeOff_18 : decode cX6_takeOff 18 = .ok (.aload_n 0, 1) := by decide +kernel
theorem dX6_takeOff_19 : decode cX6_takeOff 19 = .ok (.getfield 39, 3) := by decide +kernel
theorem dX6_takeOff_22 : decode cX6_takeOff 22 = .ok (.invokevirtual 155, 3) := by decide +kernel
theorem dX6_takeOff_25 : decode cX6_takeOff 25 = .ok (.aload_n 0, 1) := by decide +kernel
theorem dX6_takeOff_26 : decode cX6_takeOff 26 = .ok (.getfield 28, 3) := by decide +kernel
theorem dX6_takeOff_29 : decode cX6_takeOff 29 = .ok (.iload_n 1, 1) := by decide +kernel
theorem dX6_takeOff_30 : decode cX6_takeOff 30 = .ok (.iload_n 3, 1) := by decide +kernel
theorem dX6_takeOff_31 : decode cX6_takeOff 31 = .ok (.invokevirtual 92, 3) := by decide +kernel
theorem dX6_takeOff_34 : decode cX6_takeOff 34 = .ok (.aload_n 0, 1) := by decide +kernel
theorem dX6_takeOff_35 : decode cX6_takeOff 35 = .ok (.getfield 28, 3) := by decide +kernel
theorem dX6_takeOff_38 : decode cX6_takeOff 38 = .ok (.getfield 159, 3) := by decide +kernel
theorem dX6_takeOff_41 : decode cX6_takeOff 41 = .ok (.iload_n 1, 1) := by decide +kernel
theorem dX6_takeOff_42 : decode cX6_takeOff 42 = .ok (.iconst 1, 1) := by decide +kernel
theorem dX6_takeOff_43 : decode cX6_takeOff 43 = .ok (.invokevirtual 162, 3) := by decide +kernel
theorem dX6_takeOff_46 : decode cX6_takeOff 46 = .ok (.aload_n 0, 1) := by decide +kernel
theorem dX6_takeOff_47 : decode cX6_takeOff 47 = .ok (.getfield 28, 3) := by decide +kernel
theorem dX6_takeOff_50 : decode cX6_takeOff 50 = .ok (.getfield 75, 3) := by decide +kernel
theorem dX6_takeOff_53 : decode cX6_takeOff 53 = .ok (.iload_n 1, 1) := by decide +kernel
theorem dX6_takeOff_54 : decode cX6_takeOff 54 = .ok (.invokevirtual 79, 3) := by decide +kernel
theorem dX6_takeOff_57 : decode cX6_takeOff 57 = .ok (.aload_n 0, 1) := by decide +kernel
theorem dX6_takeOff_58 : decode cX6_takeOff 58 = .ok (.getfield 9, 3) := by decide +kernel
theorem dX6_takeOff_61 : decode cX6_takeOff 61 = .ok (.if_icmp .lt 11, 3) := by decide +kernel
theorem dX6_takeOff_64 : decode cX6_takeOff 64 = .ok (.aload_n 0, 1) := by decide +kernel
theorem dX6_takeOff_65 : decode cX6_takeOff 65 = .ok (.iload_n 1, 1) := by decide +kernel
theorem dX6_takeOff_66 : decode cX6_takeOff 66 = .ok (.invokevirtual 165, 3) := by decide +kernel
theorem dX6_takeOff_69 : decode cX6_takeOff 69 = .ok (.goto 4, 3) := by decide +kernel
theorem dX6_takeOff_72 : decode cX6_takeOff 72 = .ok (.iconst 0, 1) := by decide +kernel
theorem dX6_takeOff_73 : decode cX6_takeOff 73 = .ok (.istore 4, 2) := by decide +kernel
theorem dX6_takeOff_75 : decode cX6_takeOff 75 = .ok (.aload_n 0, 1) := by decide +kernel
theorem dX6_takeOff_76 : decode cX6_takeOff 76 = .ok (.aload_n 0, 1) := by decide +kernel
theorem dX6_takeOff_77 : decode cX6_takeOff 77 = .ok (.getfield 54, 3) := by decide +kernel
theorem dX6_takeOff_80 : decode cX6_takeOff 80 = .ok (.aload_n 0, 1) := by decide +kernel
theorem dX6_takeOff_81 : decode cX6_takeOff 81 = .ok (.getfield 21, 3) := by decide +kernel
theorem dX6_takeOff_84 : decode cX6_takeOff 84 = .ok (.iconst 1, 1) := by decide +kernel
theorem dX6_takeOff_85 : decode cX6_takeOff 85 = .ok (.invokevirtual 168, 3) := by decide +kernel
theorem dX6_takeOff_88 : decode cX6_takeOff 88 = .ok (.invokestatic 171, 3) := by decide +kernel
theorem dX6_takeOff_91 : decode cX6_takeOff 91 = .ok (.putfield 54, 3) := by decide +kernel
theorem dX6_takeOff_94 : decode cX6_takeOff 94 = .ok (.iload 4, 2) := by decide +kernel
theorem dX6_takeOff_96 : decode cX6_takeOff 96 = .ok (.ireturn, 1) := by decide +kernel
theorem dX6_mayExchange_0 : decode cX6_mayExchange 0 = .ok (.aload_n 0, 1) := by decide +kernel
theorem dX6_mayExchange_1 : decode cX6_mayExchange 1 = .ok (.iload_n 1, 1) := by decide +kernel
theorem dX6_mayExchange_2 : decode cX6_mayExchange 2 = .ok (.iload_n 2, 1) := by decide +kernel
theorem dX6_mayExchange_3 : decode cX6_mayExchange 3 = .ok (.invokevirtual 176, 3) := by decide +kernel
theorem dX6_mayExchange_6 : decode cX6_mayExchange 6 = .ok (.ifCond .eq 19, 3) := by decide +kernel
theorem dX6_mayExchange_9 : decode cX6_mayExchange 9 = .ok (.aload_n 0, 1) := by decide +kernel
theorem dX6_mayExchange_10 : decode cX6_mayExchange 10 = .ok (.getfield 21, 3) := by decide +kernel
theorem dX6_mayExchange_13 : decode cX6_mayExchange 13 = .ok (.getfield 127, 3) := by decide +kernel
theorem dX6_mayExchange_16 : decode cX6_mayExchange 16 = .ok (.bipush 120, 2) := by decide +kernel
theorem dX6_mayExchange_18 : decode cX6_mayExchange 18 = .ok (.if_icmp .ge 7, 3) := by decide +kernel
theorem dX6_mayExchange_21 : decode cX6_mayExchange 21 = .ok (.iconst 1, 1) := by decide +kernel
theorem dX6_mayExchange_22 : decode cX6_mayExchange 22 = .ok (.goto 4, 3) := by decide +kernel
theorem dX6_mayExchange_25 : decode cX6_mayExchange 25 = .ok (.iconst 0, 1) := by decide +kernel
theorem dX6_mayExchange_26 : decode cX6_mayExchange 26 = .ok (.ireturn, 1) := by decide +kernel
theorem dX6_exchange_0 : decode cX6_exchange 0 = .ok (.aload_n 0, 1) := by decide +kernel
theorem dX6_exchange_1 : decode cX6_exchange 1 = .ok (.iload_n 1, 1) := by decide +kernel
theorem dX6_exchange_2 : decode cX6_exchange 2 = .ok (.iload_n 2, 1) := by decide +kernel
theorem dX6_exchange_3 : decode cX6_exchange 3 = .ok (.invokevirtual 180, 3) := by decide +kernel
theorem dX6_exchange_6 : decode cX6_exchange 6 = .ok (.pop, 1) := by decide +kernel
theorem dX6_exchange_7 : decode cX6_exchange 7 = .ok (.aload_n 0, 1) := by decide +kernel
theorem dX6_exchange_8 : decode cX6_exchange 8 = .ok (.getfield 21, 3) := by decide +kernel
theorem dX6_exchange_11 : decode cX6_exchange 11 = .ok (.iload_n 2, 1) := by decide +kernel
theorem dX6_exchange_12 : decode cX6_exchange 12 = .ok (.iload_n 3, 1) := by decide +kernel
theorem dX6_exchange_13 : decode cX6_exchange 13 = .ok (.invokevirtual 183, 3) := by decide +kernel
theorem dX6_exchange_16 : decode cX6_exchange 16 = .ok (.ireturn, 1) := by decide +kernel
theorem dX6_mayClear_0 : decode cX6_mayClear 0 = .ok (.aload_n 0, 1) := by decide +kernel
theorem dX6_mayClear_1 : decode cX6_mayClear 1 = .ok (.getfield 28, 3) := by decide +kernel
theorem dX6_mayClear_4 : decode cX6_mayClear 4 = .ok (.getfield 75, 3) := by decide +kernel
theorem dX6_mayClear_7 : decode cX6_mayClear 7 = .ok (.iload_n 1, 1) := by decide +kernel
theorem dX6_mayClear_8 : decode cX6_mayClear 8 = .ok (.invokevirtual 79, 3) := by decide +kernel
theorem dX6_mayClear_11 : decode cX6_mayClear 11 = .ok (.ifCond .le 7, 3) := by decide +kernel
theorem dX6_mayClear_14 : decode cX6_mayClear 14 = .ok (.iconst 1, 1) := by decide +kernel
theorem dX6_mayClear_15 : decode cX6_mayClear 15 = .ok (.goto 4, 3) := by decide +kernel
theorem dX6_mayClear_18 : decode cX6_mayClear 18 = .ok (.iconst 0, 1) := by decide +kernel
theorem dX6_mayClear_19 : decode cX6_mayClear 19 = .ok (.ireturn, 1) := by decide +kernel
theorem dX6_clear_0 : decode cX6_clear 0 = .ok (.aload_n 0, 1) := by decide +kernel
theorem dX6_clear_1 : decode cX6_clear 1 = .ok (.getfield 28, 3) := by decide +kernel
theorem dX6_clear_4 : decode cX6_clear 4 = .ok (.getfield 75, 3) := by decide +kernel
theorem dX6_clear_7 : decode cX6_clear 7 = .ok (.iload_n 1, 1) := by decide +kernel
theorem dX6_clear_8 : decode cX6_clear 8 = .ok (.invokevirtual 79, 3) := by decide +kernel
theorem dX6_clear_11 : decode cX6_clear 11 = .ok (.istore_n 2, 1) := by decide +kernel
theorem dX6_clear_12 : decode cX6_clear 12 = .ok (.iload_n 1, 1) := by decide +kernel
theorem dX6_clear_13 : decode cX6_clear 13 = .ok (.bipush 120, 2) := by decide +kernel
theorem dX6_clear_15 : decode cX6_clear 15 = .ok (.imul, 1) := by decide +kernel
theorem dX6_clear_16 : decode cX6_clear 16 = .ok (.istore_n 3, 1) := by decide +kernel
theorem dX6_clear_17 : decode cX6_clear 17 = .ok (.iconst 0, 1) := by decide +kernel
theorem dX6_clear_18 : decode cX6_clear 18 = .ok (.istore 4, 2) := by decide +kernel
theorem dX6_clear_20 : decode cX6_clear 20 = .ok (.iconst 0, 1) := by decide +kernel
theorem dX6_clear_21 : decode cX6_clear 21 = .ok (.istore 5, 2) := by decide +kernel
theorem dX6_clear_23 : decode cX6_clear 23 = .ok (.iload 5, 2) := by decide +kernel
theorem dX6_clear_25 : decode cX6_clear 25 = .ok (.iload_n 2, 1) := by decide +kernel
theorem dX6_clear_26 : decode cX6_clear 26 = .ok (.if_icmp .ge 70, 3) := by decide +kernel
theorem dX6_clear_29 : decode cX6_clear 29 = .ok (.aload_n 0, 1) := by decide +kernel
theorem dX6_clear_30 : decode cX6_clear 30 = .ok (.getfield 28, 3) := by decide +kernel
theorem dX6_clear_33 : decode cX6_clear 33 = .ok (.getfield 186, 3) := by decide +kernel
theorem dX6_clear_36 : decode cX6_clear 36 = .ok (.iload_n 3, 1) := by decide +kernel
theorem dX6_clear_37 : decode cX6_clear 37 = .ok (.iload 5, 2) := by decide +kernel
theorem dX6_clear_39 : decode cX6_clear 39 = .ok (.iadd, 1) := by decide +kernel
theorem dX6_clear_40 : decode cX6_clear 40 = .ok (.invokevirtual 79, 3) := by decide +kernel
theorem dX6_clear_43 : decode cX6_clear 43 = .ok (.istore 6, 2) := by decide +kernel
theorem dX6_clear_45 : decode cX6_clear 45 = .ok (.aload_n 0, 1) := by decide +kernel
theorem dX6_clear_46 : decode cX6_clear 46 = .ok (.iload 6, 2) := by decide +kernel
theorem dX6_clear_48 : decode cX6_clear 48 = .ok (.aload_n 0, 1) := by decide +kernel
theorem dX6_clear_49 : decode cX6_clear 49 = .ok (.getfield 15, 3) := by decide +kernel
theorem dX6_clear_52 : decode cX6_clear 52 = .ok (.iconst (-1), 1) := by decide +kernel
theorem dX6_clear_53 : decode cX6_clear 53 = .ok (.invokevirtual 189, 3) := by decide +kernel
theorem dX6_clear_56 : decode cX6_clear 56 = .ok (.ifCond .eq 15, 3) := by decide +kernel
theorem dX6_clear_59 : decode cX6_clear 59 = .ok (.aload_n 0, 1) := by decide +kernel
theorem dX6_clear_60 : decode cX6_clear 60 = .ok (.getfield 21, 3) := by decide +kernel
theorem dX6_clear_63 : decode cX6_clear 63 = .ok (.iload 6, 2) := by decide +kernel
theorem dX6_clear_65 : decode cX6_clear 65 = .ok (.invokevirtual 193, 3) := by decide +kernel
theorem dX6_clear_68 : decode cX6_clear 68 = .ok (.goto 22, 3) := by decide +kernel
theorem dX6_clear_71 : decode cX6_clear 71 = .ok (.aload_n 0, 1) := by decide +kernel
theorem dX6_clear_72 : decode cX6_clear 72 = .ok (.getfield 28, 3) := by decide +kernel
theorem dX6_clear_75 : decode cX6_clear 75 = .ok (.getfield 186, 3) := by decide +kernel
theorem dX6_clear_78 : decode cX6_clear 78 = .ok (.iload_n 3, 1) := by decide +kernel
theorem dX6_clear_79 : decode cX6_clear 79 = .ok (.iload 4, 2) := by decide +kernel
theorem dX6_clear_81 : decode cX6_clear 81 = .ok (.iadd, 1) := by decide +kernel
theorem dX6_clear_82 : decode cX6_clear 82 = .ok (.iload 6, 2) := by decide +kernel
theorem dX6_clear_84 : decode cX6_clear 84 = .ok (.invokevirtual 99, 3) := by decide +kernel
theorem dX6_clear_87 : decode cX6_clear 87 = .ok (.iinc 4 1, 3) := by decide +kernel
theorem dX6_clear_90 : decode cX6_clear 90 = .ok (.iinc 5 1, 3) := by decide +kernel
theorem dX6_clear_93 : decode cX6_clear 93 = .ok (.goto (-70), 3) := by decide +kernel
theorem dX6_clear_96 : decode cX6_clear 96 = .ok (.aload_n 0, 1) := by decide +kernel
theorem dX6_clear_97 : decode cX6_clear 97 = .ok (.getfield 28, 3) := by decide +kernel
theorem dX6_clear_100 : decode cX6_clear 100 = .ok (.getfield 75, 3) := by decide +kernel
theorem dX6_clear_103 : decode cX6_clear 103 = .ok (.iload_n 1, 1) := by decide +kernel
theorem dX6_clear_104 : decode cX6_clear 104 = .ok (.iload 4, 2) := by decide +kernel
theorem dX6_clear_106 : decode cX6_clear 106 = .ok (.invokevirtual 99, 3) := by decide +kernel
theorem dX6_clear_109 : decode cX6_clear 109 = .ok (.aload_n 0, 1) := by decide +kernel
theorem dX6_clear_110 : decode cX6_clear 110 = .ok (.getfield 28, 3) := by decide +kernel
theorem dX6_clear_113 : decode cX6_clear 113 = .ok (.getfield 196, 3) := by decide +kernel
theorem dX6_clear_116 : decode cX6_clear 116 = .ok (.iload_n 1, 1) := by decide +kernel
theorem dX6_clear_117 : decode cX6_clear 117 = .ok (.iload_n 2, 1) := by decide +kernel
theorem dX6_clear_118 : decode cX6_clear 118 = .ok (.iload 4, 2) := by decide +kernel
theorem dX6_clear_120 : decode cX6_clear 120 = .ok (.isub, 1) := by decide +kernel
theorem dX6_clear_121 : decode cX6_clear 121 = .ok (.invokevirtual 162, 3) := by decide +kernel
theorem dX6_clear_124 : decode cX6_clear 124 = .ok (.aload_n 0, 1) := by decide +kernel
theorem dX6_clear_125 : decode cX6_clear 125 = .ok (.getfield 28, 3) := by decide +kernel
theorem dX6_clear_128 : decode cX6_clear 128 = .ok (.getfield 199, 3) := by decide +kernel
theorem dX6_clear_131 : decode cX6_clear 131 = .ok (.iload_n 1, 1) := by decide +kernel
theorem dX6_clear_132 : decode cX6_clear 132 = .ok (.iconst 1, 1) := by decide +kernel
theorem dX6_clear_133 : decode cX6_clear 133 = .ok (.invokevirtual 162, 3) := by decide +kernel
theorem dX6_clear_136 : decode cX6_clear 136 = .ok (.aload_n 0, 1) := by decide +kernel
theorem dX6_clear_137 : decode cX6_clear 137 = .ok (.dup, 1) := by decide +kernel
theorem dX6_clear_138 : decode cX6_clear 138 = .ok (.getfield 42, 3) := by decide +kernel
theorem dX6_clear_141 : decode cX6_clear 141 = .ok (.iconst 1, 1) := by decide +kernel
theorem dX6_clear_142 : decode cX6_clear 142 = .ok (.iadd, 1) := by decide +kernel
theorem dX6_clear_143 : decode cX6_clear 143 = .ok (.putfield 42, 3) := by decide +kernel
theorem dX6_clear_146 : decode cX6_clear 146 = .ok (.aload_n 0, 1) := by decide +kernel
theorem dX6_clear_147 : decode cX6_clear 147 = .ok (.dup, 1) := by decide +kernel
theorem dX6_clear_148 : decode cX6_clear 148 = .ok (.getfield 45, 3) := by decide +kernel
theorem dX6_clear_151 : decode cX6_clear 151 = .ok (.aload_n 0, 1) := by decide +kernel
theorem dX6_clear_152 : decode cX6_clear 152 = .ok (.getfield 15, 3) := by decide +kernel
theorem dX6_clear_155 : decode cX6_clear 155 = .ok (.ifCond .ne 15, 3) := by decide +kernel
theorem dX6_clear_158 : decode cX6_clear 158 = .ok (.iconst 3, 1) := by decide +kernel
theorem dX6_clear_159 : decode cX6_clear 159 = .ok (.aload_n 0, 1) := by decide +kernel
theorem dX6_clear_160 : decode cX6_clear 160 = .ok (.getfield 28, 3) := by decide +kernel
theorem dX6_clear_163 : decode cX6_clear 163 = .ok (.invokevirtual 201, 3) := by decide +kernel
theorem dX6_clear_166 : decode cX6_clear 166 = .ok (.imul, 1) := by decide +kernel
theorem dX6_clear_167 : decode cX6_clear 167 = .ok (.goto 4, 3) := by decide +kernel
theorem dX6_clear_170 : decode cX6_clear 170 = .ok (.iconst 0, 1) := by decide +kernel
theorem dX6_clear_171 : decode cX6_clear 171 = .ok (.iadd, 1) := by decide +kernel
theorem dX6_clear_172 : decode cX6_clear 172 = .ok (.putfield 45, 3) := by decide +kernel
theorem dX6_clear_175 : decode cX6_clear 175 = .ok (.iload_n 2, 1) := by decide +kernel
theorem dX6_clear_176 : decode cX6_clear 176 = .ok (.iload 4, 2) := by decide +kernel
theorem dX6_clear_178 : decode cX6_clear 178 = .ok (.isub, 1) := by decide +kernel
theorem dX6_clear_179 : decode cX6_clear 179 = .ok (.ireturn, 1) := by decide +kernel
theorem dX6_valueOf_0 : decode cX6_valueOf 0 = .ok (.iload_n 1, 1) := by decide +kernel
theorem dX6_valueOf_1 : decode cX6_valueOf 1 = .ok (.ifCond .ne 10, 3) := by decide +kernel
theorem dX6_valueOf_4 : decode cX6_valueOf 4 = .ok (.aload_n 0, 1) := by decide +kernel
theorem dX6_valueOf_5 : decode cX6_valueOf 5 = .ok (.getfield 9, 3) := by decide +kernel
theorem dX6_valueOf_8 : decode cX6_valueOf 8 = .ok (.goto 7, 3) := by decide +kernel
theorem dX6_valueOf_11 : decode cX6_valueOf 11 = .ok (.aload_n 0, 1) := by decide +kernel
theorem dX6_valueOf_12 : decode cX6_valueOf 12 = .ok (.getfield 15, 3) := by decide +kernel
theorem dX6_valueOf_15 : decode cX6_valueOf 15 = .ok (.ireturn, 1) := by decide +kernel
theorem dX6_change_0 : decode cX6_change 0 = .ok (.aload_n 0, 1) := by decide +kernel
theorem dX6_change_1 : decode cX6_change 1 = .ok (.iload_n 1, 1) := by decide +kernel
theorem dX6_change_2 : decode cX6_change 2 = .ok (.invokevirtual 204, 3) := by decide +kernel
theorem dX6_change_5 : decode cX6_change 5 = .ok (.istore_n 3, 1) := by decide +kernel
theorem dX6_change_6 : decode cX6_change 6 = .ok (.iload_n 1, 1) := by decide +kernel
theorem dX6_change_7 : decode cX6_change 7 = .ok (.ifCond .ne 11, 3) := by decide +kernel
theorem dX6_change_10 : decode cX6_change 10 = .ok (.aload_n 0, 1) := by decide +kernel
theorem dX6_change_11 : decode cX6_change 11 = .ok (.iload_n 2, 1) := by decide +kernel
theorem dX6_change_12 : decode cX6_change 12 = .ok (.putfield 9, 3) := by decide +kernel
theorem dX6_change_15 : decode cX6_change 15 = .ok (.goto 8, 3) := by decide +kernel
theorem dX6_change_18 : decode cX6_change 18 = .ok (.aload_n 0, 1) := by decide +kernel
theorem dX6_change_19 : decode cX6_change 19 = .ok (.iload_n 2, 1) := by decide +kernel
theorem dX6_change_20 : decode cX6_change 20 = .ok (.putfield 15, 3) := by decide +kernel
theorem dX6_change_23 : decode cX6_change 23 = .ok (.iload_n 3, 1) := by decide +kernel
theorem dX6_change_24 : decode cX6_change 24 = .ok (.ireturn, 1) := by decide +kernel
theorem dX6_mayBurn_0 : decode cX6_mayBurn 0 = .ok (.iload_n 2, 1) := by decide +kernel
theorem dX6_mayBurn_1 : decode cX6_mayBurn 1 = .ok (.iconst 1, 1) := by decide +kernel
theorem dX6_mayBurn_2 : decode cX6_mayBurn 2 = .ok (.if_icmp .ne 29, 3) := by decide +kernel
theorem dX6_mayBurn_5 : decode cX6_mayBurn 5 = .ok (.aload_n 0, 1) := by decide +kernel
theorem dX6_mayBurn_6 : decode cX6_mayBurn 6 = .ok (.getfield 39, 3) := by decide +kernel
theorem dX6_mayBurn_9 : decode cX6_mayBurn 9 = .ok (.aload_n 0, 1) := by decide +kernel
theorem dX6_mayBurn_10 : decode cX6_mayBurn 10 = .ok (.getfield 21, 3) := by decide +kernel
theorem dX6_mayBurn_13 : decode cX6_mayBurn 13 = .ok (.getfield 207, 3) := by decide +kernel
theorem dX6_mayBurn_16 : decode cX6_mayBurn 16 = .ok (.iload_n 1, 1) := by decide +kernel
theorem dX6_mayBurn_17 : decode cX6_mayBurn 17 = .ok (.invokevirtual 79, 3) := by decide +kernel
theorem dX6_mayBurn_20 : decode cX6_mayBurn 20 = .ok (.isub, 1) := by decide +kernel
theorem dX6_mayBurn_21 : decode cX6_mayBurn 21 = .ok (.iconst 2, 1) := by decide +kernel
theorem dX6_mayBurn_22 : decode cX6_mayBurn 22 = .ok (.if_icmp .lt 7, 3) := by decide +kernel
theorem dX6_mayBurn_25 : decode cX6_mayBurn 25 = .ok (.iconst 1, 1) := by decide +kernel
theorem dX6_mayBurn_26 : decode cX6_mayBurn 26 = .ok (.goto 4, 3) := by decide +kernel
theorem dX6_mayBurn_29 : decode cX6_mayBurn 29 = .ok (.iconst 0, 1) := by decide +kernel
theorem dX6_mayBurn_30 : decode cX6_mayBurn 30 = .ok (.ireturn, 1) := by decide +kernel
theorem dX6_mayBurn_31 : decode cX6_mayBurn 31 = .ok (.iload_n 3, 1) := by decide +kernel
theorem dX6_mayBurn_32 : decode cX6_mayBurn 32 = .ok (.invokestatic 210, 3) := by decide +kernel
theorem dX6_mayBurn_35 : decode cX6_mayBurn 35 = .ok (.istore 4, 2) := by decide +kernel
theorem dX6_mayBurn_37 : decode cX6_mayBurn 37 = .ok (.iload_n 3, 1) := by decide +kernel
theorem dX6_mayBurn_38 : decode cX6_mayBurn 38 = .ok (.iconst (-1), 1) := by decide +kernel
theorem dX6_mayBurn_39 : decode cX6_mayBurn 39 = .ok (.if_icmp .ne 7, 3) := by decide +kernel
theorem dX6_mayBurn_42 : decode cX6_mayBurn 42 = .ok (.iconst 0, 1) := by decide +kernel
theorem dX6_mayBurn_43 : decode cX6_mayBurn 43 = .ok (.goto 20, 3) := by decide +kernel
theorem dX6_mayBurn_46 : decode cX6_mayBurn 46 = .ok (.aload_n 0, 1) := by decide +kernel
theorem dX6_mayBurn_47 : decode cX6_mayBurn 47 = .ok (.getfield 35, 3) := by decide +kernel
theorem dX6_mayBurn_50 : decode cX6_mayBurn 50 = .ok (.getfield 213, 3) := by decide +kernel
theorem dX6_mayBurn_53 : decode cX6_mayBurn 53 = .ok (.iload_n 1, 1) := by decide +kernel
theorem dX6_mayBurn_54 : decode cX6_mayBurn 54 = .ok (.iload 4, 2) := by decide +kernel
theorem dX6_mayBurn_56 : decode cX6_mayBurn 56 = .ok (.iload 4, 2) := by decide +kernel
theorem dX6_mayBurn_58 : decode cX6_mayBurn 58 = .ok (.iconst 3, 1) := by decide +kernel
theorem dX6_mayBurn_59 : decode cX6_mayBurn 59 = .ok (.iadd, 1) := by decide +kernel
theorem dX6_mayBurn_60 : decode cX6_mayBurn 60 = .ok (.invokevirtual 216, 3) := by decide +kernel
theorem dX6_mayBurn_63 : decode cX6_mayBurn 63 = .ok (.istore 5, 2) := by decide +kernel
theorem dX6_mayBurn_65 : decode cX6_mayBurn 65 = .ok (.aload_n 0, 1) := by decide +kernel
theorem dX6_mayBurn_66 : decode cX6_mayBurn 66 = .ok (.getfield 35, 3) := by decide +kernel
theorem dX6_mayBurn_69 : decode cX6_mayBurn 69 = .ok (.getfield 213, 3) := by decide +kernel
theorem dX6_mayBurn_72 : decode cX6_mayBurn 72 = .ok (.iload_n 1, 1) := by decide +kernel
theorem dX6_mayBurn_73 : decode cX6_mayBurn 73 = .ok (.iconst 0, 1) := by decide +kernel
theorem dX6_mayBurn_74 : decode cX6_mayBurn 74 = .ok (.bipush 15, 2) := by decide +kernel
theorem dX6_mayBurn_76 : decode cX6_mayBurn 76 = .ok (.invokevirtual 216, 3) := by decide +kernel
theorem dX6_mayBurn_79 : decode cX6_mayBurn 79 = .ok (.iload 5, 2) := by decide +kernel
theorem dX6_mayBurn_81 : decode cX6_mayBurn 81 = .ok (.if_icmp .ne 7, 3) := by decide +kernel
theorem dX6_mayBurn_84 : decode cX6_mayBurn 84 = .ok (.iconst 1, 1) := by decide +kernel
theorem dX6_mayBurn_85 : decode cX6_mayBurn 85 = .ok (.goto 4, 3) := by decide +kernel
theorem dX6_mayBurn_88 : decode cX6_mayBurn 88 = .ok (.iconst 0, 1) := by decide +kernel
theorem dX6_mayBurn_89 : decode cX6_mayBurn 89 = .ok (.ireturn, 1) := by decide +kernel
theorem dX6_burnable_0 : decode cX6_burnable 0 = .ok (.aload_n 0, 1) := by decide +kernel
theorem dX6_burnable_1 : decode cX6_burnable 1 = .ok (.getfield 28, 3) := by decide +kernel
theorem dX6_burnable_4 : decode cX6_burnable 4 = .ok (.getfield 75, 3) := by decide +kernel
theorem dX6_burnable_7 : decode cX6_burnable 7 = .ok (.iload_n 1, 1) := by decide +kernel
theorem dX6_burnable_8 : decode cX6_burnable 8 = .ok (.invokevirtual 79, 3) := by decide +kernel
theorem dX6_burnable_11 : decode cX6_burnable 11 = .ok (.istore 4, 2) := by decide +kernel
theorem dX6_burnable_13 : decode cX6_burnable 13 = .ok (.iconst 0, 1) := by decide +kernel
theorem dX6_burnable_14 : decode cX6_burnable 14 = .ok (.istore 5, 2) := by decide +kernel
theorem dX6_burnable_16 : decode cX6_burnable 16 = .ok (.iconst 0, 1) := by decide +kernel
theorem dX6_burnable_17 : decode cX6_burnable 17 = .ok (.istore 6, 2) := by decide +kernel
theorem dX6_burnable_19 : decode cX6_burnable 19 = .ok (.iload 6, 2) := by decide +kernel
theorem dX6_burnable_21 : decode cX6_burnable 21 = .ok (.iload 4, 2) := by decide +kernel
theorem dX6_burnable_23 : decode cX6_burnable 23 = .ok (.if_icmp .ge 38, 3) := by decide +kernel
theorem dX6_burnable_26 : decode cX6_burnable 26 = .ok (.iload 5, 2) := by decide +kernel
theorem dX6_burnable_28 : decode cX6_burnable 28 = .ok (.aload_n 0, 1) := by decide +kernel
theorem dX6_burnable_29 : decode cX6_burnable 29 = .ok (.aload_n 0, 1) := by decide +kernel
theorem dX6_burnable_30 : decode cX6_burnable 30 = .ok (.getfield 28, 3) := by decide +kernel
theorem dX6_burnable_33 : decode cX6_burnable 33 = .ok (.iload_n 1, 1) := by decide +kernel
theorem dX6_burnable_34 : decode cX6_burnable 34 = .ok (.iload 6, 2) := by decide +kernel
theorem dX6_burnable_36 : decode cX6_burnable 36 = .ok (.invokevirtual 88, 3) := by decide +kernel
theorem dX6_burnable_39 : decode cX6_burnable 39 = .ok (.iload_n 2, 1) := by decide +kernel
theorem dX6_burnable_40 : decode cX6_burnable 40 = .ok (.iload_n 3, 1) := by decide +kernel
theorem dX6_burnable_41 : decode cX6_burnable 41 = .ok (.invokevirtual 189, 3) := by decide +kernel
theorem dX6_burnable_44 : decode cX6_burnable 44 = .ok (.ifCond .eq 7, 3) := by decide +kernel
theorem dX6_burnable_47 : decode cX6_burnable 47 = .ok (.iconst 1, 1) := by decide +kernel
theorem dX6_burnable_48 : decode cX6_burnable 48 = .ok (.goto 4, 3) := by decide +kernel
theorem dX6_burnable_51 : decode cX6_burnable 51 = .ok (.iconst 0, 1) := by decide +kernel
theorem dX6_burnable_52 : decode cX6_burnable 52 = .ok (.iadd, 1) := by decide +kernel
theorem dX6_burnable_53 : decode cX6_burnable 53 = .ok (.istore 5, 2) := by decide +kernel
theorem dX6_burnable_55 : decode cX6_burnable 55 = .ok (.iinc 6 1, 3) := by decide +kernel
theorem dX6_burnable_58 : decode cX6_burnable 58 = .ok (.goto (-39), 3) := by decide +kernel
theorem dX6_burnable_61 : decode cX6_burnable 61 = .ok (.iload 5, 2) := by decide +kernel
theorem dX6_burnable_63 : decode cX6_burnable 63 = .ok (.ireturn, 1) := by decide +kernel
theorem dX6_burnableIfRested_0 : decode cX6_burnableIfRested 0 = .ok (.iconst 0, 1) := by decide +kernel
theorem dX6_burnableIfRested_1 : decode cX6_burnableIfRested 1 = .ok (.istore_n 2, 1) := by decide +kernel
theorem dX6_burnableIfRested_2 : decode cX6_burnableIfRested 2 = .ok (.iconst 0, 1) := by decide +kernel
theorem dX6_burnableIfRested_3 : decode cX6_burnableIfRested 3 = .ok (.istore_n 3, 1) := by decide +kernel
theorem dX6_burnableIfRested_4 : decode cX6_burnableIfRested 4 = .ok (.iload_n 3, 1) := by decide +kernel
theorem dX6_burnableIfRested_5 : decode cX6_burnableIfRested 5 = .ok (.iconst 5, 1) := by decide +kernel
theorem dX6_burnableIfRested_6 : decode cX6_burnableIfRested 6 = .ok (.if_icmp .ge 22, 3) := by decide +kernel
theorem dX6_burnableIfRested_9 : decode cX6_burnableIfRested 9 = .ok (.iload_n 2, 1) := by decide +kernel
theorem dX6_burnableIfRested_10 : decode cX6_burnableIfRested 10 = .ok (.aload_n 0, 1) := by decide +kernel
theorem dX6_burnableIfRested_11 : decode cX6_burnableIfRested 11 = .ok (.iload_n 3, 1) := by decide +kernel
theorem dX6_burnableIfRested_12 : decode cX6_burnableIfRested 12 = .ok (.aload_n 0, 1) := by decide +kernel
theorem dX6_burnableIfRested_13 : decode cX6_burnableIfRested 13 = .ok (.getfield 15, 3) := by decide +kernel
theorem dX6_burnableIfRested_16 : decode cX6_burnableIfRested 16 = .ok (.iload_n 1, 1) := by decide +kernel
theorem dX6_burnableIfRested_17 : decode cX6_burnableIfRested 17 = .ok (.invokevirtual 219, 3) := by decide +kernel
theorem dX6_burnableIfRested_20 : decode cX6_burnableIfRested 20 = .ok (.iadd, 1) := by decide +kernel
theorem dX6_burnableIfRested_21 : decode cX6_burnableIfRested 21 = .ok (.istore_n 2, 1) := by decide +kernel
theorem dX6_burnableIfRested_22 : decode cX6_burnableIfRested 22 = .ok (.iinc 3 1, 3) := by decide +kernel
theorem dX6_burnableIfRested_25 : decode cX6_burnableIfRested 25 = .ok (.goto (-21), 3) := by decide +kernel
theorem dX6_burnableIfRested_28 : decode cX6_burnableIfRested 28 = .ok (.iload_n 2, 1) := by decide +kernel
theorem dX6_burnableIfRested_29 : decode cX6_burnableIfRested 29 = .ok (.ireturn, 1) := by decide +kernel
theorem dX6_burnableIfAllRested_0 : decode cX6_burnableIfAllRested 0 = .ok (.iconst 0, 1) := by decide +kernel
theorem dX6_burnableIfAllRested_1 : decode cX6_burnableIfAllRested 1 = .ok (.istore_n 1, 1) := by decide +kernel
theorem dX6_burnableIfAllRested_2 : decode cX6_burnableIfAllRested 2 = .ok (.iconst 0, 1) := by decide +kernel
theorem dX6_burnableIfAllRested_3 : decode cX6_burnableIfAllRested 3 = .ok (.istore_n 2, 1) := by decide +kernel
theorem dX6_burnableIfAllRested_4 : decode cX6_burnableIfAllRested 4 = .ok (.iload_n 2, 1) := by decide +kernel
theorem dX6_burnableIfAllRested_5 : decode cX6_burnableIfAllRested 5 = .ok (.aload_n 0, 1) := by decide +kernel
theorem dX6_burnableIfAllRested_6 : decode cX6_burnableIfAllRested 6 = .ok (.getfield 21, 3) := by decide +kernel
theorem dX6_burnableIfAllRested_9 : decode cX6_burnableIfAllRested 9 = .ok (.getfield 127, 3) := by decide +kernel
theorem dX6_burnableIfAllRested_12 : decode cX6_burnableIfAllRested 12 = .ok (.if_icmp .ge 77, 3) := by decide +kernel
theorem dX6_burnableIfAllRested_15 : decode cX6_burnableIfAllRested 15 = .ok (.iload_n 2, 1) := by decide +kernel
theorem dX6_burnableIfAllRested_16 : decode cX6_burnableIfAllRested 16 = .ok (.bipush 120, 2) := by decide +kernel
theorem dX6_burnableIfAllRested_18 : decode cX6_burnableIfAllRested 18 = .ok (.if_icmp .ge 71, 3) := by decide +kernel
theorem dX6_burnableIfAllRested_21 : decode cX6_burnableIfAllRested 21 = .ok (.aload_n 0, 1) := by decide +kernel
theorem dX6_burnableIfAllRested_22 : decode cX6_burnableIfAllRested 22 = .ok (.getfield 15, 3) := by decide +kernel
theorem dX6_burnableIfAllRested_25 : decode cX6_burnableIfAllRested 25 = .ok (.ifCond .eq 25, 3) := by decide +kernel
theorem dX6_burnableIfAllRested_28 : decode cX6_burnableIfAllRested 28 = .ok (.aload_n 0, 1) := by decide +kernel
theorem dX6_burnableIfAllRested_29 : decode cX6_burnableIfAllRested 29 = .ok (.getfield 39, 3) := by decide +kernel
theorem dX6_burnableIfAllRested_32 : decode cX6_burnableIfAllRested 32 = .ok (.iconst 2, 1) := by decide +kernel
theorem dX6_burnableIfAllRested_33 : decode cX6_burnableIfAllRested 33 = .ok (.iadd, 1) := by decide +kernel
theorem dX6_burnableIfAllRested_34 : decode cX6_burnableIfAllRested 34 = .ok (.aload_n 0, 1) := by decide +kernel
theorem dX6_burnableIfAllRested_35 : decode cX6_burnableIfAllRested 35 = .ok (.getfield 21, 3) := by decide +kernel
theorem dX6_burnableIfAllRested_38 : decode cX6_burnableIfAllRested 38 = .ok (.getfield 207, 3) := by decide +kernel
theorem dX6_burnableIfAllRested_41 : decode cX6_burnableIfAllRested 41 = .ok (.iload_n 2, 1) := by decide +kernel
theorem dX6_burnableIfAllRested_42 : decode cX6_burnableIfAllRested 42 = .ok (.invokevirtual 79, 3) := by decide +kernel
theorem dX6_burnableIfAllRested_45 : decode cX6_burnableIfAllRested 45 = .ok (.isub, 1) := by decide +kernel
theorem dX6_burnableIfAllRested_46 : decode cX6_burnableIfAllRested 46 = .ok (.iconst 2, 1) := by decide +kernel
theorem dX6_burnableIfAllRested_47 : decode cX6_burnableIfAllRested 47 = .ok (.if_icmp .lt 7, 3) := by decide +kernel
theorem dX6_burnableIfAllRested_50 : decode cX6_burnableIfAllRested 50 = .ok (.iconst 1, 1) := by decide +kernel
theorem dX6_burnableIfAllRested_51 : decode cX6_burnableIfAllRested 51 = .ok (.goto 4, 3) := by decide +kernel
theorem dX6_burnableIfAllRested_54 : decode cX6_burnableIfAllRested 54 = .ok (.iconst 0, 1) := by decide +kernel
theorem dX6_burnableIfAllRested_55 : decode cX6_burnableIfAllRested 55 = .ok (.istore_n 3, 1) := by decide +kernel
theorem dX6_burnableIfAllRested_56 : decode cX6_burnableIfAllRested 56 = .ok (.iload_n 1, 1) := by decide +kernel
theorem dX6_burnableIfAllRested_57 : decode cX6_burnableIfAllRested 57 = .ok (.aload_n 0, 1) := by decide +kernel
theorem dX6_burnableIfAllRested_58 : decode cX6_burnableIfAllRested 58 = .ok (.getfield 21, 3) := by decide +kernel
theorem dX6_burnableIfAllRested_61 : decode cX6_burnableIfAllRested 61 = .ok (.getfield 149, 3) := by decide +kernel
theorem dX6_burnableIfAllRested_64 : decode cX6_burnableIfAllRested 64 = .ok (.iload_n 2, 1) := by decide +kernel
theorem dX6_burnableIfAllRested_65 : decode cX6_burnableIfAllRested 65 = .ok (.invokevirtual 79, 3) := by decide +kernel
theorem dX6_burnableIfAllRested_68 : decode cX6_burnableIfAllRested 68 = .ok (.iconst 1, 1) := by decide +kernel
theorem dX6_burnableIfAllRested_69 : decode cX6_burnableIfAllRested 69 = .ok (.if_icmp .ne 11, 3) := by decide +kernel
theorem dX6_burnableIfAllRested_72 : decode cX6_burnableIfAllRested 72 = .ok (.iload_n 3, 1) := by decide +kernel
theorem dX6_burnableIfAllRested_73 : decode cX6_burnableIfAllRested 73 = .ok (.ifCond .eq 7, 3) := by decide +kernel
theorem dX6_burnableIfAllRested_76 : decode cX6_burnableIfAllRested 76 = .ok (.iconst 1, 1) := by decide +kernel
theorem dX6_burnableIfAllRested_77 : decode cX6_burnableIfAllRested 77 = .ok (.goto 4, 3) := by decide +kernel
theorem dX6_burnableIfAllRested_80 : decode cX6_burnableIfAllRested 80 = .ok (.iconst 0, 1) := by decide +kernel
theorem dX6_burnableIfAllRested_81 : decode cX6_burnableIfAllRested 81 = .ok (.iadd, 1) := by decide +kernel
theorem dX6_burnableIfAllRested_82 : decode cX6_burnableIfAllRested 82 = .ok (.istore_n 1, 1) := by decide +kernel
theorem dX6_burnableIfAllRested_83 : decode cX6_burnableIfAllRested 83 = .ok (.iinc 2 1, 3) := by decide +kernel
theorem dX6_burnableIfAllRested_86 : decode cX6_burnableIfAllRested 86 = .ok (.goto (-82), 3) := by decide +kernel
theorem dX6_burnableIfAllRested_89 : decode cX6_burnableIfAllRested 89 = .ok (.iload_n 1, 1) := by decide +kernel
theorem dX6_burnableIfAllRested_90 : decode cX6_burnableIfAllRested 90 = .ok (.ireturn, 1) := by decide +kernel
theorem dX6_bestHeap_0 : decode cX6_bestHeap 0 = .ok (.iconst (-1), 1) := by decide +kernel
theorem dX6_bestHeap_1 : decode cX6_bestHeap 1 = .ok (.istore_n 1, 1) := by decide +kernel
theorem dX6_bestHeap_2 : decode cX6_bestHeap 2 = .ok (.iconst 0, 1) := by decide +kernel
theorem dX6_bestHeap_3 : decode cX6_bestHeap 3 = .ok (.istore_n 2, 1) := by decide +kernel
theorem dX6_bestHeap_4 : decode cX6_bestHeap 4 = .ok (.iconst 0, 1) := by decide +kernel
theorem dX6_bestHeap_5 : decode cX6_bestHeap 5 = .ok (.istore_n 3, 1) := by decide +kernel
theorem dX6_bestHeap_6 : decode cX6_bestHeap 6 = .ok (.iload_n 3, 1) := by decide +kernel
theorem dX6_bestHeap_7 : decode cX6_bestHeap 7 = .ok (.iconst 5, 1) := by decide +kernel
theorem dX6_bestHeap_8 : decode cX6_bestHeap 8 = .ok (.if_icmp .ge 80, 3) := by decide +kernel
theorem dX6_bestHeap_11 : decode cX6_bestHeap 11 = .ok (.aload_n 0, 1) := by decide +kernel
theorem dX6_bestHeap_12 : decode cX6_bestHeap 12 = .ok (.iload_n 3, 1) := by decide +kernel
theorem dX6_bestHeap_13 : decode cX6_bestHeap 13 = .ok (.aload_n 0, 1) := by decide +kernel
theorem dX6_bestHeap_14 : decode cX6_bestHeap 14 = .ok (.getfield 15, 3) := by decide +kernel
theorem dX6_bestHeap_17 : decode cX6_bestHeap 17 = .ok (.iconst (-1), 1) := by decide +kernel
theorem dX6_bestHeap_18 : decode cX6_bestHeap 18 = .ok (.invokevirtual 219, 3) := by decide +kernel
theorem dX6_bestHeap_21 : decode cX6_bestHeap 21 = .ok (.istore 4, 2) := by decide +kernel
theorem dX6_bestHeap_23 : decode cX6_bestHeap 23 = .ok (.aload_n 0, 1) := by decide +kernel
theorem dX6_bestHeap_24 : decode cX6_bestHeap 24 = .ok (.getfield 28, 3) := by decide +kernel
theorem dX6_bestHeap_27 : decode cX6_bestHeap 27 = .ok (.getfield 75, 3) := by decide +kernel
theorem dX6_bestHeap_30 : decode cX6_bestHeap 30 = .ok (.iload_n 3, 1) := by decide +kernel
theorem dX6_bestHeap_31 : decode cX6_bestHeap 31 = .ok (.invokevirtual 79, 3) := by decide +kernel
theorem dX6_bestHeap_34 : decode cX6_bestHeap 34 = .ok (.aload_n 0, 1) := by decide +kernel
theorem dX6_bestHeap_35 : decode cX6_bestHeap 35 = .ok (.getfield 28, 3) := by decide +kernel
theorem dX6_bestHeap_38 : decode cX6_bestHeap 38 = .ok (.getfield 75, 3) := by decide +kernel
theorem dX6_bestHeap_41 : decode cX6_bestHeap 41 = .ok (.iload_n 1, 1) := by decide +kernel
theorem dX6_bestHeap_42 : decode cX6_bestHeap 42 = .ok (.invokevirtual 79, 3) := by decide +kernel
theorem dX6_bestHeap_45 : decode cX6_bestHeap 45 = .ok (.if_icmp .le 7, 3) := by decide +kernel
theorem dX6_bestHeap_48 : decode cX6_bestHeap 48 = .ok (.iconst 1, 1) := by decide +kernel
theorem dX6_bestHeap_49 : decode cX6_bestHeap 49 = .ok (.goto 4, 3) := by decide +kernel
theorem dX6_bestHeap_52 : decode cX6_bestHeap 52 = .ok (.iconst 0, 1) := by decide +kernel
theorem dX6_bestHeap_53 : decode cX6_bestHeap 53 = .ok (.istore 5, 2) := by decide +kernel
theorem dX6_bestHeap_55 : decode cX6_bestHeap 55 = .ok (.iload 4, 2) := by decide +kernel
theorem dX6_bestHeap_57 : decode cX6_bestHeap 57 = .ok (.iload_n 2, 1) := by decide +kernel
theorem dX6_bestHeap_58 : decode cX6_bestHeap 58 = .ok (.if_icmp .gt 19, 3) := by decide +kernel
theorem dX6_bestHeap_61 : decode cX6_bestHeap 61 = .ok (.iload 4, 2) := by decide +kernel
theorem dX6_bestHeap_63 : decode cX6_bestHeap 63 = .ok (.ifCond .le 19, 3) := by decide +kernel
theorem dX6_bestHeap_66 : decode cX6_bestHeap 66 = .ok (.iload 4, 2) := by decide +kernel
theorem dX6_bestHeap_68 : decode cX6_bestHeap 68 = .ok (.iload_n 2, 1) := by decide +kernel
theorem dX6_bestHeap_69 : decode cX6_bestHeap 69 = .ok (.if_icmp .ne 13, 3) := by decide +kernel
theorem dX6_bestHeap_72 : decode cX6_bestHeap 72 = .ok (.iload 5, 2) := by decide +kernel
theorem dX6_bestHeap_74 : decode cX6_bestHeap 74 = .ok (.ifCond .eq 8, 3) := by decide +kernel
theorem dX6_bestHeap_77 : decode cX6_bestHeap 77 = .ok (.iload_n 3, 1) := by decide +kernel
theorem dX6_bestHeap_78 : decode cX6_bestHeap 78 = .ok (.istore_n 1, 1) := by decide +kernel
theorem dX6_bestHeap_79 : decode cX6_bestHeap 79 = .ok (.iload 4, 2) := by decide +kernel
theorem dX6_bestHeap_81 : decode cX6_bestHeap 81 = .ok (.istore_n 2, 1) := by decide +kernel
theorem dX6_bestHeap_82 : decode cX6_bestHeap 82 = .ok (.iinc 3 1, 3) := by decide +kernel
theorem dX6_bestHeap_85 : decode cX6_bestHeap 85 = .ok (.goto (-79), 3) := by decide +kernel
theorem dX6_bestHeap_88 : decode cX6_bestHeap 88 = .ok (.iload_n 1, 1) := by decide +kernel
theorem dX6_bestHeap_89 : decode cX6_bestHeap 89 = .ok (.ireturn, 1) := by decide +kernel
theorem dX6_freedBy_0 : decode cX6_freedBy 0 = .ok (.aload_n 0, 1) := by decide +kernel
theorem dX6_freedBy_1 : decode cX6_freedBy 1 = .ok (.getfield 35, 3) := by decide +kernel
theorem dX6_freedBy_4 : decode cX6_freedBy 4 = .ok (.iload_n 1, 1) := by decide +kernel
theorem dX6_freedBy_5 : decode cX6_freedBy 5 = .ok (.iload_n 2, 1) := by decide +kernel
theorem dX6_freedBy_6 : decode cX6_freedBy 6 = .ok (.invokevirtual 137, 3) := by decide +kernel
theorem dX6_freedBy_9 : decode cX6_freedBy 9 = .ok (.istore_n 3, 1) := by decide +kernel
theorem dX6_freedBy_10 : decode cX6_freedBy 10 = .ok (.aload_n 0, 1) := by decide +kernel
theorem dX6_freedBy_11 : decode cX6_freedBy 11 = .ok (.getfield 35, 3) := by decide +kernel
theorem dX6_freedBy_14 : decode cX6_freedBy 14 = .ok (.iload_n 1, 1) := by decide +kernel
theorem dX6_freedBy_15 : decode cX6_freedBy 15 = .ok (.iload_n 2, 1) := by decide +kernel
theorem dX6_freedBy_16 : decode cX6_freedBy 16 = .ok (.invokevirtual 130, 3) := by decide +kernel
theorem dX6_freedBy_19 : decode cX6_freedBy 19 = .ok (.iconst 2, 1) := by decide +kernel
theorem dX6_freedBy_20 : decode cX6_freedBy 20 = .ok (.if_icmp .ne 22, 3) := by decide +kernel
theorem dX6_freedBy_23 : decode cX6_freedBy 23 = .ok (.aload_n 0, 1) := by decide +kernel
theorem dX6_freedBy_24 : decode cX6_freedBy 24 = .ok (.getfield 21, 3) := by decide +kernel
theorem dX6_freedBy_27 : decode cX6_freedBy 27 = .ok (.getfield 149, 3) := by decide +kernel
theorem dX6_freedBy_30 : decode cX6_freedBy 30 = .ok (.iload_n 3, 1) := by decide +kernel
theorem dX6_freedBy_31 : decode cX6_freedBy 31 = .ok (.invokevirtual 79, 3) := by decide +kernel
theorem dX6_freedBy_34 : decode cX6_freedBy 34 = .ok (.iconst 1, 1) := by decide +kernel
theorem dX6_freedBy_35 : decode cX6_freedBy 35 = .ok (.if_icmp .ne 7, 3) := by decide +kernel
theorem dX6_freedBy_38 : decode cX6_freedBy 38 = .ok (.iconst 1, 1) := by decide +kernel
theorem dX6_freedBy_39 : decode cX6_freedBy 39 = .ok (.goto 4, 3) := by decide +kernel
theorem dX6_freedBy_42 : decode cX6_freedBy 42 = .ok (.iconst 0, 1) := by decide +kernel
theorem dX6_freedBy_43 : decode cX6_freedBy 43 = .ok (.istore 4, 2) := by decide +kernel
theorem dX6_freedBy_45 : decode cX6_freedBy 45 = .ok (.iload 4, 2) := by decide +kernel
theorem dX6_freedBy_47 : decode cX6_freedBy 47 = .ok (.ifCond .eq 19, 3) := by decide +kernel
theorem dX6_freedBy_50 : decode cX6_freedBy 50 = .ok (.aload_n 0, 1) := by decide +kernel
theorem dX6_freedBy_51 : decode cX6_freedBy 51 = .ok (.getfield 35, 3) := by decide +kernel
theorem dX6_freedBy_54 : decode cX6_freedBy 54 = .ok (.iload_n 3, 1) := by decide +kernel
theorem dX6_freedBy_55 : decode cX6_freedBy 55 = .ok (.invokevirtual 222, 3) := by decide +kernel
theorem dX6_freedBy_58 : decode cX6_freedBy 58 = .ok (.iconst 1, 1) := by decide +kernel
theorem dX6_freedBy_59 : decode cX6_freedBy 59 = .ok (.if_icmp .ne 7, 3) := by decide +kernel
theorem dX6_freedBy_62 : decode cX6_freedBy 62 = .ok (.iconst 1, 1) := by decide +kernel
theorem dX6_freedBy_63 : decode cX6_freedBy 63 = .ok (.goto 4, 3) := by decide +kernel
theorem dX6_freedBy_66 : decode cX6_freedBy 66 = .ok (.iconst 0, 1) := by decide +kernel
theorem dX6_freedBy_67 : decode cX6_freedBy 67 = .ok (.ireturn, 1) := by decide +kernel
theorem dX6_mostPinned_0 : decode cX6_mostPinned 0 = .ok (.iconst (-1), 1) := by decide +kernel
theorem dX6_mostPinned_1 : decode cX6_mostPinned 1 = .ok (.istore_n 1, 1) := by decide +kernel
theorem dX6_mostPinned_2 : decode cX6_mostPinned 2 = .ok (.iconst 0, 1) := by decide +kernel
theorem dX6_mostPinned_3 : decode cX6_mostPinned 3 = .ok (.istore_n 2, 1) := by decide +kernel
theorem dX6_mostPinned_4 : decode cX6_mostPinned 4 = .ok (.iconst 0, 1) := by decide +kernel
theorem dX6_mostPinned_5 : decode cX6_mostPinned 5 = .ok (.istore_n 3, 1) := by decide +kernel
theorem dX6_mostPinned_6 : decode cX6_mostPinned 6 = .ok (.iload_n 3, 1) := by decide +kernel
theorem dX6_mostPinned_7 : decode cX6_mostPinned 7 = .ok (.aload_n 0, 1) := by decide +kernel
theorem dX6_mostPinned_8 : decode cX6_mostPinned 8 = .ok (.getfield 21, 3) := by decide +kernel
theorem dX6_mostPinned_11 : decode cX6_mostPinned 11 = .ok (.getfield 127, 3) := by decide +kernel
theorem dX6_mostPinned_14 : decode cX6_mostPinned 14 = .ok (.if_icmp .ge 36, 3) := by decide +kernel
theorem dX6_mostPinned_17 : decode cX6_mostPinned 17 = .ok (.iload_n 3, 1) := by decide +kernel
theorem dX6_mostPinned_18 : decode cX6_mostPinned 18 = .ok (.bipush 120, 2) := by decide +kernel
theorem dX6_mostPinned_20 : decode cX6_mostPinned 20 = .ok (.if_icmp .ge 30, 3) := by decide +kernel
theorem dX6_mostPinned_23 : decode cX6_mostPinned 23 = .ok (.aload_n 0, 1) := by decide +kernel
theorem dX6_mostPinned_24 : decode cX6_mostPinned 24 = .ok (.getfield 35, 3) := by decide +kernel
theorem dX6_mostPinned_27 : decode cX6_mostPinned 27 = .ok (.iload_n 3, 1) := by decide +kernel
theorem dX6_mostPinned_28 : decode cX6_mostPinned 28 = .ok (.invokevirtual 222, 3) := by decide +kernel
theorem dX6_mostPinned_31 : decode cX6_mostPinned 31 = .ok (.istore 4, 2) := by decide +kernel
theorem dX6_mostPinned_33 : decode cX6_mostPinned 33 = .ok (.iload 4, 2) := by decide +kernel
theorem dX6_mostPinned_35 : decode cX6_mostPinned 35 = .ok (.iload_n 2, 1) := by decide +kernel
theorem dX6_mostPinned_36 : decode cX6_mostPinned 36 = .ok (.if_icmp .le 8, 3) := by decide +kernel
theorem dX6_mostPinned_39 : decode cX6_mostPinned 39 = .ok (.iload_n 3, 1) := by decide +kernel
theorem dX6_mostPinned_40 : decode cX6_mostPinned 40 = .ok (.istore_n 1, 1) := by decide +kernel
theorem dX6_mostPinned_41 : decode cX6_mostPinned 41 = .ok (.iload 4, 2) := by decide +kernel
theorem dX6_mostPinned_43 : decode cX6_mostPinned 43 = .ok (.istore_n 2, 1) := by decide +kernel
theorem dX6_mostPinned_44 : decode cX6_mostPinned 44 = .ok (.iinc 3 1, 3) := by decide +kernel
theorem dX6_mostPinned_47 : decode cX6_mostPinned 47 = .ok (.goto (-41), 3) := by decide +kernel
theorem dX6_mostPinned_50 : decode cX6_mostPinned 50 = .ok (.iload_n 1, 1) := by decide +kernel
theorem dX6_mostPinned_51 : decode cX6_mostPinned 51 = .ok (.ireturn, 1) := by decide +kernel
theorem dX6_whyNotBurnt_0 : decode cX6_whyNotBurnt 0 = .ok (.aload_n 0, 1) := by decide +kernel
theorem dX6_whyNotBurnt_1 : decode cX6_whyNotBurnt 1 = .ok (.getfield 21, 3) := by decide +kernel
theorem dX6_whyNotBurnt_4 : decode cX6_whyNotBurnt 4 = .ok (.getfield 149, 3) := by decide +kernel
theorem dX6_whyNotBurnt_7 : decode cX6_whyNotBurnt 7 = .ok (.iload_n 1, 1) := by decide +kernel
theorem dX6_whyNotBurnt_8 : decode cX6_whyNotBurnt 8 = .ok (.invokevirtual 79, 3) := by decide +kernel
theorem dX6_whyNotBurnt_11 : decode cX6_whyNotBurnt 11 = .ok (.istore_n 2, 1) := by decide +kernel
theorem dX6_whyNotBurnt_12 : decode cX6_whyNotBurnt 12 = .ok (.iload_n 2, 1) := by decide +kernel
theorem dX6_whyNotBurnt_13 : decode cX6_whyNotBurnt 13 = .ok (.iconst 2, 1) := by decide +kernel
theorem dX6_whyNotBurnt_14 : decode cX6_whyNotBurnt 14 = .ok (.if_icmp .ne 5, 3) := by decide +kernel
theorem dX6_whyNotBurnt_17 : decode cX6_whyNotBurnt 17 = .ok (.iconst 0, 1) := by decide +kernel
theorem dX6_whyNotBurnt_18 : decode cX6_whyNotBurnt 18 = .ok (.ireturn, 1) := by decide +kernel
theorem dX6_whyNotBurnt_19 : decode cX6_whyNotBurnt 19 = .ok (.iload_n 2, 1) := by decide +kernel
theorem dX6_whyNotBurnt_20 : decode cX6_whyNotBurnt 20 = .ok (.ifCond .ne 5, 3) := by decide +kernel
theorem dX6_whyNotBurnt_23 : decode cX6_whyNotBurnt 23 = .ok (.iconst 1, 1) := by decide +kernel
theorem dX6_whyNotBurnt_24 : decode cX6_whyNotBurnt 24 = .ok (.ireturn, 1) := by decide +kernel
theorem dX6_whyNotBurnt_25 : decode cX6_whyNotBurnt 25 = .ok (.aload_n 0, 1) := by decide +kernel
theorem dX6_whyNotBurnt_26 : decode cX6_whyNotBurnt 26 = .ok (.iload_n 1, 1) := by decide +kernel
theorem dX6_whyNotBurnt_27 : decode cX6_whyNotBurnt 27 = .ok (.aload_n 0, 1) := by decide +kernel
theorem dX6_whyNotBurnt_28 : decode cX6_whyNotBurnt 28 = .ok (.getfield 15, 3) := by decide +kernel
theorem dX6_whyNotBurnt_31 : decode cX6_whyNotBurnt 31 = .ok (.iconst (-1), 1) := by decide +kernel
theorem dX6_whyNotBurnt_32 : decode cX6_whyNotBurnt 32 = .ok (.invokevirtual 189, 3) := by decide +kernel
theorem dX6_whyNotBurnt_35 : decode cX6_whyNotBurnt 35 = .ok (.ifCond .eq 7, 3) := by decide +kernel
theorem dX6_whyNotBurnt_38 : decode cX6_whyNotBurnt 38 = .ok (.iconst 3, 1) := by decide +kernel
theorem dX6_whyNotBurnt_39 : decode cX6_whyNotBurnt 39 = .ok (.goto 4, 3) := by decide +kernel
theorem dX6_whyNotBurnt_42 : decode cX6_whyNotBurnt 42 = .ok (.iconst 2, 1) := by decide +kernel
theorem dX6_whyNotBurnt_43 : decode cX6_whyNotBurnt 43 = .ok (.ireturn, 1) := by decide +kernel
theorem dX6_numberOfLeaf_0 : decode cX6_numberOfLeaf 0 = .ok (.iload_n 2, 1) := by decide +kernel
theorem dX6_numberOfLeaf_1 : decode cX6_numberOfLeaf 1 = .ok (.tableswitch 121 0 6 #[43, 55, 67, 79, 91, 103, 112], 43) := by decide +kernel
theorem dX6_numberOfLeaf_44 : decode cX6_numberOfLeaf 44 = .ok (.aload_n 0, 1) := by decide +kernel
theorem dX6_numberOfLeaf_45 : decode cX6_numberOfLeaf 45 = .ok (.getfield 21, 3) := by decide +kernel
theorem dX6_numberOfLeaf_48 : decode cX6_numberOfLeaf 48 = .ok (.getfield 152, 3) := by decide +kernel
theorem dX6_numberOfLeaf_51 : decode cX6_numberOfLeaf 51 = .ok (.iload_n 1, 1) := by decide +kernel
theorem dX6_numberOfLeaf_52 : decode cX6_numberOfLeaf 52 = .ok (.invokevirtual 79, 3) := by decide +kernel
theorem dX6_numberOfLeaf_55 : decode cX6_numberOfLeaf 55 = .ok (.ireturn, 1) := by decide +kernel
theorem dX6_numberOfLeaf_56 : decode cX6_numberOfLeaf 56 = .ok (.aload_n 0, 1) := by decide +kernel
theorem dX6_numberOfLeaf_57 : decode cX6_numberOfLeaf 57 = .ok (.getfield 21, 3) := by decide +kernel
theorem dX6_numberOfLeaf_60 : decode cX6_numberOfLeaf 60 = .ok (.getfield 149, 3) := by decide +kernel
theorem dX6_numberOfLeaf_63 : decode cX6_numberOfLeaf 63 = .ok (.iload_n 1, 1) := by decide +kernel
theorem dX6_numberOfLeaf_64 : decode cX6_numberOfLeaf 64 = .ok (.invokevirtual 79, 3) := by decide +kernel
theorem dX6_numberOfLeaf_67 : decode cX6_numberOfLeaf 67 = .ok (.ireturn, 1) := by decide +kernel
theorem dX6_numberOfLeaf_68 : decode cX6_numberOfLeaf 68 = .ok (.aload_n 0, 1) := by decide +kernel
theorem dX6_numberOfLeaf_69 : decode cX6_numberOfLeaf 69 = .ok (.getfield 21, 3) := by decide +kernel
theorem dX6_numberOfLeaf_72 : decode cX6_numberOfLeaf 72 = .ok (.getfield 225, 3) := by decide +kernel
theorem dX6_numberOfLeaf_75 : decode cX6_numberOfLeaf 75 = .ok (.iload_n 1, 1) := by decide +kernel
theorem dX6_numberOfLeaf_76 : decode cX6_numberOfLeaf 76 = .ok (.invokevirtual 79, 3) := by decide +kernel
theorem dX6_numberOfLeaf_79 : decode cX6_numberOfLeaf 79 = .ok (.ireturn, 1) := by decide +kernel
theorem dX6_numberOfLeaf_80 : decode cX6_numberOfLeaf 80 = .ok (.aload_n 0, 1) := by decide +kernel
theorem dX6_numberOfLeaf_81 : decode cX6_numberOfLeaf 81 = .ok (.getfield 21, 3) := by decide +kernel
theorem dX6_numberOfLeaf_84 : decode cX6_numberOfLeaf 84 = .ok (.getfield 207, 3) := by decide +kernel
theorem dX6_numberOfLeaf_87 : decode cX6_numberOfLeaf 87 = .ok (.iload_n 1, 1) := by decide +kernel
theorem dX6_numberOfLeaf_88 : decode cX6_numberOfLeaf 88 = .ok (.invokevirtual 79, 3) := by decide +kernel
theorem dX6_numberOfLeaf_91 : decode cX6_numberOfLeaf 91 = .ok (.ireturn, 1) := by decide +kernel
theorem dX6_numberOfLeaf_92 : decode cX6_numberOfLeaf 92 = .ok (.aload_n 0, 1) := by decide +kernel
theorem dX6_numberOfLeaf_93 : decode cX6_numberOfLeaf 93 = .ok (.getfield 21, 3) := by decide +kernel
theorem dX6_numberOfLeaf_96 : decode cX6_numberOfLeaf 96 = .ok (.getfield 96, 3) := by decide +kernel
theorem dX6_numberOfLeaf_99 : decode cX6_numberOfLeaf 99 = .ok (.iload_n 1, 1) := by decide +kernel
theorem dX6_numberOfLeaf_100 : decode cX6_numberOfLeaf 100 = .ok (.invokevirtual 79, 3) := by decide +kernel
theorem dX6_numberOfLeaf_103 : decode cX6_numberOfLeaf 103 = .ok (.ireturn, 1) := by decide +kernel
theorem dX6_numberOfLeaf_104 : decode cX6_numberOfLeaf 104 = .ok (.aload_n 0, 1) := by decide +kernel
theorem dX6_numberOfLeaf_105 : decode cX6_numberOfLeaf 105 = .ok (.getfield 35, 3) := by decide +kernel
theorem dX6_numberOfLeaf_108 : decode cX6_numberOfLeaf 108 = .ok (.iload_n 1, 1) := by decide +kernel
theorem dX6_numberOfLeaf_109 : decode cX6_numberOfLeaf 109 = .ok (.invokevirtual 228, 3) := by decide +kernel
theorem dX6_numberOfLeaf_112 : decode cX6_numberOfLeaf 112 = .ok (.ireturn, 1) := by decide +kernel
theorem dX6_numberOfLeaf_113 : decode cX6_numberOfLeaf 113 = .ok (.aload_n 0, 1) := by decide +kernel
theorem dX6_numberOfLeaf_114 : decode cX6_numberOfLeaf 114 = .ok (.getfield 35, 3) := by decide +kernel
theorem dX6_numberOfLeaf_117 : decode cX6_numberOfLeaf 117 = .ok (.iload_n 1, 1) := by decide +kernel
theorem dX6_numberOfLeaf_118 : decode cX6_numberOfLeaf 118 = .ok (.invokevirtual 222, 3) := by decide +kernel
theorem dX6_numberOfLeaf_121 : decode cX6_numberOfLeaf 121 = .ok (.ireturn, 1) := by decide +kernel
theorem dX6_numberOfLeaf_122 : decode cX6_numberOfLeaf 122 = .ok (.aload_n 0, 1) := by decide +kernel
theorem dX6_numberOfLeaf_123 : decode cX6_numberOfLeaf 123 = .ok (.getfield 35, 3) := by decide +kernel
theorem dX6_numberOfLeaf_126 : decode cX6_numberOfLeaf 126 = .ok (.iload_n 1, 1) := by decide +kernel
theorem dX6_numberOfLeaf_127 : decode cX6_numberOfLeaf 127 = .ok (.invokevirtual 231, 3) := by decide +kernel
theorem dX6_numberOfLeaf_130 : decode cX6_numberOfLeaf 130 = .ok (.ireturn, 1) := by decide +kernel
theorem dX6_numberOfChild_0 : decode cX6_numberOfChild 0 = .ok (.iload_n 2, 1) := by decide +kernel
theorem dX6_numberOfChild_1 : decode cX6_numberOfChild 1 = .ok (.tableswitch 126 0 6 #[43, 60, 72, 81, 90, 102, 114], 43) := by decide +kernel
theorem dX6_numberOfChild_44 : decode cX6_numberOfChild 44 = .ok (.aload_n 0, 1) := by decide +kernel
theorem dX6_numberOfChild_45 : decode cX6_numberOfChild 45 = .ok (.getfield 28, 3) := by decide +kernel
theorem dX6_numberOfChild_48 : decode cX6_numberOfChild 48 = .ok (.iload_n 1, 1) := by decide +kernel
theorem dX6_numberOfChild_49 : decode cX6_numberOfChild 49 = .ok (.invokevirtual 112, 3) := by decide +kernel
theorem dX6_numberOfChild_52 : decode cX6_numberOfChild 52 = .ok (.ifCond .eq 7, 3) := by decide +kernel
theorem dX6_numberOfChild_55 : decode cX6_numberOfChild 55 = .ok (.iconst 1, 1) := by decide +kernel
theorem dX6_numberOfChild_56 : decode cX6_numberOfChild 56 = .ok (.goto 4, 3) := by decide +kernel
theorem dX6_numberOfChild_59 : decode cX6_numberOfChild 59 = .ok (.iconst 0, 1) := by decide +kernel
theorem dX6_numberOfChild_60 : decode cX6_numberOfChild 60 = .ok (.ireturn, 1) := by decide +kernel
theorem dX6_numberOfChild_61 : decode cX6_numberOfChild 61 = .ok (.aload_n 0, 1) := by decide +kernel
theorem dX6_numberOfChild_62 : decode cX6_numberOfChild 62 = .ok (.getfield 28, 3) := by decide +kernel
theorem dX6_numberOfChild_65 : decode cX6_numberOfChild 65 = .ok (.getfield 115, 3) := by decide +kernel
theorem dX6_numberOfChild_68 : decode cX6_numberOfChild 68 = .ok (.iload_n 1, 1) := by decide +kernel
theorem dX6_numberOfChild_69 : decode cX6_numberOfChild 69 = .ok (.invokevirtual 79, 3) := by decide +kernel
theorem dX6_numberOfChild_72 : decode cX6_numberOfChild 72 = .ok (.ireturn, 1) := by decide +kernel
theorem dX6_numberOfChild_73 : decode cX6_numberOfChild 73 = .ok (.aload_n 0, 1) := by decide +kernel
theorem dX6_numberOfChild_74 : decode cX6_numberOfChild 74 = .ok (.getfield 35, 3) := by decide +kernel
theorem dX6_numberOfChild_77 : decode cX6_numberOfChild 77 = .ok (.iload_n 1, 1) := by decide +kernel
theorem dX6_numberOfChild_78 : decode cX6_numberOfChild 78 = .ok (.invokevirtual 118, 3) := by decide +kernel
theorem dX6_numberOfChild_81 : decode cX6_numberOfChild 81 = .ok (.ireturn, 1) := by decide +kernel
theorem dX6_numberOfChild_82 : decode cX6_numberOfChild 82 = .ok (.aload_n 0, 1) := by decide +kernel
theorem dX6_numberOfChild_83 : decode cX6_numberOfChild 83 = .ok (.getfield 35, 3) := by decide +kernel
theorem dX6_numberOfChild_86 : decode cX6_numberOfChild 86 = .ok (.iload_n 1, 1) := by decide +kernel
theorem dX6_numberOfChild_87 : decode cX6_numberOfChild 87 = .ok (.invokevirtual 234, 3) := by decide +kernel
theorem dX6_numberOfChild_90 : decode cX6_numberOfChild 90 = .ok (.ireturn, 1) := by decide +kernel
theorem dX6_numberOfChild_91 : decode cX6_numberOfChild 91 = .ok (.aload_n 0, 1) := by decide +kernel
theorem dX6_numberOfChild_92 : decode cX6_numberOfChild 92 = .ok (.getfield 28, 3) := by decide +kernel
theorem dX6_numberOfChild_95 : decode cX6_numberOfChild 95 = .ok (.getfield 75, 3) := by decide +kernel
theorem dX6_numberOfChild_98 : decode cX6_numberOfChild 98 = .ok (.iload_n 1, 1) := by decide +kernel
theorem dX6_numberOfChild_99 : decode cX6_numberOfChild 99 = .ok (.invokevirtual 79, 3) := by decide +kernel
theorem dX6_numberOfChild_102 : decode cX6_numberOfChild 102 = .ok (.ireturn, 1) := by decide +kernel
theorem dX6_numberOfChild_103 : decode cX6_numberOfChild 103 = .ok (.aload_n 0, 1) := by decide +kernel
theorem dX6_numberOfChild_104 : decode cX6_numberOfChild 104 = .ok (.getfield 28, 3) := by decide +kernel
theorem dX6_numberOfChild_107 : decode cX6_numberOfChild 107 = .ok (.getfield 159, 3) := by decide +kernel
theorem dX6_numberOfChild_110 : decode cX6_numberOfChild 110 = .ok (.iload_n 1, 1) := by decide +kernel
theorem dX6_numberOfChild_111 : decode cX6_numberOfChild 111 = .ok (.invokevirtual 79, 3) := by decide +kernel
theorem dX6_numberOfChild_114 : decode cX6_numberOfChild 114 = .ok (.ireturn, 1) := by decide +kernel
theorem dX6_numberOfChild_115 : decode cX6_numberOfChild 115 = .ok (.aload_n 0, 1) := by decide +kernel
theorem dX6_numberOfChild_116 : decode cX6_numberOfChild 116 = .ok (.getfield 28, 3) := by decide +kernel
theorem dX6_numberOfChild_119 : decode cX6_numberOfChild 119 = .ok (.getfield 196, 3) := by decide +kernel
theorem dX6_numberOfChild_122 : decode cX6_numberOfChild 122 = .ok (.iload_n 1, 1) := by decide +kernel
theorem dX6_numberOfChild_123 : decode cX6_numberOfChild 123 = .ok (.invokevirtual 79, 3) := by decide +kernel
theorem dX6_numberOfChild_126 : decode cX6_numberOfChild 126 = .ok (.ireturn, 1) := by decide +kernel
theorem dX6_numberOfChild_127 : decode cX6_numberOfChild 127 = .ok (.aload_n 0, 1) := by decide +kernel
theorem dX6_numberOfChild_128 : decode cX6_numberOfChild 128 = .ok (.getfield 28, 3) := by decide +kernel
theorem dX6_numberOfChild_131 : decode cX6_numberOfChild 131 = .ok (.getfield 199, 3) := by decide +kernel
theorem dX6_numberOfChild_134 : decode cX6_numberOfChild 134 = .ok (.iload_n 1, 1) := by decide +kernel
theorem dX6_numberOfChild_135 : decode cX6_numberOfChild 135 = .ok (.invokevirtual 79, 3) := by decide +kernel
theorem dX6_numberOfChild_138 : decode cX6_numberOfChild 138 = .ok (.ireturn, 1) := by decide +kernel
theorem dX6_numberOfAll_0 : decode cX6_numberOfAll 0 = .ok (.iload_n 1, 1) := by decide +kernel
theorem dX6_numberOfAll_1 : decode cX6_numberOfAll 1 = .ok (.tableswitch 171 0 13 #[71, 79, 87, 95, 100, 108, 117, 126, 135, 143, 151, 156, 161, 166], 71) := by decide +kernel
theorem dX6_numberOfAll_72 : decode cX6_numberOfAll 72 = .ok (.aload_n 0, 1) := by decide +kernel
theorem dX6_numberOfAll_73 : decode cX6_numberOfAll 73 = .ok (.getfield 28, 3) := by decide +kernel
theorem dX6_numberOfAll_76 : decode cX6_numberOfAll 76 = .ok (.invokevirtual 237, 3) := by decide +kernel
theorem dX6_numberOfAll_79 : decode cX6_numberOfAll 79 = .ok (.ireturn, 1) := by decide +kernel
theorem dX6_numberOfAll_80 : decode cX6_numberOfAll 80 = .ok (.aload_n 0, 1) := by decide +kernel
theorem dX6_numberOfAll_81 : decode cX6_numberOfAll 81 = .ok (.getfield 28, 3) := by decide +kernel
theorem dX6_numberOfAll_84 : decode cX6_numberOfAll 84 = .ok (.invokevirtual 201, 3) := by decide +kernel
theorem dX6_numberOfAll_87 : decode cX6_numberOfAll 87 = .ok (.ireturn, 1) := by decide +kernel
theorem dX6_numberOfAll_88 : decode cX6_numberOfAll 88 = .ok (.aload_n 0, 1) := by decide +kernel
theorem dX6_numberOfAll_89 : decode cX6_numberOfAll 89 = .ok (.getfield 28, 3) := by decide +kernel
theorem dX6_numberOfAll_92 : decode cX6_numberOfAll 92 = .ok (.invokevirtual 240, 3) := by decide +kernel
theorem dX6_numberOfAll_95 : decode cX6_numberOfAll 95 = .ok (.ireturn, 1) := by decide +kernel
theorem dX6_numberOfAll_96 : decode cX6_numberOfAll 96 = .ok (.aload_n 0, 1) := by decide +kernel
theorem dX6_numberOfAll_97 : decode cX6_numberOfAll 97 = .ok (.getfield 39, 3) := by decide +kernel
theorem dX6_numberOfAll_100 : decode cX6_numberOfAll 100 = .ok (.ireturn, 1) := by decide +kernel
theorem dX6_numberOfAll_101 : decode cX6_numberOfAll 101 = .ok (.aload_n 0, 1) := by decide +kernel
theorem dX6_numberOfAll_102 : decode cX6_numberOfAll 102 = .ok (.getfield 21, 3) := by decide +kernel
theorem dX6_numberOfAll_105 : decode cX6_numberOfAll 105 = .ok (.getfield 127, 3) := by decide +kernel
theorem dX6_numberOfAll_108 : decode cX6_numberOfAll 108 = .ok (.ireturn, 1) := by decide +kernel
theorem dX6_numberOfAll_109 : decode cX6_numberOfAll 109 = .ok (.aload_n 0, 1) := by decide +kernel
theorem dX6_numberOfAll_110 : decode cX6_numberOfAll 110 = .ok (.getfield 21, 3) := by decide +kernel
theorem dX6_numberOfAll_113 : decode cX6_numberOfAll 113 = .ok (.iconst 0, 1) := by decide +kernel
theorem dX6_numberOfAll_114 : decode cX6_numberOfAll 114 = .ok (.invokevirtual 168, 3) := by decide +kernel
theorem dX6_numberOfAll_117 : decode cX6_numberOfAll 117 = .ok (.ireturn, 1) := by decide +kernel
theorem dX6_numberOfAll_118 : decode cX6_numberOfAll 118 = .ok (.aload_n 0, 1) := by decide +kernel
theorem dX6_numberOfAll_119 : decode cX6_numberOfAll 119 = .ok (.getfield 21, 3) := by decide +kernel
theorem dX6_numberOfAll_122 : decode cX6_numberOfAll 122 = .ok (.iconst 1, 1) := by decide +kernel
theorem dX6_numberOfAll_123 : decode cX6_numberOfAll 123 = .ok (.invokevirtual 168, 3) := by decide +kernel
theorem dX6_numberOfAll_126 : decode cX6_numberOfAll 126 = .ok (.ireturn, 1) := by decide +kernel
theorem dX6_numberOfAll_127 : decode cX6_numberOfAll 127 = .ok (.aload_n 0, 1) := by decide +kernel
theorem dX6_numberOfAll_128 : decode cX6_numberOfAll 128 = .ok (.getfield 21, 3) := by decide +kernel
theorem dX6_numberOfAll_131 : decode cX6_numberOfAll 131 = .ok (.iconst 2, 1) := by decide +kernel
theorem dX6_numberOfAll_132 : decode cX6_numberOfAll 132 = .ok (.invokevirtual 168, 3) := by decide +kernel
theorem dX6_numberOfAll_135 : decode cX6_numberOfAll 135 = .ok (.ireturn, 1) := by decide +kernel
theorem dX6_numberOfAll_136 : decode cX6_numberOfAll 136 = .ok (.aload_n 0, 1) := by decide +kernel
theorem dX6_numberOfAll_137 : decode cX6_numberOfAll 137 = .ok (.getfield 35, 3) := by decide +kernel
theorem dX6_numberOfAll_140 : decode cX6_numberOfAll 140 = .ok (.invokevirtual 243, 3) := by decide +kernel
theorem dX6_numberOfAll_143 : decode cX6_numberOfAll 143 = .ok (.ireturn, 1) := by decide +kernel
theorem dX6_numberOfAll_144 : decode cX6_numberOfAll 144 = .ok (.aload_n 0, 1) := by decide +kernel
theorem dX6_numberOfAll_145 : decode cX6_numberOfAll 145 = .ok (.getfield 35, 3) := by decide +kernel
theorem dX6_numberOfAll_148 : decode cX6_numberOfAll 148 = .ok (.invokevirtual 246, 3) := by decide +kernel
theorem dX6_numberOfAll_151 : decode cX6_numberOfAll 151 = .ok (.ireturn, 1) := by decide +kernel
theorem dX6_numberOfAll_152 : decode cX6_numberOfAll 152 = .ok (.aload_n 0, 1) := by decide +kernel
theorem dX6_numberOfAll_153 : decode cX6_numberOfAll 153 = .ok (.getfield 42, 3) := by decide +kernel
theorem dX6_numberOfAll_156 : decode cX6_numberOfAll 156 = .ok (.ireturn, 1) := by decide +kernel
theorem dX6_numberOfAll_157 : decode cX6_numberOfAll 157 = .ok (.aload_n 0, 1) := by decide +kernel
theorem dX6_numberOfAll_158 : decode cX6_numberOfAll 158 = .ok (.getfield 45, 3) := by decide +kernel
theorem dX6_numberOfAll_161 : decode cX6_numberOfAll 161 = .ok (.ireturn, 1) := by decide +kernel
theorem dX6_numberOfAll_162 : decode cX6_numberOfAll 162 = .ok (.aload_n 0, 1) := by decide +kernel
theorem dX6_numberOfAll_163 : decode cX6_numberOfAll 163 = .ok (.getfield 48, 3) := by decide +kernel
theorem dX6_numberOfAll_166 : decode cX6_numberOfAll 166 = .ok (.ireturn, 1) := by decide +kernel
theorem dX6_numberOfAll_167 : decode cX6_numberOfAll 167 = .ok (.aload_n 0, 1) := by decide +kernel
theorem dX6_numberOfAll_168 : decode cX6_numberOfAll 168 = .ok (.getfield 51, 3) := by decide +kernel
theorem dX6_numberOfAll_171 : decode cX6_numberOfAll 171 = .ok (.ireturn, 1) := by decide +kernel
theorem dX6_numberOfAll_172 : decode cX6_numberOfAll 172 = .ok (.aload_n 0, 1) := by decide +kernel
theorem dX6_numberOfAll_173 : decode cX6_numberOfAll 173 = .ok (.getfield 54, 3) := by decide +kernel
theorem dX6_numberOfAll_176 : decode cX6_numberOfAll 176 = .ok (.ireturn, 1) := by decide +kernel
end
section
theorem dX7_init_0 : decode cX7_init 0 = .ok (.aload_n 0, 1) := by decide +kernel
theorem dX7_init_1 : decode cX7_init 1 = .ok (.invokespecial 1, 3) := by decide +kernel
theorem dX7_init_4 : decode cX7_init 4 = .ok (.aload_n 0, 1) := by decide +kernel
theorem dX7_init_5 : decode cX7_init 5 = .ok (.new 7, 3) := by decide +kernel
theorem dX7_init_8 : decode cX7_init 8 = .ok (.dup, 1) := by decide +kernel
theorem dX7_init_9 : decode cX7_init 9 = .ok (.invokespecial 9, 3) := by decide +kernel
theorem dX7_init_12 : decode cX7_init 12 = .ok (.putfield 10, 3) := by decide +kernel
theorem dX7_init_15 : decode cX7_init 15 = .ok (.aload_n 0, 1) := by decide +kernel
theorem dX7_init_16 : decode cX7_init 16 = .ok (.new 7, 3) := by decide +kernel
theorem dX7_init_19 : decode cX7_init 19 = .ok (.dup, 1) := by decide +kernel
theorem dX7_init_20 : decode cX7_init 20 = .ok (.invokespecial 9, 3) := by decide +kernel
theorem dX7_init_23 : decode cX7_init 23 = .ok (.putfield 16, 3) := by decide +kernel
theorem dX7_init_26 : decode cX7_init 26 = .ok (.aload_n 0, 1) := by decide +kernel
theorem dX7_init_27 : decode cX7_init 27 = .ok (.new 19, 3) := by decide +kernel
theorem dX7_init_30 : decode cX7_init 30 = .ok (.dup, 1) := by decide +kernel
theorem dX7_init_31 : decode cX7_init 31 = .ok (.invokespecial 21, 3) := by decide +kernel
theorem dX7_init_34 : decode cX7_init 34 = .ok (.putfield 22, 3) := by decide +kernel
theorem dX7_init_37 : decode cX7_init 37 = .ok (.aload_n 0, 1) := by decide +kernel
theorem dX7_init_38 : decode cX7_init 38 = .ok (.new 26, 3) := by decide +kernel
theorem dX7_init_41 : decode cX7_init 41 = .ok (.dup, 1) := by decide +kernel
theorem dX7_init_42 : decode cX7_init 42 = .ok (.invokespecial 28, 3) := by decide +kernel
theorem dX7_init_45 : decode cX7_init 45 = .ok (.putfield 29, 3) := by decide +kernel
theorem dX7_init_48 : decode cX7_init 48 = .ok (.return_, 1) := by decide +kernel
theorem dX7_come_0 : decode cX7_come 0 = .ok (.aload_n 0, 1) := by decide +kernel
theorem dX7_come_1 : decode cX7_come 1 = .ok (.getfield 10, 3) := by decide +kernel
theorem dX7_come_4 : decode cX7_come 4 = .ok (.getfield 33, 3) := by decide +kernel
theorem dX7_come_7 : decode cX7_come 7 = .ok (.invokevirtual 37, 3) := by decide +kernel
theorem dX7_come_10 : decode cX7_come 10 = .ok (.iconst (-1), 1) := by decide +kernel
theorem dX7_come_11 : decode cX7_come 11 = .ok (.if_icmp .ne 13, 3) := by decide +kernel
theorem dX7_come_14 : decode cX7_come 14 = .ok (.new 43, 3) := by decide +kernel
theorem dX7_come_17 : decode cX7_come 17 = .ok (.dup, 1) := by decide +kernel
theorem dX7_come_18 : decode cX7_come 18 = .ok (.ldc 45, 2) := by decide +kernel
theorem dX7_come_20 : decode cX7_come 20 = .ok (.invokespecial 47, 3) := by decide +kernel
theorem dX7_come_23 : decode cX7_come 23 = .ok (.athrow, 1) := by decide +kernel
theorem dX7_come_24 : decode cX7_come 24 = .ok (.aload_n 0, 1) := by decide +kernel
theorem dX7_come_25 : decode cX7_come 25 = .ok (.getfield 22, 3) := by decide +kernel
theorem dX7_come_28 : decode cX7_come 28 = .ok (.aload_n 0, 1) := by decide +kernel
theorem dX7_come_29 : decode cX7_come 29 = .ok (.getfield 10, 3) := by decide +kernel
theorem dX7_come_32 : decode cX7_come 32 = .ok (.invokevirtual 50, 3) := by decide +kernel
theorem dX7_come_35 : decode cX7_come 35 = .ok (.aload_n 0, 1) := by decide +kernel
theorem dX7_come_36 : decode cX7_come 36 = .ok (.getfield 10, 3) := by decide +kernel
theorem dX7_come_39 : decode cX7_come 39 = .ok (.invokevirtual 54, 3) := by decide +kernel
theorem dX7_come_42 : decode cX7_come 42 = .ok (.ireturn, 1) := by decide +kernel
theorem dX7_leave_0 : decode cX7_leave 0 = .ok (.aload_n 0, 1) := by decide +kernel
theorem dX7_leave_1 : decode cX7_leave 1 = .ok (.iload_n 1, 1) := by decide +kernel
theorem dX7_leave_2 : decode cX7_leave 2 = .ok (.invokevirtual 57, 3) := by decide +kernel
theorem dX7_leave_5 : decode cX7_leave 5 = .ok (.aload_n 0, 1) := by decide +kernel
theorem dX7_leave_6 : decode cX7_leave 6 = .ok (.getfield 10, 3) := by decide +kernel
theorem dX7_leave_9 : decode cX7_leave 9 = .ok (.getfield 33, 3) := by decide +kernel
theorem dX7_leave_12 : decode cX7_leave 12 = .ok (.invokevirtual 61, 3) := by decide +kernel
theorem dX7_leave_15 : decode cX7_leave 15 = .ok (.iconst 1, 1) := by decide +kernel
theorem dX7_leave_16 : decode cX7_leave 16 = .ok (.if_icmp .gt 13, 3) := by decide +kernel
theorem dX7_leave_19 : decode cX7_leave 19 = .ok (.new 43, 3) := by decide +kernel
theorem dX7_leave_22 : decode cX7_leave 22 = .ok (.dup, 1) := by decide +kernel
theorem dX7_leave_23 : decode cX7_leave 23 = .ok (.ldc 64, 2) := by decide +kernel
theorem dX7_leave_25 : decode cX7_leave 25 = .ok (.invokespecial 47, 3) := by decide +kernel
theorem dX7_leave_28 : decode cX7_leave 28 = .ok (.athrow, 1) := by decide +kernel
theorem dX7_leave_29 : decode cX7_leave 29 = .ok (.aload_n 0, 1) := by decide +kernel
theorem dX7_leave_30 : decode cX7_leave 30 = .ok (.getfield 22, 3) := by decide +kernel
theorem dX7_leave_33 : decode cX7_leave 33 = .ok (.aload_n 0, 1) := by decide +kernel
theorem dX7_leave_34 : decode cX7_leave 34 = .ok (.getfield 10, 3) := by decide +kernel
theorem dX7_leave_37 : decode cX7_leave 37 = .ok (.invokevirtual 50, 3) := by decide +kernel
theorem dX7_leave_40 : decode cX7_leave 40 = .ok (.aload_n 0, 1) := by decide +kernel
theorem dX7_leave_41 : decode cX7_leave 41 = .ok (.getfield 10, 3) := by decide +kernel
theorem dX7_leave_44 : decode cX7_leave 44 = .ok (.iload_n 1, 1) := by decide +kernel
theorem dX7_leave_45 : decode cX7_leave 45 = .ok (.invokevirtual 66, 3) := by decide +kernel
theorem dX7_leave_48 : decode cX7_leave 48 = .ok (.ireturn, 1) := by decide +kernel
theorem dX7_enter_0 : decode cX7_enter 0 = .ok (.aload_n 0, 1) := by decide +kernel
theorem dX7_enter_1 : decode cX7_enter 1 = .ok (.iload_n 1, 1) := by decide +kernel
theorem dX7_enter_2 : decode cX7_enter 2 = .ok (.invokevirtual 57, 3) := by decide +kernel
theorem dX7_enter_5 : decode cX7_enter 5 = .ok (.aload_n 0, 1) := by decide +kernel
theorem dX7_enter_6 : decode cX7_enter 6 = .ok (.getfield 10, 3) := by decide +kernel
theorem dX7_enter_9 : decode cX7_enter 9 = .ok (.iload_n 1, 1) := by decide +kernel
theorem dX7_enter_10 : decode cX7_enter 10 = .ok (.invokevirtual 70, 3) := by decide +kernel
theorem dX7_enter_13 : decode cX7_enter 13 = .ok (.ifCond .ne 13, 3) := by decide +kernel
theorem dX7_enter_16 : decode cX7_enter 16 = .ok (.new 43, 3) := by decide +kernel
theorem dX7_enter_19 : decode cX7_enter 19 = .ok (.dup, 1) := by decide +kernel
theorem dX7_enter_20 : decode cX7_enter 20 = .ok (.ldc 74, 2) := by decide +kernel
theorem dX7_enter_22 : decode cX7_enter 22 = .ok (.invokespecial 47, 3) := by decide +kernel
theorem dX7_enter_25 : decode cX7_enter 25 = .ok (.athrow, 1) := by decide +kernel
theorem dX7_enter_26 : decode cX7_enter 26 = .ok (.aload_n 0, 1) := by decide +kernel
theorem dX7_enter_27 : decode cX7_enter 27 = .ok (.getfield 22, 3) := by decide +kernel
theorem dX7_enter_30 : decode cX7_enter 30 = .ok (.aload_n 0, 1) := by decide +kernel
theorem dX7_enter_31 : decode cX7_enter 31 = .ok (.getfield 10, 3) := by decide +kernel
theorem dX7_enter_34 : decode cX7_enter 34 = .ok (.invokevirtual 50, 3) := by decide +kernel
theorem dX7_enter_37 : decode cX7_enter 37 = .ok (.aload_n 0, 1) := by decide +kernel
theorem dX7_enter_38 : decode cX7_enter 38 = .ok (.getfield 10, 3) := by decide +kernel
theorem dX7_enter_41 : decode cX7_enter 41 = .ok (.iload_n 1, 1) := by decide +kernel
theorem dX7_enter_42 : decode cX7_enter 42 = .ok (.invokevirtual 76, 3) := by decide +kernel
theorem dX7_enter_45 : decode cX7_enter 45 = .ok (.ireturn, 1) := by decide +kernel
theorem dX7_rest_0 : decode cX7_rest 0 = .ok (.aload_n 0, 1) := by decide +kernel
theorem dX7_rest_1 : decode cX7_rest 1 = .ok (.iload_n 1, 1) := by decide +kernel
theorem dX7_rest_2 : decode cX7_rest 2 = .ok (.invokevirtual 57, 3) := by decide +kernel
theorem dX7_rest_5 : decode cX7_rest 5 = .ok (.aload_n 0, 1) := by decide +kernel
theorem dX7_rest_6 : decode cX7_rest 6 = .ok (.getfield 10, 3) := by decide +kernel
theorem dX7_rest_9 : decode cX7_rest 9 = .ok (.iload_n 1, 1) := by decide +kernel
theorem dX7_rest_10 : decode cX7_rest 10 = .ok (.invokevirtual 79, 3) := by decide +kernel
theorem dX7_rest_13 : decode cX7_rest 13 = .ok (.ifCond .ne 13, 3) := by decide +kernel
theorem dX7_rest_16 : decode cX7_rest 16 = .ok (.new 43, 3) := by decide +kernel
theorem dX7_rest_19 : decode cX7_rest 19 = .ok (.dup, 1) := by decide +kernel
theorem dX7_rest_20 : decode cX7_rest 20 = .ok (.ldc 82, 2) := by decide +kernel
theorem dX7_rest_22 : decode cX7_rest 22 = .ok (.invokespecial 47, 3) := by decide +kernel
theorem dX7_rest_25 : decode cX7_rest 25 = .ok (.athrow, 1) := by decide +kernel
theorem dX7_rest_26 : decode cX7_rest 26 = .ok (.aload_n 0, 1) := by decide +kernel
theorem dX7_rest_27 : decode cX7_rest 27 = .ok (.getfield 22, 3) := by decide +kernel
theorem dX7_rest_30 : decode cX7_rest 30 = .ok (.aload_n 0, 1) := by decide +kernel
theorem dX7_rest_31 : decode cX7_rest 31 = .ok (.getfield 10, 3) := by decide +kernel
theorem dX7_rest_34 : decode cX7_rest 34 = .ok (.invokevirtual 50, 3) := by decide +kernel
theorem dX7_rest_37 : decode cX7_rest 37 = .ok (.aload_n 0, 1) := by decide +kernel
theorem dX7_rest_38 : decode cX7_rest 38 = .ok (.getfield 10, 3) := by decide +kernel
theorem dX7_rest_41 : decode cX7_rest 41 = .ok (.iload_n 1, 1) := by decide +kernel
theorem dX7_rest_42 : decode cX7_rest 42 = .ok (.invokevirtual 84, 3) := by decide +kernel
theorem dX7_rest_45 : decode cX7_rest 45 = .ok (.ireturn, 1) := by decide +kernel
theorem dX7_ring_0 : decode cX7_ring 0 = .ok (.aload_n 0, 1) := by decide +kernel
theorem dX7_ring_1 : decode cX7_ring 1 = .ok (.getfield 10, 3) := by decide +kernel
theorem dX7_ring_4 : decode cX7_ring 4 = .ok (.invokevirtual 87, 3) := by decide +kernel
theorem dX7_ring_7 : decode cX7_ring 7 = .ok (.ifCond .ne 13, 3) := by decide +kernel
theorem dX7_ring_10 : decode cX7_ring 10 = .ok (.new 43, 3) := by decide +kernel
theorem dX7_ring_13 : decode cX7_ring 13 = .ok (.dup, 1) := by decide +kernel
theorem dX7_ring_14 : decode cX7_ring 14 = .ok (.ldc 91, 2) := by decide +kernel
theorem dX7_ring_16 : decode cX7_ring 16 = .ok (.invokespecial 47, 3) := by decide +kernel
theorem dX7_ring_19 : decode cX7_ring 19 = .ok (.athrow, 1) := by decide +kernel
theorem dX7_ring_20 : decode cX7_ring 20 = .ok (.aload_n 0, 1) := by decide +kernel
theorem dX7_ring_21 : decode cX7_ring 21 = .ok (.getfield 22, 3) := by decide +kernel
theorem dX7_ring_24 : decode cX7_ring 24 = .ok (.aload_n 0, 1) := by decide +kernel
theorem dX7_ring_25 : decode cX7_ring 25 = .ok (.getfield 10, 3) := by decide +kernel
theorem dX7_ring_28 : decode cX7_ring 28 = .ok (.invokevirtual 50, 3) := by decide +kernel
theorem dX7_ring_31 : decode cX7_ring 31 = .ok (.aload_n 0, 1) := by decide +kernel
theorem dX7_ring_32 : decode cX7_ring 32 = .ok (.getfield 10, 3) := by decide +kernel
theorem dX7_ring_35 : decode cX7_ring 35 = .ok (.invokevirtual 93, 3) := by decide +kernel
theorem dX7_ring_38 : decode cX7_ring 38 = .ok (.ireturn, 1) := by decide +kernel
theorem dX7_grow_0 : decode cX7_grow 0 = .ok (.iload_n 1, 1) := by decide +kernel
theorem dX7_grow_1 : decode cX7_grow 1 = .ok (.invokestatic 96, 3) := by decide +kernel
theorem dX7_grow_4 : decode cX7_grow 4 = .ok (.iload_n 2, 1) := by decide +kernel
theorem dX7_grow_5 : decode cX7_grow 5 = .ok (.invokestatic 99, 3) := by decide +kernel
theorem dX7_grow_8 : decode cX7_grow 8 = .ok (.aload_n 0, 1) := by decide +kernel
theorem dX7_grow_9 : decode cX7_grow 9 = .ok (.getfield 10, 3) := by decide +kernel
theorem dX7_grow_12 : decode cX7_grow 12 = .ok (.iload_n 1, 1) := by decide +kernel
theorem dX7_grow_13 : decode cX7_grow 13 = .ok (.invokevirtual 102, 3) := by decide +kernel
theorem dX7_grow_16 : decode cX7_grow 16 = .ok (.ifCond .ne 13, 3) := by decide +kernel
theorem dX7_grow_19 : decode cX7_grow 19 = .ok (.new 43, 3) := by decide +kernel
theorem dX7_grow_22 : decode cX7_grow 22 = .ok (.dup, 1) := by decide +kernel
theorem dX7_grow_23 : decode cX7_grow 23 = .ok (.ldc 105, 2) := by decide +kernel
theorem dX7_grow_25 : decode cX7_grow 25 = .ok (.invokespecial 47, 3) := by decide +kernel
theorem dX7_grow_28 : decode cX7_grow 28 = .ok (.athrow, 1) := by decide +kernel
theorem dX7_grow_29 : decode cX7_grow 29 = .ok (.aload_n 0, 1) := by decide +kernel
theorem dX7_grow_30 : decode cX7_grow 30 = .ok (.getfield 22, 3) := by decide +kernel
theorem dX7_grow_33 : decode cX7_grow 33 = .ok (.aload_n 0, 1) := by decide +kernel
theorem dX7_grow_34 : decode cX7_grow 34 = .ok (.getfield 10, 3) := by decide +kernel
theorem dX7_grow_37 : decode cX7_grow 37 = .ok (.invokevirtual 50, 3) := by decide +kernel
theorem dX7_grow_40 : decode cX7_grow 40 = .ok (.aload_n 0, 1) := by decide +kernel
theorem dX7_grow_41 : decode cX7_grow 41 = .ok (.getfield 10, 3) := by decide +kernel
theorem dX7_grow_44 : decode cX7_grow 44 = .ok (.getfield 107, 3) := by decide +kernel
theorem dX7_grow_47 : decode cX7_grow 47 = .ok (.iload_n 1, 1) := by decide +kernel
theorem dX7_grow_48 : decode cX7_grow 48 = .ok (.iload_n 2, 1) := by decide +kernel
theorem dX7_grow_49 : decode cX7_grow 49 = .ok (.invokevirtual 111, 3) := by decide +kernel
theorem dX7_grow_52 : decode cX7_grow 52 = .ok (.ireturn, 1) := by decide +kernel
theorem dX7_note_0 : decode cX7_note 0 = .ok (.aload_n 0, 1) := by decide +kernel
theorem dX7_note_1 : decode cX7_note 1 = .ok (.iload_n 1, 1) := by decide +kernel
theorem dX7_note_2 : decode cX7_note 2 = .ok (.iload_n 2, 1) := by decide +kernel
theorem dX7_note_3 : decode cX7_note 3 = .ok (.invokevirtual 117, 3) := by decide +kernel
theorem dX7_note_6 : decode cX7_note 6 = .ok (.iload_n 3, 1) := by decide +kernel
theorem dX7_note_7 : decode cX7_note 7 = .ok (.invokestatic 96, 3) := by decide +kernel
theorem dX7_note_10 : decode cX7_note 10 = .ok (.aload_n 0, 1) := by decide +kernel
theorem dX7_note_11 : decode cX7_note 11 = .ok (.getfield 10, 3) := by decide +kernel
theorem dX7_note_14 : decode cX7_note 14 = .ok (.iload_n 1, 1) := by decide +kernel
theorem dX7_note_15 : decode cX7_note 15 = .ok (.iload_n 2, 1) := by decide +kernel
theorem dX7_note_16 : decode cX7_note 16 = .ok (.iload_n 3, 1) := by decide +kernel
theorem dX7_note_17 : decode cX7_note 17 = .ok (.invokevirtual 121, 3) := by decide +kernel
theorem dX7_note_20 : decode cX7_note 20 = .ok (.ifCond .ne 13, 3) := by decide +kernel
theorem dX7_note_23 : decode cX7_note 23 = .ok (.new 43, 3) := by decide +kernel
theorem dX7_note_26 : decode cX7_note 26 = .ok (.dup, 1) := by decide +kernel
theorem dX7_note_27 : decode cX7_note 27 = .ok (.ldc 125, 2) := by decide +kernel
theorem dX7_note_29 : decode cX7_note 29 = .ok (.invokespecial 47, 3) := by decide +kernel
theorem dX7_note_32 : decode cX7_note 32 = .ok (.athrow, 1) := by decide +kernel
theorem dX7_note_33 : decode cX7_note 33 = .ok (.aload_n 0, 1) := by decide +kernel
theorem dX7_note_34 : decode cX7_note 34 = .ok (.getfield 22, 3) := by decide +kernel
theorem dX7_note_37 : decode cX7_note 37 = .ok (.aload_n 0, 1) := by decide +kernel
theorem dX7_note_38 : decode cX7_note 38 = .ok (.getfield 10, 3) := by decide +kernel
theorem dX7_note_41 : decode cX7_note 41 = .ok (.invokevirtual 50, 3) := by decide +kernel
theorem dX7_note_44 : decode cX7_note 44 = .ok (.aload_n 0, 1) := by decide +kernel
theorem dX7_note_45 : decode cX7_note 45 = .ok (.getfield 10, 3) := by decide +kernel
theorem dX7_note_48 : decode cX7_note 48 = .ok (.iload_n 1, 1) := by decide +kernel
theorem dX7_note_49 : decode cX7_note 49 = .ok (.iload_n 2, 1) := by decide +kernel
theorem dX7_note_50 : decode cX7_note 50 = .ok (.iload_n 3, 1) := by decide +kernel
theorem dX7_note_51 : decode cX7_note 51 = .ok (.invokevirtual 127, 3) := by decide +kernel
theorem dX7_note_54 : decode cX7_note 54 = .ok (.ireturn, 1) := by decide +kernel
theorem dX7_pin_0 : decode cX7_pin 0 = .ok (.aload_n 0, 1) := by decide +kernel
theorem dX7_pin_1 : decode cX7_pin 1 = .ok (.iload_n 1, 1) := by decide +kernel
theorem dX7_pin_2 : decode cX7_pin 2 = .ok (.iload_n 2, 1) := by decide +kernel
theorem dX7_pin_3 : decode cX7_pin 3 = .ok (.invokevirtual 117, 3) := by decide +kernel
theorem dX7_pin_6 : decode cX7_pin 6 = .ok (.aload_n 0, 1) := by decide +kernel
theorem dX7_pin_7 : decode cX7_pin 7 = .ok (.getfield 10, 3) := by decide +kernel
theorem dX7_pin_10 : decode cX7_pin 10 = .ok (.iload_n 1, 1) := by decide +kernel
theorem dX7_pin_11 : decode cX7_pin 11 = .ok (.iload_n 2, 1) := by decide +kernel
theorem dX7_pin_12 : decode cX7_pin 12 = .ok (.invokevirtual 131, 3) := by decide +kernel
theorem dX7_pin_15 : decode cX7_pin 15 = .ok (.ifCond .ne 13, 3) := by decide +kernel
theorem dX7_pin_18 : decode cX7_pin 18 = .ok (.new 43, 3) := by decide +kernel
theorem dX7_pin_21 : decode cX7_pin 21 = .ok (.dup, 1) := by decide +kernel
theorem dX7_pin_22 : decode cX7_pin 22 = .ok (.ldc 135, 2) := by decide +kernel
theorem dX7_pin_24 : decode cX7_pin 24 = .ok (.invokespecial 47, 3) := by decide +kernel
theorem dX7_pin_27 : decode cX7_pin 27 = .ok (.athrow, 1) := by decide +kernel
theorem dX7_pin_28 : decode cX7_pin 28 = .ok (.aload_n 0, 1) := by decide +kernel
theorem dX7_pin_29 : decode cX7_pin 29 = .ok (.getfield 22, 3) := by decide +kernel
theorem dX7_pin_32 : decode cX7_pin 32 = .ok (.aload_n 0, 1) := by decide +kernel
theorem dX7_pin_33 : decode cX7_pin 33 = .ok (.getfield 10, 3) := by decide +kernel
theorem dX7_pin_36 : decode cX7_pin 36 = .ok (.invokevirtual 50, 3) := by decide +kernel
theorem dX7_pin_39 : decode cX7_pin 39 = .ok (.aload_n 0, 1) := by decide +kernel
theorem dX7_pin_40 : decode cX7_pin 40 = .ok (.getfield 10, 3) := by decide +kernel
theorem dX7_pin_43 : decode cX7_pin 43 = .ok (.iload_n 1, 1) := by decide +kernel
theorem dX7_pin_44 : decode cX7_pin 44 = .ok (.iload_n 2, 1) := by decide +kernel
theorem dX7_pin_45 : decode cX7_pin 45 = .ok (.invokevirtual 137, 3) := by decide +kernel
theorem dX7_pin_48 : decode cX7_pin 48 = .ok (.ireturn, 1) := by decide +kernel
theorem dX7_loosen_0 : decode cX7_loosen 0 = .ok (.aload_n 0, 1) := by decide +kernel
theorem dX7_loosen_1 : decode cX7_loosen 1 = .ok (.iload_n 1, 1) := by decide +kernel
theorem dX7_loosen_2 : decode cX7_loosen 2 = .ok (.iload_n 2, 1) := by decide +kernel
theorem dX7_loosen_3 : decode cX7_loosen 3 = .ok (.invokevirtual 117, 3) := by decide +kernel
theorem dX7_loosen_6 : decode cX7_loosen 6 = .ok (.aload_n 0, 1) := by decide +kernel
theorem dX7_loosen_7 : decode cX7_loosen 7 = .ok (.getfield 10, 3) := by decide +kernel
theorem dX7_loosen_10 : decode cX7_loosen 10 = .ok (.iload_n 1, 1) := by decide +kernel
theorem dX7_loosen_11 : decode cX7_loosen 11 = .ok (.iload_n 2, 1) := by decide +kernel
theorem dX7_loosen_12 : decode cX7_loosen 12 = .ok (.invokevirtual 140, 3) := by decide +kernel
theorem dX7_loosen_15 : decode cX7_loosen 15 = .ok (.ifCond .ne 13, 3) := by decide +kernel
theorem dX7_loosen_18 : decode cX7_loosen 18 = .ok (.new 43, 3) := by decide +kernel
theorem dX7_loosen_21 : decode cX7_loosen 21 = .ok (.dup, 1) := by decide +kernel
theorem dX7_loosen_22 : decode cX7_loosen 22 = .ok (.ldc 143, 2) := by decide +kernel
theorem dX7_loosen_24 : decode cX7_loosen 24 = .ok (.invokespecial 47, 3) := by decide +kernel
theorem dX7_loosen_27 : decode cX7_loosen 27 = .ok (.athrow, 1) := by decide +kernel
theorem dX7_loosen_28 : decode cX7_loosen 28 = .ok (.aload_n 0, 1) := by decide +kernel
theorem dX7_loosen_29 : decode cX7_loosen 29 = .ok (.getfield 22, 3) := by decide +kernel
theorem dX7_loosen_32 : decode cX7_loosen 32 = .ok (.aload_n 0, 1) := by decide +kernel
theorem dX7_loosen_33 : decode cX7_loosen 33 = .ok (.getfield 10, 3) := by decide +kernel
theorem dX7_loosen_36 : decode cX7_loosen 36 = .ok (.invokevirtual 50, 3) := by decide +kernel
theorem dX7_loosen_39 : decode cX7_loosen 39 = .ok (.aload_n 0, 1) := by decide +kernel
theorem dX7_loosen_40 : decode cX7_loosen 40 = .ok (.getfield 10, 3) := by decide +kernel
theorem dX7_loosen_43 : decode cX7_loosen 43 = .ok (.iload_n 1, 1) := by decide +kernel
theorem dX7_loosen_44 : decode cX7_loosen 44 = .ok (.iload_n 2, 1) := by decide +kernel
theorem dX7_loosen_45 : decode cX7_loosen 45 = .ok (.invokevirtual 145, 3) := by decide +kernel
theorem dX7_loosen_48 : decode cX7_loosen 48 = .ok (.ireturn, 1) := by decide +kernel
theorem dX7_look_0 : decode cX7_look 0 = .ok (.aload_n 0, 1) := by decide +kernel
theorem dX7_look_1 : decode cX7_look 1 = .ok (.iload_n 1, 1) := by decide +kernel
theorem dX7_look_2 : decode cX7_look 2 = .ok (.iload_n 2, 1) := by decide +kernel
theorem dX7_look_3 : decode cX7_look 3 = .ok (.invokevirtual 117, 3) := by decide +kernel
theorem dX7_look_6 : decode cX7_look 6 = .ok (.aload_n 0, 1) := by decide +kernel
theorem dX7_look_7 : decode cX7_look 7 = .ok (.getfield 10, 3) := by decide +kernel
theorem dX7_look_10 : decode cX7_look 10 = .ok (.iload_n 1, 1) := by decide +kernel
theorem dX7_look_11 : decode cX7_look 11 = .ok (.iload_n 2, 1) := by decide +kernel
theorem dX7_look_12 : decode cX7_look 12 = .ok (.invokevirtual 140, 3) := by decide +kernel
theorem dX7_look_15 : decode cX7_look 15 = .ok (.ifCond .ne 13, 3) := by decide +kernel
theorem dX7_look_18 : decode cX7_look 18 = .ok (.new 43, 3) := by decide +kernel
theorem dX7_look_21 : decode cX7_look 21 = .ok (.dup, 1) := by decide +kernel
theorem dX7_look_22 : decode cX7_look 22 = .ok (.ldc 143, 2) := by decide +kernel
theorem dX7_look_24 : decode cX7_look 24 = .ok (.invokespecial 47, 3) := by decide +kernel
theorem dX7_look_27 : decode cX7_look 27 = .ok (.athrow, 1) := by decide +kernel
theorem dX7_look_28 : decode cX7_look 28 = .ok (.aload_n 0, 1) := by decide +kernel
theorem dX7_look_29 : decode cX7_look 29 = .ok (.getfield 22, 3) := by decide +kernel
theorem dX7_look_32 : decode cX7_look 32 = .ok (.aload_n 0, 1) := by decide +kernel
theorem dX7_look_33 : decode cX7_look 33 = .ok (.getfield 10, 3) := by decide +kernel
theorem dX7_look_36 : decode cX7_look 36 = .ok (.invokevirtual 50, 3) := by decide +kernel
theorem dX7_look_39 : decode cX7_look 39 = .ok (.aload_n 0, 1) := by decide +kernel
theorem dX7_look_40 : decode cX7_look 40 = .ok (.getfield 10, 3) := by decide +kernel
theorem dX7_look_43 : decode cX7_look 43 = .ok (.iload_n 1, 1) := by decide +kernel
theorem dX7_look_44 : decode cX7_look 44 = .ok (.iload_n 2, 1) := by decide +kernel
theorem dX7_look_45 : decode cX7_look 45 = .ok (.invokevirtual 148, 3) := by decide +kernel
theorem dX7_look_48 : decode cX7_look 48 = .ok (.ireturn, 1) := by decide +kernel
theorem dX7_take_0 : decode cX7_take 0 = .ok (.aload_n 0, 1) := by decide +kernel
theorem dX7_take_1 : decode cX7_take 1 = .ok (.iload_n 1, 1) := by decide +kernel
theorem dX7_take_2 : decode cX7_take 2 = .ok (.invokevirtual 57, 3) := by decide +kernel
theorem dX7_take_5 : decode cX7_take 5 = .ok (.iload_n 2, 1) := by decide +kernel
theorem dX7_take_6 : decode cX7_take 6 = .ok (.invokestatic 96, 3) := by decide +kernel
theorem dX7_take_9 : decode cX7_take 9 = .ok (.aload_n 0, 1) := by decide +kernel
theorem dX7_take_10 : decode cX7_take 10 = .ok (.getfield 10, 3) := by decide +kernel
theorem dX7_take_13 : decode cX7_take 13 = .ok (.iload_n 1, 1) := by decide +kernel
theorem dX7_take_14 : decode cX7_take 14 = .ok (.iload_n 2, 1) := by decide +kernel
theorem dX7_take_15 : decode cX7_take 15 = .ok (.invokevirtual 151, 3) := by decide +kernel
theorem dX7_take_18 : decode cX7_take 18 = .ok (.ifCond .ne 13, 3) := by decide +kernel
theorem dX7_take_21 : decode cX7_take 21 = .ok (.new 43, 3) := by decide +kernel
theorem dX7_take_24 : decode cX7_take 24 = .ok (.dup, 1) := by decide +kernel
theorem dX7_take_25 : decode cX7_take 25 = .ok (.ldc 154, 2) := by decide +kernel
theorem dX7_take_27 : decode cX7_take 27 = .ok (.invokespecial 47, 3) := by decide +kernel
theorem dX7_take_30 : decode cX7_take 30 = .ok (.athrow, 1) := by decide +kernel
theorem dX7_take_31 : decode cX7_take 31 = .ok (.aload_n 0, 1) := by decide +kernel
theorem dX7_take_32 : decode cX7_take 32 = .ok (.getfield 22, 3) := by decide +kernel
theorem dX7_take_35 : decode cX7_take 35 = .ok (.aload_n 0, 1) := by decide +kernel
theorem dX7_take_36 : decode cX7_take 36 = .ok (.getfield 10, 3) := by decide +kernel
theorem dX7_take_39 : decode cX7_take 39 = .ok (.invokevirtual 50, 3) := by decide +kernel
theorem dX7_take_42 : decode cX7_take 42 = .ok (.aload_n 0, 1) := by decide +kernel
theorem dX7_take_43 : decode cX7_take 43 = .ok (.getfield 10, 3) := by decide +kernel
theorem dX7_take_46 : decode cX7_take 46 = .ok (.iload_n 1, 1) := by decide +kernel
theorem dX7_take_47 : decode cX7_take 47 = .ok (.iload_n 2, 1) := by decide +kernel
theorem dX7_take_48 : decode cX7_take 48 = .ok (.invokevirtual 156, 3) := by decide +kernel
theorem dX7_take_51 : decode cX7_take 51 = .ok (.ireturn, 1) := by decide +kernel
theorem dX7_swap_0 : decode cX7_swap 0 = .ok (.aload_n 0, 1) := by decide +kernel
theorem dX7_swap_1 : decode cX7_swap 1 = .ok (.iload_n 1, 1) := by decide +kernel
theorem dX7_swap_2 : decode cX7_swap 2 = .ok (.invokevirtual 57, 3) := by decide +kernel
theorem dX7_swap_5 : decode cX7_swap 5 = .ok (.iload_n 2, 1) := by decide +kernel
theorem dX7_swap_6 : decode cX7_swap 6 = .ok (.invokestatic 96, 3) := by decide +kernel
theorem dX7_swap_9 : decode cX7_swap 9 = .ok (.iload_n 3, 1) := by decide +kernel
theorem dX7_swap_10 : decode cX7_swap 10 = .ok (.invokestatic 99, 3) := by decide +kernel
theorem dX7_swap_13 : decode cX7_swap 13 = .ok (.aload_n 0, 1) := by decide +kernel
theorem dX7_swap_14 : decode cX7_swap 14 = .ok (.getfield 10, 3) := by decide +kernel
theorem dX7_swap_17 : decode cX7_swap 17 = .ok (.iload_n 1, 1) := by decide +kernel
theorem dX7_swap_18 : decode cX7_swap 18 = .ok (.iload_n 2, 1) := by decide +kernel
theorem dX7_swap_19 : decode cX7_swap 19 = .ok (.invokevirtual 159, 3) := by decide +kernel
theorem dX7_swap_22 : decode cX7_swap 22 = .ok (.ifCond .ne 13, 3) := by decide +kernel
theorem dX7_swap_25 : decode cX7_swap 25 = .ok (.new 43, 3) := by decide +kernel
theorem dX7_swap_28 : decode cX7_swap 28 = .ok (.dup, 1) := by decide +kernel
theorem dX7_swap_29 : decode cX7_swap 29 = .ok (.ldc 162, 2) := by decide +kernel
theorem dX7_swap_31 : decode cX7_swap 31 = .ok (.invokespecial 47, 3) := by decide +kernel
theorem dX7_swap_34 : decode cX7_swap 34 = .ok (.athrow, 1) := by decide +kernel
theorem dX7_swap_35 : decode cX7_swap 35 = .ok (.aload_n 0, 1) := by decide +kernel
theorem dX7_swap_36 : decode cX7_swap 36 = .ok (.getfield 22, 3) := by decide +kernel
theorem dX7_swap_39 : decode cX7_swap 39 = .ok (.aload_n 0, 1) := by decide +kernel
theorem dX7_swap_40 : decode cX7_swap 40 = .ok (.getfield 10, 3) := by decide +kernel
theorem dX7_swap_43 : decode cX7_swap 43 = .ok (.invokevirtual 50, 3) := by decide +kernel
theorem dX7_swap_46 : decode cX7_swap 46 = .ok (.aload_n 0, 1) := by decide +kernel
theorem dX7_swap_47 : decode cX7_swap 47 = .ok (.getfield 10, 3) := by decide +kernel
theorem dX7_swap_50 : decode cX7_swap 50 = .ok (.iload_n 1, 1) := by decide +kernel
theorem dX7_swap_51 : decode cX7_swap 51 = .ok (.iload_n 2, 1) := by decide +kernel
theorem dX7_swap_52 : decode cX7_swap 52 = .ok (.iload_n 3, 1) := by decide +kernel
theorem dX7_swap_53 : decode cX7_swap 53 = .ok (.invokevirtual 164, 3) := by decide +kernel
theorem dX7_swap_56 : decode cX7_swap 56 = .ok (.ireturn, 1) := by decide +kernel
theorem dX7_rake_0 : decode cX7_rake 0 = .ok (.aload_n 0, 1) := by decide +kernel
theorem dX7_rake_1 : decode cX7_rake 1 = .ok (.iload_n 1, 1) := by decide +kernel
theorem dX7_rake_2 : decode cX7_rake 2 = .ok (.invokevirtual 57, 3) := by decide +kernel
theorem dX7_rake_5 : decode cX7_rake 5 = .ok (.aload_n 0, 1) := by decide +kernel
theorem dX7_rake_6 : decode cX7_rake 6 = .ok (.getfield 10, 3) := by decide +kernel
theorem dX7_rake_9 : decode cX7_rake 9 = .ok (.iload_n 1, 1) := by decide +kernel
theorem dX7_rake_10 : decode cX7_rake 10 = .ok (.invokevirtual 167, 3) := by decide +kernel
theorem dX7_rake_13 : decode cX7_rake 13 = .ok (.ifCond .ne 13, 3) := by decide +kernel
theorem dX7_rake_16 : decode cX7_rake 16 = .ok (.new 43, 3) := by decide +kernel
theorem dX7_rake_19 : decode cX7_rake 19 = .ok (.dup, 1) := by decide +kernel
theorem dX7_rake_20 : decode cX7_rake 20 = .ok (.ldc 170, 2) := by decide +kernel
theorem dX7_rake_22 : decode cX7_rake 22 = .ok (.invokespecial 47, 3) := by decide +kernel
theorem dX7_rake_25 : decode cX7_rake 25 = .ok (.athrow, 1) := by decide +kernel
theorem dX7_rake_26 : decode cX7_rake 26 = .ok (.aload_n 0, 1) := by decide +kernel
theorem dX7_rake_27 : decode cX7_rake 27 = .ok (.getfield 22, 3) := by decide +kernel
theorem dX7_rake_30 : decode cX7_rake 30 = .ok (.aload_n 0, 1) := by decide +kernel
theorem dX7_rake_31 : decode cX7_rake 31 = .ok (.getfield 10, 3) := by decide +kernel
theorem dX7_rake_34 : decode cX7_rake 34 = .ok (.invokevirtual 50, 3) := by decide +kernel
theorem dX7_rake_37 : decode cX7_rake 37 = .ok (.aload_n 0, 1) := by decide +kernel
theorem dX7_rake_38 : decode cX7_rake 38 = .ok (.getfield 10, 3) := by decide +kernel
theorem dX7_rake_41 : decode cX7_rake 41 = .ok (.iload_n 1, 1) := by decide +kernel
theorem dX7_rake_42 : decode cX7_rake 42 = .ok (.invokevirtual 172, 3) := by decide +kernel
theorem dX7_rake_45 : decode cX7_rake 45 = .ok (.ireturn, 1) := by decide +kernel
theorem dX7_set_0 : decode cX7_set 0 = .ok (.iload_n 1, 1) := by decide +kernel
theorem dX7_set_1 : decode cX7_set 1 = .ok (.invokestatic 175, 3) := by decide +kernel
theorem dX7_set_4 : decode cX7_set 4 = .ok (.iload_n 1, 1) := by decide +kernel
theorem dX7_set_5 : decode cX7_set 5 = .ok (.iload_n 2, 1) := by decide +kernel
theorem dX7_set_6 : decode cX7_set 6 = .ok (.invokestatic 178, 3) := by decide +kernel
theorem dX7_set_9 : decode cX7_set 9 = .ok (.ifCond .ne 13, 3) := by decide +kernel
theorem dX7_set_12 : decode cX7_set 12 = .ok (.new 181, 3) := by decide +kernel
theorem dX7_set_15 : decode cX7_set 15 = .ok (.dup, 1) := by decide +kernel
theorem dX7_set_16 : decode cX7_set 16 = .ok (.ldc 183, 2) := by decide +kernel
theorem dX7_set_18 : decode cX7_set 18 = .ok (.invokespecial 185, 3) := by decide +kernel
theorem dX7_set_21 : decode cX7_set 21 = .ok (.athrow, 1) := by decide +kernel
theorem dX7_set_22 : decode cX7_set 22 = .ok (.aload_n 0, 1) := by decide +kernel
theorem dX7_set_23 : decode cX7_set 23 = .ok (.getfield 22, 3) := by decide +kernel
theorem dX7_set_26 : decode cX7_set 26 = .ok (.aload_n 0, 1) := by decide +kernel
theorem dX7_set_27 : decode cX7_set 27 = .ok (.getfield 10, 3) := by decide +kernel
theorem dX7_set_30 : decode cX7_set 30 = .ok (.invokevirtual 50, 3) := by decide +kernel
theorem dX7_set_33 : decode cX7_set 33 = .ok (.aload_n 0, 1) := by decide +kernel
theorem dX7_set_34 : decode cX7_set 34 = .ok (.getfield 10, 3) := by decide +kernel
theorem dX7_set_37 : decode cX7_set 37 = .ok (.iload_n 1, 1) := by decide +kernel
theorem dX7_set_38 : decode cX7_set 38 = .ok (.iload_n 2, 1) := by decide +kernel
theorem dX7_set_39 : decode cX7_set 39 = .ok (.invokevirtual 186, 3) := by decide +kernel
theorem dX7_set_42 : decode cX7_set 42 = .ok (.ireturn, 1) := by decide +kernel
theorem dX7_undo_0 : decode cX7_undo 0 = .ok (.aload_n 0, 1) := by decide +kernel
theorem dX7_undo_1 : decode cX7_undo 1 = .ok (.getfield 22, 3) := by decide +kernel
theorem dX7_undo_4 : decode cX7_undo 4 = .ok (.invokevirtual 229, 3) := by decide +kernel
theorem dX7_undo_7 : decode cX7_undo 7 = .ok (.ifCond .ne 13, 3) := by decide +kernel
theorem dX7_undo_10 : decode cX7_undo 10 = .ok (.new 43, 3) := by decide +kernel
theorem dX7_undo_13 : decode cX7_undo 13 = .ok (.dup, 1) := by decide +kernel
theorem dX7_undo_14 : decode cX7_undo 14 = .ok (.ldc 230, 2) := by decide +kernel
theorem dX7_undo_16 : decode cX7_undo 16 = .ok (.invokespecial 47, 3) := by decide +kernel
theorem dX7_undo_19 : decode cX7_undo 19 = .ok (.athrow, 1) := by decide +kernel
theorem dX7_undo_20 : decode cX7_undo 20 = .ok (.aload_n 0, 1) := by decide +kernel
theorem dX7_undo_21 : decode cX7_undo 21 = .ok (.getfield 22, 3) := by decide +kernel
theorem dX7_undo_24 : decode cX7_undo 24 = .ok (.aload_n 0, 1) := by decide +kernel
theorem dX7_undo_25 : decode cX7_undo 25 = .ok (.getfield 10, 3) := by decide +kernel
theorem dX7_undo_28 : decode cX7_undo 28 = .ok (.invokevirtual 232, 3) := by decide +kernel
theorem dX7_undo_31 : decode cX7_undo 31 = .ok (.aload_n 0, 1) := by decide +kernel
theorem dX7_undo_32 : decode cX7_undo 32 = .ok (.getfield 22, 3) := by decide +kernel
theorem dX7_undo_35 : decode cX7_undo 35 = .ok (.invokevirtual 229, 3) := by decide +kernel
theorem dX7_undo_38 : decode cX7_undo 38 = .ok (.ireturn, 1) := by decide +kernel
theorem dX7_branch_0 : decode cX7_branch 0 = .ok (.iload_n 1, 1) := by decide +kernel
theorem dX7_branch_1 : decode cX7_branch 1 = .ok (.invokestatic 96, 3) := by decide +kernel
theorem dX7_branch_4 : decode cX7_branch 4 = .ok (.aload_n 0, 1) := by decide +kernel
theorem dX7_branch_5 : decode cX7_branch 5 = .ok (.getfield 10, 3) := by decide +kernel
theorem dX7_branch_8 : decode cX7_branch 8 = .ok (.getfield 107, 3) := by decide +kernel
theorem dX7_branch_11 : decode cX7_branch 11 = .ok (.getfield 235, 3) := by decide +kernel
theorem dX7_branch_14 : decode cX7_branch 14 = .ok (.iload_n 1, 1) := by decide +kernel
theorem dX7_branch_15 : decode cX7_branch 15 = .ok (.invokevirtual 239, 3) := by decide +kernel
theorem dX7_branch_18 : decode cX7_branch 18 = .ok (.ireturn, 1) := by decide +kernel
theorem dX7_leaf_0 : decode cX7_leaf 0 = .ok (.aload_n 0, 1) := by decide +kernel
theorem dX7_leaf_1 : decode cX7_leaf 1 = .ok (.iload_n 1, 1) := by decide +kernel
theorem dX7_leaf_2 : decode cX7_leaf 2 = .ok (.invokevirtual 244, 3) := by decide +kernel
theorem dX7_leaf_5 : decode cX7_leaf 5 = .ok (.iload_n 2, 1) := by decide +kernel
theorem dX7_leaf_6 : decode cX7_leaf 6 = .ok (.bipush 7, 2) := by decide +kernel
theorem dX7_leaf_8 : decode cX7_leaf 8 = .ok (.invokestatic 247, 3) := by decide +kernel
theorem dX7_leaf_11 : decode cX7_leaf 11 = .ok (.aload_n 0, 1) := by decide +kernel
theorem dX7_leaf_12 : decode cX7_leaf 12 = .ok (.getfield 10, 3) := by decide +kernel
theorem dX7_leaf_15 : decode cX7_leaf 15 = .ok (.iload_n 1, 1) := by decide +kernel
theorem dX7_leaf_16 : decode cX7_leaf 16 = .ok (.iload_n 2, 1) := by decide +kernel
theorem dX7_leaf_17 : decode cX7_leaf 17 = .ok (.invokevirtual 250, 3) := by decide +kernel
theorem dX7_leaf_20 : decode cX7_leaf 20 = .ok (.ireturn, 1) := by decide +kernel
theorem dX7_child_0 : decode cX7_child 0 = .ok (.aload_n 0, 1) := by decide +kernel
theorem dX7_child_1 : decode cX7_child 1 = .ok (.iload_n 1, 1) := by decide +kernel
theorem dX7_child_2 : decode cX7_child 2 = .ok (.invokevirtual 57, 3) := by decide +kernel
theorem dX7_child_5 : decode cX7_child 5 = .ok (.iload_n 2, 1) := by decide +kernel
theorem dX7_child_6 : decode cX7_child 6 = .ok (.bipush 7, 2) := by decide +kernel
theorem dX7_child_8 : decode cX7_child 8 = .ok (.invokestatic 247, 3) := by decide +kernel
theorem dX7_child_11 : decode cX7_child 11 = .ok (.aload_n 0, 1) := by decide +kernel
theorem dX7_child_12 : decode cX7_child 12 = .ok (.getfield 10, 3) := by decide +kernel
theorem dX7_child_15 : decode cX7_child 15 = .ok (.iload_n 1, 1) := by decide +kernel
theorem dX7_child_16 : decode cX7_child 16 = .ok (.iload_n 2, 1) := by decide +kernel
theorem dX7_child_17 : decode cX7_child 17 = .ok (.invokevirtual 253, 3) := by decide +kernel
theorem dX7_child_20 : decode cX7_child 20 = .ok (.ireturn, 1) := by decide +kernel
theorem dX7_hook_0 : decode cX7_hook 0 = .ok (.aload_n 0, 1) := by decide +kernel
theorem dX7_hook_1 : decode cX7_hook 1 = .ok (.iload_n 1, 1) := by decide +kernel
theorem dX7_hook_2 : decode cX7_hook 2 = .ok (.iload_n 2, 1) := by decide +kernel
theorem dX7_hook_3 : decode cX7_hook 3 = .ok (.invokevirtual 117, 3) := by decide +kernel
theorem dX7_hook_6 : decode cX7_hook 6 = .ok (.iload_n 3, 1) := by decide +kernel
theorem dX7_hook_7 : decode cX7_hook 7 = .ok (.iconst 2, 1) := by decide +kernel
theorem dX7_hook_8 : decode cX7_hook 8 = .ok (.invokestatic 247, 3) := by decide +kernel
theorem dX7_hook_11 : decode cX7_hook 11 = .ok (.aload_n 0, 1) := by decide +kernel
theorem dX7_hook_12 : decode cX7_hook 12 = .ok (.getfield 10, 3) := by decide +kernel
theorem dX7_hook_15 : decode cX7_hook 15 = .ok (.getfield 256, 3) := by decide +kernel
theorem dX7_hook_18 : decode cX7_hook 18 = .ok (.iload_n 1, 1) := by decide +kernel
theorem dX7_hook_19 : decode cX7_hook 19 = .ok (.iload_n 2, 1) := by decide +kernel
theorem dX7_hook_20 : decode cX7_hook 20 = .ok (.iload_n 3, 1) := by decide +kernel
theorem dX7_hook_21 : decode cX7_hook 21 = .ok (.invokevirtual 260, 3) := by decide +kernel
theorem dX7_hook_24 : decode cX7_hook 24 = .ok (.ireturn, 1) := by decide +kernel
theorem dX7_heap_0 : decode cX7_heap 0 = .ok (.aload_n 0, 1) := by decide +kernel
theorem dX7_heap_1 : decode cX7_heap 1 = .ok (.iload_n 1, 1) := by decide +kernel
theorem dX7_heap_2 : decode cX7_heap 2 = .ok (.invokevirtual 57, 3) := by decide +kernel
theorem dX7_heap_5 : decode cX7_heap 5 = .ok (.iload_n 2, 1) := by decide +kernel
theorem dX7_heap_6 : decode cX7_heap 6 = .ok (.ifCond .ge 14, 3) := by decide +kernel
theorem dX7_heap_9 : decode cX7_heap 9 = .ok (.new 181, 3) := by decide +kernel
theorem dX7_heap_12 : decode cX7_heap 12 = .ok (.dup, 1) := by decide +kernel
theorem dX7_heap_13 : decode cX7_heap 13 = .ok (.ldc_w 265, 3) := by decide +kernel
theorem dX7_heap_16 : decode cX7_heap 16 = .ok (.invokespecial 185, 3) := by decide +kernel
theorem dX7_heap_19 : decode cX7_heap 19 = .ok (.athrow, 1) := by decide +kernel
theorem dX7_heap_20 : decode cX7_heap 20 = .ok (.aload_n 0, 1) := by decide +kernel
theorem dX7_heap_21 : decode cX7_heap 21 = .ok (.getfield 10, 3) := by decide +kernel
theorem dX7_heap_24 : decode cX7_heap 24 = .ok (.getfield 33, 3) := by decide +kernel
theorem dX7_heap_27 : decode cX7_heap 27 = .ok (.iload_n 1, 1) := by decide +kernel
theorem dX7_heap_28 : decode cX7_heap 28 = .ok (.iload_n 2, 1) := by decide +kernel
theorem dX7_heap_29 : decode cX7_heap 29 = .ok (.invokevirtual 267, 3) := by decide +kernel
theorem dX7_heap_32 : decode cX7_heap 32 = .ok (.ireturn, 1) := by decide +kernel
theorem dX7_count_0 : decode cX7_count 0 = .ok (.iload_n 1, 1) := by decide +kernel
theorem dX7_count_1 : decode cX7_count 1 = .ok (.bipush 15, 2) := by decide +kernel
theorem dX7_count_3 : decode cX7_count 3 = .ok (.invokestatic 247, 3) := by decide +kernel
theorem dX7_count_6 : decode cX7_count 6 = .ok (.aload_n 0, 1) := by decide +kernel
theorem dX7_count_7 : decode cX7_count 7 = .ok (.iload_n 1, 1) := by decide +kernel
theorem dX7_count_8 : decode cX7_count 8 = .ok (.invokevirtual 270, 3) := by decide +kernel
theorem dX7_count_11 : decode cX7_count 11 = .ok (.ireturn, 1) := by decide +kernel
theorem dX7_setting_0 : decode cX7_setting 0 = .ok (.iload_n 1, 1) := by decide +kernel
theorem dX7_setting_1 : decode cX7_setting 1 = .ok (.invokestatic 175, 3) := by decide +kernel
theorem dX7_setting_4 : decode cX7_setting 4 = .ok (.aload_n 0, 1) := by decide +kernel
theorem dX7_setting_5 : decode cX7_setting 5 = .ok (.getfield 10, 3) := by decide +kernel
theorem dX7_setting_8 : decode cX7_setting 8 = .ok (.iload_n 1, 1) := by decide +kernel
theorem dX7_setting_9 : decode cX7_setting 9 = .ok (.invokevirtual 273, 3) := by decide +kernel
theorem dX7_setting_12 : decode cX7_setting 12 = .ok (.ireturn, 1) := by decide +kernel
theorem dX7_why_0 : decode cX7_why 0 = .ok (.aload_n 0, 1) := by decide +kernel
theorem dX7_why_1 : decode cX7_why 1 = .ok (.iload_n 1, 1) := by decide +kernel
theorem dX7_why_2 : decode cX7_why 2 = .ok (.invokevirtual 244, 3) := by decide +kernel
theorem dX7_why_5 : decode cX7_why 5 = .ok (.aload_n 0, 1) := by decide +kernel
theorem dX7_why_6 : decode cX7_why 6 = .ok (.getfield 10, 3) := by decide +kernel
theorem dX7_why_9 : decode cX7_why 9 = .ok (.iload_n 1, 1) := by decide +kernel
theorem dX7_why_10 : decode cX7_why 10 = .ok (.invokevirtual 276, 3) := by decide +kernel
theorem dX7_why_13 : decode cX7_why 13 = .ok (.ireturn, 1) := by decide +kernel
theorem dX7_ifRaked_0 : decode cX7_ifRaked 0 = .ok (.aload_n 0, 1) := by decide +kernel
theorem dX7_ifRaked_1 : decode cX7_ifRaked 1 = .ok (.iload_n 1, 1) := by decide +kernel
theorem dX7_ifRaked_2 : decode cX7_ifRaked 2 = .ok (.invokevirtual 57, 3) := by decide +kernel
theorem dX7_ifRaked_5 : decode cX7_ifRaked 5 = .ok (.iload_n 2, 1) := by decide +kernel
theorem dX7_ifRaked_6 : decode cX7_ifRaked 6 = .ok (.ifCond .eq 19, 3) := by decide +kernel
theorem dX7_ifRaked_9 : decode cX7_ifRaked 9 = .ok (.iload_n 2, 1) := by decide +kernel
theorem dX7_ifRaked_10 : decode cX7_ifRaked 10 = .ok (.iconst 1, 1) := by decide +kernel
theorem dX7_ifRaked_11 : decode cX7_ifRaked 11 = .ok (.if_icmp .eq 14, 3) := by decide +kernel
theorem dX7_ifRaked_14 : decode cX7_ifRaked 14 = .ok (.new 181, 3) := by decide +kernel
theorem dX7_ifRaked_17 : decode cX7_ifRaked 17 = .ok (.dup, 1) := by decide +kernel
theorem dX7_ifRaked_18 : decode cX7_ifRaked 18 = .ok (.ldc_w 279, 3) := by decide +kernel
theorem dX7_ifRaked_21 : decode cX7_ifRaked 21 = .ok (.invokespecial 185, 3) := by decide +kernel
theorem dX7_ifRaked_24 : decode cX7_ifRaked 24 = .ok (.athrow, 1) := by decide +kernel
theorem dX7_ifRaked_25 : decode cX7_ifRaked 25 = .ok (.aload_n 0, 1) := by decide +kernel
theorem dX7_ifRaked_26 : decode cX7_ifRaked 26 = .ok (.getfield 10, 3) := by decide +kernel
theorem dX7_ifRaked_29 : decode cX7_ifRaked 29 = .ok (.iload_n 1, 1) := by decide +kernel
theorem dX7_ifRaked_30 : decode cX7_ifRaked 30 = .ok (.iload_n 2, 1) := by decide +kernel
theorem dX7_ifRaked_31 : decode cX7_ifRaked 31 = .ok (.iconst (-1), 1) := by decide +kernel
theorem dX7_ifRaked_32 : decode cX7_ifRaked 32 = .ok (.invokevirtual 281, 3) := by decide +kernel
theorem dX7_ifRaked_35 : decode cX7_ifRaked 35 = .ok (.ireturn, 1) := by decide +kernel
theorem dX7_bestRake_0 : decode cX7_bestRake 0 = .ok (.aload_n 0, 1) := by decide +kernel
theorem dX7_bestRake_1 : decode cX7_bestRake 1 = .ok (.getfield 10, 3) := by decide +kernel
theorem dX7_bestRake_4 : decode cX7_bestRake 4 = .ok (.invokevirtual 284, 3) := by decide +kernel
theorem dX7_bestRake_7 : decode cX7_bestRake 7 = .ok (.ireturn, 1) := by decide +kernel
theorem dX7_ifLoosened_0 : decode cX7_ifLoosened 0 = .ok (.aload_n 0, 1) := by decide +kernel
theorem dX7_ifLoosened_1 : decode cX7_ifLoosened 1 = .ok (.iload_n 1, 1) := by decide +kernel
theorem dX7_ifLoosened_2 : decode cX7_ifLoosened 2 = .ok (.iload_n 2, 1) := by decide +kernel
theorem dX7_ifLoosened_3 : decode cX7_ifLoosened 3 = .ok (.invokevirtual 117, 3) := by decide +kernel
theorem dX7_ifLoosened_6 : decode cX7_ifLoosened 6 = .ok (.aload_n 0, 1) := by decide +kernel
theorem dX7_ifLoosened_7 : decode cX7_ifLoosened 7 = .ok (.getfield 10, 3) := by decide +kernel
theorem dX7_ifLoosened_10 : decode cX7_ifLoosened 10 = .ok (.iload_n 1, 1) := by decide +kernel
theorem dX7_ifLoosened_11 : decode cX7_ifLoosened 11 = .ok (.iload_n 2, 1) := by decide +kernel
theorem dX7_ifLoosened_12 : decode cX7_ifLoosened 12 = .ok (.invokevirtual 287, 3) := by decide +kernel
theorem dX7_ifLoosened_15 : decode cX7_ifLoosened 15 = .ok (.ireturn, 1) := by decide +kernel
theorem dX7_late_0 : decode cX7_late 0 = .ok (.aload_n 0, 1) := by decide +kernel
theorem dX7_late_1 : decode cX7_late 1 = .ok (.getfield 10, 3) := by decide +kernel
theorem dX7_late_4 : decode cX7_late 4 = .ok (.getfield 33, 3) := by decide +kernel
theorem dX7_late_7 : decode cX7_late 7 = .ok (.aload_n 0, 1) := by decide +kernel
theorem dX7_late_8 : decode cX7_late 8 = .ok (.getfield 10, 3) := by decide +kernel
theorem dX7_late_11 : decode cX7_late 11 = .ok (.getfield 223, 3) := by decide +kernel
theorem dX7_late_14 : decode cX7_late 14 = .ok (.invokevirtual 290, 3) := by decide +kernel
theorem dX7_late_17 : decode cX7_late 17 = .ok (.ireturn, 1) := by decide +kernel
theorem dX7_ifRested_0 : decode cX7_ifRested 0 = .ok (.aload_n 0, 1) := by decide +kernel
theorem dX7_ifRested_1 : decode cX7_ifRested 1 = .ok (.iload_n 1, 1) := by decide +kernel
theorem dX7_ifRested_2 : decode cX7_ifRested 2 = .ok (.invokevirtual 57, 3) := by decide +kernel
theorem dX7_ifRested_5 : decode cX7_ifRested 5 = .ok (.aload_n 0, 1) := by decide +kernel
theorem dX7_ifRested_6 : decode cX7_ifRested 6 = .ok (.getfield 10, 3) := by decide +kernel
theorem dX7_ifRested_9 : decode cX7_ifRested 9 = .ok (.iload_n 1, 1) := by decide +kernel
theorem dX7_ifRested_10 : decode cX7_ifRested 10 = .ok (.invokevirtual 293, 3) := by decide +kernel
theorem dX7_ifRested_13 : decode cX7_ifRested 13 = .ok (.ireturn, 1) := by decide +kernel
theorem dX7_ifAllRested_0 : decode cX7_ifAllRested 0 = .ok (.aload_n 0, 1) := by decide +kernel
theorem dX7_ifAllRested_1 : decode cX7_ifAllRested 1 = .ok (.getfield 10, 3) := by decide +kernel
theorem dX7_ifAllRested_4 : decode cX7_ifAllRested 4 = .ok (.invokevirtual 296, 3) := by decide +kernel
theorem dX7_ifAllRested_7 : decode cX7_ifAllRested 7 = .ok (.ireturn, 1) := by decide +kernel
theorem dX7_mostHeld_0 : decode cX7_mostHeld 0 = .ok (.aload_n 0, 1) := by decide +kernel
theorem dX7_mostHeld_1 : decode cX7_mostHeld 1 = .ok (.getfield 10, 3) := by decide +kernel
theorem dX7_mostHeld_4 : decode cX7_mostHeld 4 = .ok (.invokevirtual 299, 3) := by decide +kernel
theorem dX7_mostHeld_7 : decode cX7_mostHeld 7 = .ok (.ireturn, 1) := by decide +kernel
theorem dX7_burntShare_0 : decode cX7_burntShare 0 = .ok (.aload_n 0, 1) := by decide +kernel
theorem dX7_burntShare_1 : decode cX7_burntShare 1 = .ok (.getfield 10, 3) := by decide +kernel
theorem dX7_burntShare_4 : decode cX7_burntShare 4 = .ok (.getfield 107, 3) := by decide +kernel
theorem dX7_burntShare_7 : decode cX7_burntShare 7 = .ok (.iconst 2, 1) := by decide +kernel
theorem dX7_burntShare_8 : decode cX7_burntShare 8 = .ok (.invokevirtual 302, 3) := by decide +kernel
theorem dX7_burntShare_11 : decode cX7_burntShare 11 = .ok (.istore_n 1, 1) := by decide +kernel
theorem dX7_burntShare_12 : decode cX7_burntShare 12 = .ok (.iload_n 1, 1) := by decide +kernel
theorem dX7_burntShare_13 : decode cX7_burntShare 13 = .ok (.aload_n 0, 1) := by decide +kernel
theorem dX7_burntShare_14 : decode cX7_burntShare 14 = .ok (.getfield 10, 3) := by decide +kernel
theorem dX7_burntShare_17 : decode cX7_burntShare 17 = .ok (.getfield 107, 3) := by decide +kernel
theorem dX7_burntShare_20 : decode cX7_burntShare 20 = .ok (.iconst 1, 1) := by decide +kernel
theorem dX7_burntShare_21 : decode cX7_burntShare 21 = .ok (.invokevirtual 302, 3) := by decide +kernel
theorem dX7_burntShare_24 : decode cX7_burntShare 24 = .ok (.iadd, 1) := by decide +kernel
theorem dX7_burntShare_25 : decode cX7_burntShare 25 = .ok (.istore_n 2, 1) := by decide +kernel
theorem dX7_burntShare_26 : decode cX7_burntShare 26 = .ok (.iload_n 2, 1) := by decide +kernel
theorem dX7_burntShare_27 : decode cX7_burntShare 27 = .ok (.ifCond .ne 7, 3) := by decide +kernel
theorem dX7_burntShare_30 : decode cX7_burntShare 30 = .ok (.dconst 1, 1) := by decide +kernel
theorem dX7_burntShare_31 : decode cX7_burntShare 31 = .ok (.goto 8, 3) := by decide +kernel
theorem dX7_burntShare_34 : decode cX7_burntShare 34 = .ok (.iload_n 1, 1) := by decide +kernel
theorem dX7_burntShare_35 : decode cX7_burntShare 35 = .ok (.i2d, 1) := by decide +kernel
theorem dX7_burntShare_36 : decode cX7_burntShare 36 = .ok (.iload_n 2, 1) := by decide +kernel
theorem dX7_burntShare_37 : decode cX7_burntShare 37 = .ok (.i2d, 1) := by decide +kernel
theorem dX7_burntShare_38 : decode cX7_burntShare 38 = .ok (.ddiv, 1) := by decide +kernel
theorem dX7_burntShare_39 : decode cX7_burntShare 39 = .ok (.dreturn, 1) := by decide +kernel
theorem dX7_fullness_0 : decode cX7_fullness 0 = .ok (.aload_n 0, 1) := by decide +kernel
theorem dX7_fullness_1 : decode cX7_fullness 1 = .ok (.getfield 10, 3) := by decide +kernel
theorem dX7_fullness_4 : decode cX7_fullness 4 = .ok (.getfield 305, 3) := by decide +kernel
theorem dX7_fullness_7 : decode cX7_fullness 7 = .ok (.aload_n 0, 1) := by decide +kernel
theorem dX7_fullness_8 : decode cX7_fullness 8 = .ok (.getfield 10, 3) := by decide +kernel
theorem dX7_fullness_11 : decode cX7_fullness 11 = .ok (.getfield 33, 3) := by decide +kernel
theorem dX7_fullness_14 : decode cX7_fullness 14 = .ok (.invokevirtual 61, 3) := by decide +kernel
theorem dX7_fullness_17 : decode cX7_fullness 17 = .ok (.imul, 1) := by decide +kernel
theorem dX7_fullness_18 : decode cX7_fullness 18 = .ok (.istore_n 1, 1) := by decide +kernel
theorem dX7_fullness_19 : decode cX7_fullness 19 = .ok (.iload_n 1, 1) := by decide +kernel
theorem dX7_fullness_20 : decode cX7_fullness 20 = .ok (.ifCond .gt 7, 3) := by decide +kernel
theorem dX7_fullness_23 : decode cX7_fullness 23 = .ok (.fconst 0, 1) := by decide +kernel
theorem dX7_fullness_24 : decode cX7_fullness 24 = .ok (.goto 18, 3) := by decide +kernel
theorem dX7_fullness_27 : decode cX7_fullness 27 = .ok (.aload_n 0, 1) := by decide +kernel
theorem dX7_fullness_28 : decode cX7_fullness 28 = .ok (.getfield 10, 3) := by decide +kernel
theorem dX7_fullness_31 : decode cX7_fullness 31 = .ok (.getfield 107, 3) := by decide +kernel
theorem dX7_fullness_34 : decode cX7_fullness 34 = .ok (.iconst 1, 1) := by decide +kernel
theorem dX7_fullness_35 : decode cX7_fullness 35 = .ok (.invokevirtual 302, 3) := by decide +kernel
theorem dX7_fullness_38 : decode cX7_fullness 38 = .ok (.i2f, 1) := by decide +kernel
theorem dX7_fullness_39 : decode cX7_fullness 39 = .ok (.iload_n 1, 1) := by decide +kernel
theorem dX7_fullness_40 : decode cX7_fullness 40 = .ok (.i2f, 1) := by decide +kernel
theorem dX7_fullness_41 : decode cX7_fullness 41 = .ok (.fdiv, 1) := by decide +kernel
theorem dX7_fullness_42 : decode cX7_fullness 42 = .ok (.freturn, 1) := by decide +kernel
theorem dX7_needChild_0 : decode cX7_needChild 0 = .ok (.aload_n 0, 1) := by decide +kernel
theorem dX7_needChild_1 : decode cX7_needChild 1 = .ok (.getfield 10, 3) := by decide +kernel
theorem dX7_needChild_4 : decode cX7_needChild 4 = .ok (.getfield 33, 3) := by decide +kernel
theorem dX7_needChild_7 : decode cX7_needChild 7 = .ok (.iload_n 1, 1) := by decide +kernel
theorem dX7_needChild_8 : decode cX7_needChild 8 = .ok (.invokevirtual 321, 3) := by decide +kernel
theorem dX7_needChild_11 : decode cX7_needChild 11 = .ok (.ifCond .ne 14, 3) := by decide +kernel
theorem dX7_needChild_14 : decode cX7_needChild 14 = .ok (.new 343, 3) := by decide +kernel
theorem dX7_needChild_17 : decode cX7_needChild 17 = .ok (.dup, 1) := by decide +kernel
theorem dX7_needChild_18 : decode cX7_needChild 18 = .ok (.ldc_w 345, 3) := by decide +kernel
theorem dX7_needChild_21 : decode cX7_needChild 21 = .ok (.invokespecial 347, 3) := by decide +kernel
theorem dX7_needChild_24 : decode cX7_needChild 24 = .ok (.athrow, 1) := by decide +kernel
theorem dX7_needChild_25 : decode cX7_needChild 25 = .ok (.return_, 1) := by decide +kernel
theorem dX7_needHook_0 : decode cX7_needHook 0 = .ok (.aload_n 0, 1) := by decide +kernel
theorem dX7_needHook_1 : decode cX7_needHook 1 = .ok (.iload_n 1, 1) := by decide +kernel
theorem dX7_needHook_2 : decode cX7_needHook 2 = .ok (.invokevirtual 57, 3) := by decide +kernel
theorem dX7_needHook_5 : decode cX7_needHook 5 = .ok (.iload_n 2, 1) := by decide +kernel
theorem dX7_needHook_6 : decode cX7_needHook 6 = .ok (.ifCond .lt 8, 3) := by decide +kernel
theorem dX7_needHook_9 : decode cX7_needHook 9 = .ok (.iload_n 2, 1) := by decide +kernel
theorem dX7_needHook_10 : decode cX7_needHook 10 = .ok (.iconst 3, 1) := by decide +kernel
theorem dX7_needHook_11 : decode cX7_needHook 11 = .ok (.if_icmp .lt 14, 3) := by decide +kernel
theorem dX7_needHook_14 : decode cX7_needHook 14 = .ok (.new 343, 3) := by decide +kernel
theorem dX7_needHook_17 : decode cX7_needHook 17 = .ok (.dup, 1) := by decide +kernel
theorem dX7_needHook_18 : decode cX7_needHook 18 = .ok (.ldc_w 348, 3) := by decide +kernel
theorem dX7_needHook_21 : decode cX7_needHook 21 = .ok (.invokespecial 347, 3) := by decide +kernel
theorem dX7_needHook_24 : decode cX7_needHook 24 = .ok (.athrow, 1) := by decide +kernel
theorem dX7_needHook_25 : decode cX7_needHook 25 = .ok (.return_, 1) := by decide +kernel
theorem dX7_needLeaf_0 : decode cX7_needLeaf 0 = .ok (.iload_n 1, 1) := by decide +kernel
theorem dX7_needLeaf_1 : decode cX7_needLeaf 1 = .ok (.ifCond .lt 17, 3) := by decide +kernel
theorem dX7_needLeaf_4 : decode cX7_needLeaf 4 = .ok (.iload_n 1, 1) := by decide +kernel
theorem dX7_needLeaf_5 : decode cX7_needLeaf 5 = .ok (.aload_n 0, 1) := by decide +kernel
theorem dX7_needLeaf_6 : decode cX7_needLeaf 6 = .ok (.getfield 10, 3) := by decide +kernel
theorem dX7_needLeaf_9 : decode cX7_needLeaf 9 = .ok (.getfield 107, 3) := by decide +kernel
theorem dX7_needLeaf_12 : decode cX7_needLeaf 12 = .ok (.getfield 314, 3) := by decide +kernel
theorem dX7_needLeaf_15 : decode cX7_needLeaf 15 = .ok (.if_icmp .lt 14, 3) := by decide +kernel
theorem dX7_needLeaf_18 : decode cX7_needLeaf 18 = .ok (.new 343, 3) := by decide +kernel
theorem dX7_needLeaf_21 : decode cX7_needLeaf 21 = .ok (.dup, 1) := by decide +kernel
theorem dX7_needLeaf_22 : decode cX7_needLeaf 22 = .ok (.ldc_w 350, 3) := by decide +kernel
theorem dX7_needLeaf_25 : decode cX7_needLeaf 25 = .ok (.invokespecial 347, 3) := by decide +kernel
theorem dX7_needLeaf_28 : decode cX7_needLeaf 28 = .ok (.athrow, 1) := by decide +kernel
theorem dX7_needLeaf_29 : decode cX7_needLeaf 29 = .ok (.return_, 1) := by decide +kernel
theorem dX7_needBranch_0 : decode cX7_needBranch 0 = .ok (.iload_n 0, 1) := by decide +kernel
theorem dX7_needBranch_1 : decode cX7_needBranch 1 = .ok (.ifCond .lt 9, 3) := by decide +kernel
theorem dX7_needBranch_4 : decode cX7_needBranch 4 = .ok (.iload_n 0, 1) := by decide +kernel
theorem dX7_needBranch_5 : decode cX7_needBranch 5 = .ok (.bipush 12, 2) := by decide +kernel
theorem dX7_needBranch_7 : decode cX7_needBranch 7 = .ok (.if_icmp .lt 14, 3) := by decide +kernel
theorem dX7_needBranch_10 : decode cX7_needBranch 10 = .ok (.new 343, 3) := by decide +kernel
theorem dX7_needBranch_13 : decode cX7_needBranch 13 = .ok (.dup, 1) := by decide +kernel
theorem dX7_needBranch_14 : decode cX7_needBranch 14 = .ok (.ldc_w 352, 3) := by decide +kernel
theorem dX7_needBranch_17 : decode cX7_needBranch 17 = .ok (.invokespecial 347, 3) := by decide +kernel
theorem dX7_needBranch_20 : decode cX7_needBranch 20 = .ok (.athrow, 1) := by decide +kernel
theorem dX7_needBranch_21 : decode cX7_needBranch 21 = .ok (.return_, 1) := by decide +kernel
theorem dX7_needSetting_0 : decode cX7_needSetting 0 = .ok (.iload_n 0, 1) := by decide +kernel
theorem dX7_needSetting_1 : decode cX7_needSetting 1 = .ok (.ifCond .lt 8, 3) := by decide +kernel
theorem dX7_needSetting_4 : decode cX7_needSetting 4 = .ok (.iload_n 0, 1) := by decide +kernel
theorem dX7_needSetting_5 : decode cX7_needSetting 5 = .ok (.iconst 2, 1) := by decide +kernel
theorem dX7_needSetting_6 : decode cX7_needSetting 6 = .ok (.if_icmp .lt 14, 3) := by decide +kernel
theorem dX7_needSetting_9 : decode cX7_needSetting 9 = .ok (.new 343, 3) := by decide +kernel
theorem dX7_needSetting_12 : decode cX7_needSetting 12 = .ok (.dup, 1) := by decide +kernel
theorem dX7_needSetting_13 : decode cX7_needSetting 13 = .ok (.ldc_w 354, 3) := by decide +kernel
theorem dX7_needSetting_16 : decode cX7_needSetting 16 = .ok (.invokespecial 347, 3) := by decide +kernel
theorem dX7_needSetting_19 : decode cX7_needSetting 19 = .ok (.athrow, 1) := by decide +kernel
theorem dX7_needSetting_20 : decode cX7_needSetting 20 = .ok (.return_, 1) := by decide +kernel
theorem dX7_needColour_0 : decode cX7_needColour 0 = .ok (.iload_n 0, 1) := by decide +kernel
theorem dX7_needColour_1 : decode cX7_needColour 1 = .ok (.ifCond .lt 9, 3) := by decide +kernel
theorem dX7_needColour_4 : decode cX7_needColour 4 = .ok (.iload_n 0, 1) := by decide +kernel
theorem dX7_needColour_5 : decode cX7_needColour 5 = .ok (.bipush 10, 2) := by decide +kernel
theorem dX7_needColour_7 : decode cX7_needColour 7 = .ok (.if_icmp .lt 14, 3) := by decide +kernel
theorem dX7_needColour_10 : decode cX7_needColour 10 = .ok (.new 181, 3) := by decide +kernel
theorem dX7_needColour_13 : decode cX7_needColour 13 = .ok (.dup, 1) := by decide +kernel
theorem dX7_needColour_14 : decode cX7_needColour 14 = .ok (.ldc_w 356, 3) := by decide +kernel
theorem dX7_needColour_17 : decode cX7_needColour 17 = .ok (.invokespecial 185, 3) := by decide +kernel
theorem dX7_needColour_20 : decode cX7_needColour 20 = .ok (.athrow, 1) := by decide +kernel
theorem dX7_needColour_21 : decode cX7_needColour 21 = .ok (.return_, 1) := by decide +kernel
theorem dX7_needWhat_0 : decode cX7_needWhat 0 = .ok (.iload_n 0, 1) := by decide +kernel
theorem dX7_needWhat_1 : decode cX7_needWhat 1 = .ok (.ifCond .lt 8, 3) := by decide +kernel
theorem dX7_needWhat_4 : decode cX7_needWhat 4 = .ok (.iload_n 0, 1) := by decide +kernel
theorem dX7_needWhat_5 : decode cX7_needWhat 5 = .ok (.iload_n 1, 1) := by decide +kernel
theorem dX7_needWhat_6 : decode cX7_needWhat 6 = .ok (.if_icmp .le 14, 3) := by decide +kernel
theorem dX7_needWhat_9 : decode cX7_needWhat 9 = .ok (.new 181, 3) := by decide +kernel
theorem dX7_needWhat_12 : decode cX7_needWhat 12 = .ok (.dup, 1) := by decide +kernel
theorem dX7_needWhat_13 : decode cX7_needWhat 13 = .ok (.ldc_w 358, 3) := by decide +kernel
theorem dX7_needWhat_16 : decode cX7_needWhat 16 = .ok (.invokespecial 185, 3) := by decide +kernel
theorem dX7_needWhat_19 : decode cX7_needWhat 19 = .ok (.athrow, 1) := by decide +kernel
theorem dX7_needWhat_20 : decode cX7_needWhat 20 = .ok (.return_, 1) := by decide +kernel
theorem dX7_isValueOf_0 : decode cX7_isValueOf 0 = .ok (.iload_n 0, 1) := by decide +kernel
theorem dX7_isValueOf_1 : decode cX7_isValueOf 1 = .ok (.ifCond .ne 20, 3) := by decide +kernel
theorem dX7_isValueOf_4 : decode cX7_isValueOf 4 = .ok (.iload_n 1, 1) := by decide +kernel
theorem dX7_isValueOf_5 : decode cX7_isValueOf 5 = .ok (.iconst 1, 1) := by decide +kernel
theorem dX7_isValueOf_6 : decode cX7_isValueOf 6 = .ok (.if_icmp .lt 13, 3) := by decide +kernel
theorem dX7_isValueOf_9 : decode cX7_isValueOf 9 = .ok (.iload_n 1, 1) := by decide +kernel
theorem dX7_isValueOf_10 : decode cX7_isValueOf 10 = .ok (.bipush 20, 2) := by decide +kernel
theorem dX7_isValueOf_12 : decode cX7_isValueOf 12 = .ok (.if_icmp .gt 7, 3) := by decide +kernel
theorem dX7_isValueOf_15 : decode cX7_isValueOf 15 = .ok (.iconst 1, 1) := by decide +kernel
theorem dX7_isValueOf_16 : decode cX7_isValueOf 16 = .ok (.goto 4, 3) := by decide +kernel
theorem dX7_isValueOf_19 : decode cX7_isValueOf 19 = .ok (.iconst 0, 1) := by decide +kernel
theorem dX7_isValueOf_20 : decode cX7_isValueOf 20 = .ok (.ireturn, 1) := by decide +kernel
theorem dX7_isValueOf_21 : decode cX7_isValueOf 21 = .ok (.iload_n 1, 1) := by decide +kernel
theorem dX7_isValueOf_22 : decode cX7_isValueOf 22 = .ok (.ifCond .eq 8, 3) := by decide +kernel
theorem dX7_isValueOf_25 : decode cX7_isValueOf 25 = .ok (.iload_n 1, 1) := by decide +kernel
theorem dX7_isValueOf_26 : decode cX7_isValueOf 26 = .ok (.iconst 1, 1) := by decide +kernel
theorem dX7_isValueOf_27 : decode cX7_isValueOf 27 = .ok (.if_icmp .ne 7, 3) := by decide +kernel
theorem dX7_isValueOf_30 : decode cX7_isValueOf 30 = .ok (.iconst 1, 1) := by decide +kernel
theorem dX7_isValueOf_31 : decode cX7_isValueOf 31 = .ok (.goto 4, 3) := by decide +kernel
theorem dX7_isValueOf_34 : decode cX7_isValueOf 34 = .ok (.iconst 0, 1) := by decide +kernel
theorem dX7_isValueOf_35 : decode cX7_isValueOf 35 = .ok (.ireturn, 1) := by decide +kernel
theorem dX7_counted_0 : decode cX7_counted 0 = .ok (.iload_n 1, 1) := by decide +kernel
theorem dX7_counted_1 : decode cX7_counted 1 = .ok (.bipush 15, 2) := by decide +kernel
theorem dX7_counted_3 : decode cX7_counted 3 = .ok (.if_icmp .ne 13, 3) := by decide +kernel
theorem dX7_counted_6 : decode cX7_counted 6 = .ok (.aload_n 0, 1) := by decide +kernel
theorem dX7_counted_7 : decode cX7_counted 7 = .ok (.getfield 22, 3) := by decide +kernel
theorem dX7_counted_10 : decode cX7_counted 10 = .ok (.invokevirtual 229, 3) := by decide +kernel
theorem dX7_counted_13 : decode cX7_counted 13 = .ok (.goto 11, 3) := by decide +kernel
theorem dX7_counted_16 : decode cX7_counted 16 = .ok (.aload_n 0, 1) := by decide +kernel
theorem dX7_counted_17 : decode cX7_counted 17 = .ok (.getfield 10, 3) := by decide +kernel
theorem dX7_counted_20 : decode cX7_counted 20 = .ok (.iload_n 1, 1) := by decide +kernel
theorem dX7_counted_21 : decode cX7_counted 21 = .ok (.invokevirtual 369, 3) := by decide +kernel
theorem dX7_counted_24 : decode cX7_counted 24 = .ok (.ireturn, 1) := by decide +kernel
theorem dJ9_max_7cf53_0 : decode cJ9_max_7cf53 0 = .ok (.iload_n 0, 1) := by decide +kernel
theorem dJ9_max_7cf53_1 : decode cJ9_max_7cf53 1 = .ok (.iload_n 1, 1) := by decide +kernel
theorem dJ9_max_7cf53_2 : decode cJ9_max_7cf53 2 = .ok (.if_icmp .lt 7, 3) := by decide +kernel
theorem dJ9_max_7cf53_5 : decode cJ9_max_7cf53 5 = .ok (.iload_n 0, 1) := by decide +kernel
theorem dJ9_max_7cf53_6 : decode cJ9_max_7cf53 6 = .ok (.goto 4, 3) := by decide +kernel
theorem dJ9_max_7cf53_9 : decode cJ9_max_7cf53 9 = .ok (.iload_n 1, 1) := by decide +kernel
theorem dJ9_max_7cf53_10 : decode cJ9_max_7cf53 10 = .ok (.ireturn, 1) := by decide +kernel
theorem dJ9_min_7cf53_0 : decode cJ9_min_7cf53 0 = .ok (.iload_n 0, 1) := by decide +kernel
theorem dJ9_min_7cf53_1 : decode cJ9_min_7cf53 1 = .ok (.iload_n 1, 1) := by decide +kernel
theorem dJ9_min_7cf53_2 : decode cJ9_min_7cf53 2 = .ok (.if_icmp .gt 7, 3) := by decide +kernel
theorem dJ9_min_7cf53_5 : decode cJ9_min_7cf53 5 = .ok (.iload_n 0, 1) := by decide +kernel
theorem dJ9_min_7cf53_6 : decode cJ9_min_7cf53 6 = .ok (.goto 4, 3) := by decide +kernel
theorem dJ9_min_7cf53_9 : decode cJ9_min_7cf53 9 = .ok (.iload_n 1, 1) := by decide +kernel
theorem dJ9_min_7cf53_10 : decode cJ9_min_7cf53 10 = .ok (.ireturn, 1) := by decide +kernel
end
section
theorem dL_cell_0 : decode cL_cell 0 = .ok (.iload_n 1, 1) := by decide +kernel
theorem dL_cell_1 : decode cL_cell 1 = .ok (.aload_n 0, 1) := by decide +kernel
theorem dL_cell_2 : decode cL_cell 2 = .ok (.arraylength, 1) := by decide +kernel
theorem dL_cell_3 : decode cL_cell 3 = .ok (.if_icmp .ge 9, 3) := by decide +kernel
theorem dL_cell_6 : decode cL_cell 6 = .ok (.aload_n 0, 1) := by decide +kernel
theorem dL_cell_7 : decode cL_cell 7 = .ok (.iload_n 1, 1) := by decide +kernel
theorem dL_cell_8 : decode cL_cell 8 = .ok (.iaload, 1) := by decide +kernel
theorem dL_cell_9 : decode cL_cell 9 = .ok (.goto 9, 3) := by decide +kernel
theorem dL_cell_12 : decode cL_cell 12 = .ok (.ldc 7, 2) := by decide +kernel
theorem dL_cell_14 : decode cL_cell 14 = .ok (.iload_n 1, 1) := by decide +kernel
theorem dL_cell_15 : decode cL_cell 15 = .ok (.iconst 1, 1) := by decide +kernel
theorem dL_cell_16 : decode cL_cell 16 = .ok (.iadd, 1) := by decide +kernel
theorem dL_cell_17 : decode cL_cell 17 = .ok (.imul, 1) := by decide +kernel
theorem dL_cell_18 : decode cL_cell 18 = .ok (.ireturn, 1) := by decide +kernel
theorem dL_low_0 : decode cL_low 0 = .ok (.iload_n 0, 1) := by decide +kernel
theorem dL_low_1 : decode cL_low 1 = .ok (.ldc 8, 2) := by decide +kernel
theorem dL_low_3 : decode cL_low 3 = .ok (.iand, 1) := by decide +kernel
theorem dL_low_4 : decode cL_low 4 = .ok (.iload_n 1, 1) := by decide +kernel
theorem dL_low_5 : decode cL_low 5 = .ok (.irem, 1) := by decide +kernel
theorem dL_low_6 : decode cL_low 6 = .ok (.ireturn, 1) := by decide +kernel
theorem dL_come_0 : decode cL_come 0 = .ok (.aload_n 0, 1) := by decide +kernel
theorem dL_come_1 : decode cL_come 1 = .ok (.invokevirtual 9, 3) := by decide +kernel
theorem dL_come_4 : decode cL_come 4 = .ok (.istore_n 1, 1) := by decide +kernel
theorem dL_come_5 : decode cL_come 5 = .ok (.goto 7, 3) := by decide +kernel
theorem dL_come_8 : decode cL_come 8 = .ok (.astore_n 2, 1) := by decide +kernel
theorem dL_come_9 : decode cL_come 9 = .ok (.bipush (-33), 2) := by decide +kernel
theorem dL_come_11 : decode cL_come 11 = .ok (.ireturn, 1) := by decide +kernel
theorem dL_come_12 : decode cL_come 12 = .ok (.iload_n 1, 1) := by decide +kernel
theorem dL_come_13 : decode cL_come 13 = .ok (.ireturn, 1) := by decide +kernel
theorem dL_leave_0 : decode cL_leave 0 = .ok (.aload_n 0, 1) := by decide +kernel
theorem dL_leave_1 : decode cL_leave 1 = .ok (.iload_n 1, 1) := by decide +kernel
theorem dL_leave_2 : decode cL_leave 2 = .ok (.invokevirtual 17, 3) := by decide +kernel
theorem dL_leave_5 : decode cL_leave 5 = .ok (.istore_n 2, 1) := by decide +kernel
theorem dL_leave_6 : decode cL_leave 6 = .ok (.goto 11, 3) := by decide +kernel
theorem dL_leave_9 : decode cL_leave 9 = .ok (.astore_n 3, 1) := by decide +kernel
theorem dL_leave_10 : decode cL_leave 10 = .ok (.bipush (-31), 2) := by decide +kernel
theorem dL_leave_12 : decode cL_leave 12 = .ok (.ireturn, 1) := by decide +kernel
theorem dL_leave_13 : decode cL_leave 13 = .ok (.astore_n 3, 1) := by decide +kernel
theorem dL_leave_14 : decode cL_leave 14 = .ok (.bipush (-33), 2) := by decide +kernel
theorem dL_leave_16 : decode cL_leave 16 = .ok (.ireturn, 1) := by decide +kernel
theorem dL_leave_17 : decode cL_leave 17 = .ok (.iload_n 2, 1) := by decide +kernel
theorem dL_leave_18 : decode cL_leave 18 = .ok (.ireturn, 1) := by decide +kernel
theorem dL_enter_0 : decode cL_enter 0 = .ok (.aload_n 0, 1) := by decide +kernel
theorem dL_enter_1 : decode cL_enter 1 = .ok (.iload_n 1, 1) := by decide +kernel
theorem dL_enter_2 : decode cL_enter 2 = .ok (.invokevirtual 23, 3) := by decide +kernel
theorem dL_enter_5 : decode cL_enter 5 = .ok (.istore_n 2, 1) := by decide +kernel
theorem dL_enter_6 : decode cL_enter 6 = .ok (.goto 11, 3) := by decide +kernel
theorem dL_enter_9 : decode cL_enter 9 = .ok (.astore_n 3, 1) := by decide +kernel
theorem dL_enter_10 : decode cL_enter 10 = .ok (.bipush (-31), 2) := by decide +kernel
theorem dL_enter_12 : decode cL_enter 12 = .ok (.ireturn, 1) := by decide +kernel
theorem dL_enter_13 : decode cL_enter 13 = .ok (.astore_n 3, 1) := by decide +kernel
theorem dL_enter_14 : decode cL_enter 14 = .ok (.bipush (-33), 2) := by decide +kernel
theorem dL_enter_16 : decode cL_enter 16 = .ok (.ireturn, 1) := by decide +kernel
theorem dL_enter_17 : decode cL_enter 17 = .ok (.iload_n 2, 1) := by decide +kernel
theorem dL_enter_18 : decode cL_enter 18 = .ok (.ireturn, 1) := by decide +kernel
theorem dL_rest_0 : decode cL_rest 0 = .ok (.aload_n 0, 1) := by decide +kernel
theorem dL_rest_1 : decode cL_rest 1 = .ok (.iload_n 1, 1) := by decide +kernel
theorem dL_rest_2 : decode cL_rest 2 = .ok (.invokevirtual 26, 3) := by decide +kernel
theorem dL_rest_5 : decode cL_rest 5 = .ok (.istore_n 2, 1) := by decide +kernel
theorem dL_rest_6 : decode cL_rest 6 = .ok (.goto 11, 3) := by decide +kernel
theorem dL_rest_9 : decode cL_rest 9 = .ok (.astore_n 3, 1) := by decide +kernel
theorem dL_rest_10 : decode cL_rest 10 = .ok (.bipush (-31), 2) := by decide +kernel
theorem dL_rest_12 : decode cL_rest 12 = .ok (.ireturn, 1) := by decide +kernel
theorem dL_rest_13 : decode cL_rest 13 = .ok (.astore_n 3, 1) := by decide +kernel
theorem dL_rest_14 : decode cL_rest 14 = .ok (.bipush (-33), 2) := by decide +kernel
theorem dL_rest_16 : decode cL_rest 16 = .ok (.ireturn, 1) := by decide +kernel
theorem dL_rest_17 : decode cL_rest 17 = .ok (.iload_n 2, 1) := by decide +kernel
theorem dL_rest_18 : decode cL_rest 18 = .ok (.ireturn, 1) := by decide +kernel
theorem dL_ring_0 : decode cL_ring 0 = .ok (.aload_n 0, 1) := by decide +kernel
theorem dL_ring_1 : decode cL_ring 1 = .ok (.invokevirtual 29, 3) := by decide +kernel
theorem dL_ring_4 : decode cL_ring 4 = .ok (.istore_n 1, 1) := by decide +kernel
theorem dL_ring_5 : decode cL_ring 5 = .ok (.goto 7, 3) := by decide +kernel
theorem dL_ring_8 : decode cL_ring 8 = .ok (.astore_n 2, 1) := by decide +kernel
theorem dL_ring_9 : decode cL_ring 9 = .ok (.bipush (-33), 2) := by decide +kernel
theorem dL_ring_11 : decode cL_ring 11 = .ok (.ireturn, 1) := by decide +kernel
theorem dL_ring_12 : decode cL_ring 12 = .ok (.iload_n 1, 1) := by decide +kernel
theorem dL_ring_13 : decode cL_ring 13 = .ok (.ireturn, 1) := by decide +kernel
theorem dL_grow_0 : decode cL_grow 0 = .ok (.aload_n 0, 1) := by decide +kernel
theorem dL_grow_1 : decode cL_grow 1 = .ok (.iload_n 1, 1) := by decide +kernel
theorem dL_grow_2 : decode cL_grow 2 = .ok (.iload_n 2, 1) := by decide +kernel
theorem dL_grow_3 : decode cL_grow 3 = .ok (.invokevirtual 32, 3) := by decide +kernel
theorem dL_grow_6 : decode cL_grow 6 = .ok (.istore_n 3, 1) := by decide +kernel
theorem dL_grow_7 : decode cL_grow 7 = .ok (.goto 18, 3) := by decide +kernel
theorem dL_grow_10 : decode cL_grow 10 = .ok (.astore 4, 2) := by decide +kernel
theorem dL_grow_12 : decode cL_grow 12 = .ok (.bipush (-31), 2) := by decide +kernel
theorem dL_grow_14 : decode cL_grow 14 = .ok (.ireturn, 1) := by decide +kernel
theorem dL_grow_15 : decode cL_grow 15 = .ok (.astore 4, 2) := by decide +kernel
theorem dL_grow_17 : decode cL_grow 17 = .ok (.bipush (-32), 2) := by decide +kernel
theorem dL_grow_19 : decode cL_grow 19 = .ok (.ireturn, 1) := by decide +kernel
theorem dL_grow_20 : decode cL_grow 20 = .ok (.astore 4, 2) := by decide +kernel
theorem dL_grow_22 : decode cL_grow 22 = .ok (.bipush (-33), 2) := by decide +kernel
theorem dL_grow_24 : decode cL_grow 24 = .ok (.ireturn, 1) := by decide +kernel
theorem dL_grow_25 : decode cL_grow 25 = .ok (.iload_n 3, 1) := by decide +kernel
theorem dL_grow_26 : decode cL_grow 26 = .ok (.ireturn, 1) := by decide +kernel
theorem dL_note_0 : decode cL_note 0 = .ok (.aload_n 0, 1) := by decide +kernel
theorem dL_note_1 : decode cL_note 1 = .ok (.iload_n 1, 1) := by decide +kernel
theorem dL_note_2 : decode cL_note 2 = .ok (.iload_n 2, 1) := by decide +kernel
theorem dL_note_3 : decode cL_note 3 = .ok (.iload_n 3, 1) := by decide +kernel
theorem dL_note_4 : decode cL_note 4 = .ok (.invokevirtual 38, 3) := by decide +kernel
theorem dL_note_7 : decode cL_note 7 = .ok (.istore 4, 2) := by decide +kernel
theorem dL_note_9 : decode cL_note 9 = .ok (.goto 13, 3) := by decide +kernel
theorem dL_note_12 : decode cL_note 12 = .ok (.astore 5, 2) := by decide +kernel
theorem dL_note_14 : decode cL_note 14 = .ok (.bipush (-31), 2) := by decide +kernel
theorem dL_note_16 : decode cL_note 16 = .ok (.ireturn, 1) := by decide +kernel
theorem dL_note_17 : decode cL_note 17 = .ok (.astore 5, 2) := by decide +kernel
theorem dL_note_19 : decode cL_note 19 = .ok (.bipush (-33), 2) := by decide +kernel
theorem dL_note_21 : decode cL_note 21 = .ok (.ireturn, 1) := by decide +kernel
theorem dL_note_22 : decode cL_note 22 = .ok (.iload 4, 2) := by decide +kernel
theorem dL_note_24 : decode cL_note 24 = .ok (.ireturn, 1) := by decide +kernel
theorem dL_pin_0 : decode cL_pin 0 = .ok (.aload_n 0, 1) := by decide +kernel
theorem dL_pin_1 : decode cL_pin 1 = .ok (.iload_n 1, 1) := by decide +kernel
theorem dL_pin_2 : decode cL_pin 2 = .ok (.iload_n 2, 1) := by decide +kernel
theorem dL_pin_3 : decode cL_pin 3 = .ok (.invokevirtual 42, 3) := by decide +kernel
theorem dL_pin_6 : decode cL_pin 6 = .ok (.istore_n 3, 1) := by decide +kernel
theorem dL_pin_7 : decode cL_pin 7 = .ok (.goto 13, 3) := by decide +kernel
theorem dL_pin_10 : decode cL_pin 10 = .ok (.astore 4, 2) := by decide +kernel
theorem dL_pin_12 : decode cL_pin 12 = .ok (.bipush (-31), 2) := by decide +kernel
theorem dL_pin_14 : decode cL_pin 14 = .ok (.ireturn, 1) := by decide +kernel
theorem dL_pin_15 : decode cL_pin 15 = .ok (.astore 4, 2) := by decide +kernel
theorem dL_pin_17 : decode cL_pin 17 = .ok (.bipush (-33), 2) := by decide +kernel
theorem dL_pin_19 : decode cL_pin 19 = .ok (.ireturn, 1) := by decide +kernel
theorem dL_pin_20 : decode cL_pin 20 = .ok (.iload_n 3, 1) := by decide +kernel
theorem dL_pin_21 : decode cL_pin 21 = .ok (.ireturn, 1) := by decide +kernel
theorem dL_loosen_0 : decode cL_loosen 0 = .ok (.aload_n 0, 1) := by decide +kernel
theorem dL_loosen_1 : decode cL_loosen 1 = .ok (.iload_n 1, 1) := by decide +kernel
theorem dL_loosen_2 : decode cL_loosen 2 = .ok (.iload_n 2, 1) := by decide +kernel
theorem dL_loosen_3 : decode cL_loosen 3 = .ok (.invokevirtual 45, 3) := by decide +kernel
theorem dL_loosen_6 : decode cL_loosen 6 = .ok (.istore_n 3, 1) := by decide +kernel
theorem dL_loosen_7 : decode cL_loosen 7 = .ok (.goto 13, 3) := by decide +kernel
theorem dL_loosen_10 : decode cL_loosen 10 = .ok (.astore 4, 2) := by decide +kernel
theorem dL_loosen_12 : decode cL_loosen 12 = .ok (.bipush (-31), 2) := by decide +kernel
theorem dL_loosen_14 : decode cL_loosen 14 = .ok (.ireturn, 1) := by decide +kernel
theorem dL_loosen_15 : decode cL_loosen 15 = .ok (.astore 4, 2) := by decide +kernel
theorem dL_loosen_17 : decode cL_loosen 17 = .ok (.bipush (-33), 2) := by decide +kernel
theorem dL_loosen_19 : decode cL_loosen 19 = .ok (.ireturn, 1) := by decide +kernel
theorem dL_loosen_20 : decode cL_loosen 20 = .ok (.iload_n 3, 1) := by decide +kernel
theorem dL_loosen_21 : decode cL_loosen 21 = .ok (.ireturn, 1) := by decide +kernel
theorem dL_look_0 : decode cL_look 0 = .ok (.aload_n 0, 1) := by decide +kernel
theorem dL_look_1 : decode cL_look 1 = .ok (.iload_n 1, 1) := by decide +kernel
theorem dL_look_2 : decode cL_look 2 = .ok (.iload_n 2, 1) := by decide +kernel
theorem dL_look_3 : decode cL_look 3 = .ok (.invokevirtual 48, 3) := by decide +kernel
theorem dL_look_6 : decode cL_look 6 = .ok (.istore_n 3, 1) := by decide +kernel
theorem dL_look_7 : decode cL_look 7 = .ok (.goto 13, 3) := by decide +kernel
theorem dL_look_10 : decode cL_look 10 = .ok (.astore 4, 2) := by decide +kernel
theorem dL_look_12 : decode cL_look 12 = .ok (.bipush (-31), 2) := by decide +kernel
theorem dL_look_14 : decode cL_look 14 = .ok (.ireturn, 1) := by decide +kernel
theorem dL_look_15 : decode cL_look 15 = .ok (.astore 4, 2) := by decide +kernel
theorem dL_look_17 : decode cL_look 17 = .ok (.bipush (-33), 2) := by decide +kernel
theorem dL_look_19 : decode cL_look 19 = .ok (.ireturn, 1) := by decide +kernel
theorem dL_look_20 : decode cL_look 20 = .ok (.iload_n 3, 1) := by decide +kernel
theorem dL_look_21 : decode cL_look 21 = .ok (.ireturn, 1) := by decide +kernel
theorem dL_take_0 : decode cL_take 0 = .ok (.aload_n 0, 1) := by decide +kernel
theorem dL_take_1 : decode cL_take 1 = .ok (.iload_n 1, 1) := by decide +kernel
theorem dL_take_2 : decode cL_take 2 = .ok (.iload_n 2, 1) := by decide +kernel
theorem dL_take_3 : decode cL_take 3 = .ok (.invokevirtual 51, 3) := by decide +kernel
theorem dL_take_6 : decode cL_take 6 = .ok (.istore_n 3, 1) := by decide +kernel
theorem dL_take_7 : decode cL_take 7 = .ok (.goto 13, 3) := by decide +kernel
theorem dL_take_10 : decode cL_take 10 = .ok (.astore 4, 2) := by decide +kernel
theorem dL_take_12 : decode cL_take 12 = .ok (.bipush (-31), 2) := by decide +kernel
theorem dL_take_14 : decode cL_take 14 = .ok (.ireturn, 1) := by decide +kernel
theorem dL_take_15 : decode cL_take 15 = .ok (.astore 4, 2) := by decide +kernel
theorem dL_take_17 : decode cL_take 17 = .ok (.bipush (-33), 2) := by decide +kernel
theorem dL_take_19 : decode cL_take 19 = .ok (.ireturn, 1) := by decide +kernel
theorem dL_take_20 : decode cL_take 20 = .ok (.iload_n 3, 1) := by decide +kernel
theorem dL_take_21 : decode cL_take 21 = .ok (.ireturn, 1) := by decide +kernel
theorem dL_swap_0 : decode cL_swap 0 = .ok (.aload_n 0, 1) := by decide +kernel
theorem dL_swap_1 : decode cL_swap 1 = .ok (.iload_n 1, 1) := by decide +kernel
theorem dL_swap_2 : decode cL_swap 2 = .ok (.iload_n 2, 1) := by decide +kernel
theorem dL_swap_3 : decode cL_swap 3 = .ok (.iload_n 3, 1) := by decide +kernel
theorem dL_swap_4 : decode cL_swap 4 = .ok (.invokevirtual 54, 3) := by decide +kernel
theorem dL_swap_7 : decode cL_swap 7 = .ok (.istore 4, 2) := by decide +kernel
theorem dL_swap_9 : decode cL_swap 9 = .ok (.goto 18, 3) := by decide +kernel
theorem dL_swap_12 : decode cL_swap 12 = .ok (.astore 5, 2) := by decide +kernel
theorem dL_swap_14 : decode cL_swap 14 = .ok (.bipush (-31), 2) := by decide +kernel
theorem dL_swap_16 : decode cL_swap 16 = .ok (.ireturn, 1) := by decide +kernel
theorem dL_swap_17 : decode cL_swap 17 = .ok (.astore 5, 2) := by decide +kernel
theorem dL_swap_19 : decode cL_swap 19 = .ok (.bipush (-32), 2) := by decide +kernel
theorem dL_swap_21 : decode cL_swap 21 = .ok (.ireturn, 1) := by decide +kernel
theorem dL_swap_22 : decode cL_swap 22 = .ok (.astore 5, 2) := by decide +kernel
theorem dL_swap_24 : decode cL_swap 24 = .ok (.bipush (-33), 2) := by decide +kernel
theorem dL_swap_26 : decode cL_swap 26 = .ok (.ireturn, 1) := by decide +kernel
theorem dL_swap_27 : decode cL_swap 27 = .ok (.iload 4, 2) := by decide +kernel
theorem dL_swap_29 : decode cL_swap 29 = .ok (.ireturn, 1) := by decide +kernel
theorem dL_rake_0 : decode cL_rake 0 = .ok (.aload_n 0, 1) := by decide +kernel
theorem dL_rake_1 : decode cL_rake 1 = .ok (.iload_n 1, 1) := by decide +kernel
theorem dL_rake_2 : decode cL_rake 2 = .ok (.invokevirtual 57, 3) := by decide +kernel
theorem dL_rake_5 : decode cL_rake 5 = .ok (.istore_n 2, 1) := by decide +kernel
theorem dL_rake_6 : decode cL_rake 6 = .ok (.goto 11, 3) := by decide +kernel
theorem dL_rake_9 : decode cL_rake 9 = .ok (.astore_n 3, 1) := by decide +kernel
theorem dL_rake_10 : decode cL_rake 10 = .ok (.bipush (-31), 2) := by decide +kernel
theorem dL_rake_12 : decode cL_rake 12 = .ok (.ireturn, 1) := by decide +kernel
theorem dL_rake_13 : decode cL_rake 13 = .ok (.astore_n 3, 1) := by decide +kernel
theorem dL_rake_14 : decode cL_rake 14 = .ok (.bipush (-33), 2) := by decide +kernel
theorem dL_rake_16 : decode cL_rake 16 = .ok (.ireturn, 1) := by decide +kernel
theorem dL_rake_17 : decode cL_rake 17 = .ok (.iload_n 2, 1) := by decide +kernel
theorem dL_rake_18 : decode cL_rake 18 = .ok (.ireturn, 1) := by decide +kernel
theorem dL_set_0 : decode cL_set 0 = .ok (.aload_n 0, 1) := by decide +kernel
theorem dL_set_1 : decode cL_set 1 = .ok (.iload_n 1, 1) := by decide +kernel
theorem dL_set_2 : decode cL_set 2 = .ok (.iload_n 2, 1) := by decide +kernel
theorem dL_set_3 : decode cL_set 3 = .ok (.invokevirtual 60, 3) := by decide +kernel
theorem dL_set_6 : decode cL_set 6 = .ok (.istore_n 3, 1) := by decide +kernel
theorem dL_set_7 : decode cL_set 7 = .ok (.goto 13, 3) := by decide +kernel
theorem dL_set_10 : decode cL_set 10 = .ok (.astore 4, 2) := by decide +kernel
theorem dL_set_12 : decode cL_set 12 = .ok (.bipush (-31), 2) := by decide +kernel
theorem dL_set_14 : decode cL_set 14 = .ok (.ireturn, 1) := by decide +kernel
theorem dL_set_15 : decode cL_set 15 = .ok (.astore 4, 2) := by decide +kernel
theorem dL_set_17 : decode cL_set 17 = .ok (.bipush (-32), 2) := by decide +kernel
theorem dL_set_19 : decode cL_set 19 = .ok (.ireturn, 1) := by decide +kernel
theorem dL_set_20 : decode cL_set 20 = .ok (.iload_n 3, 1) := by decide +kernel
theorem dL_set_21 : decode cL_set 21 = .ok (.ireturn, 1) := by decide +kernel
theorem dL_undo_0 : decode cL_undo 0 = .ok (.aload_n 0, 1) := by decide +kernel
theorem dL_undo_1 : decode cL_undo 1 = .ok (.invokevirtual 63, 3) := by decide +kernel
theorem dL_undo_4 : decode cL_undo 4 = .ok (.istore_n 1, 1) := by decide +kernel
theorem dL_undo_5 : decode cL_undo 5 = .ok (.goto 7, 3) := by decide +kernel
theorem dL_undo_8 : decode cL_undo 8 = .ok (.astore_n 2, 1) := by decide +kernel
theorem dL_undo_9 : decode cL_undo 9 = .ok (.bipush (-33), 2) := by decide +kernel
theorem dL_undo_11 : decode cL_undo 11 = .ok (.ireturn, 1) := by decide +kernel
theorem dL_undo_12 : decode cL_undo 12 = .ok (.iload_n 1, 1) := by decide +kernel
theorem dL_undo_13 : decode cL_undo 13 = .ok (.ireturn, 1) := by decide +kernel
theorem dL_child_0 : decode cL_child 0 = .ok (.aload_n 0, 1) := by decide +kernel
theorem dL_child_1 : decode cL_child 1 = .ok (.iload_n 1, 1) := by decide +kernel
theorem dL_child_2 : decode cL_child 2 = .ok (.iload_n 2, 1) := by decide +kernel
theorem dL_child_3 : decode cL_child 3 = .ok (.invokevirtual 66, 3) := by decide +kernel
theorem dL_child_6 : decode cL_child 6 = .ok (.istore_n 3, 1) := by decide +kernel
theorem dL_child_7 : decode cL_child 7 = .ok (.goto 13, 3) := by decide +kernel
theorem dL_child_10 : decode cL_child 10 = .ok (.astore 4, 2) := by decide +kernel
theorem dL_child_12 : decode cL_child 12 = .ok (.bipush (-31), 2) := by decide +kernel
theorem dL_child_14 : decode cL_child 14 = .ok (.ireturn, 1) := by decide +kernel
theorem dL_child_15 : decode cL_child 15 = .ok (.astore 4, 2) := by decide +kernel
theorem dL_child_17 : decode cL_child 17 = .ok (.bipush (-32), 2) := by decide +kernel
theorem dL_child_19 : decode cL_child 19 = .ok (.ireturn, 1) := by decide +kernel
theorem dL_child_20 : decode cL_child 20 = .ok (.iload_n 3, 1) := by decide +kernel
theorem dL_child_21 : decode cL_child 21 = .ok (.ireturn, 1) := by decide +kernel
theorem dL_where_0 : decode cL_where 0 = .ok (.aload_n 1, 1) := by decide +kernel
theorem dL_where_1 : decode cL_where 1 = .ok (.iload_n 0, 1) := by decide +kernel
theorem dL_where_2 : decode cL_where 2 = .ok (.iaload, 1) := by decide +kernel
theorem dL_where_3 : decode cL_where 3 = .ok (.bipush 120, 2) := by decide +kernel
theorem dL_where_5 : decode cL_where 5 = .ok (.idiv, 1) := by decide +kernel
theorem dL_where_6 : decode cL_where 6 = .ok (.bipush 8, 2) := by decide +kernel
theorem dL_where_8 : decode cL_where 8 = .ok (.irem, 1) := by decide +kernel
theorem dL_where_9 : decode cL_where 9 = .ok (.iconst 2, 1) := by decide +kernel
theorem dL_where_10 : decode cL_where 10 = .ok (.isub, 1) := by decide +kernel
theorem dL_where_11 : decode cL_where 11 = .ok (.ireturn, 1) := by decide +kernel
theorem dL_put_0 : decode cL_put 0 = .ok (.aload_n 2, 1) := by decide +kernel
theorem dL_put_1 : decode cL_put 1 = .ok (.iload_n 0, 1) := by decide +kernel
theorem dL_put_2 : decode cL_put 2 = .ok (.dup2, 1) := by decide +kernel
theorem dL_put_3 : decode cL_put 3 = .ok (.iaload, 1) := by decide +kernel
theorem dL_put_4 : decode cL_put 4 = .ok (.bipush 120, 2) := by decide +kernel
theorem dL_put_6 : decode cL_put 6 = .ok (.iload_n 1, 1) := by decide +kernel
theorem dL_put_7 : decode cL_put 7 = .ok (.iload_n 0, 1) := by decide +kernel
theorem dL_put_8 : decode cL_put 8 = .ok (.aload_n 2, 1) := by decide +kernel
theorem dL_put_9 : decode cL_put 9 = .ok (.invokestatic 69, 3) := by decide +kernel
theorem dL_put_12 : decode cL_put 12 = .ok (.isub, 1) := by decide +kernel
theorem dL_put_13 : decode cL_put 13 = .ok (.imul, 1) := by decide +kernel
theorem dL_put_14 : decode cL_put 14 = .ok (.iadd, 1) := by decide +kernel
theorem dL_put_15 : decode cL_put 15 = .ok (.iastore, 1) := by decide +kernel
theorem dL_put_16 : decode cL_put 16 = .ok (.return_, 1) := by decide +kernel
theorem dL_branch_0 : decode cL_branch 0 = .ok (.aload_n 1, 1) := by decide +kernel
theorem dL_branch_1 : decode cL_branch 1 = .ok (.iload_n 0, 1) := by decide +kernel
theorem dL_branch_2 : decode cL_branch 2 = .ok (.iaload, 1) := by decide +kernel
theorem dL_branch_3 : decode cL_branch 3 = .ok (.bipush 10, 2) := by decide +kernel
theorem dL_branch_5 : decode cL_branch 5 = .ok (.idiv, 1) := by decide +kernel
theorem dL_branch_6 : decode cL_branch 6 = .ok (.bipush 12, 2) := by decide +kernel
theorem dL_branch_8 : decode cL_branch 8 = .ok (.irem, 1) := by decide +kernel
theorem dL_branch_9 : decode cL_branch 9 = .ok (.ireturn, 1) := by decide +kernel
theorem dL_noted_0 : decode cL_noted 0 = .ok (.aload_n 1, 1) := by decide +kernel
theorem dL_noted_1 : decode cL_noted 1 = .ok (.iload_n 0, 1) := by decide +kernel
theorem dL_noted_2 : decode cL_noted 2 = .ok (.iaload, 1) := by decide +kernel
theorem dL_noted_3 : decode cL_noted 3 = .ok (.sipush 960, 3) := by decide +kernel
theorem dL_noted_6 : decode cL_noted 6 = .ok (.idiv, 1) := by decide +kernel
theorem dL_noted_7 : decode cL_noted 7 = .ok (.iconst 1, 1) := by decide +kernel
theorem dL_noted_8 : decode cL_noted 8 = .ok (.isub, 1) := by decide +kernel
theorem dL_noted_9 : decode cL_noted 9 = .ok (.ireturn, 1) := by decide +kernel
theorem dL_pins_0 : decode cL_pins 0 = .ok (.iconst 0, 1) := by decide +kernel
theorem dL_pins_1 : decode cL_pins 1 = .ok (.istore 4, 2) := by decide +kernel
theorem dL_pins_3 : decode cL_pins 3 = .ok (.iconst 0, 1) := by decide +kernel
theorem dL_pins_4 : decode cL_pins 4 = .ok (.istore 5, 2) := by decide +kernel
theorem dL_pins_6 : decode cL_pins 6 = .ok (.iload 5, 2) := by decide +kernel
theorem dL_pins_8 : decode cL_pins 8 = .ok (.bipush 15, 2) := by decide +kernel
theorem dL_pins_10 : decode cL_pins 10 = .ok (.if_icmp .ge 49, 3) := by decide +kernel
theorem dL_pins_13 : decode cL_pins 13 = .ok (.iload 4, 2) := by decide +kernel
theorem dL_pins_15 : decode cL_pins 15 = .ok (.aload_n 3, 1) := by decide +kernel
theorem dL_pins_16 : decode cL_pins 16 = .ok (.iconst 2, 1) := by decide +kernel
theorem dL_pins_17 : decode cL_pins 17 = .ok (.iload 5, 2) := by decide +kernel
theorem dL_pins_19 : decode cL_pins 19 = .ok (.imul, 1) := by decide +kernel
theorem dL_pins_20 : decode cL_pins 20 = .ok (.iaload, 1) := by decide +kernel
theorem dL_pins_21 : decode cL_pins 21 = .ok (.iload_n 1, 1) := by decide +kernel
theorem dL_pins_22 : decode cL_pins 22 = .ok (.if_icmp .ne 27, 3) := by decide +kernel
theorem dL_pins_25 : decode cL_pins 25 = .ok (.aload_n 3, 1) := by decide +kernel
theorem dL_pins_26 : decode cL_pins 26 = .ok (.iconst 2, 1) := by decide +kernel
theorem dL_pins_27 : decode cL_pins 27 = .ok (.iload 5, 2) := by decide +kernel
theorem dL_pins_29 : decode cL_pins 29 = .ok (.imul, 1) := by decide +kernel
theorem dL_pins_30 : decode cL_pins 30 = .ok (.iconst 1, 1) := by decide +kernel
theorem dL_pins_31 : decode cL_pins 31 = .ok (.iadd, 1) := by decide +kernel
theorem dL_pins_32 : decode cL_pins 32 = .ok (.iaload, 1) := by decide +kernel
theorem dL_pins_33 : decode cL_pins 33 = .ok (.iload_n 0, 1) := by decide +kernel
theorem dL_pins_34 : decode cL_pins 34 = .ok (.if_icmp .ne 15, 3) := by decide +kernel
theorem dL_pins_37 : decode cL_pins 37 = .ok (.iload 5, 2) := by decide +kernel
theorem dL_pins_39 : decode cL_pins 39 = .ok (.iconst 3, 1) := by decide +kernel
theorem dL_pins_40 : decode cL_pins 40 = .ok (.idiv, 1) := by decide +kernel
theorem dL_pins_41 : decode cL_pins 41 = .ok (.iload_n 2, 1) := by decide +kernel
theorem dL_pins_42 : decode cL_pins 42 = .ok (.if_icmp .eq 7, 3) := by decide +kernel
theorem dL_pins_45 : decode cL_pins 45 = .ok (.iconst 1, 1) := by decide +kernel
theorem dL_pins_46 : decode cL_pins 46 = .ok (.goto 4, 3) := by decide +kernel
theorem dL_pins_49 : decode cL_pins 49 = .ok (.iconst 0, 1) := by decide +kernel
theorem dL_pins_50 : decode cL_pins 50 = .ok (.iadd, 1) := by decide +kernel
theorem dL_pins_51 : decode cL_pins 51 = .ok (.istore 4, 2) := by decide +kernel
theorem dL_pins_53 : decode cL_pins 53 = .ok (.iinc 5 1, 3) := by decide +kernel
theorem dL_pins_56 : decode cL_pins 56 = .ok (.goto (-50), 3) := by decide +kernel
theorem dL_pins_59 : decode cL_pins 59 = .ok (.iload 4, 2) := by decide +kernel
theorem dL_pins_61 : decode cL_pins 61 = .ok (.ireturn, 1) := by decide +kernel
theorem dL_may_0 : decode cL_may 0 = .ok (.iload_n 1, 1) := by decide +kernel
theorem dL_may_1 : decode cL_may 1 = .ok (.ifCond .ne 22, 3) := by decide +kernel
theorem dL_may_4 : decode cL_may 4 = .ok (.iload_n 0, 1) := by decide +kernel
theorem dL_may_5 : decode cL_may 5 = .ok (.iconst 2, 1) := by decide +kernel
theorem dL_may_6 : decode cL_may 6 = .ok (.iload_n 2, 1) := by decide +kernel
theorem dL_may_7 : decode cL_may 7 = .ok (.aload 5, 2) := by decide +kernel
theorem dL_may_9 : decode cL_may 9 = .ok (.invokestatic 75, 3) := by decide +kernel
theorem dL_may_12 : decode cL_may 12 = .ok (.ifCond .ne 7, 3) := by decide +kernel
theorem dL_may_15 : decode cL_may 15 = .ok (.iconst 1, 1) := by decide +kernel
theorem dL_may_16 : decode cL_may 16 = .ok (.goto 26, 3) := by decide +kernel
theorem dL_may_19 : decode cL_may 19 = .ok (.iconst 0, 1) := by decide +kernel
theorem dL_may_20 : decode cL_may 20 = .ok (.goto 22, 3) := by decide +kernel
theorem dL_may_23 : decode cL_may 23 = .ok (.aload_n 3, 1) := by decide +kernel
theorem dL_may_24 : decode cL_may 24 = .ok (.iconst 0, 1) := by decide +kernel
theorem dL_may_25 : decode cL_may 25 = .ok (.iaload, 1) := by decide +kernel
theorem dL_may_26 : decode cL_may 26 = .ok (.iload_n 0, 1) := by decide +kernel
theorem dL_may_27 : decode cL_may 27 = .ok (.aload 4, 2) := by decide +kernel
theorem dL_may_29 : decode cL_may 29 = .ok (.invokestatic 79, 3) := by decide +kernel
theorem dL_may_32 : decode cL_may 32 = .ok (.iconst 2, 1) := by decide +kernel
theorem dL_may_33 : decode cL_may 33 = .ok (.iadd, 1) := by decide +kernel
theorem dL_may_34 : decode cL_may 34 = .ok (.if_icmp .lt 7, 3) := by decide +kernel
theorem dL_may_37 : decode cL_may 37 = .ok (.iconst 1, 1) := by decide +kernel
theorem dL_may_38 : decode cL_may 38 = .ok (.goto 4, 3) := by decide +kernel
theorem dL_may_41 : decode cL_may 41 = .ok (.iconst 0, 1) := by decide +kernel
theorem dL_may_42 : decode cL_may 42 = .ok (.ireturn, 1) := by decide +kernel
theorem dL_heap_0 : decode cL_heap 0 = .ok (.iconst 0, 1) := by decide +kernel
theorem dL_heap_1 : decode cL_heap 1 = .ok (.istore 4, 2) := by decide +kernel
theorem dL_heap_3 : decode cL_heap 3 = .ok (.iconst 0, 1) := by decide +kernel
theorem dL_heap_4 : decode cL_heap 4 = .ok (.istore 5, 2) := by decide +kernel
theorem dL_heap_6 : decode cL_heap 6 = .ok (.iload 5, 2) := by decide +kernel
theorem dL_heap_8 : decode cL_heap 8 = .ok (.aload_n 1, 1) := by decide +kernel
theorem dL_heap_9 : decode cL_heap 9 = .ok (.bipush 9, 2) := by decide +kernel
theorem dL_heap_11 : decode cL_heap 11 = .ok (.iaload, 1) := by decide +kernel
theorem dL_heap_12 : decode cL_heap 12 = .ok (.if_icmp .ge 31, 3) := by decide +kernel
theorem dL_heap_15 : decode cL_heap 15 = .ok (.iload 4, 2) := by decide +kernel
theorem dL_heap_17 : decode cL_heap 17 = .ok (.aload_n 3, 1) := by decide +kernel
theorem dL_heap_18 : decode cL_heap 18 = .ok (.iload 5, 2) := by decide +kernel
theorem dL_heap_20 : decode cL_heap 20 = .ok (.iaload, 1) := by decide +kernel
theorem dL_heap_21 : decode cL_heap 21 = .ok (.aload_n 2, 1) := by decide +kernel
theorem dL_heap_22 : decode cL_heap 22 = .ok (.invokestatic 69, 3) := by decide +kernel
theorem dL_heap_25 : decode cL_heap 25 = .ok (.iload_n 0, 1) := by decide +kernel
theorem dL_heap_26 : decode cL_heap 26 = .ok (.if_icmp .ne 7, 3) := by decide +kernel
theorem dL_heap_29 : decode cL_heap 29 = .ok (.iconst 1, 1) := by decide +kernel
theorem dL_heap_30 : decode cL_heap 30 = .ok (.goto 4, 3) := by decide +kernel
theorem dL_heap_33 : decode cL_heap 33 = .ok (.iconst 0, 1) := by decide +kernel
theorem dL_heap_34 : decode cL_heap 34 = .ok (.iadd, 1) := by decide +kernel
theorem dL_heap_35 : decode cL_heap 35 = .ok (.istore 4, 2) := by decide +kernel
theorem dL_heap_37 : decode cL_heap 37 = .ok (.iinc 5 1, 3) := by decide +kernel
theorem dL_heap_40 : decode cL_heap 40 = .ok (.goto (-34), 3) := by decide +kernel
theorem dL_heap_43 : decode cL_heap 43 = .ok (.iload 4, 2) := by decide +kernel
theorem dL_heap_45 : decode cL_heap 45 = .ok (.ireturn, 1) := by decide +kernel
theorem dL_children_0 : decode cL_children 0 = .ok (.iconst 0, 1) := by decide +kernel
theorem dL_children_1 : decode cL_children 1 = .ok (.istore_n 1, 1) := by decide +kernel
theorem dL_children_2 : decode cL_children 2 = .ok (.iconst 0, 1) := by decide +kernel
theorem dL_children_3 : decode cL_children 3 = .ok (.istore_n 2, 1) := by decide +kernel
theorem dL_children_4 : decode cL_children 4 = .ok (.iload_n 2, 1) := by decide +kernel
theorem dL_children_5 : decode cL_children 5 = .ok (.iconst 5, 1) := by decide +kernel
theorem dL_children_6 : decode cL_children 6 = .ok (.if_icmp .ge 18, 3) := by decide +kernel
theorem dL_children_9 : decode cL_children 9 = .ok (.iload_n 1, 1) := by decide +kernel
theorem dL_children_10 : decode cL_children 10 = .ok (.aload_n 0, 1) := by decide +kernel
theorem dL_children_11 : decode cL_children 11 = .ok (.bipush 6, 2) := by decide +kernel
theorem dL_children_13 : decode cL_children 13 = .ok (.iload_n 2, 1) := by decide +kernel
theorem dL_children_14 : decode cL_children 14 = .ok (.imul, 1) := by decide +kernel
theorem dL_children_15 : decode cL_children 15 = .ok (.iaload, 1) := by decide +kernel
theorem dL_children_16 : decode cL_children 16 = .ok (.iadd, 1) := by decide +kernel
theorem dL_children_17 : decode cL_children 17 = .ok (.istore_n 1, 1) := by decide +kernel
theorem dL_children_18 : decode cL_children 18 = .ok (.iinc 2 1, 3) := by decide +kernel
theorem dL_children_21 : decode cL_children 21 = .ok (.goto (-17), 3) := by decide +kernel
theorem dL_children_24 : decode cL_children 24 = .ok (.iload_n 1, 1) := by decide +kernel
theorem dL_children_25 : decode cL_children 25 = .ok (.ireturn, 1) := by decide +kernel
theorem dL_raked_0 : decode cL_raked 0 = .ok (.iconst 0, 1) := by decide +kernel
theorem dL_raked_1 : decode cL_raked 1 = .ok (.istore 6, 2) := by decide +kernel
theorem dL_raked_3 : decode cL_raked 3 = .ok (.aload_n 1, 1) := by decide +kernel
theorem dL_raked_4 : decode cL_raked 4 = .ok (.bipush 9, 2) := by decide +kernel
theorem dL_raked_6 : decode cL_raked 6 = .ok (.iaload, 1) := by decide +kernel
theorem dL_raked_7 : decode cL_raked 7 = .ok (.istore 7, 2) := by decide +kernel
theorem dL_raked_9 : decode cL_raked 9 = .ok (.iconst 0, 1) := by decide +kernel
theorem dL_raked_10 : decode cL_raked 10 = .ok (.istore 8, 2) := by decide +kernel
theorem dL_raked_12 : decode cL_raked 12 = .ok (.iload 8, 2) := by decide +kernel
theorem dL_raked_14 : decode cL_raked 14 = .ok (.iload 7, 2) := by decide +kernel
theorem dL_raked_16 : decode cL_raked 16 = .ok (.if_icmp .ge 62, 3) := by decide +kernel
theorem dL_raked_19 : decode cL_raked 19 = .ok (.aload_n 3, 1) := by decide +kernel
theorem dL_raked_20 : decode cL_raked 20 = .ok (.iload 8, 2) := by decide +kernel
theorem dL_raked_22 : decode cL_raked 22 = .ok (.iaload, 1) := by decide +kernel
theorem dL_raked_23 : decode cL_raked 23 = .ok (.istore 9, 2) := by decide +kernel
theorem dL_raked_25 : decode cL_raked 25 = .ok (.iload 9, 2) := by decide +kernel
theorem dL_raked_27 : decode cL_raked 27 = .ok (.aload_n 2, 1) := by decide +kernel
theorem dL_raked_28 : decode cL_raked 28 = .ok (.invokestatic 69, 3) := by decide +kernel
theorem dL_raked_31 : decode cL_raked 31 = .ok (.iload_n 0, 1) := by decide +kernel
theorem dL_raked_32 : decode cL_raked 32 = .ok (.if_icmp .ne 31, 3) := by decide +kernel
theorem dL_raked_35 : decode cL_raked 35 = .ok (.iload 9, 2) := by decide +kernel
theorem dL_raked_37 : decode cL_raked 37 = .ok (.aload_n 1, 1) := by decide +kernel
theorem dL_raked_38 : decode cL_raked 38 = .ok (.bipush 8, 2) := by decide +kernel
theorem dL_raked_40 : decode cL_raked 40 = .ok (.iaload, 1) := by decide +kernel
theorem dL_raked_41 : decode cL_raked 41 = .ok (.iconst (-1), 1) := by decide +kernel
theorem dL_raked_42 : decode cL_raked 42 = .ok (.aload_n 1, 1) := by decide +kernel
theorem dL_raked_43 : decode cL_raked 43 = .ok (.aload_n 2, 1) := by decide +kernel
theorem dL_raked_44 : decode cL_raked 44 = .ok (.aload 5, 2) := by decide +kernel
theorem dL_raked_46 : decode cL_raked 46 = .ok (.invokestatic 82, 3) := by decide +kernel
theorem dL_raked_49 : decode cL_raked 49 = .ok (.ifCond .eq 14, 3) := by decide +kernel
theorem dL_raked_52 : decode cL_raked 52 = .ok (.iload 9, 2) := by decide +kernel
theorem dL_raked_54 : decode cL_raked 54 = .ok (.bipush (-2), 2) := by decide +kernel
theorem dL_raked_56 : decode cL_raked 56 = .ok (.aload_n 2, 1) := by decide +kernel
theorem dL_raked_57 : decode cL_raked 57 = .ok (.invokestatic 86, 3) := by decide +kernel
theorem dL_raked_60 : decode cL_raked 60 = .ok (.goto 12, 3) := by decide +kernel
theorem dL_raked_63 : decode cL_raked 63 = .ok (.aload_n 3, 1) := by decide +kernel
theorem dL_raked_64 : decode cL_raked 64 = .ok (.iload 6, 2) := by decide +kernel
theorem dL_raked_66 : decode cL_raked 66 = .ok (.iload 9, 2) := by decide +kernel
theorem dL_raked_68 : decode cL_raked 68 = .ok (.iastore, 1) := by decide +kernel
theorem dL_raked_69 : decode cL_raked 69 = .ok (.iinc 6 1, 3) := by decide +kernel
theorem dL_raked_72 : decode cL_raked 72 = .ok (.iinc 8 1, 3) := by decide +kernel
theorem dL_raked_75 : decode cL_raked 75 = .ok (.goto (-63), 3) := by decide +kernel
theorem dL_raked_78 : decode cL_raked 78 = .ok (.aload_n 1, 1) := by decide +kernel
theorem dL_raked_79 : decode cL_raked 79 = .ok (.bipush 9, 2) := by decide +kernel
theorem dL_raked_81 : decode cL_raked 81 = .ok (.iload 6, 2) := by decide +kernel
theorem dL_raked_83 : decode cL_raked 83 = .ok (.iastore, 1) := by decide +kernel
theorem dL_raked_84 : decode cL_raked 84 = .ok (.aload_n 1, 1) := by decide +kernel
theorem dL_raked_85 : decode cL_raked 85 = .ok (.iconst 2, 1) := by decide +kernel
theorem dL_raked_86 : decode cL_raked 86 = .ok (.dup2, 1) := by decide +kernel
theorem dL_raked_87 : decode cL_raked 87 = .ok (.iaload, 1) := by decide +kernel
theorem dL_raked_88 : decode cL_raked 88 = .ok (.iconst 1, 1) := by decide +kernel
theorem dL_raked_89 : decode cL_raked 89 = .ok (.iadd, 1) := by decide +kernel
theorem dL_raked_90 : decode cL_raked 90 = .ok (.iastore, 1) := by decide +kernel
theorem dL_raked_91 : decode cL_raked 91 = .ok (.aload_n 1, 1) := by decide +kernel
theorem dL_raked_92 : decode cL_raked 92 = .ok (.iconst 3, 1) := by decide +kernel
theorem dL_raked_93 : decode cL_raked 93 = .ok (.dup2, 1) := by decide +kernel
theorem dL_raked_94 : decode cL_raked 94 = .ok (.iaload, 1) := by decide +kernel
theorem dL_raked_95 : decode cL_raked 95 = .ok (.aload_n 1, 1) := by decide +kernel
theorem dL_raked_96 : decode cL_raked 96 = .ok (.bipush 8, 2) := by decide +kernel
theorem dL_raked_98 : decode cL_raked 98 = .ok (.iaload, 1) := by decide +kernel
theorem dL_raked_99 : decode cL_raked 99 = .ok (.ifCond .ne 13, 3) := by decide +kernel
theorem dL_raked_102 : decode cL_raked 102 = .ok (.iconst 3, 1) := by decide +kernel
theorem dL_raked_103 : decode cL_raked 103 = .ok (.aload 4, 2) := by decide +kernel
theorem dL_raked_105 : decode cL_raked 105 = .ok (.invokestatic 90, 3) := by decide +kernel
theorem dL_raked_108 : decode cL_raked 108 = .ok (.imul, 1) := by decide +kernel
theorem dL_raked_109 : decode cL_raked 109 = .ok (.goto 4, 3) := by decide +kernel
theorem dL_raked_112 : decode cL_raked 112 = .ok (.iconst 0, 1) := by decide +kernel
theorem dL_raked_113 : decode cL_raked 113 = .ok (.iadd, 1) := by decide +kernel
theorem dL_raked_114 : decode cL_raked 114 = .ok (.iastore, 1) := by decide +kernel
theorem dL_raked_115 : decode cL_raked 115 = .ok (.aload 4, 2) := by decide +kernel
theorem dL_raked_117 : decode cL_raked 117 = .ok (.bipush 6, 2) := by decide +kernel
theorem dL_raked_119 : decode cL_raked 119 = .ok (.iload_n 0, 1) := by decide +kernel
theorem dL_raked_120 : decode cL_raked 120 = .ok (.imul, 1) := by decide +kernel
theorem dL_raked_121 : decode cL_raked 121 = .ok (.iconst 4, 1) := by decide +kernel
theorem dL_raked_122 : decode cL_raked 122 = .ok (.iadd, 1) := by decide +kernel
theorem dL_raked_123 : decode cL_raked 123 = .ok (.dup2, 1) := by decide +kernel
theorem dL_raked_124 : decode cL_raked 124 = .ok (.iaload, 1) := by decide +kernel
theorem dL_raked_125 : decode cL_raked 125 = .ok (.iload 7, 2) := by decide +kernel
theorem dL_raked_127 : decode cL_raked 127 = .ok (.iload 6, 2) := by decide +kernel
theorem dL_raked_129 : decode cL_raked 129 = .ok (.isub, 1) := by decide +kernel
theorem dL_raked_130 : decode cL_raked 130 = .ok (.iadd, 1) := by decide +kernel
theorem dL_raked_131 : decode cL_raked 131 = .ok (.iastore, 1) := by decide +kernel
theorem dL_raked_132 : decode cL_raked 132 = .ok (.aload 4, 2) := by decide +kernel
theorem dL_raked_134 : decode cL_raked 134 = .ok (.bipush 6, 2) := by decide +kernel
theorem dL_raked_136 : decode cL_raked 136 = .ok (.iload_n 0, 1) := by decide +kernel
theorem dL_raked_137 : decode cL_raked 137 = .ok (.imul, 1) := by decide +kernel
theorem dL_raked_138 : decode cL_raked 138 = .ok (.iconst 5, 1) := by decide +kernel
theorem dL_raked_139 : decode cL_raked 139 = .ok (.iadd, 1) := by decide +kernel
theorem dL_raked_140 : decode cL_raked 140 = .ok (.dup2, 1) := by decide +kernel
theorem dL_raked_141 : decode cL_raked 141 = .ok (.iaload, 1) := by decide +kernel
theorem dL_raked_142 : decode cL_raked 142 = .ok (.iconst 1, 1) := by decide +kernel
theorem dL_raked_143 : decode cL_raked 143 = .ok (.iadd, 1) := by decide +kernel
theorem dL_raked_144 : decode cL_raked 144 = .ok (.iastore, 1) := by decide +kernel
theorem dL_raked_145 : decode cL_raked 145 = .ok (.iload 7, 2) := by decide +kernel
theorem dL_raked_147 : decode cL_raked 147 = .ok (.iload 6, 2) := by decide +kernel
theorem dL_raked_149 : decode cL_raked 149 = .ok (.isub, 1) := by decide +kernel
theorem dL_raked_150 : decode cL_raked 150 = .ok (.ireturn, 1) := by decide +kernel
theorem dL_taken_0 : decode cL_taken 0 = .ok (.aload_n 3, 1) := by decide +kernel
theorem dL_taken_1 : decode cL_taken 1 = .ok (.iload_n 1, 1) := by decide +kernel
theorem dL_taken_2 : decode cL_taken 2 = .ok (.iaload, 1) := by decide +kernel
theorem dL_taken_3 : decode cL_taken 3 = .ok (.istore 8, 2) := by decide +kernel
theorem dL_taken_5 : decode cL_taken 5 = .ok (.aload_n 3, 1) := by decide +kernel
theorem dL_taken_6 : decode cL_taken 6 = .ok (.iload_n 1, 1) := by decide +kernel
theorem dL_taken_7 : decode cL_taken 7 = .ok (.iconst (-1), 1) := by decide +kernel
theorem dL_taken_8 : decode cL_taken 8 = .ok (.iastore, 1) := by decide +kernel
theorem dL_taken_9 : decode cL_taken 9 = .ok (.aload 4, 2) := by decide +kernel
theorem dL_taken_11 : decode cL_taken 11 = .ok (.iload 8, 2) := by decide +kernel
theorem dL_taken_13 : decode cL_taken 13 = .ok (.aload 4, 2) := by decide +kernel
theorem dL_taken_15 : decode cL_taken 15 = .ok (.iload 8, 2) := by decide +kernel
theorem dL_taken_17 : decode cL_taken 17 = .ok (.iaload, 1) := by decide +kernel
theorem dL_taken_18 : decode cL_taken 18 = .ok (.sipush 960, 3) := by decide +kernel
theorem dL_taken_21 : decode cL_taken 21 = .ok (.irem, 1) := by decide +kernel
theorem dL_taken_22 : decode cL_taken 22 = .ok (.sipush 960, 3) := by decide +kernel
theorem dL_taken_25 : decode cL_taken 25 = .ok (.aload_n 2, 1) := by decide +kernel
theorem dL_taken_26 : decode cL_taken 26 = .ok (.iconst 0, 1) := by decide +kernel
theorem dL_taken_27 : decode cL_taken 27 = .ok (.iaload, 1) := by decide +kernel
theorem dL_taken_28 : decode cL_taken 28 = .ok (.iconst 1, 1) := by decide +kernel
theorem dL_taken_29 : decode cL_taken 29 = .ok (.iadd, 1) := by decide +kernel
theorem dL_taken_30 : decode cL_taken 30 = .ok (.imul, 1) := by decide +kernel
theorem dL_taken_31 : decode cL_taken 31 = .ok (.iadd, 1) := by decide +kernel
theorem dL_taken_32 : decode cL_taken 32 = .ok (.iastore, 1) := by decide +kernel
theorem dL_taken_33 : decode cL_taken 33 = .ok (.iload 8, 2) := by decide +kernel
theorem dL_taken_35 : decode cL_taken 35 = .ok (.iload_n 0, 1) := by decide +kernel
theorem dL_taken_36 : decode cL_taken 36 = .ok (.aload 4, 2) := by decide +kernel
theorem dL_taken_38 : decode cL_taken 38 = .ok (.invokestatic 86, 3) := by decide +kernel
theorem dL_taken_41 : decode cL_taken 41 = .ok (.aload 5, 2) := by decide +kernel
theorem dL_taken_43 : decode cL_taken 43 = .ok (.aload_n 2, 1) := by decide +kernel
theorem dL_taken_44 : decode cL_taken 44 = .ok (.bipush 9, 2) := by decide +kernel
theorem dL_taken_46 : decode cL_taken 46 = .ok (.iaload, 1) := by decide +kernel
theorem dL_taken_47 : decode cL_taken 47 = .ok (.iload 8, 2) := by decide +kernel
theorem dL_taken_49 : decode cL_taken 49 = .ok (.iastore, 1) := by decide +kernel
theorem dL_taken_50 : decode cL_taken 50 = .ok (.aload_n 2, 1) := by decide +kernel
theorem dL_taken_51 : decode cL_taken 51 = .ok (.bipush 9, 2) := by decide +kernel
theorem dL_taken_53 : decode cL_taken 53 = .ok (.dup2, 1) := by decide +kernel
theorem dL_taken_54 : decode cL_taken 54 = .ok (.iaload, 1) := by decide +kernel
theorem dL_taken_55 : decode cL_taken 55 = .ok (.iconst 1, 1) := by decide +kernel
theorem dL_taken_56 : decode cL_taken 56 = .ok (.iadd, 1) := by decide +kernel
theorem dL_taken_57 : decode cL_taken 57 = .ok (.iastore, 1) := by decide +kernel
theorem dL_taken_58 : decode cL_taken 58 = .ok (.aload 6, 2) := by decide +kernel
theorem dL_taken_60 : decode cL_taken 60 = .ok (.bipush 6, 2) := by decide +kernel
theorem dL_taken_62 : decode cL_taken 62 = .ok (.iload_n 0, 1) := by decide +kernel
theorem dL_taken_63 : decode cL_taken 63 = .ok (.imul, 1) := by decide +kernel
theorem dL_taken_64 : decode cL_taken 64 = .ok (.iconst 3, 1) := by decide +kernel
theorem dL_taken_65 : decode cL_taken 65 = .ok (.iadd, 1) := by decide +kernel
theorem dL_taken_66 : decode cL_taken 66 = .ok (.dup2, 1) := by decide +kernel
theorem dL_taken_67 : decode cL_taken 67 = .ok (.iaload, 1) := by decide +kernel
theorem dL_taken_68 : decode cL_taken 68 = .ok (.iconst 1, 1) := by decide +kernel
theorem dL_taken_69 : decode cL_taken 69 = .ok (.iadd, 1) := by decide +kernel
theorem dL_taken_70 : decode cL_taken 70 = .ok (.iastore, 1) := by decide +kernel
theorem dL_taken_71 : decode cL_taken 71 = .ok (.iload_n 0, 1) := by decide +kernel
theorem dL_taken_72 : decode cL_taken 72 = .ok (.aload_n 2, 1) := by decide +kernel
theorem dL_taken_73 : decode cL_taken 73 = .ok (.aload 4, 2) := by decide +kernel
theorem dL_taken_75 : decode cL_taken 75 = .ok (.aload 5, 2) := by decide +kernel
theorem dL_taken_77 : decode cL_taken 77 = .ok (.invokestatic 94, 3) := by decide +kernel
theorem dL_taken_80 : decode cL_taken 80 = .ok (.aload_n 2, 1) := by decide +kernel
theorem dL_taken_81 : decode cL_taken 81 = .ok (.bipush 7, 2) := by decide +kernel
theorem dL_taken_83 : decode cL_taken 83 = .ok (.iaload, 1) := by decide +kernel
theorem dL_taken_84 : decode cL_taken 84 = .ok (.if_icmp .lt 19, 3) := by decide +kernel
theorem dL_taken_87 : decode cL_taken 87 = .ok (.iload_n 0, 1) := by decide +kernel
theorem dL_taken_88 : decode cL_taken 88 = .ok (.aload_n 2, 1) := by decide +kernel
theorem dL_taken_89 : decode cL_taken 89 = .ok (.aload 4, 2) := by decide +kernel
theorem dL_taken_91 : decode cL_taken 91 = .ok (.aload 5, 2) := by decide +kernel
theorem dL_taken_93 : decode cL_taken 93 = .ok (.aload 6, 2) := by decide +kernel
theorem dL_taken_95 : decode cL_taken 95 = .ok (.aload 7, 2) := by decide +kernel
theorem dL_taken_97 : decode cL_taken 97 = .ok (.invokestatic 98, 3) := by decide +kernel
theorem dL_taken_100 : decode cL_taken 100 = .ok (.goto 4, 3) := by decide +kernel
theorem dL_taken_103 : decode cL_taken 103 = .ok (.iconst 0, 1) := by decide +kernel
theorem dL_taken_104 : decode cL_taken 104 = .ok (.istore 9, 2) := by decide +kernel
theorem dL_taken_106 : decode cL_taken 106 = .ok (.aload_n 2, 1) := by decide +kernel
theorem dL_taken_107 : decode cL_taken 107 = .ok (.bipush 6, 2) := by decide +kernel
theorem dL_taken_109 : decode cL_taken 109 = .ok (.aload_n 2, 1) := by decide +kernel
theorem dL_taken_110 : decode cL_taken 110 = .ok (.bipush 9, 2) := by decide +kernel
theorem dL_taken_112 : decode cL_taken 112 = .ok (.iaload, 1) := by decide +kernel
theorem dL_taken_113 : decode cL_taken 113 = .ok (.aload_n 2, 1) := by decide +kernel
theorem dL_taken_114 : decode cL_taken 114 = .ok (.bipush 6, 2) := by decide +kernel
theorem dL_taken_116 : decode cL_taken 116 = .ok (.iaload, 1) := by decide +kernel
theorem dL_taken_117 : decode cL_taken 117 = .ok (.if_icmp .le 10, 3) := by decide +kernel
theorem dL_taken_120 : decode cL_taken 120 = .ok (.aload_n 2, 1) := by decide +kernel
theorem dL_taken_121 : decode cL_taken 121 = .ok (.bipush 9, 2) := by decide +kernel
theorem dL_taken_123 : decode cL_taken 123 = .ok (.iaload, 1) := by decide +kernel
theorem dL_taken_124 : decode cL_taken 124 = .ok (.goto 7, 3) := by decide +kernel
theorem dL_taken_127 : decode cL_taken 127 = .ok (.aload_n 2, 1) := by decide +kernel
theorem dL_taken_128 : decode cL_taken 128 = .ok (.bipush 6, 2) := by decide +kernel
theorem dL_taken_130 : decode cL_taken 130 = .ok (.iaload, 1) := by decide +kernel
theorem dL_taken_131 : decode cL_taken 131 = .ok (.iastore, 1) := by decide +kernel
theorem dL_taken_132 : decode cL_taken 132 = .ok (.iload 9, 2) := by decide +kernel
theorem dL_taken_134 : decode cL_taken 134 = .ok (.ireturn, 1) := by decide +kernel
theorem dL_grown_0 : decode cL_grown 0 = .ok (.aload_n 2, 1) := by decide +kernel
theorem dL_grown_1 : decode cL_grown 1 = .ok (.iconst 1, 1) := by decide +kernel
theorem dL_grown_2 : decode cL_grown 2 = .ok (.iaload, 1) := by decide +kernel
theorem dL_grown_3 : decode cL_grown 3 = .ok (.istore 5, 2) := by decide +kernel
theorem dL_grown_5 : decode cL_grown 5 = .ok (.aload 4, 2) := by decide +kernel
theorem dL_grown_7 : decode cL_grown 7 = .ok (.iload 5, 2) := by decide +kernel
theorem dL_grown_9 : decode cL_grown 9 = .ok (.bipush 120, 2) := by decide +kernel
theorem dL_grown_11 : decode cL_grown 11 = .ok (.bipush 10, 2) := by decide +kernel
theorem dL_grown_13 : decode cL_grown 13 = .ok (.iload_n 0, 1) := by decide +kernel
theorem dL_grown_14 : decode cL_grown 14 = .ok (.imul, 1) := by decide +kernel
theorem dL_grown_15 : decode cL_grown 15 = .ok (.iadd, 1) := by decide +kernel
theorem dL_grown_16 : decode cL_grown 16 = .ok (.iload_n 1, 1) := by decide +kernel
theorem dL_grown_17 : decode cL_grown 17 = .ok (.iadd, 1) := by decide +kernel
theorem dL_grown_18 : decode cL_grown 18 = .ok (.iastore, 1) := by decide +kernel
theorem dL_grown_19 : decode cL_grown 19 = .ok (.aload_n 3, 1) := by decide +kernel
theorem dL_grown_20 : decode cL_grown 20 = .ok (.iload_n 0, 1) := by decide +kernel
theorem dL_grown_21 : decode cL_grown 21 = .ok (.iload 5, 2) := by decide +kernel
theorem dL_grown_23 : decode cL_grown 23 = .ok (.iastore, 1) := by decide +kernel
theorem dL_grown_24 : decode cL_grown 24 = .ok (.aload_n 2, 1) := by decide +kernel
theorem dL_grown_25 : decode cL_grown 25 = .ok (.iconst 1, 1) := by decide +kernel
theorem dL_grown_26 : decode cL_grown 26 = .ok (.dup2, 1) := by decide +kernel
theorem dL_grown_27 : decode cL_grown 27 = .ok (.iaload, 1) := by decide +kernel
theorem dL_grown_28 : decode cL_grown 28 = .ok (.iconst 1, 1) := by decide +kernel
theorem dL_grown_29 : decode cL_grown 29 = .ok (.iadd, 1) := by decide +kernel
theorem dL_grown_30 : decode cL_grown 30 = .ok (.iastore, 1) := by decide +kernel
theorem dL_grown_31 : decode cL_grown 31 = .ok (.iload 5, 2) := by decide +kernel
theorem dL_grown_33 : decode cL_grown 33 = .ok (.ireturn, 1) := by decide +kernel
theorem dL_late_0 : decode cL_late 0 = .ok (.iconst 0, 1) := by decide +kernel
theorem dL_late_1 : decode cL_late 1 = .ok (.istore_n 2, 1) := by decide +kernel
theorem dL_late_2 : decode cL_late 2 = .ok (.iconst 0, 1) := by decide +kernel
theorem dL_late_3 : decode cL_late 3 = .ok (.istore_n 3, 1) := by decide +kernel
theorem dL_late_4 : decode cL_late 4 = .ok (.iload_n 3, 1) := by decide +kernel
theorem dL_late_5 : decode cL_late 5 = .ok (.iconst 5, 1) := by decide +kernel
theorem dL_late_6 : decode cL_late 6 = .ok (.if_icmp .ge 45, 3) := by decide +kernel
theorem dL_late_9 : decode cL_late 9 = .ok (.iload_n 2, 1) := by decide +kernel
theorem dL_late_10 : decode cL_late 10 = .ok (.aload_n 1, 1) := by decide +kernel
theorem dL_late_11 : decode cL_late 11 = .ok (.bipush 6, 2) := by decide +kernel
theorem dL_late_13 : decode cL_late 13 = .ok (.iload_n 3, 1) := by decide +kernel
theorem dL_late_14 : decode cL_late 14 = .ok (.imul, 1) := by decide +kernel
theorem dL_late_15 : decode cL_late 15 = .ok (.iconst 1, 1) := by decide +kernel
theorem dL_late_16 : decode cL_late 16 = .ok (.iadd, 1) := by decide +kernel
theorem dL_late_17 : decode cL_late 17 = .ok (.iaload, 1) := by decide +kernel
theorem dL_late_18 : decode cL_late 18 = .ok (.iconst 1, 1) := by decide +kernel
theorem dL_late_19 : decode cL_late 19 = .ok (.if_icmp .ne 23, 3) := by decide +kernel
theorem dL_late_22 : decode cL_late 22 = .ok (.aload_n 1, 1) := by decide +kernel
theorem dL_late_23 : decode cL_late 23 = .ok (.bipush 6, 2) := by decide +kernel
theorem dL_late_25 : decode cL_late 25 = .ok (.iload_n 3, 1) := by decide +kernel
theorem dL_late_26 : decode cL_late 26 = .ok (.imul, 1) := by decide +kernel
theorem dL_late_27 : decode cL_late 27 = .ok (.iconst 2, 1) := by decide +kernel
theorem dL_late_28 : decode cL_late 28 = .ok (.iadd, 1) := by decide +kernel
theorem dL_late_29 : decode cL_late 29 = .ok (.iaload, 1) := by decide +kernel
theorem dL_late_30 : decode cL_late 30 = .ok (.aload_n 0, 1) := by decide +kernel
theorem dL_late_31 : decode cL_late 31 = .ok (.iconst 0, 1) := by decide +kernel
theorem dL_late_32 : decode cL_late 32 = .ok (.iaload, 1) := by decide +kernel
theorem dL_late_33 : decode cL_late 33 = .ok (.if_icmp .eq 9, 3) := by decide +kernel
theorem dL_late_36 : decode cL_late 36 = .ok (.iconst 1, 1) := by decide +kernel
theorem dL_late_37 : decode cL_late 37 = .ok (.iload_n 3, 1) := by decide +kernel
theorem dL_late_38 : decode cL_late 38 = .ok (.ishl, 1) := by decide +kernel
theorem dL_late_39 : decode cL_late 39 = .ok (.goto 4, 3) := by decide +kernel
theorem dL_late_42 : decode cL_late 42 = .ok (.iconst 0, 1) := by decide +kernel
theorem dL_late_43 : decode cL_late 43 = .ok (.ior, 1) := by decide +kernel
theorem dL_late_44 : decode cL_late 44 = .ok (.istore_n 2, 1) := by decide +kernel
theorem dL_late_45 : decode cL_late 45 = .ok (.iinc 3 1, 3) := by decide +kernel
theorem dL_late_48 : decode cL_late 48 = .ok (.goto (-44), 3) := by decide +kernel
theorem dL_late_51 : decode cL_late 51 = .ok (.iload_n 2, 1) := by decide +kernel
theorem dL_late_52 : decode cL_late 52 = .ok (.ireturn, 1) := by decide +kernel
theorem dL_without_0 : decode cL_without 0 = .ok (.aload_n 1, 1) := by decide +kernel
theorem dL_without_1 : decode cL_without 1 = .ok (.bipush 6, 2) := by decide +kernel
theorem dL_without_3 : decode cL_without 3 = .ok (.iload_n 0, 1) := by decide +kernel
theorem dL_without_4 : decode cL_without 4 = .ok (.imul, 1) := by decide +kernel
theorem dL_without_5 : decode cL_without 5 = .ok (.iconst 1, 1) := by decide +kernel
theorem dL_without_6 : decode cL_without 6 = .ok (.iadd, 1) := by decide +kernel
theorem dL_without_7 : decode cL_without 7 = .ok (.iconst 0, 1) := by decide +kernel
theorem dL_without_8 : decode cL_without 8 = .ok (.iastore, 1) := by decide +kernel
theorem dL_without_9 : decode cL_without 9 = .ok (.aload_n 1, 1) := by decide +kernel
theorem dL_without_10 : decode cL_without 10 = .ok (.bipush 6, 2) := by decide +kernel
theorem dL_without_12 : decode cL_without 12 = .ok (.iload_n 0, 1) := by decide +kernel
theorem dL_without_13 : decode cL_without 13 = .ok (.imul, 1) := by decide +kernel
theorem dL_without_14 : decode cL_without 14 = .ok (.iconst 2, 1) := by decide +kernel
theorem dL_without_15 : decode cL_without 15 = .ok (.iadd, 1) := by decide +kernel
theorem dL_without_16 : decode cL_without 16 = .ok (.iconst (-1), 1) := by decide +kernel
theorem dL_without_17 : decode cL_without 17 = .ok (.iastore, 1) := by decide +kernel
theorem dL_without_18 : decode cL_without 18 = .ok (.bipush 6, 2) := by decide +kernel
theorem dL_without_20 : decode cL_without 20 = .ok (.iload_n 0, 1) := by decide +kernel
theorem dL_without_21 : decode cL_without 21 = .ok (.imul, 1) := by decide +kernel
theorem dL_without_22 : decode cL_without 22 = .ok (.istore_n 3, 1) := by decide +kernel
theorem dL_without_23 : decode cL_without 23 = .ok (.iload_n 3, 1) := by decide +kernel
theorem dL_without_24 : decode cL_without 24 = .ok (.bipush 6, 2) := by decide +kernel
theorem dL_without_26 : decode cL_without 26 = .ok (.iload_n 0, 1) := by decide +kernel
theorem dL_without_27 : decode cL_without 27 = .ok (.imul, 1) := by decide +kernel
theorem dL_without_28 : decode cL_without 28 = .ok (.bipush 6, 2) := by decide +kernel
theorem dL_without_30 : decode cL_without 30 = .ok (.iadd, 1) := by decide +kernel
theorem dL_without_31 : decode cL_without 31 = .ok (.if_icmp .ge 19, 3) := by decide +kernel
theorem dL_without_34 : decode cL_without 34 = .ok (.aload_n 2, 1) := by decide +kernel
theorem dL_without_35 : decode cL_without 35 = .ok (.iload_n 3, 1) := by decide +kernel
theorem dL_without_36 : decode cL_without 36 = .ok (.iconst 0, 1) := by decide +kernel
theorem dL_without_37 : decode cL_without 37 = .ok (.iastore, 1) := by decide +kernel
theorem dL_without_38 : decode cL_without 38 = .ok (.aload_n 2, 1) := by decide +kernel
theorem dL_without_39 : decode cL_without 39 = .ok (.iload_n 3, 1) := by decide +kernel
theorem dL_without_40 : decode cL_without 40 = .ok (.iconst 1, 1) := by decide +kernel
theorem dL_without_41 : decode cL_without 41 = .ok (.iadd, 1) := by decide +kernel
theorem dL_without_42 : decode cL_without 42 = .ok (.iconst (-1), 1) := by decide +kernel
theorem dL_without_43 : decode cL_without 43 = .ok (.iastore, 1) := by decide +kernel
theorem dL_without_44 : decode cL_without 44 = .ok (.iinc 3 2, 3) := by decide +kernel
theorem dL_without_47 : decode cL_without 47 = .ok (.goto (-24), 3) := by decide +kernel
theorem dL_without_50 : decode cL_without 50 = .ok (.return_, 1) := by decide +kernel
theorem dL_goes_0 : decode cL_goes 0 = .ok (.iload_n 2, 1) := by decide +kernel
theorem dL_goes_1 : decode cL_goes 1 = .ok (.iconst 5, 1) := by decide +kernel
theorem dL_goes_2 : decode cL_goes 2 = .ok (.invokestatic 102, 3) := by decide +kernel
theorem dL_goes_5 : decode cL_goes 5 = .ok (.istore 8, 2) := by decide +kernel
theorem dL_goes_7 : decode cL_goes 7 = .ok (.iload_n 1, 1) := by decide +kernel
theorem dL_goes_8 : decode cL_goes 8 = .ok (.bipush 10, 2) := by decide +kernel
theorem dL_goes_10 : decode cL_goes 10 = .ok (.invokestatic 102, 3) := by decide +kernel
theorem dL_goes_13 : decode cL_goes 13 = .ok (.istore 9, 2) := by decide +kernel
theorem dL_goes_15 : decode cL_goes 15 = .ok (.aload 6, 2) := by decide +kernel
theorem dL_goes_17 : decode cL_goes 17 = .ok (.bipush 6, 2) := by decide +kernel
theorem dL_goes_19 : decode cL_goes 19 = .ok (.iload 8, 2) := by decide +kernel
theorem dL_goes_21 : decode cL_goes 21 = .ok (.imul, 1) := by decide +kernel
theorem dL_goes_22 : decode cL_goes 22 = .ok (.iaload, 1) := by decide +kernel
theorem dL_goes_23 : decode cL_goes 23 = .ok (.iconst 1, 1) := by decide +kernel
theorem dL_goes_24 : decode cL_goes 24 = .ok (.if_icmp .ne 7, 3) := by decide +kernel
theorem dL_goes_27 : decode cL_goes 27 = .ok (.iconst 1, 1) := by decide +kernel
theorem dL_goes_28 : decode cL_goes 28 = .ok (.goto 4, 3) := by decide +kernel
theorem dL_goes_31 : decode cL_goes 31 = .ok (.iconst 0, 1) := by decide +kernel
theorem dL_goes_32 : decode cL_goes 32 = .ok (.istore 10, 2) := by decide +kernel
theorem dL_goes_34 : decode cL_goes 34 = .ok (.aload 6, 2) := by decide +kernel
theorem dL_goes_36 : decode cL_goes 36 = .ok (.bipush 6, 2) := by decide +kernel
theorem dL_goes_38 : decode cL_goes 38 = .ok (.iload 8, 2) := by decide +kernel
theorem dL_goes_40 : decode cL_goes 40 = .ok (.imul, 1) := by decide +kernel
theorem dL_goes_41 : decode cL_goes 41 = .ok (.iconst 1, 1) := by decide +kernel
theorem dL_goes_42 : decode cL_goes 42 = .ok (.iadd, 1) := by decide +kernel
theorem dL_goes_43 : decode cL_goes 43 = .ok (.iaload, 1) := by decide +kernel
theorem dL_goes_44 : decode cL_goes 44 = .ok (.iconst 1, 1) := by decide +kernel
theorem dL_goes_45 : decode cL_goes 45 = .ok (.if_icmp .ne 7, 3) := by decide +kernel
theorem dL_goes_48 : decode cL_goes 48 = .ok (.iconst 1, 1) := by decide +kernel
theorem dL_goes_49 : decode cL_goes 49 = .ok (.goto 4, 3) := by decide +kernel
theorem dL_goes_52 : decode cL_goes 52 = .ok (.iconst 0, 1) := by decide +kernel
theorem dL_goes_53 : decode cL_goes 53 = .ok (.istore 11, 2) := by decide +kernel
theorem dL_goes_55 : decode cL_goes 55 = .ok (.iload 9, 2) := by decide +kernel
theorem dL_goes_57 : decode cL_goes 57 = .ok (.iconst 2, 1) := by decide +kernel
theorem dL_goes_58 : decode cL_goes 58 = .ok (.if_icmp .ge 75, 3) := by decide +kernel
theorem dL_goes_61 : decode cL_goes 61 = .ok (.iload 10, 2) := by decide +kernel
theorem dL_goes_63 : decode cL_goes 63 = .ok (.ifCond .eq 32, 3) := by decide +kernel
theorem dL_goes_66 : decode cL_goes 66 = .ok (.iload 11, 2) := by decide +kernel
theorem dL_goes_68 : decode cL_goes 68 = .ok (.ifCond .ne 27, 3) := by decide +kernel
theorem dL_goes_71 : decode cL_goes 71 = .ok (.aload 6, 2) := by decide +kernel
theorem dL_goes_73 : decode cL_goes 73 = .ok (.bipush 6, 2) := by decide +kernel
theorem dL_goes_75 : decode cL_goes 75 = .ok (.iload 8, 2) := by decide +kernel
theorem dL_goes_77 : decode cL_goes 77 = .ok (.imul, 1) := by decide +kernel
theorem dL_goes_78 : decode cL_goes 78 = .ok (.iconst 1, 1) := by decide +kernel
theorem dL_goes_79 : decode cL_goes 79 = .ok (.iadd, 1) := by decide +kernel
theorem dL_goes_80 : decode cL_goes 80 = .ok (.iconst 1, 1) := by decide +kernel
theorem dL_goes_81 : decode cL_goes 81 = .ok (.iastore, 1) := by decide +kernel
theorem dL_goes_82 : decode cL_goes 82 = .ok (.aload 6, 2) := by decide +kernel
theorem dL_goes_84 : decode cL_goes 84 = .ok (.bipush 6, 2) := by decide +kernel
theorem dL_goes_86 : decode cL_goes 86 = .ok (.iload 8, 2) := by decide +kernel
theorem dL_goes_88 : decode cL_goes 88 = .ok (.imul, 1) := by decide +kernel
theorem dL_goes_89 : decode cL_goes 89 = .ok (.iconst 2, 1) := by decide +kernel
theorem dL_goes_90 : decode cL_goes 90 = .ok (.iadd, 1) := by decide +kernel
theorem dL_goes_91 : decode cL_goes 91 = .ok (.aload_n 3, 1) := by decide +kernel
theorem dL_goes_92 : decode cL_goes 92 = .ok (.iconst 0, 1) := by decide +kernel
theorem dL_goes_93 : decode cL_goes 93 = .ok (.iaload, 1) := by decide +kernel
theorem dL_goes_94 : decode cL_goes 94 = .ok (.iastore, 1) := by decide +kernel
theorem dL_goes_95 : decode cL_goes 95 = .ok (.aload_n 0, 1) := by decide +kernel
theorem dL_goes_96 : decode cL_goes 96 = .ok (.iload 8, 2) := by decide +kernel
theorem dL_goes_98 : decode cL_goes 98 = .ok (.invokestatic 105, 3) := by decide +kernel
theorem dL_goes_101 : decode cL_goes 101 = .ok (.iload 10, 2) := by decide +kernel
theorem dL_goes_103 : decode cL_goes 103 = .ok (.ifCond .ne 8, 3) := by decide +kernel
theorem dL_goes_106 : decode cL_goes 106 = .ok (.bipush (-31), 2) := by decide +kernel
theorem dL_goes_108 : decode cL_goes 108 = .ok (.goto 16, 3) := by decide +kernel
theorem dL_goes_111 : decode cL_goes 111 = .ok (.iload 11, 2) := by decide +kernel
theorem dL_goes_113 : decode cL_goes 113 = .ok (.ifCond .eq 8, 3) := by decide +kernel
theorem dL_goes_116 : decode cL_goes 116 = .ok (.bipush (-33), 2) := by decide +kernel
theorem dL_goes_118 : decode cL_goes 118 = .ok (.goto 6, 3) := by decide +kernel
theorem dL_goes_121 : decode cL_goes 121 = .ok (.aload_n 3, 1) := by decide +kernel
theorem dL_goes_122 : decode cL_goes 122 = .ok (.iconst 0, 1) := by decide +kernel
theorem dL_goes_123 : decode cL_goes 123 = .ok (.iaload, 1) := by decide +kernel
theorem dL_goes_124 : decode cL_goes 124 = .ok (.if_icmp .ne 7, 3) := by decide +kernel
theorem dL_goes_127 : decode cL_goes 127 = .ok (.iconst 1, 1) := by decide +kernel
theorem dL_goes_128 : decode cL_goes 128 = .ok (.goto 4, 3) := by decide +kernel
theorem dL_goes_131 : decode cL_goes 131 = .ok (.iconst 0, 1) := by decide +kernel
theorem dL_goes_132 : decode cL_goes 132 = .ok (.ireturn, 1) := by decide +kernel
theorem dL_goes_133 : decode cL_goes 133 = .ok (.iload 9, 2) := by decide +kernel
theorem dL_goes_135 : decode cL_goes 135 = .ok (.iconst 4, 1) := by decide +kernel
theorem dL_goes_136 : decode cL_goes 136 = .ok (.if_icmp .ge 99, 3) := by decide +kernel
theorem dL_goes_139 : decode cL_goes 139 = .ok (.iconst 0, 1) := by decide +kernel
theorem dL_goes_140 : decode cL_goes 140 = .ok (.istore 12, 2) := by decide +kernel
theorem dL_goes_142 : decode cL_goes 142 = .ok (.iconst 0, 1) := by decide +kernel
theorem dL_goes_143 : decode cL_goes 143 = .ok (.istore 13, 2) := by decide +kernel
theorem dL_goes_145 : decode cL_goes 145 = .ok (.iload 13, 2) := by decide +kernel
theorem dL_goes_147 : decode cL_goes 147 = .ok (.iconst 3, 1) := by decide +kernel
theorem dL_goes_148 : decode cL_goes 148 = .ok (.if_icmp .ge 36, 3) := by decide +kernel
theorem dL_goes_151 : decode cL_goes 151 = .ok (.iload 12, 2) := by decide +kernel
theorem dL_goes_153 : decode cL_goes 153 = .ok (.aload 7, 2) := by decide +kernel
theorem dL_goes_155 : decode cL_goes 155 = .ok (.bipush 6, 2) := by decide +kernel
theorem dL_goes_157 : decode cL_goes 157 = .ok (.iload 8, 2) := by decide +kernel
theorem dL_goes_159 : decode cL_goes 159 = .ok (.imul, 1) := by decide +kernel
theorem dL_goes_160 : decode cL_goes 160 = .ok (.iconst 2, 1) := by decide +kernel
theorem dL_goes_161 : decode cL_goes 161 = .ok (.iload 13, 2) := by decide +kernel
theorem dL_goes_163 : decode cL_goes 163 = .ok (.imul, 1) := by decide +kernel
theorem dL_goes_164 : decode cL_goes 164 = .ok (.iadd, 1) := by decide +kernel
theorem dL_goes_165 : decode cL_goes 165 = .ok (.iaload, 1) := by decide +kernel
theorem dL_goes_166 : decode cL_goes 166 = .ok (.iconst 2, 1) := by decide +kernel
theorem dL_goes_167 : decode cL_goes 167 = .ok (.if_icmp .ne 7, 3) := by decide +kernel
theorem dL_goes_170 : decode cL_goes 170 = .ok (.iconst 1, 1) := by decide +kernel
theorem dL_goes_171 : decode cL_goes 171 = .ok (.goto 4, 3) := by decide +kernel
theorem dL_goes_174 : decode cL_goes 174 = .ok (.iconst 0, 1) := by decide +kernel
theorem dL_goes_175 : decode cL_goes 175 = .ok (.iadd, 1) := by decide +kernel
theorem dL_goes_176 : decode cL_goes 176 = .ok (.istore 12, 2) := by decide +kernel
theorem dL_goes_178 : decode cL_goes 178 = .ok (.iinc 13 1, 3) := by decide +kernel
theorem dL_goes_181 : decode cL_goes 181 = .ok (.goto (-36), 3) := by decide +kernel
theorem dL_goes_184 : decode cL_goes 184 = .ok (.iload 11, 2) := by decide +kernel
theorem dL_goes_186 : decode cL_goes 186 = .ok (.ifCond .eq 12, 3) := by decide +kernel
theorem dL_goes_189 : decode cL_goes 189 = .ok (.iload 8, 2) := by decide +kernel
theorem dL_goes_191 : decode cL_goes 191 = .ok (.aload 6, 2) := by decide +kernel
theorem dL_goes_193 : decode cL_goes 193 = .ok (.aload 7, 2) := by decide +kernel
theorem dL_goes_195 : decode cL_goes 195 = .ok (.invokestatic 108, 3) := by decide +kernel
theorem dL_goes_198 : decode cL_goes 198 = .ok (.aload_n 0, 1) := by decide +kernel
theorem dL_goes_199 : decode cL_goes 199 = .ok (.iload 8, 2) := by decide +kernel
theorem dL_goes_201 : decode cL_goes 201 = .ok (.invokestatic 112, 3) := by decide +kernel
theorem dL_goes_204 : decode cL_goes 204 = .ok (.iload 10, 2) := by decide +kernel
theorem dL_goes_206 : decode cL_goes 206 = .ok (.ifCond .ne 8, 3) := by decide +kernel
theorem dL_goes_209 : decode cL_goes 209 = .ok (.bipush (-31), 2) := by decide +kernel
theorem dL_goes_211 : decode cL_goes 211 = .ok (.goto 15, 3) := by decide +kernel
theorem dL_goes_214 : decode cL_goes 214 = .ok (.iload 11, 2) := by decide +kernel
theorem dL_goes_216 : decode cL_goes 216 = .ok (.ifCond .eq 8, 3) := by decide +kernel
theorem dL_goes_219 : decode cL_goes 219 = .ok (.iload 12, 2) := by decide +kernel
theorem dL_goes_221 : decode cL_goes 221 = .ok (.goto 5, 3) := by decide +kernel
theorem dL_goes_224 : decode cL_goes 224 = .ok (.bipush (-33), 2) := by decide +kernel
theorem dL_goes_226 : decode cL_goes 226 = .ok (.if_icmp .ne 7, 3) := by decide +kernel
theorem dL_goes_229 : decode cL_goes 229 = .ok (.iconst 1, 1) := by decide +kernel
theorem dL_goes_230 : decode cL_goes 230 = .ok (.goto 4, 3) := by decide +kernel
theorem dL_goes_233 : decode cL_goes 233 = .ok (.iconst 0, 1) := by decide +kernel
theorem dL_goes_234 : decode cL_goes 234 = .ok (.ireturn, 1) := by decide +kernel
theorem dL_goes_235 : decode cL_goes 235 = .ok (.iload 9, 2) := by decide +kernel
theorem dL_goes_237 : decode cL_goes 237 = .ok (.bipush 7, 2) := by decide +kernel
theorem dL_goes_239 : decode cL_goes 239 = .ok (.if_icmp .ge 61, 3) := by decide +kernel
theorem dL_goes_242 : decode cL_goes 242 = .ok (.aload_n 3, 1) := by decide +kernel
theorem dL_goes_243 : decode cL_goes 243 = .ok (.aload 6, 2) := by decide +kernel
theorem dL_goes_245 : decode cL_goes 245 = .ok (.invokestatic 114, 3) := by decide +kernel
theorem dL_goes_248 : decode cL_goes 248 = .ok (.ifCond .ne 7, 3) := by decide +kernel
theorem dL_goes_251 : decode cL_goes 251 = .ok (.iconst 1, 1) := by decide +kernel
theorem dL_goes_252 : decode cL_goes 252 = .ok (.goto 4, 3) := by decide +kernel
theorem dL_goes_255 : decode cL_goes 255 = .ok (.iconst 0, 1) := by decide +kernel
theorem dL_goes_256 : decode cL_goes 256 = .ok (.istore 12, 2) := by decide +kernel
theorem dL_goes_258 : decode cL_goes 258 = .ok (.aload_n 3, 1) := by decide +kernel
theorem dL_goes_259 : decode cL_goes 259 = .ok (.iconst 0, 1) := by decide +kernel
theorem dL_goes_260 : decode cL_goes 260 = .ok (.dup2, 1) := by decide +kernel
theorem dL_goes_261 : decode cL_goes 261 = .ok (.iaload, 1) := by decide +kernel
theorem dL_goes_262 : decode cL_goes 262 = .ok (.iload 12, 2) := by decide +kernel
theorem dL_goes_264 : decode cL_goes 264 = .ok (.ifCond .eq 7, 3) := by decide +kernel
theorem dL_goes_267 : decode cL_goes 267 = .ok (.iconst 1, 1) := by decide +kernel
theorem dL_goes_268 : decode cL_goes 268 = .ok (.goto 4, 3) := by decide +kernel
theorem dL_goes_271 : decode cL_goes 271 = .ok (.iconst 0, 1) := by decide +kernel
theorem dL_goes_272 : decode cL_goes 272 = .ok (.iadd, 1) := by decide +kernel
theorem dL_goes_273 : decode cL_goes 273 = .ok (.iastore, 1) := by decide +kernel
theorem dL_goes_274 : decode cL_goes 274 = .ok (.aload_n 0, 1) := by decide +kernel
theorem dL_goes_275 : decode cL_goes 275 = .ok (.invokestatic 118, 3) := by decide +kernel
theorem dL_goes_278 : decode cL_goes 278 = .ok (.iload 12, 2) := by decide +kernel
theorem dL_goes_280 : decode cL_goes 280 = .ok (.ifCond .eq 9, 3) := by decide +kernel
theorem dL_goes_283 : decode cL_goes 283 = .ok (.aload_n 3, 1) := by decide +kernel
theorem dL_goes_284 : decode cL_goes 284 = .ok (.iconst 0, 1) := by decide +kernel
theorem dL_goes_285 : decode cL_goes 285 = .ok (.iaload, 1) := by decide +kernel
theorem dL_goes_286 : decode cL_goes 286 = .ok (.goto 5, 3) := by decide +kernel
theorem dL_goes_289 : decode cL_goes 289 = .ok (.bipush (-33), 2) := by decide +kernel
theorem dL_goes_291 : decode cL_goes 291 = .ok (.if_icmp .ne 7, 3) := by decide +kernel
theorem dL_goes_294 : decode cL_goes 294 = .ok (.iconst 1, 1) := by decide +kernel
theorem dL_goes_295 : decode cL_goes 295 = .ok (.goto 4, 3) := by decide +kernel
theorem dL_goes_298 : decode cL_goes 298 = .ok (.iconst 0, 1) := by decide +kernel
theorem dL_goes_299 : decode cL_goes 299 = .ok (.ireturn, 1) := by decide +kernel
theorem dL_goes_300 : decode cL_goes 300 = .ok (.iload 9, 2) := by decide +kernel
theorem dL_goes_302 : decode cL_goes 302 = .ok (.bipush 7, 2) := by decide +kernel
theorem dL_goes_304 : decode cL_goes 304 = .ok (.if_icmp .ne 112, 3) := by decide +kernel
theorem dL_goes_307 : decode cL_goes 307 = .ok (.iconst 0, 1) := by decide +kernel
theorem dL_goes_308 : decode cL_goes 308 = .ok (.istore 12, 2) := by decide +kernel
theorem dL_goes_310 : decode cL_goes 310 = .ok (.iload 12, 2) := by decide +kernel
theorem dL_goes_312 : decode cL_goes 312 = .ok (.iconst 5, 1) := by decide +kernel
theorem dL_goes_313 : decode cL_goes 313 = .ok (.if_icmp .ge 21, 3) := by decide +kernel
theorem dL_goes_316 : decode cL_goes 316 = .ok (.aload 6, 2) := by decide +kernel
theorem dL_goes_318 : decode cL_goes 318 = .ok (.bipush 6, 2) := by decide +kernel
theorem dL_goes_320 : decode cL_goes 320 = .ok (.iload 12, 2) := by decide +kernel
theorem dL_goes_322 : decode cL_goes 322 = .ok (.imul, 1) := by decide +kernel
theorem dL_goes_323 : decode cL_goes 323 = .ok (.iaload, 1) := by decide +kernel
theorem dL_goes_324 : decode cL_goes 324 = .ok (.iconst 1, 1) := by decide +kernel
theorem dL_goes_325 : decode cL_goes 325 = .ok (.if_icmp .ne 9, 3) := by decide +kernel
theorem dL_goes_328 : decode cL_goes 328 = .ok (.iinc 12 1, 3) := by decide +kernel
theorem dL_goes_331 : decode cL_goes 331 = .ok (.goto (-21), 3) := by decide +kernel
theorem dL_goes_334 : decode cL_goes 334 = .ok (.iload 12, 2) := by decide +kernel
theorem dL_goes_336 : decode cL_goes 336 = .ok (.iconst 5, 1) := by decide +kernel
theorem dL_goes_337 : decode cL_goes 337 = .ok (.if_icmp .ne 18, 3) := by decide +kernel
theorem dL_goes_340 : decode cL_goes 340 = .ok (.aload_n 0, 1) := by decide +kernel
theorem dL_goes_341 : decode cL_goes 341 = .ok (.invokestatic 121, 3) := by decide +kernel
theorem dL_goes_344 : decode cL_goes 344 = .ok (.bipush (-33), 2) := by decide +kernel
theorem dL_goes_346 : decode cL_goes 346 = .ok (.if_icmp .ne 7, 3) := by decide +kernel
theorem dL_goes_349 : decode cL_goes 349 = .ok (.iconst 1, 1) := by decide +kernel
theorem dL_goes_350 : decode cL_goes 350 = .ok (.goto 4, 3) := by decide +kernel
theorem dL_goes_353 : decode cL_goes 353 = .ok (.iconst 0, 1) := by decide +kernel
theorem dL_goes_354 : decode cL_goes 354 = .ok (.ireturn, 1) := by decide +kernel
theorem dL_goes_355 : decode cL_goes 355 = .ok (.iconst 0, 1) := by decide +kernel
theorem dL_goes_356 : decode cL_goes 356 = .ok (.istore 13, 2) := by decide +kernel
theorem dL_goes_358 : decode cL_goes 358 = .ok (.iload 13, 2) := by decide +kernel
theorem dL_goes_360 : decode cL_goes 360 = .ok (.bipush 6, 2) := by decide +kernel
theorem dL_goes_362 : decode cL_goes 362 = .ok (.if_icmp .ge 21, 3) := by decide +kernel
theorem dL_goes_365 : decode cL_goes 365 = .ok (.aload 6, 2) := by decide +kernel
theorem dL_goes_367 : decode cL_goes 367 = .ok (.bipush 6, 2) := by decide +kernel
theorem dL_goes_369 : decode cL_goes 369 = .ok (.iload 12, 2) := by decide +kernel
theorem dL_goes_371 : decode cL_goes 371 = .ok (.imul, 1) := by decide +kernel
theorem dL_goes_372 : decode cL_goes 372 = .ok (.iload 13, 2) := by decide +kernel
theorem dL_goes_374 : decode cL_goes 374 = .ok (.iadd, 1) := by decide +kernel
theorem dL_goes_375 : decode cL_goes 375 = .ok (.iconst 0, 1) := by decide +kernel
theorem dL_goes_376 : decode cL_goes 376 = .ok (.iastore, 1) := by decide +kernel
theorem dL_goes_377 : decode cL_goes 377 = .ok (.iinc 13 1, 3) := by decide +kernel
theorem dL_goes_380 : decode cL_goes 380 = .ok (.goto (-22), 3) := by decide +kernel
theorem dL_goes_383 : decode cL_goes 383 = .ok (.iload 12, 2) := by decide +kernel
theorem dL_goes_385 : decode cL_goes 385 = .ok (.aload 6, 2) := by decide +kernel
theorem dL_goes_387 : decode cL_goes 387 = .ok (.aload 7, 2) := by decide +kernel
theorem dL_goes_389 : decode cL_goes 389 = .ok (.invokestatic 108, 3) := by decide +kernel
theorem dL_goes_392 : decode cL_goes 392 = .ok (.aload 6, 2) := by decide +kernel
theorem dL_goes_394 : decode cL_goes 394 = .ok (.bipush 6, 2) := by decide +kernel
theorem dL_goes_396 : decode cL_goes 396 = .ok (.iload 12, 2) := by decide +kernel
theorem dL_goes_398 : decode cL_goes 398 = .ok (.imul, 1) := by decide +kernel
theorem dL_goes_399 : decode cL_goes 399 = .ok (.iconst 1, 1) := by decide +kernel
theorem dL_goes_400 : decode cL_goes 400 = .ok (.iastore, 1) := by decide +kernel
theorem dL_goes_401 : decode cL_goes 401 = .ok (.aload_n 0, 1) := by decide +kernel
theorem dL_goes_402 : decode cL_goes 402 = .ok (.invokestatic 121, 3) := by decide +kernel
theorem dL_goes_405 : decode cL_goes 405 = .ok (.iload 12, 2) := by decide +kernel
theorem dL_goes_407 : decode cL_goes 407 = .ok (.if_icmp .ne 7, 3) := by decide +kernel
theorem dL_goes_410 : decode cL_goes 410 = .ok (.iconst 1, 1) := by decide +kernel
theorem dL_goes_411 : decode cL_goes 411 = .ok (.goto 4, 3) := by decide +kernel
theorem dL_goes_414 : decode cL_goes 414 = .ok (.iconst 0, 1) := by decide +kernel
theorem dL_goes_415 : decode cL_goes 415 = .ok (.ireturn, 1) := by decide +kernel
theorem dL_goes_416 : decode cL_goes 416 = .ok (.iload 9, 2) := by decide +kernel
theorem dL_goes_418 : decode cL_goes 418 = .ok (.bipush 8, 2) := by decide +kernel
theorem dL_goes_420 : decode cL_goes 420 = .ok (.if_icmp .ne 102, 3) := by decide +kernel
theorem dL_goes_423 : decode cL_goes 423 = .ok (.iload_n 1, 1) := by decide +kernel
theorem dL_goes_424 : decode cL_goes 424 = .ok (.iconst 5, 1) := by decide +kernel
theorem dL_goes_425 : decode cL_goes 425 = .ok (.ishr, 1) := by decide +kernel
theorem dL_goes_426 : decode cL_goes 426 = .ok (.iconst 2, 1) := by decide +kernel
theorem dL_goes_427 : decode cL_goes 427 = .ok (.invokestatic 102, 3) := by decide +kernel
theorem dL_goes_430 : decode cL_goes 430 = .ok (.istore 12, 2) := by decide +kernel
theorem dL_goes_432 : decode cL_goes 432 = .ok (.aload_n 3, 1) := by decide +kernel
theorem dL_goes_433 : decode cL_goes 433 = .ok (.bipush 7, 2) := by decide +kernel
theorem dL_goes_435 : decode cL_goes 435 = .ok (.iload 12, 2) := by decide +kernel
theorem dL_goes_437 : decode cL_goes 437 = .ok (.iadd, 1) := by decide +kernel
theorem dL_goes_438 : decode cL_goes 438 = .ok (.iaload, 1) := by decide +kernel
theorem dL_goes_439 : decode cL_goes 439 = .ok (.istore 13, 2) := by decide +kernel
theorem dL_goes_441 : decode cL_goes 441 = .ok (.aload_n 3, 1) := by decide +kernel
theorem dL_goes_442 : decode cL_goes 442 = .ok (.bipush 7, 2) := by decide +kernel
theorem dL_goes_444 : decode cL_goes 444 = .ok (.iload 12, 2) := by decide +kernel
theorem dL_goes_446 : decode cL_goes 446 = .ok (.iadd, 1) := by decide +kernel
theorem dL_goes_447 : decode cL_goes 447 = .ok (.iload 12, 2) := by decide +kernel
theorem dL_goes_449 : decode cL_goes 449 = .ok (.ifCond .ne 17, 3) := by decide +kernel
theorem dL_goes_452 : decode cL_goes 452 = .ok (.iconst 1, 1) := by decide +kernel
theorem dL_goes_453 : decode cL_goes 453 = .ok (.iload_n 1, 1) := by decide +kernel
theorem dL_goes_454 : decode cL_goes 454 = .ok (.bipush 6, 2) := by decide +kernel
theorem dL_goes_456 : decode cL_goes 456 = .ok (.ishr, 1) := by decide +kernel
theorem dL_goes_457 : decode cL_goes 457 = .ok (.bipush 6, 2) := by decide +kernel
theorem dL_goes_459 : decode cL_goes 459 = .ok (.invokestatic 102, 3) := by decide +kernel
theorem dL_goes_462 : decode cL_goes 462 = .ok (.iadd, 1) := by decide +kernel
theorem dL_goes_463 : decode cL_goes 463 = .ok (.goto 11, 3) := by decide +kernel
theorem dL_goes_466 : decode cL_goes 466 = .ok (.iload_n 1, 1) := by decide +kernel
theorem dL_goes_467 : decode cL_goes 467 = .ok (.bipush 6, 2) := by decide +kernel
theorem dL_goes_469 : decode cL_goes 469 = .ok (.ishr, 1) := by decide +kernel
theorem dL_goes_470 : decode cL_goes 470 = .ok (.iconst 2, 1) := by decide +kernel
theorem dL_goes_471 : decode cL_goes 471 = .ok (.invokestatic 102, 3) := by decide +kernel
theorem dL_goes_474 : decode cL_goes 474 = .ok (.iastore, 1) := by decide +kernel
theorem dL_goes_475 : decode cL_goes 475 = .ok (.aload_n 0, 1) := by decide +kernel
theorem dL_goes_476 : decode cL_goes 476 = .ok (.iload 12, 2) := by decide +kernel
theorem dL_goes_478 : decode cL_goes 478 = .ok (.aload_n 3, 1) := by decide +kernel
theorem dL_goes_479 : decode cL_goes 479 = .ok (.bipush 7, 2) := by decide +kernel
theorem dL_goes_481 : decode cL_goes 481 = .ok (.iload 12, 2) := by decide +kernel
theorem dL_goes_483 : decode cL_goes 483 = .ok (.iadd, 1) := by decide +kernel
theorem dL_goes_484 : decode cL_goes 484 = .ok (.iaload, 1) := by decide +kernel
theorem dL_goes_485 : decode cL_goes 485 = .ok (.invokestatic 123, 3) := by decide +kernel
theorem dL_goes_488 : decode cL_goes 488 = .ok (.iload 13, 2) := by decide +kernel
theorem dL_goes_490 : decode cL_goes 490 = .ok (.if_icmp .ne 30, 3) := by decide +kernel
theorem dL_goes_493 : decode cL_goes 493 = .ok (.aload_n 0, 1) := by decide +kernel
theorem dL_goes_494 : decode cL_goes 494 = .ok (.iconst 0, 1) := by decide +kernel
theorem dL_goes_495 : decode cL_goes 495 = .ok (.bipush 21, 2) := by decide +kernel
theorem dL_goes_497 : decode cL_goes 497 = .ok (.invokestatic 123, 3) := by decide +kernel
theorem dL_goes_500 : decode cL_goes 500 = .ok (.bipush (-32), 2) := by decide +kernel
theorem dL_goes_502 : decode cL_goes 502 = .ok (.if_icmp .ne 18, 3) := by decide +kernel
theorem dL_goes_505 : decode cL_goes 505 = .ok (.aload_n 0, 1) := by decide +kernel
theorem dL_goes_506 : decode cL_goes 506 = .ok (.iconst 2, 1) := by decide +kernel
theorem dL_goes_507 : decode cL_goes 507 = .ok (.iconst 0, 1) := by decide +kernel
theorem dL_goes_508 : decode cL_goes 508 = .ok (.invokestatic 123, 3) := by decide +kernel
theorem dL_goes_511 : decode cL_goes 511 = .ok (.bipush (-31), 2) := by decide +kernel
theorem dL_goes_513 : decode cL_goes 513 = .ok (.if_icmp .ne 7, 3) := by decide +kernel
theorem dL_goes_516 : decode cL_goes 516 = .ok (.iconst 1, 1) := by decide +kernel
theorem dL_goes_517 : decode cL_goes 517 = .ok (.goto 4, 3) := by decide +kernel
theorem dL_goes_520 : decode cL_goes 520 = .ok (.iconst 0, 1) := by decide +kernel
theorem dL_goes_521 : decode cL_goes 521 = .ok (.ireturn, 1) := by decide +kernel
theorem dL_goes_522 : decode cL_goes 522 = .ok (.iload 10, 2) := by decide +kernel
theorem dL_goes_524 : decode cL_goes 524 = .ok (.ifCond .eq 12, 3) := by decide +kernel
theorem dL_goes_527 : decode cL_goes 527 = .ok (.aload 6, 2) := by decide +kernel
theorem dL_goes_529 : decode cL_goes 529 = .ok (.invokestatic 90, 3) := by decide +kernel
theorem dL_goes_532 : decode cL_goes 532 = .ok (.iconst 1, 1) := by decide +kernel
theorem dL_goes_533 : decode cL_goes 533 = .ok (.if_icmp .ne 30, 3) := by decide +kernel
theorem dL_goes_536 : decode cL_goes 536 = .ok (.aload_n 0, 1) := by decide +kernel
theorem dL_goes_537 : decode cL_goes 537 = .ok (.iload 8, 2) := by decide +kernel
theorem dL_goes_539 : decode cL_goes 539 = .ok (.invokestatic 126, 3) := by decide +kernel
theorem dL_goes_542 : decode cL_goes 542 = .ok (.iload 10, 2) := by decide +kernel
theorem dL_goes_544 : decode cL_goes 544 = .ok (.ifCond .eq 8, 3) := by decide +kernel
theorem dL_goes_547 : decode cL_goes 547 = .ok (.bipush (-33), 2) := by decide +kernel
theorem dL_goes_549 : decode cL_goes 549 = .ok (.goto 5, 3) := by decide +kernel
theorem dL_goes_552 : decode cL_goes 552 = .ok (.bipush (-31), 2) := by decide +kernel
theorem dL_goes_554 : decode cL_goes 554 = .ok (.if_icmp .ne 7, 3) := by decide +kernel
theorem dL_goes_557 : decode cL_goes 557 = .ok (.iconst 1, 1) := by decide +kernel
theorem dL_goes_558 : decode cL_goes 558 = .ok (.goto 4, 3) := by decide +kernel
theorem dL_goes_561 : decode cL_goes 561 = .ok (.iconst 0, 1) := by decide +kernel
theorem dL_goes_562 : decode cL_goes 562 = .ok (.ireturn, 1) := by decide +kernel
theorem dL_goes_563 : decode cL_goes 563 = .ok (.iload 8, 2) := by decide +kernel
theorem dL_goes_565 : decode cL_goes 565 = .ok (.aload 6, 2) := by decide +kernel
theorem dL_goes_567 : decode cL_goes 567 = .ok (.aload 7, 2) := by decide +kernel
theorem dL_goes_569 : decode cL_goes 569 = .ok (.invokestatic 108, 3) := by decide +kernel
theorem dL_goes_572 : decode cL_goes 572 = .ok (.aload 6, 2) := by decide +kernel
theorem dL_goes_574 : decode cL_goes 574 = .ok (.bipush 6, 2) := by decide +kernel
theorem dL_goes_576 : decode cL_goes 576 = .ok (.iload 8, 2) := by decide +kernel
theorem dL_goes_578 : decode cL_goes 578 = .ok (.imul, 1) := by decide +kernel
theorem dL_goes_579 : decode cL_goes 579 = .ok (.iconst 0, 1) := by decide +kernel
theorem dL_goes_580 : decode cL_goes 580 = .ok (.iastore, 1) := by decide +kernel
theorem dL_goes_581 : decode cL_goes 581 = .ok (.iconst 0, 1) := by decide +kernel
theorem dL_goes_582 : decode cL_goes 582 = .ok (.istore 12, 2) := by decide +kernel
theorem dL_goes_584 : decode cL_goes 584 = .ok (.aload 6, 2) := by decide +kernel
theorem dL_goes_586 : decode cL_goes 586 = .ok (.bipush 6, 2) := by decide +kernel
theorem dL_goes_588 : decode cL_goes 588 = .ok (.iload 12, 2) := by decide +kernel
theorem dL_goes_590 : decode cL_goes 590 = .ok (.imul, 1) := by decide +kernel
theorem dL_goes_591 : decode cL_goes 591 = .ok (.iaload, 1) := by decide +kernel
theorem dL_goes_592 : decode cL_goes 592 = .ok (.ifCond .ne 9, 3) := by decide +kernel
theorem dL_goes_595 : decode cL_goes 595 = .ok (.iinc 12 1, 3) := by decide +kernel
theorem dL_goes_598 : decode cL_goes 598 = .ok (.goto (-14), 3) := by decide +kernel
theorem dL_goes_601 : decode cL_goes 601 = .ok (.bipush 40, 2) := by decide +kernel
theorem dL_goes_603 : decode cL_goes 603 = .ok (.newarray .int, 2) := by decide +kernel
theorem dL_goes_605 : decode cL_goes 605 = .ok (.astore 13, 2) := by decide +kernel
theorem dL_goes_607 : decode cL_goes 607 = .ok (.iconst 0, 1) := by decide +kernel
theorem dL_goes_608 : decode cL_goes 608 = .ok (.istore 14, 2) := by decide +kernel
theorem dL_goes_610 : decode cL_goes 610 = .ok (.iconst 0, 1) := by decide +kernel
theorem dL_goes_611 : decode cL_goes 611 = .ok (.istore 15, 2) := by decide +kernel
theorem dL_goes_613 : decode cL_goes 613 = .ok (.iload 15, 2) := by decide +kernel
theorem dL_goes_615 : decode cL_goes 615 = .ok (.iconst 2, 1) := by decide +kernel
theorem dL_goes_616 : decode cL_goes 616 = .ok (.if_icmp .ge 74, 3) := by decide +kernel
theorem dL_goes_619 : decode cL_goes 619 = .ok (.iconst 0, 1) := by decide +kernel
theorem dL_goes_620 : decode cL_goes 620 = .ok (.istore 16, 2) := by decide +kernel
theorem dL_goes_622 : decode cL_goes 622 = .ok (.iload 16, 2) := by decide +kernel
theorem dL_goes_624 : decode cL_goes 624 = .ok (.aload_n 3, 1) := by decide +kernel
theorem dL_goes_625 : decode cL_goes 625 = .ok (.bipush 9, 2) := by decide +kernel
theorem dL_goes_627 : decode cL_goes 627 = .ok (.iaload, 1) := by decide +kernel
theorem dL_goes_628 : decode cL_goes 628 = .ok (.if_icmp .ge 56, 3) := by decide +kernel
theorem dL_goes_631 : decode cL_goes 631 = .ok (.aload 5, 2) := by decide +kernel
theorem dL_goes_633 : decode cL_goes 633 = .ok (.iload 16, 2) := by decide +kernel
theorem dL_goes_635 : decode cL_goes 635 = .ok (.iaload, 1) := by decide +kernel
theorem dL_goes_636 : decode cL_goes 636 = .ok (.aload 4, 2) := by decide +kernel
theorem dL_goes_638 : decode cL_goes 638 = .ok (.invokestatic 69, 3) := by decide +kernel
theorem dL_goes_641 : decode cL_goes 641 = .ok (.iload 8, 2) := by decide +kernel
theorem dL_goes_643 : decode cL_goes 643 = .ok (.if_icmp .ne 7, 3) := by decide +kernel
theorem dL_goes_646 : decode cL_goes 646 = .ok (.iconst 1, 1) := by decide +kernel
theorem dL_goes_647 : decode cL_goes 647 = .ok (.goto 4, 3) := by decide +kernel
theorem dL_goes_650 : decode cL_goes 650 = .ok (.iconst 0, 1) := by decide +kernel
theorem dL_goes_651 : decode cL_goes 651 = .ok (.iload 15, 2) := by decide +kernel
theorem dL_goes_653 : decode cL_goes 653 = .ok (.iconst 1, 1) := by decide +kernel
theorem dL_goes_654 : decode cL_goes 654 = .ok (.if_icmp .ne 7, 3) := by decide +kernel
theorem dL_goes_657 : decode cL_goes 657 = .ok (.iconst 1, 1) := by decide +kernel
theorem dL_goes_658 : decode cL_goes 658 = .ok (.goto 4, 3) := by decide +kernel
theorem dL_goes_661 : decode cL_goes 661 = .ok (.iconst 0, 1) := by decide +kernel
theorem dL_goes_662 : decode cL_goes 662 = .ok (.if_icmp .ne 16, 3) := by decide +kernel
theorem dL_goes_665 : decode cL_goes 665 = .ok (.aload 13, 2) := by decide +kernel
theorem dL_goes_667 : decode cL_goes 667 = .ok (.iload 14, 2) := by decide +kernel
theorem dL_goes_669 : decode cL_goes 669 = .ok (.aload 5, 2) := by decide +kernel
theorem dL_goes_671 : decode cL_goes 671 = .ok (.iload 16, 2) := by decide +kernel
theorem dL_goes_673 : decode cL_goes 673 = .ok (.iaload, 1) := by decide +kernel
theorem dL_goes_674 : decode cL_goes 674 = .ok (.iastore, 1) := by decide +kernel
theorem dL_goes_675 : decode cL_goes 675 = .ok (.iinc 14 1, 3) := by decide +kernel
theorem dL_goes_678 : decode cL_goes 678 = .ok (.iinc 16 1, 3) := by decide +kernel
theorem dL_goes_681 : decode cL_goes 681 = .ok (.goto (-59), 3) := by decide +kernel
theorem dL_goes_684 : decode cL_goes 684 = .ok (.iinc 15 1, 3) := by decide +kernel
theorem dL_goes_687 : decode cL_goes 687 = .ok (.goto (-74), 3) := by decide +kernel
theorem dL_goes_690 : decode cL_goes 690 = .ok (.iload 8, 2) := by decide +kernel
theorem dL_goes_692 : decode cL_goes 692 = .ok (.aload_n 3, 1) := by decide +kernel
theorem dL_goes_693 : decode cL_goes 693 = .ok (.aload 4, 2) := by decide +kernel
theorem dL_goes_695 : decode cL_goes 695 = .ok (.aload 5, 2) := by decide +kernel
theorem dL_goes_697 : decode cL_goes 697 = .ok (.invokestatic 94, 3) := by decide +kernel
theorem dL_goes_700 : decode cL_goes 700 = .ok (.istore 15, 2) := by decide +kernel
theorem dL_goes_702 : decode cL_goes 702 = .ok (.iconst 0, 1) := by decide +kernel
theorem dL_goes_703 : decode cL_goes 703 = .ok (.istore 16, 2) := by decide +kernel
theorem dL_goes_705 : decode cL_goes 705 = .ok (.iload 16, 2) := by decide +kernel
theorem dL_goes_707 : decode cL_goes 707 = .ok (.iload 14, 2) := by decide +kernel
theorem dL_goes_709 : decode cL_goes 709 = .ok (.if_icmp .ge 46, 3) := by decide +kernel
theorem dL_goes_712 : decode cL_goes 712 = .ok (.aload 5, 2) := by decide +kernel
theorem dL_goes_714 : decode cL_goes 714 = .ok (.iload 16, 2) := by decide +kernel
theorem dL_goes_716 : decode cL_goes 716 = .ok (.aload 13, 2) := by decide +kernel
theorem dL_goes_718 : decode cL_goes 718 = .ok (.iload 16, 2) := by decide +kernel
theorem dL_goes_720 : decode cL_goes 720 = .ok (.iaload, 1) := by decide +kernel
theorem dL_goes_721 : decode cL_goes 721 = .ok (.iastore, 1) := by decide +kernel
theorem dL_goes_722 : decode cL_goes 722 = .ok (.aload 5, 2) := by decide +kernel
theorem dL_goes_724 : decode cL_goes 724 = .ok (.iload 16, 2) := by decide +kernel
theorem dL_goes_726 : decode cL_goes 726 = .ok (.iaload, 1) := by decide +kernel
theorem dL_goes_727 : decode cL_goes 727 = .ok (.aload 4, 2) := by decide +kernel
theorem dL_goes_729 : decode cL_goes 729 = .ok (.invokestatic 69, 3) := by decide +kernel
theorem dL_goes_732 : decode cL_goes 732 = .ok (.iload 8, 2) := by decide +kernel
theorem dL_goes_734 : decode cL_goes 734 = .ok (.if_icmp .ne 15, 3) := by decide +kernel
theorem dL_goes_737 : decode cL_goes 737 = .ok (.aload 5, 2) := by decide +kernel
theorem dL_goes_739 : decode cL_goes 739 = .ok (.iload 16, 2) := by decide +kernel
theorem dL_goes_741 : decode cL_goes 741 = .ok (.iaload, 1) := by decide +kernel
theorem dL_goes_742 : decode cL_goes 742 = .ok (.iload 12, 2) := by decide +kernel
theorem dL_goes_744 : decode cL_goes 744 = .ok (.aload 4, 2) := by decide +kernel
theorem dL_goes_746 : decode cL_goes 746 = .ok (.invokestatic 86, 3) := by decide +kernel
theorem dL_goes_749 : decode cL_goes 749 = .ok (.iinc 16 1, 3) := by decide +kernel
theorem dL_goes_752 : decode cL_goes 752 = .ok (.goto (-47), 3) := by decide +kernel
theorem dL_goes_755 : decode cL_goes 755 = .ok (.aload_n 0, 1) := by decide +kernel
theorem dL_goes_756 : decode cL_goes 756 = .ok (.iload 8, 2) := by decide +kernel
theorem dL_goes_758 : decode cL_goes 758 = .ok (.invokestatic 126, 3) := by decide +kernel
theorem dL_goes_761 : decode cL_goes 761 = .ok (.iload 15, 2) := by decide +kernel
theorem dL_goes_763 : decode cL_goes 763 = .ok (.if_icmp .ne 7, 3) := by decide +kernel
theorem dL_goes_766 : decode cL_goes 766 = .ok (.iconst 1, 1) := by decide +kernel
theorem dL_goes_767 : decode cL_goes 767 = .ok (.goto 4, 3) := by decide +kernel
theorem dL_goes_770 : decode cL_goes 770 = .ok (.iconst 0, 1) := by decide +kernel
theorem dL_goes_771 : decode cL_goes 771 = .ok (.ireturn, 1) := by decide +kernel
theorem dL_hooks_0 : decode cL_hooks 0 = .ok (.iload_n 2, 1) := by decide +kernel
theorem dL_hooks_1 : decode cL_hooks 1 = .ok (.iconst 5, 1) := by decide +kernel
theorem dL_hooks_2 : decode cL_hooks 2 = .ok (.invokestatic 102, 3) := by decide +kernel
theorem dL_hooks_5 : decode cL_hooks 5 = .ok (.istore 8, 2) := by decide +kernel
theorem dL_hooks_7 : decode cL_hooks 7 = .ok (.iload_n 2, 1) := by decide +kernel
theorem dL_hooks_8 : decode cL_hooks 8 = .ok (.iconst 4, 1) := by decide +kernel
theorem dL_hooks_9 : decode cL_hooks 9 = .ok (.ishr, 1) := by decide +kernel
theorem dL_hooks_10 : decode cL_hooks 10 = .ok (.iconst 4, 1) := by decide +kernel
theorem dL_hooks_11 : decode cL_hooks 11 = .ok (.invokestatic 102, 3) := by decide +kernel
theorem dL_hooks_14 : decode cL_hooks 14 = .ok (.istore 9, 2) := by decide +kernel
theorem dL_hooks_16 : decode cL_hooks 16 = .ok (.iload_n 2, 1) := by decide +kernel
theorem dL_hooks_17 : decode cL_hooks 17 = .ok (.bipush 7, 2) := by decide +kernel
theorem dL_hooks_19 : decode cL_hooks 19 = .ok (.ishr, 1) := by decide +kernel
theorem dL_hooks_20 : decode cL_hooks 20 = .ok (.iload_n 2, 1) := by decide +kernel
theorem dL_hooks_21 : decode cL_hooks 21 = .ok (.bipush 6, 2) := by decide +kernel
theorem dL_hooks_23 : decode cL_hooks 23 = .ok (.ishr, 1) := by decide +kernel
theorem dL_hooks_24 : decode cL_hooks 24 = .ok (.iconst 1, 1) := by decide +kernel
theorem dL_hooks_25 : decode cL_hooks 25 = .ok (.iand, 1) := by decide +kernel
theorem dL_hooks_26 : decode cL_hooks 26 = .ok (.ifCond .ne 7, 3) := by decide +kernel
theorem dL_hooks_29 : decode cL_hooks 29 = .ok (.iconst 4, 1) := by decide +kernel
theorem dL_hooks_30 : decode cL_hooks 30 = .ok (.goto 5, 3) := by decide +kernel
theorem dL_hooks_33 : decode cL_hooks 33 = .ok (.bipush 13, 2) := by decide +kernel
theorem dL_hooks_35 : decode cL_hooks 35 = .ok (.invokestatic 102, 3) := by decide +kernel
theorem dL_hooks_38 : decode cL_hooks 38 = .ok (.istore 10, 2) := by decide +kernel
theorem dL_hooks_40 : decode cL_hooks 40 = .ok (.iload_n 1, 1) := by decide +kernel
theorem dL_hooks_41 : decode cL_hooks 41 = .ok (.bipush 6, 2) := by decide +kernel
theorem dL_hooks_43 : decode cL_hooks 43 = .ok (.invokestatic 102, 3) := by decide +kernel
theorem dL_hooks_46 : decode cL_hooks 46 = .ok (.istore 11, 2) := by decide +kernel
theorem dL_hooks_48 : decode cL_hooks 48 = .ok (.iload 9, 2) := by decide +kernel
theorem dL_hooks_50 : decode cL_hooks 50 = .ok (.iconst 3, 1) := by decide +kernel
theorem dL_hooks_51 : decode cL_hooks 51 = .ok (.if_icmp .ge 19, 3) := by decide +kernel
theorem dL_hooks_54 : decode cL_hooks 54 = .ok (.aload 6, 2) := by decide +kernel
theorem dL_hooks_56 : decode cL_hooks 56 = .ok (.bipush 6, 2) := by decide +kernel
theorem dL_hooks_58 : decode cL_hooks 58 = .ok (.iload 8, 2) := by decide +kernel
theorem dL_hooks_60 : decode cL_hooks 60 = .ok (.imul, 1) := by decide +kernel
theorem dL_hooks_61 : decode cL_hooks 61 = .ok (.iaload, 1) := by decide +kernel
theorem dL_hooks_62 : decode cL_hooks 62 = .ok (.iconst 1, 1) := by decide +kernel
theorem dL_hooks_63 : decode cL_hooks 63 = .ok (.if_icmp .ne 7, 3) := by decide +kernel
theorem dL_hooks_66 : decode cL_hooks 66 = .ok (.iconst 1, 1) := by decide +kernel
theorem dL_hooks_67 : decode cL_hooks 67 = .ok (.goto 4, 3) := by decide +kernel
theorem dL_hooks_70 : decode cL_hooks 70 = .ok (.iconst 0, 1) := by decide +kernel
theorem dL_hooks_71 : decode cL_hooks 71 = .ok (.istore 12, 2) := by decide +kernel
theorem dL_hooks_73 : decode cL_hooks 73 = .ok (.bipush 6, 2) := by decide +kernel
theorem dL_hooks_75 : decode cL_hooks 75 = .ok (.iload 8, 2) := by decide +kernel
theorem dL_hooks_77 : decode cL_hooks 77 = .ok (.imul, 1) := by decide +kernel
theorem dL_hooks_78 : decode cL_hooks 78 = .ok (.iconst 2, 1) := by decide +kernel
theorem dL_hooks_79 : decode cL_hooks 79 = .ok (.iload 9, 2) := by decide +kernel
theorem dL_hooks_81 : decode cL_hooks 81 = .ok (.imul, 1) := by decide +kernel
theorem dL_hooks_82 : decode cL_hooks 82 = .ok (.iadd, 1) := by decide +kernel
theorem dL_hooks_83 : decode cL_hooks 83 = .ok (.istore 13, 2) := by decide +kernel
theorem dL_hooks_85 : decode cL_hooks 85 = .ok (.iload 12, 2) := by decide +kernel
theorem dL_hooks_87 : decode cL_hooks 87 = .ok (.ifCond .eq 11, 3) := by decide +kernel
theorem dL_hooks_90 : decode cL_hooks 90 = .ok (.aload 7, 2) := by decide +kernel
theorem dL_hooks_92 : decode cL_hooks 92 = .ok (.iload 13, 2) := by decide +kernel
theorem dL_hooks_94 : decode cL_hooks 94 = .ok (.iaload, 1) := by decide +kernel
theorem dL_hooks_95 : decode cL_hooks 95 = .ok (.goto 4, 3) := by decide +kernel
theorem dL_hooks_98 : decode cL_hooks 98 = .ok (.iconst 0, 1) := by decide +kernel
theorem dL_hooks_99 : decode cL_hooks 99 = .ok (.istore 14, 2) := by decide +kernel
theorem dL_hooks_101 : decode cL_hooks 101 = .ok (.iload 12, 2) := by decide +kernel
theorem dL_hooks_103 : decode cL_hooks 103 = .ok (.ifCond .eq 13, 3) := by decide +kernel
theorem dL_hooks_106 : decode cL_hooks 106 = .ok (.aload 7, 2) := by decide +kernel
theorem dL_hooks_108 : decode cL_hooks 108 = .ok (.iload 13, 2) := by decide +kernel
theorem dL_hooks_110 : decode cL_hooks 110 = .ok (.iconst 1, 1) := by decide +kernel
theorem dL_hooks_111 : decode cL_hooks 111 = .ok (.iadd, 1) := by decide +kernel
theorem dL_hooks_112 : decode cL_hooks 112 = .ok (.iaload, 1) := by decide +kernel
theorem dL_hooks_113 : decode cL_hooks 113 = .ok (.goto 4, 3) := by decide +kernel
theorem dL_hooks_116 : decode cL_hooks 116 = .ok (.iconst (-1), 1) := by decide +kernel
theorem dL_hooks_117 : decode cL_hooks 117 = .ok (.istore 15, 2) := by decide +kernel
theorem dL_hooks_119 : decode cL_hooks 119 = .ok (.iload 11, 2) := by decide +kernel
theorem dL_hooks_121 : decode cL_hooks 121 = .ok (.iconst 3, 1) := by decide +kernel
theorem dL_hooks_122 : decode cL_hooks 122 = .ok (.if_icmp .ge 123, 3) := by decide +kernel
theorem dL_hooks_125 : decode cL_hooks 125 = .ok (.iload 12, 2) := by decide +kernel
theorem dL_hooks_127 : decode cL_hooks 127 = .ok (.ifCond .eq 41, 3) := by decide +kernel
theorem dL_hooks_130 : decode cL_hooks 130 = .ok (.iload 10, 2) := by decide +kernel
theorem dL_hooks_132 : decode cL_hooks 132 = .ok (.bipush 12, 2) := by decide +kernel
theorem dL_hooks_134 : decode cL_hooks 134 = .ok (.if_icmp .ge 34, 3) := by decide +kernel
theorem dL_hooks_137 : decode cL_hooks 137 = .ok (.aload 6, 2) := by decide +kernel
theorem dL_hooks_139 : decode cL_hooks 139 = .ok (.bipush 6, 2) := by decide +kernel
theorem dL_hooks_141 : decode cL_hooks 141 = .ok (.iload 8, 2) := by decide +kernel
theorem dL_hooks_143 : decode cL_hooks 143 = .ok (.imul, 1) := by decide +kernel
theorem dL_hooks_144 : decode cL_hooks 144 = .ok (.iconst 1, 1) := by decide +kernel
theorem dL_hooks_145 : decode cL_hooks 145 = .ok (.iadd, 1) := by decide +kernel
theorem dL_hooks_146 : decode cL_hooks 146 = .ok (.iaload, 1) := by decide +kernel
theorem dL_hooks_147 : decode cL_hooks 147 = .ok (.iconst 1, 1) := by decide +kernel
theorem dL_hooks_148 : decode cL_hooks 148 = .ok (.if_icmp .ne 20, 3) := by decide +kernel
theorem dL_hooks_151 : decode cL_hooks 151 = .ok (.iload 14, 2) := by decide +kernel
theorem dL_hooks_153 : decode cL_hooks 153 = .ok (.ifCond .ne 15, 3) := by decide +kernel
theorem dL_hooks_156 : decode cL_hooks 156 = .ok (.aload 4, 2) := by decide +kernel
theorem dL_hooks_158 : decode cL_hooks 158 = .ok (.iload 10, 2) := by decide +kernel
theorem dL_hooks_160 : decode cL_hooks 160 = .ok (.iaload, 1) := by decide +kernel
theorem dL_hooks_161 : decode cL_hooks 161 = .ok (.ifCond .lt 7, 3) := by decide +kernel
theorem dL_hooks_164 : decode cL_hooks 164 = .ok (.iconst 1, 1) := by decide +kernel
theorem dL_hooks_165 : decode cL_hooks 165 = .ok (.goto 4, 3) := by decide +kernel
theorem dL_hooks_168 : decode cL_hooks 168 = .ok (.iconst 0, 1) := by decide +kernel
theorem dL_hooks_169 : decode cL_hooks 169 = .ok (.istore 16, 2) := by decide +kernel
theorem dL_hooks_171 : decode cL_hooks 171 = .ok (.iload 16, 2) := by decide +kernel
theorem dL_hooks_173 : decode cL_hooks 173 = .ok (.ifCond .eq 21, 3) := by decide +kernel
theorem dL_hooks_176 : decode cL_hooks 176 = .ok (.aload 7, 2) := by decide +kernel
theorem dL_hooks_178 : decode cL_hooks 178 = .ok (.iload 13, 2) := by decide +kernel
theorem dL_hooks_180 : decode cL_hooks 180 = .ok (.iconst 1, 1) := by decide +kernel
theorem dL_hooks_181 : decode cL_hooks 181 = .ok (.iastore, 1) := by decide +kernel
theorem dL_hooks_182 : decode cL_hooks 182 = .ok (.aload 7, 2) := by decide +kernel
theorem dL_hooks_184 : decode cL_hooks 184 = .ok (.iload 13, 2) := by decide +kernel
theorem dL_hooks_186 : decode cL_hooks 186 = .ok (.iconst 1, 1) := by decide +kernel
theorem dL_hooks_187 : decode cL_hooks 187 = .ok (.iadd, 1) := by decide +kernel
theorem dL_hooks_188 : decode cL_hooks 188 = .ok (.aload 4, 2) := by decide +kernel
theorem dL_hooks_190 : decode cL_hooks 190 = .ok (.iload 10, 2) := by decide +kernel
theorem dL_hooks_192 : decode cL_hooks 192 = .ok (.iaload, 1) := by decide +kernel
theorem dL_hooks_193 : decode cL_hooks 193 = .ok (.iastore, 1) := by decide +kernel
theorem dL_hooks_194 : decode cL_hooks 194 = .ok (.aload_n 0, 1) := by decide +kernel
theorem dL_hooks_195 : decode cL_hooks 195 = .ok (.iload 8, 2) := by decide +kernel
theorem dL_hooks_197 : decode cL_hooks 197 = .ok (.iload 9, 2) := by decide +kernel
theorem dL_hooks_199 : decode cL_hooks 199 = .ok (.iload 10, 2) := by decide +kernel
theorem dL_hooks_201 : decode cL_hooks 201 = .ok (.invokestatic 128, 3) := by decide +kernel
theorem dL_hooks_204 : decode cL_hooks 204 = .ok (.iload 12, 2) := by decide +kernel
theorem dL_hooks_206 : decode cL_hooks 206 = .ok (.ifCond .eq 10, 3) := by decide +kernel
theorem dL_hooks_209 : decode cL_hooks 209 = .ok (.iload 10, 2) := by decide +kernel
theorem dL_hooks_211 : decode cL_hooks 211 = .ok (.bipush 12, 2) := by decide +kernel
theorem dL_hooks_213 : decode cL_hooks 213 = .ok (.if_icmp .ne 8, 3) := by decide +kernel
theorem dL_hooks_216 : decode cL_hooks 216 = .ok (.bipush (-31), 2) := by decide +kernel
theorem dL_hooks_218 : decode cL_hooks 218 = .ok (.goto 18, 3) := by decide +kernel
theorem dL_hooks_221 : decode cL_hooks 221 = .ok (.iload 16, 2) := by decide +kernel
theorem dL_hooks_223 : decode cL_hooks 223 = .ok (.ifCond .eq 11, 3) := by decide +kernel
theorem dL_hooks_226 : decode cL_hooks 226 = .ok (.aload 4, 2) := by decide +kernel
theorem dL_hooks_228 : decode cL_hooks 228 = .ok (.iload 10, 2) := by decide +kernel
theorem dL_hooks_230 : decode cL_hooks 230 = .ok (.iaload, 1) := by decide +kernel
theorem dL_hooks_231 : decode cL_hooks 231 = .ok (.goto 5, 3) := by decide +kernel
theorem dL_hooks_234 : decode cL_hooks 234 = .ok (.bipush (-33), 2) := by decide +kernel
theorem dL_hooks_236 : decode cL_hooks 236 = .ok (.if_icmp .ne 7, 3) := by decide +kernel
theorem dL_hooks_239 : decode cL_hooks 239 = .ok (.iconst 1, 1) := by decide +kernel
theorem dL_hooks_240 : decode cL_hooks 240 = .ok (.goto 4, 3) := by decide +kernel
theorem dL_hooks_243 : decode cL_hooks 243 = .ok (.iconst 0, 1) := by decide +kernel
theorem dL_hooks_244 : decode cL_hooks 244 = .ok (.ireturn, 1) := by decide +kernel
theorem dL_hooks_245 : decode cL_hooks 245 = .ok (.iload 11, 2) := by decide +kernel
theorem dL_hooks_247 : decode cL_hooks 247 = .ok (.iconst 3, 1) := by decide +kernel
theorem dL_hooks_248 : decode cL_hooks 248 = .ok (.if_icmp .ne 137, 3) := by decide +kernel
theorem dL_hooks_251 : decode cL_hooks 251 = .ok (.iload 12, 2) := by decide +kernel
theorem dL_hooks_253 : decode cL_hooks 253 = .ok (.ifCond .eq 9, 3) := by decide +kernel
theorem dL_hooks_256 : decode cL_hooks 256 = .ok (.iload 14, 2) := by decide +kernel
theorem dL_hooks_258 : decode cL_hooks 258 = .ok (.iconst 1, 1) := by decide +kernel
theorem dL_hooks_259 : decode cL_hooks 259 = .ok (.if_icmp .eq 32, 3) := by decide +kernel
theorem dL_hooks_262 : decode cL_hooks 262 = .ok (.aload_n 0, 1) := by decide +kernel
theorem dL_hooks_263 : decode cL_hooks 263 = .ok (.iload 8, 2) := by decide +kernel
theorem dL_hooks_265 : decode cL_hooks 265 = .ok (.iload 9, 2) := by decide +kernel
theorem dL_hooks_267 : decode cL_hooks 267 = .ok (.invokestatic 131, 3) := by decide +kernel
theorem dL_hooks_270 : decode cL_hooks 270 = .ok (.iload 12, 2) := by decide +kernel
theorem dL_hooks_272 : decode cL_hooks 272 = .ok (.ifCond .eq 8, 3) := by decide +kernel
theorem dL_hooks_275 : decode cL_hooks 275 = .ok (.bipush (-33), 2) := by decide +kernel
theorem dL_hooks_277 : decode cL_hooks 277 = .ok (.goto 5, 3) := by decide +kernel
theorem dL_hooks_280 : decode cL_hooks 280 = .ok (.bipush (-31), 2) := by decide +kernel
theorem dL_hooks_282 : decode cL_hooks 282 = .ok (.if_icmp .ne 7, 3) := by decide +kernel
theorem dL_hooks_285 : decode cL_hooks 285 = .ok (.iconst 1, 1) := by decide +kernel
theorem dL_hooks_286 : decode cL_hooks 286 = .ok (.goto 4, 3) := by decide +kernel
theorem dL_hooks_289 : decode cL_hooks 289 = .ok (.iconst 0, 1) := by decide +kernel
theorem dL_hooks_290 : decode cL_hooks 290 = .ok (.ireturn, 1) := by decide +kernel
theorem dL_hooks_291 : decode cL_hooks 291 = .ok (.iload 15, 2) := by decide +kernel
theorem dL_hooks_293 : decode cL_hooks 293 = .ok (.aload 5, 2) := by decide +kernel
theorem dL_hooks_295 : decode cL_hooks 295 = .ok (.invokestatic 69, 3) := by decide +kernel
theorem dL_hooks_298 : decode cL_hooks 298 = .ok (.iconst (-1), 1) := by decide +kernel
theorem dL_hooks_299 : decode cL_hooks 299 = .ok (.if_icmp .ne 7, 3) := by decide +kernel
theorem dL_hooks_302 : decode cL_hooks 302 = .ok (.iconst 1, 1) := by decide +kernel
theorem dL_hooks_303 : decode cL_hooks 303 = .ok (.goto 4, 3) := by decide +kernel
theorem dL_hooks_306 : decode cL_hooks 306 = .ok (.iconst 0, 1) := by decide +kernel
theorem dL_hooks_307 : decode cL_hooks 307 = .ok (.istore 16, 2) := by decide +kernel
theorem dL_hooks_309 : decode cL_hooks 309 = .ok (.aload 7, 2) := by decide +kernel
theorem dL_hooks_311 : decode cL_hooks 311 = .ok (.iload 13, 2) := by decide +kernel
theorem dL_hooks_313 : decode cL_hooks 313 = .ok (.iload 16, 2) := by decide +kernel
theorem dL_hooks_315 : decode cL_hooks 315 = .ok (.ifCond .eq 7, 3) := by decide +kernel
theorem dL_hooks_318 : decode cL_hooks 318 = .ok (.iconst 2, 1) := by decide +kernel
theorem dL_hooks_319 : decode cL_hooks 319 = .ok (.goto 4, 3) := by decide +kernel
theorem dL_hooks_322 : decode cL_hooks 322 = .ok (.iconst 0, 1) := by decide +kernel
theorem dL_hooks_323 : decode cL_hooks 323 = .ok (.iastore, 1) := by decide +kernel
theorem dL_hooks_324 : decode cL_hooks 324 = .ok (.aload 7, 2) := by decide +kernel
theorem dL_hooks_326 : decode cL_hooks 326 = .ok (.iload 13, 2) := by decide +kernel
theorem dL_hooks_328 : decode cL_hooks 328 = .ok (.iconst 1, 1) := by decide +kernel
theorem dL_hooks_329 : decode cL_hooks 329 = .ok (.iadd, 1) := by decide +kernel
theorem dL_hooks_330 : decode cL_hooks 330 = .ok (.iload 16, 2) := by decide +kernel
theorem dL_hooks_332 : decode cL_hooks 332 = .ok (.ifCond .eq 8, 3) := by decide +kernel
theorem dL_hooks_335 : decode cL_hooks 335 = .ok (.iload 15, 2) := by decide +kernel
theorem dL_hooks_337 : decode cL_hooks 337 = .ok (.goto 4, 3) := by decide +kernel
theorem dL_hooks_340 : decode cL_hooks 340 = .ok (.iconst (-1), 1) := by decide +kernel
theorem dL_hooks_341 : decode cL_hooks 341 = .ok (.iastore, 1) := by decide +kernel
theorem dL_hooks_342 : decode cL_hooks 342 = .ok (.aload_n 3, 1) := by decide +kernel
theorem dL_hooks_343 : decode cL_hooks 343 = .ok (.iconst 4, 1) := by decide +kernel
theorem dL_hooks_344 : decode cL_hooks 344 = .ok (.dup2, 1) := by decide +kernel
theorem dL_hooks_345 : decode cL_hooks 345 = .ok (.iaload, 1) := by decide +kernel
theorem dL_hooks_346 : decode cL_hooks 346 = .ok (.iload 16, 2) := by decide +kernel
theorem dL_hooks_348 : decode cL_hooks 348 = .ok (.ifCond .eq 7, 3) := by decide +kernel
theorem dL_hooks_351 : decode cL_hooks 351 = .ok (.iconst 0, 1) := by decide +kernel
theorem dL_hooks_352 : decode cL_hooks 352 = .ok (.goto 4, 3) := by decide +kernel
theorem dL_hooks_355 : decode cL_hooks 355 = .ok (.iconst 1, 1) := by decide +kernel
theorem dL_hooks_356 : decode cL_hooks 356 = .ok (.iadd, 1) := by decide +kernel
theorem dL_hooks_357 : decode cL_hooks 357 = .ok (.iastore, 1) := by decide +kernel
theorem dL_hooks_358 : decode cL_hooks 358 = .ok (.aload_n 0, 1) := by decide +kernel
theorem dL_hooks_359 : decode cL_hooks 359 = .ok (.iload 8, 2) := by decide +kernel
theorem dL_hooks_361 : decode cL_hooks 361 = .ok (.iload 9, 2) := by decide +kernel
theorem dL_hooks_363 : decode cL_hooks 363 = .ok (.invokestatic 131, 3) := by decide +kernel
theorem dL_hooks_366 : decode cL_hooks 366 = .ok (.iload 16, 2) := by decide +kernel
theorem dL_hooks_368 : decode cL_hooks 368 = .ok (.ifCond .eq 7, 3) := by decide +kernel
theorem dL_hooks_371 : decode cL_hooks 371 = .ok (.iconst 1, 1) := by decide +kernel
theorem dL_hooks_372 : decode cL_hooks 372 = .ok (.goto 4, 3) := by decide +kernel
theorem dL_hooks_375 : decode cL_hooks 375 = .ok (.iconst 0, 1) := by decide +kernel
theorem dL_hooks_376 : decode cL_hooks 376 = .ok (.if_icmp .ne 7, 3) := by decide +kernel
theorem dL_hooks_379 : decode cL_hooks 379 = .ok (.iconst 1, 1) := by decide +kernel
theorem dL_hooks_380 : decode cL_hooks 380 = .ok (.goto 4, 3) := by decide +kernel
theorem dL_hooks_383 : decode cL_hooks 383 = .ok (.iconst 0, 1) := by decide +kernel
theorem dL_hooks_384 : decode cL_hooks 384 = .ok (.ireturn, 1) := by decide +kernel
theorem dL_hooks_385 : decode cL_hooks 385 = .ok (.iload 12, 2) := by decide +kernel
theorem dL_hooks_387 : decode cL_hooks 387 = .ok (.ifCond .eq 8, 3) := by decide +kernel
theorem dL_hooks_390 : decode cL_hooks 390 = .ok (.iload 14, 2) := by decide +kernel
theorem dL_hooks_392 : decode cL_hooks 392 = .ok (.ifCond .ne 55, 3) := by decide +kernel
theorem dL_hooks_395 : decode cL_hooks 395 = .ok (.aload_n 0, 1) := by decide +kernel
theorem dL_hooks_396 : decode cL_hooks 396 = .ok (.iload 8, 2) := by decide +kernel
theorem dL_hooks_398 : decode cL_hooks 398 = .ok (.iload 9, 2) := by decide +kernel
theorem dL_hooks_400 : decode cL_hooks 400 = .ok (.invokestatic 133, 3) := by decide +kernel
theorem dL_hooks_403 : decode cL_hooks 403 = .ok (.iload 12, 2) := by decide +kernel
theorem dL_hooks_405 : decode cL_hooks 405 = .ok (.ifCond .eq 8, 3) := by decide +kernel
theorem dL_hooks_408 : decode cL_hooks 408 = .ok (.bipush (-33), 2) := by decide +kernel
theorem dL_hooks_410 : decode cL_hooks 410 = .ok (.goto 5, 3) := by decide +kernel
theorem dL_hooks_413 : decode cL_hooks 413 = .ok (.bipush (-31), 2) := by decide +kernel
theorem dL_hooks_415 : decode cL_hooks 415 = .ok (.if_icmp .ne 30, 3) := by decide +kernel
theorem dL_hooks_418 : decode cL_hooks 418 = .ok (.aload_n 0, 1) := by decide +kernel
theorem dL_hooks_419 : decode cL_hooks 419 = .ok (.iload 8, 2) := by decide +kernel
theorem dL_hooks_421 : decode cL_hooks 421 = .ok (.iload 9, 2) := by decide +kernel
theorem dL_hooks_423 : decode cL_hooks 423 = .ok (.invokestatic 135, 3) := by decide +kernel
theorem dL_hooks_426 : decode cL_hooks 426 = .ok (.iload 12, 2) := by decide +kernel
theorem dL_hooks_428 : decode cL_hooks 428 = .ok (.ifCond .eq 8, 3) := by decide +kernel
theorem dL_hooks_431 : decode cL_hooks 431 = .ok (.bipush (-33), 2) := by decide +kernel
theorem dL_hooks_433 : decode cL_hooks 433 = .ok (.goto 5, 3) := by decide +kernel
theorem dL_hooks_436 : decode cL_hooks 436 = .ok (.bipush (-31), 2) := by decide +kernel
theorem dL_hooks_438 : decode cL_hooks 438 = .ok (.if_icmp .ne 7, 3) := by decide +kernel
theorem dL_hooks_441 : decode cL_hooks 441 = .ok (.iconst 1, 1) := by decide +kernel
theorem dL_hooks_442 : decode cL_hooks 442 = .ok (.goto 4, 3) := by decide +kernel
theorem dL_hooks_445 : decode cL_hooks 445 = .ok (.iconst 0, 1) := by decide +kernel
theorem dL_hooks_446 : decode cL_hooks 446 = .ok (.ireturn, 1) := by decide +kernel
theorem dL_hooks_447 : decode cL_hooks 447 = .ok (.iload 11, 2) := by decide +kernel
theorem dL_hooks_449 : decode cL_hooks 449 = .ok (.iconst 4, 1) := by decide +kernel
theorem dL_hooks_450 : decode cL_hooks 450 = .ok (.if_icmp .ne 36, 3) := by decide +kernel
theorem dL_hooks_453 : decode cL_hooks 453 = .ok (.aload 7, 2) := by decide +kernel
theorem dL_hooks_455 : decode cL_hooks 455 = .ok (.iload 13, 2) := by decide +kernel
theorem dL_hooks_457 : decode cL_hooks 457 = .ok (.iconst 0, 1) := by decide +kernel
theorem dL_hooks_458 : decode cL_hooks 458 = .ok (.iastore, 1) := by decide +kernel
theorem dL_hooks_459 : decode cL_hooks 459 = .ok (.aload 7, 2) := by decide +kernel
theorem dL_hooks_461 : decode cL_hooks 461 = .ok (.iload 13, 2) := by decide +kernel
theorem dL_hooks_463 : decode cL_hooks 463 = .ok (.iconst 1, 1) := by decide +kernel
theorem dL_hooks_464 : decode cL_hooks 464 = .ok (.iadd, 1) := by decide +kernel
theorem dL_hooks_465 : decode cL_hooks 465 = .ok (.iconst (-1), 1) := by decide +kernel
theorem dL_hooks_466 : decode cL_hooks 466 = .ok (.iastore, 1) := by decide +kernel
theorem dL_hooks_467 : decode cL_hooks 467 = .ok (.aload_n 0, 1) := by decide +kernel
theorem dL_hooks_468 : decode cL_hooks 468 = .ok (.iload 8, 2) := by decide +kernel
theorem dL_hooks_470 : decode cL_hooks 470 = .ok (.iload 9, 2) := by decide +kernel
theorem dL_hooks_472 : decode cL_hooks 472 = .ok (.invokestatic 133, 3) := by decide +kernel
theorem dL_hooks_475 : decode cL_hooks 475 = .ok (.iload 15, 2) := by decide +kernel
theorem dL_hooks_477 : decode cL_hooks 477 = .ok (.if_icmp .ne 7, 3) := by decide +kernel
theorem dL_hooks_480 : decode cL_hooks 480 = .ok (.iconst 1, 1) := by decide +kernel
theorem dL_hooks_481 : decode cL_hooks 481 = .ok (.goto 4, 3) := by decide +kernel
theorem dL_hooks_484 : decode cL_hooks 484 = .ok (.iconst 0, 1) := by decide +kernel
theorem dL_hooks_485 : decode cL_hooks 485 = .ok (.ireturn, 1) := by decide +kernel
theorem dL_hooks_486 : decode cL_hooks 486 = .ok (.iload 14, 2) := by decide +kernel
theorem dL_hooks_488 : decode cL_hooks 488 = .ok (.iconst 1, 1) := by decide +kernel
theorem dL_hooks_489 : decode cL_hooks 489 = .ok (.if_icmp .ne 19, 3) := by decide +kernel
theorem dL_hooks_492 : decode cL_hooks 492 = .ok (.iload 15, 2) := by decide +kernel
theorem dL_hooks_494 : decode cL_hooks 494 = .ok (.aload 5, 2) := by decide +kernel
theorem dL_hooks_496 : decode cL_hooks 496 = .ok (.invokestatic 69, 3) := by decide +kernel
theorem dL_hooks_499 : decode cL_hooks 499 = .ok (.bipush (-2), 2) := by decide +kernel
theorem dL_hooks_501 : decode cL_hooks 501 = .ok (.if_icmp .ne 7, 3) := by decide +kernel
theorem dL_hooks_504 : decode cL_hooks 504 = .ok (.iconst 1, 1) := by decide +kernel
theorem dL_hooks_505 : decode cL_hooks 505 = .ok (.goto 4, 3) := by decide +kernel
theorem dL_hooks_508 : decode cL_hooks 508 = .ok (.iconst 0, 1) := by decide +kernel
theorem dL_hooks_509 : decode cL_hooks 509 = .ok (.istore 16, 2) := by decide +kernel
theorem dL_hooks_511 : decode cL_hooks 511 = .ok (.aload_n 3, 1) := by decide +kernel
theorem dL_hooks_512 : decode cL_hooks 512 = .ok (.iconst 5, 1) := by decide +kernel
theorem dL_hooks_513 : decode cL_hooks 513 = .ok (.dup2, 1) := by decide +kernel
theorem dL_hooks_514 : decode cL_hooks 514 = .ok (.iaload, 1) := by decide +kernel
theorem dL_hooks_515 : decode cL_hooks 515 = .ok (.iload 16, 2) := by decide +kernel
theorem dL_hooks_517 : decode cL_hooks 517 = .ok (.ifCond .eq 7, 3) := by decide +kernel
theorem dL_hooks_520 : decode cL_hooks 520 = .ok (.iconst 1, 1) := by decide +kernel
theorem dL_hooks_521 : decode cL_hooks 521 = .ok (.goto 4, 3) := by decide +kernel
theorem dL_hooks_524 : decode cL_hooks 524 = .ok (.iconst 0, 1) := by decide +kernel
theorem dL_hooks_525 : decode cL_hooks 525 = .ok (.iadd, 1) := by decide +kernel
theorem dL_hooks_526 : decode cL_hooks 526 = .ok (.iastore, 1) := by decide +kernel
theorem dL_hooks_527 : decode cL_hooks 527 = .ok (.aload_n 0, 1) := by decide +kernel
theorem dL_hooks_528 : decode cL_hooks 528 = .ok (.iload 8, 2) := by decide +kernel
theorem dL_hooks_530 : decode cL_hooks 530 = .ok (.iload 9, 2) := by decide +kernel
theorem dL_hooks_532 : decode cL_hooks 532 = .ok (.invokestatic 135, 3) := by decide +kernel
theorem dL_hooks_535 : decode cL_hooks 535 = .ok (.iload 16, 2) := by decide +kernel
theorem dL_hooks_537 : decode cL_hooks 537 = .ok (.ifCond .eq 7, 3) := by decide +kernel
theorem dL_hooks_540 : decode cL_hooks 540 = .ok (.iconst (-1), 1) := by decide +kernel
theorem dL_hooks_541 : decode cL_hooks 541 = .ok (.goto 11, 3) := by decide +kernel
theorem dL_hooks_544 : decode cL_hooks 544 = .ok (.aload 5, 2) := by decide +kernel
theorem dL_hooks_546 : decode cL_hooks 546 = .ok (.iload 15, 2) := by decide +kernel
theorem dL_hooks_548 : decode cL_hooks 548 = .ok (.iaload, 1) := by decide +kernel
theorem dL_hooks_549 : decode cL_hooks 549 = .ok (.bipush 10, 2) := by decide +kernel
theorem dL_hooks_551 : decode cL_hooks 551 = .ok (.irem, 1) := by decide +kernel
theorem dL_hooks_552 : decode cL_hooks 552 = .ok (.if_icmp .ne 7, 3) := by decide +kernel
theorem dL_hooks_555 : decode cL_hooks 555 = .ok (.iconst 1, 1) := by decide +kernel
theorem dL_hooks_556 : decode cL_hooks 556 = .ok (.goto 4, 3) := by decide +kernel
theorem dL_hooks_559 : decode cL_hooks 559 = .ok (.iconst 0, 1) := by decide +kernel
theorem dL_hooks_560 : decode cL_hooks 560 = .ok (.ireturn, 1) := by decide +kernel
theorem dL_leaves_0 : decode cL_leaves 0 = .ok (.iload_n 2, 1) := by decide +kernel
theorem dL_leaves_1 : decode cL_leaves 1 = .ok (.iconst 5, 1) := by decide +kernel
theorem dL_leaves_2 : decode cL_leaves 2 = .ok (.invokestatic 102, 3) := by decide +kernel
theorem dL_leaves_5 : decode cL_leaves 5 = .ok (.istore 9, 2) := by decide +kernel
theorem dL_leaves_7 : decode cL_leaves 7 = .ok (.iload_n 2, 1) := by decide +kernel
theorem dL_leaves_8 : decode cL_leaves 8 = .ok (.iconst 4, 1) := by decide +kernel
theorem dL_leaves_9 : decode cL_leaves 9 = .ok (.ishr, 1) := by decide +kernel
theorem dL_leaves_10 : decode cL_leaves 10 = .ok (.iload_n 2, 1) := by decide +kernel
theorem dL_leaves_11 : decode cL_leaves 11 = .ok (.iconst 3, 1) := by decide +kernel
theorem dL_leaves_12 : decode cL_leaves 12 = .ok (.ishr, 1) := by decide +kernel
theorem dL_leaves_13 : decode cL_leaves 13 = .ok (.iconst 1, 1) := by decide +kernel
theorem dL_leaves_14 : decode cL_leaves 14 = .ok (.iand, 1) := by decide +kernel
theorem dL_leaves_15 : decode cL_leaves 15 = .ok (.ifCond .ne 7, 3) := by decide +kernel
theorem dL_leaves_18 : decode cL_leaves 18 = .ok (.iconst 4, 1) := by decide +kernel
theorem dL_leaves_19 : decode cL_leaves 19 = .ok (.goto 5, 3) := by decide +kernel
theorem dL_leaves_22 : decode cL_leaves 22 = .ok (.bipush 12, 2) := by decide +kernel
theorem dL_leaves_24 : decode cL_leaves 24 = .ok (.invokestatic 102, 3) := by decide +kernel
theorem dL_leaves_27 : decode cL_leaves 27 = .ok (.istore 10, 2) := by decide +kernel
theorem dL_leaves_29 : decode cL_leaves 29 = .ok (.iload_n 2, 1) := by decide +kernel
theorem dL_leaves_30 : decode cL_leaves 30 = .ok (.bipush 9, 2) := by decide +kernel
theorem dL_leaves_32 : decode cL_leaves 32 = .ok (.ishr, 1) := by decide +kernel
theorem dL_leaves_33 : decode cL_leaves 33 = .ok (.bipush 10, 2) := by decide +kernel
theorem dL_leaves_35 : decode cL_leaves 35 = .ok (.invokestatic 102, 3) := by decide +kernel
theorem dL_leaves_38 : decode cL_leaves 38 = .ok (.istore 11, 2) := by decide +kernel
theorem dL_leaves_40 : decode cL_leaves 40 = .ok (.iload_n 1, 1) := by decide +kernel
theorem dL_leaves_41 : decode cL_leaves 41 = .ok (.bipush 7, 2) := by decide +kernel
theorem dL_leaves_43 : decode cL_leaves 43 = .ok (.invokestatic 102, 3) := by decide +kernel
theorem dL_leaves_46 : decode cL_leaves 46 = .ok (.istore 12, 2) := by decide +kernel
theorem dL_leaves_48 : decode cL_leaves 48 = .ok (.aload 7, 2) := by decide +kernel
theorem dL_leaves_50 : decode cL_leaves 50 = .ok (.bipush 6, 2) := by decide +kernel
theorem dL_leaves_52 : decode cL_leaves 52 = .ok (.iload 9, 2) := by decide +kernel
theorem dL_leaves_54 : decode cL_leaves 54 = .ok (.imul, 1) := by decide +kernel
theorem dL_leaves_55 : decode cL_leaves 55 = .ok (.iaload, 1) := by decide +kernel
theorem dL_leaves_56 : decode cL_leaves 56 = .ok (.iconst 1, 1) := by decide +kernel
theorem dL_leaves_57 : decode cL_leaves 57 = .ok (.if_icmp .ne 7, 3) := by decide +kernel
theorem dL_leaves_60 : decode cL_leaves 60 = .ok (.iconst 1, 1) := by decide +kernel
theorem dL_leaves_61 : decode cL_leaves 61 = .ok (.goto 4, 3) := by decide +kernel
theorem dL_leaves_64 : decode cL_leaves 64 = .ok (.iconst 0, 1) := by decide +kernel
theorem dL_leaves_65 : decode cL_leaves 65 = .ok (.istore 13, 2) := by decide +kernel
theorem dL_leaves_67 : decode cL_leaves 67 = .ok (.iload 13, 2) := by decide +kernel
theorem dL_leaves_69 : decode cL_leaves 69 = .ok (.ifCond .eq 29, 3) := by decide +kernel
theorem dL_leaves_72 : decode cL_leaves 72 = .ok (.aload 7, 2) := by decide +kernel
theorem dL_leaves_74 : decode cL_leaves 74 = .ok (.bipush 6, 2) := by decide +kernel
theorem dL_leaves_76 : decode cL_leaves 76 = .ok (.iload 9, 2) := by decide +kernel
theorem dL_leaves_78 : decode cL_leaves 78 = .ok (.imul, 1) := by decide +kernel
theorem dL_leaves_79 : decode cL_leaves 79 = .ok (.iconst 1, 1) := by decide +kernel
theorem dL_leaves_80 : decode cL_leaves 80 = .ok (.iadd, 1) := by decide +kernel
theorem dL_leaves_81 : decode cL_leaves 81 = .ok (.iaload, 1) := by decide +kernel
theorem dL_leaves_82 : decode cL_leaves 82 = .ok (.iconst 1, 1) := by decide +kernel
theorem dL_leaves_83 : decode cL_leaves 83 = .ok (.if_icmp .ne 15, 3) := by decide +kernel
theorem dL_leaves_86 : decode cL_leaves 86 = .ok (.aload 4, 2) := by decide +kernel
theorem dL_leaves_88 : decode cL_leaves 88 = .ok (.iload 10, 2) := by decide +kernel
theorem dL_leaves_90 : decode cL_leaves 90 = .ok (.iaload, 1) := by decide +kernel
theorem dL_leaves_91 : decode cL_leaves 91 = .ok (.ifCond .lt 7, 3) := by decide +kernel
theorem dL_leaves_94 : decode cL_leaves 94 = .ok (.iconst 1, 1) := by decide +kernel
theorem dL_leaves_95 : decode cL_leaves 95 = .ok (.goto 4, 3) := by decide +kernel
theorem dL_leaves_98 : decode cL_leaves 98 = .ok (.iconst 0, 1) := by decide +kernel
theorem dL_leaves_99 : decode cL_leaves 99 = .ok (.istore 14, 2) := by decide +kernel
theorem dL_leaves_101 : decode cL_leaves 101 = .ok (.iload 12, 2) := by decide +kernel
theorem dL_leaves_103 : decode cL_leaves 103 = .ok (.iconst 2, 1) := by decide +kernel
theorem dL_leaves_104 : decode cL_leaves 104 = .ok (.if_icmp .ge 55, 3) := by decide +kernel
theorem dL_leaves_107 : decode cL_leaves 107 = .ok (.aload 4, 2) := by decide +kernel
theorem dL_leaves_109 : decode cL_leaves 109 = .ok (.iload 10, 2) := by decide +kernel
theorem dL_leaves_111 : decode cL_leaves 111 = .ok (.iaload, 1) := by decide +kernel
theorem dL_leaves_112 : decode cL_leaves 112 = .ok (.ifCond .lt 47, 3) := by decide +kernel
theorem dL_leaves_115 : decode cL_leaves 115 = .ok (.aload_n 0, 1) := by decide +kernel
theorem dL_leaves_116 : decode cL_leaves 116 = .ok (.iload 10, 2) := by decide +kernel
theorem dL_leaves_118 : decode cL_leaves 118 = .ok (.iload 11, 2) := by decide +kernel
theorem dL_leaves_120 : decode cL_leaves 120 = .ok (.invokestatic 137, 3) := by decide +kernel
theorem dL_leaves_123 : decode cL_leaves 123 = .ok (.bipush (-33), 2) := by decide +kernel
theorem dL_leaves_125 : decode cL_leaves 125 = .ok (.if_icmp .ne 32, 3) := by decide +kernel
theorem dL_leaves_128 : decode cL_leaves 128 = .ok (.aload_n 0, 1) := by decide +kernel
theorem dL_leaves_129 : decode cL_leaves 129 = .ok (.bipush 12, 2) := by decide +kernel
theorem dL_leaves_131 : decode cL_leaves 131 = .ok (.iconst 0, 1) := by decide +kernel
theorem dL_leaves_132 : decode cL_leaves 132 = .ok (.invokestatic 137, 3) := by decide +kernel
theorem dL_leaves_135 : decode cL_leaves 135 = .ok (.bipush (-31), 2) := by decide +kernel
theorem dL_leaves_137 : decode cL_leaves 137 = .ok (.if_icmp .ne 20, 3) := by decide +kernel
theorem dL_leaves_140 : decode cL_leaves 140 = .ok (.aload_n 0, 1) := by decide +kernel
theorem dL_leaves_141 : decode cL_leaves 141 = .ok (.iload 10, 2) := by decide +kernel
theorem dL_leaves_143 : decode cL_leaves 143 = .ok (.bipush 10, 2) := by decide +kernel
theorem dL_leaves_145 : decode cL_leaves 145 = .ok (.invokestatic 137, 3) := by decide +kernel
theorem dL_leaves_148 : decode cL_leaves 148 = .ok (.bipush (-32), 2) := by decide +kernel
theorem dL_leaves_150 : decode cL_leaves 150 = .ok (.if_icmp .ne 7, 3) := by decide +kernel
theorem dL_leaves_153 : decode cL_leaves 153 = .ok (.iconst 1, 1) := by decide +kernel
theorem dL_leaves_154 : decode cL_leaves 154 = .ok (.goto 4, 3) := by decide +kernel
theorem dL_leaves_157 : decode cL_leaves 157 = .ok (.iconst 0, 1) := by decide +kernel
theorem dL_leaves_158 : decode cL_leaves 158 = .ok (.ireturn, 1) := by decide +kernel
theorem dL_leaves_159 : decode cL_leaves 159 = .ok (.iload 12, 2) := by decide +kernel
theorem dL_leaves_161 : decode cL_leaves 161 = .ok (.iconst 3, 1) := by decide +kernel
theorem dL_leaves_162 : decode cL_leaves 162 = .ok (.if_icmp .ge 52, 3) := by decide +kernel
theorem dL_leaves_165 : decode cL_leaves 165 = .ok (.aload 4, 2) := by decide +kernel
theorem dL_leaves_167 : decode cL_leaves 167 = .ok (.iload 10, 2) := by decide +kernel
theorem dL_leaves_169 : decode cL_leaves 169 = .ok (.iaload, 1) := by decide +kernel
theorem dL_leaves_170 : decode cL_leaves 170 = .ok (.ifCond .ge 44, 3) := by decide +kernel
theorem dL_leaves_173 : decode cL_leaves 173 = .ok (.aload_n 3, 1) := by decide +kernel
theorem dL_leaves_174 : decode cL_leaves 174 = .ok (.iconst 1, 1) := by decide +kernel
theorem dL_leaves_175 : decode cL_leaves 175 = .ok (.iaload, 1) := by decide +kernel
theorem dL_leaves_176 : decode cL_leaves 176 = .ok (.bipush 40, 2) := by decide +kernel
theorem dL_leaves_178 : decode cL_leaves 178 = .ok (.if_icmp .ge 36, 3) := by decide +kernel
theorem dL_leaves_181 : decode cL_leaves 181 = .ok (.iload 10, 2) := by decide +kernel
theorem dL_leaves_183 : decode cL_leaves 183 = .ok (.iload 11, 2) := by decide +kernel
theorem dL_leaves_185 : decode cL_leaves 185 = .ok (.aload_n 3, 1) := by decide +kernel
theorem dL_leaves_186 : decode cL_leaves 186 = .ok (.aload 4, 2) := by decide +kernel
theorem dL_leaves_188 : decode cL_leaves 188 = .ok (.aload 5, 2) := by decide +kernel
theorem dL_leaves_190 : decode cL_leaves 190 = .ok (.invokestatic 139, 3) := by decide +kernel
theorem dL_leaves_193 : decode cL_leaves 193 = .ok (.istore 15, 2) := by decide +kernel
theorem dL_leaves_195 : decode cL_leaves 195 = .ok (.aload_n 0, 1) := by decide +kernel
theorem dL_leaves_196 : decode cL_leaves 196 = .ok (.iload 10, 2) := by decide +kernel
theorem dL_leaves_198 : decode cL_leaves 198 = .ok (.iload 11, 2) := by decide +kernel
theorem dL_leaves_200 : decode cL_leaves 200 = .ok (.invokestatic 137, 3) := by decide +kernel
theorem dL_leaves_203 : decode cL_leaves 203 = .ok (.iload 15, 2) := by decide +kernel
theorem dL_leaves_205 : decode cL_leaves 205 = .ok (.if_icmp .ne 7, 3) := by decide +kernel
theorem dL_leaves_208 : decode cL_leaves 208 = .ok (.iconst 1, 1) := by decide +kernel
theorem dL_leaves_209 : decode cL_leaves 209 = .ok (.goto 4, 3) := by decide +kernel
theorem dL_leaves_212 : decode cL_leaves 212 = .ok (.iconst 0, 1) := by decide +kernel
theorem dL_leaves_213 : decode cL_leaves 213 = .ok (.ireturn, 1) := by decide +kernel
theorem dL_leaves_214 : decode cL_leaves 214 = .ok (.iload 12, 2) := by decide +kernel
theorem dL_leaves_216 : decode cL_leaves 216 = .ok (.iconst 5, 1) := by decide +kernel
theorem dL_leaves_217 : decode cL_leaves 217 = .ok (.if_icmp .ge 76, 3) := by decide +kernel
theorem dL_leaves_220 : decode cL_leaves 220 = .ok (.iload 14, 2) := by decide +kernel
theorem dL_leaves_222 : decode cL_leaves 222 = .ok (.ifCond .ne 32, 3) := by decide +kernel
theorem dL_leaves_225 : decode cL_leaves 225 = .ok (.aload_n 0, 1) := by decide +kernel
theorem dL_leaves_226 : decode cL_leaves 226 = .ok (.iload 9, 2) := by decide +kernel
theorem dL_leaves_228 : decode cL_leaves 228 = .ok (.iload 10, 2) := by decide +kernel
theorem dL_leaves_230 : decode cL_leaves 230 = .ok (.invokestatic 143, 3) := by decide +kernel
theorem dL_leaves_233 : decode cL_leaves 233 = .ok (.iload 13, 2) := by decide +kernel
theorem dL_leaves_235 : decode cL_leaves 235 = .ok (.ifCond .eq 8, 3) := by decide +kernel
theorem dL_leaves_238 : decode cL_leaves 238 = .ok (.bipush (-33), 2) := by decide +kernel
theorem dL_leaves_240 : decode cL_leaves 240 = .ok (.goto 5, 3) := by decide +kernel
theorem dL_leaves_243 : decode cL_leaves 243 = .ok (.bipush (-31), 2) := by decide +kernel
theorem dL_leaves_245 : decode cL_leaves 245 = .ok (.if_icmp .ne 7, 3) := by decide +kernel
theorem dL_leaves_248 : decode cL_leaves 248 = .ok (.iconst 1, 1) := by decide +kernel
theorem dL_leaves_249 : decode cL_leaves 249 = .ok (.goto 4, 3) := by decide +kernel
theorem dL_leaves_252 : decode cL_leaves 252 = .ok (.iconst 0, 1) := by decide +kernel
theorem dL_leaves_253 : decode cL_leaves 253 = .ok (.ireturn, 1) := by decide +kernel
theorem dL_leaves_254 : decode cL_leaves 254 = .ok (.iload 9, 2) := by decide +kernel
theorem dL_leaves_256 : decode cL_leaves 256 = .ok (.iload 10, 2) := by decide +kernel
theorem dL_leaves_258 : decode cL_leaves 258 = .ok (.aload_n 3, 1) := by decide +kernel
theorem dL_leaves_259 : decode cL_leaves 259 = .ok (.aload 4, 2) := by decide +kernel
theorem dL_leaves_261 : decode cL_leaves 261 = .ok (.aload 5, 2) := by decide +kernel
theorem dL_leaves_263 : decode cL_leaves 263 = .ok (.aload 6, 2) := by decide +kernel
theorem dL_leaves_265 : decode cL_leaves 265 = .ok (.aload 7, 2) := by decide +kernel
theorem dL_leaves_267 : decode cL_leaves 267 = .ok (.aload 8, 2) := by decide +kernel
theorem dL_leaves_269 : decode cL_leaves 269 = .ok (.invokestatic 145, 3) := by decide +kernel
theorem dL_leaves_272 : decode cL_leaves 272 = .ok (.istore 15, 2) := by decide +kernel
theorem dL_leaves_274 : decode cL_leaves 274 = .ok (.aload_n 0, 1) := by decide +kernel
theorem dL_leaves_275 : decode cL_leaves 275 = .ok (.iload 9, 2) := by decide +kernel
theorem dL_leaves_277 : decode cL_leaves 277 = .ok (.iload 10, 2) := by decide +kernel
theorem dL_leaves_279 : decode cL_leaves 279 = .ok (.invokestatic 143, 3) := by decide +kernel
theorem dL_leaves_282 : decode cL_leaves 282 = .ok (.iload 15, 2) := by decide +kernel
theorem dL_leaves_284 : decode cL_leaves 284 = .ok (.if_icmp .ne 7, 3) := by decide +kernel
theorem dL_leaves_287 : decode cL_leaves 287 = .ok (.iconst 1, 1) := by decide +kernel
theorem dL_leaves_288 : decode cL_leaves 288 = .ok (.goto 4, 3) := by decide +kernel
theorem dL_leaves_291 : decode cL_leaves 291 = .ok (.iconst 0, 1) := by decide +kernel
theorem dL_leaves_292 : decode cL_leaves 292 = .ok (.ireturn, 1) := by decide +kernel
theorem dL_leaves_293 : decode cL_leaves 293 = .ok (.iload 12, 2) := by decide +kernel
theorem dL_leaves_295 : decode cL_leaves 295 = .ok (.iconst 5, 1) := by decide +kernel
theorem dL_leaves_296 : decode cL_leaves 296 = .ok (.if_icmp .ne 122, 3) := by decide +kernel
theorem dL_leaves_299 : decode cL_leaves 299 = .ok (.aload_n 3, 1) := by decide +kernel
theorem dL_leaves_300 : decode cL_leaves 300 = .ok (.iconst 1, 1) := by decide +kernel
theorem dL_leaves_301 : decode cL_leaves 301 = .ok (.iaload, 1) := by decide +kernel
theorem dL_leaves_302 : decode cL_leaves 302 = .ok (.bipush 40, 2) := by decide +kernel
theorem dL_leaves_304 : decode cL_leaves 304 = .ok (.if_icmp .ge 114, 3) := by decide +kernel
theorem dL_leaves_307 : decode cL_leaves 307 = .ok (.iload 14, 2) := by decide +kernel
theorem dL_leaves_309 : decode cL_leaves 309 = .ok (.ifCond .ne 49, 3) := by decide +kernel
theorem dL_leaves_312 : decode cL_leaves 312 = .ok (.aload_n 0, 1) := by decide +kernel
theorem dL_leaves_313 : decode cL_leaves 313 = .ok (.iload 9, 2) := by decide +kernel
theorem dL_leaves_315 : decode cL_leaves 315 = .ok (.iload 10, 2) := by decide +kernel
theorem dL_leaves_317 : decode cL_leaves 317 = .ok (.iload 11, 2) := by decide +kernel
theorem dL_leaves_319 : decode cL_leaves 319 = .ok (.invokestatic 149, 3) := by decide +kernel
theorem dL_leaves_322 : decode cL_leaves 322 = .ok (.iload 13, 2) := by decide +kernel
theorem dL_leaves_324 : decode cL_leaves 324 = .ok (.ifCond .eq 8, 3) := by decide +kernel
theorem dL_leaves_327 : decode cL_leaves 327 = .ok (.bipush (-33), 2) := by decide +kernel
theorem dL_leaves_329 : decode cL_leaves 329 = .ok (.goto 5, 3) := by decide +kernel
theorem dL_leaves_332 : decode cL_leaves 332 = .ok (.bipush (-31), 2) := by decide +kernel
theorem dL_leaves_334 : decode cL_leaves 334 = .ok (.if_icmp .ne 22, 3) := by decide +kernel
theorem dL_leaves_337 : decode cL_leaves 337 = .ok (.aload_n 0, 1) := by decide +kernel
theorem dL_leaves_338 : decode cL_leaves 338 = .ok (.iload 9, 2) := by decide +kernel
theorem dL_leaves_340 : decode cL_leaves 340 = .ok (.bipush 12, 2) := by decide +kernel
theorem dL_leaves_342 : decode cL_leaves 342 = .ok (.iload 11, 2) := by decide +kernel
theorem dL_leaves_344 : decode cL_leaves 344 = .ok (.invokestatic 149, 3) := by decide +kernel
theorem dL_leaves_347 : decode cL_leaves 347 = .ok (.bipush (-31), 2) := by decide +kernel
theorem dL_leaves_349 : decode cL_leaves 349 = .ok (.if_icmp .ne 7, 3) := by decide +kernel
theorem dL_leaves_352 : decode cL_leaves 352 = .ok (.iconst 1, 1) := by decide +kernel
theorem dL_leaves_353 : decode cL_leaves 353 = .ok (.goto 4, 3) := by decide +kernel
theorem dL_leaves_356 : decode cL_leaves 356 = .ok (.iconst 0, 1) := by decide +kernel
theorem dL_leaves_357 : decode cL_leaves 357 = .ok (.ireturn, 1) := by decide +kernel
theorem dL_leaves_358 : decode cL_leaves 358 = .ok (.iload 9, 2) := by decide +kernel
theorem dL_leaves_360 : decode cL_leaves 360 = .ok (.iload 10, 2) := by decide +kernel
theorem dL_leaves_362 : decode cL_leaves 362 = .ok (.aload_n 3, 1) := by decide +kernel
theorem dL_leaves_363 : decode cL_leaves 363 = .ok (.aload 4, 2) := by decide +kernel
theorem dL_leaves_365 : decode cL_leaves 365 = .ok (.aload 5, 2) := by decide +kernel
theorem dL_leaves_367 : decode cL_leaves 367 = .ok (.aload 6, 2) := by decide +kernel
theorem dL_leaves_369 : decode cL_leaves 369 = .ok (.aload 7, 2) := by decide +kernel
theorem dL_leaves_371 : decode cL_leaves 371 = .ok (.aload 8, 2) := by decide +kernel
theorem dL_leaves_373 : decode cL_leaves 373 = .ok (.invokestatic 145, 3) := by decide +kernel
theorem dL_leaves_376 : decode cL_leaves 376 = .ok (.istore 15, 2) := by decide +kernel
theorem dL_leaves_378 : decode cL_leaves 378 = .ok (.iload 10, 2) := by decide +kernel
theorem dL_leaves_380 : decode cL_leaves 380 = .ok (.iload 11, 2) := by decide +kernel
theorem dL_leaves_382 : decode cL_leaves 382 = .ok (.aload_n 3, 1) := by decide +kernel
theorem dL_leaves_383 : decode cL_leaves 383 = .ok (.aload 4, 2) := by decide +kernel
theorem dL_leaves_385 : decode cL_leaves 385 = .ok (.aload 5, 2) := by decide +kernel
theorem dL_leaves_387 : decode cL_leaves 387 = .ok (.invokestatic 139, 3) := by decide +kernel
theorem dL_leaves_390 : decode cL_leaves 390 = .ok (.istore 16, 2) := by decide +kernel
theorem dL_leaves_392 : decode cL_leaves 392 = .ok (.iload 15, 2) := by decide +kernel
theorem dL_leaves_394 : decode cL_leaves 394 = .ok (.ifCond .lt 22, 3) := by decide +kernel
theorem dL_leaves_397 : decode cL_leaves 397 = .ok (.aload_n 0, 1) := by decide +kernel
theorem dL_leaves_398 : decode cL_leaves 398 = .ok (.iload 9, 2) := by decide +kernel
theorem dL_leaves_400 : decode cL_leaves 400 = .ok (.iload 10, 2) := by decide +kernel
theorem dL_leaves_402 : decode cL_leaves 402 = .ok (.iload 11, 2) := by decide +kernel
theorem dL_leaves_404 : decode cL_leaves 404 = .ok (.invokestatic 149, 3) := by decide +kernel
theorem dL_leaves_407 : decode cL_leaves 407 = .ok (.iload 16, 2) := by decide +kernel
theorem dL_leaves_409 : decode cL_leaves 409 = .ok (.if_icmp .ne 7, 3) := by decide +kernel
theorem dL_leaves_412 : decode cL_leaves 412 = .ok (.iconst 1, 1) := by decide +kernel
theorem dL_leaves_413 : decode cL_leaves 413 = .ok (.goto 4, 3) := by decide +kernel
theorem dL_leaves_416 : decode cL_leaves 416 = .ok (.iconst 0, 1) := by decide +kernel
theorem dL_leaves_417 : decode cL_leaves 417 = .ok (.ireturn, 1) := by decide +kernel
theorem dL_leaves_418 : decode cL_leaves 418 = .ok (.iload 13, 2) := by decide +kernel
theorem dL_leaves_420 : decode cL_leaves 420 = .ok (.ifCond .eq 16, 3) := by decide +kernel
theorem dL_leaves_423 : decode cL_leaves 423 = .ok (.iload 9, 2) := by decide +kernel
theorem dL_leaves_425 : decode cL_leaves 425 = .ok (.aload_n 3, 1) := by decide +kernel
theorem dL_leaves_426 : decode cL_leaves 426 = .ok (.aload 5, 2) := by decide +kernel
theorem dL_leaves_428 : decode cL_leaves 428 = .ok (.aload 6, 2) := by decide +kernel
theorem dL_leaves_430 : decode cL_leaves 430 = .ok (.invokestatic 94, 3) := by decide +kernel
theorem dL_leaves_433 : decode cL_leaves 433 = .ok (.ifCond .ne 30, 3) := by decide +kernel
theorem dL_leaves_436 : decode cL_leaves 436 = .ok (.aload_n 0, 1) := by decide +kernel
theorem dL_leaves_437 : decode cL_leaves 437 = .ok (.iload 9, 2) := by decide +kernel
theorem dL_leaves_439 : decode cL_leaves 439 = .ok (.invokestatic 151, 3) := by decide +kernel
theorem dL_leaves_442 : decode cL_leaves 442 = .ok (.iload 13, 2) := by decide +kernel
theorem dL_leaves_444 : decode cL_leaves 444 = .ok (.ifCond .eq 8, 3) := by decide +kernel
theorem dL_leaves_447 : decode cL_leaves 447 = .ok (.bipush (-33), 2) := by decide +kernel
theorem dL_leaves_449 : decode cL_leaves 449 = .ok (.goto 5, 3) := by decide +kernel
theorem dL_leaves_452 : decode cL_leaves 452 = .ok (.bipush (-31), 2) := by decide +kernel
theorem dL_leaves_454 : decode cL_leaves 454 = .ok (.if_icmp .ne 7, 3) := by decide +kernel
theorem dL_leaves_457 : decode cL_leaves 457 = .ok (.iconst 1, 1) := by decide +kernel
theorem dL_leaves_458 : decode cL_leaves 458 = .ok (.goto 4, 3) := by decide +kernel
theorem dL_leaves_461 : decode cL_leaves 461 = .ok (.iconst 0, 1) := by decide +kernel
theorem dL_leaves_462 : decode cL_leaves 462 = .ok (.ireturn, 1) := by decide +kernel
theorem dL_leaves_463 : decode cL_leaves 463 = .ok (.iload 9, 2) := by decide +kernel
theorem dL_leaves_465 : decode cL_leaves 465 = .ok (.aload_n 3, 1) := by decide +kernel
theorem dL_leaves_466 : decode cL_leaves 466 = .ok (.aload 5, 2) := by decide +kernel
theorem dL_leaves_468 : decode cL_leaves 468 = .ok (.aload 6, 2) := by decide +kernel
theorem dL_leaves_470 : decode cL_leaves 470 = .ok (.aload 7, 2) := by decide +kernel
theorem dL_leaves_472 : decode cL_leaves 472 = .ok (.aload 8, 2) := by decide +kernel
theorem dL_leaves_474 : decode cL_leaves 474 = .ok (.invokestatic 98, 3) := by decide +kernel
theorem dL_leaves_477 : decode cL_leaves 477 = .ok (.istore 15, 2) := by decide +kernel
theorem dL_leaves_479 : decode cL_leaves 479 = .ok (.aload_n 0, 1) := by decide +kernel
theorem dL_leaves_480 : decode cL_leaves 480 = .ok (.iload 9, 2) := by decide +kernel
theorem dL_leaves_482 : decode cL_leaves 482 = .ok (.invokestatic 151, 3) := by decide +kernel
theorem dL_leaves_485 : decode cL_leaves 485 = .ok (.iload 15, 2) := by decide +kernel
theorem dL_leaves_487 : decode cL_leaves 487 = .ok (.if_icmp .ne 7, 3) := by decide +kernel
theorem dL_leaves_490 : decode cL_leaves 490 = .ok (.iconst 1, 1) := by decide +kernel
theorem dL_leaves_491 : decode cL_leaves 491 = .ok (.goto 4, 3) := by decide +kernel
theorem dL_leaves_494 : decode cL_leaves 494 = .ok (.iconst 0, 1) := by decide +kernel
theorem dL_leaves_495 : decode cL_leaves 495 = .ok (.ireturn, 1) := by decide +kernel
theorem dL_areLeaves_0 : decode cL_areLeaves 0 = .ok (.iconst 0, 1) := by decide +kernel
theorem dL_areLeaves_1 : decode cL_areLeaves 1 = .ok (.istore 5, 2) := by decide +kernel
theorem dL_areLeaves_3 : decode cL_areLeaves 3 = .ok (.iload 5, 2) := by decide +kernel
theorem dL_areLeaves_5 : decode cL_areLeaves 5 = .ok (.aload_n 1, 1) := by decide +kernel
theorem dL_areLeaves_6 : decode cL_areLeaves 6 = .ok (.iconst 1, 1) := by decide +kernel
theorem dL_areLeaves_7 : decode cL_areLeaves 7 = .ok (.iaload, 1) := by decide +kernel
theorem dL_areLeaves_8 : decode cL_areLeaves 8 = .ok (.if_icmp .ge 296, 3) := by decide +kernel
theorem dL_areLeaves_11 : decode cL_areLeaves 11 = .ok (.iload 5, 2) := by decide +kernel
theorem dL_areLeaves_13 : decode cL_areLeaves 13 = .ok (.aload_n 3, 1) := by decide +kernel
theorem dL_areLeaves_14 : decode cL_areLeaves 14 = .ok (.invokestatic 69, 3) := by decide +kernel
theorem dL_areLeaves_17 : decode cL_areLeaves 17 = .ok (.istore 6, 2) := by decide +kernel
theorem dL_areLeaves_19 : decode cL_areLeaves 19 = .ok (.iconst 0, 1) := by decide +kernel
theorem dL_areLeaves_20 : decode cL_areLeaves 20 = .ok (.istore 7, 2) := by decide +kernel
theorem dL_areLeaves_22 : decode cL_areLeaves 22 = .ok (.iconst 0, 1) := by decide +kernel
theorem dL_areLeaves_23 : decode cL_areLeaves 23 = .ok (.istore 8, 2) := by decide +kernel
theorem dL_areLeaves_25 : decode cL_areLeaves 25 = .ok (.iload 8, 2) := by decide +kernel
theorem dL_areLeaves_27 : decode cL_areLeaves 27 = .ok (.bipush 15, 2) := by decide +kernel
theorem dL_areLeaves_29 : decode cL_areLeaves 29 = .ok (.if_icmp .ge 49, 3) := by decide +kernel
theorem dL_areLeaves_32 : decode cL_areLeaves 32 = .ok (.iload 7, 2) := by decide +kernel
theorem dL_areLeaves_34 : decode cL_areLeaves 34 = .ok (.aload 4, 2) := by decide +kernel
theorem dL_areLeaves_36 : decode cL_areLeaves 36 = .ok (.iconst 2, 1) := by decide +kernel
theorem dL_areLeaves_37 : decode cL_areLeaves 37 = .ok (.iload 8, 2) := by decide +kernel
theorem dL_areLeaves_39 : decode cL_areLeaves 39 = .ok (.imul, 1) := by decide +kernel
theorem dL_areLeaves_40 : decode cL_areLeaves 40 = .ok (.iaload, 1) := by decide +kernel
theorem dL_areLeaves_41 : decode cL_areLeaves 41 = .ok (.iconst 2, 1) := by decide +kernel
theorem dL_areLeaves_42 : decode cL_areLeaves 42 = .ok (.if_icmp .ne 26, 3) := by decide +kernel
theorem dL_areLeaves_45 : decode cL_areLeaves 45 = .ok (.aload 4, 2) := by decide +kernel
theorem dL_areLeaves_47 : decode cL_areLeaves 47 = .ok (.iconst 2, 1) := by decide +kernel
theorem dL_areLeaves_48 : decode cL_areLeaves 48 = .ok (.iload 8, 2) := by decide +kernel
theorem dL_areLeaves_50 : decode cL_areLeaves 50 = .ok (.imul, 1) := by decide +kernel
theorem dL_areLeaves_51 : decode cL_areLeaves 51 = .ok (.iconst 1, 1) := by decide +kernel
theorem dL_areLeaves_52 : decode cL_areLeaves 52 = .ok (.iadd, 1) := by decide +kernel
theorem dL_areLeaves_53 : decode cL_areLeaves 53 = .ok (.iaload, 1) := by decide +kernel
theorem dL_areLeaves_54 : decode cL_areLeaves 54 = .ok (.iload 5, 2) := by decide +kernel
theorem dL_areLeaves_56 : decode cL_areLeaves 56 = .ok (.if_icmp .ne 12, 3) := by decide +kernel
theorem dL_areLeaves_59 : decode cL_areLeaves 59 = .ok (.iconst 1, 1) := by decide +kernel
theorem dL_areLeaves_60 : decode cL_areLeaves 60 = .ok (.iload 8, 2) := by decide +kernel
theorem dL_areLeaves_62 : decode cL_areLeaves 62 = .ok (.iconst 3, 1) := by decide +kernel
theorem dL_areLeaves_63 : decode cL_areLeaves 63 = .ok (.idiv, 1) := by decide +kernel
theorem dL_areLeaves_64 : decode cL_areLeaves 64 = .ok (.ishl, 1) := by decide +kernel
theorem dL_areLeaves_65 : decode cL_areLeaves 65 = .ok (.goto 4, 3) := by decide +kernel
theorem dL_areLeaves_68 : decode cL_areLeaves 68 = .ok (.iconst 0, 1) := by decide +kernel
theorem dL_areLeaves_69 : decode cL_areLeaves 69 = .ok (.ior, 1) := by decide +kernel
theorem dL_areLeaves_70 : decode cL_areLeaves 70 = .ok (.istore 7, 2) := by decide +kernel
theorem dL_areLeaves_72 : decode cL_areLeaves 72 = .ok (.iinc 8 1, 3) := by decide +kernel
theorem dL_areLeaves_75 : decode cL_areLeaves 75 = .ok (.goto (-50), 3) := by decide +kernel
theorem dL_areLeaves_78 : decode cL_areLeaves 78 = .ok (.aload_n 0, 1) := by decide +kernel
theorem dL_areLeaves_79 : decode cL_areLeaves 79 = .ok (.iload 5, 2) := by decide +kernel
theorem dL_areLeaves_81 : decode cL_areLeaves 81 = .ok (.iconst 0, 1) := by decide +kernel
theorem dL_areLeaves_82 : decode cL_areLeaves 82 = .ok (.invokevirtual 153, 3) := by decide +kernel
theorem dL_areLeaves_85 : decode cL_areLeaves 85 = .ok (.aload_n 3, 1) := by decide +kernel
theorem dL_areLeaves_86 : decode cL_areLeaves 86 = .ok (.iload 5, 2) := by decide +kernel
theorem dL_areLeaves_88 : decode cL_areLeaves 88 = .ok (.iaload, 1) := by decide +kernel
theorem dL_areLeaves_89 : decode cL_areLeaves 89 = .ok (.bipush 10, 2) := by decide +kernel
theorem dL_areLeaves_91 : decode cL_areLeaves 91 = .ok (.irem, 1) := by decide +kernel
theorem dL_areLeaves_92 : decode cL_areLeaves 92 = .ok (.if_icmp .ne 144, 3) := by decide +kernel
theorem dL_areLeaves_95 : decode cL_areLeaves 95 = .ok (.aload_n 0, 1) := by decide +kernel
theorem dL_areLeaves_96 : decode cL_areLeaves 96 = .ok (.iload 5, 2) := by decide +kernel
theorem dL_areLeaves_98 : decode cL_areLeaves 98 = .ok (.iconst 1, 1) := by decide +kernel
theorem dL_areLeaves_99 : decode cL_areLeaves 99 = .ok (.invokevirtual 153, 3) := by decide +kernel
theorem dL_areLeaves_102 : decode cL_areLeaves 102 = .ok (.iload 6, 2) := by decide +kernel
theorem dL_areLeaves_104 : decode cL_areLeaves 104 = .ok (.iconst (-1), 1) := by decide +kernel
theorem dL_areLeaves_105 : decode cL_areLeaves 105 = .ok (.if_icmp .ne 7, 3) := by decide +kernel
theorem dL_areLeaves_108 : decode cL_areLeaves 108 = .ok (.iconst 0, 1) := by decide +kernel
theorem dL_areLeaves_109 : decode cL_areLeaves 109 = .ok (.goto 15, 3) := by decide +kernel
theorem dL_areLeaves_112 : decode cL_areLeaves 112 = .ok (.iload 6, 2) := by decide +kernel
theorem dL_areLeaves_114 : decode cL_areLeaves 114 = .ok (.bipush (-2), 2) := by decide +kernel
theorem dL_areLeaves_116 : decode cL_areLeaves 116 = .ok (.if_icmp .ne 7, 3) := by decide +kernel
theorem dL_areLeaves_119 : decode cL_areLeaves 119 = .ok (.iconst 2, 1) := by decide +kernel
theorem dL_areLeaves_120 : decode cL_areLeaves 120 = .ok (.goto 4, 3) := by decide +kernel
theorem dL_areLeaves_123 : decode cL_areLeaves 123 = .ok (.iconst 1, 1) := by decide +kernel
theorem dL_areLeaves_124 : decode cL_areLeaves 124 = .ok (.if_icmp .ne 112, 3) := by decide +kernel
theorem dL_areLeaves_127 : decode cL_areLeaves 127 = .ok (.aload_n 0, 1) := by decide +kernel
theorem dL_areLeaves_128 : decode cL_areLeaves 128 = .ok (.iload 5, 2) := by decide +kernel
theorem dL_areLeaves_130 : decode cL_areLeaves 130 = .ok (.iconst 2, 1) := by decide +kernel
theorem dL_areLeaves_131 : decode cL_areLeaves 131 = .ok (.invokevirtual 153, 3) := by decide +kernel
theorem dL_areLeaves_134 : decode cL_areLeaves 134 = .ok (.iload 5, 2) := by decide +kernel
theorem dL_areLeaves_136 : decode cL_areLeaves 136 = .ok (.aload_n 3, 1) := by decide +kernel
theorem dL_areLeaves_137 : decode cL_areLeaves 137 = .ok (.invokestatic 156, 3) := by decide +kernel
theorem dL_areLeaves_140 : decode cL_areLeaves 140 = .ok (.if_icmp .ne 96, 3) := by decide +kernel
theorem dL_areLeaves_143 : decode cL_areLeaves 143 = .ok (.aload_n 0, 1) := by decide +kernel
theorem dL_areLeaves_144 : decode cL_areLeaves 144 = .ok (.iload 5, 2) := by decide +kernel
theorem dL_areLeaves_146 : decode cL_areLeaves 146 = .ok (.iconst 3, 1) := by decide +kernel
theorem dL_areLeaves_147 : decode cL_areLeaves 147 = .ok (.invokevirtual 153, 3) := by decide +kernel
theorem dL_areLeaves_150 : decode cL_areLeaves 150 = .ok (.iload 5, 2) := by decide +kernel
theorem dL_areLeaves_152 : decode cL_areLeaves 152 = .ok (.aload_n 3, 1) := by decide +kernel
theorem dL_areLeaves_153 : decode cL_areLeaves 153 = .ok (.invokestatic 79, 3) := by decide +kernel
theorem dL_areLeaves_156 : decode cL_areLeaves 156 = .ok (.if_icmp .ne 80, 3) := by decide +kernel
theorem dL_areLeaves_159 : decode cL_areLeaves 159 = .ok (.aload_n 0, 1) := by decide +kernel
theorem dL_areLeaves_160 : decode cL_areLeaves 160 = .ok (.iload 5, 2) := by decide +kernel
theorem dL_areLeaves_162 : decode cL_areLeaves 162 = .ok (.iconst 4, 1) := by decide +kernel
theorem dL_areLeaves_163 : decode cL_areLeaves 163 = .ok (.invokevirtual 153, 3) := by decide +kernel
theorem dL_areLeaves_166 : decode cL_areLeaves 166 = .ok (.iload 6, 2) := by decide +kernel
theorem dL_areLeaves_168 : decode cL_areLeaves 168 = .ok (.ifCond .ge 7, 3) := by decide +kernel
theorem dL_areLeaves_171 : decode cL_areLeaves 171 = .ok (.iconst (-1), 1) := by decide +kernel
theorem dL_areLeaves_172 : decode cL_areLeaves 172 = .ok (.goto 5, 3) := by decide +kernel
theorem dL_areLeaves_175 : decode cL_areLeaves 175 = .ok (.iload 6, 2) := by decide +kernel
theorem dL_areLeaves_177 : decode cL_areLeaves 177 = .ok (.if_icmp .ne 59, 3) := by decide +kernel
theorem dL_areLeaves_180 : decode cL_areLeaves 180 = .ok (.aload_n 0, 1) := by decide +kernel
theorem dL_areLeaves_181 : decode cL_areLeaves 181 = .ok (.iload 5, 2) := by decide +kernel
theorem dL_areLeaves_183 : decode cL_areLeaves 183 = .ok (.iconst 5, 1) := by decide +kernel
theorem dL_areLeaves_184 : decode cL_areLeaves 184 = .ok (.invokevirtual 153, 3) := by decide +kernel
theorem dL_areLeaves_187 : decode cL_areLeaves 187 = .ok (.iload 7, 2) := by decide +kernel
theorem dL_areLeaves_189 : decode cL_areLeaves 189 = .ok (.if_icmp .ne 47, 3) := by decide +kernel
theorem dL_areLeaves_192 : decode cL_areLeaves 192 = .ok (.aload_n 0, 1) := by decide +kernel
theorem dL_areLeaves_193 : decode cL_areLeaves 193 = .ok (.iload 5, 2) := by decide +kernel
theorem dL_areLeaves_195 : decode cL_areLeaves 195 = .ok (.bipush 6, 2) := by decide +kernel
theorem dL_areLeaves_197 : decode cL_areLeaves 197 = .ok (.invokevirtual 153, 3) := by decide +kernel
theorem dL_areLeaves_200 : decode cL_areLeaves 200 = .ok (.iload 5, 2) := by decide +kernel
theorem dL_areLeaves_202 : decode cL_areLeaves 202 = .ok (.iconst 2, 1) := by decide +kernel
theorem dL_areLeaves_203 : decode cL_areLeaves 203 = .ok (.iconst (-1), 1) := by decide +kernel
theorem dL_areLeaves_204 : decode cL_areLeaves 204 = .ok (.aload 4, 2) := by decide +kernel
theorem dL_areLeaves_206 : decode cL_areLeaves 206 = .ok (.invokestatic 75, 3) := by decide +kernel
theorem dL_areLeaves_209 : decode cL_areLeaves 209 = .ok (.if_icmp .ne 27, 3) := by decide +kernel
theorem dL_areLeaves_212 : decode cL_areLeaves 212 = .ok (.aload_n 0, 1) := by decide +kernel
theorem dL_areLeaves_213 : decode cL_areLeaves 213 = .ok (.iload 5, 2) := by decide +kernel
theorem dL_areLeaves_215 : decode cL_areLeaves 215 = .ok (.bipush 7, 2) := by decide +kernel
theorem dL_areLeaves_217 : decode cL_areLeaves 217 = .ok (.invokevirtual 153, 3) := by decide +kernel
theorem dL_areLeaves_220 : decode cL_areLeaves 220 = .ok (.iload 5, 2) := by decide +kernel
theorem dL_areLeaves_222 : decode cL_areLeaves 222 = .ok (.iconst 1, 1) := by decide +kernel
theorem dL_areLeaves_223 : decode cL_areLeaves 223 = .ok (.iconst (-1), 1) := by decide +kernel
theorem dL_areLeaves_224 : decode cL_areLeaves 224 = .ok (.aload 4, 2) := by decide +kernel
theorem dL_areLeaves_226 : decode cL_areLeaves 226 = .ok (.invokestatic 75, 3) := by decide +kernel
theorem dL_areLeaves_229 : decode cL_areLeaves 229 = .ok (.if_icmp .ne 7, 3) := by decide +kernel
theorem dL_areLeaves_232 : decode cL_areLeaves 232 = .ok (.iconst 1, 1) := by decide +kernel
theorem dL_areLeaves_233 : decode cL_areLeaves 233 = .ok (.goto 4, 3) := by decide +kernel
theorem dL_areLeaves_236 : decode cL_areLeaves 236 = .ok (.iconst 0, 1) := by decide +kernel
theorem dL_areLeaves_237 : decode cL_areLeaves 237 = .ok (.istore 8, 2) := by decide +kernel
theorem dL_areLeaves_239 : decode cL_areLeaves 239 = .ok (.iload 8, 2) := by decide +kernel
theorem dL_areLeaves_241 : decode cL_areLeaves 241 = .ok (.ifCond .eq 55, 3) := by decide +kernel
theorem dL_areLeaves_244 : decode cL_areLeaves 244 = .ok (.aload_n 0, 1) := by decide +kernel
theorem dL_areLeaves_245 : decode cL_areLeaves 245 = .ok (.iload 5, 2) := by decide +kernel
theorem dL_areLeaves_247 : decode cL_areLeaves 247 = .ok (.invokevirtual 159, 3) := by decide +kernel
theorem dL_areLeaves_250 : decode cL_areLeaves 250 = .ok (.iload 6, 2) := by decide +kernel
theorem dL_areLeaves_252 : decode cL_areLeaves 252 = .ok (.bipush (-2), 2) := by decide +kernel
theorem dL_areLeaves_254 : decode cL_areLeaves 254 = .ok (.if_icmp .ne 7, 3) := by decide +kernel
theorem dL_areLeaves_257 : decode cL_areLeaves 257 = .ok (.iconst 0, 1) := by decide +kernel
theorem dL_areLeaves_258 : decode cL_areLeaves 258 = .ok (.goto 35, 3) := by decide +kernel
theorem dL_areLeaves_261 : decode cL_areLeaves 261 = .ok (.iload 6, 2) := by decide +kernel
theorem dL_areLeaves_263 : decode cL_areLeaves 263 = .ok (.iconst (-1), 1) := by decide +kernel
theorem dL_areLeaves_264 : decode cL_areLeaves 264 = .ok (.if_icmp .ne 7, 3) := by decide +kernel
theorem dL_areLeaves_267 : decode cL_areLeaves 267 = .ok (.iconst 1, 1) := by decide +kernel
theorem dL_areLeaves_268 : decode cL_areLeaves 268 = .ok (.goto 25, 3) := by decide +kernel
theorem dL_areLeaves_271 : decode cL_areLeaves 271 = .ok (.iload 5, 2) := by decide +kernel
theorem dL_areLeaves_273 : decode cL_areLeaves 273 = .ok (.aload_n 1, 1) := by decide +kernel
theorem dL_areLeaves_274 : decode cL_areLeaves 274 = .ok (.bipush 8, 2) := by decide +kernel
theorem dL_areLeaves_276 : decode cL_areLeaves 276 = .ok (.iaload, 1) := by decide +kernel
theorem dL_areLeaves_277 : decode cL_areLeaves 277 = .ok (.iconst (-1), 1) := by decide +kernel
theorem dL_areLeaves_278 : decode cL_areLeaves 278 = .ok (.aload_n 1, 1) := by decide +kernel
theorem dL_areLeaves_279 : decode cL_areLeaves 279 = .ok (.aload_n 3, 1) := by decide +kernel
theorem dL_areLeaves_280 : decode cL_areLeaves 280 = .ok (.aload 4, 2) := by decide +kernel
theorem dL_areLeaves_282 : decode cL_areLeaves 282 = .ok (.invokestatic 82, 3) := by decide +kernel
theorem dL_areLeaves_285 : decode cL_areLeaves 285 = .ok (.ifCond .eq 7, 3) := by decide +kernel
theorem dL_areLeaves_288 : decode cL_areLeaves 288 = .ok (.iconst 3, 1) := by decide +kernel
theorem dL_areLeaves_289 : decode cL_areLeaves 289 = .ok (.goto 4, 3) := by decide +kernel
theorem dL_areLeaves_292 : decode cL_areLeaves 292 = .ok (.iconst 2, 1) := by decide +kernel
theorem dL_areLeaves_293 : decode cL_areLeaves 293 = .ok (.if_icmp .eq 5, 3) := by decide +kernel
theorem dL_areLeaves_296 : decode cL_areLeaves 296 = .ok (.iconst 0, 1) := by decide +kernel
theorem dL_areLeaves_297 : decode cL_areLeaves 297 = .ok (.ireturn, 1) := by decide +kernel
theorem dL_areLeaves_298 : decode cL_areLeaves 298 = .ok (.iinc 5 1, 3) := by decide +kernel
theorem dL_areLeaves_301 : decode cL_areLeaves 301 = .ok (.goto (-298), 3) := by decide +kernel
theorem dL_areLeaves_304 : decode cL_areLeaves 304 = .ok (.iconst 0, 1) := by decide +kernel
theorem dL_areLeaves_305 : decode cL_areLeaves 305 = .ok (.istore 5, 2) := by decide +kernel
theorem dL_areLeaves_307 : decode cL_areLeaves 307 = .ok (.iload 5, 2) := by decide +kernel
theorem dL_areLeaves_309 : decode cL_areLeaves 309 = .ok (.bipush 12, 2) := by decide +kernel
theorem dL_areLeaves_311 : decode cL_areLeaves 311 = .ok (.if_icmp .ge 24, 3) := by decide +kernel
theorem dL_areLeaves_314 : decode cL_areLeaves 314 = .ok (.aload_n 0, 1) := by decide +kernel
theorem dL_areLeaves_315 : decode cL_areLeaves 315 = .ok (.iload 5, 2) := by decide +kernel
theorem dL_areLeaves_317 : decode cL_areLeaves 317 = .ok (.invokevirtual 162, 3) := by decide +kernel
theorem dL_areLeaves_320 : decode cL_areLeaves 320 = .ok (.aload_n 2, 1) := by decide +kernel
theorem dL_areLeaves_321 : decode cL_areLeaves 321 = .ok (.iload 5, 2) := by decide +kernel
theorem dL_areLeaves_323 : decode cL_areLeaves 323 = .ok (.iaload, 1) := by decide +kernel
theorem dL_areLeaves_324 : decode cL_areLeaves 324 = .ok (.if_icmp .eq 5, 3) := by decide +kernel
theorem dL_areLeaves_327 : decode cL_areLeaves 327 = .ok (.iconst 0, 1) := by decide +kernel
theorem dL_areLeaves_328 : decode cL_areLeaves 328 = .ok (.ireturn, 1) := by decide +kernel
theorem dL_areLeaves_329 : decode cL_areLeaves 329 = .ok (.iinc 5 1, 3) := by decide +kernel
theorem dL_areLeaves_332 : decode cL_areLeaves 332 = .ok (.goto (-25), 3) := by decide +kernel
theorem dL_areLeaves_335 : decode cL_areLeaves 335 = .ok (.iconst 1, 1) := by decide +kernel
theorem dL_areLeaves_336 : decode cL_areLeaves 336 = .ok (.ireturn, 1) := by decide +kernel
theorem dL_isChild_0 : decode cL_isChild 0 = .ok (.iconst 0, 1) := by decide +kernel
theorem dL_isChild_1 : decode cL_isChild 1 = .ok (.istore 7, 2) := by decide +kernel
theorem dL_isChild_3 : decode cL_isChild 3 = .ok (.iconst 0, 1) := by decide +kernel
theorem dL_isChild_4 : decode cL_isChild 4 = .ok (.istore 8, 2) := by decide +kernel
theorem dL_isChild_6 : decode cL_isChild 6 = .ok (.iconst 0, 1) := by decide +kernel
theorem dL_isChild_7 : decode cL_isChild 7 = .ok (.istore 9, 2) := by decide +kernel
theorem dL_isChild_9 : decode cL_isChild 9 = .ok (.iload 9, 2) := by decide +kernel
theorem dL_isChild_11 : decode cL_isChild 11 = .ok (.iconst 3, 1) := by decide +kernel
theorem dL_isChild_12 : decode cL_isChild 12 = .ok (.if_icmp .ge 181, 3) := by decide +kernel
theorem dL_isChild_15 : decode cL_isChild 15 = .ok (.aload 6, 2) := by decide +kernel
theorem dL_isChild_17 : decode cL_isChild 17 = .ok (.bipush 6, 2) := by decide +kernel
theorem dL_isChild_19 : decode cL_isChild 19 = .ok (.iload_n 1, 1) := by decide +kernel
theorem dL_isChild_20 : decode cL_isChild 20 = .ok (.imul, 1) := by decide +kernel
theorem dL_isChild_21 : decode cL_isChild 21 = .ok (.iconst 2, 1) := by decide +kernel
theorem dL_isChild_22 : decode cL_isChild 22 = .ok (.iload 9, 2) := by decide +kernel
theorem dL_isChild_24 : decode cL_isChild 24 = .ok (.imul, 1) := by decide +kernel
theorem dL_isChild_25 : decode cL_isChild 25 = .ok (.iadd, 1) := by decide +kernel
theorem dL_isChild_26 : decode cL_isChild 26 = .ok (.iaload, 1) := by decide +kernel
theorem dL_isChild_27 : decode cL_isChild 27 = .ok (.istore 10, 2) := by decide +kernel
theorem dL_isChild_29 : decode cL_isChild 29 = .ok (.aload 6, 2) := by decide +kernel
theorem dL_isChild_31 : decode cL_isChild 31 = .ok (.bipush 6, 2) := by decide +kernel
theorem dL_isChild_33 : decode cL_isChild 33 = .ok (.iload_n 1, 1) := by decide +kernel
theorem dL_isChild_34 : decode cL_isChild 34 = .ok (.imul, 1) := by decide +kernel
theorem dL_isChild_35 : decode cL_isChild 35 = .ok (.iconst 2, 1) := by decide +kernel
theorem dL_isChild_36 : decode cL_isChild 36 = .ok (.iload 9, 2) := by decide +kernel
theorem dL_isChild_38 : decode cL_isChild 38 = .ok (.imul, 1) := by decide +kernel
theorem dL_isChild_39 : decode cL_isChild 39 = .ok (.iadd, 1) := by decide +kernel
theorem dL_isChild_40 : decode cL_isChild 40 = .ok (.iconst 1, 1) := by decide +kernel
theorem dL_isChild_41 : decode cL_isChild 41 = .ok (.iadd, 1) := by decide +kernel
theorem dL_isChild_42 : decode cL_isChild 42 = .ok (.iaload, 1) := by decide +kernel
theorem dL_isChild_43 : decode cL_isChild 43 = .ok (.istore 11, 2) := by decide +kernel
theorem dL_isChild_45 : decode cL_isChild 45 = .ok (.iload 10, 2) := by decide +kernel
theorem dL_isChild_47 : decode cL_isChild 47 = .ok (.iconst 2, 1) := by decide +kernel
theorem dL_isChild_48 : decode cL_isChild 48 = .ok (.if_icmp .ne 29, 3) := by decide +kernel
theorem dL_isChild_51 : decode cL_isChild 51 = .ok (.iload 11, 2) := by decide +kernel
theorem dL_isChild_53 : decode cL_isChild 53 = .ok (.aload_n 3, 1) := by decide +kernel
theorem dL_isChild_54 : decode cL_isChild 54 = .ok (.invokestatic 69, 3) := by decide +kernel
theorem dL_isChild_57 : decode cL_isChild 57 = .ok (.ifCond .lt 20, 3) := by decide +kernel
theorem dL_isChild_60 : decode cL_isChild 60 = .ok (.iload 11, 2) := by decide +kernel
theorem dL_isChild_62 : decode cL_isChild 62 = .ok (.iconst 2, 1) := by decide +kernel
theorem dL_isChild_63 : decode cL_isChild 63 = .ok (.iconst (-1), 1) := by decide +kernel
theorem dL_isChild_64 : decode cL_isChild 64 = .ok (.aload 6, 2) := by decide +kernel
theorem dL_isChild_66 : decode cL_isChild 66 = .ok (.invokestatic 75, 3) := by decide +kernel
theorem dL_isChild_69 : decode cL_isChild 69 = .ok (.iconst 1, 1) := by decide +kernel
theorem dL_isChild_70 : decode cL_isChild 70 = .ok (.if_icmp .ne 7, 3) := by decide +kernel
theorem dL_isChild_73 : decode cL_isChild 73 = .ok (.iconst 1, 1) := by decide +kernel
theorem dL_isChild_74 : decode cL_isChild 74 = .ok (.goto 4, 3) := by decide +kernel
theorem dL_isChild_77 : decode cL_isChild 77 = .ok (.iconst 0, 1) := by decide +kernel
theorem dL_isChild_78 : decode cL_isChild 78 = .ok (.istore 12, 2) := by decide +kernel
theorem dL_isChild_80 : decode cL_isChild 80 = .ok (.iload 7, 2) := by decide +kernel
theorem dL_isChild_82 : decode cL_isChild 82 = .ok (.iload 10, 2) := by decide +kernel
theorem dL_isChild_84 : decode cL_isChild 84 = .ok (.iconst 2, 1) := by decide +kernel
theorem dL_isChild_85 : decode cL_isChild 85 = .ok (.if_icmp .ne 7, 3) := by decide +kernel
theorem dL_isChild_88 : decode cL_isChild 88 = .ok (.iconst 1, 1) := by decide +kernel
theorem dL_isChild_89 : decode cL_isChild 89 = .ok (.goto 4, 3) := by decide +kernel
theorem dL_isChild_92 : decode cL_isChild 92 = .ok (.iconst 0, 1) := by decide +kernel
theorem dL_isChild_93 : decode cL_isChild 93 = .ok (.iadd, 1) := by decide +kernel
theorem dL_isChild_94 : decode cL_isChild 94 = .ok (.istore 7, 2) := by decide +kernel
theorem dL_isChild_96 : decode cL_isChild 96 = .ok (.iload 8, 2) := by decide +kernel
theorem dL_isChild_98 : decode cL_isChild 98 = .ok (.iload 10, 2) := by decide +kernel
theorem dL_isChild_100 : decode cL_isChild 100 = .ok (.iconst 1, 1) := by decide +kernel
theorem dL_isChild_101 : decode cL_isChild 101 = .ok (.if_icmp .ne 7, 3) := by decide +kernel
theorem dL_isChild_104 : decode cL_isChild 104 = .ok (.iconst 1, 1) := by decide +kernel
theorem dL_isChild_105 : decode cL_isChild 105 = .ok (.goto 4, 3) := by decide +kernel
theorem dL_isChild_108 : decode cL_isChild 108 = .ok (.iconst 0, 1) := by decide +kernel
theorem dL_isChild_109 : decode cL_isChild 109 = .ok (.iadd, 1) := by decide +kernel
theorem dL_isChild_110 : decode cL_isChild 110 = .ok (.istore 8, 2) := by decide +kernel
theorem dL_isChild_112 : decode cL_isChild 112 = .ok (.aload_n 0, 1) := by decide +kernel
theorem dL_isChild_113 : decode cL_isChild 113 = .ok (.iload_n 1, 1) := by decide +kernel
theorem dL_isChild_114 : decode cL_isChild 114 = .ok (.iload 9, 2) := by decide +kernel
theorem dL_isChild_116 : decode cL_isChild 116 = .ok (.iconst 0, 1) := by decide +kernel
theorem dL_isChild_117 : decode cL_isChild 117 = .ok (.invokevirtual 164, 3) := by decide +kernel
theorem dL_isChild_120 : decode cL_isChild 120 = .ok (.iload 10, 2) := by decide +kernel
theorem dL_isChild_122 : decode cL_isChild 122 = .ok (.if_icmp .ne 63, 3) := by decide +kernel
theorem dL_isChild_125 : decode cL_isChild 125 = .ok (.aload_n 0, 1) := by decide +kernel
theorem dL_isChild_126 : decode cL_isChild 126 = .ok (.iload_n 1, 1) := by decide +kernel
theorem dL_isChild_127 : decode cL_isChild 127 = .ok (.iload 9, 2) := by decide +kernel
theorem dL_isChild_129 : decode cL_isChild 129 = .ok (.iconst 1, 1) := by decide +kernel
theorem dL_isChild_130 : decode cL_isChild 130 = .ok (.invokevirtual 164, 3) := by decide +kernel
theorem dL_isChild_133 : decode cL_isChild 133 = .ok (.iload 11, 2) := by decide +kernel
theorem dL_isChild_135 : decode cL_isChild 135 = .ok (.if_icmp .ne 50, 3) := by decide +kernel
theorem dL_isChild_138 : decode cL_isChild 138 = .ok (.aload_n 0, 1) := by decide +kernel
theorem dL_isChild_139 : decode cL_isChild 139 = .ok (.iload_n 1, 1) := by decide +kernel
theorem dL_isChild_140 : decode cL_isChild 140 = .ok (.iload 9, 2) := by decide +kernel
theorem dL_isChild_142 : decode cL_isChild 142 = .ok (.iconst 2, 1) := by decide +kernel
theorem dL_isChild_143 : decode cL_isChild 143 = .ok (.invokevirtual 164, 3) := by decide +kernel
theorem dL_isChild_146 : decode cL_isChild 146 = .ok (.iload 10, 2) := by decide +kernel
theorem dL_isChild_148 : decode cL_isChild 148 = .ok (.iconst 1, 1) := by decide +kernel
theorem dL_isChild_149 : decode cL_isChild 149 = .ok (.if_icmp .ne 12, 3) := by decide +kernel
theorem dL_isChild_152 : decode cL_isChild 152 = .ok (.iload 11, 2) := by decide +kernel
theorem dL_isChild_154 : decode cL_isChild 154 = .ok (.aload_n 3, 1) := by decide +kernel
theorem dL_isChild_155 : decode cL_isChild 155 = .ok (.invokestatic 156, 3) := by decide +kernel
theorem dL_isChild_158 : decode cL_isChild 158 = .ok (.goto 4, 3) := by decide +kernel
theorem dL_isChild_161 : decode cL_isChild 161 = .ok (.iconst (-1), 1) := by decide +kernel
theorem dL_isChild_162 : decode cL_isChild 162 = .ok (.if_icmp .ne 23, 3) := by decide +kernel
theorem dL_isChild_165 : decode cL_isChild 165 = .ok (.aload_n 0, 1) := by decide +kernel
theorem dL_isChild_166 : decode cL_isChild 166 = .ok (.iload_n 1, 1) := by decide +kernel
theorem dL_isChild_167 : decode cL_isChild 167 = .ok (.iload 9, 2) := by decide +kernel
theorem dL_isChild_169 : decode cL_isChild 169 = .ok (.invokevirtual 167, 3) := by decide +kernel
theorem dL_isChild_172 : decode cL_isChild 172 = .ok (.iload 12, 2) := by decide +kernel
theorem dL_isChild_174 : decode cL_isChild 174 = .ok (.ifCond .eq 7, 3) := by decide +kernel
theorem dL_isChild_177 : decode cL_isChild 177 = .ok (.iconst 1, 1) := by decide +kernel
theorem dL_isChild_178 : decode cL_isChild 178 = .ok (.goto 4, 3) := by decide +kernel
theorem dL_isChild_181 : decode cL_isChild 181 = .ok (.iconst 0, 1) := by decide +kernel
theorem dL_isChild_182 : decode cL_isChild 182 = .ok (.if_icmp .eq 5, 3) := by decide +kernel
theorem dL_isChild_185 : decode cL_isChild 185 = .ok (.iconst 0, 1) := by decide +kernel
theorem dL_isChild_186 : decode cL_isChild 186 = .ok (.ireturn, 1) := by decide +kernel
theorem dL_isChild_187 : decode cL_isChild 187 = .ok (.iinc 9 1, 3) := by decide +kernel
theorem dL_isChild_190 : decode cL_isChild 190 = .ok (.goto (-181), 3) := by decide +kernel
theorem dL_isChild_193 : decode cL_isChild 193 = .ok (.iconst 0, 1) := by decide +kernel
theorem dL_isChild_194 : decode cL_isChild 194 = .ok (.istore 9, 2) := by decide +kernel
theorem dL_isChild_196 : decode cL_isChild 196 = .ok (.iconst 0, 1) := by decide +kernel
theorem dL_isChild_197 : decode cL_isChild 197 = .ok (.istore 10, 2) := by decide +kernel
theorem dL_isChild_199 : decode cL_isChild 199 = .ok (.iconst 0, 1) := by decide +kernel
theorem dL_isChild_200 : decode cL_isChild 200 = .ok (.istore 11, 2) := by decide +kernel
theorem dL_isChild_202 : decode cL_isChild 202 = .ok (.iload 11, 2) := by decide +kernel
theorem dL_isChild_204 : decode cL_isChild 204 = .ok (.aload_n 2, 1) := by decide +kernel
theorem dL_isChild_205 : decode cL_isChild 205 = .ok (.bipush 9, 2) := by decide +kernel
theorem dL_isChild_207 : decode cL_isChild 207 = .ok (.iaload, 1) := by decide +kernel
theorem dL_isChild_208 : decode cL_isChild 208 = .ok (.if_icmp .ge 75, 3) := by decide +kernel
theorem dL_isChild_211 : decode cL_isChild 211 = .ok (.iload 10, 2) := by decide +kernel
theorem dL_isChild_213 : decode cL_isChild 213 = .ok (.aload 4, 2) := by decide +kernel
theorem dL_isChild_215 : decode cL_isChild 215 = .ok (.iload 11, 2) := by decide +kernel
theorem dL_isChild_217 : decode cL_isChild 217 = .ok (.iaload, 1) := by decide +kernel
theorem dL_isChild_218 : decode cL_isChild 218 = .ok (.aload_n 2, 1) := by decide +kernel
theorem dL_isChild_219 : decode cL_isChild 219 = .ok (.bipush 8, 2) := by decide +kernel
theorem dL_isChild_221 : decode cL_isChild 221 = .ok (.iaload, 1) := by decide +kernel
theorem dL_isChild_222 : decode cL_isChild 222 = .ok (.iload_n 1, 1) := by decide +kernel
theorem dL_isChild_223 : decode cL_isChild 223 = .ok (.aload_n 2, 1) := by decide +kernel
theorem dL_isChild_224 : decode cL_isChild 224 = .ok (.aload_n 3, 1) := by decide +kernel
theorem dL_isChild_225 : decode cL_isChild 225 = .ok (.aload 6, 2) := by decide +kernel
theorem dL_isChild_227 : decode cL_isChild 227 = .ok (.invokestatic 82, 3) := by decide +kernel
theorem dL_isChild_230 : decode cL_isChild 230 = .ok (.ifCond .eq 7, 3) := by decide +kernel
theorem dL_isChild_233 : decode cL_isChild 233 = .ok (.iconst 1, 1) := by decide +kernel
theorem dL_isChild_234 : decode cL_isChild 234 = .ok (.goto 4, 3) := by decide +kernel
theorem dL_isChild_237 : decode cL_isChild 237 = .ok (.iconst 0, 1) := by decide +kernel
theorem dL_isChild_238 : decode cL_isChild 238 = .ok (.iadd, 1) := by decide +kernel
theorem dL_isChild_239 : decode cL_isChild 239 = .ok (.istore 10, 2) := by decide +kernel
theorem dL_isChild_241 : decode cL_isChild 241 = .ok (.aload 4, 2) := by decide +kernel
theorem dL_isChild_243 : decode cL_isChild 243 = .ok (.iload 11, 2) := by decide +kernel
theorem dL_isChild_245 : decode cL_isChild 245 = .ok (.iaload, 1) := by decide +kernel
theorem dL_isChild_246 : decode cL_isChild 246 = .ok (.aload_n 3, 1) := by decide +kernel
theorem dL_isChild_247 : decode cL_isChild 247 = .ok (.invokestatic 69, 3) := by decide +kernel
theorem dL_isChild_250 : decode cL_isChild 250 = .ok (.iload_n 1, 1) := by decide +kernel
theorem dL_isChild_251 : decode cL_isChild 251 = .ok (.if_icmp .eq 6, 3) := by decide +kernel
theorem dL_isChild_254 : decode cL_isChild 254 = .ok (.goto 23, 3) := by decide +kernel
theorem dL_isChild_257 : decode cL_isChild 257 = .ok (.aload_n 0, 1) := by decide +kernel
theorem dL_isChild_258 : decode cL_isChild 258 = .ok (.iload_n 1, 1) := by decide +kernel
theorem dL_isChild_259 : decode cL_isChild 259 = .ok (.iload 9, 2) := by decide +kernel
theorem dL_isChild_261 : decode cL_isChild 261 = .ok (.invokevirtual 170, 3) := by decide +kernel
theorem dL_isChild_264 : decode cL_isChild 264 = .ok (.aload 4, 2) := by decide +kernel
theorem dL_isChild_266 : decode cL_isChild 266 = .ok (.iload 11, 2) := by decide +kernel
theorem dL_isChild_268 : decode cL_isChild 268 = .ok (.iaload, 1) := by decide +kernel
theorem dL_isChild_269 : decode cL_isChild 269 = .ok (.if_icmp .eq 5, 3) := by decide +kernel
theorem dL_isChild_272 : decode cL_isChild 272 = .ok (.iconst 0, 1) := by decide +kernel
theorem dL_isChild_273 : decode cL_isChild 273 = .ok (.ireturn, 1) := by decide +kernel
theorem dL_isChild_274 : decode cL_isChild 274 = .ok (.iinc 9 1, 3) := by decide +kernel
theorem dL_isChild_277 : decode cL_isChild 277 = .ok (.iinc 11 1, 3) := by decide +kernel
theorem dL_isChild_280 : decode cL_isChild 280 = .ok (.goto (-78), 3) := by decide +kernel
theorem dL_isChild_283 : decode cL_isChild 283 = .ok (.aload_n 0, 1) := by decide +kernel
theorem dL_isChild_284 : decode cL_isChild 284 = .ok (.iload_n 1, 1) := by decide +kernel
theorem dL_isChild_285 : decode cL_isChild 285 = .ok (.iconst 0, 1) := by decide +kernel
theorem dL_isChild_286 : decode cL_isChild 286 = .ok (.invokevirtual 66, 3) := by decide +kernel
theorem dL_isChild_289 : decode cL_isChild 289 = .ok (.aload 5, 2) := by decide +kernel
theorem dL_isChild_291 : decode cL_isChild 291 = .ok (.bipush 6, 2) := by decide +kernel
theorem dL_isChild_293 : decode cL_isChild 293 = .ok (.iload_n 1, 1) := by decide +kernel
theorem dL_isChild_294 : decode cL_isChild 294 = .ok (.imul, 1) := by decide +kernel
theorem dL_isChild_295 : decode cL_isChild 295 = .ok (.iconst 1, 1) := by decide +kernel
theorem dL_isChild_296 : decode cL_isChild 296 = .ok (.iadd, 1) := by decide +kernel
theorem dL_isChild_297 : decode cL_isChild 297 = .ok (.iaload, 1) := by decide +kernel
theorem dL_isChild_298 : decode cL_isChild 298 = .ok (.if_icmp .ne 135, 3) := by decide +kernel
theorem dL_isChild_301 : decode cL_isChild 301 = .ok (.aload_n 0, 1) := by decide +kernel
theorem dL_isChild_302 : decode cL_isChild 302 = .ok (.iload_n 1, 1) := by decide +kernel
theorem dL_isChild_303 : decode cL_isChild 303 = .ok (.iconst 1, 1) := by decide +kernel
theorem dL_isChild_304 : decode cL_isChild 304 = .ok (.invokevirtual 66, 3) := by decide +kernel
theorem dL_isChild_307 : decode cL_isChild 307 = .ok (.aload 5, 2) := by decide +kernel
theorem dL_isChild_309 : decode cL_isChild 309 = .ok (.bipush 6, 2) := by decide +kernel
theorem dL_isChild_311 : decode cL_isChild 311 = .ok (.iload_n 1, 1) := by decide +kernel
theorem dL_isChild_312 : decode cL_isChild 312 = .ok (.imul, 1) := by decide +kernel
theorem dL_isChild_313 : decode cL_isChild 313 = .ok (.iconst 2, 1) := by decide +kernel
theorem dL_isChild_314 : decode cL_isChild 314 = .ok (.iadd, 1) := by decide +kernel
theorem dL_isChild_315 : decode cL_isChild 315 = .ok (.iaload, 1) := by decide +kernel
theorem dL_isChild_316 : decode cL_isChild 316 = .ok (.if_icmp .ne 117, 3) := by decide +kernel
theorem dL_isChild_319 : decode cL_isChild 319 = .ok (.aload_n 0, 1) := by decide +kernel
theorem dL_isChild_320 : decode cL_isChild 320 = .ok (.iload_n 1, 1) := by decide +kernel
theorem dL_isChild_321 : decode cL_isChild 321 = .ok (.iconst 2, 1) := by decide +kernel
theorem dL_isChild_322 : decode cL_isChild 322 = .ok (.invokevirtual 66, 3) := by decide +kernel
theorem dL_isChild_325 : decode cL_isChild 325 = .ok (.iload 7, 2) := by decide +kernel
theorem dL_isChild_327 : decode cL_isChild 327 = .ok (.if_icmp .ne 106, 3) := by decide +kernel
theorem dL_isChild_330 : decode cL_isChild 330 = .ok (.aload_n 0, 1) := by decide +kernel
theorem dL_isChild_331 : decode cL_isChild 331 = .ok (.iload_n 1, 1) := by decide +kernel
theorem dL_isChild_332 : decode cL_isChild 332 = .ok (.iconst 3, 1) := by decide +kernel
theorem dL_isChild_333 : decode cL_isChild 333 = .ok (.invokevirtual 66, 3) := by decide +kernel
theorem dL_isChild_336 : decode cL_isChild 336 = .ok (.iload 8, 2) := by decide +kernel
theorem dL_isChild_338 : decode cL_isChild 338 = .ok (.if_icmp .ne 95, 3) := by decide +kernel
theorem dL_isChild_341 : decode cL_isChild 341 = .ok (.aload_n 0, 1) := by decide +kernel
theorem dL_isChild_342 : decode cL_isChild 342 = .ok (.iload_n 1, 1) := by decide +kernel
theorem dL_isChild_343 : decode cL_isChild 343 = .ok (.iconst 4, 1) := by decide +kernel
theorem dL_isChild_344 : decode cL_isChild 344 = .ok (.invokevirtual 66, 3) := by decide +kernel
theorem dL_isChild_347 : decode cL_isChild 347 = .ok (.iload 9, 2) := by decide +kernel
theorem dL_isChild_349 : decode cL_isChild 349 = .ok (.if_icmp .ne 84, 3) := by decide +kernel
theorem dL_isChild_352 : decode cL_isChild 352 = .ok (.aload_n 0, 1) := by decide +kernel
theorem dL_isChild_353 : decode cL_isChild 353 = .ok (.iload_n 1, 1) := by decide +kernel
theorem dL_isChild_354 : decode cL_isChild 354 = .ok (.iconst 5, 1) := by decide +kernel
theorem dL_isChild_355 : decode cL_isChild 355 = .ok (.invokevirtual 66, 3) := by decide +kernel
theorem dL_isChild_358 : decode cL_isChild 358 = .ok (.aload 5, 2) := by decide +kernel
theorem dL_isChild_360 : decode cL_isChild 360 = .ok (.bipush 6, 2) := by decide +kernel
theorem dL_isChild_362 : decode cL_isChild 362 = .ok (.iload_n 1, 1) := by decide +kernel
theorem dL_isChild_363 : decode cL_isChild 363 = .ok (.imul, 1) := by decide +kernel
theorem dL_isChild_364 : decode cL_isChild 364 = .ok (.iconst 3, 1) := by decide +kernel
theorem dL_isChild_365 : decode cL_isChild 365 = .ok (.iadd, 1) := by decide +kernel
theorem dL_isChild_366 : decode cL_isChild 366 = .ok (.iaload, 1) := by decide +kernel
theorem dL_isChild_367 : decode cL_isChild 367 = .ok (.if_icmp .ne 66, 3) := by decide +kernel
theorem dL_isChild_370 : decode cL_isChild 370 = .ok (.aload_n 0, 1) := by decide +kernel
theorem dL_isChild_371 : decode cL_isChild 371 = .ok (.iload_n 1, 1) := by decide +kernel
theorem dL_isChild_372 : decode cL_isChild 372 = .ok (.bipush 6, 2) := by decide +kernel
theorem dL_isChild_374 : decode cL_isChild 374 = .ok (.invokevirtual 66, 3) := by decide +kernel
theorem dL_isChild_377 : decode cL_isChild 377 = .ok (.aload 5, 2) := by decide +kernel
theorem dL_isChild_379 : decode cL_isChild 379 = .ok (.bipush 6, 2) := by decide +kernel
theorem dL_isChild_381 : decode cL_isChild 381 = .ok (.iload_n 1, 1) := by decide +kernel
theorem dL_isChild_382 : decode cL_isChild 382 = .ok (.imul, 1) := by decide +kernel
theorem dL_isChild_383 : decode cL_isChild 383 = .ok (.iconst 4, 1) := by decide +kernel
theorem dL_isChild_384 : decode cL_isChild 384 = .ok (.iadd, 1) := by decide +kernel
theorem dL_isChild_385 : decode cL_isChild 385 = .ok (.iaload, 1) := by decide +kernel
theorem dL_isChild_386 : decode cL_isChild 386 = .ok (.if_icmp .ne 47, 3) := by decide +kernel
theorem dL_isChild_389 : decode cL_isChild 389 = .ok (.aload_n 0, 1) := by decide +kernel
theorem dL_isChild_390 : decode cL_isChild 390 = .ok (.iload_n 1, 1) := by decide +kernel
theorem dL_isChild_391 : decode cL_isChild 391 = .ok (.bipush 7, 2) := by decide +kernel
theorem dL_isChild_393 : decode cL_isChild 393 = .ok (.invokevirtual 66, 3) := by decide +kernel
theorem dL_isChild_396 : decode cL_isChild 396 = .ok (.aload 5, 2) := by decide +kernel
theorem dL_isChild_398 : decode cL_isChild 398 = .ok (.bipush 6, 2) := by decide +kernel
theorem dL_isChild_400 : decode cL_isChild 400 = .ok (.iload_n 1, 1) := by decide +kernel
theorem dL_isChild_401 : decode cL_isChild 401 = .ok (.imul, 1) := by decide +kernel
theorem dL_isChild_402 : decode cL_isChild 402 = .ok (.iconst 5, 1) := by decide +kernel
theorem dL_isChild_403 : decode cL_isChild 403 = .ok (.iadd, 1) := by decide +kernel
theorem dL_isChild_404 : decode cL_isChild 404 = .ok (.iaload, 1) := by decide +kernel
theorem dL_isChild_405 : decode cL_isChild 405 = .ok (.if_icmp .ne 28, 3) := by decide +kernel
theorem dL_isChild_408 : decode cL_isChild 408 = .ok (.aload_n 0, 1) := by decide +kernel
theorem dL_isChild_409 : decode cL_isChild 409 = .ok (.iload_n 1, 1) := by decide +kernel
theorem dL_isChild_410 : decode cL_isChild 410 = .ok (.iload 9, 2) := by decide +kernel
theorem dL_isChild_412 : decode cL_isChild 412 = .ok (.invokevirtual 170, 3) := by decide +kernel
theorem dL_isChild_415 : decode cL_isChild 415 = .ok (.iconst (-1), 1) := by decide +kernel
theorem dL_isChild_416 : decode cL_isChild 416 = .ok (.if_icmp .ne 17, 3) := by decide +kernel
theorem dL_isChild_419 : decode cL_isChild 419 = .ok (.aload_n 0, 1) := by decide +kernel
theorem dL_isChild_420 : decode cL_isChild 420 = .ok (.iload_n 1, 1) := by decide +kernel
theorem dL_isChild_421 : decode cL_isChild 421 = .ok (.invokevirtual 172, 3) := by decide +kernel
theorem dL_isChild_424 : decode cL_isChild 424 = .ok (.iload 10, 2) := by decide +kernel
theorem dL_isChild_426 : decode cL_isChild 426 = .ok (.if_icmp .ne 7, 3) := by decide +kernel
theorem dL_isChild_429 : decode cL_isChild 429 = .ok (.iconst 1, 1) := by decide +kernel
theorem dL_isChild_430 : decode cL_isChild 430 = .ok (.goto 4, 3) := by decide +kernel
theorem dL_isChild_433 : decode cL_isChild 433 = .ok (.iconst 0, 1) := by decide +kernel
theorem dL_isChild_434 : decode cL_isChild 434 = .ok (.ireturn, 1) := by decide +kernel
theorem dL_burns_0 : decode cL_burns 0 = .ok (.iconst 0, 1) := by decide +kernel
theorem dL_burns_1 : decode cL_burns 1 = .ok (.istore 6, 2) := by decide +kernel
theorem dL_burns_3 : decode cL_burns 3 = .ok (.iconst 0, 1) := by decide +kernel
theorem dL_burns_4 : decode cL_burns 4 = .ok (.istore 7, 2) := by decide +kernel
theorem dL_burns_6 : decode cL_burns 6 = .ok (.iload 7, 2) := by decide +kernel
theorem dL_burns_8 : decode cL_burns 8 = .ok (.aload_n 2, 1) := by decide +kernel
theorem dL_burns_9 : decode cL_burns 9 = .ok (.bipush 9, 2) := by decide +kernel
theorem dL_burns_11 : decode cL_burns 11 = .ok (.iaload, 1) := by decide +kernel
theorem dL_burns_12 : decode cL_burns 12 = .ok (.if_icmp .ge 49, 3) := by decide +kernel
theorem dL_burns_15 : decode cL_burns 15 = .ok (.iload 6, 2) := by decide +kernel
theorem dL_burns_17 : decode cL_burns 17 = .ok (.aload 4, 2) := by decide +kernel
theorem dL_burns_19 : decode cL_burns 19 = .ok (.iload 7, 2) := by decide +kernel
theorem dL_burns_21 : decode cL_burns 21 = .ok (.iaload, 1) := by decide +kernel
theorem dL_burns_22 : decode cL_burns 22 = .ok (.aload_n 3, 1) := by decide +kernel
theorem dL_burns_23 : decode cL_burns 23 = .ok (.invokestatic 69, 3) := by decide +kernel
theorem dL_burns_26 : decode cL_burns 26 = .ok (.iload_n 0, 1) := by decide +kernel
theorem dL_burns_27 : decode cL_burns 27 = .ok (.if_icmp .ne 24, 3) := by decide +kernel
theorem dL_burns_30 : decode cL_burns 30 = .ok (.aload 4, 2) := by decide +kernel
theorem dL_burns_32 : decode cL_burns 32 = .ok (.iload 7, 2) := by decide +kernel
theorem dL_burns_34 : decode cL_burns 34 = .ok (.iaload, 1) := by decide +kernel
theorem dL_burns_35 : decode cL_burns 35 = .ok (.iload_n 1, 1) := by decide +kernel
theorem dL_burns_36 : decode cL_burns 36 = .ok (.iconst (-1), 1) := by decide +kernel
theorem dL_burns_37 : decode cL_burns 37 = .ok (.aload_n 2, 1) := by decide +kernel
theorem dL_burns_38 : decode cL_burns 38 = .ok (.aload_n 3, 1) := by decide +kernel
theorem dL_burns_39 : decode cL_burns 39 = .ok (.aload 5, 2) := by decide +kernel
theorem dL_burns_41 : decode cL_burns 41 = .ok (.invokestatic 82, 3) := by decide +kernel
theorem dL_burns_44 : decode cL_burns 44 = .ok (.ifCond .eq 7, 3) := by decide +kernel
theorem dL_burns_47 : decode cL_burns 47 = .ok (.iconst 1, 1) := by decide +kernel
theorem dL_burns_48 : decode cL_burns 48 = .ok (.goto 4, 3) := by decide +kernel
theorem dL_burns_51 : decode cL_burns 51 = .ok (.iconst 0, 1) := by decide +kernel
theorem dL_burns_52 : decode cL_burns 52 = .ok (.iadd, 1) := by decide +kernel
theorem dL_burns_53 : decode cL_burns 53 = .ok (.istore 6, 2) := by decide +kernel
theorem dL_burns_55 : decode cL_burns 55 = .ok (.iinc 7 1, 3) := by decide +kernel
theorem dL_burns_58 : decode cL_burns 58 = .ok (.goto (-52), 3) := by decide +kernel
theorem dL_burns_61 : decode cL_burns 61 = .ok (.iload 6, 2) := by decide +kernel
theorem dL_burns_63 : decode cL_burns 63 = .ok (.ireturn, 1) := by decide +kernel
theorem dL_areChildren_0 : decode cL_areChildren 0 = .ok (.iconst (-1), 1) := by decide +kernel
theorem dL_areChildren_1 : decode cL_areChildren 1 = .ok (.istore 6, 2) := by decide +kernel
theorem dL_areChildren_3 : decode cL_areChildren 3 = .ok (.iconst 0, 1) := by decide +kernel
theorem dL_areChildren_4 : decode cL_areChildren 4 = .ok (.istore 7, 2) := by decide +kernel
theorem dL_areChildren_6 : decode cL_areChildren 6 = .ok (.iconst 0, 1) := by decide +kernel
theorem dL_areChildren_7 : decode cL_areChildren 7 = .ok (.istore 8, 2) := by decide +kernel
theorem dL_areChildren_9 : decode cL_areChildren 9 = .ok (.iload 8, 2) := by decide +kernel
theorem dL_areChildren_11 : decode cL_areChildren 11 = .ok (.iconst 5, 1) := by decide +kernel
theorem dL_areChildren_12 : decode cL_areChildren 12 = .ok (.if_icmp .ge 156, 3) := by decide +kernel
theorem dL_areChildren_15 : decode cL_areChildren 15 = .ok (.aload 4, 2) := by decide +kernel
theorem dL_areChildren_17 : decode cL_areChildren 17 = .ok (.bipush 6, 2) := by decide +kernel
theorem dL_areChildren_19 : decode cL_areChildren 19 = .ok (.iload 8, 2) := by decide +kernel
theorem dL_areChildren_21 : decode cL_areChildren 21 = .ok (.imul, 1) := by decide +kernel
theorem dL_areChildren_22 : decode cL_areChildren 22 = .ok (.iaload, 1) := by decide +kernel
theorem dL_areChildren_23 : decode cL_areChildren 23 = .ok (.ifCond .ne 17, 3) := by decide +kernel
theorem dL_areChildren_26 : decode cL_areChildren 26 = .ok (.aload_n 0, 1) := by decide +kernel
theorem dL_areChildren_27 : decode cL_areChildren 27 = .ok (.iload 8, 2) := by decide +kernel
theorem dL_areChildren_29 : decode cL_areChildren 29 = .ok (.iconst 0, 1) := by decide +kernel
theorem dL_areChildren_30 : decode cL_areChildren 30 = .ok (.invokestatic 175, 3) := by decide +kernel
theorem dL_areChildren_33 : decode cL_areChildren 33 = .ok (.bipush (-31), 2) := by decide +kernel
theorem dL_areChildren_35 : decode cL_areChildren 35 = .ok (.if_icmp .eq 127, 3) := by decide +kernel
theorem dL_areChildren_38 : decode cL_areChildren 38 = .ok (.iconst 0, 1) := by decide +kernel
theorem dL_areChildren_39 : decode cL_areChildren 39 = .ok (.ireturn, 1) := by decide +kernel
theorem dL_areChildren_40 : decode cL_areChildren 40 = .ok (.aload_n 0, 1) := by decide +kernel
theorem dL_areChildren_41 : decode cL_areChildren 41 = .ok (.iload 8, 2) := by decide +kernel
theorem dL_areChildren_43 : decode cL_areChildren 43 = .ok (.aload_n 1, 1) := by decide +kernel
theorem dL_areChildren_44 : decode cL_areChildren 44 = .ok (.aload_n 2, 1) := by decide +kernel
theorem dL_areChildren_45 : decode cL_areChildren 45 = .ok (.aload_n 3, 1) := by decide +kernel
theorem dL_areChildren_46 : decode cL_areChildren 46 = .ok (.aload 4, 2) := by decide +kernel
theorem dL_areChildren_48 : decode cL_areChildren 48 = .ok (.aload 5, 2) := by decide +kernel
theorem dL_areChildren_50 : decode cL_areChildren 50 = .ok (.invokestatic 177, 3) := by decide +kernel
theorem dL_areChildren_53 : decode cL_areChildren 53 = .ok (.ifCond .eq 45, 3) := by decide +kernel
theorem dL_areChildren_56 : decode cL_areChildren 56 = .ok (.aload_n 0, 1) := by decide +kernel
theorem dL_areChildren_57 : decode cL_areChildren 57 = .ok (.iload 8, 2) := by decide +kernel
theorem dL_areChildren_59 : decode cL_areChildren 59 = .ok (.iconst 0, 1) := by decide +kernel
theorem dL_areChildren_60 : decode cL_areChildren 60 = .ok (.invokevirtual 181, 3) := by decide +kernel
theorem dL_areChildren_63 : decode cL_areChildren 63 = .ok (.iload 8, 2) := by decide +kernel
theorem dL_areChildren_65 : decode cL_areChildren 65 = .ok (.iconst 0, 1) := by decide +kernel
theorem dL_areChildren_66 : decode cL_areChildren 66 = .ok (.aload_n 1, 1) := by decide +kernel
theorem dL_areChildren_67 : decode cL_areChildren 67 = .ok (.aload_n 2, 1) := by decide +kernel
theorem dL_areChildren_68 : decode cL_areChildren 68 = .ok (.aload_n 3, 1) := by decide +kernel
theorem dL_areChildren_69 : decode cL_areChildren 69 = .ok (.aload 5, 2) := by decide +kernel
theorem dL_areChildren_71 : decode cL_areChildren 71 = .ok (.invokestatic 184, 3) := by decide +kernel
theorem dL_areChildren_74 : decode cL_areChildren 74 = .ok (.if_icmp .ne 24, 3) := by decide +kernel
theorem dL_areChildren_77 : decode cL_areChildren 77 = .ok (.aload_n 0, 1) := by decide +kernel
theorem dL_areChildren_78 : decode cL_areChildren 78 = .ok (.iload 8, 2) := by decide +kernel
theorem dL_areChildren_80 : decode cL_areChildren 80 = .ok (.iconst 1, 1) := by decide +kernel
theorem dL_areChildren_81 : decode cL_areChildren 81 = .ok (.invokevirtual 181, 3) := by decide +kernel
theorem dL_areChildren_84 : decode cL_areChildren 84 = .ok (.iload 8, 2) := by decide +kernel
theorem dL_areChildren_86 : decode cL_areChildren 86 = .ok (.iconst 1, 1) := by decide +kernel
theorem dL_areChildren_87 : decode cL_areChildren 87 = .ok (.aload_n 1, 1) := by decide +kernel
theorem dL_areChildren_88 : decode cL_areChildren 88 = .ok (.aload_n 2, 1) := by decide +kernel
theorem dL_areChildren_89 : decode cL_areChildren 89 = .ok (.aload_n 3, 1) := by decide +kernel
theorem dL_areChildren_90 : decode cL_areChildren 90 = .ok (.aload 5, 2) := by decide +kernel
theorem dL_areChildren_92 : decode cL_areChildren 92 = .ok (.invokestatic 184, 3) := by decide +kernel
theorem dL_areChildren_95 : decode cL_areChildren 95 = .ok (.if_icmp .eq 5, 3) := by decide +kernel
theorem dL_areChildren_98 : decode cL_areChildren 98 = .ok (.iconst 0, 1) := by decide +kernel
theorem dL_areChildren_99 : decode cL_areChildren 99 = .ok (.ireturn, 1) := by decide +kernel
theorem dL_areChildren_100 : decode cL_areChildren 100 = .ok (.iload 8, 2) := by decide +kernel
theorem dL_areChildren_102 : decode cL_areChildren 102 = .ok (.aload_n 1, 1) := by decide +kernel
theorem dL_areChildren_103 : decode cL_areChildren 103 = .ok (.bipush 8, 2) := by decide +kernel
theorem dL_areChildren_105 : decode cL_areChildren 105 = .ok (.iaload, 1) := by decide +kernel
theorem dL_areChildren_106 : decode cL_areChildren 106 = .ok (.aload_n 1, 1) := by decide +kernel
theorem dL_areChildren_107 : decode cL_areChildren 107 = .ok (.aload_n 2, 1) := by decide +kernel
theorem dL_areChildren_108 : decode cL_areChildren 108 = .ok (.aload_n 3, 1) := by decide +kernel
theorem dL_areChildren_109 : decode cL_areChildren 109 = .ok (.aload 5, 2) := by decide +kernel
theorem dL_areChildren_111 : decode cL_areChildren 111 = .ok (.invokestatic 184, 3) := by decide +kernel
theorem dL_areChildren_114 : decode cL_areChildren 114 = .ok (.istore 9, 2) := by decide +kernel
theorem dL_areChildren_116 : decode cL_areChildren 116 = .ok (.iload 9, 2) := by decide +kernel
theorem dL_areChildren_118 : decode cL_areChildren 118 = .ok (.iload 7, 2) := by decide +kernel
theorem dL_areChildren_120 : decode cL_areChildren 120 = .ok (.if_icmp .gt 34, 3) := by decide +kernel
theorem dL_areChildren_123 : decode cL_areChildren 123 = .ok (.iload 9, 2) := by decide +kernel
theorem dL_areChildren_125 : decode cL_areChildren 125 = .ok (.ifCond .le 37, 3) := by decide +kernel
theorem dL_areChildren_128 : decode cL_areChildren 128 = .ok (.iload 9, 2) := by decide +kernel
theorem dL_areChildren_130 : decode cL_areChildren 130 = .ok (.iload 7, 2) := by decide +kernel
theorem dL_areChildren_132 : decode cL_areChildren 132 = .ok (.if_icmp .ne 30, 3) := by decide +kernel
theorem dL_areChildren_135 : decode cL_areChildren 135 = .ok (.iload 8, 2) := by decide +kernel
theorem dL_areChildren_137 : decode cL_areChildren 137 = .ok (.aload_n 1, 1) := by decide +kernel
theorem dL_areChildren_138 : decode cL_areChildren 138 = .ok (.aload_n 2, 1) := by decide +kernel
theorem dL_areChildren_139 : decode cL_areChildren 139 = .ok (.aload_n 3, 1) := by decide +kernel
theorem dL_areChildren_140 : decode cL_areChildren 140 = .ok (.invokestatic 94, 3) := by decide +kernel
theorem dL_areChildren_143 : decode cL_areChildren 143 = .ok (.iload 6, 2) := by decide +kernel
theorem dL_areChildren_145 : decode cL_areChildren 145 = .ok (.aload_n 1, 1) := by decide +kernel
theorem dL_areChildren_146 : decode cL_areChildren 146 = .ok (.aload_n 2, 1) := by decide +kernel
theorem dL_areChildren_147 : decode cL_areChildren 147 = .ok (.aload_n 3, 1) := by decide +kernel
theorem dL_areChildren_148 : decode cL_areChildren 148 = .ok (.invokestatic 94, 3) := by decide +kernel
theorem dL_areChildren_151 : decode cL_areChildren 151 = .ok (.if_icmp .le 11, 3) := by decide +kernel
theorem dL_areChildren_154 : decode cL_areChildren 154 = .ok (.iload 8, 2) := by decide +kernel
theorem dL_areChildren_156 : decode cL_areChildren 156 = .ok (.istore 6, 2) := by decide +kernel
theorem dL_areChildren_158 : decode cL_areChildren 158 = .ok (.iload 9, 2) := by decide +kernel
theorem dL_areChildren_160 : decode cL_areChildren 160 = .ok (.istore 7, 2) := by decide +kernel
theorem dL_areChildren_162 : decode cL_areChildren 162 = .ok (.iinc 8 1, 3) := by decide +kernel
theorem dL_areChildren_165 : decode cL_areChildren 165 = .ok (.goto (-156), 3) := by decide +kernel
theorem dL_areChildren_168 : decode cL_areChildren 168 = .ok (.aload_n 0, 1) := by decide +kernel
theorem dL_areChildren_169 : decode cL_areChildren 169 = .ok (.invokevirtual 188, 3) := by decide +kernel
theorem dL_areChildren_172 : decode cL_areChildren 172 = .ok (.iload 6, 2) := by decide +kernel
theorem dL_areChildren_174 : decode cL_areChildren 174 = .ok (.if_icmp .ne 7, 3) := by decide +kernel
theorem dL_areChildren_177 : decode cL_areChildren 177 = .ok (.iconst 1, 1) := by decide +kernel
theorem dL_areChildren_178 : decode cL_areChildren 178 = .ok (.goto 4, 3) := by decide +kernel
theorem dL_areChildren_181 : decode cL_areChildren 181 = .ok (.iconst 0, 1) := by decide +kernel
theorem dL_areChildren_182 : decode cL_areChildren 182 = .ok (.ireturn, 1) := by decide +kernel
theorem dL_isSo_0 : decode cL_isSo 0 = .ok (.iconst 0, 1) := by decide +kernel
theorem dL_isSo_1 : decode cL_isSo 1 = .ok (.istore 7, 2) := by decide +kernel
theorem dL_isSo_3 : decode cL_isSo 3 = .ok (.iconst 0, 1) := by decide +kernel
theorem dL_isSo_4 : decode cL_isSo 4 = .ok (.istore 8, 2) := by decide +kernel
theorem dL_isSo_6 : decode cL_isSo 6 = .ok (.iconst (-1), 1) := by decide +kernel
theorem dL_isSo_7 : decode cL_isSo 7 = .ok (.istore 9, 2) := by decide +kernel
theorem dL_isSo_9 : decode cL_isSo 9 = .ok (.iconst 0, 1) := by decide +kernel
theorem dL_isSo_10 : decode cL_isSo 10 = .ok (.istore 10, 2) := by decide +kernel
theorem dL_isSo_12 : decode cL_isSo 12 = .ok (.iconst 0, 1) := by decide +kernel
theorem dL_isSo_13 : decode cL_isSo 13 = .ok (.istore 11, 2) := by decide +kernel
theorem dL_isSo_15 : decode cL_isSo 15 = .ok (.iconst 0, 1) := by decide +kernel
theorem dL_isSo_16 : decode cL_isSo 16 = .ok (.istore 12, 2) := by decide +kernel
theorem dL_isSo_18 : decode cL_isSo 18 = .ok (.iconst 0, 1) := by decide +kernel
theorem dL_isSo_19 : decode cL_isSo 19 = .ok (.istore 13, 2) := by decide +kernel
theorem dL_isSo_21 : decode cL_isSo 21 = .ok (.iconst 0, 1) := by decide +kernel
theorem dL_isSo_22 : decode cL_isSo 22 = .ok (.istore 14, 2) := by decide +kernel
theorem dL_isSo_24 : decode cL_isSo 24 = .ok (.iconst 0, 1) := by decide +kernel
theorem dL_isSo_25 : decode cL_isSo 25 = .ok (.istore 15, 2) := by decide +kernel
theorem dL_isSo_27 : decode cL_isSo 27 = .ok (.iload 15, 2) := by decide +kernel
theorem dL_isSo_29 : decode cL_isSo 29 = .ok (.aload_n 1, 1) := by decide +kernel
theorem dL_isSo_30 : decode cL_isSo 30 = .ok (.iconst 1, 1) := by decide +kernel
theorem dL_isSo_31 : decode cL_isSo 31 = .ok (.iaload, 1) := by decide +kernel
theorem dL_isSo_32 : decode cL_isSo 32 = .ok (.if_icmp .ge 114, 3) := by decide +kernel
theorem dL_isSo_35 : decode cL_isSo 35 = .ok (.iload 15, 2) := by decide +kernel
theorem dL_isSo_37 : decode cL_isSo 37 = .ok (.iconst 2, 1) := by decide +kernel
theorem dL_isSo_38 : decode cL_isSo 38 = .ok (.iconst (-1), 1) := by decide +kernel
theorem dL_isSo_39 : decode cL_isSo 39 = .ok (.aload 6, 2) := by decide +kernel
theorem dL_isSo_41 : decode cL_isSo 41 = .ok (.invokestatic 75, 3) := by decide +kernel
theorem dL_isSo_44 : decode cL_isSo 44 = .ok (.istore 16, 2) := by decide +kernel
theorem dL_isSo_46 : decode cL_isSo 46 = .ok (.iload 7, 2) := by decide +kernel
theorem dL_isSo_48 : decode cL_isSo 48 = .ok (.iload 15, 2) := by decide +kernel
theorem dL_isSo_50 : decode cL_isSo 50 = .ok (.aload_n 3, 1) := by decide +kernel
theorem dL_isSo_51 : decode cL_isSo 51 = .ok (.invokestatic 69, 3) := by decide +kernel
theorem dL_isSo_54 : decode cL_isSo 54 = .ok (.bipush (-2), 2) := by decide +kernel
theorem dL_isSo_56 : decode cL_isSo 56 = .ok (.if_icmp .ne 7, 3) := by decide +kernel
theorem dL_isSo_59 : decode cL_isSo 59 = .ok (.iconst 1, 1) := by decide +kernel
theorem dL_isSo_60 : decode cL_isSo 60 = .ok (.goto 4, 3) := by decide +kernel
theorem dL_isSo_63 : decode cL_isSo 63 = .ok (.iconst 0, 1) := by decide +kernel
theorem dL_isSo_64 : decode cL_isSo 64 = .ok (.iadd, 1) := by decide +kernel
theorem dL_isSo_65 : decode cL_isSo 65 = .ok (.istore 7, 2) := by decide +kernel
theorem dL_isSo_67 : decode cL_isSo 67 = .ok (.iload 8, 2) := by decide +kernel
theorem dL_isSo_69 : decode cL_isSo 69 = .ok (.iload 15, 2) := by decide +kernel
theorem dL_isSo_71 : decode cL_isSo 71 = .ok (.aload_n 3, 1) := by decide +kernel
theorem dL_isSo_72 : decode cL_isSo 72 = .ok (.invokestatic 69, 3) := by decide +kernel
theorem dL_isSo_75 : decode cL_isSo 75 = .ok (.iconst (-1), 1) := by decide +kernel
theorem dL_isSo_76 : decode cL_isSo 76 = .ok (.if_icmp .ne 7, 3) := by decide +kernel
theorem dL_isSo_79 : decode cL_isSo 79 = .ok (.iconst 1, 1) := by decide +kernel
theorem dL_isSo_80 : decode cL_isSo 80 = .ok (.goto 4, 3) := by decide +kernel
theorem dL_isSo_83 : decode cL_isSo 83 = .ok (.iconst 0, 1) := by decide +kernel
theorem dL_isSo_84 : decode cL_isSo 84 = .ok (.iadd, 1) := by decide +kernel
theorem dL_isSo_85 : decode cL_isSo 85 = .ok (.istore 8, 2) := by decide +kernel
theorem dL_isSo_87 : decode cL_isSo 87 = .ok (.iload 11, 2) := by decide +kernel
theorem dL_isSo_89 : decode cL_isSo 89 = .ok (.iload 16, 2) := by decide +kernel
theorem dL_isSo_91 : decode cL_isSo 91 = .ok (.iadd, 1) := by decide +kernel
theorem dL_isSo_92 : decode cL_isSo 92 = .ok (.istore 11, 2) := by decide +kernel
theorem dL_isSo_94 : decode cL_isSo 94 = .ok (.iload 12, 2) := by decide +kernel
theorem dL_isSo_96 : decode cL_isSo 96 = .ok (.iload 15, 2) := by decide +kernel
theorem dL_isSo_98 : decode cL_isSo 98 = .ok (.iconst 1, 1) := by decide +kernel
theorem dL_isSo_99 : decode cL_isSo 99 = .ok (.iconst (-1), 1) := by decide +kernel
theorem dL_isSo_100 : decode cL_isSo 100 = .ok (.aload 6, 2) := by decide +kernel
theorem dL_isSo_102 : decode cL_isSo 102 = .ok (.invokestatic 75, 3) := by decide +kernel
theorem dL_isSo_105 : decode cL_isSo 105 = .ok (.iadd, 1) := by decide +kernel
theorem dL_isSo_106 : decode cL_isSo 106 = .ok (.istore 12, 2) := by decide +kernel
theorem dL_isSo_108 : decode cL_isSo 108 = .ok (.iload 16, 2) := by decide +kernel
theorem dL_isSo_110 : decode cL_isSo 110 = .ok (.iload 10, 2) := by decide +kernel
theorem dL_isSo_112 : decode cL_isSo 112 = .ok (.if_icmp .le 8, 3) := by decide +kernel
theorem dL_isSo_115 : decode cL_isSo 115 = .ok (.iload 15, 2) := by decide +kernel
theorem dL_isSo_117 : decode cL_isSo 117 = .ok (.goto 5, 3) := by decide +kernel
theorem dL_isSo_120 : decode cL_isSo 120 = .ok (.iload 9, 2) := by decide +kernel
theorem dL_isSo_122 : decode cL_isSo 122 = .ok (.istore 9, 2) := by decide +kernel
theorem dL_isSo_124 : decode cL_isSo 124 = .ok (.iload 16, 2) := by decide +kernel
theorem dL_isSo_126 : decode cL_isSo 126 = .ok (.iload 10, 2) := by decide +kernel
theorem dL_isSo_128 : decode cL_isSo 128 = .ok (.if_icmp .le 8, 3) := by decide +kernel
theorem dL_isSo_131 : decode cL_isSo 131 = .ok (.iload 16, 2) := by decide +kernel
theorem dL_isSo_133 : decode cL_isSo 133 = .ok (.goto 5, 3) := by decide +kernel
theorem dL_isSo_136 : decode cL_isSo 136 = .ok (.iload 10, 2) := by decide +kernel
theorem dL_isSo_138 : decode cL_isSo 138 = .ok (.istore 10, 2) := by decide +kernel
theorem dL_isSo_140 : decode cL_isSo 140 = .ok (.iinc 15 1, 3) := by decide +kernel
theorem dL_isSo_143 : decode cL_isSo 143 = .ok (.goto (-116), 3) := by decide +kernel
theorem dL_isSo_146 : decode cL_isSo 146 = .ok (.iconst 0, 1) := by decide +kernel
theorem dL_isSo_147 : decode cL_isSo 147 = .ok (.istore 15, 2) := by decide +kernel
theorem dL_isSo_149 : decode cL_isSo 149 = .ok (.iload 15, 2) := by decide +kernel
theorem dL_isSo_151 : decode cL_isSo 151 = .ok (.iconst 5, 1) := by decide +kernel
theorem dL_isSo_152 : decode cL_isSo 152 = .ok (.if_icmp .ge 40, 3) := by decide +kernel
theorem dL_isSo_155 : decode cL_isSo 155 = .ok (.iload 13, 2) := by decide +kernel
theorem dL_isSo_157 : decode cL_isSo 157 = .ok (.aload 5, 2) := by decide +kernel
theorem dL_isSo_159 : decode cL_isSo 159 = .ok (.bipush 6, 2) := by decide +kernel
theorem dL_isSo_161 : decode cL_isSo 161 = .ok (.iload 15, 2) := by decide +kernel
theorem dL_isSo_163 : decode cL_isSo 163 = .ok (.imul, 1) := by decide +kernel
theorem dL_isSo_164 : decode cL_isSo 164 = .ok (.iaload, 1) := by decide +kernel
theorem dL_isSo_165 : decode cL_isSo 165 = .ok (.iload 15, 2) := by decide +kernel
theorem dL_isSo_167 : decode cL_isSo 167 = .ok (.ishl, 1) := by decide +kernel
theorem dL_isSo_168 : decode cL_isSo 168 = .ok (.ior, 1) := by decide +kernel
theorem dL_isSo_169 : decode cL_isSo 169 = .ok (.istore 13, 2) := by decide +kernel
theorem dL_isSo_171 : decode cL_isSo 171 = .ok (.iload 14, 2) := by decide +kernel
theorem dL_isSo_173 : decode cL_isSo 173 = .ok (.aload 5, 2) := by decide +kernel
theorem dL_isSo_175 : decode cL_isSo 175 = .ok (.bipush 6, 2) := by decide +kernel
theorem dL_isSo_177 : decode cL_isSo 177 = .ok (.iload 15, 2) := by decide +kernel
theorem dL_isSo_179 : decode cL_isSo 179 = .ok (.imul, 1) := by decide +kernel
theorem dL_isSo_180 : decode cL_isSo 180 = .ok (.iconst 1, 1) := by decide +kernel
theorem dL_isSo_181 : decode cL_isSo 181 = .ok (.iadd, 1) := by decide +kernel
theorem dL_isSo_182 : decode cL_isSo 182 = .ok (.iaload, 1) := by decide +kernel
theorem dL_isSo_183 : decode cL_isSo 183 = .ok (.iadd, 1) := by decide +kernel
theorem dL_isSo_184 : decode cL_isSo 184 = .ok (.istore 14, 2) := by decide +kernel
theorem dL_isSo_186 : decode cL_isSo 186 = .ok (.iinc 15 1, 3) := by decide +kernel
theorem dL_isSo_189 : decode cL_isSo 189 = .ok (.goto (-40), 3) := by decide +kernel
theorem dL_isSo_192 : decode cL_isSo 192 = .ok (.aload_n 0, 1) := by decide +kernel
theorem dL_isSo_193 : decode cL_isSo 193 = .ok (.iconst 0, 1) := by decide +kernel
theorem dL_isSo_194 : decode cL_isSo 194 = .ok (.invokevirtual 191, 3) := by decide +kernel
theorem dL_isSo_197 : decode cL_isSo 197 = .ok (.iload 13, 2) := by decide +kernel
theorem dL_isSo_199 : decode cL_isSo 199 = .ok (.if_icmp .ne 169, 3) := by decide +kernel
theorem dL_isSo_202 : decode cL_isSo 202 = .ok (.aload_n 0, 1) := by decide +kernel
theorem dL_isSo_203 : decode cL_isSo 203 = .ok (.iconst 1, 1) := by decide +kernel
theorem dL_isSo_204 : decode cL_isSo 204 = .ok (.invokevirtual 191, 3) := by decide +kernel
theorem dL_isSo_207 : decode cL_isSo 207 = .ok (.aload 5, 2) := by decide +kernel
theorem dL_isSo_209 : decode cL_isSo 209 = .ok (.invokestatic 90, 3) := by decide +kernel
theorem dL_isSo_212 : decode cL_isSo 212 = .ok (.if_icmp .ne 156, 3) := by decide +kernel
theorem dL_isSo_215 : decode cL_isSo 215 = .ok (.aload_n 0, 1) := by decide +kernel
theorem dL_isSo_216 : decode cL_isSo 216 = .ok (.iconst 2, 1) := by decide +kernel
theorem dL_isSo_217 : decode cL_isSo 217 = .ok (.invokevirtual 191, 3) := by decide +kernel
theorem dL_isSo_220 : decode cL_isSo 220 = .ok (.iload 14, 2) := by decide +kernel
theorem dL_isSo_222 : decode cL_isSo 222 = .ok (.if_icmp .ne 146, 3) := by decide +kernel
theorem dL_isSo_225 : decode cL_isSo 225 = .ok (.aload_n 0, 1) := by decide +kernel
theorem dL_isSo_226 : decode cL_isSo 226 = .ok (.iconst 3, 1) := by decide +kernel
theorem dL_isSo_227 : decode cL_isSo 227 = .ok (.invokevirtual 191, 3) := by decide +kernel
theorem dL_isSo_230 : decode cL_isSo 230 = .ok (.aload_n 1, 1) := by decide +kernel
theorem dL_isSo_231 : decode cL_isSo 231 = .ok (.iconst 0, 1) := by decide +kernel
theorem dL_isSo_232 : decode cL_isSo 232 = .ok (.iaload, 1) := by decide +kernel
theorem dL_isSo_233 : decode cL_isSo 233 = .ok (.if_icmp .ne 135, 3) := by decide +kernel
theorem dL_isSo_236 : decode cL_isSo 236 = .ok (.aload_n 0, 1) := by decide +kernel
theorem dL_isSo_237 : decode cL_isSo 237 = .ok (.iconst 4, 1) := by decide +kernel
theorem dL_isSo_238 : decode cL_isSo 238 = .ok (.invokevirtual 191, 3) := by decide +kernel
theorem dL_isSo_241 : decode cL_isSo 241 = .ok (.aload_n 1, 1) := by decide +kernel
theorem dL_isSo_242 : decode cL_isSo 242 = .ok (.iconst 1, 1) := by decide +kernel
theorem dL_isSo_243 : decode cL_isSo 243 = .ok (.iaload, 1) := by decide +kernel
theorem dL_isSo_244 : decode cL_isSo 244 = .ok (.if_icmp .ne 124, 3) := by decide +kernel
theorem dL_isSo_247 : decode cL_isSo 247 = .ok (.aload_n 0, 1) := by decide +kernel
theorem dL_isSo_248 : decode cL_isSo 248 = .ok (.iconst 5, 1) := by decide +kernel
theorem dL_isSo_249 : decode cL_isSo 249 = .ok (.invokevirtual 191, 3) := by decide +kernel
theorem dL_isSo_252 : decode cL_isSo 252 = .ok (.iload 8, 2) := by decide +kernel
theorem dL_isSo_254 : decode cL_isSo 254 = .ok (.if_icmp .ne 114, 3) := by decide +kernel
theorem dL_isSo_257 : decode cL_isSo 257 = .ok (.aload_n 0, 1) := by decide +kernel
theorem dL_isSo_258 : decode cL_isSo 258 = .ok (.bipush 6, 2) := by decide +kernel
theorem dL_isSo_260 : decode cL_isSo 260 = .ok (.invokevirtual 191, 3) := by decide +kernel
theorem dL_isSo_263 : decode cL_isSo 263 = .ok (.aload_n 1, 1) := by decide +kernel
theorem dL_isSo_264 : decode cL_isSo 264 = .ok (.bipush 9, 2) := by decide +kernel
theorem dL_isSo_266 : decode cL_isSo 266 = .ok (.iaload, 1) := by decide +kernel
theorem dL_isSo_267 : decode cL_isSo 267 = .ok (.if_icmp .ne 101, 3) := by decide +kernel
theorem dL_isSo_270 : decode cL_isSo 270 = .ok (.aload_n 0, 1) := by decide +kernel
theorem dL_isSo_271 : decode cL_isSo 271 = .ok (.bipush 7, 2) := by decide +kernel
theorem dL_isSo_273 : decode cL_isSo 273 = .ok (.invokevirtual 191, 3) := by decide +kernel
theorem dL_isSo_276 : decode cL_isSo 276 = .ok (.iload 7, 2) := by decide +kernel
theorem dL_isSo_278 : decode cL_isSo 278 = .ok (.if_icmp .ne 90, 3) := by decide +kernel
theorem dL_isSo_281 : decode cL_isSo 281 = .ok (.aload_n 0, 1) := by decide +kernel
theorem dL_isSo_282 : decode cL_isSo 282 = .ok (.bipush 8, 2) := by decide +kernel
theorem dL_isSo_284 : decode cL_isSo 284 = .ok (.invokevirtual 191, 3) := by decide +kernel
theorem dL_isSo_287 : decode cL_isSo 287 = .ok (.iload 11, 2) := by decide +kernel
theorem dL_isSo_289 : decode cL_isSo 289 = .ok (.if_icmp .ne 79, 3) := by decide +kernel
theorem dL_isSo_292 : decode cL_isSo 292 = .ok (.aload_n 0, 1) := by decide +kernel
theorem dL_isSo_293 : decode cL_isSo 293 = .ok (.bipush 9, 2) := by decide +kernel
theorem dL_isSo_295 : decode cL_isSo 295 = .ok (.invokevirtual 191, 3) := by decide +kernel
theorem dL_isSo_298 : decode cL_isSo 298 = .ok (.iload 12, 2) := by decide +kernel
theorem dL_isSo_300 : decode cL_isSo 300 = .ok (.if_icmp .ne 68, 3) := by decide +kernel
theorem dL_isSo_303 : decode cL_isSo 303 = .ok (.aload_n 0, 1) := by decide +kernel
theorem dL_isSo_304 : decode cL_isSo 304 = .ok (.bipush 10, 2) := by decide +kernel
theorem dL_isSo_306 : decode cL_isSo 306 = .ok (.invokevirtual 191, 3) := by decide +kernel
theorem dL_isSo_309 : decode cL_isSo 309 = .ok (.aload_n 1, 1) := by decide +kernel
theorem dL_isSo_310 : decode cL_isSo 310 = .ok (.iconst 2, 1) := by decide +kernel
theorem dL_isSo_311 : decode cL_isSo 311 = .ok (.iaload, 1) := by decide +kernel
theorem dL_isSo_312 : decode cL_isSo 312 = .ok (.if_icmp .ne 56, 3) := by decide +kernel
theorem dL_isSo_315 : decode cL_isSo 315 = .ok (.aload_n 0, 1) := by decide +kernel
theorem dL_isSo_316 : decode cL_isSo 316 = .ok (.bipush 11, 2) := by decide +kernel
theorem dL_isSo_318 : decode cL_isSo 318 = .ok (.invokevirtual 191, 3) := by decide +kernel
theorem dL_isSo_321 : decode cL_isSo 321 = .ok (.aload_n 1, 1) := by decide +kernel
theorem dL_isSo_322 : decode cL_isSo 322 = .ok (.iconst 3, 1) := by decide +kernel
theorem dL_isSo_323 : decode cL_isSo 323 = .ok (.iaload, 1) := by decide +kernel
theorem dL_isSo_324 : decode cL_isSo 324 = .ok (.if_icmp .ne 44, 3) := by decide +kernel
theorem dL_isSo_327 : decode cL_isSo 327 = .ok (.aload_n 0, 1) := by decide +kernel
theorem dL_isSo_328 : decode cL_isSo 328 = .ok (.bipush 12, 2) := by decide +kernel
theorem dL_isSo_330 : decode cL_isSo 330 = .ok (.invokevirtual 191, 3) := by decide +kernel
theorem dL_isSo_333 : decode cL_isSo 333 = .ok (.aload_n 1, 1) := by decide +kernel
theorem dL_isSo_334 : decode cL_isSo 334 = .ok (.iconst 4, 1) := by decide +kernel
theorem dL_isSo_335 : decode cL_isSo 335 = .ok (.iaload, 1) := by decide +kernel
theorem dL_isSo_336 : decode cL_isSo 336 = .ok (.if_icmp .ne 32, 3) := by decide +kernel
theorem dL_isSo_339 : decode cL_isSo 339 = .ok (.aload_n 0, 1) := by decide +kernel
theorem dL_isSo_340 : decode cL_isSo 340 = .ok (.bipush 13, 2) := by decide +kernel
theorem dL_isSo_342 : decode cL_isSo 342 = .ok (.invokevirtual 191, 3) := by decide +kernel
theorem dL_isSo_345 : decode cL_isSo 345 = .ok (.aload_n 1, 1) := by decide +kernel
theorem dL_isSo_346 : decode cL_isSo 346 = .ok (.iconst 5, 1) := by decide +kernel
theorem dL_isSo_347 : decode cL_isSo 347 = .ok (.iaload, 1) := by decide +kernel
theorem dL_isSo_348 : decode cL_isSo 348 = .ok (.if_icmp .ne 20, 3) := by decide +kernel
theorem dL_isSo_351 : decode cL_isSo 351 = .ok (.aload_n 0, 1) := by decide +kernel
theorem dL_isSo_352 : decode cL_isSo 352 = .ok (.bipush 14, 2) := by decide +kernel
theorem dL_isSo_354 : decode cL_isSo 354 = .ok (.invokevirtual 191, 3) := by decide +kernel
theorem dL_isSo_357 : decode cL_isSo 357 = .ok (.aload_n 1, 1) := by decide +kernel
theorem dL_isSo_358 : decode cL_isSo 358 = .ok (.bipush 6, 2) := by decide +kernel
theorem dL_isSo_360 : decode cL_isSo 360 = .ok (.iaload, 1) := by decide +kernel
theorem dL_isSo_361 : decode cL_isSo 361 = .ok (.if_icmp .ne 7, 3) := by decide +kernel
theorem dL_isSo_364 : decode cL_isSo 364 = .ok (.iconst 1, 1) := by decide +kernel
theorem dL_isSo_365 : decode cL_isSo 365 = .ok (.goto 4, 3) := by decide +kernel
theorem dL_isSo_368 : decode cL_isSo 368 = .ok (.iconst 0, 1) := by decide +kernel
theorem dL_isSo_369 : decode cL_isSo 369 = .ok (.istore 15, 2) := by decide +kernel
theorem dL_isSo_371 : decode cL_isSo 371 = .ok (.iload 15, 2) := by decide +kernel
theorem dL_isSo_373 : decode cL_isSo 373 = .ok (.ifCond .eq 150, 3) := by decide +kernel
theorem dL_isSo_376 : decode cL_isSo 376 = .ok (.aload_n 0, 1) := by decide +kernel
theorem dL_isSo_377 : decode cL_isSo 377 = .ok (.iconst 0, 1) := by decide +kernel
theorem dL_isSo_378 : decode cL_isSo 378 = .ok (.invokevirtual 194, 3) := by decide +kernel
theorem dL_isSo_381 : decode cL_isSo 381 = .ok (.aload_n 1, 1) := by decide +kernel
theorem dL_isSo_382 : decode cL_isSo 382 = .ok (.bipush 7, 2) := by decide +kernel
theorem dL_isSo_384 : decode cL_isSo 384 = .ok (.iaload, 1) := by decide +kernel
theorem dL_isSo_385 : decode cL_isSo 385 = .ok (.if_icmp .ne 138, 3) := by decide +kernel
theorem dL_isSo_388 : decode cL_isSo 388 = .ok (.aload_n 0, 1) := by decide +kernel
theorem dL_isSo_389 : decode cL_isSo 389 = .ok (.iconst 1, 1) := by decide +kernel
theorem dL_isSo_390 : decode cL_isSo 390 = .ok (.invokevirtual 194, 3) := by decide +kernel
theorem dL_isSo_393 : decode cL_isSo 393 = .ok (.aload_n 1, 1) := by decide +kernel
theorem dL_isSo_394 : decode cL_isSo 394 = .ok (.bipush 8, 2) := by decide +kernel
theorem dL_isSo_396 : decode cL_isSo 396 = .ok (.iaload, 1) := by decide +kernel
theorem dL_isSo_397 : decode cL_isSo 397 = .ok (.if_icmp .ne 126, 3) := by decide +kernel
theorem dL_isSo_400 : decode cL_isSo 400 = .ok (.aload_n 0, 1) := by decide +kernel
theorem dL_isSo_401 : decode cL_isSo 401 = .ok (.invokevirtual 197, 3) := by decide +kernel
theorem dL_isSo_404 : decode cL_isSo 404 = .ok (.aload_n 1, 1) := by decide +kernel
theorem dL_isSo_405 : decode cL_isSo 405 = .ok (.aload 5, 2) := by decide +kernel
theorem dL_isSo_407 : decode cL_isSo 407 = .ok (.invokestatic 114, 3) := by decide +kernel
theorem dL_isSo_410 : decode cL_isSo 410 = .ok (.if_icmp .ne 113, 3) := by decide +kernel
theorem dL_isSo_413 : decode cL_isSo 413 = .ok (.aload_n 0, 1) := by decide +kernel
theorem dL_isSo_414 : decode cL_isSo 414 = .ok (.invokevirtual 199, 3) := by decide +kernel
theorem dL_isSo_417 : decode cL_isSo 417 = .ok (.aload_n 1, 1) := by decide +kernel
theorem dL_isSo_418 : decode cL_isSo 418 = .ok (.bipush 9, 2) := by decide +kernel
theorem dL_isSo_420 : decode cL_isSo 420 = .ok (.iaload, 1) := by decide +kernel
theorem dL_isSo_421 : decode cL_isSo 421 = .ok (.if_icmp .ne 102, 3) := by decide +kernel
theorem dL_isSo_424 : decode cL_isSo 424 = .ok (.aload_n 0, 1) := by decide +kernel
theorem dL_isSo_425 : decode cL_isSo 425 = .ok (.invokevirtual 202, 3) := by decide +kernel
theorem dL_isSo_428 : decode cL_isSo 428 = .ok (.iload 9, 2) := by decide +kernel
theorem dL_isSo_430 : decode cL_isSo 430 = .ok (.if_icmp .ne 93, 3) := by decide +kernel
theorem dL_isSo_433 : decode cL_isSo 433 = .ok (.aload_n 0, 1) := by decide +kernel
theorem dL_isSo_434 : decode cL_isSo 434 = .ok (.invokevirtual 205, 3) := by decide +kernel
theorem dL_isSo_437 : decode cL_isSo 437 = .ok (.iload 7, 2) := by decide +kernel
theorem dL_isSo_439 : decode cL_isSo 439 = .ok (.aload_n 1, 1) := by decide +kernel
theorem dL_isSo_440 : decode cL_isSo 440 = .ok (.bipush 9, 2) := by decide +kernel
theorem dL_isSo_442 : decode cL_isSo 442 = .ok (.iaload, 1) := by decide +kernel
theorem dL_isSo_443 : decode cL_isSo 443 = .ok (.iadd, 1) := by decide +kernel
theorem dL_isSo_444 : decode cL_isSo 444 = .ok (.ifCond .ne 7, 3) := by decide +kernel
theorem dL_isSo_447 : decode cL_isSo 447 = .ok (.dconst 1, 1) := by decide +kernel
theorem dL_isSo_448 : decode cL_isSo 448 = .ok (.goto 15, 3) := by decide +kernel
theorem dL_isSo_451 : decode cL_isSo 451 = .ok (.iload 7, 2) := by decide +kernel
theorem dL_isSo_453 : decode cL_isSo 453 = .ok (.i2d, 1) := by decide +kernel
theorem dL_isSo_454 : decode cL_isSo 454 = .ok (.iload 7, 2) := by decide +kernel
theorem dL_isSo_456 : decode cL_isSo 456 = .ok (.aload_n 1, 1) := by decide +kernel
theorem dL_isSo_457 : decode cL_isSo 457 = .ok (.bipush 9, 2) := by decide +kernel
theorem dL_isSo_459 : decode cL_isSo 459 = .ok (.iaload, 1) := by decide +kernel
theorem dL_isSo_460 : decode cL_isSo 460 = .ok (.iadd, 1) := by decide +kernel
theorem dL_isSo_461 : decode cL_isSo 461 = .ok (.i2d, 1) := by decide +kernel
theorem dL_isSo_462 : decode cL_isSo 462 = .ok (.ddiv, 1) := by decide +kernel
theorem dL_isSo_463 : decode cL_isSo 463 = .ok (.dcmp .l, 1) := by decide +kernel
theorem dL_isSo_464 : decode cL_isSo 464 = .ok (.ifCond .ne 59, 3) := by decide +kernel
theorem dL_isSo_467 : decode cL_isSo 467 = .ok (.aload_n 0, 1) := by decide +kernel
theorem dL_isSo_468 : decode cL_isSo 468 = .ok (.invokevirtual 209, 3) := by decide +kernel
theorem dL_isSo_471 : decode cL_isSo 471 = .ok (.aload_n 1, 1) := by decide +kernel
theorem dL_isSo_472 : decode cL_isSo 472 = .ok (.bipush 9, 2) := by decide +kernel
theorem dL_isSo_474 : decode cL_isSo 474 = .ok (.iaload, 1) := by decide +kernel
theorem dL_isSo_475 : decode cL_isSo 475 = .ok (.i2f, 1) := by decide +kernel
theorem dL_isSo_476 : decode cL_isSo 476 = .ok (.aload_n 1, 1) := by decide +kernel
theorem dL_isSo_477 : decode cL_isSo 477 = .ok (.bipush 7, 2) := by decide +kernel
theorem dL_isSo_479 : decode cL_isSo 479 = .ok (.iaload, 1) := by decide +kernel
theorem dL_isSo_480 : decode cL_isSo 480 = .ok (.aload 5, 2) := by decide +kernel
theorem dL_isSo_482 : decode cL_isSo 482 = .ok (.invokestatic 90, 3) := by decide +kernel
theorem dL_isSo_485 : decode cL_isSo 485 = .ok (.imul, 1) := by decide +kernel
theorem dL_isSo_486 : decode cL_isSo 486 = .ok (.i2f, 1) := by decide +kernel
theorem dL_isSo_487 : decode cL_isSo 487 = .ok (.fdiv, 1) := by decide +kernel
theorem dL_isSo_488 : decode cL_isSo 488 = .ok (.fcmp .l, 1) := by decide +kernel
theorem dL_isSo_489 : decode cL_isSo 489 = .ok (.ifCond .ne 34, 3) := by decide +kernel
theorem dL_isSo_492 : decode cL_isSo 492 = .ok (.aload_n 0, 1) := by decide +kernel
theorem dL_isSo_493 : decode cL_isSo 493 = .ok (.aload_n 1, 1) := by decide +kernel
theorem dL_isSo_494 : decode cL_isSo 494 = .ok (.aload_n 2, 1) := by decide +kernel
theorem dL_isSo_495 : decode cL_isSo 495 = .ok (.aload_n 3, 1) := by decide +kernel
theorem dL_isSo_496 : decode cL_isSo 496 = .ok (.aload 6, 2) := by decide +kernel
theorem dL_isSo_498 : decode cL_isSo 498 = .ok (.invokestatic 213, 3) := by decide +kernel
theorem dL_isSo_501 : decode cL_isSo 501 = .ok (.ifCond .eq 22, 3) := by decide +kernel
theorem dL_isSo_504 : decode cL_isSo 504 = .ok (.aload_n 0, 1) := by decide +kernel
theorem dL_isSo_505 : decode cL_isSo 505 = .ok (.aload_n 1, 1) := by decide +kernel
theorem dL_isSo_506 : decode cL_isSo 506 = .ok (.aload_n 3, 1) := by decide +kernel
theorem dL_isSo_507 : decode cL_isSo 507 = .ok (.aload 4, 2) := by decide +kernel
theorem dL_isSo_509 : decode cL_isSo 509 = .ok (.aload 5, 2) := by decide +kernel
theorem dL_isSo_511 : decode cL_isSo 511 = .ok (.aload 6, 2) := by decide +kernel
theorem dL_isSo_513 : decode cL_isSo 513 = .ok (.invokestatic 217, 3) := by decide +kernel
theorem dL_isSo_516 : decode cL_isSo 516 = .ok (.ifCond .eq 7, 3) := by decide +kernel
theorem dL_isSo_519 : decode cL_isSo 519 = .ok (.iconst 1, 1) := by decide +kernel
theorem dL_isSo_520 : decode cL_isSo 520 = .ok (.goto 4, 3) := by decide +kernel
theorem dL_isSo_523 : decode cL_isSo 523 = .ok (.iconst 0, 1) := by decide +kernel
theorem dL_isSo_524 : decode cL_isSo 524 = .ok (.ireturn, 1) := by decide +kernel
theorem dL_law_0 : decode cL_law 0 = .ok (.new 10, 3) := by decide +kernel
theorem dL_law_3 : decode cL_law 3 = .ok (.dup, 1) := by decide +kernel
theorem dL_law_4 : decode cL_law 4 = .ok (.invokespecial 221, 3) := by decide +kernel
theorem dL_law_7 : decode cL_law 7 = .ok (.astore_n 1, 1) := by decide +kernel
theorem dL_law_8 : decode cL_law 8 = .ok (.bipush 10, 2) := by decide +kernel
theorem dL_law_10 : decode cL_law 10 = .ok (.newarray .int, 2) := by decide +kernel
theorem dL_law_12 : decode cL_law 12 = .ok (.astore_n 2, 1) := by decide +kernel
theorem dL_law_13 : decode cL_law 13 = .ok (.bipush 12, 2) := by decide +kernel
theorem dL_law_15 : decode cL_law 15 = .ok (.newarray .int, 2) := by decide +kernel
theorem dL_law_17 : decode cL_law 17 = .ok (.astore_n 3, 1) := by decide +kernel
theorem dL_law_18 : decode cL_law 18 = .ok (.bipush 40, 2) := by decide +kernel
theorem dL_law_20 : decode cL_law 20 = .ok (.newarray .int, 2) := by decide +kernel
theorem dL_law_22 : decode cL_law 22 = .ok (.astore 4, 2) := by decide +kernel
theorem dL_law_24 : decode cL_law 24 = .ok (.bipush 40, 2) := by decide +kernel
theorem dL_law_26 : decode cL_law 26 = .ok (.newarray .int, 2) := by decide +kernel
theorem dL_law_28 : decode cL_law 28 = .ok (.astore 5, 2) := by decide +kernel
theorem dL_law_30 : decode cL_law 30 = .ok (.bipush 30, 2) := by decide +kernel
theorem dL_law_32 : decode cL_law 32 = .ok (.newarray .int, 2) := by decide +kernel
theorem dL_law_34 : decode cL_law 34 = .ok (.astore 6, 2) := by decide +kernel
theorem dL_law_36 : decode cL_law 36 = .ok (.bipush 30, 2) := by decide +kernel
theorem dL_law_38 : decode cL_law 38 = .ok (.newarray .int, 2) := by decide +kernel
theorem dL_law_40 : decode cL_law 40 = .ok (.astore 7, 2) := by decide +kernel
theorem dL_law_42 : decode cL_law 42 = .ok (.aload_n 2, 1) := by decide +kernel
theorem dL_law_43 : decode cL_law 43 = .ok (.bipush 7, 2) := by decide +kernel
theorem dL_law_45 : decode cL_law 45 = .ok (.iconst 4, 1) := by decide +kernel
theorem dL_law_46 : decode cL_law 46 = .ok (.iastore, 1) := by decide +kernel
theorem dL_law_47 : decode cL_law 47 = .ok (.iconst 0, 1) := by decide +kernel
theorem dL_law_48 : decode cL_law 48 = .ok (.istore 8, 2) := by decide +kernel
theorem dL_law_50 : decode cL_law 50 = .ok (.iload 8, 2) := by decide +kernel
theorem dL_law_52 : decode cL_law 52 = .ok (.bipush 12, 2) := by decide +kernel
theorem dL_law_54 : decode cL_law 54 = .ok (.if_icmp .ge 14, 3) := by decide +kernel
theorem dL_law_57 : decode cL_law 57 = .ok (.aload_n 3, 1) := by decide +kernel
theorem dL_law_58 : decode cL_law 58 = .ok (.iload 8, 2) := by decide +kernel
theorem dL_law_60 : decode cL_law 60 = .ok (.iconst (-1), 1) := by decide +kernel
theorem dL_law_61 : decode cL_law 61 = .ok (.iastore, 1) := by decide +kernel
theorem dL_law_62 : decode cL_law 62 = .ok (.iinc 8 1, 3) := by decide +kernel
theorem dL_law_65 : decode cL_law 65 = .ok (.goto (-15), 3) := by decide +kernel
theorem dL_law_68 : decode cL_law 68 = .ok (.iconst 0, 1) := by decide +kernel
theorem dL_law_69 : decode cL_law 69 = .ok (.istore 8, 2) := by decide +kernel
theorem dL_law_71 : decode cL_law 71 = .ok (.iload 8, 2) := by decide +kernel
theorem dL_law_73 : decode cL_law 73 = .ok (.iconst 5, 1) := by decide +kernel
theorem dL_law_74 : decode cL_law 74 = .ok (.if_icmp .ge 18, 3) := by decide +kernel
theorem dL_law_77 : decode cL_law 77 = .ok (.iload 8, 2) := by decide +kernel
theorem dL_law_79 : decode cL_law 79 = .ok (.aload 6, 2) := by decide +kernel
theorem dL_law_81 : decode cL_law 81 = .ok (.aload 7, 2) := by decide +kernel
theorem dL_law_83 : decode cL_law 83 = .ok (.invokestatic 108, 3) := by decide +kernel
theorem dL_law_86 : decode cL_law 86 = .ok (.iinc 8 1, 3) := by decide +kernel
theorem dL_law_89 : decode cL_law 89 = .ok (.goto (-18), 3) := by decide +kernel
theorem dL_law_92 : decode cL_law 92 = .ok (.aload 6, 2) := by decide +kernel
theorem dL_law_94 : decode cL_law 94 = .ok (.iconst 0, 1) := by decide +kernel
theorem dL_law_95 : decode cL_law 95 = .ok (.iconst 1, 1) := by decide +kernel
theorem dL_law_96 : decode cL_law 96 = .ok (.iastore, 1) := by decide +kernel
theorem dL_law_97 : decode cL_law 97 = .ok (.aload 6, 2) := by decide +kernel
theorem dL_law_99 : decode cL_law 99 = .ok (.bipush 6, 2) := by decide +kernel
theorem dL_law_101 : decode cL_law 101 = .ok (.iconst 1, 1) := by decide +kernel
theorem dL_law_102 : decode cL_law 102 = .ok (.iastore, 1) := by decide +kernel
theorem dL_law_103 : decode cL_law 103 = .ok (.aload_n 1, 1) := by decide +kernel
theorem dL_law_104 : decode cL_law 104 = .ok (.aload_n 2, 1) := by decide +kernel
theorem dL_law_105 : decode cL_law 105 = .ok (.aload_n 3, 1) := by decide +kernel
theorem dL_law_106 : decode cL_law 106 = .ok (.aload 4, 2) := by decide +kernel
theorem dL_law_108 : decode cL_law 108 = .ok (.aload 5, 2) := by decide +kernel
theorem dL_law_110 : decode cL_law 110 = .ok (.aload 6, 2) := by decide +kernel
theorem dL_law_112 : decode cL_law 112 = .ok (.aload 7, 2) := by decide +kernel
theorem dL_law_114 : decode cL_law 114 = .ok (.invokestatic 222, 3) := by decide +kernel
theorem dL_law_117 : decode cL_law 117 = .ok (.ifCond .eq 12, 3) := by decide +kernel
theorem dL_law_120 : decode cL_law 120 = .ok (.aload_n 1, 1) := by decide +kernel
theorem dL_law_121 : decode cL_law 121 = .ok (.invokestatic 226, 3) := by decide +kernel
theorem dL_law_124 : decode cL_law 124 = .ok (.bipush (-33), 2) := by decide +kernel
theorem dL_law_126 : decode cL_law 126 = .ok (.if_icmp .eq 5, 3) := by decide +kernel
theorem dL_law_129 : decode cL_law 129 = .ok (.iconst 0, 1) := by decide +kernel
theorem dL_law_130 : decode cL_law 130 = .ok (.ireturn, 1) := by decide +kernel
theorem dL_law_131 : decode cL_law 131 = .ok (.iconst 0, 1) := by decide +kernel
theorem dL_law_132 : decode cL_law 132 = .ok (.istore 8, 2) := by decide +kernel
theorem dL_law_134 : decode cL_law 134 = .ok (.iload 8, 2) := by decide +kernel
theorem dL_law_136 : decode cL_law 136 = .ok (.bipush 44, 2) := by decide +kernel
theorem dL_law_138 : decode cL_law 138 = .ok (.if_icmp .ge 173, 3) := by decide +kernel
theorem dL_law_141 : decode cL_law 141 = .ok (.aload_n 0, 1) := by decide +kernel
theorem dL_law_142 : decode cL_law 142 = .ok (.iconst 2, 1) := by decide +kernel
theorem dL_law_143 : decode cL_law 143 = .ok (.iload 8, 2) := by decide +kernel
theorem dL_law_145 : decode cL_law 145 = .ok (.imul, 1) := by decide +kernel
theorem dL_law_146 : decode cL_law 146 = .ok (.invokestatic 228, 3) := by decide +kernel
theorem dL_law_149 : decode cL_law 149 = .ok (.istore 9, 2) := by decide +kernel
theorem dL_law_151 : decode cL_law 151 = .ok (.aload_n 0, 1) := by decide +kernel
theorem dL_law_152 : decode cL_law 152 = .ok (.iconst 2, 1) := by decide +kernel
theorem dL_law_153 : decode cL_law 153 = .ok (.iload 8, 2) := by decide +kernel
theorem dL_law_155 : decode cL_law 155 = .ok (.imul, 1) := by decide +kernel
theorem dL_law_156 : decode cL_law 156 = .ok (.iconst 1, 1) := by decide +kernel
theorem dL_law_157 : decode cL_law 157 = .ok (.iadd, 1) := by decide +kernel
theorem dL_law_158 : decode cL_law 158 = .ok (.invokestatic 228, 3) := by decide +kernel
theorem dL_law_161 : decode cL_law 161 = .ok (.istore 10, 2) := by decide +kernel
theorem dL_law_163 : decode cL_law 163 = .ok (.iload 8, 2) := by decide +kernel
theorem dL_law_165 : decode cL_law 165 = .ok (.iconst 2, 1) := by decide +kernel
theorem dL_law_166 : decode cL_law 166 = .ok (.if_icmp .ge 7, 3) := by decide +kernel
theorem dL_law_169 : decode cL_law 169 = .ok (.iconst 0, 1) := by decide +kernel
theorem dL_law_170 : decode cL_law 170 = .ok (.goto 13, 3) := by decide +kernel
theorem dL_law_173 : decode cL_law 173 = .ok (.iload 9, 2) := by decide +kernel
theorem dL_law_175 : decode cL_law 175 = .ok (.bipush 12, 2) := by decide +kernel
theorem dL_law_177 : decode cL_law 177 = .ok (.ishr, 1) := by decide +kernel
theorem dL_law_178 : decode cL_law 178 = .ok (.bipush 9, 2) := by decide +kernel
theorem dL_law_180 : decode cL_law 180 = .ok (.invokestatic 102, 3) := by decide +kernel
theorem dL_law_183 : decode cL_law 183 = .ok (.istore 11, 2) := by decide +kernel
theorem dL_law_185 : decode cL_law 185 = .ok (.iload 8, 2) := by decide +kernel
theorem dL_law_187 : decode cL_law 187 = .ok (.iconst 2, 1) := by decide +kernel
theorem dL_law_188 : decode cL_law 188 = .ok (.if_icmp .ge 22, 3) := by decide +kernel
theorem dL_law_191 : decode cL_law 191 = .ok (.aload_n 1, 1) := by decide +kernel
theorem dL_law_192 : decode cL_law 192 = .ok (.iconst 0, 1) := by decide +kernel
theorem dL_law_193 : decode cL_law 193 = .ok (.iload 8, 2) := by decide +kernel
theorem dL_law_195 : decode cL_law 195 = .ok (.aload_n 2, 1) := by decide +kernel
theorem dL_law_196 : decode cL_law 196 = .ok (.aload 4, 2) := by decide +kernel
theorem dL_law_198 : decode cL_law 198 = .ok (.aload 5, 2) := by decide +kernel
theorem dL_law_200 : decode cL_law 200 = .ok (.aload 6, 2) := by decide +kernel
theorem dL_law_202 : decode cL_law 202 = .ok (.aload 7, 2) := by decide +kernel
theorem dL_law_204 : decode cL_law 204 = .ok (.invokestatic 232, 3) := by decide +kernel
theorem dL_law_207 : decode cL_law 207 = .ok (.goto 72, 3) := by decide +kernel
theorem dL_law_210 : decode cL_law 210 = .ok (.iload 11, 2) := by decide +kernel
theorem dL_law_212 : decode cL_law 212 = .ok (.iconst 2, 1) := by decide +kernel
theorem dL_law_213 : decode cL_law 213 = .ok (.if_icmp .ge 23, 3) := by decide +kernel
theorem dL_law_216 : decode cL_law 216 = .ok (.aload_n 1, 1) := by decide +kernel
theorem dL_law_217 : decode cL_law 217 = .ok (.iload 9, 2) := by decide +kernel
theorem dL_law_219 : decode cL_law 219 = .ok (.iload 10, 2) := by decide +kernel
theorem dL_law_221 : decode cL_law 221 = .ok (.aload_n 2, 1) := by decide +kernel
theorem dL_law_222 : decode cL_law 222 = .ok (.aload 4, 2) := by decide +kernel
theorem dL_law_224 : decode cL_law 224 = .ok (.aload 5, 2) := by decide +kernel
theorem dL_law_226 : decode cL_law 226 = .ok (.aload 6, 2) := by decide +kernel
theorem dL_law_228 : decode cL_law 228 = .ok (.aload 7, 2) := by decide +kernel
theorem dL_law_230 : decode cL_law 230 = .ok (.invokestatic 232, 3) := by decide +kernel
theorem dL_law_233 : decode cL_law 233 = .ok (.goto 46, 3) := by decide +kernel
theorem dL_law_236 : decode cL_law 236 = .ok (.iload 11, 2) := by decide +kernel
theorem dL_law_238 : decode cL_law 238 = .ok (.iconst 5, 1) := by decide +kernel
theorem dL_law_239 : decode cL_law 239 = .ok (.if_icmp .ge 22, 3) := by decide +kernel
theorem dL_law_242 : decode cL_law 242 = .ok (.aload_n 1, 1) := by decide +kernel
theorem dL_law_243 : decode cL_law 243 = .ok (.iload 9, 2) := by decide +kernel
theorem dL_law_245 : decode cL_law 245 = .ok (.iload 10, 2) := by decide +kernel
theorem dL_law_247 : decode cL_law 247 = .ok (.aload_n 2, 1) := by decide +kernel
theorem dL_law_248 : decode cL_law 248 = .ok (.aload_n 3, 1) := by decide +kernel
theorem dL_law_249 : decode cL_law 249 = .ok (.aload 4, 2) := by decide +kernel
theorem dL_law_251 : decode cL_law 251 = .ok (.aload 6, 2) := by decide +kernel
theorem dL_law_253 : decode cL_law 253 = .ok (.aload 7, 2) := by decide +kernel
theorem dL_law_255 : decode cL_law 255 = .ok (.invokestatic 236, 3) := by decide +kernel
theorem dL_law_258 : decode cL_law 258 = .ok (.goto 21, 3) := by decide +kernel
theorem dL_law_261 : decode cL_law 261 = .ok (.aload_n 1, 1) := by decide +kernel
theorem dL_law_262 : decode cL_law 262 = .ok (.iload 9, 2) := by decide +kernel
theorem dL_law_264 : decode cL_law 264 = .ok (.iload 10, 2) := by decide +kernel
theorem dL_law_266 : decode cL_law 266 = .ok (.aload_n 2, 1) := by decide +kernel
theorem dL_law_267 : decode cL_law 267 = .ok (.aload_n 3, 1) := by decide +kernel
theorem dL_law_268 : decode cL_law 268 = .ok (.aload 4, 2) := by decide +kernel
theorem dL_law_270 : decode cL_law 270 = .ok (.aload 5, 2) := by decide +kernel
theorem dL_law_272 : decode cL_law 272 = .ok (.aload 6, 2) := by decide +kernel
theorem dL_law_274 : decode cL_law 274 = .ok (.aload 7, 2) := by decide +kernel
theorem dL_law_276 : decode cL_law 276 = .ok (.invokestatic 239, 3) := by decide +kernel
theorem dL_law_279 : decode cL_law 279 = .ok (.istore 12, 2) := by decide +kernel
theorem dL_law_281 : decode cL_law 281 = .ok (.iload 12, 2) := by decide +kernel
theorem dL_law_283 : decode cL_law 283 = .ok (.ifCond .eq 20, 3) := by decide +kernel
theorem dL_law_286 : decode cL_law 286 = .ok (.aload_n 1, 1) := by decide +kernel
theorem dL_law_287 : decode cL_law 287 = .ok (.aload_n 2, 1) := by decide +kernel
theorem dL_law_288 : decode cL_law 288 = .ok (.aload_n 3, 1) := by decide +kernel
theorem dL_law_289 : decode cL_law 289 = .ok (.aload 4, 2) := by decide +kernel
theorem dL_law_291 : decode cL_law 291 = .ok (.aload 5, 2) := by decide +kernel
theorem dL_law_293 : decode cL_law 293 = .ok (.aload 6, 2) := by decide +kernel
theorem dL_law_295 : decode cL_law 295 = .ok (.aload 7, 2) := by decide +kernel
theorem dL_law_297 : decode cL_law 297 = .ok (.invokestatic 222, 3) := by decide +kernel
theorem dL_law_300 : decode cL_law 300 = .ok (.ifCond .ne 5, 3) := by decide +kernel
theorem dL_law_303 : decode cL_law 303 = .ok (.iconst 0, 1) := by decide +kernel
theorem dL_law_304 : decode cL_law 304 = .ok (.ireturn, 1) := by decide +kernel
theorem dL_law_305 : decode cL_law 305 = .ok (.iinc 8 1, 3) := by decide +kernel
theorem dL_law_308 : decode cL_law 308 = .ok (.goto (-174), 3) := by decide +kernel
theorem dL_law_311 : decode cL_law 311 = .ok (.aload_n 1, 1) := by decide +kernel
theorem dL_law_312 : decode cL_law 312 = .ok (.bipush 15, 2) := by decide +kernel
theorem dL_law_314 : decode cL_law 314 = .ok (.invokevirtual 191, 3) := by decide +kernel
theorem dL_law_317 : decode cL_law 317 = .ok (.bipush 6, 2) := by decide +kernel
theorem dL_law_319 : decode cL_law 319 = .ok (.if_icmp .gt 16, 3) := by decide +kernel
theorem dL_law_322 : decode cL_law 322 = .ok (.aload_n 1, 1) := by decide +kernel
theorem dL_law_323 : decode cL_law 323 = .ok (.bipush 15, 2) := by decide +kernel
theorem dL_law_325 : decode cL_law 325 = .ok (.invokevirtual 191, 3) := by decide +kernel
theorem dL_law_328 : decode cL_law 328 = .ok (.ifCond .le 7, 3) := by decide +kernel
theorem dL_law_331 : decode cL_law 331 = .ok (.iconst 1, 1) := by decide +kernel
theorem dL_law_332 : decode cL_law 332 = .ok (.goto 4, 3) := by decide +kernel
theorem dL_law_335 : decode cL_law 335 = .ok (.iconst 0, 1) := by decide +kernel
theorem dL_law_336 : decode cL_law 336 = .ok (.ireturn, 1) := by decide +kernel
end
