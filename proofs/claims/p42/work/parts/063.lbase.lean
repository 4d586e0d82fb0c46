/-! the law's own methods -/
def bi {α β : Type} (m : Option ((α ⊕ String) × xWt)) (f : α → xWt → Option β) : Option β := match m with
  | some (.inl a, w) => f a w
  | some (.inr _, _) => none
  | none => none
theorem bi_some {α β : Type} {m : Option ((α ⊕ String) × xWt)} {f : α → xWt → Option β} {r : β} (h : bi m f = some r) : ∃ a w, m = some (.inl a, w) ∧ f a w = some r := by
  match m, h with
  | some (.inl a, w), h => exact ⟨a, w, rfl, h⟩
/-- the row that is made on the way -/
def nld {β : Type} (w : xWt) (i : Int32) (f : Int32 → Option β) : Option β := match w.2.2 with
  | some g => if i < 0 ∨ 40 ≤ i.toNatClampNeg then none else f (g i.toNatClampNeg)
  | none => none
def nst {β : Type} (w : xWt) (i x : Int32) (f : xWt → Option β) : Option β := match w.2.2 with
  | some g => if i < 0 ∨ 40 ≤ i.toNatClampNeg then none else f (sO w (upd g i.toNatClampNeg x))
  | none => none
def dO (w : xWt) : xWt := (w.1, w.2.1, none)
def nG (G : xG) (a : Nat) : xG := (G.1, G.2.1, G.2.2.1, G.2.2.2.1, a)
theorem CW.drop {G : xG} {b a : Nat} {w : xWt} {H : Heap} (h : CW (nG G a) b w H) : CW G b (dO w) H :=
  ⟨h.1, h.2.1, h.2.2.1, h.2.2.2.1, h.2.2.2.2.1, h.2.2.2.2.2.1, h.2.2.2.2.2.2.1, fun v hv => by cases hv⟩
theorem CW.put_out {G : xG} {b oa : Nat} {w : xWt} {v : Nat → Int32} {H : Heap} (h : CW G b w H) (hb : b + 300 ≤ oa) (ha : va_at G.1 vwCl (oa, .inl (G.2.1, 40, .inl v)) H) : CW (nG G oa) b (sO w v) H :=
  ⟨h.1, h.2.1, h.2.2.1, h.2.2.2.1, h.2.2.2.2.1, h.2.2.2.2.2.1, h.2.2.2.2.2.2.1, fun v9 hv => by
    have hv0 : some v = some v9 := hv
    cases hv0
    exact ⟨hb, ha⟩⟩
/-- the script of L ints lies at sb, below all that is made -/
def xS (b sb L : Nat) (xs : Nat → Int32) (s : State) : Prop := va_X sb L xs s s.heap ∧ sb < s.heap.size ∧ ¬ xA b sb
theorem xS.next {b sb L : Nat} {xs : Nat → Int32} {s U : State} {locs : List Loc} (h : xS b sb L xs s) (hW : s.WarmedH U.vm) (hS : va_S (xA b) s.heap U.heap locs) : xS b sb L xs U :=
  ⟨va_X.moved hW.alike (h.1.kept (hS.2.1 sb h.2.1 h.2.2)), Nat.lt_of_lt_of_le h.2.1 hS.1, h.2.2⟩
def sld {β : Type} (xs : Nat → Int32) (L : Nat) (i : Int32) (f : Int32 → Option β) : Option β := if i < 0 ∨ L ≤ i.toNatClampNeg then none else f (xs i.toNatClampNeg)
def xPcS (G : xG) (b sb L : Nat) (xs : Nat → Int32) (as : List Value) (P : Heap → Prop) : Array Value → State → Prop := va_Pc as (fun U => P U.heap ∧ xK G U ∧ b ≤ U.heap.size ∧ xS b sb L xs U)
theorem xPcS.blind {G : xG} {b sb L : Nat} {xs : Nat → Int32} {as : List Value} {P : Heap → Prop} : FrameBlind (xPcS G b sb L xs as P) := by
  intro a U g mk q
  obtain ⟨q0, q1, q2, q3, h1, h2, h3⟩ := q
  exact ⟨q0, q1, va_K.moved (u := U) (U := U.calling g mk a) (Vm.Alike.refl U.vm) q2, q3, va_X.moved (u := U) (U := U.calling g mk a) (Vm.Alike.refl U.vm) h1, h2, h3⟩
def xMetS (l : Launch) (G : xG) (b sb L : Nat) (xs : Nat → Int32) (y : MethodName) (cc : ByteArray) (n : Nat) (ret : Option FieldType) (rm : Room) (as : List Value) (P : Heap → Prop) (v : Option Value) (P' : Heap → Prop) (mc ms : Nat) : Prop :=
  Met l y (xWs y cc n ret) rm (xPcS G b sb L xs as P) (xQ b v P') mc ms (xA b)
section XLb
variable {p : Program} {l : Launch} {e : Env} {R : Room} {s : State} {m : MethodId} {args : Array Value} {below : List Frame} {meth : Method} {c : Code} {Q : State → Prop} {b nL : Nat} {P P' : Heap → Prop} {cells slots pc mc ms : Nat} {lv lv' : List (Nat × Value)} {st : List Value} {G : xG} {cc : ByteArray} {own : String} {w : xWt} {sb L : Nat} {xs : Nat → Int32}
theorem x_ofS {y : MethodName} {ret : Option FieldType} {rm : Room} {as : List Value} {v : Option Value} (ho : y.cls = own) (hy : plainFor y = true) (hlen : (lg_sl as).length ≤ nL)
    (body : ∀ p e s m args below meth c, args = as.toArray → xC p m c s args meth G b cc nL own → meth.sig.returnType = ret → xS b sb L xs s → xW p l e rm s m args below meth c (MQ below (xQ b v P') args s mc ms (xA b)) b nL P 0 0 0 (lv_args 0 as) []) : xMetS l G b sb L xs y cc nL ret rm as P v P' mc ms := by
  subst ho
  refine x_ofW (cc := cc) (maxL := nL) (ret := ret) hy rfl ?_
  intro p e s m args below meth c s₁ B hml hv
  obtain ⟨hargs, hP, hK, hbl, hS⟩ := hv
  have hts := atoms_spec (ws := xWs y cc nL ret) B.pre
  have hC : xC p m c s args meth G b cc nL y.cls := ⟨B.exec, B.bytes, hml, findClass_of_methodNamed B.named, fun w hw => hts w (List.mem_cons_of_mem _ hw), B.notSynchronized, hK, hbl⟩
  have hl := lv_entry as (n := nL) hlen
  have k := body p e s m args below meth c hargs hC B.returns hS
  have h2 := k s.heap [] _ hP va_S.rf hl
  rw [hargs]
  rw [hargs] at h2
  rw [lg_entry_eq]
  exact h2
theorem x_sld (C : xC p m c s args meth G b cc nL own) (hS : xS b sb L xs s) {β : Type} {i : Int32} {f : Int32 → Option β} {z : β} (hF : sld xs L i f = some z) (d : decode cc pc = .ok (.iaload, 1)) (k : ∀ x, f x = some z → xW p l e R s m args below meth c Q b nL P cells slots (pc + 1) lv (.int x :: st)) : xW p l e R s m args below meth c Q b nL P cells slots pc lv (.int i :: .ref sb :: st) := by
  unfold sld at hF
  split at hF
  · cases hF
  · next hin => exact fun H locs ls h1 h2 h3 => va_sld C.1 C.2.1 hS.1 hS.2.1 hS.2.2 h2 hin d (k _ hF H locs ls h1 h2 h3)
theorem x_slen (C : xC p m c s args meth G b cc nL own) (hS : xS b sb L xs s) (d : decode cc pc = .ok (.arraylength, 1)) (k : xW p l e R s m args below meth c Q b nL P cells slots (pc + 1) lv (.int (Int32.ofNat L) :: st)) : xW p l e R s m args below meth c Q b nL P cells slots pc lv (.ref sb :: st) :=
  fun H locs ls h1 h2 h3 => va_slen C.1 C.2.1 hS.1 hS.2.1 hS.2.2 h2 d (k H locs ls h1 h2 h3)
theorem x_widen {k n : Nat} (h1 : cells ≤ k) (h2 : slots ≤ n) (kk : xW p l e R s m args below meth c Q b nL P k n pc lv st) : xW p l e R s m args below meth c Q b nL P cells slots pc lv st := fun H locs ls g1 g2 g3 => W.widen h1 h2 (kk H locs ls g1 g2 g3)
theorem x_join {P1 : Heap → Prop} {pcJ : Nat} {lvJ : List (Nat × Value)} {stJ : List Value} (c1 s1 : Nat) (kJ : xW p l e R s m args below meth c Q b nL P1 c1 s1 pcJ lvJ stJ) (k : xW p l e R s m args below meth c Q b nL P1 c1 s1 pcJ lvJ stJ → xW p l e R s m args below meth c Q b nL P cells slots pc lv st) : xW p l e R s m args below meth c Q b nL P cells slots pc lv st := k kJ
theorem w_nld (C : xC p m c s args meth G b cc nL own) {β : Type} {i : Int32} {f : Int32 → Option β} {z : β} (hF : nld w i f = some z) (d : decode cc pc = .ok (.iaload, 1)) (k : ∀ x, f x = some z → xW p l e R s m args below meth c Q b nL (CW G b w) cells slots (pc + 1) lv (.int x :: st)) : xW p l e R s m args below meth c Q b nL (CW G b w) cells slots pc lv (.int i :: .ref (oub G) :: st) := by
  unfold nld at hF
  split at hF
  · next g hg =>
    split at hF
    · cases hF
    · next hin => exact x_iald C (fun H h => (h.ou _ hg).2) hin d (k _ hF)
  · cases hF
theorem w_nst (C : xC p m c s args meth G b cc nL own) {β : Type} {i x : Int32} {f : xWt → Option β} {z : β} (hF : nst w i x f = some z) (d : decode cc pc = .ok (.iastore, 1)) (k : ∀ w1, f w1 = some z → xW p l e R s m args below meth c Q b nL (CW G b w1) cells slots (pc + 1) lv st) : xW p l e R s m args below meth c Q b nL (CW G b w) cells slots pc lv (.int x :: .int i :: .ref (oub G) :: st) := by
  unfold nst at hF
  split at hF
  · next g hg =>
    split at hF
    · cases hF
    · next hin =>
      intro H locs ls h1 h2 h3
      have hb := (h1.ou _ hg).1
      exact x_iast (P' := CW G b (sO w (upd g i.toNatClampNeg x))) C (fun H h => (h.ou _ hg).2) hin (by omega) (fun H H' h _ oq hn => h.out hb oq hn) d (k _ hF) H locs ls h1 h2 h3
  · cases hF
/-- the row is made -/
theorem w_new (C : xC p m c s args meth G b cc nL own) (hR : cells + 1 ≤ R.cells ∧ slots + 40 ≤ R.slots) (d : decode cc pc = .ok (.newarray .int, 2)) (k : ∀ G1 : xG, (∀ (w : xWt) (H : Heap), CW G1 b w H → CW G b (dO w) H) → xC p m c s args meth G1 b cc nL own → xW p l e R s m args below meth c Q b nL (CW G1 b (sO w (fun _ => 0))) (cells + 1) (slots + 40) (pc + 2) lv (.ref (oub G1) :: st)) : xW p l e R s m args below meth c Q b nL (CW G b w) cells slots pc lv (.int 40 :: st) := by
  intro H locs ls h1 h2 h3
  have hts := C.2.2.2.2.1
  have hK : va_K G.1 vwCl (xT G) s := C.2.2.2.2.2.2.1
  have hlt : b + 294 + 5 < H.size := (h1.arr (k := 10) (r := 5) (vA_m 5 (by decide))).lt
  refine va_newaK (atype := .int) C.1 C.2.1 (hts _ wq3) rfl d rfl (by decide) (N := 40) rfl (Nat.le_of_ble_eq_true rfl) hR.1 hR.2 rfl fun H1 cA e1 z1 o1 hAr hNm => ?_
  have hcA : cA = G.2.1 := Option.some.inj (hNm.symm.trans (hK.2 0 _ rfl).2)
  subst hcA
  have h21 := h2.1
  refine k (nG G H.size) (fun w H h => h.drop) C H1 locs ls ?_ ⟨Nat.le_trans h2.1 (by omega), fun x g1 g2 => (o1 x (by omega)).trans (h2.2.1 x g1 g2), h2.2.2⟩ h3
  exact (h1.grow o1).put_out (by omega) e1
theorem x_callSS (C : xC p m c s args meth G b cc nL own) (hS : xS b sb L xs s) {y : MethodName} {bytes : ByteArray} {maxL index : Nat} {ret : Option FieldType} {rm : Room} {mc1 ms1 : Nat} (As : List Value) {rest : List Value} {v : Option Value}
    (hM : xMetS l G b sb L xs y bytes maxL ret rm As P v P' mc1 ms1) (hcode : Cond.code y bytes maxL ret ∈ gw) (hini : Cond.initialized y.cls ∈ gw) (hl : Cond.methodLink own index y ∈ gw) (hstat : Cond.static y ∈ gw) (hrc : rm.cells = mc1) (hrs : rm.slots = ms1)
    (hd : y.cls ≠ "java/lang/invoke/MethodHandle" ∧ y.cls ≠ "java/lang/invoke/VarHandle" ∧ (parseMethodDescriptor y.desc).map (fun d => d.parameters.length) = some As.length) (hR : rm.frames + 1 ≤ R.frames ∧ 8 + (maxL + 11) + rm.locals ≤ R.locals)
    (hst : st = As.reverse ++ rest) (hcat : (rest.map fun v => v.category).sum ≤ 8) (hf : cells + mc1 ≤ R.cells ∧ slots + ms1 ≤ R.slots) (d : decode cc pc = .ok (.invokestatic index, 3)) (k : xW p l e R s m args below meth c Q b nL P' (cells + mc1) (slots + ms1) (pc + 3) lv (v.toList ++ rest)) : xW p l e R s m args below meth c Q b nL P cells slots pc lv st := by
  intro H locs ls h1 h2 h3
  subst hst
  have hK : va_K G.1 vwCl (xT G) s := C.2.2.2.2.2.2.1
  refine x_back H locs ls h2 h3 (va_runS (rm := rm) (As := As) (rest := rest) ⟨C.1, C.2.1, C.2.2.1, C.2.2.2.1, C.2.2.2.2.1⟩ hM ⟨x_callB C hcode hini hl hrc hrs hd hR, C.2.2.2.2.1 _ hstat⟩ ⟨xPcS.blind, fun U hU hW => ⟨rfl, by rw [hU]; exact h1, hK.moved hW.alike, by rw [hU]; exact Nat.le_trans C.2.2.2.2.2.2.2 h2.1, hS.next hW (by rw [hU]; exact h2)⟩⟩ rfl rfl h3.1 rfl (lv_room hcat) d hf) k
theorem cSS_2 (C : xC p m c s args meth G b cc nL own) (hS : xS b sb L xs s) {β : Type} {v1 v2 : Value} {y : MethodName} {bytes : ByteArray} {maxL index : Nat} {ret : Option FieldType} {rm : Room} {rest : List Value} {M : Option (Int32 × xWt)} {f : Int32 → xWt → Option β} {r : β} (hF : bd M f = some r) (h : ∀ (v : Int32) (w1 : xWt), M = some (v, w1) → xMetS l G b sb L xs y bytes maxL ret rm [v1, v2] P (some (.int v)) (CW G b w1) 0 0)
    (hy : xSm y bytes maxL ret 2) (hl : Cond.methodLink own index y ∈ gw) (hrc : rm.cells = 0) (hrs : rm.slots = 0) (hR : rm.frames + 1 ≤ R.frames ∧ 8 + (maxL + 11) + rm.locals ≤ R.locals) (hcat : (rest.map fun v => v.category).sum ≤ 8) (hf : cells ≤ R.cells ∧ slots ≤ R.slots) (d : decode cc pc = .ok (.invokestatic index, 3))
    (k : ∀ (v : Int32) (w1 : xWt), f v w1 = some r → xW p l e R s m args below meth c Q b nL (CW G b w1) cells slots (pc + 3) lv (.int v :: rest)) : xW p l e R s m args below meth c Q b nL P cells slots pc lv (v2 :: v1 :: rest) := by
  obtain ⟨v, w1, hm, hk⟩ := bd_some hF
  exact x_callSS C hS [v1, v2] (h v w1 hm) hy.1 hy.2.1 hl hy.2.2.1 hrc hrs hy.2.2.2 hR rfl hcat (by exact hf) d (k v w1 hk)
theorem cF1_0 (C : xC p m c s args meth G b cc nL own) (hX : xF b s) {β α : Type} {val : α → Value} {y : MethodName} {bytes : ByteArray} {maxL index ci a0 d1 : Nat} {ret : Option FieldType} {fs : List Value} {K9 : vw_C} {rest : List Value} {M : Option ((α ⊕ String) × xWt)} {f : α → xWt → Option β} {r : β} (hF : bi M f = some r) (h : ∀ (v : α) (w1 : xWt), M = some (.inl v, w1) → xMetX l G b y bytes maxL ret (xRX d1 (mco (Sum.inl v : α ⊕ String)) (6 * (mco (Sum.inl v : α ⊕ String)))) (.ref a0 :: []) P (ov (fun v => some (val v)) (Sum.inl v : α ⊕ String)) (CW G b w1) (mco (Sum.inl v : α ⊕ String)) (6 * (mco (Sum.inl v : α ⊕ String))))
    (hy : xVm y bytes maxL ret 0) (hl : Cond.methodLink own index y ∈ gw) (hR : d1 + 1 ≤ R.frames ∧ 8 + (maxL + 11) + 36 * d1 ≤ R.locals) (hci : vwCl[ci]? = some K9) (hK1 : K9.1 = y.cls) (hat : ∀ H, P H → va_at G.1 vwCl (a0, .inr (ci, fs)) H) (hcat : (rest.map fun v => v.category).sum ≤ 8) (hf : cells ≤ R.cells ∧ slots ≤ R.slots) (d : decode cc pc = .ok (.invokevirtual index, 3))
    (k : ∀ (v : α) (w1 : xWt), f v w1 = some r → xW p l e R s m args below meth c Q b nL (CW G b w1) cells slots (pc + 3) lv (val v :: rest)) : xW p l e R s m args below meth c Q b nL P cells slots pc lv (.ref a0 :: rest) := by
  intro H locs ls h1 h2 h3
  have hK : va_K G.1 vwCl (xT G) s := C.2.2.2.2.2.2.1
  obtain ⟨v, w1, hm, hk⟩ := bi_some hF
  exact xv_back (rest := rest) (mc1 := 0) (ms1 := 0) H locs ls h2 h3 (vx_runV (rm := xRX d1 (mco (Sum.inl v : α ⊕ String)) (6 * (mco (Sum.inl v : α ⊕ String)))) (As := []) (rest := rest) (C := K9.1) ⟨C.1, C.2.1, C.2.2.1, C.2.2.2.1, C.2.2.2.2.1⟩ (h v w1 hm) ⟨x_callB C hy.1 hy.2.1 hl rfl rfl hy.2.2.2.2 hR, C.2.2.2.2.1 _ hy.2.2.1, C.2.2.2.2.1 _ (by rw [hK1]; exact hy.2.2.2.1)⟩ ⟨xPcX.blind, va_recv (q0 := 0) (ws := [(a0, .inr (ci, fs))]) hK (fun j q hq => by
      match j, hq with
      | 0, hq => cases hq; exact hat H h1
      | j + 1, hq => simp at hq) hci rfl, fun U hU hW => ⟨rfl, by rw [hU]; exact h1, hK.moved hW.alike, by rw [hU]; exact Nat.le_trans C.2.2.2.2.2.2.2 h2.1, hX.next hW (by rw [hU]; exact h2)⟩⟩ rfl rfl h3.1 rfl (lv_room hcat) d hf) (fun v' hv => by cases hv; exact k v w1 hk) (fun E hE => by cases hE)
theorem cF1_1 (C : xC p m c s args meth G b cc nL own) (hX : xF b s) {β α : Type} {val : α → Value} {v1 : Value} {y : MethodName} {bytes : ByteArray} {maxL index ci a0 d1 : Nat} {ret : Option FieldType} {fs : List Value} {K9 : vw_C} {rest : List Value} {M : Option ((α ⊕ String) × xWt)} {f : α → xWt → Option β} {r : β} (hF : bi M f = some r) (h : ∀ (v : α) (w1 : xWt), M = some (.inl v, w1) → xMetX l G b y bytes maxL ret (xRX d1 (mco (Sum.inl v : α ⊕ String)) (6 * (mco (Sum.inl v : α ⊕ String)))) (.ref a0 :: [v1]) P (ov (fun v => some (val v)) (Sum.inl v : α ⊕ String)) (CW G b w1) (mco (Sum.inl v : α ⊕ String)) (6 * (mco (Sum.inl v : α ⊕ String))))
    (hy : xVm y bytes maxL ret 1) (hl : Cond.methodLink own index y ∈ gw) (hR : d1 + 1 ≤ R.frames ∧ 8 + (maxL + 11) + 36 * d1 ≤ R.locals) (hci : vwCl[ci]? = some K9) (hK1 : K9.1 = y.cls) (hat : ∀ H, P H → va_at G.1 vwCl (a0, .inr (ci, fs)) H) (hcat : (rest.map fun v => v.category).sum ≤ 8) (hf : cells ≤ R.cells ∧ slots ≤ R.slots) (d : decode cc pc = .ok (.invokevirtual index, 3))
    (k : ∀ (v : α) (w1 : xWt), f v w1 = some r → xW p l e R s m args below meth c Q b nL (CW G b w1) cells slots (pc + 3) lv (val v :: rest)) : xW p l e R s m args below meth c Q b nL P cells slots pc lv (v1 :: .ref a0 :: rest) := by
  intro H locs ls h1 h2 h3
  have hK : va_K G.1 vwCl (xT G) s := C.2.2.2.2.2.2.1
  obtain ⟨v, w1, hm, hk⟩ := bi_some hF
  exact xv_back (rest := rest) (mc1 := 0) (ms1 := 0) H locs ls h2 h3 (vx_runV (rm := xRX d1 (mco (Sum.inl v : α ⊕ String)) (6 * (mco (Sum.inl v : α ⊕ String)))) (As := [v1]) (rest := rest) (C := K9.1) ⟨C.1, C.2.1, C.2.2.1, C.2.2.2.1, C.2.2.2.2.1⟩ (h v w1 hm) ⟨x_callB C hy.1 hy.2.1 hl rfl rfl hy.2.2.2.2 hR, C.2.2.2.2.1 _ hy.2.2.1, C.2.2.2.2.1 _ (by rw [hK1]; exact hy.2.2.2.1)⟩ ⟨xPcX.blind, va_recv (q0 := 0) (ws := [(a0, .inr (ci, fs))]) hK (fun j q hq => by
      match j, hq with
      | 0, hq => cases hq; exact hat H h1
      | j + 1, hq => simp at hq) hci rfl, fun U hU hW => ⟨rfl, by rw [hU]; exact h1, hK.moved hW.alike, by rw [hU]; exact Nat.le_trans C.2.2.2.2.2.2.2 h2.1, hX.next hW (by rw [hU]; exact h2)⟩⟩ rfl rfl h3.1 rfl (lv_room hcat) d hf) (fun v' hv => by cases hv; exact k v w1 hk) (fun E hE => by cases hE)
theorem cF1_2 (C : xC p m c s args meth G b cc nL own) (hX : xF b s) {β α : Type} {val : α → Value} {v1 v2 : Value} {y : MethodName} {bytes : ByteArray} {maxL index ci a0 d1 : Nat} {ret : Option FieldType} {fs : List Value} {K9 : vw_C} {rest : List Value} {M : Option ((α ⊕ String) × xWt)} {f : α → xWt → Option β} {r : β} (hF : bi M f = some r) (h : ∀ (v : α) (w1 : xWt), M = some (.inl v, w1) → xMetX l G b y bytes maxL ret (xRX d1 (mco (Sum.inl v : α ⊕ String)) (6 * (mco (Sum.inl v : α ⊕ String)))) (.ref a0 :: [v1, v2]) P (ov (fun v => some (val v)) (Sum.inl v : α ⊕ String)) (CW G b w1) (mco (Sum.inl v : α ⊕ String)) (6 * (mco (Sum.inl v : α ⊕ String))))
    (hy : xVm y bytes maxL ret 2) (hl : Cond.methodLink own index y ∈ gw) (hR : d1 + 1 ≤ R.frames ∧ 8 + (maxL + 11) + 36 * d1 ≤ R.locals) (hci : vwCl[ci]? = some K9) (hK1 : K9.1 = y.cls) (hat : ∀ H, P H → va_at G.1 vwCl (a0, .inr (ci, fs)) H) (hcat : (rest.map fun v => v.category).sum ≤ 8) (hf : cells ≤ R.cells ∧ slots ≤ R.slots) (d : decode cc pc = .ok (.invokevirtual index, 3))
    (k : ∀ (v : α) (w1 : xWt), f v w1 = some r → xW p l e R s m args below meth c Q b nL (CW G b w1) cells slots (pc + 3) lv (val v :: rest)) : xW p l e R s m args below meth c Q b nL P cells slots pc lv (v2 :: v1 :: .ref a0 :: rest) := by
  intro H locs ls h1 h2 h3
  have hK : va_K G.1 vwCl (xT G) s := C.2.2.2.2.2.2.1
  obtain ⟨v, w1, hm, hk⟩ := bi_some hF
  exact xv_back (rest := rest) (mc1 := 0) (ms1 := 0) H locs ls h2 h3 (vx_runV (rm := xRX d1 (mco (Sum.inl v : α ⊕ String)) (6 * (mco (Sum.inl v : α ⊕ String)))) (As := [v1, v2]) (rest := rest) (C := K9.1) ⟨C.1, C.2.1, C.2.2.1, C.2.2.2.1, C.2.2.2.2.1⟩ (h v w1 hm) ⟨x_callB C hy.1 hy.2.1 hl rfl rfl hy.2.2.2.2 hR, C.2.2.2.2.1 _ hy.2.2.1, C.2.2.2.2.1 _ (by rw [hK1]; exact hy.2.2.2.1)⟩ ⟨xPcX.blind, va_recv (q0 := 0) (ws := [(a0, .inr (ci, fs))]) hK (fun j q hq => by
      match j, hq with
      | 0, hq => cases hq; exact hat H h1
      | j + 1, hq => simp at hq) hci rfl, fun U hU hW => ⟨rfl, by rw [hU]; exact h1, hK.moved hW.alike, by rw [hU]; exact Nat.le_trans C.2.2.2.2.2.2.2 h2.1, hX.next hW (by rw [hU]; exact h2)⟩⟩ rfl rfl h3.1 rfl (lv_room hcat) d hf) (fun v' hv => by cases hv; exact k v w1 hk) (fun E hE => by cases hE)
theorem cF1_3 (C : xC p m c s args meth G b cc nL own) (hX : xF b s) {β α : Type} {val : α → Value} {v1 v2 v3 : Value} {y : MethodName} {bytes : ByteArray} {maxL index ci a0 d1 : Nat} {ret : Option FieldType} {fs : List Value} {K9 : vw_C} {rest : List Value} {M : Option ((α ⊕ String) × xWt)} {f : α → xWt → Option β} {r : β} (hF : bi M f = some r) (h : ∀ (v : α) (w1 : xWt), M = some (.inl v, w1) → xMetX l G b y bytes maxL ret (xRX d1 (mco (Sum.inl v : α ⊕ String)) (6 * (mco (Sum.inl v : α ⊕ String)))) (.ref a0 :: [v1, v2, v3]) P (ov (fun v => some (val v)) (Sum.inl v : α ⊕ String)) (CW G b w1) (mco (Sum.inl v : α ⊕ String)) (6 * (mco (Sum.inl v : α ⊕ String))))
    (hy : xVm y bytes maxL ret 3) (hl : Cond.methodLink own index y ∈ gw) (hR : d1 + 1 ≤ R.frames ∧ 8 + (maxL + 11) + 36 * d1 ≤ R.locals) (hci : vwCl[ci]? = some K9) (hK1 : K9.1 = y.cls) (hat : ∀ H, P H → va_at G.1 vwCl (a0, .inr (ci, fs)) H) (hcat : (rest.map fun v => v.category).sum ≤ 8) (hf : cells ≤ R.cells ∧ slots ≤ R.slots) (d : decode cc pc = .ok (.invokevirtual index, 3))
    (k : ∀ (v : α) (w1 : xWt), f v w1 = some r → xW p l e R s m args below meth c Q b nL (CW G b w1) cells slots (pc + 3) lv (val v :: rest)) : xW p l e R s m args below meth c Q b nL P cells slots pc lv (v3 :: v2 :: v1 :: .ref a0 :: rest) := by
  intro H locs ls h1 h2 h3
  have hK : va_K G.1 vwCl (xT G) s := C.2.2.2.2.2.2.1
  obtain ⟨v, w1, hm, hk⟩ := bi_some hF
  exact xv_back (rest := rest) (mc1 := 0) (ms1 := 0) H locs ls h2 h3 (vx_runV (rm := xRX d1 (mco (Sum.inl v : α ⊕ String)) (6 * (mco (Sum.inl v : α ⊕ String)))) (As := [v1, v2, v3]) (rest := rest) (C := K9.1) ⟨C.1, C.2.1, C.2.2.1, C.2.2.2.1, C.2.2.2.2.1⟩ (h v w1 hm) ⟨x_callB C hy.1 hy.2.1 hl rfl rfl hy.2.2.2.2 hR, C.2.2.2.2.1 _ hy.2.2.1, C.2.2.2.2.1 _ (by rw [hK1]; exact hy.2.2.2.1)⟩ ⟨xPcX.blind, va_recv (q0 := 0) (ws := [(a0, .inr (ci, fs))]) hK (fun j q hq => by
      match j, hq with
      | 0, hq => cases hq; exact hat H h1
      | j + 1, hq => simp at hq) hci rfl, fun U hU hW => ⟨rfl, by rw [hU]; exact h1, hK.moved hW.alike, by rw [hU]; exact Nat.le_trans C.2.2.2.2.2.2.2 h2.1, hX.next hW (by rw [hU]; exact h2)⟩⟩ rfl rfl h3.1 rfl (lv_room hcat) d hf) (fun v' hv => by cases hv; exact k v w1 hk) (fun E hE => by cases hE)
theorem cL1_1 (C : xC p m c s args meth G b cc nL own) (hX : xF b s) {β : Type} {v1 : Value} {y : MethodName} {bytes : ByteArray} {maxL index mc1 ms1 : Nat} {ret : Option FieldType} {hh : List (Nat × Nat × Nat × Nat)} {rm : Room} {rest : List Value} {M : Option (Int32 × xWt)} {f : Int32 → xWt → Option β} {r : β} (hF : bd M f = some r) (h : ∀ (v : Int32) (w1 : xWt), M = some (v, w1) → xMetL l G b y bytes maxL ret hh rm [v1] P (some (.int v)) (CW G b w1) mc1 ms1)
    (hcw : Cond.codeWith y bytes maxL ret hh ∈ gw) (hini : Cond.initialized y.cls ∈ gw) (hstat : Cond.static y ∈ gw) (hd : y.cls ≠ "java/lang/invoke/MethodHandle" ∧ y.cls ≠ "java/lang/invoke/VarHandle" ∧ (parseMethodDescriptor y.desc).map (fun d => d.parameters.length) = some 1) (hl : Cond.methodLink own index y ∈ gw) (hrc : rm.cells = mc1) (hrs : rm.slots = ms1) (hR : rm.frames + 1 ≤ R.frames ∧ 8 + (maxL + 11) + rm.locals ≤ R.locals) (hcat : (rest.map fun v => v.category).sum ≤ 8) (hf : cells + mc1 ≤ R.cells ∧ slots + ms1 ≤ R.slots) (d : decode cc pc = .ok (.invokestatic index, 3))
    (k : ∀ (v : Int32) (w1 : xWt), f v w1 = some r → xW p l e R s m args below meth c Q b nL (CW G b w1) (cells + mc1) (slots + ms1) (pc + 3) lv (.int v :: rest)) : xW p l e R s m args below meth c Q b nL P cells slots pc lv (v1 :: rest) := by
  intro H locs ls h1 h2 h3
  have hK : va_K G.1 vwCl (xT G) s := C.2.2.2.2.2.2.1
  obtain ⟨v, w1, hm, hk⟩ := bd_some hF
  have hws : ∀ w ∈ xWsH y bytes maxL ret hh, ∀ (a' : Array Value) (U : State), s.WarmedH U.vm → w.before a' U = true := pay_in C.2.2.2.2.1 (fun w h => (List.mem_cons.mp h).elim (fun e => by rw [e]; exact gw_good _ hcw) (fun h => gw_good w h))
  have hr : vx_Run p l e R s m args below meth c H locs cells slots mc1 ms1 (F0 m pc ls (v1 :: rest)) rest (xQ b (some (.int v)) (CW G b w1) ([v1] : List Value).toArray) (fun _ _ _ => False) (xA b) := vx_runSX (hh := hh) (rm := rm) (As := [v1]) (rest := rest) (n := 1) ⟨C.1, C.2.1, C.2.2.1, C.2.2.2.1, C.2.2.2.2.1⟩ (h v w1 hm) ⟨⟨hrc, hrs, hR.1, hR.2, hws, List.mem_cons_self⟩, C.2.2.2.2.1 _ hcw, C.2.2.2.2.1 _ hini, ⟨hd.1, hd.2.1⟩, fun sig h => by
    have h2 := hd.2.2
    rw [h] at h2
    exact (Option.some.inj h2).symm, C.2.2.2.2.1 _ hl, C.2.2.2.2.1 _ hstat⟩ ⟨xPcX.blind, fun U hU hW => ⟨rfl, by rw [hU]; exact h1, hK.moved hW.alike, by rw [hU]; exact Nat.le_trans C.2.2.2.2.2.2.2 h2.1, hX.next hW (by rw [hU]; exact h2)⟩⟩ rfl rfl h3.1 rfl (lv_room hcat) d hf
  intro T hT X
  rcases hr T hT X with ⟨v1, st₀, t, T', L9, h0, X', hL, e1, e2, ⟨hv, hP', hz, hk9⟩, stp⟩ | ⟨q, st₀, t, T', L9, E, ce, h0, X', hL, e1, e2, hx, -⟩
  · cases hv
    rw [h0] at hz hk9
    have hS : va_S (xA b) s.heap T'.heap (locs ++ L9) := ⟨Nat.le_trans h2.1 (by rw [e1]; exact hz), fun q g1 g2 => by rw [e1, hk9 q (Nat.lt_of_lt_of_le g1 h2.1) g2]; exact h2.2.1 q g1 g2, fun q hq => by
        rcases List.mem_append.mp hq with h | h
        · exact h2.2.2 q h
        · exact hL q h⟩
    obtain ⟨t2, a1, b1⟩ := k v w1 hk T'.heap (locs ++ L9) ls (by rw [e1]; exact hP') hS h3 T' rfl X'
    exact ⟨t2, stp t2 a1, b1⟩
  · exact absurd hx id
theorem cL1_2 (C : xC p m c s args meth G b cc nL own) (hX : xF b s) {β : Type} {v1 v2 : Value} {y : MethodName} {bytes : ByteArray} {maxL index mc1 ms1 : Nat} {ret : Option FieldType} {hh : List (Nat × Nat × Nat × Nat)} {rm : Room} {rest : List Value} {M : Option (Int32 × xWt)} {f : Int32 → xWt → Option β} {r : β} (hF : bd M f = some r) (h : ∀ (v : Int32) (w1 : xWt), M = some (v, w1) → xMetL l G b y bytes maxL ret hh rm [v1, v2] P (some (.int v)) (CW G b w1) mc1 ms1)
    (hcw : Cond.codeWith y bytes maxL ret hh ∈ gw) (hini : Cond.initialized y.cls ∈ gw) (hstat : Cond.static y ∈ gw) (hd : y.cls ≠ "java/lang/invoke/MethodHandle" ∧ y.cls ≠ "java/lang/invoke/VarHandle" ∧ (parseMethodDescriptor y.desc).map (fun d => d.parameters.length) = some 2) (hl : Cond.methodLink own index y ∈ gw) (hrc : rm.cells = mc1) (hrs : rm.slots = ms1) (hR : rm.frames + 1 ≤ R.frames ∧ 8 + (maxL + 11) + rm.locals ≤ R.locals) (hcat : (rest.map fun v => v.category).sum ≤ 8) (hf : cells + mc1 ≤ R.cells ∧ slots + ms1 ≤ R.slots) (d : decode cc pc = .ok (.invokestatic index, 3))
    (k : ∀ (v : Int32) (w1 : xWt), f v w1 = some r → xW p l e R s m args below meth c Q b nL (CW G b w1) (cells + mc1) (slots + ms1) (pc + 3) lv (.int v :: rest)) : xW p l e R s m args below meth c Q b nL P cells slots pc lv (v2 :: v1 :: rest) := by
  intro H locs ls h1 h2 h3
  have hK : va_K G.1 vwCl (xT G) s := C.2.2.2.2.2.2.1
  obtain ⟨v, w1, hm, hk⟩ := bd_some hF
  have hws : ∀ w ∈ xWsH y bytes maxL ret hh, ∀ (a' : Array Value) (U : State), s.WarmedH U.vm → w.before a' U = true := pay_in C.2.2.2.2.1 (fun w h => (List.mem_cons.mp h).elim (fun e => by rw [e]; exact gw_good _ hcw) (fun h => gw_good w h))
  have hr : vx_Run p l e R s m args below meth c H locs cells slots mc1 ms1 (F0 m pc ls (v2 :: v1 :: rest)) rest (xQ b (some (.int v)) (CW G b w1) ([v1, v2] : List Value).toArray) (fun _ _ _ => False) (xA b) := vx_runSX (hh := hh) (rm := rm) (As := [v1, v2]) (rest := rest) (n := 2) ⟨C.1, C.2.1, C.2.2.1, C.2.2.2.1, C.2.2.2.2.1⟩ (h v w1 hm) ⟨⟨hrc, hrs, hR.1, hR.2, hws, List.mem_cons_self⟩, C.2.2.2.2.1 _ hcw, C.2.2.2.2.1 _ hini, ⟨hd.1, hd.2.1⟩, fun sig h => by
    have h2 := hd.2.2
    rw [h] at h2
    exact (Option.some.inj h2).symm, C.2.2.2.2.1 _ hl, C.2.2.2.2.1 _ hstat⟩ ⟨xPcX.blind, fun U hU hW => ⟨rfl, by rw [hU]; exact h1, hK.moved hW.alike, by rw [hU]; exact Nat.le_trans C.2.2.2.2.2.2.2 h2.1, hX.next hW (by rw [hU]; exact h2)⟩⟩ rfl rfl h3.1 rfl (lv_room hcat) d hf
  intro T hT X
  rcases hr T hT X with ⟨v1, st₀, t, T', L9, h0, X', hL, e1, e2, ⟨hv, hP', hz, hk9⟩, stp⟩ | ⟨q, st₀, t, T', L9, E, ce, h0, X', hL, e1, e2, hx, -⟩
  · cases hv
    rw [h0] at hz hk9
    have hS : va_S (xA b) s.heap T'.heap (locs ++ L9) := ⟨Nat.le_trans h2.1 (by rw [e1]; exact hz), fun q g1 g2 => by rw [e1, hk9 q (Nat.lt_of_lt_of_le g1 h2.1) g2]; exact h2.2.1 q g1 g2, fun q hq => by
        rcases List.mem_append.mp hq with h | h
        · exact h2.2.2 q h
        · exact hL q h⟩
    obtain ⟨t2, a1, b1⟩ := k v w1 hk T'.heap (locs ++ L9) ls (by rw [e1]; exact hP') hS h3 T' rfl X'
    exact ⟨t2, stp t2 a1, b1⟩
  · exact absurd hx id
theorem cL1_3 (C : xC p m c s args meth G b cc nL own) (hX : xF b s) {β : Type} {v1 v2 v3 : Value} {y : MethodName} {bytes : ByteArray} {maxL index mc1 ms1 : Nat} {ret : Option FieldType} {hh : List (Nat × Nat × Nat × Nat)} {rm : Room} {rest : List Value} {M : Option (Int32 × xWt)} {f : Int32 → xWt → Option β} {r : β} (hF : bd M f = some r) (h : ∀ (v : Int32) (w1 : xWt), M = some (v, w1) → xMetL l G b y bytes maxL ret hh rm [v1, v2, v3] P (some (.int v)) (CW G b w1) mc1 ms1)
    (hcw : Cond.codeWith y bytes maxL ret hh ∈ gw) (hini : Cond.initialized y.cls ∈ gw) (hstat : Cond.static y ∈ gw) (hd : y.cls ≠ "java/lang/invoke/MethodHandle" ∧ y.cls ≠ "java/lang/invoke/VarHandle" ∧ (parseMethodDescriptor y.desc).map (fun d => d.parameters.length) = some 3) (hl : Cond.methodLink own index y ∈ gw) (hrc : rm.cells = mc1) (hrs : rm.slots = ms1) (hR : rm.frames + 1 ≤ R.frames ∧ 8 + (maxL + 11) + rm.locals ≤ R.locals) (hcat : (rest.map fun v => v.category).sum ≤ 8) (hf : cells + mc1 ≤ R.cells ∧ slots + ms1 ≤ R.slots) (d : decode cc pc = .ok (.invokestatic index, 3))
    (k : ∀ (v : Int32) (w1 : xWt), f v w1 = some r → xW p l e R s m args below meth c Q b nL (CW G b w1) (cells + mc1) (slots + ms1) (pc + 3) lv (.int v :: rest)) : xW p l e R s m args below meth c Q b nL P cells slots pc lv (v3 :: v2 :: v1 :: rest) := by
  intro H locs ls h1 h2 h3
  have hK : va_K G.1 vwCl (xT G) s := C.2.2.2.2.2.2.1
  obtain ⟨v, w1, hm, hk⟩ := bd_some hF
  have hws : ∀ w ∈ xWsH y bytes maxL ret hh, ∀ (a' : Array Value) (U : State), s.WarmedH U.vm → w.before a' U = true := pay_in C.2.2.2.2.1 (fun w h => (List.mem_cons.mp h).elim (fun e => by rw [e]; exact gw_good _ hcw) (fun h => gw_good w h))
  have hr : vx_Run p l e R s m args below meth c H locs cells slots mc1 ms1 (F0 m pc ls (v3 :: v2 :: v1 :: rest)) rest (xQ b (some (.int v)) (CW G b w1) ([v1, v2, v3] : List Value).toArray) (fun _ _ _ => False) (xA b) := vx_runSX (hh := hh) (rm := rm) (As := [v1, v2, v3]) (rest := rest) (n := 3) ⟨C.1, C.2.1, C.2.2.1, C.2.2.2.1, C.2.2.2.2.1⟩ (h v w1 hm) ⟨⟨hrc, hrs, hR.1, hR.2, hws, List.mem_cons_self⟩, C.2.2.2.2.1 _ hcw, C.2.2.2.2.1 _ hini, ⟨hd.1, hd.2.1⟩, fun sig h => by
    have h2 := hd.2.2
    rw [h] at h2
    exact (Option.some.inj h2).symm, C.2.2.2.2.1 _ hl, C.2.2.2.2.1 _ hstat⟩ ⟨xPcX.blind, fun U hU hW => ⟨rfl, by rw [hU]; exact h1, hK.moved hW.alike, by rw [hU]; exact Nat.le_trans C.2.2.2.2.2.2.2 h2.1, hX.next hW (by rw [hU]; exact h2)⟩⟩ rfl rfl h3.1 rfl (lv_room hcat) d hf
  intro T hT X
  rcases hr T hT X with ⟨v1, st₀, t, T', L9, h0, X', hL, e1, e2, ⟨hv, hP', hz, hk9⟩, stp⟩ | ⟨q, st₀, t, T', L9, E, ce, h0, X', hL, e1, e2, hx, -⟩
  · cases hv
    rw [h0] at hz hk9
    have hS : va_S (xA b) s.heap T'.heap (locs ++ L9) := ⟨Nat.le_trans h2.1 (by rw [e1]; exact hz), fun q g1 g2 => by rw [e1, hk9 q (Nat.lt_of_lt_of_le g1 h2.1) g2]; exact h2.2.1 q g1 g2, fun q hq => by
        rcases List.mem_append.mp hq with h | h
        · exact h2.2.2 q h
        · exact hL q h⟩
    obtain ⟨t2, a1, b1⟩ := k v w1 hk T'.heap (locs ++ L9) ls (by rw [e1]; exact hP') hS h3 T' rfl X'
    exact ⟨t2, stp t2 a1, b1⟩
  · exact absurd hx id
theorem cL1_4 (C : xC p m c s args meth G b cc nL own) (hX : xF b s) {β : Type} {v1 v2 v3 v4 : Value} {y : MethodName} {bytes : ByteArray} {maxL index mc1 ms1 : Nat} {ret : Option FieldType} {hh : List (Nat × Nat × Nat × Nat)} {rm : Room} {rest : List Value} {M : Option (Int32 × xWt)} {f : Int32 → xWt → Option β} {r : β} (hF : bd M f = some r) (h : ∀ (v : Int32) (w1 : xWt), M = some (v, w1) → xMetL l G b y bytes maxL ret hh rm [v1, v2, v3, v4] P (some (.int v)) (CW G b w1) mc1 ms1)
    (hcw : Cond.codeWith y bytes maxL ret hh ∈ gw) (hini : Cond.initialized y.cls ∈ gw) (hstat : Cond.static y ∈ gw) (hd : y.cls ≠ "java/lang/invoke/MethodHandle" ∧ y.cls ≠ "java/lang/invoke/VarHandle" ∧ (parseMethodDescriptor y.desc).map (fun d => d.parameters.length) = some 4) (hl : Cond.methodLink own index y ∈ gw) (hrc : rm.cells = mc1) (hrs : rm.slots = ms1) (hR : rm.frames + 1 ≤ R.frames ∧ 8 + (maxL + 11) + rm.locals ≤ R.locals) (hcat : (rest.map fun v => v.category).sum ≤ 8) (hf : cells + mc1 ≤ R.cells ∧ slots + ms1 ≤ R.slots) (d : decode cc pc = .ok (.invokestatic index, 3))
    (k : ∀ (v : Int32) (w1 : xWt), f v w1 = some r → xW p l e R s m args below meth c Q b nL (CW G b w1) (cells + mc1) (slots + ms1) (pc + 3) lv (.int v :: rest)) : xW p l e R s m args below meth c Q b nL P cells slots pc lv (v4 :: v3 :: v2 :: v1 :: rest) := by
  intro H locs ls h1 h2 h3
  have hK : va_K G.1 vwCl (xT G) s := C.2.2.2.2.2.2.1
  obtain ⟨v, w1, hm, hk⟩ := bd_some hF
  have hws : ∀ w ∈ xWsH y bytes maxL ret hh, ∀ (a' : Array Value) (U : State), s.WarmedH U.vm → w.before a' U = true := pay_in C.2.2.2.2.1 (fun w h => (List.mem_cons.mp h).elim (fun e => by rw [e]; exact gw_good _ hcw) (fun h => gw_good w h))
  have hr : vx_Run p l e R s m args below meth c H locs cells slots mc1 ms1 (F0 m pc ls (v4 :: v3 :: v2 :: v1 :: rest)) rest (xQ b (some (.int v)) (CW G b w1) ([v1, v2, v3, v4] : List Value).toArray) (fun _ _ _ => False) (xA b) := vx_runSX (hh := hh) (rm := rm) (As := [v1, v2, v3, v4]) (rest := rest) (n := 4) ⟨C.1, C.2.1, C.2.2.1, C.2.2.2.1, C.2.2.2.2.1⟩ (h v w1 hm) ⟨⟨hrc, hrs, hR.1, hR.2, hws, List.mem_cons_self⟩, C.2.2.2.2.1 _ hcw, C.2.2.2.2.1 _ hini, ⟨hd.1, hd.2.1⟩, fun sig h => by
    have h2 := hd.2.2
    rw [h] at h2
    exact (Option.some.inj h2).symm, C.2.2.2.2.1 _ hl, C.2.2.2.2.1 _ hstat⟩ ⟨xPcX.blind, fun U hU hW => ⟨rfl, by rw [hU]; exact h1, hK.moved hW.alike, by rw [hU]; exact Nat.le_trans C.2.2.2.2.2.2.2 h2.1, hX.next hW (by rw [hU]; exact h2)⟩⟩ rfl rfl h3.1 rfl (lv_room hcat) d hf
  intro T hT X
  rcases hr T hT X with ⟨v1, st₀, t, T', L9, h0, X', hL, e1, e2, ⟨hv, hP', hz, hk9⟩, stp⟩ | ⟨q, st₀, t, T', L9, E, ce, h0, X', hL, e1, e2, hx, -⟩
  · cases hv
    rw [h0] at hz hk9
    have hS : va_S (xA b) s.heap T'.heap (locs ++ L9) := ⟨Nat.le_trans h2.1 (by rw [e1]; exact hz), fun q g1 g2 => by rw [e1, hk9 q (Nat.lt_of_lt_of_le g1 h2.1) g2]; exact h2.2.1 q g1 g2, fun q hq => by
        rcases List.mem_append.mp hq with h | h
        · exact h2.2.2 q h
        · exact hL q h⟩
    obtain ⟨t2, a1, b1⟩ := k v w1 hk T'.heap (locs ++ L9) ls (by rw [e1]; exact hP') hS h3 T' rfl X'
    exact ⟨t2, stp t2 a1, b1⟩
  · exact absurd hx id
theorem cX1_5 (C : xC p m c s args meth G b cc nL own) (hX : xF b s) {β : Type} {v1 v2 v3 v4 v5 : Value} {y : MethodName} {bytes : ByteArray} {maxL index mc1 ms1 : Nat} {ret : Option FieldType} {rm : Room} {rest : List Value} {M : Option (Int32 × xWt)} {f : Int32 → xWt → Option β} {r : β} (hF : bd M f = some r) (h : ∀ (v : Int32) (w1 : xWt), M = some (v, w1) → xMetX l G b y bytes maxL ret rm [v1, v2, v3, v4, v5] P (.inl (some (.int v))) (CW G b w1) mc1 ms1)
    (hy : xSm y bytes maxL ret 5) (hl : Cond.methodLink own index y ∈ gw) (hrc : rm.cells = mc1) (hrs : rm.slots = ms1) (hR : rm.frames + 1 ≤ R.frames ∧ 8 + (maxL + 11) + rm.locals ≤ R.locals) (hcat : (rest.map fun v => v.category).sum ≤ 8) (hf : cells + mc1 ≤ R.cells ∧ slots + ms1 ≤ R.slots) (d : decode cc pc = .ok (.invokestatic index, 3))
    (k : ∀ (v : Int32) (w1 : xWt), f v w1 = some r → xW p l e R s m args below meth c Q b nL (CW G b w1) (cells + mc1) (slots + ms1) (pc + 3) lv (.int v :: rest)) : xW p l e R s m args below meth c Q b nL P cells slots pc lv (v5 :: v4 :: v3 :: v2 :: v1 :: rest) := by
  intro H locs ls h1 h2 h3
  have hK : va_K G.1 vwCl (xT G) s := C.2.2.2.2.2.2.1
  obtain ⟨v, w1, hm, hk⟩ := bd_some hF
  exact xv_back (rest := rest) H locs ls h2 h3 (vx_runS (rm := rm) (As := [v1, v2, v3, v4, v5]) (rest := rest) ⟨C.1, C.2.1, C.2.2.1, C.2.2.2.1, C.2.2.2.2.1⟩ (h v w1 hm) ⟨x_callB C hy.1 hy.2.1 hl hrc hrs hy.2.2.2 hR, C.2.2.2.2.1 _ hy.2.2.1⟩ ⟨xPcX.blind, fun U hU hW => ⟨rfl, by rw [hU]; exact h1, hK.moved hW.alike, by rw [hU]; exact Nat.le_trans C.2.2.2.2.2.2.2 h2.1, hX.next hW (by rw [hU]; exact h2)⟩⟩ rfl rfl h3.1 rfl (lv_room hcat) d hf) (fun v' hv => by cases hv; exact k v w1 hk) (fun E hE => by cases hE)
theorem cX1_6 (C : xC p m c s args meth G b cc nL own) (hX : xF b s) {β : Type} {v1 v2 v3 v4 v5 v6 : Value} {y : MethodName} {bytes : ByteArray} {maxL index mc1 ms1 : Nat} {ret : Option FieldType} {rm : Room} {rest : List Value} {M : Option (Int32 × xWt)} {f : Int32 → xWt → Option β} {r : β} (hF : bd M f = some r) (h : ∀ (v : Int32) (w1 : xWt), M = some (v, w1) → xMetX l G b y bytes maxL ret rm [v1, v2, v3, v4, v5, v6] P (.inl (some (.int v))) (CW G b w1) mc1 ms1)
    (hy : xSm y bytes maxL ret 6) (hl : Cond.methodLink own index y ∈ gw) (hrc : rm.cells = mc1) (hrs : rm.slots = ms1) (hR : rm.frames + 1 ≤ R.frames ∧ 8 + (maxL + 11) + rm.locals ≤ R.locals) (hcat : (rest.map fun v => v.category).sum ≤ 8) (hf : cells + mc1 ≤ R.cells ∧ slots + ms1 ≤ R.slots) (d : decode cc pc = .ok (.invokestatic index, 3))
    (k : ∀ (v : Int32) (w1 : xWt), f v w1 = some r → xW p l e R s m args below meth c Q b nL (CW G b w1) (cells + mc1) (slots + ms1) (pc + 3) lv (.int v :: rest)) : xW p l e R s m args below meth c Q b nL P cells slots pc lv (v6 :: v5 :: v4 :: v3 :: v2 :: v1 :: rest) := by
  intro H locs ls h1 h2 h3
  have hK : va_K G.1 vwCl (xT G) s := C.2.2.2.2.2.2.1
  obtain ⟨v, w1, hm, hk⟩ := bd_some hF
  exact xv_back (rest := rest) H locs ls h2 h3 (vx_runS (rm := rm) (As := [v1, v2, v3, v4, v5, v6]) (rest := rest) ⟨C.1, C.2.1, C.2.2.1, C.2.2.2.1, C.2.2.2.2.1⟩ (h v w1 hm) ⟨x_callB C hy.1 hy.2.1 hl hrc hrs hy.2.2.2 hR, C.2.2.2.2.1 _ hy.2.2.1⟩ ⟨xPcX.blind, fun U hU hW => ⟨rfl, by rw [hU]; exact h1, hK.moved hW.alike, by rw [hU]; exact Nat.le_trans C.2.2.2.2.2.2.2 h2.1, hX.next hW (by rw [hU]; exact h2)⟩⟩ rfl rfl h3.1 rfl (lv_room hcat) d hf) (fun v' hv => by cases hv; exact k v w1 hk) (fun E hE => by cases hE)
theorem cX1_7 (C : xC p m c s args meth G b cc nL own) (hX : xF b s) {β : Type} {v1 v2 v3 v4 v5 v6 v7 : Value} {y : MethodName} {bytes : ByteArray} {maxL index mc1 ms1 : Nat} {ret : Option FieldType} {rm : Room} {rest : List Value} {M : Option (Int32 × xWt)} {f : Int32 → xWt → Option β} {r : β} (hF : bd M f = some r) (h : ∀ (v : Int32) (w1 : xWt), M = some (v, w1) → xMetX l G b y bytes maxL ret rm [v1, v2, v3, v4, v5, v6, v7] P (.inl (some (.int v))) (CW G b w1) mc1 ms1)
    (hy : xSm y bytes maxL ret 7) (hl : Cond.methodLink own index y ∈ gw) (hrc : rm.cells = mc1) (hrs : rm.slots = ms1) (hR : rm.frames + 1 ≤ R.frames ∧ 8 + (maxL + 11) + rm.locals ≤ R.locals) (hcat : (rest.map fun v => v.category).sum ≤ 8) (hf : cells + mc1 ≤ R.cells ∧ slots + ms1 ≤ R.slots) (d : decode cc pc = .ok (.invokestatic index, 3))
    (k : ∀ (v : Int32) (w1 : xWt), f v w1 = some r → xW p l e R s m args below meth c Q b nL (CW G b w1) (cells + mc1) (slots + ms1) (pc + 3) lv (.int v :: rest)) : xW p l e R s m args below meth c Q b nL P cells slots pc lv (v7 :: v6 :: v5 :: v4 :: v3 :: v2 :: v1 :: rest) := by
  intro H locs ls h1 h2 h3
  have hK : va_K G.1 vwCl (xT G) s := C.2.2.2.2.2.2.1
  obtain ⟨v, w1, hm, hk⟩ := bd_some hF
  exact xv_back (rest := rest) H locs ls h2 h3 (vx_runS (rm := rm) (As := [v1, v2, v3, v4, v5, v6, v7]) (rest := rest) ⟨C.1, C.2.1, C.2.2.1, C.2.2.2.1, C.2.2.2.2.1⟩ (h v w1 hm) ⟨x_callB C hy.1 hy.2.1 hl hrc hrs hy.2.2.2 hR, C.2.2.2.2.1 _ hy.2.2.1⟩ ⟨xPcX.blind, fun U hU hW => ⟨rfl, by rw [hU]; exact h1, hK.moved hW.alike, by rw [hU]; exact Nat.le_trans C.2.2.2.2.2.2.2 h2.1, hX.next hW (by rw [hU]; exact h2)⟩⟩ rfl rfl h3.1 rfl (lv_room hcat) d hf) (fun v' hv => by cases hv; exact k v w1 hk) (fun E hE => by cases hE)
theorem cX1_8 (C : xC p m c s args meth G b cc nL own) (hX : xF b s) {β : Type} {v1 v2 v3 v4 v5 v6 v7 v8 : Value} {y : MethodName} {bytes : ByteArray} {maxL index mc1 ms1 : Nat} {ret : Option FieldType} {rm : Room} {rest : List Value} {M : Option (Int32 × xWt)} {f : Int32 → xWt → Option β} {r : β} (hF : bd M f = some r) (h : ∀ (v : Int32) (w1 : xWt), M = some (v, w1) → xMetX l G b y bytes maxL ret rm [v1, v2, v3, v4, v5, v6, v7, v8] P (.inl (some (.int v))) (CW G b w1) mc1 ms1)
    (hy : xSm y bytes maxL ret 8) (hl : Cond.methodLink own index y ∈ gw) (hrc : rm.cells = mc1) (hrs : rm.slots = ms1) (hR : rm.frames + 1 ≤ R.frames ∧ 8 + (maxL + 11) + rm.locals ≤ R.locals) (hcat : (rest.map fun v => v.category).sum ≤ 8) (hf : cells + mc1 ≤ R.cells ∧ slots + ms1 ≤ R.slots) (d : decode cc pc = .ok (.invokestatic index, 3))
    (k : ∀ (v : Int32) (w1 : xWt), f v w1 = some r → xW p l e R s m args below meth c Q b nL (CW G b w1) (cells + mc1) (slots + ms1) (pc + 3) lv (.int v :: rest)) : xW p l e R s m args below meth c Q b nL P cells slots pc lv (v8 :: v7 :: v6 :: v5 :: v4 :: v3 :: v2 :: v1 :: rest) := by
  intro H locs ls h1 h2 h3
  have hK : va_K G.1 vwCl (xT G) s := C.2.2.2.2.2.2.1
  obtain ⟨v, w1, hm, hk⟩ := bd_some hF
  exact xv_back (rest := rest) H locs ls h2 h3 (vx_runS (rm := rm) (As := [v1, v2, v3, v4, v5, v6, v7, v8]) (rest := rest) ⟨C.1, C.2.1, C.2.2.1, C.2.2.2.1, C.2.2.2.2.1⟩ (h v w1 hm) ⟨x_callB C hy.1 hy.2.1 hl hrc hrs hy.2.2.2 hR, C.2.2.2.2.1 _ hy.2.2.1⟩ ⟨xPcX.blind, fun U hU hW => ⟨rfl, by rw [hU]; exact h1, hK.moved hW.alike, by rw [hU]; exact Nat.le_trans C.2.2.2.2.2.2.2 h2.1, hX.next hW (by rw [hU]; exact h2)⟩⟩ rfl rfl h3.1 rfl (lv_room hcat) d hf) (fun v' hv => by cases hv; exact k v w1 hk) (fun E hE => by cases hE)
theorem cX1_9 (C : xC p m c s args meth G b cc nL own) (hX : xF b s) {β : Type} {v1 v2 v3 v4 v5 v6 v7 v8 v9 : Value} {y : MethodName} {bytes : ByteArray} {maxL index mc1 ms1 : Nat} {ret : Option FieldType} {rm : Room} {rest : List Value} {M : Option (Int32 × xWt)} {f : Int32 → xWt → Option β} {r : β} (hF : bd M f = some r) (h : ∀ (v : Int32) (w1 : xWt), M = some (v, w1) → xMetX l G b y bytes maxL ret rm [v1, v2, v3, v4, v5, v6, v7, v8, v9] P (.inl (some (.int v))) (CW G b w1) mc1 ms1)
    (hy : xSm y bytes maxL ret 9) (hl : Cond.methodLink own index y ∈ gw) (hrc : rm.cells = mc1) (hrs : rm.slots = ms1) (hR : rm.frames + 1 ≤ R.frames ∧ 8 + (maxL + 11) + rm.locals ≤ R.locals) (hcat : (rest.map fun v => v.category).sum ≤ 8) (hf : cells + mc1 ≤ R.cells ∧ slots + ms1 ≤ R.slots) (d : decode cc pc = .ok (.invokestatic index, 3))
    (k : ∀ (v : Int32) (w1 : xWt), f v w1 = some r → xW p l e R s m args below meth c Q b nL (CW G b w1) (cells + mc1) (slots + ms1) (pc + 3) lv (.int v :: rest)) : xW p l e R s m args below meth c Q b nL P cells slots pc lv (v9 :: v8 :: v7 :: v6 :: v5 :: v4 :: v3 :: v2 :: v1 :: rest) := by
  intro H locs ls h1 h2 h3
  have hK : va_K G.1 vwCl (xT G) s := C.2.2.2.2.2.2.1
  obtain ⟨v, w1, hm, hk⟩ := bd_some hF
  exact xv_back (rest := rest) H locs ls h2 h3 (vx_runS (rm := rm) (As := [v1, v2, v3, v4, v5, v6, v7, v8, v9]) (rest := rest) ⟨C.1, C.2.1, C.2.2.1, C.2.2.2.1, C.2.2.2.2.1⟩ (h v w1 hm) ⟨x_callB C hy.1 hy.2.1 hl hrc hrs hy.2.2.2 hR, C.2.2.2.2.1 _ hy.2.2.1⟩ ⟨xPcX.blind, fun U hU hW => ⟨rfl, by rw [hU]; exact h1, hK.moved hW.alike, by rw [hU]; exact Nat.le_trans C.2.2.2.2.2.2.2 h2.1, hX.next hW (by rw [hU]; exact h2)⟩⟩ rfl rfl h3.1 rfl (lv_room hcat) d hf) (fun v' hv => by cases hv; exact k v w1 hk) (fun E hE => by cases hE)
end XLb
theorem hd_L_child : yL_child.cls ≠ "java/lang/invoke/MethodHandle" ∧ yL_child.cls ≠ "java/lang/invoke/VarHandle" ∧ (parseMethodDescriptor yL_child.desc).map (fun d => d.parameters.length) = some 3 := ⟨by decide +kernel, by decide +kernel, by decide +kernel⟩
theorem hd_L_undo : yL_undo.cls ≠ "java/lang/invoke/MethodHandle" ∧ yL_undo.cls ≠ "java/lang/invoke/VarHandle" ∧ (parseMethodDescriptor yL_undo.desc).map (fun d => d.parameters.length) = some 1 := ⟨by decide +kernel, by decide +kernel, by decide +kernel⟩
theorem hd_L_enter : yL_enter.cls ≠ "java/lang/invoke/MethodHandle" ∧ yL_enter.cls ≠ "java/lang/invoke/VarHandle" ∧ (parseMethodDescriptor yL_enter.desc).map (fun d => d.parameters.length) = some 2 := ⟨by decide +kernel, by decide +kernel, by decide +kernel⟩
theorem hd_L_rest : yL_rest.cls ≠ "java/lang/invoke/MethodHandle" ∧ yL_rest.cls ≠ "java/lang/invoke/VarHandle" ∧ (parseMethodDescriptor yL_rest.desc).map (fun d => d.parameters.length) = some 2 := ⟨by decide +kernel, by decide +kernel, by decide +kernel⟩
theorem hd_L_ring : yL_ring.cls ≠ "java/lang/invoke/MethodHandle" ∧ yL_ring.cls ≠ "java/lang/invoke/VarHandle" ∧ (parseMethodDescriptor yL_ring.desc).map (fun d => d.parameters.length) = some 1 := ⟨by decide +kernel, by decide +kernel, by decide +kernel⟩
theorem hd_L_come : yL_come.cls ≠ "java/lang/invoke/MethodHandle" ∧ yL_come.cls ≠ "java/lang/invoke/VarHandle" ∧ (parseMethodDescriptor yL_come.desc).map (fun d => d.parameters.length) = some 1 := ⟨by decide +kernel, by decide +kernel, by decide +kernel⟩
theorem hd_L_set : yL_set.cls ≠ "java/lang/invoke/MethodHandle" ∧ yL_set.cls ≠ "java/lang/invoke/VarHandle" ∧ (parseMethodDescriptor yL_set.desc).map (fun d => d.parameters.length) = some 3 := ⟨by decide +kernel, by decide +kernel, by decide +kernel⟩
theorem hd_L_leave : yL_leave.cls ≠ "java/lang/invoke/MethodHandle" ∧ yL_leave.cls ≠ "java/lang/invoke/VarHandle" ∧ (parseMethodDescriptor yL_leave.desc).map (fun d => d.parameters.length) = some 2 := ⟨by decide +kernel, by decide +kernel, by decide +kernel⟩
theorem hd_L_note : yL_note.cls ≠ "java/lang/invoke/MethodHandle" ∧ yL_note.cls ≠ "java/lang/invoke/VarHandle" ∧ (parseMethodDescriptor yL_note.desc).map (fun d => d.parameters.length) = some 4 := ⟨by decide +kernel, by decide +kernel, by decide +kernel⟩
theorem hd_L_pin : yL_pin.cls ≠ "java/lang/invoke/MethodHandle" ∧ yL_pin.cls ≠ "java/lang/invoke/VarHandle" ∧ (parseMethodDescriptor yL_pin.desc).map (fun d => d.parameters.length) = some 3 := ⟨by decide +kernel, by decide +kernel, by decide +kernel⟩
theorem hd_L_loosen : yL_loosen.cls ≠ "java/lang/invoke/MethodHandle" ∧ yL_loosen.cls ≠ "java/lang/invoke/VarHandle" ∧ (parseMethodDescriptor yL_loosen.desc).map (fun d => d.parameters.length) = some 3 := ⟨by decide +kernel, by decide +kernel, by decide +kernel⟩
theorem hd_L_look : yL_look.cls ≠ "java/lang/invoke/MethodHandle" ∧ yL_look.cls ≠ "java/lang/invoke/VarHandle" ∧ (parseMethodDescriptor yL_look.desc).map (fun d => d.parameters.length) = some 3 := ⟨by decide +kernel, by decide +kernel, by decide +kernel⟩
theorem hd_L_grow : yL_grow.cls ≠ "java/lang/invoke/MethodHandle" ∧ yL_grow.cls ≠ "java/lang/invoke/VarHandle" ∧ (parseMethodDescriptor yL_grow.desc).map (fun d => d.parameters.length) = some 3 := ⟨by decide +kernel, by decide +kernel, by decide +kernel⟩
theorem hd_L_take : yL_take.cls ≠ "java/lang/invoke/MethodHandle" ∧ yL_take.cls ≠ "java/lang/invoke/VarHandle" ∧ (parseMethodDescriptor yL_take.desc).map (fun d => d.parameters.length) = some 3 := ⟨by decide +kernel, by decide +kernel, by decide +kernel⟩
theorem hd_L_swap : yL_swap.cls ≠ "java/lang/invoke/MethodHandle" ∧ yL_swap.cls ≠ "java/lang/invoke/VarHandle" ∧ (parseMethodDescriptor yL_swap.desc).map (fun d => d.parameters.length) = some 4 := ⟨by decide +kernel, by decide +kernel, by decide +kernel⟩
theorem hd_L_rake : yL_rake.cls ≠ "java/lang/invoke/MethodHandle" ∧ yL_rake.cls ≠ "java/lang/invoke/VarHandle" ∧ (parseMethodDescriptor yL_rake.desc).map (fun d => d.parameters.length) = some 2 := ⟨by decide +kernel, by decide +kernel, by decide +kernel⟩
