/-! the law's loop -/
def sld {β : Type} (xs : Nat → Int32) (L : Nat) (i : Int32) (f : Int32 → Option β) : Option β := if i < 0 ∨ L ≤ i.toNatClampNeg then none else f (xs i.toNatClampNeg)
section XLaw
variable {p : Program} {l : Launch} {e : Env} {R : Room} {s : State} {m : MethodId} {args : Array Value} {below : List Frame} {meth : Method} {c : Code} {Q : State → Prop} {b nL : Nat} {P P' : Heap → Prop} {cells slots pc mc ms : Nat} {lv lv' : List (Nat × Value)} {st : List Value} {G : xG} {cc : ByteArray} {own : String} {w : xWt} {sb L : Nat} {xs : Nat → Int32}
/-- the script of L ints lies at sb, below all that is made -/
def xS (b sb L : Nat) (xs : Nat → Int32) (s : State) : Prop := va_X sb L xs s s.heap ∧ sb < s.heap.size ∧ ¬ xA b sb
theorem x_sld (C : xC p m c s args meth G b cc nL own) (hS : xS b sb L xs s) {β : Type} {i : Int32} {f : Int32 → Option β} {z : β} (hF : sld xs L i f = some z) (d : decode cc pc = .ok (.iaload, 1)) (k : ∀ x, f x = some z → xW p l e R s m args below meth c Q b nL P cells slots (pc + 1) lv (.int x :: st)) : xW p l e R s m args below meth c Q b nL P cells slots pc lv (.int i :: .ref sb :: st) := by
  unfold sld at hF
  split at hF
  · cases hF
  · next hin => exact fun H locs ls h1 h2 h3 => va_sld C.1 C.2.1 hS.1 hS.2.1 hS.2.2 h2 hin d (k _ hF H locs ls h1 h2 h3)
theorem x_slen (C : xC p m c s args meth G b cc nL own) (hS : xS b sb L xs s) (d : decode cc pc = .ok (.arraylength, 1)) (k : xW p l e R s m args below meth c Q b nL P cells slots (pc + 1) lv (.int (Int32.ofNat L) :: st)) : xW p l e R s m args below meth c Q b nL P cells slots pc lv (.ref sb :: st) :=
  fun H locs ls h1 h2 h3 => va_slen C.1 C.2.1 hS.1 hS.2.1 hS.2.2 h2 d (k H locs ls h1 h2 h3)
theorem cL1_2 (C : xC p m c s args meth G b cc nL own) (hX : xF b s) {β : Type} {v1 v2 : Value} {y : MethodName} {bytes : ByteArray} {maxL index mc1 ms1 : Nat} {ret : Option FieldType} {hh : List (Nat × Nat × Nat × Nat)} {rm : Room} {rest : List Value} {M : Option (Int32 × xWt)} {f : Int32 → xWt → Option β} {r : β} (hF : bd M f = some r) (h : ∀ (v : Int32) (w1 : xWt), M = some (v, w1) → xMetL l G b y bytes maxL ret hh rm [v1, v2] P (some (.int v)) (CW G b w1) mc1 ms1)
    (hcw : Cond.codeWith y bytes maxL ret hh ∈ gw) (hini : Cond.initialized y.cls ∈ gw) (hstat : Cond.static y ∈ gw) (hd : y.cls ≠ "java/lang/invoke/MethodHandle" ∧ y.cls ≠ "java/lang/invoke/VarHandle" ∧ (parseMethodDescriptor y.desc).map (fun d => d.parameters.length) = some 2) (hl : Cond.methodLink own index y ∈ gw) (hrc : rm.cells = mc1) (hrs : rm.slots = ms1) (hR : rm.frames + 1 ≤ R.frames ∧ 8 + (maxL + 11) + rm.locals ≤ R.locals) (hcat : (rest.map fun v => v.category).sum ≤ 8) (hf : cells + mc1 ≤ R.cells ∧ slots + ms1 ≤ R.slots) (d : decode cc pc = .ok (.invokestatic index, 3))
    (k : ∀ (v : Int32) (w1 : xWt), f v w1 = some r → xW p l e R s m args below meth c Q b nL (CW G b w1) (cells + mc1) (slots + ms1) (pc + 3) lv (.int v :: rest)) : xW p l e R s m args below meth c Q b nL P cells slots pc lv (v2 :: v1 :: rest) := by
  intro H locs ls h1 h2 h3
  have hK : va_K G.1 vwCl (xT G) s := C.2.2.2.2.2.2.1
  obtain ⟨v, w1, hm, hk⟩ := bd_some hF
  have hws : ∀ w ∈ xWsH y bytes maxL ret hh, ∀ (a' : Array Value) (U : State), s.WarmedH U.vm → w.before a' U = true := pay_in C.2.2.2.2.1 (fun w h => (List.mem_cons.mp h).elim (fun e => by rw [e]; exact gw_good _ hcw) (fun h => gw_good w h))
  have hr : vx_Run p l e R s m args below meth c H locs cells slots mc1 ms1 (F0 m pc ls (v2 :: v1 :: rest)) rest (xQ b (some (.int v)) (CW G b w1) ([v1, v2] : List Value).toArray) (fun _ _ _ => False) (xA b) := vx_runSX (hh := hh) (rm := rm) (As := [v1, v2]) (rest := rest) (n := 2) ⟨C.1, C.2.1, C.2.2.1, C.2.2.2.1, C.2.2.2.2.1⟩ (h v w1 hm) ⟨⟨hrc, hrs, hR.1, hR.2, hws, List.mem_cons_self⟩, C.2.2.2.2.1 _ hcw, C.2.2.2.2.1 _ hini, ⟨hd.1, hd.2.1⟩, fun sig h => by
    have h2 := hd.2.2
    rw [h] at h2
    exact (Option.some.inj h2).symm, C.2.2.2.2.1 _ hl, C.2.2.2.2.1 _ hstat⟩ ⟨xPcX.blind, fun U hU hW => ⟨rfl, by rw [hU]; exact h1, hK.moved hW.alike, by rw [hU]; exact Nat.le_trans C.2.2.2.2.2.2.2 h2.1, hX.next hW (by rw [hU]; exact h2)⟩⟩ rfl rfl h3.1 rfl (lv_room hcat) d hf
  intro T hT X
  rcases hr T hT X with ⟨v1, st₀, t, T', L9, h0, X', hL, e1, e2, ⟨hv, hP', hz, hk9⟩, stp⟩ | ⟨q, st₀, t, T', L9, E, ce, h0, X', hL, e1, e2, hx, -⟩
  · cases hv
    rw [h0] at hz hk9
    have hS : va_S (xA b) s.heap T'.heap (locs ++ L9) := ⟨Nat.le_trans h2.1 (by rw [e1]; exact hz), fun q g1 g2 => by rw [e1, hk9 q (Nat.lt_of_lt_of_le g1 h2.1) g2]; exact h2.2.1 q g1 g2, fun q hq => by
        rcases List.mem_append.mp hq with h | h
        · exact h2.2.2 q h
        · exact hL q h⟩
    obtain ⟨t2, a1, b1⟩ := k v w1 hk T'.heap (locs ++ L9) ls (by rw [e1]; exact hP') hS h3 T' rfl X'
    exact ⟨t2, stp t2 a1, b1⟩
  · exact absurd hx id
theorem cL1_3 (C : xC p m c s args meth G b cc nL own) (hX : xF b s) {β : Type} {v1 v2 v3 : Value} {y : MethodName} {bytes : ByteArray} {maxL index mc1 ms1 : Nat} {ret : Option FieldType} {hh : List (Nat × Nat × Nat × Nat)} {rm : Room} {rest : List Value} {M : Option (Int32 × xWt)} {f : Int32 → xWt → Option β} {r : β} (hF : bd M f = some r) (h : ∀ (v : Int32) (w1 : xWt), M = some (v, w1) → xMetL l G b y bytes maxL ret hh rm [v1, v2, v3] P (some (.int v)) (CW G b w1) mc1 ms1)
    (hcw : Cond.codeWith y bytes maxL ret hh ∈ gw) (hini : Cond.initialized y.cls ∈ gw) (hstat : Cond.static y ∈ gw) (hd : y.cls ≠ "java/lang/invoke/MethodHandle" ∧ y.cls ≠ "java/lang/invoke/VarHandle" ∧ (parseMethodDescriptor y.desc).map (fun d => d.parameters.length) = some 3) (hl : Cond.methodLink own index y ∈ gw) (hrc : rm.cells = mc1) (hrs : rm.slots = ms1) (hR : rm.frames + 1 ≤ R.frames ∧ 8 + (maxL + 11) + rm.locals ≤ R.locals) (hcat : (rest.map fun v => v.category).sum ≤ 8) (hf : cells + mc1 ≤ R.cells ∧ slots + ms1 ≤ R.slots) (d : decode cc pc = .ok (.invokestatic index, 3))
    (k : ∀ (v : Int32) (w1 : xWt), f v w1 = some r → xW p l e R s m args below meth c Q b nL (CW G b w1) (cells + mc1) (slots + ms1) (pc + 3) lv (.int v :: rest)) : xW p l e R s m args below meth c Q b nL P cells slots pc lv (v3 :: v2 :: v1 :: rest) := by
  intro H locs ls h1 h2 h3
  have hK : va_K G.1 vwCl (xT G) s := C.2.2.2.2.2.2.1
  obtain ⟨v, w1, hm, hk⟩ := bd_some hF
  have hws : ∀ w ∈ xWsH y bytes maxL ret hh, ∀ (a' : Array Value) (U : State), s.WarmedH U.vm → w.before a' U = true := pay_in C.2.2.2.2.1 (fun w h => (List.mem_cons.mp h).elim (fun e => by rw [e]; exact gw_good _ hcw) (fun h => gw_good w h))
  have hr : vx_Run p l e R s m args below meth c H locs cells slots mc1 ms1 (F0 m pc ls (v3 :: v2 :: v1 :: rest)) rest (xQ b (some (.int v)) (CW G b w1) ([v1, v2, v3] : List Value).toArray) (fun _ _ _ => False) (xA b) := vx_runSX (hh := hh) (rm := rm) (As := [v1, v2, v3]) (rest := rest) (n := 3) ⟨C.1, C.2.1, C.2.2.1, C.2.2.2.1, C.2.2.2.2.1⟩ (h v w1 hm) ⟨⟨hrc, hrs, hR.1, hR.2, hws, List.mem_cons_self⟩, C.2.2.2.2.1 _ hcw, C.2.2.2.2.1 _ hini, ⟨hd.1, hd.2.1⟩, fun sig h => by
    have h2 := hd.2.2
    rw [h] at h2
    exact (Option.some.inj h2).symm, C.2.2.2.2.1 _ hl, C.2.2.2.2.1 _ hstat⟩ ⟨xPcX.blind, fun U hU hW => ⟨rfl, by rw [hU]; exact h1, hK.moved hW.alike, by rw [hU]; exact Nat.le_trans C.2.2.2.2.2.2.2 h2.1, hX.next hW (by rw [hU]; exact h2)⟩⟩ rfl rfl h3.1 rfl (lv_room hcat) d hf
  intro T hT X
  rcases hr T hT X with ⟨v1, st₀, t, T', L9, h0, X', hL, e1, e2, ⟨hv, hP', hz, hk9⟩, stp⟩ | ⟨q, st₀, t, T', L9, E, ce, h0, X', hL, e1, e2, hx, -⟩
  · cases hv
    rw [h0] at hz hk9
    have hS : va_S (xA b) s.heap T'.heap (locs ++ L9) := ⟨Nat.le_trans h2.1 (by rw [e1]; exact hz), fun q g1 g2 => by rw [e1, hk9 q (Nat.lt_of_lt_of_le g1 h2.1) g2]; exact h2.2.1 q g1 g2, fun q hq => by
        rcases List.mem_append.mp hq with h | h
        · exact h2.2.2 q h
        · exact hL q h⟩
    obtain ⟨t2, a1, b1⟩ := k v w1 hk T'.heap (locs ++ L9) ls (by rw [e1]; exact hP') hS h3 T' rfl X'
    exact ⟨t2, stp t2 a1, b1⟩
  · exact absurd hx id
theorem cL1_4 (C : xC p m c s args meth G b cc nL own) (hX : xF b s) {β : Type} {v1 v2 v3 v4 : Value} {y : MethodName} {bytes : ByteArray} {maxL index mc1 ms1 : Nat} {ret : Option FieldType} {hh : List (Nat × Nat × Nat × Nat)} {rm : Room} {rest : List Value} {M : Option (Int32 × xWt)} {f : Int32 → xWt → Option β} {r : β} (hF : bd M f = some r) (h : ∀ (v : Int32) (w1 : xWt), M = some (v, w1) → xMetL l G b y bytes maxL ret hh rm [v1, v2, v3, v4] P (some (.int v)) (CW G b w1) mc1 ms1)
    (hcw : Cond.codeWith y bytes maxL ret hh ∈ gw) (hini : Cond.initialized y.cls ∈ gw) (hstat : Cond.static y ∈ gw) (hd : y.cls ≠ "java/lang/invoke/MethodHandle" ∧ y.cls ≠ "java/lang/invoke/VarHandle" ∧ (parseMethodDescriptor y.desc).map (fun d => d.parameters.length) = some 4) (hl : Cond.methodLink own index y ∈ gw) (hrc : rm.cells = mc1) (hrs : rm.slots = ms1) (hR : rm.frames + 1 ≤ R.frames ∧ 8 + (maxL + 11) + rm.locals ≤ R.locals) (hcat : (rest.map fun v => v.category).sum ≤ 8) (hf : cells + mc1 ≤ R.cells ∧ slots + ms1 ≤ R.slots) (d : decode cc pc = .ok (.invokestatic index, 3))
    (k : ∀ (v : Int32) (w1 : xWt), f v w1 = some r → xW p l e R s m args below meth c Q b nL (CW G b w1) (cells + mc1) (slots + ms1) (pc + 3) lv (.int v :: rest)) : xW p l e R s m args below meth c Q b nL P cells slots pc lv (v4 :: v3 :: v2 :: v1 :: rest) := by
  intro H locs ls h1 h2 h3
  have hK : va_K G.1 vwCl (xT G) s := C.2.2.2.2.2.2.1
  obtain ⟨v, w1, hm, hk⟩ := bd_some hF
  have hws : ∀ w ∈ xWsH y bytes maxL ret hh, ∀ (a' : Array Value) (U : State), s.WarmedH U.vm → w.before a' U = true := pay_in C.2.2.2.2.1 (fun w h => (List.mem_cons.mp h).elim (fun e => by rw [e]; exact gw_good _ hcw) (fun h => gw_good w h))
  have hr : vx_Run p l e R s m args below meth c H locs cells slots mc1 ms1 (F0 m pc ls (v4 :: v3 :: v2 :: v1 :: rest)) rest (xQ b (some (.int v)) (CW G b w1) ([v1, v2, v3, v4] : List Value).toArray) (fun _ _ _ => False) (xA b) := vx_runSX (hh := hh) (rm := rm) (As := [v1, v2, v3, v4]) (rest := rest) (n := 4) ⟨C.1, C.2.1, C.2.2.1, C.2.2.2.1, C.2.2.2.2.1⟩ (h v w1 hm) ⟨⟨hrc, hrs, hR.1, hR.2, hws, List.mem_cons_self⟩, C.2.2.2.2.1 _ hcw, C.2.2.2.2.1 _ hini, ⟨hd.1, hd.2.1⟩, fun sig h => by
    have h2 := hd.2.2
    rw [h] at h2
    exact (Option.some.inj h2).symm, C.2.2.2.2.1 _ hl, C.2.2.2.2.1 _ hstat⟩ ⟨xPcX.blind, fun U hU hW => ⟨rfl, by rw [hU]; exact h1, hK.moved hW.alike, by rw [hU]; exact Nat.le_trans C.2.2.2.2.2.2.2 h2.1, hX.next hW (by rw [hU]; exact h2)⟩⟩ rfl rfl h3.1 rfl (lv_room hcat) d hf
  intro T hT X
  rcases hr T hT X with ⟨v1, st₀, t, T', L9, h0, X', hL, e1, e2, ⟨hv, hP', hz, hk9⟩, stp⟩ | ⟨q, st₀, t, T', L9, E, ce, h0, X', hL, e1, e2, hx, -⟩
  · cases hv
    rw [h0] at hz hk9
    have hS : va_S (xA b) s.heap T'.heap (locs ++ L9) := ⟨Nat.le_trans h2.1 (by rw [e1]; exact hz), fun q g1 g2 => by rw [e1, hk9 q (Nat.lt_of_lt_of_le g1 h2.1) g2]; exact h2.2.1 q g1 g2, fun q hq => by
        rcases List.mem_append.mp hq with h | h
        · exact h2.2.2 q h
        · exact hL q h⟩
    obtain ⟨t2, a1, b1⟩ := k v w1 hk T'.heap (locs ++ L9) ls (by rw [e1]; exact hP') hS h3 T' rfl X'
    exact ⟨t2, stp t2 a1, b1⟩
  · exact absurd hx id
theorem cL1_5 (C : xC p m c s args meth G b cc nL own) (hX : xF b s) {β : Type} {v1 v2 v3 v4 v5 : Value} {y : MethodName} {bytes : ByteArray} {maxL index mc1 ms1 : Nat} {ret : Option FieldType} {hh : List (Nat × Nat × Nat × Nat)} {rm : Room} {rest : List Value} {M : Option (Int32 × xWt)} {f : Int32 → xWt → Option β} {r : β} (hF : bd M f = some r) (h : ∀ (v : Int32) (w1 : xWt), M = some (v, w1) → xMetL l G b y bytes maxL ret hh rm [v1, v2, v3, v4, v5] P (some (.int v)) (CW G b w1) mc1 ms1)
    (hcw : Cond.codeWith y bytes maxL ret hh ∈ gw) (hini : Cond.initialized y.cls ∈ gw) (hstat : Cond.static y ∈ gw) (hd : y.cls ≠ "java/lang/invoke/MethodHandle" ∧ y.cls ≠ "java/lang/invoke/VarHandle" ∧ (parseMethodDescriptor y.desc).map (fun d => d.parameters.length) = some 5) (hl : Cond.methodLink own index y ∈ gw) (hrc : rm.cells = mc1) (hrs : rm.slots = ms1) (hR : rm.frames + 1 ≤ R.frames ∧ 8 + (maxL + 11) + rm.locals ≤ R.locals) (hcat : (rest.map fun v => v.category).sum ≤ 8) (hf : cells + mc1 ≤ R.cells ∧ slots + ms1 ≤ R.slots) (d : decode cc pc = .ok (.invokestatic index, 3))
    (k : ∀ (v : Int32) (w1 : xWt), f v w1 = some r → xW p l e R s m args below meth c Q b nL (CW G b w1) (cells + mc1) (slots + ms1) (pc + 3) lv (.int v :: rest)) : xW p l e R s m args below meth c Q b nL P cells slots pc lv (v5 :: v4 :: v3 :: v2 :: v1 :: rest) := by
  intro H locs ls h1 h2 h3
  have hK : va_K G.1 vwCl (xT G) s := C.2.2.2.2.2.2.1
  obtain ⟨v, w1, hm, hk⟩ := bd_some hF
  have hws : ∀ w ∈ xWsH y bytes maxL ret hh, ∀ (a' : Array Value) (U : State), s.WarmedH U.vm → w.before a' U = true := pay_in C.2.2.2.2.1 (fun w h => (List.mem_cons.mp h).elim (fun e => by rw [e]; exact gw_good _ hcw) (fun h => gw_good w h))
  have hr : vx_Run p l e R s m args below meth c H locs cells slots mc1 ms1 (F0 m pc ls (v5 :: v4 :: v3 :: v2 :: v1 :: rest)) rest (xQ b (some (.int v)) (CW G b w1) ([v1, v2, v3, v4, v5] : List Value).toArray) (fun _ _ _ => False) (xA b) := vx_runSX (hh := hh) (rm := rm) (As := [v1, v2, v3, v4, v5]) (rest := rest) (n := 5) ⟨C.1, C.2.1, C.2.2.1, C.2.2.2.1, C.2.2.2.2.1⟩ (h v w1 hm) ⟨⟨hrc, hrs, hR.1, hR.2, hws, List.mem_cons_self⟩, C.2.2.2.2.1 _ hcw, C.2.2.2.2.1 _ hini, ⟨hd.1, hd.2.1⟩, fun sig h => by
    have h2 := hd.2.2
    rw [h] at h2
    exact (Option.some.inj h2).symm, C.2.2.2.2.1 _ hl, C.2.2.2.2.1 _ hstat⟩ ⟨xPcX.blind, fun U hU hW => ⟨rfl, by rw [hU]; exact h1, hK.moved hW.alike, by rw [hU]; exact Nat.le_trans C.2.2.2.2.2.2.2 h2.1, hX.next hW (by rw [hU]; exact h2)⟩⟩ rfl rfl h3.1 rfl (lv_room hcat) d hf
  intro T hT X
  rcases hr T hT X with ⟨v1, st₀, t, T', L9, h0, X', hL, e1, e2, ⟨hv, hP', hz, hk9⟩, stp⟩ | ⟨q, st₀, t, T', L9, E, ce, h0, X', hL, e1, e2, hx, -⟩
  · cases hv
    rw [h0] at hz hk9
    have hS : va_S (xA b) s.heap T'.heap (locs ++ L9) := ⟨Nat.le_trans h2.1 (by rw [e1]; exact hz), fun q g1 g2 => by rw [e1, hk9 q (Nat.lt_of_lt_of_le g1 h2.1) g2]; exact h2.2.1 q g1 g2, fun q hq => by
        rcases List.mem_append.mp hq with h | h
        · exact h2.2.2 q h
        · exact hL q h⟩
    obtain ⟨t2, a1, b1⟩ := k v w1 hk T'.heap (locs ++ L9) ls (by rw [e1]; exact hP') hS h3 T' rfl X'
    exact ⟨t2, stp t2 a1, b1⟩
  · exact absurd hx id
end XLaw
theorem hd_L_come : yL_come.cls ≠ "java/lang/invoke/MethodHandle" ∧ yL_come.cls ≠ "java/lang/invoke/VarHandle" ∧ (parseMethodDescriptor yL_come.desc).map (fun d => d.parameters.length) = some 2 := ⟨by decide +kernel, by decide +kernel, by decide +kernel⟩
theorem hd_L_leave : yL_leave.cls ≠ "java/lang/invoke/MethodHandle" ∧ yL_leave.cls ≠ "java/lang/invoke/VarHandle" ∧ (parseMethodDescriptor yL_leave.desc).map (fun d => d.parameters.length) = some 3 := ⟨by decide +kernel, by decide +kernel, by decide +kernel⟩
theorem hd_L_enter : yL_enter.cls ≠ "java/lang/invoke/MethodHandle" ∧ yL_enter.cls ≠ "java/lang/invoke/VarHandle" ∧ (parseMethodDescriptor yL_enter.desc).map (fun d => d.parameters.length) = some 3 := ⟨by decide +kernel, by decide +kernel, by decide +kernel⟩
theorem hd_L_rest : yL_rest.cls ≠ "java/lang/invoke/MethodHandle" ∧ yL_rest.cls ≠ "java/lang/invoke/VarHandle" ∧ (parseMethodDescriptor yL_rest.desc).map (fun d => d.parameters.length) = some 3 := ⟨by decide +kernel, by decide +kernel, by decide +kernel⟩
theorem hd_L_ring : yL_ring.cls ≠ "java/lang/invoke/MethodHandle" ∧ yL_ring.cls ≠ "java/lang/invoke/VarHandle" ∧ (parseMethodDescriptor yL_ring.desc).map (fun d => d.parameters.length) = some 2 := ⟨by decide +kernel, by decide +kernel, by decide +kernel⟩
theorem hd_L_grow : yL_grow.cls ≠ "java/lang/invoke/MethodHandle" ∧ yL_grow.cls ≠ "java/lang/invoke/VarHandle" ∧ (parseMethodDescriptor yL_grow.desc).map (fun d => d.parameters.length) = some 4 := ⟨by decide +kernel, by decide +kernel, by decide +kernel⟩
theorem hd_L_note : yL_note.cls ≠ "java/lang/invoke/MethodHandle" ∧ yL_note.cls ≠ "java/lang/invoke/VarHandle" ∧ (parseMethodDescriptor yL_note.desc).map (fun d => d.parameters.length) = some 5 := ⟨by decide +kernel, by decide +kernel, by decide +kernel⟩
theorem hd_L_pin : yL_pin.cls ≠ "java/lang/invoke/MethodHandle" ∧ yL_pin.cls ≠ "java/lang/invoke/VarHandle" ∧ (parseMethodDescriptor yL_pin.desc).map (fun d => d.parameters.length) = some 4 := ⟨by decide +kernel, by decide +kernel, by decide +kernel⟩
theorem hd_L_loosen : yL_loosen.cls ≠ "java/lang/invoke/MethodHandle" ∧ yL_loosen.cls ≠ "java/lang/invoke/VarHandle" ∧ (parseMethodDescriptor yL_loosen.desc).map (fun d => d.parameters.length) = some 4 := ⟨by decide +kernel, by decide +kernel, by decide +kernel⟩
theorem hd_L_look : yL_look.cls ≠ "java/lang/invoke/MethodHandle" ∧ yL_look.cls ≠ "java/lang/invoke/VarHandle" ∧ (parseMethodDescriptor yL_look.desc).map (fun d => d.parameters.length) = some 4 := ⟨by decide +kernel, by decide +kernel, by decide +kernel⟩
theorem hd_L_take : yL_take.cls ≠ "java/lang/invoke/MethodHandle" ∧ yL_take.cls ≠ "java/lang/invoke/VarHandle" ∧ (parseMethodDescriptor yL_take.desc).map (fun d => d.parameters.length) = some 4 := ⟨by decide +kernel, by decide +kernel, by decide +kernel⟩
theorem hd_L_swap : yL_swap.cls ≠ "java/lang/invoke/MethodHandle" ∧ yL_swap.cls ≠ "java/lang/invoke/VarHandle" ∧ (parseMethodDescriptor yL_swap.desc).map (fun d => d.parameters.length) = some 5 := ⟨by decide +kernel, by decide +kernel, by decide +kernel⟩
theorem hd_L_rake : yL_rake.cls ≠ "java/lang/invoke/MethodHandle" ∧ yL_rake.cls ≠ "java/lang/invoke/VarHandle" ∧ (parseMethodDescriptor yL_rake.desc).map (fun d => d.parameters.length) = some 3 := ⟨by decide +kernel, by decide +kernel, by decide +kernel⟩
theorem hd_L_set : yL_set.cls ≠ "java/lang/invoke/MethodHandle" ∧ yL_set.cls ≠ "java/lang/invoke/VarHandle" ∧ (parseMethodDescriptor yL_set.desc).map (fun d => d.parameters.length) = some 4 := ⟨by decide +kernel, by decide +kernel, by decide +kernel⟩
theorem hd_L_append : yL_append.cls ≠ "java/lang/invoke/MethodHandle" ∧ yL_append.cls ≠ "java/lang/invoke/VarHandle" ∧ (parseMethodDescriptor yL_append.desc).map (fun d => d.parameters.length) = some 3 := ⟨by decide +kernel, by decide +kernel, by decide +kernel⟩
theorem hd_L_obey : yL_obey.cls ≠ "java/lang/invoke/MethodHandle" ∧ yL_obey.cls ≠ "java/lang/invoke/VarHandle" ∧ (parseMethodDescriptor yL_obey.desc).map (fun d => d.parameters.length) = some 2 := ⟨by decide +kernel, by decide +kernel, by decide +kernel⟩
theorem hd_L_goBack : yL_goBack.cls ≠ "java/lang/invoke/MethodHandle" ∧ yL_goBack.cls ≠ "java/lang/invoke/VarHandle" ∧ (parseMethodDescriptor yL_goBack.desc).map (fun d => d.parameters.length) = some 2 := ⟨by decide +kernel, by decide +kernel, by decide +kernel⟩
theorem hd_L_undo : yL_undo.cls ≠ "java/lang/invoke/MethodHandle" ∧ yL_undo.cls ≠ "java/lang/invoke/VarHandle" ∧ (parseMethodDescriptor yL_undo.desc).map (fun d => d.parameters.length) = some 2 := ⟨by decide +kernel, by decide +kernel, by decide +kernel⟩
theorem hd_L_branch : yL_branch.cls ≠ "java/lang/invoke/MethodHandle" ∧ yL_branch.cls ≠ "java/lang/invoke/VarHandle" ∧ (parseMethodDescriptor yL_branch.desc).map (fun d => d.parameters.length) = some 3 := ⟨by decide +kernel, by decide +kernel, by decide +kernel⟩
theorem hd_L_leaf : yL_leaf.cls ≠ "java/lang/invoke/MethodHandle" ∧ yL_leaf.cls ≠ "java/lang/invoke/VarHandle" ∧ (parseMethodDescriptor yL_leaf.desc).map (fun d => d.parameters.length) = some 4 := ⟨by decide +kernel, by decide +kernel, by decide +kernel⟩
theorem hd_L_child : yL_child.cls ≠ "java/lang/invoke/MethodHandle" ∧ yL_child.cls ≠ "java/lang/invoke/VarHandle" ∧ (parseMethodDescriptor yL_child.desc).map (fun d => d.parameters.length) = some 4 := ⟨by decide +kernel, by decide +kernel, by decide +kernel⟩
theorem hd_L_hook : yL_hook.cls ≠ "java/lang/invoke/MethodHandle" ∧ yL_hook.cls ≠ "java/lang/invoke/VarHandle" ∧ (parseMethodDescriptor yL_hook.desc).map (fun d => d.parameters.length) = some 5 := ⟨by decide +kernel, by decide +kernel, by decide +kernel⟩
theorem hd_L_heap : yL_heap.cls ≠ "java/lang/invoke/MethodHandle" ∧ yL_heap.cls ≠ "java/lang/invoke/VarHandle" ∧ (parseMethodDescriptor yL_heap.desc).map (fun d => d.parameters.length) = some 4 := ⟨by decide +kernel, by decide +kernel, by decide +kernel⟩
theorem hd_L_count : yL_count.cls ≠ "java/lang/invoke/MethodHandle" ∧ yL_count.cls ≠ "java/lang/invoke/VarHandle" ∧ (parseMethodDescriptor yL_count.desc).map (fun d => d.parameters.length) = some 3 := ⟨by decide +kernel, by decide +kernel, by decide +kernel⟩
theorem hd_L_setting : yL_setting.cls ≠ "java/lang/invoke/MethodHandle" ∧ yL_setting.cls ≠ "java/lang/invoke/VarHandle" ∧ (parseMethodDescriptor yL_setting.desc).map (fun d => d.parameters.length) = some 3 := ⟨by decide +kernel, by decide +kernel, by decide +kernel⟩
theorem hd_L_why : yL_why.cls ≠ "java/lang/invoke/MethodHandle" ∧ yL_why.cls ≠ "java/lang/invoke/VarHandle" ∧ (parseMethodDescriptor yL_why.desc).map (fun d => d.parameters.length) = some 3 := ⟨by decide +kernel, by decide +kernel, by decide +kernel⟩
theorem hd_L_ifRaked : yL_ifRaked.cls ≠ "java/lang/invoke/MethodHandle" ∧ yL_ifRaked.cls ≠ "java/lang/invoke/VarHandle" ∧ (parseMethodDescriptor yL_ifRaked.desc).map (fun d => d.parameters.length) = some 4 := ⟨by decide +kernel, by decide +kernel, by decide +kernel⟩
theorem hd_L_ifLoosened : yL_ifLoosened.cls ≠ "java/lang/invoke/MethodHandle" ∧ yL_ifLoosened.cls ≠ "java/lang/invoke/VarHandle" ∧ (parseMethodDescriptor yL_ifLoosened.desc).map (fun d => d.parameters.length) = some 4 := ⟨by decide +kernel, by decide +kernel, by decide +kernel⟩
theorem hd_L_ifRested : yL_ifRested.cls ≠ "java/lang/invoke/MethodHandle" ∧ yL_ifRested.cls ≠ "java/lang/invoke/VarHandle" ∧ (parseMethodDescriptor yL_ifRested.desc).map (fun d => d.parameters.length) = some 3 := ⟨by decide +kernel, by decide +kernel, by decide +kernel⟩
theorem kb_63 : (Int8.ofInt 63).toInt32 = 63 := by decide
