section WalkT
variable {p : Program} {l : Launch} {e : Env} {s : State} {m : MethodId} {args : Array Value} {below : List Frame} {meth : Method} {c : Code} {Q : State → Prop} {b : Nat} {G : xG}
set_option maxRecDepth 4000 in
theorem c_X7_needBranch (l : Launch) (G : xG) (b : Nat) (hl : l.stackTraces = false)     (a1 : Int32) {w w' : xWt} {o : Unit ⊕ String} (hF : F_X7_needBranch a1 w = some (o, w')) : xMetX l G b yX7_needBranch cX7_needBranch 1 none (xRX 6 (mco o) (6 * mco o)) [.int (a1)] (CW G b w) (ov (fun _ => none) o) (CW G b w') (mco o) (6 * mco o) := by
  refine x_ofX (own := RX7) rfl pn_X7 (Nat.le_of_ble_eq_true rfl) ?_
  intro p e s m args below meth c ha C hr hX hout
  unfold F_X7_needBranch at hF
  refine x_iload_n (pc := 0) C 0 dX7_needBranch_0 rfl rfl ?_
  refine x_if_lt (pc := 1) C 10 dX7_needBranch_1 rfl hF (fun c2 hF => ?_) (fun c2 hF => ?_)
  · obtain ⟨rfl, rfl⟩ := ret_eq hF
    exact xv_throw_IndexOutOfBoundsExceptionW (pc := 10) C hl hX hout 19 rfl rfl wq193 wq194 dX7_needBranch_10 dX7_needBranch_13 dX7_needBranch_14 dX7_needBranch_17 dX7_needBranch_20 ⟨Nat.le_of_ble_eq_true rfl, Nat.le_of_ble_eq_true rfl, Nat.le_of_ble_eq_true rfl, Nat.le_of_ble_eq_true rfl⟩ (Nat.le_of_ble_eq_true rfl) (Nat.le_of_ble_eq_true rfl) rfl
  · refine x_iload_n (pc := 4) C 0 dX7_needBranch_4 rfl rfl ?_
    refine x_bipush (pc := 5) C 12 dX7_needBranch_5 kb_12 ?_
    refine x_icmp_lt (pc := 7) C 21 dX7_needBranch_7 rfl hF (fun c1 hF => ?_) (fun c1 hF => ?_)
    · obtain ⟨rfl, rfl⟩ := ret_eq hF
      refine xv_ret rfl (Nat.zero_le _) (Nat.zero_le _) ?_
      exact x_vret (pc := 21) C hr (fun _ h => h) dX7_needBranch_21
    · obtain ⟨rfl, rfl⟩ := ret_eq hF
      exact xv_throw_IndexOutOfBoundsExceptionW (pc := 10) C hl hX hout 19 rfl rfl wq193 wq194 dX7_needBranch_10 dX7_needBranch_13 dX7_needBranch_14 dX7_needBranch_17 dX7_needBranch_20 ⟨Nat.le_of_ble_eq_true rfl, Nat.le_of_ble_eq_true rfl, Nat.le_of_ble_eq_true rfl, Nat.le_of_ble_eq_true rfl⟩ (Nat.le_of_ble_eq_true rfl) (Nat.le_of_ble_eq_true rfl) rfl
set_option maxRecDepth 4000 in
theorem c_X7_branch (l : Launch) (G : xG) (b : Nat) (hl : l.stackTraces = false)     (a1 : Int32) {w w' : xWt} {o : Int32 ⊕ String} (hF : F_X7_branch a1 w = some (o, w')) : xMetX l G b yX7_branch cX7_branch 2 (some .int) (xRX 7 (mco o) (6 * mco o)) [.ref (b), .int (a1)] (CW G b w) (ov (fun v => some (.int v)) o) (CW G b w') (mco o) (6 * mco o) := by
  refine x_ofX (own := RX7) rfl pn_X7 (Nat.le_of_ble_eq_true rfl) ?_
  intro p e s m args below meth c ha C hr hX hout
  unfold F_X7_branch at hF
  refine x_iload_n (pc := 0) C 1 dX7_branch_0 rfl rfl ?_
  refine cXS0_1 (pc := 1) C hX hout hF (fun _ _ h => c_X7_needBranch l G b hl  _ h) sm_X7_needBranch wq314 ⟨Nat.le_of_ble_eq_true rfl, Nat.le_of_ble_eq_true rfl⟩ (Nat.le_of_ble_eq_true rfl) ⟨Nat.zero_le _, Nat.zero_le _⟩ (fun E hE => by subst hE; exact ⟨(Nat.le_of_ble_eq_true rfl), (Nat.le_of_ble_eq_true rfl)⟩) (fun E hE => by subst hE; exact ⟨(Nat.le_of_ble_eq_true rfl), (Nat.le_of_ble_eq_true rfl)⟩) dX7_branch_1 (fun w1 hF => ?_)
  refine x_aload_n (pc := 4) C 0 dX7_branch_4 rfl rfl ?_
  refine gf_X7_10 (pc := 5) C  dX7_branch_5 ?_
  refine gf_X7_107 (pc := 8) C (by decide) dX7_branch_8 ?_
  refine gf_X7_235 (pc := 11) C (by decide) dX7_branch_11 ?_
  refine x_iload_n (pc := 14) C 1 dX7_branch_14 rfl rfl ?_
  refine cV1_1 (pc := 15) (val := Value.int) C hF (fun _ _ h => r_X4_get l G b (vr_y 0 (by decide) (by decide)) _ h) vm_X4_get wq317 rfl rfl ⟨Nat.le_of_ble_eq_true rfl, Nat.le_of_ble_eq_true rfl⟩ rfl rfl (fun _ h => CW.row0 h (vr_y 0 (by decide) (by decide))) (Nat.le_of_ble_eq_true rfl) ⟨Nat.zero_le _, Nat.zero_le _⟩ dX7_branch_15 (fun x3 w2 hF => ?_)
  obtain ⟨rfl, rfl⟩ := ret_eq hF
  refine xv_ret rfl (Nat.zero_le _) (Nat.zero_le _) ?_
  exact x_iret (pc := 18) C hr rfl (fun _ h => h) dX7_branch_18
set_option maxRecDepth 4000 in
theorem c_X7_needChild (l : Launch) (G : xG) (b : Nat) (hl : l.stackTraces = false)     (a1 : Int32) {w w' : xWt} {o : Unit ⊕ String} (hF : F_X7_needChild a1 w = some (o, w')) : xMetX l G b yX7_needChild cX7_needChild 2 none (xRX 6 (mco o) (6 * mco o)) [.ref (b), .int (a1)] (CW G b w) (ov (fun _ => none) o) (CW G b w') (mco o) (6 * mco o) := by
  refine x_ofX (own := RX7) rfl pn_X7 (Nat.le_of_ble_eq_true rfl) ?_
  intro p e s m args below meth c ha C hr hX hout
  unfold F_X7_needChild at hF
  refine x_aload_n (pc := 0) C 0 dX7_needChild_0 rfl rfl ?_
  refine gf_X7_10 (pc := 1) C  dX7_needChild_1 ?_
  refine gf_X7_33 (pc := 4) C (by decide) dX7_needChild_4 ?_
  refine x_iload_n (pc := 7) C 1 dX7_needChild_7 rfl rfl ?_
  refine cV1_1 (pc := 8) (val := Value.int) C hF (fun _ _ h => c_X0_isHere l G b (by decide) _ h) vm_X0_isHere wq334 rfl rfl ⟨Nat.le_of_ble_eq_true rfl, Nat.le_of_ble_eq_true rfl⟩ rfl rfl (fun _ h => CW.ch h (by decide)) (Nat.le_of_ble_eq_true rfl) ⟨Nat.zero_le _, Nat.zero_le _⟩ dX7_needChild_8 (fun x2 w1 hF => ?_)
  refine x_if_ne (pc := 11) C 25 dX7_needChild_11 rfl hF (fun c3 hF => ?_) (fun c3 hF => ?_)
  · obtain ⟨rfl, rfl⟩ := ret_eq hF
    refine xv_ret rfl (Nat.zero_le _) (Nat.zero_le _) ?_
    exact x_vret (pc := 25) C hr (fun _ h => h) dX7_needChild_25
  · obtain ⟨rfl, rfl⟩ := ret_eq hF
    exact xv_throw_IndexOutOfBoundsExceptionW (pc := 14) C hl hX hout 16 rfl rfl wq193 wq194 dX7_needChild_14 dX7_needChild_17 dX7_needChild_18 dX7_needChild_21 dX7_needChild_24 ⟨Nat.le_of_ble_eq_true rfl, Nat.le_of_ble_eq_true rfl, Nat.le_of_ble_eq_true rfl, Nat.le_of_ble_eq_true rfl⟩ (Nat.le_of_ble_eq_true rfl) (Nat.le_of_ble_eq_true rfl) rfl
set_option maxRecDepth 4000 in
theorem c_X7_needWhat (l : Launch) (G : xG) (b : Nat) (hl : l.stackTraces = false)     (a1 : Int32) (a2 : Int32) {w w' : xWt} {o : Unit ⊕ String} (hF : F_X7_needWhat a1 a2 w = some (o, w')) : xMetX l G b yX7_needWhat cX7_needWhat 2 none (xRX 6 (mco o) (6 * mco o)) [.int (a1), .int (a2)] (CW G b w) (ov (fun _ => none) o) (CW G b w') (mco o) (6 * mco o) := by
  refine x_ofX (own := RX7) rfl pn_X7 (Nat.le_of_ble_eq_true rfl) ?_
  intro p e s m args below meth c ha C hr hX hout
  unfold F_X7_needWhat at hF
  refine x_iload_n (pc := 0) C 0 dX7_needWhat_0 rfl rfl ?_
  refine x_if_lt (pc := 1) C 9 dX7_needWhat_1 rfl hF (fun c2 hF => ?_) (fun c2 hF => ?_)
  · obtain ⟨rfl, rfl⟩ := ret_eq hF
    exact xv_throw_IllegalArgumentExceptionW (pc := 9) C hl hX hout 22 rfl rfl wq122 wq123 dX7_needWhat_9 dX7_needWhat_12 dX7_needWhat_13 dX7_needWhat_16 dX7_needWhat_19 ⟨Nat.le_of_ble_eq_true rfl, Nat.le_of_ble_eq_true rfl, Nat.le_of_ble_eq_true rfl, Nat.le_of_ble_eq_true rfl⟩ (Nat.le_of_ble_eq_true rfl) (Nat.le_of_ble_eq_true rfl) rfl
  · refine x_iload_n (pc := 4) C 0 dX7_needWhat_4 rfl rfl ?_
    refine x_iload_n (pc := 5) C 1 dX7_needWhat_5 rfl rfl ?_
    refine x_icmp_le (pc := 6) C 20 dX7_needWhat_6 rfl hF (fun c1 hF => ?_) (fun c1 hF => ?_)
    · obtain ⟨rfl, rfl⟩ := ret_eq hF
      refine xv_ret rfl (Nat.zero_le _) (Nat.zero_le _) ?_
      exact x_vret (pc := 20) C hr (fun _ h => h) dX7_needWhat_20
    · obtain ⟨rfl, rfl⟩ := ret_eq hF
      exact xv_throw_IllegalArgumentExceptionW (pc := 9) C hl hX hout 22 rfl rfl wq122 wq123 dX7_needWhat_9 dX7_needWhat_12 dX7_needWhat_13 dX7_needWhat_16 dX7_needWhat_19 ⟨Nat.le_of_ble_eq_true rfl, Nat.le_of_ble_eq_true rfl, Nat.le_of_ble_eq_true rfl, Nat.le_of_ble_eq_true rfl⟩ (Nat.le_of_ble_eq_true rfl) (Nat.le_of_ble_eq_true rfl) rfl
set_option maxRecDepth 4000 in
theorem c_X7_child (l : Launch) (G : xG) (b : Nat) (hl : l.stackTraces = false)     (a1 : Int32) (a2 : Int32) {w w' : xWt} {o : Int32 ⊕ String} (hF : F_X7_child a1 a2 w = some (o, w')) : xMetX l G b yX7_child cX7_child 3 (some .int) (xRX 7 (mco o) (6 * mco o)) [.ref (b), .int (a1), .int (a2)] (CW G b w) (ov (fun v => some (.int v)) o) (CW G b w') (mco o) (6 * mco o) := by
  refine x_ofX (own := RX7) rfl pn_X7 (Nat.le_of_ble_eq_true rfl) ?_
  intro p e s m args below meth c ha C hr hX hout
  unfold F_X7_child at hF
  refine x_aload_n (pc := 0) C 0 dX7_child_0 rfl rfl ?_
  refine x_iload_n (pc := 1) C 1 dX7_child_1 rfl rfl ?_
  refine cXV0_1 (pc := 2) C hX hout hF (fun _ _ h => c_X7_needChild l G b hl  _ h) vm_X7_needChild wq330 ⟨Nat.le_of_ble_eq_true rfl, Nat.le_of_ble_eq_true rfl⟩ rfl rfl (fun _ h => CW.pl h) (Nat.le_of_ble_eq_true rfl) ⟨Nat.zero_le _, Nat.zero_le _⟩ (fun E hE => by subst hE; exact ⟨(Nat.le_of_ble_eq_true rfl), (Nat.le_of_ble_eq_true rfl)⟩) (fun E hE => by subst hE; exact ⟨(Nat.le_of_ble_eq_true rfl), (Nat.le_of_ble_eq_true rfl)⟩) dX7_child_2 (fun w1 hF => ?_)
  refine x_iload_n (pc := 5) C 2 dX7_child_5 rfl rfl ?_
  refine x_bipush (pc := 6) C 7 dX7_child_6 kb_7 ?_
  refine cXS0_2 (pc := 8) C hX hout hF (fun _ _ h => c_X7_needWhat l G b hl  _ _ h) sm_X7_needWhat wq119 ⟨Nat.le_of_ble_eq_true rfl, Nat.le_of_ble_eq_true rfl⟩ (Nat.le_of_ble_eq_true rfl) ⟨Nat.zero_le _, Nat.zero_le _⟩ (fun E hE => by subst hE; exact ⟨(Nat.le_of_ble_eq_true rfl), (Nat.le_of_ble_eq_true rfl)⟩) (fun E hE => by subst hE; exact ⟨(Nat.le_of_ble_eq_true rfl), (Nat.le_of_ble_eq_true rfl)⟩) dX7_child_8 (fun w2 hF => ?_)
  refine x_aload_n (pc := 11) C 0 dX7_child_11 rfl rfl ?_
  refine gf_X7_10 (pc := 12) C  dX7_child_12 ?_
  refine x_iload_n (pc := 15) C 1 dX7_child_15 rfl rfl ?_
  refine x_iload_n (pc := 16) C 2 dX7_child_16 rfl rfl ?_
  refine cV1_2 (pc := 17) (val := Value.int) C hF (fun _ _ h => c_X6_numberOfChild l G b (by decide) _ _ h) vm_X6_numberOfChild wq335 rfl rfl ⟨Nat.le_of_ble_eq_true rfl, Nat.le_of_ble_eq_true rfl⟩ rfl rfl (fun _ h => CW.yd h (by decide)) (Nat.le_of_ble_eq_true rfl) ⟨Nat.zero_le _, Nat.zero_le _⟩ dX7_child_17 (fun x4 w3 hF => ?_)
  obtain ⟨rfl, rfl⟩ := ret_eq hF
  refine xv_ret rfl (Nat.zero_le _) (Nat.zero_le _) ?_
  exact x_iret (pc := 20) C hr rfl (fun _ h => h) dX7_child_20
set_option maxRecDepth 4000 in
theorem c_X7_come (l : Launch) (G : xG) (b : Nat) (hl : l.stackTraces = false)      {w w' : xWt} {o : Int32 ⊕ String} (hF : F_X7_come  w = some (o, w')) : xMetX l G b yX7_come cX7_come 1 (some .int) (xRX 6 (mco o) (6 * mco o)) [.ref (b)] (CW G b w) (ov (fun v => some (.int v)) o) (CW G b w') (mco o) (6 * mco o) := by
  refine x_ofX (own := RX7) rfl pn_X7 (Nat.le_of_ble_eq_true rfl) ?_
  intro p e s m args below meth c ha C hr hX hout
  unfold F_X7_come at hF
  refine x_aload_n (pc := 0) C 0 dX7_come_0 rfl rfl ?_
  refine gf_X7_10 (pc := 1) C  dX7_come_1 ?_
  refine gf_X7_33 (pc := 4) C (by decide) dX7_come_4 ?_
  refine cV1_0 (pc := 7) (val := Value.int) C hF (fun _ _ h => c_X0_lowestFree l G b (by decide) h) vm_X0_lowestFree wq561 rfl rfl ⟨Nat.le_of_ble_eq_true rfl, Nat.le_of_ble_eq_true rfl⟩ rfl rfl (fun _ h => CW.ch h (by decide)) (Nat.le_of_ble_eq_true rfl) ⟨Nat.zero_le _, Nat.zero_le _⟩ dX7_come_7 (fun x2 w1 hF => ?_)
  refine x_iconst (pc := 10) C (-1) dX7_come_10 ki_m1 ?_
  refine x_icmp_ne (pc := 11) C 24 dX7_come_11 rfl hF (fun c6 hF => ?_) (fun c6 hF => ?_)
  · refine x_aload_n (pc := 24) C 0 dX7_come_24 rfl rfl ?_
    refine gf_X7_22 (pc := 25) C  dX7_come_25 ?_
    refine x_aload_n (pc := 28) C 0 dX7_come_28 rfl rfl ?_
    refine gf_X7_10 (pc := 29) C  dX7_come_29 ?_
    refine cV0_1 (pc := 32) C hF (fun _ _ h => c_X5_push l G b (by decide) h) vm_X5_push wq504 rfl rfl ⟨Nat.le_of_ble_eq_true rfl, Nat.le_of_ble_eq_true rfl⟩ rfl rfl (fun _ h => CW.sv h) (Nat.le_of_ble_eq_true rfl) ⟨Nat.zero_le _, Nat.zero_le _⟩ dX7_come_32 (fun _ w3 hF => ?_)
    refine x_aload_n (pc := 35) C 0 dX7_come_35 rfl rfl ?_
    refine gf_X7_10 (pc := 36) C  dX7_come_36 ?_
    refine cV1_0 (pc := 39) (val := Value.int) C hF (fun _ _ h => c_X6_addChild l G b (by decide) h) vm_X6_addChild wq565 rfl rfl ⟨Nat.le_of_ble_eq_true rfl, Nat.le_of_ble_eq_true rfl⟩ rfl rfl (fun _ h => CW.yd h (by decide)) (Nat.le_of_ble_eq_true rfl) ⟨Nat.zero_le _, Nat.zero_le _⟩ dX7_come_39 (fun x5 w4 hF => ?_)
    obtain ⟨rfl, rfl⟩ := ret_eq hF
    refine xv_ret rfl (Nat.zero_le _) (Nat.zero_le _) ?_
    exact x_iret (pc := 42) C hr rfl (fun _ h => h) dX7_come_42
  · obtain ⟨rfl, rfl⟩ := ret_eq hF
    exact xv_throw_IllegalStateException (pc := 14) C hl hX hout 0 rfl rfl wq440 wq441 dX7_come_14 dX7_come_17 dX7_come_18 dX7_come_20 dX7_come_23 ⟨Nat.le_of_ble_eq_true rfl, Nat.le_of_ble_eq_true rfl, Nat.le_of_ble_eq_true rfl, Nat.le_of_ble_eq_true rfl⟩ (Nat.le_of_ble_eq_true rfl) (Nat.le_of_ble_eq_true rfl) rfl
set_option maxRecDepth 4000 in
theorem c_X7_count (l : Launch) (G : xG) (b : Nat) (hl : l.stackTraces = false)     (a1 : Int32) {w w' : xWt} {o : Int32 ⊕ String} (hF : F_X7_count a1 w = some (o, w')) : xMetX l G b yX7_count cX7_count 2 (some .int) (xRX 7 (mco o) (6 * mco o)) [.ref (b), .int (a1)] (CW G b w) (ov (fun v => some (.int v)) o) (CW G b w') (mco o) (6 * mco o) := by
  refine x_ofX (own := RX7) rfl pn_X7 (Nat.le_of_ble_eq_true rfl) ?_
  intro p e s m args below meth c ha C hr hX hout
  unfold F_X7_count at hF
  refine x_iload_n (pc := 0) C 1 dX7_count_0 rfl rfl ?_
  refine x_bipush (pc := 1) C 15 dX7_count_1 kb_15 ?_
  refine cXS0_2 (pc := 3) C hX hout hF (fun _ _ h => c_X7_needWhat l G b hl  _ _ h) sm_X7_needWhat wq119 ⟨Nat.le_of_ble_eq_true rfl, Nat.le_of_ble_eq_true rfl⟩ (Nat.le_of_ble_eq_true rfl) ⟨Nat.zero_le _, Nat.zero_le _⟩ (fun E hE => by subst hE; exact ⟨(Nat.le_of_ble_eq_true rfl), (Nat.le_of_ble_eq_true rfl)⟩) (fun E hE => by subst hE; exact ⟨(Nat.le_of_ble_eq_true rfl), (Nat.le_of_ble_eq_true rfl)⟩) dX7_count_3 (fun w1 hF => ?_)
  refine x_aload_n (pc := 6) C 0 dX7_count_6 rfl rfl ?_
  refine x_iload_n (pc := 7) C 1 dX7_count_7 rfl rfl ?_
  refine cV1_1 (pc := 8) (val := Value.int) C hF (fun _ _ h => c_X7_counted l G b  _ h) vm_X7_counted wq124 rfl rfl ⟨Nat.le_of_ble_eq_true rfl, Nat.le_of_ble_eq_true rfl⟩ rfl rfl (fun _ h => CW.pl h) (Nat.le_of_ble_eq_true rfl) ⟨Nat.zero_le _, Nat.zero_le _⟩ dX7_count_8 (fun x3 w2 hF => ?_)
  obtain ⟨rfl, rfl⟩ := ret_eq hF
  refine xv_ret rfl (Nat.zero_le _) (Nat.zero_le _) ?_
  exact x_iret (pc := 11) C hr rfl (fun _ h => h) dX7_count_11
set_option maxRecDepth 4000 in
theorem c_X7_enter (l : Launch) (G : xG) (b : Nat) (hl : l.stackTraces = false)     (a1 : Int32) {w w' : xWt} {o : Int32 ⊕ String} (hF : F_X7_enter a1 w = some (o, w')) : xMetX l G b yX7_enter cX7_enter 2 (some .int) (xRX 7 (mco o) (6 * mco o)) [.ref (b), .int (a1)] (CW G b w) (ov (fun v => some (.int v)) o) (CW G b w') (mco o) (6 * mco o) := by
  refine x_ofX (own := RX7) rfl pn_X7 (Nat.le_of_ble_eq_true rfl) ?_
  intro p e s m args below meth c ha C hr hX hout
  unfold F_X7_enter at hF
  refine x_aload_n (pc := 0) C 0 dX7_enter_0 rfl rfl ?_
  refine x_iload_n (pc := 1) C 1 dX7_enter_1 rfl rfl ?_
  refine cXV0_1 (pc := 2) C hX hout hF (fun _ _ h => c_X7_needChild l G b hl  _ h) vm_X7_needChild wq330 ⟨Nat.le_of_ble_eq_true rfl, Nat.le_of_ble_eq_true rfl⟩ rfl rfl (fun _ h => CW.pl h) (Nat.le_of_ble_eq_true rfl) ⟨Nat.zero_le _, Nat.zero_le _⟩ (fun E hE => by subst hE; exact ⟨(Nat.le_of_ble_eq_true rfl), (Nat.le_of_ble_eq_true rfl)⟩) (fun E hE => by subst hE; exact ⟨(Nat.le_of_ble_eq_true rfl), (Nat.le_of_ble_eq_true rfl)⟩) dX7_enter_2 (fun w1 hF => ?_)
  refine x_aload_n (pc := 5) C 0 dX7_enter_5 rfl rfl ?_
  refine gf_X7_10 (pc := 6) C  dX7_enter_6 ?_
  refine x_iload_n (pc := 9) C 1 dX7_enter_9 rfl rfl ?_
  refine cV1_1 (pc := 10) (val := Value.int) C hF (fun _ _ h => c_X6_mayGoIn l G b (by decide) _ h) vm_X6_mayGoIn wq499 rfl rfl ⟨Nat.le_of_ble_eq_true rfl, Nat.le_of_ble_eq_true rfl⟩ rfl rfl (fun _ h => CW.yd h (by decide)) (Nat.le_of_ble_eq_true rfl) ⟨Nat.zero_le _, Nat.zero_le _⟩ dX7_enter_10 (fun x3 w2 hF => ?_)
  refine x_if_ne (pc := 13) C 26 dX7_enter_13 rfl hF (fun c7 hF => ?_) (fun c7 hF => ?_)
  · refine x_aload_n (pc := 26) C 0 dX7_enter_26 rfl rfl ?_
    refine gf_X7_22 (pc := 27) C  dX7_enter_27 ?_
    refine x_aload_n (pc := 30) C 0 dX7_enter_30 rfl rfl ?_
    refine gf_X7_10 (pc := 31) C  dX7_enter_31 ?_
    refine cV0_1 (pc := 34) C hF (fun _ _ h => c_X5_push l G b (by decide) h) vm_X5_push wq504 rfl rfl ⟨Nat.le_of_ble_eq_true rfl, Nat.le_of_ble_eq_true rfl⟩ rfl rfl (fun _ h => CW.sv h) (Nat.le_of_ble_eq_true rfl) ⟨Nat.zero_le _, Nat.zero_le _⟩ dX7_enter_34 (fun _ w4 hF => ?_)
    refine x_aload_n (pc := 37) C 0 dX7_enter_37 rfl rfl ?_
    refine gf_X7_10 (pc := 38) C  dX7_enter_38 ?_
    refine x_iload_n (pc := 41) C 1 dX7_enter_41 rfl rfl ?_
    refine cV1_1 (pc := 42) (val := Value.int) C hF (fun _ _ h => c_X6_goIn l G b (by decide) _ h) vm_X6_goIn wq509 rfl rfl ⟨Nat.le_of_ble_eq_true rfl, Nat.le_of_ble_eq_true rfl⟩ rfl rfl (fun _ h => CW.yd h (by decide)) (Nat.le_of_ble_eq_true rfl) ⟨Nat.zero_le _, Nat.zero_le _⟩ dX7_enter_42 (fun x6 w5 hF => ?_)
    obtain ⟨rfl, rfl⟩ := ret_eq hF
    refine xv_ret rfl (Nat.zero_le _) (Nat.zero_le _) ?_
    exact x_iret (pc := 45) C hr rfl (fun _ h => h) dX7_enter_45
  · obtain ⟨rfl, rfl⟩ := ret_eq hF
    exact xv_throw_IllegalStateException (pc := 16) C hl hX hout 2 rfl rfl wq440 wq441 dX7_enter_16 dX7_enter_19 dX7_enter_20 dX7_enter_22 dX7_enter_25 ⟨Nat.le_of_ble_eq_true rfl, Nat.le_of_ble_eq_true rfl, Nat.le_of_ble_eq_true rfl, Nat.le_of_ble_eq_true rfl⟩ (Nat.le_of_ble_eq_true rfl) (Nat.le_of_ble_eq_true rfl) rfl
set_option maxRecDepth 4000 in
theorem c_X7_needColour (l : Launch) (G : xG) (b : Nat) (hl : l.stackTraces = false)     (a1 : Int32) {w w' : xWt} {o : Unit ⊕ String} (hF : F_X7_needColour a1 w = some (o, w')) : xMetX l G b yX7_needColour cX7_needColour 1 none (xRX 6 (mco o) (6 * mco o)) [.int (a1)] (CW G b w) (ov (fun _ => none) o) (CW G b w') (mco o) (6 * mco o) := by
  refine x_ofX (own := RX7) rfl pn_X7 (Nat.le_of_ble_eq_true rfl) ?_
  intro p e s m args below meth c ha C hr hX hout
  unfold F_X7_needColour at hF
  refine x_iload_n (pc := 0) C 0 dX7_needColour_0 rfl rfl ?_
  refine x_if_lt (pc := 1) C 10 dX7_needColour_1 rfl hF (fun c2 hF => ?_) (fun c2 hF => ?_)
  · obtain ⟨rfl, rfl⟩ := ret_eq hF
    exact xv_throw_IllegalArgumentExceptionW (pc := 10) C hl hX hout 21 rfl rfl wq122 wq123 dX7_needColour_10 dX7_needColour_13 dX7_needColour_14 dX7_needColour_17 dX7_needColour_20 ⟨Nat.le_of_ble_eq_true rfl, Nat.le_of_ble_eq_true rfl, Nat.le_of_ble_eq_true rfl, Nat.le_of_ble_eq_true rfl⟩ (Nat.le_of_ble_eq_true rfl) (Nat.le_of_ble_eq_true rfl) rfl
  · refine x_iload_n (pc := 4) C 0 dX7_needColour_4 rfl rfl ?_
    refine x_bipush (pc := 5) C 10 dX7_needColour_5 kb_10 ?_
    refine x_icmp_lt (pc := 7) C 21 dX7_needColour_7 rfl hF (fun c1 hF => ?_) (fun c1 hF => ?_)
    · obtain ⟨rfl, rfl⟩ := ret_eq hF
      refine xv_ret rfl (Nat.zero_le _) (Nat.zero_le _) ?_
      exact x_vret (pc := 21) C hr (fun _ h => h) dX7_needColour_21
    · obtain ⟨rfl, rfl⟩ := ret_eq hF
      exact xv_throw_IllegalArgumentExceptionW (pc := 10) C hl hX hout 21 rfl rfl wq122 wq123 dX7_needColour_10 dX7_needColour_13 dX7_needColour_14 dX7_needColour_17 dX7_needColour_20 ⟨Nat.le_of_ble_eq_true rfl, Nat.le_of_ble_eq_true rfl, Nat.le_of_ble_eq_true rfl, Nat.le_of_ble_eq_true rfl⟩ (Nat.le_of_ble_eq_true rfl) (Nat.le_of_ble_eq_true rfl) rfl
set_option maxRecDepth 4000 in
theorem c_X7_grow (l : Launch) (G : xG) (b : Nat) (hl : l.stackTraces = false)     (a1 : Int32) (a2 : Int32) {w w' : xWt} {o : Int32 ⊕ String} (hF : F_X7_grow a1 a2 w = some (o, w')) : xMetX l G b yX7_grow cX7_grow 3 (some .int) (xRX 7 (mco o) (6 * mco o)) [.ref (b), .int (a1), .int (a2)] (CW G b w) (ov (fun v => some (.int v)) o) (CW G b w') (mco o) (6 * mco o) := by
  refine x_ofX (own := RX7) rfl pn_X7 (Nat.le_of_ble_eq_true rfl) ?_
  intro p e s m args below meth c ha C hr hX hout
  unfold F_X7_grow at hF
  refine x_iload_n (pc := 0) C 1 dX7_grow_0 rfl rfl ?_
  refine cXS0_1 (pc := 1) C hX hout hF (fun _ _ h => c_X7_needBranch l G b hl  _ h) sm_X7_needBranch wq314 ⟨Nat.le_of_ble_eq_true rfl, Nat.le_of_ble_eq_true rfl⟩ (Nat.le_of_ble_eq_true rfl) ⟨Nat.zero_le _, Nat.zero_le _⟩ (fun E hE => by subst hE; exact ⟨(Nat.le_of_ble_eq_true rfl), (Nat.le_of_ble_eq_true rfl)⟩) (fun E hE => by subst hE; exact ⟨(Nat.le_of_ble_eq_true rfl), (Nat.le_of_ble_eq_true rfl)⟩) dX7_grow_1 (fun w1 hF => ?_)
  refine x_iload_n (pc := 4) C 2 dX7_grow_4 rfl rfl ?_
  refine cXS0_1 (pc := 5) C hX hout hF (fun _ _ h => c_X7_needColour l G b hl  _ h) sm_X7_needColour wq701 ⟨Nat.le_of_ble_eq_true rfl, Nat.le_of_ble_eq_true rfl⟩ (Nat.le_of_ble_eq_true rfl) ⟨Nat.zero_le _, Nat.zero_le _⟩ (fun E hE => by subst hE; exact ⟨(Nat.le_of_ble_eq_true rfl), (Nat.le_of_ble_eq_true rfl)⟩) (fun E hE => by subst hE; exact ⟨(Nat.le_of_ble_eq_true rfl), (Nat.le_of_ble_eq_true rfl)⟩) dX7_grow_5 (fun w2 hF => ?_)
  refine x_aload_n (pc := 8) C 0 dX7_grow_8 rfl rfl ?_
  refine gf_X7_10 (pc := 9) C  dX7_grow_9 ?_
  refine x_iload_n (pc := 12) C 1 dX7_grow_12 rfl rfl ?_
  refine cV1_1 (pc := 13) (val := Value.int) C hF (fun _ _ h => c_X6_maySprout l G b (by decide) _ h) vm_X6_maySprout wq704 rfl rfl ⟨Nat.le_of_ble_eq_true rfl, Nat.le_of_ble_eq_true rfl⟩ rfl rfl (fun _ h => CW.yd h (by decide)) (Nat.le_of_ble_eq_true rfl) ⟨Nat.zero_le _, Nat.zero_le _⟩ dX7_grow_13 (fun x4 w3 hF => ?_)
  refine x_if_ne (pc := 16) C 29 dX7_grow_16 rfl hF (fun c8 hF => ?_) (fun c8 hF => ?_)
  · refine x_aload_n (pc := 29) C 0 dX7_grow_29 rfl rfl ?_
    refine gf_X7_22 (pc := 30) C  dX7_grow_30 ?_
    refine x_aload_n (pc := 33) C 0 dX7_grow_33 rfl rfl ?_
    refine gf_X7_10 (pc := 34) C  dX7_grow_34 ?_
    refine cV0_1 (pc := 37) C hF (fun _ _ h => c_X5_push l G b (by decide) h) vm_X5_push wq504 rfl rfl ⟨Nat.le_of_ble_eq_true rfl, Nat.le_of_ble_eq_true rfl⟩ rfl rfl (fun _ h => CW.sv h) (Nat.le_of_ble_eq_true rfl) ⟨Nat.zero_le _, Nat.zero_le _⟩ dX7_grow_37 (fun _ w5 hF => ?_)
    refine x_aload_n (pc := 40) C 0 dX7_grow_40 rfl rfl ?_
    refine gf_X7_10 (pc := 41) C  dX7_grow_41 ?_
    refine gf_X7_107 (pc := 44) C (by decide) dX7_grow_44 ?_
    refine x_iload_n (pc := 47) C 1 dX7_grow_47 rfl rfl ?_
    refine x_iload_n (pc := 48) C 2 dX7_grow_48 rfl rfl ?_
    refine cV1_2 (pc := 49) (val := Value.int) C hF (fun _ _ h => c_X2_sprout l G b (by decide) _ _ h) vm_X2_sprout wq708 rfl rfl ⟨Nat.le_of_ble_eq_true rfl, Nat.le_of_ble_eq_true rfl⟩ rfl rfl (fun _ h => CW.lv h (by decide)) (Nat.le_of_ble_eq_true rfl) ⟨Nat.zero_le _, Nat.zero_le _⟩ dX7_grow_49 (fun x7 w6 hF => ?_)
    obtain ⟨rfl, rfl⟩ := ret_eq hF
    refine xv_ret rfl (Nat.zero_le _) (Nat.zero_le _) ?_
    exact x_iret (pc := 52) C hr rfl (fun _ h => h) dX7_grow_52
  · obtain ⟨rfl, rfl⟩ := ret_eq hF
    exact xv_throw_IllegalStateException (pc := 19) C hl hX hout 5 rfl rfl wq440 wq441 dX7_grow_19 dX7_grow_22 dX7_grow_23 dX7_grow_25 dX7_grow_28 ⟨Nat.le_of_ble_eq_true rfl, Nat.le_of_ble_eq_true rfl, Nat.le_of_ble_eq_true rfl, Nat.le_of_ble_eq_true rfl⟩ (Nat.le_of_ble_eq_true rfl) (Nat.le_of_ble_eq_true rfl) rfl
set_option maxRecDepth 4000 in
theorem c_X7_heap (l : Launch) (G : xG) (b : Nat) (hl : l.stackTraces = false)     (a1 : Int32) (a2 : Int32) {w w' : xWt} {o : Int32 ⊕ String} (hF : F_X7_heap a1 a2 w = some (o, w')) : xMetX l G b yX7_heap cX7_heap 3 (some .int) (xRX 7 (mco o) (6 * mco o)) [.ref (b), .int (a1), .int (a2)] (CW G b w) (ov (fun v => some (.int v)) o) (CW G b w') (mco o) (6 * mco o) := by
  refine x_ofX (own := RX7) rfl pn_X7 (Nat.le_of_ble_eq_true rfl) ?_
  intro p e s m args below meth c ha C hr hX hout
  unfold F_X7_heap at hF
  refine x_aload_n (pc := 0) C 0 dX7_heap_0 rfl rfl ?_
  refine x_iload_n (pc := 1) C 1 dX7_heap_1 rfl rfl ?_
  refine cXV0_1 (pc := 2) C hX hout hF (fun _ _ h => c_X7_needChild l G b hl  _ h) vm_X7_needChild wq330 ⟨Nat.le_of_ble_eq_true rfl, Nat.le_of_ble_eq_true rfl⟩ rfl rfl (fun _ h => CW.pl h) (Nat.le_of_ble_eq_true rfl) ⟨Nat.zero_le _, Nat.zero_le _⟩ (fun E hE => by subst hE; exact ⟨(Nat.le_of_ble_eq_true rfl), (Nat.le_of_ble_eq_true rfl)⟩) (fun E hE => by subst hE; exact ⟨(Nat.le_of_ble_eq_true rfl), (Nat.le_of_ble_eq_true rfl)⟩) dX7_heap_2 (fun w1 hF => ?_)
  refine x_iload_n (pc := 5) C 2 dX7_heap_5 rfl rfl ?_
  refine x_if_ge (pc := 6) C 20 dX7_heap_6 rfl hF (fun c4 hF => ?_) (fun c4 hF => ?_)
  · refine x_aload_n (pc := 20) C 0 dX7_heap_20 rfl rfl ?_
    refine gf_X7_10 (pc := 21) C  dX7_heap_21 ?_
    refine gf_X7_33 (pc := 24) C (by decide) dX7_heap_24 ?_
    refine x_iload_n (pc := 27) C 1 dX7_heap_27 rfl rfl ?_
    refine x_iload_n (pc := 28) C 2 dX7_heap_28 rfl rfl ?_
    refine cV1_2 (pc := 29) (val := Value.int) C hF (fun _ _ h => c_X0_leafOnHeap l G b (by decide) _ _ h) vm_X0_leafOnHeap wq396 rfl rfl ⟨Nat.le_of_ble_eq_true rfl, Nat.le_of_ble_eq_true rfl⟩ rfl rfl (fun _ h => CW.ch h (by decide)) (Nat.le_of_ble_eq_true rfl) ⟨Nat.zero_le _, Nat.zero_le _⟩ dX7_heap_29 (fun x3 w2 hF => ?_)
    obtain ⟨rfl, rfl⟩ := ret_eq hF
    refine xv_ret rfl (Nat.zero_le _) (Nat.zero_le _) ?_
    exact x_iret (pc := 32) C hr rfl (fun _ h => h) dX7_heap_32
  · obtain ⟨rfl, rfl⟩ := ret_eq hF
    exact xv_throw_IllegalArgumentExceptionW (pc := 9) C hl hX hout 14 rfl rfl wq122 wq123 dX7_heap_9 dX7_heap_12 dX7_heap_13 dX7_heap_16 dX7_heap_19 ⟨Nat.le_of_ble_eq_true rfl, Nat.le_of_ble_eq_true rfl, Nat.le_of_ble_eq_true rfl, Nat.le_of_ble_eq_true rfl⟩ (Nat.le_of_ble_eq_true rfl) (Nat.le_of_ble_eq_true rfl) rfl
set_option maxRecDepth 4000 in
theorem c_X7_needHook (l : Launch) (G : xG) (b : Nat) (hl : l.stackTraces = false)     (a1 : Int32) (a2 : Int32) {w w' : xWt} {o : Unit ⊕ String} (hF : F_X7_needHook a1 a2 w = some (o, w')) : xMetX l G b yX7_needHook cX7_needHook 3 none (xRX 7 (mco o) (6 * mco o)) [.ref (b), .int (a1), .int (a2)] (CW G b w) (ov (fun _ => none) o) (CW G b w') (mco o) (6 * mco o) := by
  refine x_ofX (own := RX7) rfl pn_X7 (Nat.le_of_ble_eq_true rfl) ?_
  intro p e s m args below meth c ha C hr hX hout
  unfold F_X7_needHook at hF
  refine x_aload_n (pc := 0) C 0 dX7_needHook_0 rfl rfl ?_
  refine x_iload_n (pc := 1) C 1 dX7_needHook_1 rfl rfl ?_
  refine cXV0_1 (pc := 2) C hX hout hF (fun _ _ h => c_X7_needChild l G b hl  _ h) vm_X7_needChild wq330 ⟨Nat.le_of_ble_eq_true rfl, Nat.le_of_ble_eq_true rfl⟩ rfl rfl (fun _ h => CW.pl h) (Nat.le_of_ble_eq_true rfl) ⟨Nat.zero_le _, Nat.zero_le _⟩ (fun E hE => by subst hE; exact ⟨(Nat.le_of_ble_eq_true rfl), (Nat.le_of_ble_eq_true rfl)⟩) (fun E hE => by subst hE; exact ⟨(Nat.le_of_ble_eq_true rfl), (Nat.le_of_ble_eq_true rfl)⟩) dX7_needHook_2 (fun w1 hF => ?_)
  refine x_iload_n (pc := 5) C 2 dX7_needHook_5 rfl rfl ?_
  refine x_if_lt (pc := 6) C 14 dX7_needHook_6 rfl hF (fun c3 hF => ?_) (fun c3 hF => ?_)
  · obtain ⟨rfl, rfl⟩ := ret_eq hF
    exact xv_throw_IndexOutOfBoundsExceptionW (pc := 14) C hl hX hout 17 rfl rfl wq193 wq194 dX7_needHook_14 dX7_needHook_17 dX7_needHook_18 dX7_needHook_21 dX7_needHook_24 ⟨Nat.le_of_ble_eq_true rfl, Nat.le_of_ble_eq_true rfl, Nat.le_of_ble_eq_true rfl, Nat.le_of_ble_eq_true rfl⟩ (Nat.le_of_ble_eq_true rfl) (Nat.le_of_ble_eq_true rfl) rfl
  · refine x_iload_n (pc := 9) C 2 dX7_needHook_9 rfl rfl ?_
    refine x_iconst (pc := 10) C 3 dX7_needHook_10 ki_3 ?_
    refine x_icmp_lt (pc := 11) C 25 dX7_needHook_11 rfl hF (fun c2 hF => ?_) (fun c2 hF => ?_)
    · obtain ⟨rfl, rfl⟩ := ret_eq hF
      refine xv_ret rfl (Nat.zero_le _) (Nat.zero_le _) ?_
      exact x_vret (pc := 25) C hr (fun _ h => h) dX7_needHook_25
    · obtain ⟨rfl, rfl⟩ := ret_eq hF
      exact xv_throw_IndexOutOfBoundsExceptionW (pc := 14) C hl hX hout 17 rfl rfl wq193 wq194 dX7_needHook_14 dX7_needHook_17 dX7_needHook_18 dX7_needHook_21 dX7_needHook_24 ⟨Nat.le_of_ble_eq_true rfl, Nat.le_of_ble_eq_true rfl, Nat.le_of_ble_eq_true rfl, Nat.le_of_ble_eq_true rfl⟩ (Nat.le_of_ble_eq_true rfl) (Nat.le_of_ble_eq_true rfl) rfl
set_option maxRecDepth 4000 in
theorem c_X7_hook (l : Launch) (G : xG) (b : Nat) (hl : l.stackTraces = false)     (a1 : Int32) (a2 : Int32) (a3 : Int32) {w w' : xWt} {o : Int32 ⊕ String} (hF : F_X7_hook a1 a2 a3 w = some (o, w')) : xMetX l G b yX7_hook cX7_hook 4 (some .int) (xRX 8 (mco o) (6 * mco o)) [.ref (b), .int (a1), .int (a2), .int (a3)] (CW G b w) (ov (fun v => some (.int v)) o) (CW G b w') (mco o) (6 * mco o) := by
  refine x_ofX (own := RX7) rfl pn_X7 (Nat.le_of_ble_eq_true rfl) ?_
  intro p e s m args below meth c ha C hr hX hout
  unfold F_X7_hook at hF
  refine x_aload_n (pc := 0) C 0 dX7_hook_0 rfl rfl ?_
  refine x_iload_n (pc := 1) C 1 dX7_hook_1 rfl rfl ?_
  refine x_iload_n (pc := 2) C 2 dX7_hook_2 rfl rfl ?_
  refine cXV0_2 (pc := 3) C hX hout hF (fun _ _ h => c_X7_needHook l G b hl  _ _ h) vm_X7_needHook wq361 ⟨Nat.le_of_ble_eq_true rfl, Nat.le_of_ble_eq_true rfl⟩ rfl rfl (fun _ h => CW.pl h) (Nat.le_of_ble_eq_true rfl) ⟨Nat.zero_le _, Nat.zero_le _⟩ (fun E hE => by subst hE; exact ⟨(Nat.le_of_ble_eq_true rfl), (Nat.le_of_ble_eq_true rfl)⟩) (fun E hE => by subst hE; exact ⟨(Nat.le_of_ble_eq_true rfl), (Nat.le_of_ble_eq_true rfl)⟩) dX7_hook_3 (fun w1 hF => ?_)
  refine x_iload_n (pc := 6) C 3 dX7_hook_6 rfl rfl ?_
  refine x_iconst (pc := 7) C 2 dX7_hook_7 ki_2 ?_
  refine cXS0_2 (pc := 8) C hX hout hF (fun _ _ h => c_X7_needWhat l G b hl  _ _ h) sm_X7_needWhat wq119 ⟨Nat.le_of_ble_eq_true rfl, Nat.le_of_ble_eq_true rfl⟩ (Nat.le_of_ble_eq_true rfl) ⟨Nat.zero_le _, Nat.zero_le _⟩ (fun E hE => by subst hE; exact ⟨(Nat.le_of_ble_eq_true rfl), (Nat.le_of_ble_eq_true rfl)⟩) (fun E hE => by subst hE; exact ⟨(Nat.le_of_ble_eq_true rfl), (Nat.le_of_ble_eq_true rfl)⟩) dX7_hook_8 (fun w2 hF => ?_)
  refine x_aload_n (pc := 11) C 0 dX7_hook_11 rfl rfl ?_
  refine gf_X7_10 (pc := 12) C  dX7_hook_12 ?_
  refine gf_X7_256 (pc := 15) C (by decide) dX7_hook_15 ?_
  refine x_iload_n (pc := 18) C 1 dX7_hook_18 rfl rfl ?_
  refine x_iload_n (pc := 19) C 2 dX7_hook_19 rfl rfl ?_
  refine x_iload_n (pc := 20) C 3 dX7_hook_20 rfl rfl ?_
  refine cV1_3 (pc := 21) (val := Value.int) C hF (fun _ _ h => c_X1_numberOfHook l G b (by decide) _ _ _ h) vm_X1_numberOfHook wq365 rfl rfl ⟨Nat.le_of_ble_eq_true rfl, Nat.le_of_ble_eq_true rfl⟩ rfl rfl (fun _ h => CW.hk h (by decide)) (Nat.le_of_ble_eq_true rfl) ⟨Nat.zero_le _, Nat.zero_le _⟩ dX7_hook_21 (fun x4 w3 hF => ?_)
  obtain ⟨rfl, rfl⟩ := ret_eq hF
  refine xv_ret rfl (Nat.zero_le _) (Nat.zero_le _) ?_
  exact x_iret (pc := 24) C hr rfl (fun _ h => h) dX7_hook_24
set_option maxRecDepth 4000 in
theorem c_X7_ifLoosened (l : Launch) (G : xG) (b : Nat) (hl : l.stackTraces = false)     (a1 : Int32) (a2 : Int32) {w w' : xWt} {o : Int32 ⊕ String} (hF : F_X7_ifLoosened a1 a2 w = some (o, w')) : xMetX l G b yX7_ifLoosened cX7_ifLoosened 3 (some .int) (xRX 8 (mco o) (6 * mco o)) [.ref (b), .int (a1), .int (a2)] (CW G b w) (ov (fun v => some (.int v)) o) (CW G b w') (mco o) (6 * mco o) := by
  refine x_ofX (own := RX7) rfl pn_X7 (Nat.le_of_ble_eq_true rfl) ?_
  intro p e s m args below meth c ha C hr hX hout
  unfold F_X7_ifLoosened at hF
  refine x_aload_n (pc := 0) C 0 dX7_ifLoosened_0 rfl rfl ?_
  refine x_iload_n (pc := 1) C 1 dX7_ifLoosened_1 rfl rfl ?_
  refine x_iload_n (pc := 2) C 2 dX7_ifLoosened_2 rfl rfl ?_
  refine cXV0_2 (pc := 3) C hX hout hF (fun _ _ h => c_X7_needHook l G b hl  _ _ h) vm_X7_needHook wq361 ⟨Nat.le_of_ble_eq_true rfl, Nat.le_of_ble_eq_true rfl⟩ rfl rfl (fun _ h => CW.pl h) (Nat.le_of_ble_eq_true rfl) ⟨Nat.zero_le _, Nat.zero_le _⟩ (fun E hE => by subst hE; exact ⟨(Nat.le_of_ble_eq_true rfl), (Nat.le_of_ble_eq_true rfl)⟩) (fun E hE => by subst hE; exact ⟨(Nat.le_of_ble_eq_true rfl), (Nat.le_of_ble_eq_true rfl)⟩) dX7_ifLoosened_3 (fun w1 hF => ?_)
  refine x_aload_n (pc := 6) C 0 dX7_ifLoosened_6 rfl rfl ?_
  refine gf_X7_10 (pc := 7) C  dX7_ifLoosened_7 ?_
  refine x_iload_n (pc := 10) C 1 dX7_ifLoosened_10 rfl rfl ?_
  refine x_iload_n (pc := 11) C 2 dX7_ifLoosened_11 rfl rfl ?_
  refine cV1_2 (pc := 12) (val := Value.int) C hF (fun _ _ h => c_X6_freedBy l G b (by decide) _ _ h) vm_X6_freedBy wq386 rfl rfl ⟨Nat.le_of_ble_eq_true rfl, Nat.le_of_ble_eq_true rfl⟩ rfl rfl (fun _ h => CW.yd h (by decide)) (Nat.le_of_ble_eq_true rfl) ⟨Nat.zero_le _, Nat.zero_le _⟩ dX7_ifLoosened_12 (fun x3 w2 hF => ?_)
  obtain ⟨rfl, rfl⟩ := ret_eq hF
  refine xv_ret rfl (Nat.zero_le _) (Nat.zero_le _) ?_
  exact x_iret (pc := 15) C hr rfl (fun _ h => h) dX7_ifLoosened_15
set_option maxRecDepth 4000 in
theorem c_X7_ifRaked (l : Launch) (G : xG) (b : Nat) (hl : l.stackTraces = false)     (a1 : Int32) (a2 : Int32) {w w' : xWt} {o : Int32 ⊕ String} (hF : F_X7_ifRaked a1 a2 w = some (o, w')) : xMetX l G b yX7_ifRaked cX7_ifRaked 3 (some .int) (xRX 7 (mco o) (6 * mco o)) [.ref (b), .int (a1), .int (a2)] (CW G b w) (ov (fun v => some (.int v)) o) (CW G b w') (mco o) (6 * mco o) := by
  refine x_ofX (own := RX7) rfl pn_X7 (Nat.le_of_ble_eq_true rfl) ?_
  intro p e s m args below meth c ha C hr hX hout
  unfold F_X7_ifRaked at hF
  refine x_aload_n (pc := 0) C 0 dX7_ifRaked_0 rfl rfl ?_
  refine x_iload_n (pc := 1) C 1 dX7_ifRaked_1 rfl rfl ?_
  refine cXV0_1 (pc := 2) C hX hout hF (fun _ _ h => c_X7_needChild l G b hl  _ h) vm_X7_needChild wq330 ⟨Nat.le_of_ble_eq_true rfl, Nat.le_of_ble_eq_true rfl⟩ rfl rfl (fun _ h => CW.pl h) (Nat.le_of_ble_eq_true rfl) ⟨Nat.zero_le _, Nat.zero_le _⟩ (fun E hE => by subst hE; exact ⟨(Nat.le_of_ble_eq_true rfl), (Nat.le_of_ble_eq_true rfl)⟩) (fun E hE => by subst hE; exact ⟨(Nat.le_of_ble_eq_true rfl), (Nat.le_of_ble_eq_true rfl)⟩) dX7_ifRaked_2 (fun w1 hF => ?_)
  refine x_iload_n (pc := 5) C 2 dX7_ifRaked_5 rfl rfl ?_
  refine x_if_eq (pc := 6) C 25 dX7_ifRaked_6 rfl hF (fun c7 hF => ?_) (fun c7 hF => ?_)
  · refine x_aload_n (pc := 25) C 0 dX7_ifRaked_25 rfl rfl ?_
    refine gf_X7_10 (pc := 26) C  dX7_ifRaked_26 ?_
    refine x_iload_n (pc := 29) C 1 dX7_ifRaked_29 rfl rfl ?_
    refine x_iload_n (pc := 30) C 2 dX7_ifRaked_30 rfl rfl ?_
    refine x_iconst (pc := 31) C (-1) dX7_ifRaked_31 ki_m1 ?_
    refine cV1_3 (pc := 32) (val := Value.int) C hF (fun _ _ h => c_X6_burnable l G b (by decide) _ _ _ h) vm_X6_burnable wq417 rfl rfl ⟨Nat.le_of_ble_eq_true rfl, Nat.le_of_ble_eq_true rfl⟩ rfl rfl (fun _ h => CW.yd h (by decide)) (Nat.le_of_ble_eq_true rfl) ⟨Nat.zero_le _, Nat.zero_le _⟩ dX7_ifRaked_32 (fun x3 w2 hF => ?_)
    obtain ⟨rfl, rfl⟩ := ret_eq hF
    refine xv_ret rfl (Nat.zero_le _) (Nat.zero_le _) ?_
    exact x_iret (pc := 35) C hr rfl (fun _ h => h) dX7_ifRaked_35
  · refine x_iload_n (pc := 9) C 2 dX7_ifRaked_9 rfl rfl ?_
    refine x_iconst (pc := 10) C 1 dX7_ifRaked_10 ki_1 ?_
    refine x_icmp_eq (pc := 11) C 25 dX7_ifRaked_11 rfl hF (fun c6 hF => ?_) (fun c6 hF => ?_)
    · refine x_aload_n (pc := 25) C 0 dX7_ifRaked_25 rfl rfl ?_
      refine gf_X7_10 (pc := 26) C  dX7_ifRaked_26 ?_
      refine x_iload_n (pc := 29) C 1 dX7_ifRaked_29 rfl rfl ?_
      refine x_iload_n (pc := 30) C 2 dX7_ifRaked_30 rfl rfl ?_
      refine x_iconst (pc := 31) C (-1) dX7_ifRaked_31 ki_m1 ?_
      refine cV1_3 (pc := 32) (val := Value.int) C hF (fun _ _ h => c_X6_burnable l G b (by decide) _ _ _ h) vm_X6_burnable wq417 rfl rfl ⟨Nat.le_of_ble_eq_true rfl, Nat.le_of_ble_eq_true rfl⟩ rfl rfl (fun _ h => CW.yd h (by decide)) (Nat.le_of_ble_eq_true rfl) ⟨Nat.zero_le _, Nat.zero_le _⟩ dX7_ifRaked_32 (fun x5 w4 hF => ?_)
      obtain ⟨rfl, rfl⟩ := ret_eq hF
      refine xv_ret rfl (Nat.zero_le _) (Nat.zero_le _) ?_
      exact x_iret (pc := 35) C hr rfl (fun _ h => h) dX7_ifRaked_35
    · obtain ⟨rfl, rfl⟩ := ret_eq hF
      exact xv_throw_IllegalArgumentExceptionW (pc := 14) C hl hX hout 15 rfl rfl wq122 wq123 dX7_ifRaked_14 dX7_ifRaked_17 dX7_ifRaked_18 dX7_ifRaked_21 dX7_ifRaked_24 ⟨Nat.le_of_ble_eq_true rfl, Nat.le_of_ble_eq_true rfl, Nat.le_of_ble_eq_true rfl, Nat.le_of_ble_eq_true rfl⟩ (Nat.le_of_ble_eq_true rfl) (Nat.le_of_ble_eq_true rfl) rfl
set_option maxRecDepth 4000 in
theorem c_X7_ifRested (l : Launch) (G : xG) (b : Nat) (hl : l.stackTraces = false)     (a1 : Int32) {w w' : xWt} {o : Int32 ⊕ String} (hF : F_X7_ifRested a1 w = some (o, w')) : xMetX l G b yX7_ifRested cX7_ifRested 2 (some .int) (xRX 7 (mco o) (6 * mco o)) [.ref (b), .int (a1)] (CW G b w) (ov (fun v => some (.int v)) o) (CW G b w') (mco o) (6 * mco o) := by
  refine x_ofX (own := RX7) rfl pn_X7 (Nat.le_of_ble_eq_true rfl) ?_
  intro p e s m args below meth c ha C hr hX hout
  unfold F_X7_ifRested at hF
  refine x_aload_n (pc := 0) C 0 dX7_ifRested_0 rfl rfl ?_
  refine x_iload_n (pc := 1) C 1 dX7_ifRested_1 rfl rfl ?_
  refine cXV0_1 (pc := 2) C hX hout hF (fun _ _ h => c_X7_needChild l G b hl  _ h) vm_X7_needChild wq330 ⟨Nat.le_of_ble_eq_true rfl, Nat.le_of_ble_eq_true rfl⟩ rfl rfl (fun _ h => CW.pl h) (Nat.le_of_ble_eq_true rfl) ⟨Nat.zero_le _, Nat.zero_le _⟩ (fun E hE => by subst hE; exact ⟨(Nat.le_of_ble_eq_true rfl), (Nat.le_of_ble_eq_true rfl)⟩) (fun E hE => by subst hE; exact ⟨(Nat.le_of_ble_eq_true rfl), (Nat.le_of_ble_eq_true rfl)⟩) dX7_ifRested_2 (fun w1 hF => ?_)
  refine x_aload_n (pc := 5) C 0 dX7_ifRested_5 rfl rfl ?_
  refine gf_X7_10 (pc := 6) C  dX7_ifRested_6 ?_
  refine x_iload_n (pc := 9) C 1 dX7_ifRested_9 rfl rfl ?_
  refine cV1_1 (pc := 10) (val := Value.int) C hF (fun _ _ h => c_X6_burnableIfRested l G b (by decide) _ h) vm_X6_burnableIfRested wq404 rfl rfl ⟨Nat.le_of_ble_eq_true rfl, Nat.le_of_ble_eq_true rfl⟩ rfl rfl (fun _ h => CW.yd h (by decide)) (Nat.le_of_ble_eq_true rfl) ⟨Nat.zero_le _, Nat.zero_le _⟩ dX7_ifRested_10 (fun x3 w2 hF => ?_)
  obtain ⟨rfl, rfl⟩ := ret_eq hF
  refine xv_ret rfl (Nat.zero_le _) (Nat.zero_le _) ?_
  exact x_iret (pc := 13) C hr rfl (fun _ h => h) dX7_ifRested_13
set_option maxRecDepth 4000 in
theorem c_X7_needLeaf (l : Launch) (G : xG) (b : Nat) (hl : l.stackTraces = false)     (a1 : Int32) {w w' : xWt} {o : Unit ⊕ String} (hF : F_X7_needLeaf a1 w = some (o, w')) : xMetX l G b yX7_needLeaf cX7_needLeaf 2 none (xRX 6 (mco o) (6 * mco o)) [.ref (b), .int (a1)] (CW G b w) (ov (fun _ => none) o) (CW G b w') (mco o) (6 * mco o) := by
  refine x_ofX (own := RX7) rfl pn_X7 (Nat.le_of_ble_eq_true rfl) ?_
  intro p e s m args below meth c ha C hr hX hout
  unfold F_X7_needLeaf at hF
  refine x_iload_n (pc := 0) C 1 dX7_needLeaf_0 rfl rfl ?_
  refine x_if_lt (pc := 1) C 18 dX7_needLeaf_1 rfl hF (fun c2 hF => ?_) (fun c2 hF => ?_)
  · obtain ⟨rfl, rfl⟩ := ret_eq hF
    exact xv_throw_IndexOutOfBoundsExceptionW (pc := 18) C hl hX hout 18 rfl rfl wq193 wq194 dX7_needLeaf_18 dX7_needLeaf_21 dX7_needLeaf_22 dX7_needLeaf_25 dX7_needLeaf_28 ⟨Nat.le_of_ble_eq_true rfl, Nat.le_of_ble_eq_true rfl, Nat.le_of_ble_eq_true rfl, Nat.le_of_ble_eq_true rfl⟩ (Nat.le_of_ble_eq_true rfl) (Nat.le_of_ble_eq_true rfl) rfl
  · refine x_iload_n (pc := 4) C 1 dX7_needLeaf_4 rfl rfl ?_
    refine x_aload_n (pc := 5) C 0 dX7_needLeaf_5 rfl rfl ?_
    refine gf_X7_10 (pc := 6) C  dX7_needLeaf_6 ?_
    refine gf_X7_107 (pc := 9) C (by decide) dX7_needLeaf_9 ?_
    refine gf_X7_314 (pc := 12) C (by decide) dX7_needLeaf_12 ?_
    refine x_icmp_lt (pc := 15) C 29 dX7_needLeaf_15 rfl hF (fun c1 hF => ?_) (fun c1 hF => ?_)
    · obtain ⟨rfl, rfl⟩ := ret_eq hF
      refine xv_ret rfl (Nat.zero_le _) (Nat.zero_le _) ?_
      exact x_vret (pc := 29) C hr (fun _ h => h) dX7_needLeaf_29
    · obtain ⟨rfl, rfl⟩ := ret_eq hF
      exact xv_throw_IndexOutOfBoundsExceptionW (pc := 18) C hl hX hout 18 rfl rfl wq193 wq194 dX7_needLeaf_18 dX7_needLeaf_21 dX7_needLeaf_22 dX7_needLeaf_25 dX7_needLeaf_28 ⟨Nat.le_of_ble_eq_true rfl, Nat.le_of_ble_eq_true rfl, Nat.le_of_ble_eq_true rfl, Nat.le_of_ble_eq_true rfl⟩ (Nat.le_of_ble_eq_true rfl) (Nat.le_of_ble_eq_true rfl) rfl
set_option maxRecDepth 4000 in
theorem c_X7_leaf (l : Launch) (G : xG) (b : Nat) (hl : l.stackTraces = false)     (a1 : Int32) (a2 : Int32) {w w' : xWt} {o : Int32 ⊕ String} (hF : F_X7_leaf a1 a2 w = some (o, w')) : xMetX l G b yX7_leaf cX7_leaf 3 (some .int) (xRX 7 (mco o) (6 * mco o)) [.ref (b), .int (a1), .int (a2)] (CW G b w) (ov (fun v => some (.int v)) o) (CW G b w') (mco o) (6 * mco o) := by
  refine x_ofX (own := RX7) rfl pn_X7 (Nat.le_of_ble_eq_true rfl) ?_
  intro p e s m args below meth c ha C hr hX hout
  unfold F_X7_leaf at hF
  refine x_aload_n (pc := 0) C 0 dX7_leaf_0 rfl rfl ?_
  refine x_iload_n (pc := 1) C 1 dX7_leaf_1 rfl rfl ?_
  refine cXV0_1 (pc := 2) C hX hout hF (fun _ _ h => c_X7_needLeaf l G b hl  _ h) vm_X7_needLeaf wq258 ⟨Nat.le_of_ble_eq_true rfl, Nat.le_of_ble_eq_true rfl⟩ rfl rfl (fun _ h => CW.pl h) (Nat.le_of_ble_eq_true rfl) ⟨Nat.zero_le _, Nat.zero_le _⟩ (fun E hE => by subst hE; exact ⟨(Nat.le_of_ble_eq_true rfl), (Nat.le_of_ble_eq_true rfl)⟩) (fun E hE => by subst hE; exact ⟨(Nat.le_of_ble_eq_true rfl), (Nat.le_of_ble_eq_true rfl)⟩) dX7_leaf_2 (fun w1 hF => ?_)
  refine x_iload_n (pc := 5) C 2 dX7_leaf_5 rfl rfl ?_
  refine x_bipush (pc := 6) C 7 dX7_leaf_6 kb_7 ?_
  refine cXS0_2 (pc := 8) C hX hout hF (fun _ _ h => c_X7_needWhat l G b hl  _ _ h) sm_X7_needWhat wq119 ⟨Nat.le_of_ble_eq_true rfl, Nat.le_of_ble_eq_true rfl⟩ (Nat.le_of_ble_eq_true rfl) ⟨Nat.zero_le _, Nat.zero_le _⟩ (fun E hE => by subst hE; exact ⟨(Nat.le_of_ble_eq_true rfl), (Nat.le_of_ble_eq_true rfl)⟩) (fun E hE => by subst hE; exact ⟨(Nat.le_of_ble_eq_true rfl), (Nat.le_of_ble_eq_true rfl)⟩) dX7_leaf_8 (fun w2 hF => ?_)
  refine x_aload_n (pc := 11) C 0 dX7_leaf_11 rfl rfl ?_
  refine gf_X7_10 (pc := 12) C  dX7_leaf_12 ?_
  refine x_iload_n (pc := 15) C 1 dX7_leaf_15 rfl rfl ?_
  refine x_iload_n (pc := 16) C 2 dX7_leaf_16 rfl rfl ?_
  refine cV1_2 (pc := 17) (val := Value.int) C hF (fun _ _ h => c_X6_numberOfLeaf l G b (by decide) _ _ h) vm_X6_numberOfLeaf wq263 rfl rfl ⟨Nat.le_of_ble_eq_true rfl, Nat.le_of_ble_eq_true rfl⟩ rfl rfl (fun _ h => CW.yd h (by decide)) (Nat.le_of_ble_eq_true rfl) ⟨Nat.zero_le _, Nat.zero_le _⟩ dX7_leaf_17 (fun x4 w3 hF => ?_)
  obtain ⟨rfl, rfl⟩ := ret_eq hF
  refine xv_ret rfl (Nat.zero_le _) (Nat.zero_le _) ?_
  exact x_iret (pc := 20) C hr rfl (fun _ h => h) dX7_leaf_20
set_option maxRecDepth 4000 in
theorem c_X7_leave (l : Launch) (G : xG) (b : Nat) (hl : l.stackTraces = false)     (a1 : Int32) {w w' : xWt} {o : Int32 ⊕ String} (hF : F_X7_leave a1 w = some (o, w')) : xMetX l G b yX7_leave cX7_leave 2 (some .int) (xRX 7 (mco o) (6 * mco o)) [.ref (b), .int (a1)] (CW G b w) (ov (fun v => some (.int v)) o) (CW G b w') (mco o) (6 * mco o) := by
  refine x_ofX (own := RX7) rfl pn_X7 (Nat.le_of_ble_eq_true rfl) ?_
  intro p e s m args below meth c ha C hr hX hout
  unfold F_X7_leave at hF
  refine x_aload_n (pc := 0) C 0 dX7_leave_0 rfl rfl ?_
  refine x_iload_n (pc := 1) C 1 dX7_leave_1 rfl rfl ?_
  refine cXV0_1 (pc := 2) C hX hout hF (fun _ _ h => c_X7_needChild l G b hl  _ h) vm_X7_needChild wq330 ⟨Nat.le_of_ble_eq_true rfl, Nat.le_of_ble_eq_true rfl⟩ rfl rfl (fun _ h => CW.pl h) (Nat.le_of_ble_eq_true rfl) ⟨Nat.zero_le _, Nat.zero_le _⟩ (fun E hE => by subst hE; exact ⟨(Nat.le_of_ble_eq_true rfl), (Nat.le_of_ble_eq_true rfl)⟩) (fun E hE => by subst hE; exact ⟨(Nat.le_of_ble_eq_true rfl), (Nat.le_of_ble_eq_true rfl)⟩) dX7_leave_2 (fun w1 hF => ?_)
  refine x_aload_n (pc := 5) C 0 dX7_leave_5 rfl rfl ?_
  refine gf_X7_10 (pc := 6) C  dX7_leave_6 ?_
  refine gf_X7_33 (pc := 9) C (by decide) dX7_leave_9 ?_
  refine cV1_0 (pc := 12) (val := Value.int) C hF (fun _ _ h => c_X0_number l G b (by decide) h) vm_X0_number wq250 rfl rfl ⟨Nat.le_of_ble_eq_true rfl, Nat.le_of_ble_eq_true rfl⟩ rfl rfl (fun _ h => CW.ch h (by decide)) (Nat.le_of_ble_eq_true rfl) ⟨Nat.zero_le _, Nat.zero_le _⟩ dX7_leave_12 (fun x3 w2 hF => ?_)
  refine x_iconst (pc := 15) C 1 dX7_leave_15 ki_1 ?_
  refine x_icmp_gt (pc := 16) C 29 dX7_leave_16 rfl hF (fun c7 hF => ?_) (fun c7 hF => ?_)
  · refine x_aload_n (pc := 29) C 0 dX7_leave_29 rfl rfl ?_
    refine gf_X7_22 (pc := 30) C  dX7_leave_30 ?_
    refine x_aload_n (pc := 33) C 0 dX7_leave_33 rfl rfl ?_
    refine gf_X7_10 (pc := 34) C  dX7_leave_34 ?_
    refine cV0_1 (pc := 37) C hF (fun _ _ h => c_X5_push l G b (by decide) h) vm_X5_push wq504 rfl rfl ⟨Nat.le_of_ble_eq_true rfl, Nat.le_of_ble_eq_true rfl⟩ rfl rfl (fun _ h => CW.sv h) (Nat.le_of_ble_eq_true rfl) ⟨Nat.zero_le _, Nat.zero_le _⟩ dX7_leave_37 (fun _ w4 hF => ?_)
    refine x_aload_n (pc := 40) C 0 dX7_leave_40 rfl rfl ?_
    refine gf_X7_10 (pc := 41) C  dX7_leave_41 ?_
    refine x_iload_n (pc := 44) C 1 dX7_leave_44 rfl rfl ?_
    refine cV1_1 (pc := 45) (val := Value.int) C hF (fun _ _ h => c_X6_removeChild l G b (by decide) _ h) vm_X6_removeChild wq596 rfl rfl ⟨Nat.le_of_ble_eq_true rfl, Nat.le_of_ble_eq_true rfl⟩ rfl rfl (fun _ h => CW.yd h (by decide)) (Nat.le_of_ble_eq_true rfl) ⟨Nat.zero_le _, Nat.zero_le _⟩ dX7_leave_45 (fun x6 w5 hF => ?_)
    obtain ⟨rfl, rfl⟩ := ret_eq hF
    refine xv_ret rfl (Nat.zero_le _) (Nat.zero_le _) ?_
    exact x_iret (pc := 48) C hr rfl (fun _ h => h) dX7_leave_48
  · obtain ⟨rfl, rfl⟩ := ret_eq hF
    exact xv_throw_IllegalStateException (pc := 19) C hl hX hout 1 rfl rfl wq440 wq441 dX7_leave_19 dX7_leave_22 dX7_leave_23 dX7_leave_25 dX7_leave_28 ⟨Nat.le_of_ble_eq_true rfl, Nat.le_of_ble_eq_true rfl, Nat.le_of_ble_eq_true rfl, Nat.le_of_ble_eq_true rfl⟩ (Nat.le_of_ble_eq_true rfl) (Nat.le_of_ble_eq_true rfl) rfl
set_option maxRecDepth 4000 in
theorem c_X7_look (l : Launch) (G : xG) (b : Nat) (hl : l.stackTraces = false)     (a1 : Int32) (a2 : Int32) {w w' : xWt} {o : Int32 ⊕ String} (hF : F_X7_look a1 a2 w = some (o, w')) : xMetX l G b yX7_look cX7_look 3 (some .int) (xRX 8 (mco o) (6 * mco o)) [.ref (b), .int (a1), .int (a2)] (CW G b w) (ov (fun v => some (.int v)) o) (CW G b w') (mco o) (6 * mco o) := by
  refine x_ofX (own := RX7) rfl pn_X7 (Nat.le_of_ble_eq_true rfl) ?_
  intro p e s m args below meth c ha C hr hX hout
  unfold F_X7_look at hF
  refine x_aload_n (pc := 0) C 0 dX7_look_0 rfl rfl ?_
  refine x_iload_n (pc := 1) C 1 dX7_look_1 rfl rfl ?_
  refine x_iload_n (pc := 2) C 2 dX7_look_2 rfl rfl ?_
  refine cXV0_2 (pc := 3) C hX hout hF (fun _ _ h => c_X7_needHook l G b hl  _ _ h) vm_X7_needHook wq361 ⟨Nat.le_of_ble_eq_true rfl, Nat.le_of_ble_eq_true rfl⟩ rfl rfl (fun _ h => CW.pl h) (Nat.le_of_ble_eq_true rfl) ⟨Nat.zero_le _, Nat.zero_le _⟩ (fun E hE => by subst hE; exact ⟨(Nat.le_of_ble_eq_true rfl), (Nat.le_of_ble_eq_true rfl)⟩) (fun E hE => by subst hE; exact ⟨(Nat.le_of_ble_eq_true rfl), (Nat.le_of_ble_eq_true rfl)⟩) dX7_look_3 (fun w1 hF => ?_)
  refine x_aload_n (pc := 6) C 0 dX7_look_6 rfl rfl ?_
  refine gf_X7_10 (pc := 7) C  dX7_look_7 ?_
  refine x_iload_n (pc := 10) C 1 dX7_look_10 rfl rfl ?_
  refine x_iload_n (pc := 11) C 2 dX7_look_11 rfl rfl ?_
  refine cV1_2 (pc := 12) (val := Value.int) C hF (fun _ _ h => c_X6_mayRelease l G b (by decide) _ _ h) vm_X6_mayRelease wq672 rfl rfl ⟨Nat.le_of_ble_eq_true rfl, Nat.le_of_ble_eq_true rfl⟩ rfl rfl (fun _ h => CW.yd h (by decide)) (Nat.le_of_ble_eq_true rfl) ⟨Nat.zero_le _, Nat.zero_le _⟩ dX7_look_12 (fun x3 w2 hF => ?_)
  refine x_if_ne (pc := 15) C 28 dX7_look_15 rfl hF (fun c7 hF => ?_) (fun c7 hF => ?_)
  · refine x_aload_n (pc := 28) C 0 dX7_look_28 rfl rfl ?_
    refine gf_X7_22 (pc := 29) C  dX7_look_29 ?_
    refine x_aload_n (pc := 32) C 0 dX7_look_32 rfl rfl ?_
    refine gf_X7_10 (pc := 33) C  dX7_look_33 ?_
    refine cV0_1 (pc := 36) C hF (fun _ _ h => c_X5_push l G b (by decide) h) vm_X5_push wq504 rfl rfl ⟨Nat.le_of_ble_eq_true rfl, Nat.le_of_ble_eq_true rfl⟩ rfl rfl (fun _ h => CW.sv h) (Nat.le_of_ble_eq_true rfl) ⟨Nat.zero_le _, Nat.zero_le _⟩ dX7_look_36 (fun _ w4 hF => ?_)
    refine x_aload_n (pc := 39) C 0 dX7_look_39 rfl rfl ?_
    refine gf_X7_10 (pc := 40) C  dX7_look_40 ?_
    refine x_iload_n (pc := 43) C 1 dX7_look_43 rfl rfl ?_
    refine x_iload_n (pc := 44) C 2 dX7_look_44 rfl rfl ?_
    refine cV1_2 (pc := 45) (val := Value.int) C hF (fun _ _ h => c_X6_lookThrough l G b (by decide) _ _ h) vm_X6_lookThrough wq687 rfl rfl ⟨Nat.le_of_ble_eq_true rfl, Nat.le_of_ble_eq_true rfl⟩ rfl rfl (fun _ h => CW.yd h (by decide)) (Nat.le_of_ble_eq_true rfl) ⟨Nat.zero_le _, Nat.zero_le _⟩ dX7_look_45 (fun x6 w5 hF => ?_)
    obtain ⟨rfl, rfl⟩ := ret_eq hF
    refine xv_ret rfl (Nat.zero_le _) (Nat.zero_le _) ?_
    exact x_iret (pc := 48) C hr rfl (fun _ h => h) dX7_look_48
  · obtain ⟨rfl, rfl⟩ := ret_eq hF
    exact xv_throw_IllegalStateException (pc := 18) C hl hX hout 8 rfl rfl wq440 wq441 dX7_look_18 dX7_look_21 dX7_look_22 dX7_look_24 dX7_look_27 ⟨Nat.le_of_ble_eq_true rfl, Nat.le_of_ble_eq_true rfl, Nat.le_of_ble_eq_true rfl, Nat.le_of_ble_eq_true rfl⟩ (Nat.le_of_ble_eq_true rfl) (Nat.le_of_ble_eq_true rfl) rfl
set_option maxRecDepth 4000 in
theorem c_X7_loosen (l : Launch) (G : xG) (b : Nat) (hl : l.stackTraces = false)     (a1 : Int32) (a2 : Int32) {w w' : xWt} {o : Int32 ⊕ String} (hF : F_X7_loosen a1 a2 w = some (o, w')) : xMetX l G b yX7_loosen cX7_loosen 3 (some .int) (xRX 8 (mco o) (6 * mco o)) [.ref (b), .int (a1), .int (a2)] (CW G b w) (ov (fun v => some (.int v)) o) (CW G b w') (mco o) (6 * mco o) := by
  refine x_ofX (own := RX7) rfl pn_X7 (Nat.le_of_ble_eq_true rfl) ?_
  intro p e s m args below meth c ha C hr hX hout
  unfold F_X7_loosen at hF
  refine x_aload_n (pc := 0) C 0 dX7_loosen_0 rfl rfl ?_
  refine x_iload_n (pc := 1) C 1 dX7_loosen_1 rfl rfl ?_
  refine x_iload_n (pc := 2) C 2 dX7_loosen_2 rfl rfl ?_
  refine cXV0_2 (pc := 3) C hX hout hF (fun _ _ h => c_X7_needHook l G b hl  _ _ h) vm_X7_needHook wq361 ⟨Nat.le_of_ble_eq_true rfl, Nat.le_of_ble_eq_true rfl⟩ rfl rfl (fun _ h => CW.pl h) (Nat.le_of_ble_eq_true rfl) ⟨Nat.zero_le _, Nat.zero_le _⟩ (fun E hE => by subst hE; exact ⟨(Nat.le_of_ble_eq_true rfl), (Nat.le_of_ble_eq_true rfl)⟩) (fun E hE => by subst hE; exact ⟨(Nat.le_of_ble_eq_true rfl), (Nat.le_of_ble_eq_true rfl)⟩) dX7_loosen_3 (fun w1 hF => ?_)
  refine x_aload_n (pc := 6) C 0 dX7_loosen_6 rfl rfl ?_
  refine gf_X7_10 (pc := 7) C  dX7_loosen_7 ?_
  refine x_iload_n (pc := 10) C 1 dX7_loosen_10 rfl rfl ?_
  refine x_iload_n (pc := 11) C 2 dX7_loosen_11 rfl rfl ?_
  refine cV1_2 (pc := 12) (val := Value.int) C hF (fun _ _ h => c_X6_mayRelease l G b (by decide) _ _ h) vm_X6_mayRelease wq672 rfl rfl ⟨Nat.le_of_ble_eq_true rfl, Nat.le_of_ble_eq_true rfl⟩ rfl rfl (fun _ h => CW.yd h (by decide)) (Nat.le_of_ble_eq_true rfl) ⟨Nat.zero_le _, Nat.zero_le _⟩ dX7_loosen_12 (fun x3 w2 hF => ?_)
  refine x_if_ne (pc := 15) C 28 dX7_loosen_15 rfl hF (fun c7 hF => ?_) (fun c7 hF => ?_)
  · refine x_aload_n (pc := 28) C 0 dX7_loosen_28 rfl rfl ?_
    refine gf_X7_22 (pc := 29) C  dX7_loosen_29 ?_
    refine x_aload_n (pc := 32) C 0 dX7_loosen_32 rfl rfl ?_
    refine gf_X7_10 (pc := 33) C  dX7_loosen_33 ?_
    refine cV0_1 (pc := 36) C hF (fun _ _ h => c_X5_push l G b (by decide) h) vm_X5_push wq504 rfl rfl ⟨Nat.le_of_ble_eq_true rfl, Nat.le_of_ble_eq_true rfl⟩ rfl rfl (fun _ h => CW.sv h) (Nat.le_of_ble_eq_true rfl) ⟨Nat.zero_le _, Nat.zero_le _⟩ dX7_loosen_36 (fun _ w4 hF => ?_)
    refine x_aload_n (pc := 39) C 0 dX7_loosen_39 rfl rfl ?_
    refine gf_X7_10 (pc := 40) C  dX7_loosen_40 ?_
    refine x_iload_n (pc := 43) C 1 dX7_loosen_43 rfl rfl ?_
    refine x_iload_n (pc := 44) C 2 dX7_loosen_44 rfl rfl ?_
    refine cV1_2 (pc := 45) (val := Value.int) C hF (fun _ _ h => c_X6_release l G b (by decide) _ _ h) vm_X6_release wq676 rfl rfl ⟨Nat.le_of_ble_eq_true rfl, Nat.le_of_ble_eq_true rfl⟩ rfl rfl (fun _ h => CW.yd h (by decide)) (Nat.le_of_ble_eq_true rfl) ⟨Nat.zero_le _, Nat.zero_le _⟩ dX7_loosen_45 (fun x6 w5 hF => ?_)
    obtain ⟨rfl, rfl⟩ := ret_eq hF
    refine xv_ret rfl (Nat.zero_le _) (Nat.zero_le _) ?_
    exact x_iret (pc := 48) C hr rfl (fun _ h => h) dX7_loosen_48
  · obtain ⟨rfl, rfl⟩ := ret_eq hF
    exact xv_throw_IllegalStateException (pc := 18) C hl hX hout 8 rfl rfl wq440 wq441 dX7_loosen_18 dX7_loosen_21 dX7_loosen_22 dX7_loosen_24 dX7_loosen_27 ⟨Nat.le_of_ble_eq_true rfl, Nat.le_of_ble_eq_true rfl, Nat.le_of_ble_eq_true rfl, Nat.le_of_ble_eq_true rfl⟩ (Nat.le_of_ble_eq_true rfl) (Nat.le_of_ble_eq_true rfl) rfl
set_option maxRecDepth 4000 in
theorem c_X7_needSetting (l : Launch) (G : xG) (b : Nat) (hl : l.stackTraces = false)     (a1 : Int32) {w w' : xWt} {o : Unit ⊕ String} (hF : F_X7_needSetting a1 w = some (o, w')) : xMetX l G b yX7_needSetting cX7_needSetting 1 none (xRX 6 (mco o) (6 * mco o)) [.int (a1)] (CW G b w) (ov (fun _ => none) o) (CW G b w') (mco o) (6 * mco o) := by
  refine x_ofX (own := RX7) rfl pn_X7 (Nat.le_of_ble_eq_true rfl) ?_
  intro p e s m args below meth c ha C hr hX hout
  unfold F_X7_needSetting at hF
  refine x_iload_n (pc := 0) C 0 dX7_needSetting_0 rfl rfl ?_
  refine x_if_lt (pc := 1) C 9 dX7_needSetting_1 rfl hF (fun c2 hF => ?_) (fun c2 hF => ?_)
  · obtain ⟨rfl, rfl⟩ := ret_eq hF
    exact xv_throw_IndexOutOfBoundsExceptionW (pc := 9) C hl hX hout 20 rfl rfl wq193 wq194 dX7_needSetting_9 dX7_needSetting_12 dX7_needSetting_13 dX7_needSetting_16 dX7_needSetting_19 ⟨Nat.le_of_ble_eq_true rfl, Nat.le_of_ble_eq_true rfl, Nat.le_of_ble_eq_true rfl, Nat.le_of_ble_eq_true rfl⟩ (Nat.le_of_ble_eq_true rfl) (Nat.le_of_ble_eq_true rfl) rfl
  · refine x_iload_n (pc := 4) C 0 dX7_needSetting_4 rfl rfl ?_
    refine x_iconst (pc := 5) C 2 dX7_needSetting_5 ki_2 ?_
    refine x_icmp_lt (pc := 6) C 20 dX7_needSetting_6 rfl hF (fun c1 hF => ?_) (fun c1 hF => ?_)
    · obtain ⟨rfl, rfl⟩ := ret_eq hF
      refine xv_ret rfl (Nat.zero_le _) (Nat.zero_le _) ?_
      exact x_vret (pc := 20) C hr (fun _ h => h) dX7_needSetting_20
    · obtain ⟨rfl, rfl⟩ := ret_eq hF
      exact xv_throw_IndexOutOfBoundsExceptionW (pc := 9) C hl hX hout 20 rfl rfl wq193 wq194 dX7_needSetting_9 dX7_needSetting_12 dX7_needSetting_13 dX7_needSetting_16 dX7_needSetting_19 ⟨Nat.le_of_ble_eq_true rfl, Nat.le_of_ble_eq_true rfl, Nat.le_of_ble_eq_true rfl, Nat.le_of_ble_eq_true rfl⟩ (Nat.le_of_ble_eq_true rfl) (Nat.le_of_ble_eq_true rfl) rfl
set_option maxRecDepth 4000 in
theorem c_X7_note (l : Launch) (G : xG) (b : Nat) (hl : l.stackTraces = false)     (a1 : Int32) (a2 : Int32) (a3 : Int32) {w w' : xWt} {o : Int32 ⊕ String} (hF : F_X7_note a1 a2 a3 w = some (o, w')) : xMetX l G b yX7_note cX7_note 4 (some .int) (xRX 8 (mco o) (6 * mco o)) [.ref (b), .int (a1), .int (a2), .int (a3)] (CW G b w) (ov (fun v => some (.int v)) o) (CW G b w') (mco o) (6 * mco o) := by
  refine x_ofX (own := RX7) rfl pn_X7 (Nat.le_of_ble_eq_true rfl) ?_
  intro p e s m args below meth c ha C hr hX hout
  unfold F_X7_note at hF
  refine x_aload_n (pc := 0) C 0 dX7_note_0 rfl rfl ?_
  refine x_iload_n (pc := 1) C 1 dX7_note_1 rfl rfl ?_
  refine x_iload_n (pc := 2) C 2 dX7_note_2 rfl rfl ?_
  refine cXV0_2 (pc := 3) C hX hout hF (fun _ _ h => c_X7_needHook l G b hl  _ _ h) vm_X7_needHook wq361 ⟨Nat.le_of_ble_eq_true rfl, Nat.le_of_ble_eq_true rfl⟩ rfl rfl (fun _ h => CW.pl h) (Nat.le_of_ble_eq_true rfl) ⟨Nat.zero_le _, Nat.zero_le _⟩ (fun E hE => by subst hE; exact ⟨(Nat.le_of_ble_eq_true rfl), (Nat.le_of_ble_eq_true rfl)⟩) (fun E hE => by subst hE; exact ⟨(Nat.le_of_ble_eq_true rfl), (Nat.le_of_ble_eq_true rfl)⟩) dX7_note_3 (fun w1 hF => ?_)
  refine x_iload_n (pc := 6) C 3 dX7_note_6 rfl rfl ?_
  refine cXS0_1 (pc := 7) C hX hout hF (fun _ _ h => c_X7_needBranch l G b hl  _ h) sm_X7_needBranch wq314 ⟨Nat.le_of_ble_eq_true rfl, Nat.le_of_ble_eq_true rfl⟩ (Nat.le_of_ble_eq_true rfl) ⟨Nat.zero_le _, Nat.zero_le _⟩ (fun E hE => by subst hE; exact ⟨(Nat.le_of_ble_eq_true rfl), (Nat.le_of_ble_eq_true rfl)⟩) (fun E hE => by subst hE; exact ⟨(Nat.le_of_ble_eq_true rfl), (Nat.le_of_ble_eq_true rfl)⟩) dX7_note_7 (fun w2 hF => ?_)
  refine x_aload_n (pc := 10) C 0 dX7_note_10 rfl rfl ?_
  refine gf_X7_10 (pc := 11) C  dX7_note_11 ?_
  refine x_iload_n (pc := 14) C 1 dX7_note_14 rfl rfl ?_
  refine x_iload_n (pc := 15) C 2 dX7_note_15 rfl rfl ?_
  refine x_iload_n (pc := 16) C 3 dX7_note_16 rfl rfl ?_
  refine cV1_3 (pc := 17) (val := Value.int) C hF (fun _ _ h => c_X6_mayWrite l G b (by decide) _ _ _ h) vm_X6_mayWrite wq631 rfl rfl ⟨Nat.le_of_ble_eq_true rfl, Nat.le_of_ble_eq_true rfl⟩ rfl rfl (fun _ h => CW.yd h (by decide)) (Nat.le_of_ble_eq_true rfl) ⟨Nat.zero_le _, Nat.zero_le _⟩ dX7_note_17 (fun x4 w3 hF => ?_)
  refine x_if_ne (pc := 20) C 33 dX7_note_20 rfl hF (fun c8 hF => ?_) (fun c8 hF => ?_)
  · refine x_aload_n (pc := 33) C 0 dX7_note_33 rfl rfl ?_
    refine gf_X7_22 (pc := 34) C  dX7_note_34 ?_
    refine x_aload_n (pc := 37) C 0 dX7_note_37 rfl rfl ?_
    refine gf_X7_10 (pc := 38) C  dX7_note_38 ?_
    refine cV0_1 (pc := 41) C hF (fun _ _ h => c_X5_push l G b (by decide) h) vm_X5_push wq504 rfl rfl ⟨Nat.le_of_ble_eq_true rfl, Nat.le_of_ble_eq_true rfl⟩ rfl rfl (fun _ h => CW.sv h) (Nat.le_of_ble_eq_true rfl) ⟨Nat.zero_le _, Nat.zero_le _⟩ dX7_note_41 (fun _ w5 hF => ?_)
    refine x_aload_n (pc := 44) C 0 dX7_note_44 rfl rfl ?_
    refine gf_X7_10 (pc := 45) C  dX7_note_45 ?_
    refine x_iload_n (pc := 48) C 1 dX7_note_48 rfl rfl ?_
    refine x_iload_n (pc := 49) C 2 dX7_note_49 rfl rfl ?_
    refine x_iload_n (pc := 50) C 3 dX7_note_50 rfl rfl ?_
    refine cV1_3 (pc := 51) (val := Value.int) C hF (fun _ _ h => c_X6_write l G b (by decide) _ _ _ h) vm_X6_write wq636 rfl rfl ⟨Nat.le_of_ble_eq_true rfl, Nat.le_of_ble_eq_true rfl⟩ rfl rfl (fun _ h => CW.yd h (by decide)) (Nat.le_of_ble_eq_true rfl) ⟨Nat.zero_le _, Nat.zero_le _⟩ dX7_note_51 (fun x7 w6 hF => ?_)
    obtain ⟨rfl, rfl⟩ := ret_eq hF
    refine xv_ret rfl (Nat.zero_le _) (Nat.zero_le _) ?_
    exact x_iret (pc := 54) C hr rfl (fun _ h => h) dX7_note_54
  · obtain ⟨rfl, rfl⟩ := ret_eq hF
    exact xv_throw_IllegalStateException (pc := 23) C hl hX hout 6 rfl rfl wq440 wq441 dX7_note_23 dX7_note_26 dX7_note_27 dX7_note_29 dX7_note_32 ⟨Nat.le_of_ble_eq_true rfl, Nat.le_of_ble_eq_true rfl, Nat.le_of_ble_eq_true rfl, Nat.le_of_ble_eq_true rfl⟩ (Nat.le_of_ble_eq_true rfl) (Nat.le_of_ble_eq_true rfl) rfl
set_option maxRecDepth 4000 in
theorem c_X7_pin (l : Launch) (G : xG) (b : Nat) (hl : l.stackTraces = false)     (a1 : Int32) (a2 : Int32) {w w' : xWt} {o : Int32 ⊕ String} (hF : F_X7_pin a1 a2 w = some (o, w')) : xMetX l G b yX7_pin cX7_pin 3 (some .int) (xRX 8 (mco o) (6 * mco o)) [.ref (b), .int (a1), .int (a2)] (CW G b w) (ov (fun v => some (.int v)) o) (CW G b w') (mco o) (6 * mco o) := by
  refine x_ofX (own := RX7) rfl pn_X7 (Nat.le_of_ble_eq_true rfl) ?_
  intro p e s m args below meth c ha C hr hX hout
  unfold F_X7_pin at hF
  refine x_aload_n (pc := 0) C 0 dX7_pin_0 rfl rfl ?_
  refine x_iload_n (pc := 1) C 1 dX7_pin_1 rfl rfl ?_
  refine x_iload_n (pc := 2) C 2 dX7_pin_2 rfl rfl ?_
  refine cXV0_2 (pc := 3) C hX hout hF (fun _ _ h => c_X7_needHook l G b hl  _ _ h) vm_X7_needHook wq361 ⟨Nat.le_of_ble_eq_true rfl, Nat.le_of_ble_eq_true rfl⟩ rfl rfl (fun _ h => CW.pl h) (Nat.le_of_ble_eq_true rfl) ⟨Nat.zero_le _, Nat.zero_le _⟩ (fun E hE => by subst hE; exact ⟨(Nat.le_of_ble_eq_true rfl), (Nat.le_of_ble_eq_true rfl)⟩) (fun E hE => by subst hE; exact ⟨(Nat.le_of_ble_eq_true rfl), (Nat.le_of_ble_eq_true rfl)⟩) dX7_pin_3 (fun w1 hF => ?_)
  refine x_aload_n (pc := 6) C 0 dX7_pin_6 rfl rfl ?_
  refine gf_X7_10 (pc := 7) C  dX7_pin_7 ?_
  refine x_iload_n (pc := 10) C 1 dX7_pin_10 rfl rfl ?_
  refine x_iload_n (pc := 11) C 2 dX7_pin_11 rfl rfl ?_
  refine cV1_2 (pc := 12) (val := Value.int) C hF (fun _ _ h => c_X6_mayFasten l G b (by decide) _ _ h) vm_X6_mayFasten wq651 rfl rfl ⟨Nat.le_of_ble_eq_true rfl, Nat.le_of_ble_eq_true rfl⟩ rfl rfl (fun _ h => CW.yd h (by decide)) (Nat.le_of_ble_eq_true rfl) ⟨Nat.zero_le _, Nat.zero_le _⟩ dX7_pin_12 (fun x3 w2 hF => ?_)
  refine x_if_ne (pc := 15) C 28 dX7_pin_15 rfl hF (fun c7 hF => ?_) (fun c7 hF => ?_)
  · refine x_aload_n (pc := 28) C 0 dX7_pin_28 rfl rfl ?_
    refine gf_X7_22 (pc := 29) C  dX7_pin_29 ?_
    refine x_aload_n (pc := 32) C 0 dX7_pin_32 rfl rfl ?_
    refine gf_X7_10 (pc := 33) C  dX7_pin_33 ?_
    refine cV0_1 (pc := 36) C hF (fun _ _ h => c_X5_push l G b (by decide) h) vm_X5_push wq504 rfl rfl ⟨Nat.le_of_ble_eq_true rfl, Nat.le_of_ble_eq_true rfl⟩ rfl rfl (fun _ h => CW.sv h) (Nat.le_of_ble_eq_true rfl) ⟨Nat.zero_le _, Nat.zero_le _⟩ dX7_pin_36 (fun _ w4 hF => ?_)
    refine x_aload_n (pc := 39) C 0 dX7_pin_39 rfl rfl ?_
    refine gf_X7_10 (pc := 40) C  dX7_pin_40 ?_
    refine x_iload_n (pc := 43) C 1 dX7_pin_43 rfl rfl ?_
    refine x_iload_n (pc := 44) C 2 dX7_pin_44 rfl rfl ?_
    refine cV1_2 (pc := 45) (val := Value.int) C hF (fun _ _ h => c_X6_fasten l G b (by decide) _ _ h) vm_X6_fasten wq655 rfl rfl ⟨Nat.le_of_ble_eq_true rfl, Nat.le_of_ble_eq_true rfl⟩ rfl rfl (fun _ h => CW.yd h (by decide)) (Nat.le_of_ble_eq_true rfl) ⟨Nat.zero_le _, Nat.zero_le _⟩ dX7_pin_45 (fun x6 w5 hF => ?_)
    obtain ⟨rfl, rfl⟩ := ret_eq hF
    refine xv_ret rfl (Nat.zero_le _) (Nat.zero_le _) ?_
    exact x_iret (pc := 48) C hr rfl (fun _ h => h) dX7_pin_48
  · obtain ⟨rfl, rfl⟩ := ret_eq hF
    exact xv_throw_IllegalStateException (pc := 18) C hl hX hout 7 rfl rfl wq440 wq441 dX7_pin_18 dX7_pin_21 dX7_pin_22 dX7_pin_24 dX7_pin_27 ⟨Nat.le_of_ble_eq_true rfl, Nat.le_of_ble_eq_true rfl, Nat.le_of_ble_eq_true rfl, Nat.le_of_ble_eq_true rfl⟩ (Nat.le_of_ble_eq_true rfl) (Nat.le_of_ble_eq_true rfl) rfl
set_option maxRecDepth 4000 in
theorem c_X7_rake (l : Launch) (G : xG) (b : Nat) (hl : l.stackTraces = false)     (a1 : Int32) {w w' : xWt} {o : Int32 ⊕ String} (hF : F_X7_rake a1 w = some (o, w')) : xMetX l G b yX7_rake cX7_rake 2 (some .int) (xRX 7 (mco o) (6 * mco o)) [.ref (b), .int (a1)] (CW G b w) (ov (fun v => some (.int v)) o) (CW G b w') (mco o) (6 * mco o) := by
  refine x_ofX (own := RX7) rfl pn_X7 (Nat.le_of_ble_eq_true rfl) ?_
  intro p e s m args below meth c ha C hr hX hout
  unfold F_X7_rake at hF
  refine x_aload_n (pc := 0) C 0 dX7_rake_0 rfl rfl ?_
  refine x_iload_n (pc := 1) C 1 dX7_rake_1 rfl rfl ?_
  refine cXV0_1 (pc := 2) C hX hout hF (fun _ _ h => c_X7_needChild l G b hl  _ h) vm_X7_needChild wq330 ⟨Nat.le_of_ble_eq_true rfl, Nat.le_of_ble_eq_true rfl⟩ rfl rfl (fun _ h => CW.pl h) (Nat.le_of_ble_eq_true rfl) ⟨Nat.zero_le _, Nat.zero_le _⟩ (fun E hE => by subst hE; exact ⟨(Nat.le_of_ble_eq_true rfl), (Nat.le_of_ble_eq_true rfl)⟩) (fun E hE => by subst hE; exact ⟨(Nat.le_of_ble_eq_true rfl), (Nat.le_of_ble_eq_true rfl)⟩) dX7_rake_2 (fun w1 hF => ?_)
  refine x_aload_n (pc := 5) C 0 dX7_rake_5 rfl rfl ?_
  refine gf_X7_10 (pc := 6) C  dX7_rake_6 ?_
  refine x_iload_n (pc := 9) C 1 dX7_rake_9 rfl rfl ?_
  refine cV1_1 (pc := 10) (val := Value.int) C hF (fun _ _ h => c_X6_mayClear l G b (by decide) _ h) vm_X6_mayClear wq780 rfl rfl ⟨Nat.le_of_ble_eq_true rfl, Nat.le_of_ble_eq_true rfl⟩ rfl rfl (fun _ h => CW.yd h (by decide)) (Nat.le_of_ble_eq_true rfl) ⟨Nat.zero_le _, Nat.zero_le _⟩ dX7_rake_10 (fun x3 w2 hF => ?_)
  refine x_if_ne (pc := 13) C 26 dX7_rake_13 rfl hF (fun c7 hF => ?_) (fun c7 hF => ?_)
  · refine x_aload_n (pc := 26) C 0 dX7_rake_26 rfl rfl ?_
    refine gf_X7_22 (pc := 27) C  dX7_rake_27 ?_
    refine x_aload_n (pc := 30) C 0 dX7_rake_30 rfl rfl ?_
    refine gf_X7_10 (pc := 31) C  dX7_rake_31 ?_
    refine cV0_1 (pc := 34) C hF (fun _ _ h => c_X5_push l G b (by decide) h) vm_X5_push wq504 rfl rfl ⟨Nat.le_of_ble_eq_true rfl, Nat.le_of_ble_eq_true rfl⟩ rfl rfl (fun _ h => CW.sv h) (Nat.le_of_ble_eq_true rfl) ⟨Nat.zero_le _, Nat.zero_le _⟩ dX7_rake_34 (fun _ w4 hF => ?_)
    refine x_aload_n (pc := 37) C 0 dX7_rake_37 rfl rfl ?_
    refine gf_X7_10 (pc := 38) C  dX7_rake_38 ?_
    refine x_iload_n (pc := 41) C 1 dX7_rake_41 rfl rfl ?_
    refine cV1_1 (pc := 42) (val := Value.int) C hF (fun _ _ h => c_X6_clear l G b (by decide) _ h) vm_X6_clear wq784 rfl rfl ⟨Nat.le_of_ble_eq_true rfl, Nat.le_of_ble_eq_true rfl⟩ rfl rfl (fun _ h => CW.yd h (by decide)) (Nat.le_of_ble_eq_true rfl) ⟨Nat.zero_le _, Nat.zero_le _⟩ dX7_rake_42 (fun x6 w5 hF => ?_)
    obtain ⟨rfl, rfl⟩ := ret_eq hF
    refine xv_ret rfl (Nat.zero_le _) (Nat.zero_le _) ?_
    exact x_iret (pc := 45) C hr rfl (fun _ h => h) dX7_rake_45
  · obtain ⟨rfl, rfl⟩ := ret_eq hF
    exact xv_throw_IllegalStateException (pc := 16) C hl hX hout 11 rfl rfl wq440 wq441 dX7_rake_16 dX7_rake_19 dX7_rake_20 dX7_rake_22 dX7_rake_25 ⟨Nat.le_of_ble_eq_true rfl, Nat.le_of_ble_eq_true rfl, Nat.le_of_ble_eq_true rfl, Nat.le_of_ble_eq_true rfl⟩ (Nat.le_of_ble_eq_true rfl) (Nat.le_of_ble_eq_true rfl) rfl
set_option maxRecDepth 4000 in
theorem c_X7_rest (l : Launch) (G : xG) (b : Nat) (hl : l.stackTraces = false)     (a1 : Int32) {w w' : xWt} {o : Int32 ⊕ String} (hF : F_X7_rest a1 w = some (o, w')) : xMetX l G b yX7_rest cX7_rest 2 (some .int) (xRX 7 (mco o) (6 * mco o)) [.ref (b), .int (a1)] (CW G b w) (ov (fun v => some (.int v)) o) (CW G b w') (mco o) (6 * mco o) := by
  refine x_ofX (own := RX7) rfl pn_X7 (Nat.le_of_ble_eq_true rfl) ?_
  intro p e s m args below meth c ha C hr hX hout
  unfold F_X7_rest at hF
  refine x_aload_n (pc := 0) C 0 dX7_rest_0 rfl rfl ?_
  refine x_iload_n (pc := 1) C 1 dX7_rest_1 rfl rfl ?_
  refine cXV0_1 (pc := 2) C hX hout hF (fun _ _ h => c_X7_needChild l G b hl  _ h) vm_X7_needChild wq330 ⟨Nat.le_of_ble_eq_true rfl, Nat.le_of_ble_eq_true rfl⟩ rfl rfl (fun _ h => CW.pl h) (Nat.le_of_ble_eq_true rfl) ⟨Nat.zero_le _, Nat.zero_le _⟩ (fun E hE => by subst hE; exact ⟨(Nat.le_of_ble_eq_true rfl), (Nat.le_of_ble_eq_true rfl)⟩) (fun E hE => by subst hE; exact ⟨(Nat.le_of_ble_eq_true rfl), (Nat.le_of_ble_eq_true rfl)⟩) dX7_rest_2 (fun w1 hF => ?_)
  refine x_aload_n (pc := 5) C 0 dX7_rest_5 rfl rfl ?_
  refine gf_X7_10 (pc := 6) C  dX7_rest_6 ?_
  refine x_iload_n (pc := 9) C 1 dX7_rest_9 rfl rfl ?_
  refine cV1_1 (pc := 10) (val := Value.int) C hF (fun _ _ h => c_X6_mayLieDown l G b (by decide) _ h) vm_X6_mayLieDown wq521 rfl rfl ⟨Nat.le_of_ble_eq_true rfl, Nat.le_of_ble_eq_true rfl⟩ rfl rfl (fun _ h => CW.yd h (by decide)) (Nat.le_of_ble_eq_true rfl) ⟨Nat.zero_le _, Nat.zero_le _⟩ dX7_rest_10 (fun x3 w2 hF => ?_)
  refine x_if_ne (pc := 13) C 26 dX7_rest_13 rfl hF (fun c7 hF => ?_) (fun c7 hF => ?_)
  · refine x_aload_n (pc := 26) C 0 dX7_rest_26 rfl rfl ?_
    refine gf_X7_22 (pc := 27) C  dX7_rest_27 ?_
    refine x_aload_n (pc := 30) C 0 dX7_rest_30 rfl rfl ?_
    refine gf_X7_10 (pc := 31) C  dX7_rest_31 ?_
    refine cV0_1 (pc := 34) C hF (fun _ _ h => c_X5_push l G b (by decide) h) vm_X5_push wq504 rfl rfl ⟨Nat.le_of_ble_eq_true rfl, Nat.le_of_ble_eq_true rfl⟩ rfl rfl (fun _ h => CW.sv h) (Nat.le_of_ble_eq_true rfl) ⟨Nat.zero_le _, Nat.zero_le _⟩ dX7_rest_34 (fun _ w4 hF => ?_)
    refine x_aload_n (pc := 37) C 0 dX7_rest_37 rfl rfl ?_
    refine gf_X7_10 (pc := 38) C  dX7_rest_38 ?_
    refine x_iload_n (pc := 41) C 1 dX7_rest_41 rfl rfl ?_
    refine cV1_1 (pc := 42) (val := Value.int) C hF (fun _ _ h => c_X6_lieDown l G b (by decide) _ h) vm_X6_lieDown wq525 rfl rfl ⟨Nat.le_of_ble_eq_true rfl, Nat.le_of_ble_eq_true rfl⟩ rfl rfl (fun _ h => CW.yd h (by decide)) (Nat.le_of_ble_eq_true rfl) ⟨Nat.zero_le _, Nat.zero_le _⟩ dX7_rest_42 (fun x6 w5 hF => ?_)
    obtain ⟨rfl, rfl⟩ := ret_eq hF
    refine xv_ret rfl (Nat.zero_le _) (Nat.zero_le _) ?_
    exact x_iret (pc := 45) C hr rfl (fun _ h => h) dX7_rest_45
  · obtain ⟨rfl, rfl⟩ := ret_eq hF
    exact xv_throw_IllegalStateException (pc := 16) C hl hX hout 3 rfl rfl wq440 wq441 dX7_rest_16 dX7_rest_19 dX7_rest_20 dX7_rest_22 dX7_rest_25 ⟨Nat.le_of_ble_eq_true rfl, Nat.le_of_ble_eq_true rfl, Nat.le_of_ble_eq_true rfl, Nat.le_of_ble_eq_true rfl⟩ (Nat.le_of_ble_eq_true rfl) (Nat.le_of_ble_eq_true rfl) rfl
set_option maxRecDepth 4000 in
theorem c_X7_ring (l : Launch) (G : xG) (b : Nat) (hl : l.stackTraces = false)      {w w' : xWt} {o : Int32 ⊕ String} (hF : F_X7_ring  w = some (o, w')) : xMetX l G b yX7_ring cX7_ring 1 (some .int) (xRX 6 (mco o) (6 * mco o)) [.ref (b)] (CW G b w) (ov (fun v => some (.int v)) o) (CW G b w') (mco o) (6 * mco o) := by
  refine x_ofX (own := RX7) rfl pn_X7 (Nat.le_of_ble_eq_true rfl) ?_
  intro p e s m args below meth c ha C hr hX hout
  unfold F_X7_ring at hF
  refine x_aload_n (pc := 0) C 0 dX7_ring_0 rfl rfl ?_
  refine gf_X7_10 (pc := 1) C  dX7_ring_1 ?_
  refine cV1_0 (pc := 4) (val := Value.int) C hF (fun _ _ h => c_X6_mayStrike l G b (by decide) h) vm_X6_mayStrike wq545 rfl rfl ⟨Nat.le_of_ble_eq_true rfl, Nat.le_of_ble_eq_true rfl⟩ rfl rfl (fun _ h => CW.yd h (by decide)) (Nat.le_of_ble_eq_true rfl) ⟨Nat.zero_le _, Nat.zero_le _⟩ dX7_ring_4 (fun x2 w1 hF => ?_)
  refine x_if_ne (pc := 7) C 20 dX7_ring_7 rfl hF (fun c6 hF => ?_) (fun c6 hF => ?_)
  · refine x_aload_n (pc := 20) C 0 dX7_ring_20 rfl rfl ?_
    refine gf_X7_22 (pc := 21) C  dX7_ring_21 ?_
    refine x_aload_n (pc := 24) C 0 dX7_ring_24 rfl rfl ?_
    refine gf_X7_10 (pc := 25) C  dX7_ring_25 ?_
    refine cV0_1 (pc := 28) C hF (fun _ _ h => c_X5_push l G b (by decide) h) vm_X5_push wq504 rfl rfl ⟨Nat.le_of_ble_eq_true rfl, Nat.le_of_ble_eq_true rfl⟩ rfl rfl (fun _ h => CW.sv h) (Nat.le_of_ble_eq_true rfl) ⟨Nat.zero_le _, Nat.zero_le _⟩ dX7_ring_28 (fun _ w3 hF => ?_)
    refine x_aload_n (pc := 31) C 0 dX7_ring_31 rfl rfl ?_
    refine gf_X7_10 (pc := 32) C  dX7_ring_32 ?_
    refine cV1_0 (pc := 35) (val := Value.int) C hF (fun _ _ h => c_X6_strike l G b (by decide) h) vm_X6_strike wq550 rfl rfl ⟨Nat.le_of_ble_eq_true rfl, Nat.le_of_ble_eq_true rfl⟩ rfl rfl (fun _ h => CW.yd h (by decide)) (Nat.le_of_ble_eq_true rfl) ⟨Nat.zero_le _, Nat.zero_le _⟩ dX7_ring_35 (fun x5 w4 hF => ?_)
    obtain ⟨rfl, rfl⟩ := ret_eq hF
    refine xv_ret rfl (Nat.zero_le _) (Nat.zero_le _) ?_
    exact x_iret (pc := 38) C hr rfl (fun _ h => h) dX7_ring_38
  · obtain ⟨rfl, rfl⟩ := ret_eq hF
    exact xv_throw_IllegalStateException (pc := 10) C hl hX hout 4 rfl rfl wq440 wq441 dX7_ring_10 dX7_ring_13 dX7_ring_14 dX7_ring_16 dX7_ring_19 ⟨Nat.le_of_ble_eq_true rfl, Nat.le_of_ble_eq_true rfl, Nat.le_of_ble_eq_true rfl, Nat.le_of_ble_eq_true rfl⟩ (Nat.le_of_ble_eq_true rfl) (Nat.le_of_ble_eq_true rfl) rfl
set_option maxRecDepth 4000 in
theorem c_X7_set (l : Launch) (G : xG) (b : Nat) (hl : l.stackTraces = false)     (a1 : Int32) (a2 : Int32) {w w' : xWt} {o : Int32 ⊕ String} (hF : F_X7_set a1 a2 w = some (o, w')) : xMetX l G b yX7_set cX7_set 3 (some .int) (xRX 7 (mco o) (6 * mco o)) [.ref (b), .int (a1), .int (a2)] (CW G b w) (ov (fun v => some (.int v)) o) (CW G b w') (mco o) (6 * mco o) := by
  refine x_ofX (own := RX7) rfl pn_X7 (Nat.le_of_ble_eq_true rfl) ?_
  intro p e s m args below meth c ha C hr hX hout
  unfold F_X7_set at hF
  refine x_iload_n (pc := 0) C 1 dX7_set_0 rfl rfl ?_
  refine cXS0_1 (pc := 1) C hX hout hF (fun _ _ h => c_X7_needSetting l G b hl  _ h) sm_X7_needSetting wq190 ⟨Nat.le_of_ble_eq_true rfl, Nat.le_of_ble_eq_true rfl⟩ (Nat.le_of_ble_eq_true rfl) ⟨Nat.zero_le _, Nat.zero_le _⟩ (fun E hE => by subst hE; exact ⟨(Nat.le_of_ble_eq_true rfl), (Nat.le_of_ble_eq_true rfl)⟩) (fun E hE => by subst hE; exact ⟨(Nat.le_of_ble_eq_true rfl), (Nat.le_of_ble_eq_true rfl)⟩) dX7_set_1 (fun w1 hF => ?_)
  refine x_iload_n (pc := 4) C 1 dX7_set_4 rfl rfl ?_
  refine x_iload_n (pc := 5) C 2 dX7_set_5 rfl rfl ?_
  refine cS1_2 (pc := 6) (val := Value.int) C hF (fun _ _ h => c_X7_isValueOf l G b  _ _ h) sm_X7_isValueOf wq581 rfl rfl ⟨Nat.le_of_ble_eq_true rfl, Nat.le_of_ble_eq_true rfl⟩ (Nat.le_of_ble_eq_true rfl) ⟨Nat.zero_le _, Nat.zero_le _⟩ dX7_set_6 (fun x3 w2 hF => ?_)
  refine x_if_ne (pc := 9) C 22 dX7_set_9 rfl hF (fun c7 hF => ?_) (fun c7 hF => ?_)
  · refine x_aload_n (pc := 22) C 0 dX7_set_22 rfl rfl ?_
    refine gf_X7_22 (pc := 23) C  dX7_set_23 ?_
    refine x_aload_n (pc := 26) C 0 dX7_set_26 rfl rfl ?_
    refine gf_X7_10 (pc := 27) C  dX7_set_27 ?_
    refine cV0_1 (pc := 30) C hF (fun _ _ h => c_X5_push l G b (by decide) h) vm_X5_push wq504 rfl rfl ⟨Nat.le_of_ble_eq_true rfl, Nat.le_of_ble_eq_true rfl⟩ rfl rfl (fun _ h => CW.sv h) (Nat.le_of_ble_eq_true rfl) ⟨Nat.zero_le _, Nat.zero_le _⟩ dX7_set_30 (fun _ w4 hF => ?_)
    refine x_aload_n (pc := 33) C 0 dX7_set_33 rfl rfl ?_
    refine gf_X7_10 (pc := 34) C  dX7_set_34 ?_
    refine x_iload_n (pc := 37) C 1 dX7_set_37 rfl rfl ?_
    refine x_iload_n (pc := 38) C 2 dX7_set_38 rfl rfl ?_
    refine cV1_2 (pc := 39) (val := Value.int) C hF (fun _ _ h => c_X6_change l G b (by decide) _ _ h) vm_X6_change wq584 rfl rfl ⟨Nat.le_of_ble_eq_true rfl, Nat.le_of_ble_eq_true rfl⟩ rfl rfl (fun _ h => CW.yd h (by decide)) (Nat.le_of_ble_eq_true rfl) ⟨Nat.zero_le _, Nat.zero_le _⟩ dX7_set_39 (fun x6 w5 hF => ?_)
    obtain ⟨rfl, rfl⟩ := ret_eq hF
    refine xv_ret rfl (Nat.zero_le _) (Nat.zero_le _) ?_
    exact x_iret (pc := 42) C hr rfl (fun _ h => h) dX7_set_42
  · obtain ⟨rfl, rfl⟩ := ret_eq hF
    exact xv_throw_IllegalArgumentException (pc := 12) C hl hX hout 12 rfl rfl wq122 wq123 dX7_set_12 dX7_set_15 dX7_set_16 dX7_set_18 dX7_set_21 ⟨Nat.le_of_ble_eq_true rfl, Nat.le_of_ble_eq_true rfl, Nat.le_of_ble_eq_true rfl, Nat.le_of_ble_eq_true rfl⟩ (Nat.le_of_ble_eq_true rfl) (Nat.le_of_ble_eq_true rfl) rfl
set_option maxRecDepth 4000 in
theorem c_X7_setting (l : Launch) (G : xG) (b : Nat) (hl : l.stackTraces = false)     (a1 : Int32) {w w' : xWt} {o : Int32 ⊕ String} (hF : F_X7_setting a1 w = some (o, w')) : xMetX l G b yX7_setting cX7_setting 2 (some .int) (xRX 7 (mco o) (6 * mco o)) [.ref (b), .int (a1)] (CW G b w) (ov (fun v => some (.int v)) o) (CW G b w') (mco o) (6 * mco o) := by
  refine x_ofX (own := RX7) rfl pn_X7 (Nat.le_of_ble_eq_true rfl) ?_
  intro p e s m args below meth c ha C hr hX hout
  unfold F_X7_setting at hF
  refine x_iload_n (pc := 0) C 1 dX7_setting_0 rfl rfl ?_
  refine cXS0_1 (pc := 1) C hX hout hF (fun _ _ h => c_X7_needSetting l G b hl  _ h) sm_X7_needSetting wq190 ⟨Nat.le_of_ble_eq_true rfl, Nat.le_of_ble_eq_true rfl⟩ (Nat.le_of_ble_eq_true rfl) ⟨Nat.zero_le _, Nat.zero_le _⟩ (fun E hE => by subst hE; exact ⟨(Nat.le_of_ble_eq_true rfl), (Nat.le_of_ble_eq_true rfl)⟩) (fun E hE => by subst hE; exact ⟨(Nat.le_of_ble_eq_true rfl), (Nat.le_of_ble_eq_true rfl)⟩) dX7_setting_1 (fun w1 hF => ?_)
  refine x_aload_n (pc := 4) C 0 dX7_setting_4 rfl rfl ?_
  refine gf_X7_10 (pc := 5) C  dX7_setting_5 ?_
  refine x_iload_n (pc := 8) C 1 dX7_setting_8 rfl rfl ?_
  refine cV1_1 (pc := 9) (val := Value.int) C hF (fun _ _ h => c_X6_valueOf l G b (by decide) _ h) vm_X6_valueOf wq195 rfl rfl ⟨Nat.le_of_ble_eq_true rfl, Nat.le_of_ble_eq_true rfl⟩ rfl rfl (fun _ h => CW.yd h (by decide)) (Nat.le_of_ble_eq_true rfl) ⟨Nat.zero_le _, Nat.zero_le _⟩ dX7_setting_9 (fun x3 w2 hF => ?_)
  obtain ⟨rfl, rfl⟩ := ret_eq hF
  refine xv_ret rfl (Nat.zero_le _) (Nat.zero_le _) ?_
  exact x_iret (pc := 12) C hr rfl (fun _ h => h) dX7_setting_12
set_option maxRecDepth 4000 in
theorem c_X7_swap (l : Launch) (G : xG) (b : Nat) (hl : l.stackTraces = false)     (a1 : Int32) (a2 : Int32) (a3 : Int32) {w w' : xWt} {o : Int32 ⊕ String} (hF : F_X7_swap a1 a2 a3 w = some (o, w')) : xMetX l G b yX7_swap cX7_swap 4 (some .int) (xRX 7 (mco o) (6 * mco o)) [.ref (b), .int (a1), .int (a2), .int (a3)] (CW G b w) (ov (fun v => some (.int v)) o) (CW G b w') (mco o) (6 * mco o) := by
  refine x_ofX (own := RX7) rfl pn_X7 (Nat.le_of_ble_eq_true rfl) ?_
  intro p e s m args below meth c ha C hr hX hout
  unfold F_X7_swap at hF
  refine x_aload_n (pc := 0) C 0 dX7_swap_0 rfl rfl ?_
  refine x_iload_n (pc := 1) C 1 dX7_swap_1 rfl rfl ?_
  refine cXV0_1 (pc := 2) C hX hout hF (fun _ _ h => c_X7_needChild l G b hl  _ h) vm_X7_needChild wq330 ⟨Nat.le_of_ble_eq_true rfl, Nat.le_of_ble_eq_true rfl⟩ rfl rfl (fun _ h => CW.pl h) (Nat.le_of_ble_eq_true rfl) ⟨Nat.zero_le _, Nat.zero_le _⟩ (fun E hE => by subst hE; exact ⟨(Nat.le_of_ble_eq_true rfl), (Nat.le_of_ble_eq_true rfl)⟩) (fun E hE => by subst hE; exact ⟨(Nat.le_of_ble_eq_true rfl), (Nat.le_of_ble_eq_true rfl)⟩) dX7_swap_2 (fun w1 hF => ?_)
  refine x_iload_n (pc := 5) C 2 dX7_swap_5 rfl rfl ?_
  refine cXS0_1 (pc := 6) C hX hout hF (fun _ _ h => c_X7_needBranch l G b hl  _ h) sm_X7_needBranch wq314 ⟨Nat.le_of_ble_eq_true rfl, Nat.le_of_ble_eq_true rfl⟩ (Nat.le_of_ble_eq_true rfl) ⟨Nat.zero_le _, Nat.zero_le _⟩ (fun E hE => by subst hE; exact ⟨(Nat.le_of_ble_eq_true rfl), (Nat.le_of_ble_eq_true rfl)⟩) (fun E hE => by subst hE; exact ⟨(Nat.le_of_ble_eq_true rfl), (Nat.le_of_ble_eq_true rfl)⟩) dX7_swap_6 (fun w2 hF => ?_)
  refine x_iload_n (pc := 9) C 3 dX7_swap_9 rfl rfl ?_
  refine cXS0_1 (pc := 10) C hX hout hF (fun _ _ h => c_X7_needColour l G b hl  _ h) sm_X7_needColour wq701 ⟨Nat.le_of_ble_eq_true rfl, Nat.le_of_ble_eq_true rfl⟩ (Nat.le_of_ble_eq_true rfl) ⟨Nat.zero_le _, Nat.zero_le _⟩ (fun E hE => by subst hE; exact ⟨(Nat.le_of_ble_eq_true rfl), (Nat.le_of_ble_eq_true rfl)⟩) (fun E hE => by subst hE; exact ⟨(Nat.le_of_ble_eq_true rfl), (Nat.le_of_ble_eq_true rfl)⟩) dX7_swap_10 (fun w3 hF => ?_)
  refine x_aload_n (pc := 13) C 0 dX7_swap_13 rfl rfl ?_
  refine gf_X7_10 (pc := 14) C  dX7_swap_14 ?_
  refine x_iload_n (pc := 17) C 1 dX7_swap_17 rfl rfl ?_
  refine x_iload_n (pc := 18) C 2 dX7_swap_18 rfl rfl ?_
  refine cV1_2 (pc := 19) (val := Value.int) C hF (fun _ _ h => c_X6_mayExchange l G b (by decide) _ _ h) vm_X6_mayExchange wq762 rfl rfl ⟨Nat.le_of_ble_eq_true rfl, Nat.le_of_ble_eq_true rfl⟩ rfl rfl (fun _ h => CW.yd h (by decide)) (Nat.le_of_ble_eq_true rfl) ⟨Nat.zero_le _, Nat.zero_le _⟩ dX7_swap_19 (fun x5 w4 hF => ?_)
  refine x_if_ne (pc := 22) C 35 dX7_swap_22 rfl hF (fun c9 hF => ?_) (fun c9 hF => ?_)
  · refine x_aload_n (pc := 35) C 0 dX7_swap_35 rfl rfl ?_
    refine gf_X7_22 (pc := 36) C  dX7_swap_36 ?_
    refine x_aload_n (pc := 39) C 0 dX7_swap_39 rfl rfl ?_
    refine gf_X7_10 (pc := 40) C  dX7_swap_40 ?_
    refine cV0_1 (pc := 43) C hF (fun _ _ h => c_X5_push l G b (by decide) h) vm_X5_push wq504 rfl rfl ⟨Nat.le_of_ble_eq_true rfl, Nat.le_of_ble_eq_true rfl⟩ rfl rfl (fun _ h => CW.sv h) (Nat.le_of_ble_eq_true rfl) ⟨Nat.zero_le _, Nat.zero_le _⟩ dX7_swap_43 (fun _ w6 hF => ?_)
    refine x_aload_n (pc := 46) C 0 dX7_swap_46 rfl rfl ?_
    refine gf_X7_10 (pc := 47) C  dX7_swap_47 ?_
    refine x_iload_n (pc := 50) C 1 dX7_swap_50 rfl rfl ?_
    refine x_iload_n (pc := 51) C 2 dX7_swap_51 rfl rfl ?_
    refine x_iload_n (pc := 52) C 3 dX7_swap_52 rfl rfl ?_
    refine cV1_3 (pc := 53) (val := Value.int) C hF (fun _ _ h => c_X6_exchange l G b (by decide) _ _ _ h) vm_X6_exchange wq767 rfl rfl ⟨Nat.le_of_ble_eq_true rfl, Nat.le_of_ble_eq_true rfl⟩ rfl rfl (fun _ h => CW.yd h (by decide)) (Nat.le_of_ble_eq_true rfl) ⟨Nat.zero_le _, Nat.zero_le _⟩ dX7_swap_53 (fun x8 w7 hF => ?_)
    obtain ⟨rfl, rfl⟩ := ret_eq hF
    refine xv_ret rfl (Nat.zero_le _) (Nat.zero_le _) ?_
    exact x_iret (pc := 56) C hr rfl (fun _ h => h) dX7_swap_56
  · obtain ⟨rfl, rfl⟩ := ret_eq hF
    exact xv_throw_IllegalStateException (pc := 25) C hl hX hout 10 rfl rfl wq440 wq441 dX7_swap_25 dX7_swap_28 dX7_swap_29 dX7_swap_31 dX7_swap_34 ⟨Nat.le_of_ble_eq_true rfl, Nat.le_of_ble_eq_true rfl, Nat.le_of_ble_eq_true rfl, Nat.le_of_ble_eq_true rfl⟩ (Nat.le_of_ble_eq_true rfl) (Nat.le_of_ble_eq_true rfl) rfl
set_option maxRecDepth 4000 in
theorem c_X7_take (l : Launch) (G : xG) (b : Nat) (hl : l.stackTraces = false)     (a1 : Int32) (a2 : Int32) {w w' : xWt} {o : Int32 ⊕ String} (hF : F_X7_take a1 a2 w = some (o, w')) : xMetX l G b yX7_take cX7_take 3 (some .int) (xRX 7 (mco o) (6 * mco o)) [.ref (b), .int (a1), .int (a2)] (CW G b w) (ov (fun v => some (.int v)) o) (CW G b w') (mco o) (6 * mco o) := by
  refine x_ofX (own := RX7) rfl pn_X7 (Nat.le_of_ble_eq_true rfl) ?_
  intro p e s m args below meth c ha C hr hX hout
  unfold F_X7_take at hF
  refine x_aload_n (pc := 0) C 0 dX7_take_0 rfl rfl ?_
  refine x_iload_n (pc := 1) C 1 dX7_take_1 rfl rfl ?_
  refine cXV0_1 (pc := 2) C hX hout hF (fun _ _ h => c_X7_needChild l G b hl  _ h) vm_X7_needChild wq330 ⟨Nat.le_of_ble_eq_true rfl, Nat.le_of_ble_eq_true rfl⟩ rfl rfl (fun _ h => CW.pl h) (Nat.le_of_ble_eq_true rfl) ⟨Nat.zero_le _, Nat.zero_le _⟩ (fun E hE => by subst hE; exact ⟨(Nat.le_of_ble_eq_true rfl), (Nat.le_of_ble_eq_true rfl)⟩) (fun E hE => by subst hE; exact ⟨(Nat.le_of_ble_eq_true rfl), (Nat.le_of_ble_eq_true rfl)⟩) dX7_take_2 (fun w1 hF => ?_)
  refine x_iload_n (pc := 5) C 2 dX7_take_5 rfl rfl ?_
  refine cXS0_1 (pc := 6) C hX hout hF (fun _ _ h => c_X7_needBranch l G b hl  _ h) sm_X7_needBranch wq314 ⟨Nat.le_of_ble_eq_true rfl, Nat.le_of_ble_eq_true rfl⟩ (Nat.le_of_ble_eq_true rfl) ⟨Nat.zero_le _, Nat.zero_le _⟩ (fun E hE => by subst hE; exact ⟨(Nat.le_of_ble_eq_true rfl), (Nat.le_of_ble_eq_true rfl)⟩) (fun E hE => by subst hE; exact ⟨(Nat.le_of_ble_eq_true rfl), (Nat.le_of_ble_eq_true rfl)⟩) dX7_take_6 (fun w2 hF => ?_)
  refine x_aload_n (pc := 9) C 0 dX7_take_9 rfl rfl ?_
  refine gf_X7_10 (pc := 10) C  dX7_take_10 ?_
  refine x_iload_n (pc := 13) C 1 dX7_take_13 rfl rfl ?_
  refine x_iload_n (pc := 14) C 2 dX7_take_14 rfl rfl ?_
  refine cV1_2 (pc := 15) (val := Value.int) C hF (fun _ _ h => c_X6_mayTakeOff l G b (by decide) _ _ h) vm_X6_mayTakeOff wq723 rfl rfl ⟨Nat.le_of_ble_eq_true rfl, Nat.le_of_ble_eq_true rfl⟩ rfl rfl (fun _ h => CW.yd h (by decide)) (Nat.le_of_ble_eq_true rfl) ⟨Nat.zero_le _, Nat.zero_le _⟩ dX7_take_15 (fun x4 w3 hF => ?_)
  refine x_if_ne (pc := 18) C 31 dX7_take_18 rfl hF (fun c8 hF => ?_) (fun c8 hF => ?_)
  · refine x_aload_n (pc := 31) C 0 dX7_take_31 rfl rfl ?_
    refine gf_X7_22 (pc := 32) C  dX7_take_32 ?_
    refine x_aload_n (pc := 35) C 0 dX7_take_35 rfl rfl ?_
    refine gf_X7_10 (pc := 36) C  dX7_take_36 ?_
    refine cV0_1 (pc := 39) C hF (fun _ _ h => c_X5_push l G b (by decide) h) vm_X5_push wq504 rfl rfl ⟨Nat.le_of_ble_eq_true rfl, Nat.le_of_ble_eq_true rfl⟩ rfl rfl (fun _ h => CW.sv h) (Nat.le_of_ble_eq_true rfl) ⟨Nat.zero_le _, Nat.zero_le _⟩ dX7_take_39 (fun _ w5 hF => ?_)
    refine x_aload_n (pc := 42) C 0 dX7_take_42 rfl rfl ?_
    refine gf_X7_10 (pc := 43) C  dX7_take_43 ?_
    refine x_iload_n (pc := 46) C 1 dX7_take_46 rfl rfl ?_
    refine x_iload_n (pc := 47) C 2 dX7_take_47 rfl rfl ?_
    refine cV1_2 (pc := 48) (val := Value.int) C hF (fun _ _ h => c_X6_takeOff l G b (by decide) _ _ h) vm_X6_takeOff wq727 rfl rfl ⟨Nat.le_of_ble_eq_true rfl, Nat.le_of_ble_eq_true rfl⟩ rfl rfl (fun _ h => CW.yd h (by decide)) (Nat.le_of_ble_eq_true rfl) ⟨Nat.zero_le _, Nat.zero_le _⟩ dX7_take_48 (fun x7 w6 hF => ?_)
    obtain ⟨rfl, rfl⟩ := ret_eq hF
    refine xv_ret rfl (Nat.zero_le _) (Nat.zero_le _) ?_
    exact x_iret (pc := 51) C hr rfl (fun _ h => h) dX7_take_51
  · obtain ⟨rfl, rfl⟩ := ret_eq hF
    exact xv_throw_IllegalStateException (pc := 21) C hl hX hout 9 rfl rfl wq440 wq441 dX7_take_21 dX7_take_24 dX7_take_25 dX7_take_27 dX7_take_30 ⟨Nat.le_of_ble_eq_true rfl, Nat.le_of_ble_eq_true rfl, Nat.le_of_ble_eq_true rfl, Nat.le_of_ble_eq_true rfl⟩ (Nat.le_of_ble_eq_true rfl) (Nat.le_of_ble_eq_true rfl) rfl
set_option maxRecDepth 4000 in
theorem c_X7_undo (l : Launch) (G : xG) (b : Nat) (hl : l.stackTraces = false)      {w w' : xWt} {o : Int32 ⊕ String} (hF : F_X7_undo  w = some (o, w')) : xMetX l G b yX7_undo cX7_undo 1 (some .int) (xRX 6 (mco o) (6 * mco o)) [.ref (b)] (CW G b w) (ov (fun v => some (.int v)) o) (CW G b w') (mco o) (6 * mco o) := by
  refine x_ofX (own := RX7) rfl pn_X7 (Nat.le_of_ble_eq_true rfl) ?_
  intro p e s m args below meth c ha C hr hX hout
  unfold F_X7_undo at hF
  refine x_aload_n (pc := 0) C 0 dX7_undo_0 rfl rfl ?_
  refine gf_X7_22 (pc := 1) C  dX7_undo_1 ?_
  refine cV1_0 (pc := 4) (val := Value.int) C hF (fun _ _ h => c_X5_number l G b  h) vm_X5_number wq128 rfl rfl ⟨Nat.le_of_ble_eq_true rfl, Nat.le_of_ble_eq_true rfl⟩ rfl rfl (fun _ h => CW.sv h) (Nat.le_of_ble_eq_true rfl) ⟨Nat.zero_le _, Nat.zero_le _⟩ dX7_undo_4 (fun x2 w1 hF => ?_)
  refine x_if_ne (pc := 7) C 20 dX7_undo_7 rfl hF (fun c6 hF => ?_) (fun c6 hF => ?_)
  · refine x_aload_n (pc := 20) C 0 dX7_undo_20 rfl rfl ?_
    refine gf_X7_22 (pc := 21) C  dX7_undo_21 ?_
    refine x_aload_n (pc := 24) C 0 dX7_undo_24 rfl rfl ?_
    refine gf_X7_10 (pc := 25) C  dX7_undo_25 ?_
    refine cV0_1 (pc := 28) C hF (fun _ _ h => c_X5_popInto l G b (by decide) h) vm_X5_popInto wq442 rfl rfl ⟨Nat.le_of_ble_eq_true rfl, Nat.le_of_ble_eq_true rfl⟩ rfl rfl (fun _ h => CW.sv h) (Nat.le_of_ble_eq_true rfl) ⟨Nat.zero_le _, Nat.zero_le _⟩ dX7_undo_28 (fun _ w3 hF => ?_)
    refine x_aload_n (pc := 31) C 0 dX7_undo_31 rfl rfl ?_
    refine gf_X7_22 (pc := 32) C  dX7_undo_32 ?_
    refine cV1_0 (pc := 35) (val := Value.int) C hF (fun _ _ h => c_X5_number l G b  h) vm_X5_number wq128 rfl rfl ⟨Nat.le_of_ble_eq_true rfl, Nat.le_of_ble_eq_true rfl⟩ rfl rfl (fun _ h => CW.sv h) (Nat.le_of_ble_eq_true rfl) ⟨Nat.zero_le _, Nat.zero_le _⟩ dX7_undo_35 (fun x5 w4 hF => ?_)
    obtain ⟨rfl, rfl⟩ := ret_eq hF
    refine xv_ret rfl (Nat.zero_le _) (Nat.zero_le _) ?_
    exact x_iret (pc := 38) C hr rfl (fun _ h => h) dX7_undo_38
  · obtain ⟨rfl, rfl⟩ := ret_eq hF
    exact xv_throw_IllegalStateException (pc := 10) C hl hX hout 13 rfl rfl wq440 wq441 dX7_undo_10 dX7_undo_13 dX7_undo_14 dX7_undo_16 dX7_undo_19 ⟨Nat.le_of_ble_eq_true rfl, Nat.le_of_ble_eq_true rfl, Nat.le_of_ble_eq_true rfl, Nat.le_of_ble_eq_true rfl⟩ (Nat.le_of_ble_eq_true rfl) (Nat.le_of_ble_eq_true rfl) rfl
set_option maxRecDepth 4000 in
theorem c_X7_why (l : Launch) (G : xG) (b : Nat) (hl : l.stackTraces = false)     (a1 : Int32) {w w' : xWt} {o : Int32 ⊕ String} (hF : F_X7_why a1 w = some (o, w')) : xMetX l G b yX7_why cX7_why 2 (some .int) (xRX 7 (mco o) (6 * mco o)) [.ref (b), .int (a1)] (CW G b w) (ov (fun v => some (.int v)) o) (CW G b w') (mco o) (6 * mco o) := by
  refine x_ofX (own := RX7) rfl pn_X7 (Nat.le_of_ble_eq_true rfl) ?_
  intro p e s m args below meth c ha C hr hX hout
  unfold F_X7_why at hF
  refine x_aload_n (pc := 0) C 0 dX7_why_0 rfl rfl ?_
  refine x_iload_n (pc := 1) C 1 dX7_why_1 rfl rfl ?_
  refine cXV0_1 (pc := 2) C hX hout hF (fun _ _ h => c_X7_needLeaf l G b hl  _ h) vm_X7_needLeaf wq258 ⟨Nat.le_of_ble_eq_true rfl, Nat.le_of_ble_eq_true rfl⟩ rfl rfl (fun _ h => CW.pl h) (Nat.le_of_ble_eq_true rfl) ⟨Nat.zero_le _, Nat.zero_le _⟩ (fun E hE => by subst hE; exact ⟨(Nat.le_of_ble_eq_true rfl), (Nat.le_of_ble_eq_true rfl)⟩) (fun E hE => by subst hE; exact ⟨(Nat.le_of_ble_eq_true rfl), (Nat.le_of_ble_eq_true rfl)⟩) dX7_why_2 (fun w1 hF => ?_)
  refine x_aload_n (pc := 5) C 0 dX7_why_5 rfl rfl ?_
  refine gf_X7_10 (pc := 6) C  dX7_why_6 ?_
  refine x_iload_n (pc := 9) C 1 dX7_why_9 rfl rfl ?_
  refine cV1_1 (pc := 10) (val := Value.int) C hF (fun _ _ h => c_X6_whyNotBurnt l G b (by decide) _ h) vm_X6_whyNotBurnt wq295 rfl rfl ⟨Nat.le_of_ble_eq_true rfl, Nat.le_of_ble_eq_true rfl⟩ rfl rfl (fun _ h => CW.yd h (by decide)) (Nat.le_of_ble_eq_true rfl) ⟨Nat.zero_le _, Nat.zero_le _⟩ dX7_why_10 (fun x3 w2 hF => ?_)
  obtain ⟨rfl, rfl⟩ := ret_eq hF
  refine xv_ret rfl (Nat.zero_le _) (Nat.zero_le _) ?_
  exact x_iret (pc := 13) C hr rfl (fun _ h => h) dX7_why_13
end WalkT
