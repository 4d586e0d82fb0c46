section WalkF
variable {p : Program} {l : Launch} {e : Env} {s : State} {m : MethodId} {args : Array Value} {below : List Frame} {meth : Method} {c : Code} {Q : State → Prop} {b : Nat} {G : xG}
set_option maxRecDepth 4000 in
theorem c_X7_bestRake (l : Launch) (G : xG) (b : Nat)      {w w' : xWt} {v : Int32} (hF : F_X7_bestRake  w = some (v, w')) : xMet l G b yX7_bestRake cX7_bestRake 1 (some .int) (xR 4) [.ref (b)] (CW G b w) (some (.int v)) (CW G b w') 0 0 := by
  refine x_of (own := RX7) rfl (plainFor_of_name pn_X7) (Nat.le_of_ble_eq_true rfl) ?_
  intro p e s m args below meth c ha C hr _
  unfold F_X7_bestRake at hF
  refine x_aload_n (pc := 0) C 0 dX7_bestRake_0 rfl rfl ?_
  refine gf_X7_10 (pc := 1) C  dX7_bestRake_1 ?_
  refine cV1_0 (pc := 4) (val := Value.int) C hF (fun _ _ h => c_X6_bestHeap l G b (by decide) h) vm_X6_bestHeap wq428 rfl rfl ⟨Nat.le_of_ble_eq_true rfl, Nat.le_of_ble_eq_true rfl⟩ rfl rfl (fun _ h => CW.yd h (by decide)) (Nat.le_of_ble_eq_true rfl) ⟨Nat.le_refl _, Nat.le_refl _⟩ dX7_bestRake_4 (fun x2 w1 hF => ?_)
  obtain ⟨rfl, rfl⟩ := ret_eq hF
  exact x_iret (pc := 7) C hr rfl (fun _ h => h) dX7_bestRake_7
set_option maxRecDepth 4000 in
theorem c_X7_burntShare (l : Launch) (G : xG) (b : Nat)      {w w' : xWt} {v : UInt64} (hF : F_X7_burntShare  w = some (v, w')) : xMet l G b yX7_burntShare cX7_burntShare 3 (some .double) (xR 2) [.ref (b)] (CW G b w) (some (.double v)) (CW G b w') 0 0 := by
  refine x_of (own := RX7) rfl (plainFor_of_name pn_X7) (Nat.le_of_ble_eq_true rfl) ?_
  intro p e s m args below meth c ha C hr _
  unfold F_X7_burntShare at hF
  refine x_aload_n (pc := 0) C 0 dX7_burntShare_0 rfl rfl ?_
  refine gf_X7_10 (pc := 1) C  dX7_burntShare_1 ?_
  refine gf_X7_107 (pc := 4) C (by decide) dX7_burntShare_4 ?_
  refine x_iconst (pc := 7) C 2 dX7_burntShare_7 ki_2 ?_
  refine cV1_1 (pc := 8) (val := Value.int) C hF (fun _ _ h => c_X2_numberWhere l G b (by decide) _ h) vm_X2_numberWhere wq244 rfl rfl ⟨Nat.le_of_ble_eq_true rfl, Nat.le_of_ble_eq_true rfl⟩ rfl rfl (fun _ h => CW.lv h (by decide)) (Nat.le_of_ble_eq_true rfl) ⟨Nat.le_refl _, Nat.le_refl _⟩ dX7_burntShare_8 (fun x2 w1 hF => ?_)
  refine x_istore_n (pc := 11) C [(1, .int (x2)), (0, .ref (b))] dX7_burntShare_11 rfl (by decide) rfl ?_
  refine x_iload_n (pc := 12) C 0 dX7_burntShare_12 rfl rfl ?_
  refine x_aload_n (pc := 13) C 1 dX7_burntShare_13 rfl rfl ?_
  refine gf_X7_10 (pc := 14) C  dX7_burntShare_14 ?_
  refine gf_X7_107 (pc := 17) C (by decide) dX7_burntShare_17 ?_
  refine x_iconst (pc := 20) C 1 dX7_burntShare_20 ki_1 ?_
  refine cV1_1 (pc := 21) (val := Value.int) C hF (fun _ _ h => c_X2_numberWhere l G b (by decide) _ h) vm_X2_numberWhere wq244 rfl rfl ⟨Nat.le_of_ble_eq_true rfl, Nat.le_of_ble_eq_true rfl⟩ rfl rfl (fun _ h => CW.lv h (by decide)) (Nat.le_of_ble_eq_true rfl) ⟨Nat.le_refl _, Nat.le_refl _⟩ dX7_burntShare_21 (fun x4 w3 hF => ?_)
  refine x_iadd (pc := 24) C dX7_burntShare_24 ?_
  refine x_istore_n (pc := 25) C [(2, .int ((x2 + x4))), (1, .int (x2)), (0, .ref (b))] dX7_burntShare_25 rfl (by decide) rfl ?_
  refine x_iload_n (pc := 26) C 0 dX7_burntShare_26 rfl rfl ?_
  refine x_if_ne (pc := 27) C 34 dX7_burntShare_27 rfl hF (fun c6 hF => ?_) (fun c6 hF => ?_)
  · refine x_iload_n (pc := 34) C 1 dX7_burntShare_34 rfl rfl ?_
    refine x_i2d (pc := 35) C dX7_burntShare_35 ?_
    refine x_iload_n (pc := 36) C 0 dX7_burntShare_36 rfl rfl ?_
    refine x_i2d (pc := 37) C dX7_burntShare_37 ?_
    refine y_ddiv (pc := 38) C dX7_burntShare_38 hF (fun x5 hF => ?_)
    obtain ⟨rfl, rfl⟩ := ret_eq hF
    exact x_dret (pc := 39) C hr rfl (fun _ h => h) dX7_burntShare_39
  · refine x_dconst1 (pc := 30) C dX7_burntShare_30 ?_
    refine x_goto (pc := 31) C 39 dX7_burntShare_31 rfl ?_
    obtain ⟨rfl, rfl⟩ := ret_eq hF
    exact x_dret (pc := 39) C hr rfl (fun _ h => h) dX7_burntShare_39
set_option maxRecDepth 4000 in
theorem c_X7_counted (l : Launch) (G : xG) (b : Nat)     (a1 : Int32) {w w' : xWt} {v : Int32} (hF : F_X7_counted a1 w = some (v, w')) : xMet l G b yX7_counted cX7_counted 2 (some .int) (xR 4) [.ref (b), .int (a1)] (CW G b w) (some (.int v)) (CW G b w') 0 0 := by
  refine x_of (own := RX7) rfl (plainFor_of_name pn_X7) (Nat.le_of_ble_eq_true rfl) ?_
  intro p e s m args below meth c ha C hr _
  unfold F_X7_counted at hF
  refine x_iload_n (pc := 0) C 1 dX7_counted_0 rfl rfl ?_
  refine x_bipush (pc := 1) C 15 dX7_counted_1 kb_15 ?_
  refine x_icmp_ne (pc := 3) C 16 dX7_counted_3 rfl hF (fun c5 hF => ?_) (fun c5 hF => ?_)
  · refine x_aload_n (pc := 16) C 0 dX7_counted_16 rfl rfl ?_
    refine gf_X7_10 (pc := 17) C  dX7_counted_17 ?_
    refine x_iload_n (pc := 20) C 1 dX7_counted_20 rfl rfl ?_
    refine cV1_1 (pc := 21) (val := Value.int) C hF (fun _ _ h => c_X6_numberOfAll l G b (by decide) _ h) vm_X6_numberOfAll wq133 rfl rfl ⟨Nat.le_of_ble_eq_true rfl, Nat.le_of_ble_eq_true rfl⟩ rfl rfl (fun _ h => CW.yd h (by decide)) (Nat.le_of_ble_eq_true rfl) ⟨Nat.le_refl _, Nat.le_refl _⟩ dX7_counted_21 (fun x2 w1 hF => ?_)
    obtain ⟨rfl, rfl⟩ := ret_eq hF
    exact x_iret (pc := 24) C hr rfl (fun _ h => h) dX7_counted_24
  · refine x_aload_n (pc := 6) C 0 dX7_counted_6 rfl rfl ?_
    refine gf_X7_22 (pc := 7) C  dX7_counted_7 ?_
    refine cV1_0 (pc := 10) (val := Value.int) C hF (fun _ _ h => c_X5_number l G b  h) vm_X5_number wq128 rfl rfl ⟨Nat.le_of_ble_eq_true rfl, Nat.le_of_ble_eq_true rfl⟩ rfl rfl (fun _ h => CW.sv h) (Nat.le_of_ble_eq_true rfl) ⟨Nat.le_refl _, Nat.le_refl _⟩ dX7_counted_10 (fun x4 w3 hF => ?_)
    refine x_goto (pc := 13) C 24 dX7_counted_13 rfl ?_
    obtain ⟨rfl, rfl⟩ := ret_eq hF
    exact x_iret (pc := 24) C hr rfl (fun _ h => h) dX7_counted_24
set_option maxRecDepth 4000 in
theorem c_X7_fullness (l : Launch) (G : xG) (b : Nat)      {w w' : xWt} {v : UInt32} (hF : F_X7_fullness  w = some (v, w')) : xMet l G b yX7_fullness cX7_fullness 2 (some .float) (xR 2) [.ref (b)] (CW G b w) (some (.float v)) (CW G b w') 0 0 := by
  refine x_of (own := RX7) rfl (plainFor_of_name pn_X7) (Nat.le_of_ble_eq_true rfl) ?_
  intro p e s m args below meth c ha C hr _
  unfold F_X7_fullness at hF
  refine x_aload_n (pc := 0) C 0 dX7_fullness_0 rfl rfl ?_
  refine gf_X7_10 (pc := 1) C  dX7_fullness_1 ?_
  refine gf_X7_305 (pc := 4) C (by decide) dX7_fullness_4 ?_
  refine x_aload_n (pc := 7) C 0 dX7_fullness_7 rfl rfl ?_
  refine gf_X7_10 (pc := 8) C  dX7_fullness_8 ?_
  refine gf_X7_33 (pc := 11) C (by decide) dX7_fullness_11 ?_
  refine cV1_0 (pc := 14) (val := Value.int) C hF (fun _ _ h => c_X0_number l G b (by decide) h) vm_X0_number wq250 rfl rfl ⟨Nat.le_of_ble_eq_true rfl, Nat.le_of_ble_eq_true rfl⟩ rfl rfl (fun _ h => CW.ch h (by decide)) (Nat.le_of_ble_eq_true rfl) ⟨Nat.le_refl _, Nat.le_refl _⟩ dX7_fullness_14 (fun x2 w1 hF => ?_)
  refine x_imul (pc := 17) C dX7_fullness_17 ?_
  refine x_istore_n (pc := 18) C [(1, .int (((w.2.1 0 1) * x2))), (0, .ref (b))] dX7_fullness_18 rfl (by decide) rfl ?_
  refine x_iload_n (pc := 19) C 0 dX7_fullness_19 rfl rfl ?_
  refine x_if_gt (pc := 20) C 27 dX7_fullness_20 rfl hF (fun c6 hF => ?_) (fun c6 hF => ?_)
  · refine x_aload_n (pc := 27) C 1 dX7_fullness_27 rfl rfl ?_
    refine gf_X7_10 (pc := 28) C  dX7_fullness_28 ?_
    refine gf_X7_107 (pc := 31) C (by decide) dX7_fullness_31 ?_
    refine x_iconst (pc := 34) C 1 dX7_fullness_34 ki_1 ?_
    refine cV1_1 (pc := 35) (val := Value.int) C hF (fun _ _ h => c_X2_numberWhere l G b (by decide) _ h) vm_X2_numberWhere wq244 rfl rfl ⟨Nat.le_of_ble_eq_true rfl, Nat.le_of_ble_eq_true rfl⟩ rfl rfl (fun _ h => CW.lv h (by decide)) (Nat.le_of_ble_eq_true rfl) ⟨Nat.le_refl _, Nat.le_refl _⟩ dX7_fullness_35 (fun x4 w3 hF => ?_)
    refine x_i2f (pc := 38) C dX7_fullness_38 ?_
    refine x_iload_n (pc := 39) C 0 dX7_fullness_39 rfl rfl ?_
    refine x_i2f (pc := 40) C dX7_fullness_40 ?_
    refine y_fdiv (pc := 41) C dX7_fullness_41 hF (fun x5 hF => ?_)
    obtain ⟨rfl, rfl⟩ := ret_eq hF
    exact x_fret (pc := 42) C hr rfl (fun _ h => h) dX7_fullness_42
  · refine x_fconst0 (pc := 23) C dX7_fullness_23 ?_
    refine x_goto (pc := 24) C 42 dX7_fullness_24 rfl ?_
    obtain ⟨rfl, rfl⟩ := ret_eq hF
    exact x_fret (pc := 42) C hr rfl (fun _ h => h) dX7_fullness_42
set_option maxRecDepth 4000 in
theorem c_X7_ifAllRested (l : Launch) (G : xG) (b : Nat)      {w w' : xWt} {v : Int32} (hF : F_X7_ifAllRested  w = some (v, w')) : xMet l G b yX7_ifAllRested cX7_ifAllRested 1 (some .int) (xR 2) [.ref (b)] (CW G b w) (some (.int v)) (CW G b w') 0 0 := by
  refine x_of (own := RX7) rfl (plainFor_of_name pn_X7) (Nat.le_of_ble_eq_true rfl) ?_
  intro p e s m args below meth c ha C hr _
  unfold F_X7_ifAllRested at hF
  refine x_aload_n (pc := 0) C 0 dX7_ifAllRested_0 rfl rfl ?_
  refine gf_X7_10 (pc := 1) C  dX7_ifAllRested_1 ?_
  refine cV1_0 (pc := 4) (val := Value.int) C hF (fun _ _ h => c_X6_burnableIfAllRested l G b (by decide) h) vm_X6_burnableIfAllRested wq220 rfl rfl ⟨Nat.le_of_ble_eq_true rfl, Nat.le_of_ble_eq_true rfl⟩ rfl rfl (fun _ h => CW.yd h (by decide)) (Nat.le_of_ble_eq_true rfl) ⟨Nat.le_refl _, Nat.le_refl _⟩ dX7_ifAllRested_4 (fun x2 w1 hF => ?_)
  obtain ⟨rfl, rfl⟩ := ret_eq hF
  exact x_iret (pc := 7) C hr rfl (fun _ h => h) dX7_ifAllRested_7
set_option maxRecDepth 4000 in
theorem c_X7_isValueOf (l : Launch) (G : xG) (b : Nat)     (a1 : Int32) (a2 : Int32) {w w' : xWt} {v : Int32} (hF : F_X7_isValueOf a1 a2 w = some (v, w')) : xMet l G b yX7_isValueOf cX7_isValueOf 2 (some .boolean) (xR 0) [.int (a1), .int (a2)] (CW G b w) (some (.int v)) (CW G b w') 0 0 := by
  refine x_of (own := RX7) rfl (plainFor_of_name pn_X7) (Nat.le_of_ble_eq_true rfl) ?_
  intro p e s m args below meth c ha C hr _
  unfold F_X7_isValueOf at hF
  refine x_iload_n (pc := 0) C 0 dX7_isValueOf_0 rfl rfl ?_
  refine x_if_ne (pc := 1) C 21 dX7_isValueOf_1 rfl hF (fun c5 hF => ?_) (fun c5 hF => ?_)
  · refine x_iload_n (pc := 21) C 1 dX7_isValueOf_21 rfl rfl ?_
    refine x_if_eq (pc := 22) C 30 dX7_isValueOf_22 rfl hF (fun c2 hF => ?_) (fun c2 hF => ?_)
    · refine x_iconst (pc := 30) C 1 dX7_isValueOf_30 ki_1 ?_
      refine x_goto (pc := 31) C 35 dX7_isValueOf_31 rfl ?_
      obtain ⟨rfl, rfl⟩ := ret_eq hF
      exact x_zret (pc := 35) C rfl hr rfl (fun _ h => h) dX7_isValueOf_35
    · refine x_iload_n (pc := 25) C 1 dX7_isValueOf_25 rfl rfl ?_
      refine x_iconst (pc := 26) C 1 dX7_isValueOf_26 ki_1 ?_
      refine x_icmp_ne (pc := 27) C 34 dX7_isValueOf_27 rfl hF (fun c1 hF => ?_) (fun c1 hF => ?_)
      · refine x_iconst (pc := 34) C 0 dX7_isValueOf_34 ki_0 ?_
        obtain ⟨rfl, rfl⟩ := ret_eq hF
        exact x_zret (pc := 35) C rfl hr rfl (fun _ h => h) dX7_isValueOf_35
      · refine x_iconst (pc := 30) C 1 dX7_isValueOf_30 ki_1 ?_
        refine x_goto (pc := 31) C 35 dX7_isValueOf_31 rfl ?_
        obtain ⟨rfl, rfl⟩ := ret_eq hF
        exact x_zret (pc := 35) C rfl hr rfl (fun _ h => h) dX7_isValueOf_35
  · refine x_iload_n (pc := 4) C 1 dX7_isValueOf_4 rfl rfl ?_
    refine x_iconst (pc := 5) C 1 dX7_isValueOf_5 ki_1 ?_
    refine x_icmp_lt (pc := 6) C 19 dX7_isValueOf_6 rfl hF (fun c4 hF => ?_) (fun c4 hF => ?_)
    · refine x_iconst (pc := 19) C 0 dX7_isValueOf_19 ki_0 ?_
      obtain ⟨rfl, rfl⟩ := ret_eq hF
      exact x_zret (pc := 20) C rfl hr rfl (fun _ h => h) dX7_isValueOf_20
    · refine x_iload_n (pc := 9) C 1 dX7_isValueOf_9 rfl rfl ?_
      refine x_bipush (pc := 10) C 20 dX7_isValueOf_10 kb_20 ?_
      refine x_icmp_gt (pc := 12) C 19 dX7_isValueOf_12 rfl hF (fun c3 hF => ?_) (fun c3 hF => ?_)
      · refine x_iconst (pc := 19) C 0 dX7_isValueOf_19 ki_0 ?_
        obtain ⟨rfl, rfl⟩ := ret_eq hF
        exact x_zret (pc := 20) C rfl hr rfl (fun _ h => h) dX7_isValueOf_20
      · refine x_iconst (pc := 15) C 1 dX7_isValueOf_15 ki_1 ?_
        refine x_goto (pc := 16) C 20 dX7_isValueOf_16 rfl ?_
        obtain ⟨rfl, rfl⟩ := ret_eq hF
        exact x_zret (pc := 20) C rfl hr rfl (fun _ h => h) dX7_isValueOf_20
set_option maxRecDepth 4000 in
theorem c_X7_late (l : Launch) (G : xG) (b : Nat)      {w w' : xWt} {v : Int32} (hF : F_X7_late  w = some (v, w')) : xMet l G b yX7_late cX7_late 1 (some .int) (xR 3) [.ref (b)] (CW G b w) (some (.int v)) (CW G b w') 0 0 := by
  refine x_of (own := RX7) rfl (plainFor_of_name pn_X7) (Nat.le_of_ble_eq_true rfl) ?_
  intro p e s m args below meth c ha C hr _
  unfold F_X7_late at hF
  refine x_aload_n (pc := 0) C 0 dX7_late_0 rfl rfl ?_
  refine gf_X7_10 (pc := 1) C  dX7_late_1 ?_
  refine gf_X7_33 (pc := 4) C (by decide) dX7_late_4 ?_
  refine x_aload_n (pc := 7) C 0 dX7_late_7 rfl rfl ?_
  refine gf_X7_10 (pc := 8) C  dX7_late_8 ?_
  refine gf_X7_223 (pc := 11) C (by decide) dX7_late_11 ?_
  refine cV1_1 (pc := 14) (val := Value.int) C hF (fun _ _ h => c_X0_maskOfLate l G b (by decide) _ h) vm_X0_maskOfLate wq205 rfl rfl ⟨Nat.le_of_ble_eq_true rfl, Nat.le_of_ble_eq_true rfl⟩ rfl rfl (fun _ h => CW.ch h (by decide)) (Nat.le_of_ble_eq_true rfl) ⟨Nat.le_refl _, Nat.le_refl _⟩ dX7_late_14 (fun x2 w1 hF => ?_)
  obtain ⟨rfl, rfl⟩ := ret_eq hF
  exact x_iret (pc := 17) C hr rfl (fun _ h => h) dX7_late_17
set_option maxRecDepth 4000 in
theorem c_X7_mostHeld (l : Launch) (G : xG) (b : Nat)      {w w' : xWt} {v : Int32} (hF : F_X7_mostHeld  w = some (v, w')) : xMet l G b yX7_mostHeld cX7_mostHeld 1 (some .int) (xR 3) [.ref (b)] (CW G b w) (some (.int v)) (CW G b w') 0 0 := by
  refine x_of (own := RX7) rfl (plainFor_of_name pn_X7) (Nat.le_of_ble_eq_true rfl) ?_
  intro p e s m args below meth c ha C hr _
  unfold F_X7_mostHeld at hF
  refine x_aload_n (pc := 0) C 0 dX7_mostHeld_0 rfl rfl ?_
  refine gf_X7_10 (pc := 1) C  dX7_mostHeld_1 ?_
  refine cV1_0 (pc := 4) (val := Value.int) C hF (fun _ _ h => c_X6_mostPinned l G b (by decide) h) vm_X6_mostPinned wq231 rfl rfl ⟨Nat.le_of_ble_eq_true rfl, Nat.le_of_ble_eq_true rfl⟩ rfl rfl (fun _ h => CW.yd h (by decide)) (Nat.le_of_ble_eq_true rfl) ⟨Nat.le_refl _, Nat.le_refl _⟩ dX7_mostHeld_4 (fun x2 w1 hF => ?_)
  obtain ⟨rfl, rfl⟩ := ret_eq hF
  exact x_iret (pc := 7) C hr rfl (fun _ h => h) dX7_mostHeld_7
end WalkF
