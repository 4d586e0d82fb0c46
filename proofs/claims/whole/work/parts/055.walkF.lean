section WalkF
variable {p : Program} {l : Launch} {e : Env} {s : State} {m : MethodId} {args : Array Value} {below : List Frame} {meth : Method} {c : Code} {Q : State → Prop} {b : Nat} {G : xG}
set_option maxRecDepth 4000 in
theorem c_X7_bestRake (l : Launch) (G : xG) (b : Nat)      {w w' : xWt} {v : Int32} (hF : F_X7_bestRake  w = some (v, w')) : xMet l G b yX7_bestRake cX7_bestRake 1 (some .int) (xR 4) [.ref (b)] (CW G b w) (some (.int v)) (CW G b w') 0 0 := by
  refine x_of (own := RX7) rfl (plainFor_of_name pn_X7) (Nat.le_of_ble_eq_true rfl) ?_
  intro p e s m args below meth c ha C hr _
  unfold F_X7_bestRake at hF
  refine x_aload_n (pc := 0) C 0 dX7_bestRake_0 rfl rfl ?_
  refine gf_X7_10 (pc := 1) C  dX7_bestRake_1 ?_
  refine cV1_0 (pc := 4) (val := Value.int) C hF (fun _ _ h => c_X6_bestHeap l G b (by decide) h) vm_X6_bestHeap wq1148 rfl rfl ⟨Nat.le_of_ble_eq_true rfl, Nat.le_of_ble_eq_true rfl⟩ rfl rfl (fun _ h => CW.yd h (by decide)) (Nat.le_of_ble_eq_true rfl) ⟨Nat.le_refl _, Nat.le_refl _⟩ dX7_bestRake_4 (fun x2 w1 hF => ?_)
  obtain ⟨rfl, rfl⟩ := ret_eq hF
  exact x_iret (pc := 7) C hr rfl (fun _ h => h) dX7_bestRake_7
set_option maxRecDepth 4000 in
theorem s_X7_bitsOf_17 (C : xC p m c s args meth G b cX7_bitsOf 9 RX7)    : ∀ (n9 : Nat) (l0 : UInt64) (l2 : Int32) (l3 : Int32) (l4 : UInt64) (l6 : Int32) (l7 : Int32) (w : xWt) (o : (UInt64 × Int32 × Int32)) (w' : xWt), L_X7_bitsOf_17  n9 l0 l2 l3 l4 l6 l7 w = some (o, w') → xW p l e (xR 0) s m args below meth c Q b 9 (CW G b w') 0 0 49 [(0, .double (l0)), (2, .int (l2)), (3, .int (l3)), (4, .double (o.1)), (6, .int (o.2.1)), (7, .int (o.2.2))] [] → xW p l e (xR 0) s m args below meth c Q b 9 (CW G b w) 0 0 17 [(0, .double (l0)), (2, .int (l2)), (3, .int (l3)), (4, .double (l4)), (6, .int (l6)), (7, .int (l7))] [] := by
  intro n9
  induction n9 with
  | zero => intro l0 l2 l3 l4 l6 l7 w o w' hF; exact none_ne (show none = some _ from hF)
  | succ n9 ih =>
    intro l0 l2 l3 l4 l6 l7 w o w' hF kx
    replace hF : B_X7_bitsOf_17  (L_X7_bitsOf_17  n9) l0 l2 l3 l4 l6 l7 w = some (o, w') := hF
    unfold B_X7_bitsOf_17 at hF
    refine x_iload (pc := 17) C 5 dX7_bitsOf_17 rfl ?_
    refine x_sipush (pc := 19) C 1000 dX7_bitsOf_19 ks_1000 ?_
    refine x_icmp_ge (pc := 22) C 49 dX7_bitsOf_22 rfl hF (fun c3 hF => ?_) (fun c3 hF => ?_)
    · obtain ⟨rfl, rfl⟩ := ret_eq hF
      exact x_sub [0, 1, 2, 3, 4, 5] rfl kx
    · refine x_dload (pc := 25) C 3 dX7_bitsOf_25 rfl ?_
      refine x_dconst1 (pc := 27) C dX7_bitsOf_27 ?_
      refine x_dcmp (pc := 28) C dX7_bitsOf_28 ?_
      refine x_if_ge (pc := 29) C 49 dX7_bitsOf_29 rfl hF (fun c2 hF => ?_) (fun c2 hF => ?_)
      · obtain ⟨rfl, rfl⟩ := ret_eq hF
        exact x_sub [0, 1, 2, 3, 4, 5] rfl kx
      · refine x_dload (pc := 32) C 3 dX7_bitsOf_32 rfl ?_
        refine x_ldc2d (pc := 34) C wq1284 dX7_bitsOf_34 ?_
        refine y_dmul (pc := 37) C dX7_bitsOf_37 hF (fun x1 hF => ?_)
        refine x_dstore (pc := 38) C [(4, .double (x1)), (0, .double (l0)), (2, .int (l2)), (3, .int (l3)), (6, .int (l6)), (7, .int (l7))] dX7_bitsOf_38 (by decide) rfl ?_
        refine x_iinc (pc := 40) C 4 [(6, .int ((l6 + (-1)))), (4, .double (x1)), (0, .double (l0)), (2, .int (l2)), (3, .int (l3)), (7, .int (l7))] dX7_bitsOf_40 rfl rfl (by decide) rfl ?_
        refine x_iinc (pc := 43) C 5 [(7, .int ((l7 + 1))), (6, .int ((l6 + (-1)))), (4, .double (x1)), (0, .double (l0)), (2, .int (l2)), (3, .int (l3))] dX7_bitsOf_43 rfl rfl (by decide) rfl ?_
        refine x_goto (pc := 46) C 17 dX7_bitsOf_46 rfl ?_
        exact x_sub [3, 4, 5, 2, 1, 0] rfl (ih _ _ _ _ _ _ _ _ _ hF kx)
set_option maxRecDepth 4000 in
theorem s_X7_bitsOf_52 (C : xC p m c s args meth G b cX7_bitsOf 9 RX7)    : ∀ (n9 : Nat) (l0 : UInt64) (l2 : Int32) (l3 : Int32) (l4 : UInt64) (l6 : Int32) (l7 : Int32) (w : xWt) (o : (UInt64 × Int32 × Int32)) (w' : xWt), L_X7_bitsOf_52  n9 l0 l2 l3 l4 l6 l7 w = some (o, w') → xW p l e (xR 0) s m args below meth c Q b 9 (CW G b w') 0 0 86 [(0, .double (l0)), (2, .int (l2)), (3, .int (l3)), (4, .double (o.1)), (6, .int (o.2.1)), (7, .int (o.2.2))] [] → xW p l e (xR 0) s m args below meth c Q b 9 (CW G b w) 0 0 52 [(0, .double (l0)), (2, .int (l2)), (3, .int (l3)), (4, .double (l4)), (6, .int (l6)), (7, .int (l7))] [] := by
  intro n9
  induction n9 with
  | zero => intro l0 l2 l3 l4 l6 l7 w o w' hF; exact none_ne (show none = some _ from hF)
  | succ n9 ih =>
    intro l0 l2 l3 l4 l6 l7 w o w' hF kx
    replace hF : B_X7_bitsOf_52  (L_X7_bitsOf_52  n9) l0 l2 l3 l4 l6 l7 w = some (o, w') := hF
    unfold B_X7_bitsOf_52 at hF
    refine x_iload (pc := 52) C 5 dX7_bitsOf_52 rfl ?_
    refine x_sipush (pc := 54) C 1000 dX7_bitsOf_54 ks_1000 ?_
    refine x_icmp_ge (pc := 57) C 86 dX7_bitsOf_57 rfl hF (fun c8 hF => ?_) (fun c8 hF => ?_)
    · obtain ⟨rfl, rfl⟩ := ret_eq hF
      exact x_sub [0, 1, 2, 3, 4, 5] rfl kx
    · refine x_dload (pc := 60) C 3 dX7_bitsOf_60 rfl ?_
      refine x_ldc2d (pc := 62) C wq1284 dX7_bitsOf_62 ?_
      refine x_dcmp (pc := 65) C dX7_bitsOf_65 ?_
      refine x_if_lt (pc := 66) C 86 dX7_bitsOf_66 rfl hF (fun c7 hF => ?_) (fun c7 hF => ?_)
      · obtain ⟨rfl, rfl⟩ := ret_eq hF
        exact x_sub [0, 1, 2, 3, 4, 5] rfl kx
      · refine x_dload (pc := 69) C 3 dX7_bitsOf_69 rfl ?_
        refine x_ldc2d (pc := 71) C wq1284 dX7_bitsOf_71 ?_
        refine y_ddiv (pc := 74) C dX7_bitsOf_74 hF (fun x6 hF => ?_)
        refine x_dstore (pc := 75) C [(4, .double (x6)), (0, .double (l0)), (2, .int (l2)), (3, .int (l3)), (6, .int (l6)), (7, .int (l7))] dX7_bitsOf_75 (by decide) rfl ?_
        refine x_iinc (pc := 77) C 4 [(6, .int ((l6 + 1))), (4, .double (x6)), (0, .double (l0)), (2, .int (l2)), (3, .int (l3)), (7, .int (l7))] dX7_bitsOf_77 rfl rfl (by decide) rfl ?_
        refine x_iinc (pc := 80) C 5 [(7, .int ((l7 + 1))), (6, .int ((l6 + 1))), (4, .double (x6)), (0, .double (l0)), (2, .int (l2)), (3, .int (l3))] dX7_bitsOf_80 rfl rfl (by decide) rfl ?_
        refine x_goto (pc := 83) C 52 dX7_bitsOf_83 rfl ?_
        exact x_sub [3, 4, 5, 2, 1, 0] rfl (ih _ _ _ _ _ _ _ _ _ hF kx)
set_option maxRecDepth 4000 in
theorem c_X7_bitsOf (l : Launch) (G : xG) (b : Nat)     (a1 : UInt64) (a2 : Int32) (a3 : Int32) {w w' : xWt} {v : Int64} (hF : F_X7_bitsOf a1 a2 a3 w = some (v, w')) : xMet l G b yX7_bitsOf cX7_bitsOf 9 (some .long) (xR 0) [.double (a1), .int (a2), .int (a3)] (CW G b w) (some (.long v)) (CW G b w') 0 0 := by
  refine x_of (own := RX7) rfl (plainFor_of_name pn_X7) (Nat.le_of_ble_eq_true rfl) ?_
  intro p e s m args below meth c ha C hr _
  unfold F_X7_bitsOf at hF
  refine x_dload_n (pc := 0) C 0 dX7_bitsOf_0 rfl rfl ?_
  refine x_dconst0 (pc := 1) C dX7_bitsOf_1 ?_
  refine x_dcmp (pc := 2) C dX7_bitsOf_2 ?_
  refine x_if_gt (pc := 3) C 8 dX7_bitsOf_3 rfl hF (fun c13 hF => ?_) (fun c13 hF => ?_)
  · refine x_dload_n (pc := 8) C 0 dX7_bitsOf_8 rfl rfl ?_
    refine x_dstore (pc := 9) C [(4, .double (a1)), (0, .double (a1)), (2, .int (a2)), (3, .int (a3))] dX7_bitsOf_9 (by decide) rfl ?_
    refine x_iconst (pc := 11) C 0 dX7_bitsOf_11 ki_0 ?_
    refine x_istore (pc := 12) C [(6, .int (0)), (4, .double (a1)), (0, .double (a1)), (2, .int (a2)), (3, .int (a3))] dX7_bitsOf_12 (by decide) rfl ?_
    refine x_iconst (pc := 14) C 0 dX7_bitsOf_14 ki_0 ?_
    refine x_istore (pc := 15) C [(7, .int (0)), (6, .int (0)), (4, .double (a1)), (0, .double (a1)), (2, .int (a2)), (3, .int (a3))] dX7_bitsOf_15 (by decide) rfl ?_
    obtain ⟨o4, w5, hL, hF⟩ := bd_some hF
    refine x_sub [3, 4, 5, 2, 1, 0] rfl (s_X7_bitsOf_17 C  _ _ _ _ _ _ _ _ _ _ hL ?_)
    refine x_iconst (pc := 49) C 0 dX7_bitsOf_49 ki_0 ?_
    refine x_istore (pc := 50) C [(7, .int (0)), (0, .double (a1)), (2, .int (a2)), (3, .int (a3)), (4, .double (o4.1)), (6, .int (o4.2.1))] dX7_bitsOf_50 (by decide) rfl ?_
    obtain ⟨o9, w10, hL, hF⟩ := bd_some hF
    refine x_sub [1, 2, 3, 4, 5, 0] rfl (s_X7_bitsOf_52 C  _ _ _ _ _ _ _ _ _ _ hL ?_)
    refine x_dload (pc := 86) C 3 dX7_bitsOf_86 rfl ?_
    refine x_dconst1 (pc := 88) C dX7_bitsOf_88 ?_
    refine y_dsub (pc := 89) C dX7_bitsOf_89 hF (fun x11 hF => ?_)
    refine x_lconst (pc := 90) C 1 dX7_bitsOf_90 rfl ?_
    refine x_iload_n (pc := 91) C 1 dX7_bitsOf_91 rfl rfl ?_
    refine x_lshl (pc := 92) C dX7_bitsOf_92 ?_
    refine x_l2d (pc := 93) C dX7_bitsOf_93 ?_
    refine y_dmul (pc := 94) C dX7_bitsOf_94 hF (fun x12 hF => ?_)
    refine x_d2l (pc := 95) C dX7_bitsOf_95 ?_
    refine x_lstore (pc := 96) C [(7, .long ((FP.d2l x12))), (0, .double (a1)), (2, .int (a2)), (3, .int (a3)), (4, .double (o9.1)), (6, .int (o9.2.1))] dX7_bitsOf_96 (by decide) rfl ?_
    refine x_iload_n (pc := 98) C 3 dX7_bitsOf_98 rfl rfl ?_
    refine x_iload (pc := 99) C 5 dX7_bitsOf_99 rfl ?_
    refine x_iadd (pc := 101) C dX7_bitsOf_101 ?_
    refine x_i2l (pc := 102) C dX7_bitsOf_102 ?_
    refine x_iload_n (pc := 103) C 2 dX7_bitsOf_103 rfl rfl ?_
    refine x_lshl (pc := 104) C dX7_bitsOf_104 ?_
    refine x_lload (pc := 105) C 0 dX7_bitsOf_105 rfl ?_
    refine x_ladd (pc := 107) C dX7_bitsOf_107 ?_
    obtain ⟨rfl, rfl⟩ := ret_eq hF
    exact x_lret (pc := 108) C hr rfl (fun _ h => h) dX7_bitsOf_108
  · refine x_lconst (pc := 6) C 0 dX7_bitsOf_6 rfl ?_
    obtain ⟨rfl, rfl⟩ := ret_eq hF
    exact x_lret (pc := 7) C hr rfl (fun _ h => h) dX7_bitsOf_7
set_option maxRecDepth 4000 in
theorem c_X7_burntShare (l : Launch) (G : xG) (b : Nat)      {w w' : xWt} {v : UInt64} (hF : F_X7_burntShare  w = some (v, w')) : xMet l G b yX7_burntShare cX7_burntShare 3 (some .double) (xR 2) [.ref (b)] (CW G b w) (some (.double v)) (CW G b w') 0 0 := by
  refine x_of (own := RX7) rfl (plainFor_of_name pn_X7) (Nat.le_of_ble_eq_true rfl) ?_
  intro p e s m args below meth c ha C hr _
  unfold F_X7_burntShare at hF
  refine x_aload_n (pc := 0) C 0 dX7_burntShare_0 rfl rfl ?_
  refine gf_X7_10 (pc := 1) C  dX7_burntShare_1 ?_
  refine gf_X7_107 (pc := 4) C (by decide) dX7_burntShare_4 ?_
  refine x_iconst (pc := 7) C 2 dX7_burntShare_7 ki_2 ?_
  refine cV1_1 (pc := 8) (val := Value.int) C hF (fun _ _ h => c_X2_numberWhere l G b (by decide) _ h) vm_X2_numberWhere wq1240 rfl rfl ⟨Nat.le_of_ble_eq_true rfl, Nat.le_of_ble_eq_true rfl⟩ rfl rfl (fun _ h => CW.lv h (by decide)) (Nat.le_of_ble_eq_true rfl) ⟨Nat.le_refl _, Nat.le_refl _⟩ dX7_burntShare_8 (fun x2 w1 hF => ?_)
  refine x_istore_n (pc := 11) C [(1, .int (x2)), (0, .ref (b))] dX7_burntShare_11 rfl (by decide) rfl ?_
  refine x_iload_n (pc := 12) C 0 dX7_burntShare_12 rfl rfl ?_
  refine x_aload_n (pc := 13) C 1 dX7_burntShare_13 rfl rfl ?_
  refine gf_X7_10 (pc := 14) C  dX7_burntShare_14 ?_
  refine gf_X7_107 (pc := 17) C (by decide) dX7_burntShare_17 ?_
  refine x_iconst (pc := 20) C 1 dX7_burntShare_20 ki_1 ?_
  refine cV1_1 (pc := 21) (val := Value.int) C hF (fun _ _ h => c_X2_numberWhere l G b (by decide) _ h) vm_X2_numberWhere wq1240 rfl rfl ⟨Nat.le_of_ble_eq_true rfl, Nat.le_of_ble_eq_true rfl⟩ rfl rfl (fun _ h => CW.lv h (by decide)) (Nat.le_of_ble_eq_true rfl) ⟨Nat.le_refl _, Nat.le_refl _⟩ dX7_burntShare_21 (fun x4 w3 hF => ?_)
  refine x_iadd (pc := 24) C dX7_burntShare_24 ?_
  refine x_istore_n (pc := 25) C [(2, .int ((x2 + x4))), (1, .int (x2)), (0, .ref (b))] dX7_burntShare_25 rfl (by decide) rfl ?_
  refine x_iload_n (pc := 26) C 0 dX7_burntShare_26 rfl rfl ?_
  refine x_if_ne (pc := 27) C 34 dX7_burntShare_27 rfl hF (fun c6 hF => ?_) (fun c6 hF => ?_)
  · refine x_iload_n (pc := 34) C 1 dX7_burntShare_34 rfl rfl ?_
    refine x_i2d (pc := 35) C dX7_burntShare_35 ?_
    refine x_iload_n (pc := 36) C 0 dX7_burntShare_36 rfl rfl ?_
    refine x_i2d (pc := 37) C dX7_burntShare_37 ?_
    refine y_ddiv (pc := 38) C dX7_burntShare_38 hF (fun x5 hF => ?_)
    obtain ⟨rfl, rfl⟩ := ret_eq hF
    exact x_dret (pc := 39) C hr rfl (fun _ h => h) dX7_burntShare_39
  · refine x_dconst1 (pc := 30) C dX7_burntShare_30 ?_
    refine x_goto (pc := 31) C 39 dX7_burntShare_31 rfl ?_
    obtain ⟨rfl, rfl⟩ := ret_eq hF
    exact x_dret (pc := 39) C hr rfl (fun _ h => h) dX7_burntShare_39
set_option maxRecDepth 4000 in
theorem c_X7_carryOut (l : Launch) (G : xG) (b : Nat)     (a1 : Int32) {w w' : xWt} {v : Int32} (hF : F_X7_carryOut a1 w = some (v, w')) : xMet l G b yX7_carryOut cX7_carryOut 5 (some .int) (xR 5) [.ref (b), .int (a1)] (CW G b w) (some (.int v)) (CW G b w') 0 0 := by
  refine x_of (own := RX7) rfl (plainFor_of_name pn_X7) (Nat.le_of_ble_eq_true rfl) ?_
  intro p e s m args below meth c ha C hr _
  unfold F_X7_carryOut at hF
  refine x_aload_n (pc := 0) C 0 dX7_carryOut_0 rfl rfl ?_
  refine gf_X7_29 (pc := 1) C  dX7_carryOut_1 ?_
  refine x_iload_n (pc := 4) C 1 dX7_carryOut_4 rfl rfl ?_
  refine x_iconst (pc := 5) C 1 dX7_carryOut_5 ki_1 ?_
  refine x_iadd (pc := 6) C dX7_carryOut_6 ?_
  refine cV1_1 (pc := 7) (val := Value.int) C hF (fun _ _ h => c_X3_digitAt l G b  _ h) vm_X3_digitAt wq873 rfl rfl ⟨Nat.le_of_ble_eq_true rfl, Nat.le_of_ble_eq_true rfl⟩ rfl rfl (fun _ h => CW.tx h) (Nat.le_of_ble_eq_true rfl) ⟨Nat.le_refl _, Nat.le_refl _⟩ dX7_carryOut_7 (fun x2 w1 hF => ?_)
  refine x_istore_n (pc := 10) C [(2, .int (x2)), (0, .ref (b)), (1, .int (a1))] dX7_carryOut_10 rfl (by decide) rfl ?_
  refine x_aload_n (pc := 11) C 1 dX7_carryOut_11 rfl rfl ?_
  refine gf_X7_29 (pc := 12) C  dX7_carryOut_12 ?_
  refine x_iload_n (pc := 15) C 2 dX7_carryOut_15 rfl rfl ?_
  refine x_iconst (pc := 16) C 2 dX7_carryOut_16 ki_2 ?_
  refine x_iadd (pc := 17) C dX7_carryOut_17 ?_
  refine cV1_1 (pc := 18) (val := Value.int) C hF (fun _ _ h => c_X3_digitAt l G b  _ h) vm_X3_digitAt wq873 rfl rfl ⟨Nat.le_of_ble_eq_true rfl, Nat.le_of_ble_eq_true rfl⟩ rfl rfl (fun _ h => CW.tx h) (Nat.le_of_ble_eq_true rfl) ⟨Nat.le_refl _, Nat.le_refl _⟩ dX7_carryOut_18 (fun x4 w3 hF => ?_)
  refine x_istore_n (pc := 21) C [(3, .int (x4)), (2, .int (x2)), (0, .ref (b)), (1, .int (a1))] dX7_carryOut_21 rfl (by decide) rfl ?_
  refine x_aload_n (pc := 22) C 2 dX7_carryOut_22 rfl rfl ?_
  refine gf_X7_29 (pc := 23) C  dX7_carryOut_23 ?_
  refine x_iload_n (pc := 26) C 3 dX7_carryOut_26 rfl rfl ?_
  refine x_iconst (pc := 27) C 2 dX7_carryOut_27 ki_2 ?_
  refine x_iadd (pc := 28) C dX7_carryOut_28 ?_
  refine cV1_1 (pc := 29) (val := Value.int) C hF (fun _ _ h => c_X3_branchAt l G b  _ h) vm_X3_branchAt wq877 rfl rfl ⟨Nat.le_of_ble_eq_true rfl, Nat.le_of_ble_eq_true rfl⟩ rfl rfl (fun _ h => CW.tx h) (Nat.le_of_ble_eq_true rfl) ⟨Nat.le_refl _, Nat.le_refl _⟩ dX7_carryOut_29 (fun x6 w5 hF => ?_)
  refine x_istore (pc := 32) C [(4, .int (x6)), (3, .int (x4)), (2, .int (x2)), (0, .ref (b)), (1, .int (a1))] dX7_carryOut_32 (by decide) rfl ?_
  refine x_aload_n (pc := 34) C 3 dX7_carryOut_34 rfl rfl ?_
  refine gf_X7_29 (pc := 35) C  dX7_carryOut_35 ?_
  refine x_iload_n (pc := 38) C 4 dX7_carryOut_38 rfl rfl ?_
  refine cV1_1 (pc := 39) (val := Value.int) C hF (fun _ _ h => c_X3_signAt l G b  _ h) vm_X3_signAt wq881 rfl rfl ⟨Nat.le_of_ble_eq_true rfl, Nat.le_of_ble_eq_true rfl⟩ rfl rfl (fun _ h => CW.tx h) (Nat.le_of_ble_eq_true rfl) ⟨Nat.le_refl _, Nat.le_refl _⟩ dX7_carryOut_39 (fun x8 w7 hF => ?_)
  by_cases c14 : (x8).toInt = 101
  · rw [if_pos c14] at hF
    refine x_tabIn (pc := 42) C 144 dX7_carryOut_42 c14 (by decide) (by decide) rfl rfl ?_
    refine x_aload_n (pc := 144) C 3 dX7_carryOut_144 rfl rfl ?_
    refine gf_X7_10 (pc := 145) C  dX7_carryOut_145 ?_
    refine x_iload_n (pc := 148) C 2 dX7_carryOut_148 rfl rfl ?_
    refine cV1_1 (pc := 149) (val := Value.int) C hF (fun _ _ h => c_X6_mayGoIn l G b (by decide) _ h) vm_X6_mayGoIn wq337 rfl rfl ⟨Nat.le_of_ble_eq_true rfl, Nat.le_of_ble_eq_true rfl⟩ rfl rfl (fun _ h => CW.yd h (by decide)) (Nat.le_of_ble_eq_true rfl) ⟨Nat.le_refl _, Nat.le_refl _⟩ dX7_carryOut_149 (fun x150 w149 hF => ?_)
    refine x_if_eq (pc := 152) C 166 dX7_carryOut_152 rfl hF (fun c153 hF => ?_) (fun c153 hF => ?_)
    · refine x_iconst (pc := 166) C (-1) dX7_carryOut_166 ki_m1 ?_
      obtain ⟨rfl, rfl⟩ := ret_eq hF
      exact x_iret (pc := 167) C hr rfl (fun _ h => h) dX7_carryOut_167
    · refine x_aload_n (pc := 155) C 3 dX7_carryOut_155 rfl rfl ?_
      refine gf_X7_10 (pc := 156) C  dX7_carryOut_156 ?_
      refine x_iload_n (pc := 159) C 2 dX7_carryOut_159 rfl rfl ?_
      refine cV1_1 (pc := 160) (val := Value.int) C hF (fun _ _ h => c_X6_goIn l G b (by decide) _ h) vm_X6_goIn wq346 rfl rfl ⟨Nat.le_of_ble_eq_true rfl, Nat.le_of_ble_eq_true rfl⟩ rfl rfl (fun _ h => CW.yd h (by decide)) (Nat.le_of_ble_eq_true rfl) ⟨Nat.le_refl _, Nat.le_refl _⟩ dX7_carryOut_160 (fun x152 w151 hF => ?_)
      refine x_goto (pc := 163) C 167 dX7_carryOut_163 rfl ?_
      obtain ⟨rfl, rfl⟩ := ret_eq hF
      exact x_iret (pc := 167) C hr rfl (fun _ h => h) dX7_carryOut_167
  · rw [if_neg c14] at hF
    by_cases c15 : (x8).toInt = 102
    · rw [if_pos c15] at hF
      refine x_tabIn (pc := 42) C 427 dX7_carryOut_42 c15 (by decide) (by decide) rfl rfl ?_
      refine x_aload_n (pc := 427) C 3 dX7_carryOut_427 rfl rfl ?_
      refine gf_X7_10 (pc := 428) C  dX7_carryOut_428 ?_
      refine cV1_0 (pc := 431) (val := Value.int) C hF (fun _ _ h => c_X6_mayStrike l G b (by decide) h) vm_X6_mayStrike wq414 rfl rfl ⟨Nat.le_of_ble_eq_true rfl, Nat.le_of_ble_eq_true rfl⟩ rfl rfl (fun _ h => CW.yd h (by decide)) (Nat.le_of_ble_eq_true rfl) ⟨Nat.le_refl _, Nat.le_refl _⟩ dX7_carryOut_431 (fun x145 w144 hF => ?_)
      refine x_if_eq (pc := 434) C 447 dX7_carryOut_434 rfl hF (fun c148 hF => ?_) (fun c148 hF => ?_)
      · refine x_iconst (pc := 447) C (-1) dX7_carryOut_447 ki_m1 ?_
        obtain ⟨rfl, rfl⟩ := ret_eq hF
        exact x_iret (pc := 448) C hr rfl (fun _ h => h) dX7_carryOut_448
      · refine x_aload_n (pc := 437) C 3 dX7_carryOut_437 rfl rfl ?_
        refine gf_X7_10 (pc := 438) C  dX7_carryOut_438 ?_
        refine cV1_0 (pc := 441) (val := Value.int) C hF (fun _ _ h => c_X6_strike l G b (by decide) h) vm_X6_strike wq423 rfl rfl ⟨Nat.le_of_ble_eq_true rfl, Nat.le_of_ble_eq_true rfl⟩ rfl rfl (fun _ h => CW.yd h (by decide)) (Nat.le_of_ble_eq_true rfl) ⟨Nat.le_refl _, Nat.le_refl _⟩ dX7_carryOut_441 (fun x147 w146 hF => ?_)
        refine x_goto (pc := 444) C 448 dX7_carryOut_444 rfl ?_
        obtain ⟨rfl, rfl⟩ := ret_eq hF
        exact x_iret (pc := 448) C hr rfl (fun _ h => h) dX7_carryOut_448
    · rw [if_neg c15] at hF
      by_cases c16 : (x8).toInt = 103
      · rw [if_pos c16] at hF
        refine x_tabIn (pc := 42) C 352 dX7_carryOut_42 c16 (by decide) (by decide) rfl rfl ?_
        refine x_aload_n (pc := 352) C 3 dX7_carryOut_352 rfl rfl ?_
        refine gf_X7_29 (pc := 353) C  dX7_carryOut_353 ?_
        refine x_iload_n (pc := 356) C 4 dX7_carryOut_356 rfl rfl ?_
        refine x_iconst (pc := 357) C 1 dX7_carryOut_357 ki_1 ?_
        refine x_iadd (pc := 358) C dX7_carryOut_358 ?_
        refine cV1_1 (pc := 359) (val := Value.int) C hF (fun _ _ h => c_X3_branchAt l G b  _ h) vm_X3_branchAt wq877 rfl rfl ⟨Nat.le_of_ble_eq_true rfl, Nat.le_of_ble_eq_true rfl⟩ rfl rfl (fun _ h => CW.tx h) (Nat.le_of_ble_eq_true rfl) ⟨Nat.le_refl _, Nat.le_refl _⟩ dX7_carryOut_359 (fun x136 w135 hF => ?_)
        refine x_istore (pc := 362) C [(4, .int (x136)), (3, .int (x4)), (2, .int (x2)), (0, .ref (b)), (1, .int (a1))] dX7_carryOut_362 (by decide) rfl ?_
        refine x_aload_n (pc := 364) C 3 dX7_carryOut_364 rfl rfl ?_
        refine gf_X7_10 (pc := 365) C  dX7_carryOut_365 ?_
        refine x_iload (pc := 368) C 0 dX7_carryOut_368 rfl ?_
        refine cV1_1 (pc := 370) (val := Value.int) C hF (fun _ _ h => c_X6_maySprout l G b (by decide) _ h) vm_X6_maySprout wq456 rfl rfl ⟨Nat.le_of_ble_eq_true rfl, Nat.le_of_ble_eq_true rfl⟩ rfl rfl (fun _ h => CW.yd h (by decide)) (Nat.le_of_ble_eq_true rfl) ⟨Nat.le_refl _, Nat.le_refl _⟩ dX7_carryOut_370 (fun x138 w137 hF => ?_)
        refine x_if_eq (pc := 373) C 401 dX7_carryOut_373 rfl hF (fun c143 hF => ?_) (fun c143 hF => ?_)
        · refine x_iconst (pc := 401) C (-1) dX7_carryOut_401 ki_m1 ?_
          obtain ⟨rfl, rfl⟩ := ret_eq hF
          exact x_iret (pc := 402) C hr rfl (fun _ h => h) dX7_carryOut_402
        · refine x_aload_n (pc := 376) C 3 dX7_carryOut_376 rfl rfl ?_
          refine gf_X7_10 (pc := 377) C  dX7_carryOut_377 ?_
          refine gf_X7_107 (pc := 380) C (by decide) dX7_carryOut_380 ?_
          refine x_iload (pc := 383) C 0 dX7_carryOut_383 rfl ?_
          refine x_aload_n (pc := 385) C 3 dX7_carryOut_385 rfl rfl ?_
          refine gf_X7_29 (pc := 386) C  dX7_carryOut_386 ?_
          refine x_iload_n (pc := 389) C 4 dX7_carryOut_389 rfl rfl ?_
          refine x_iconst (pc := 390) C 2 dX7_carryOut_390 ki_2 ?_
          refine x_iadd (pc := 391) C dX7_carryOut_391 ?_
          refine cV1_1 (pc := 392) (val := Value.int) C hF (fun _ _ h => c_X3_digitAt l G b  _ h) vm_X3_digitAt wq873 rfl rfl ⟨Nat.le_of_ble_eq_true rfl, Nat.le_of_ble_eq_true rfl⟩ rfl rfl (fun _ h => CW.tx h) (Nat.le_of_ble_eq_true rfl) ⟨Nat.le_refl _, Nat.le_refl _⟩ dX7_carryOut_392 (fun x140 w139 hF => ?_)
          refine cV1_2 (pc := 395) (val := Value.int) C hF (fun _ _ h => c_X2_sprout l G b (by decide) _ _ h) vm_X2_sprout wq462 rfl rfl ⟨Nat.le_of_ble_eq_true rfl, Nat.le_of_ble_eq_true rfl⟩ rfl rfl (fun _ h => CW.lv h (by decide)) (Nat.le_of_ble_eq_true rfl) ⟨Nat.le_refl _, Nat.le_refl _⟩ dX7_carryOut_395 (fun x142 w141 hF => ?_)
          refine x_goto (pc := 398) C 402 dX7_carryOut_398 rfl ?_
          obtain ⟨rfl, rfl⟩ := ret_eq hF
          exact x_iret (pc := 402) C hr rfl (fun _ h => h) dX7_carryOut_402
      · rw [if_neg c16] at hF
        by_cases c17 : (x8).toInt = 104
        · rw [if_pos c17] at hF
          refine x_tabIn (pc := 42) C 427 dX7_carryOut_42 c17 (by decide) (by decide) rfl rfl ?_
          refine x_aload_n (pc := 427) C 3 dX7_carryOut_427 rfl rfl ?_
          refine gf_X7_10 (pc := 428) C  dX7_carryOut_428 ?_
          refine cV1_0 (pc := 431) (val := Value.int) C hF (fun _ _ h => c_X6_mayStrike l G b (by decide) h) vm_X6_mayStrike wq414 rfl rfl ⟨Nat.le_of_ble_eq_true rfl, Nat.le_of_ble_eq_true rfl⟩ rfl rfl (fun _ h => CW.yd h (by decide)) (Nat.le_of_ble_eq_true rfl) ⟨Nat.le_refl _, Nat.le_refl _⟩ dX7_carryOut_431 (fun x131 w130 hF => ?_)
          refine x_if_eq (pc := 434) C 447 dX7_carryOut_434 rfl hF (fun c134 hF => ?_) (fun c134 hF => ?_)
          · refine x_iconst (pc := 447) C (-1) dX7_carryOut_447 ki_m1 ?_
            obtain ⟨rfl, rfl⟩ := ret_eq hF
            exact x_iret (pc := 448) C hr rfl (fun _ h => h) dX7_carryOut_448
          · refine x_aload_n (pc := 437) C 3 dX7_carryOut_437 rfl rfl ?_
            refine gf_X7_10 (pc := 438) C  dX7_carryOut_438 ?_
            refine cV1_0 (pc := 441) (val := Value.int) C hF (fun _ _ h => c_X6_strike l G b (by decide) h) vm_X6_strike wq423 rfl rfl ⟨Nat.le_of_ble_eq_true rfl, Nat.le_of_ble_eq_true rfl⟩ rfl rfl (fun _ h => CW.yd h (by decide)) (Nat.le_of_ble_eq_true rfl) ⟨Nat.le_refl _, Nat.le_refl _⟩ dX7_carryOut_441 (fun x133 w132 hF => ?_)
            refine x_goto (pc := 444) C 448 dX7_carryOut_444 rfl ?_
            obtain ⟨rfl, rfl⟩ := ret_eq hF
            exact x_iret (pc := 448) C hr rfl (fun _ h => h) dX7_carryOut_448
        · rw [if_neg c17] at hF
          by_cases c18 : (x8).toInt = 105
          · rw [if_pos c18] at hF
            refine x_tabIn (pc := 42) C 427 dX7_carryOut_42 c18 (by decide) (by decide) rfl rfl ?_
            refine x_aload_n (pc := 427) C 3 dX7_carryOut_427 rfl rfl ?_
            refine gf_X7_10 (pc := 428) C  dX7_carryOut_428 ?_
            refine cV1_0 (pc := 431) (val := Value.int) C hF (fun _ _ h => c_X6_mayStrike l G b (by decide) h) vm_X6_mayStrike wq414 rfl rfl ⟨Nat.le_of_ble_eq_true rfl, Nat.le_of_ble_eq_true rfl⟩ rfl rfl (fun _ h => CW.yd h (by decide)) (Nat.le_of_ble_eq_true rfl) ⟨Nat.le_refl _, Nat.le_refl _⟩ dX7_carryOut_431 (fun x126 w125 hF => ?_)
            refine x_if_eq (pc := 434) C 447 dX7_carryOut_434 rfl hF (fun c129 hF => ?_) (fun c129 hF => ?_)
            · refine x_iconst (pc := 447) C (-1) dX7_carryOut_447 ki_m1 ?_
              obtain ⟨rfl, rfl⟩ := ret_eq hF
              exact x_iret (pc := 448) C hr rfl (fun _ h => h) dX7_carryOut_448
            · refine x_aload_n (pc := 437) C 3 dX7_carryOut_437 rfl rfl ?_
              refine gf_X7_10 (pc := 438) C  dX7_carryOut_438 ?_
              refine cV1_0 (pc := 441) (val := Value.int) C hF (fun _ _ h => c_X6_strike l G b (by decide) h) vm_X6_strike wq423 rfl rfl ⟨Nat.le_of_ble_eq_true rfl, Nat.le_of_ble_eq_true rfl⟩ rfl rfl (fun _ h => CW.yd h (by decide)) (Nat.le_of_ble_eq_true rfl) ⟨Nat.le_refl _, Nat.le_refl _⟩ dX7_carryOut_441 (fun x128 w127 hF => ?_)
              refine x_goto (pc := 444) C 448 dX7_carryOut_444 rfl ?_
              obtain ⟨rfl, rfl⟩ := ret_eq hF
              exact x_iret (pc := 448) C hr rfl (fun _ h => h) dX7_carryOut_448
          · rw [if_neg c18] at hF
            by_cases c19 : (x8).toInt = 106
            · rw [if_pos c19] at hF
              refine x_tabIn (pc := 42) C 427 dX7_carryOut_42 c19 (by decide) (by decide) rfl rfl ?_
              refine x_aload_n (pc := 427) C 3 dX7_carryOut_427 rfl rfl ?_
              refine gf_X7_10 (pc := 428) C  dX7_carryOut_428 ?_
              refine cV1_0 (pc := 431) (val := Value.int) C hF (fun _ _ h => c_X6_mayStrike l G b (by decide) h) vm_X6_mayStrike wq414 rfl rfl ⟨Nat.le_of_ble_eq_true rfl, Nat.le_of_ble_eq_true rfl⟩ rfl rfl (fun _ h => CW.yd h (by decide)) (Nat.le_of_ble_eq_true rfl) ⟨Nat.le_refl _, Nat.le_refl _⟩ dX7_carryOut_431 (fun x121 w120 hF => ?_)
              refine x_if_eq (pc := 434) C 447 dX7_carryOut_434 rfl hF (fun c124 hF => ?_) (fun c124 hF => ?_)
              · refine x_iconst (pc := 447) C (-1) dX7_carryOut_447 ki_m1 ?_
                obtain ⟨rfl, rfl⟩ := ret_eq hF
                exact x_iret (pc := 448) C hr rfl (fun _ h => h) dX7_carryOut_448
              · refine x_aload_n (pc := 437) C 3 dX7_carryOut_437 rfl rfl ?_
                refine gf_X7_10 (pc := 438) C  dX7_carryOut_438 ?_
                refine cV1_0 (pc := 441) (val := Value.int) C hF (fun _ _ h => c_X6_strike l G b (by decide) h) vm_X6_strike wq423 rfl rfl ⟨Nat.le_of_ble_eq_true rfl, Nat.le_of_ble_eq_true rfl⟩ rfl rfl (fun _ h => CW.yd h (by decide)) (Nat.le_of_ble_eq_true rfl) ⟨Nat.le_refl _, Nat.le_refl _⟩ dX7_carryOut_441 (fun x123 w122 hF => ?_)
                refine x_goto (pc := 444) C 448 dX7_carryOut_444 rfl ?_
                obtain ⟨rfl, rfl⟩ := ret_eq hF
                exact x_iret (pc := 448) C hr rfl (fun _ h => h) dX7_carryOut_448
            · rw [if_neg c19] at hF
              by_cases c20 : (x8).toInt = 107
              · rw [if_pos c20] at hF
                refine x_tabIn (pc := 42) C 403 dX7_carryOut_42 c20 (by decide) (by decide) rfl rfl ?_
                refine x_aload_n (pc := 403) C 3 dX7_carryOut_403 rfl rfl ?_
                refine gf_X7_10 (pc := 404) C  dX7_carryOut_404 ?_
                refine x_iload_n (pc := 407) C 2 dX7_carryOut_407 rfl rfl ?_
                refine cV1_1 (pc := 408) (val := Value.int) C hF (fun _ _ h => c_X6_mayClear l G b (by decide) _ h) vm_X6_mayClear wq731 rfl rfl ⟨Nat.le_of_ble_eq_true rfl, Nat.le_of_ble_eq_true rfl⟩ rfl rfl (fun _ h => CW.yd h (by decide)) (Nat.le_of_ble_eq_true rfl) ⟨Nat.le_refl _, Nat.le_refl _⟩ dX7_carryOut_408 (fun x116 w115 hF => ?_)
                refine x_if_eq (pc := 411) C 425 dX7_carryOut_411 rfl hF (fun c119 hF => ?_) (fun c119 hF => ?_)
                · refine x_iconst (pc := 425) C (-1) dX7_carryOut_425 ki_m1 ?_
                  obtain ⟨rfl, rfl⟩ := ret_eq hF
                  exact x_iret (pc := 426) C hr rfl (fun _ h => h) dX7_carryOut_426
                · refine x_aload_n (pc := 414) C 3 dX7_carryOut_414 rfl rfl ?_
                  refine gf_X7_10 (pc := 415) C  dX7_carryOut_415 ?_
                  refine x_iload_n (pc := 418) C 2 dX7_carryOut_418 rfl rfl ?_
                  refine cV1_1 (pc := 419) (val := Value.int) C hF (fun _ _ h => c_X6_clear l G b (by decide) _ h) vm_X6_clear wq735 rfl rfl ⟨Nat.le_of_ble_eq_true rfl, Nat.le_of_ble_eq_true rfl⟩ rfl rfl (fun _ h => CW.yd h (by decide)) (Nat.le_of_ble_eq_true rfl) ⟨Nat.le_refl _, Nat.le_refl _⟩ dX7_carryOut_419 (fun x118 w117 hF => ?_)
                  refine x_goto (pc := 422) C 426 dX7_carryOut_422 rfl ?_
                  obtain ⟨rfl, rfl⟩ := ret_eq hF
                  exact x_iret (pc := 426) C hr rfl (fun _ h => h) dX7_carryOut_426
              · rw [if_neg c20] at hF
                by_cases c21 : (x8).toInt = 108
                · rw [if_pos c21] at hF
                  refine x_tabIn (pc := 42) C 427 dX7_carryOut_42 c21 (by decide) (by decide) rfl rfl ?_
                  refine x_aload_n (pc := 427) C 3 dX7_carryOut_427 rfl rfl ?_
                  refine gf_X7_10 (pc := 428) C  dX7_carryOut_428 ?_
                  refine cV1_0 (pc := 431) (val := Value.int) C hF (fun _ _ h => c_X6_mayStrike l G b (by decide) h) vm_X6_mayStrike wq414 rfl rfl ⟨Nat.le_of_ble_eq_true rfl, Nat.le_of_ble_eq_true rfl⟩ rfl rfl (fun _ h => CW.yd h (by decide)) (Nat.le_of_ble_eq_true rfl) ⟨Nat.le_refl _, Nat.le_refl _⟩ dX7_carryOut_431 (fun x111 w110 hF => ?_)
                  refine x_if_eq (pc := 434) C 447 dX7_carryOut_434 rfl hF (fun c114 hF => ?_) (fun c114 hF => ?_)
                  · refine x_iconst (pc := 447) C (-1) dX7_carryOut_447 ki_m1 ?_
                    obtain ⟨rfl, rfl⟩ := ret_eq hF
                    exact x_iret (pc := 448) C hr rfl (fun _ h => h) dX7_carryOut_448
                  · refine x_aload_n (pc := 437) C 3 dX7_carryOut_437 rfl rfl ?_
                    refine gf_X7_10 (pc := 438) C  dX7_carryOut_438 ?_
                    refine cV1_0 (pc := 441) (val := Value.int) C hF (fun _ _ h => c_X6_strike l G b (by decide) h) vm_X6_strike wq423 rfl rfl ⟨Nat.le_of_ble_eq_true rfl, Nat.le_of_ble_eq_true rfl⟩ rfl rfl (fun _ h => CW.yd h (by decide)) (Nat.le_of_ble_eq_true rfl) ⟨Nat.le_refl _, Nat.le_refl _⟩ dX7_carryOut_441 (fun x113 w112 hF => ?_)
                    refine x_goto (pc := 444) C 448 dX7_carryOut_444 rfl ?_
                    obtain ⟨rfl, rfl⟩ := ret_eq hF
                    exact x_iret (pc := 448) C hr rfl (fun _ h => h) dX7_carryOut_448
                · rw [if_neg c21] at hF
                  by_cases c22 : (x8).toInt = 109
                  · rw [if_pos c22] at hF
                    refine x_tabIn (pc := 42) C 427 dX7_carryOut_42 c22 (by decide) (by decide) rfl rfl ?_
                    refine x_aload_n (pc := 427) C 3 dX7_carryOut_427 rfl rfl ?_
                    refine gf_X7_10 (pc := 428) C  dX7_carryOut_428 ?_
                    refine cV1_0 (pc := 431) (val := Value.int) C hF (fun _ _ h => c_X6_mayStrike l G b (by decide) h) vm_X6_mayStrike wq414 rfl rfl ⟨Nat.le_of_ble_eq_true rfl, Nat.le_of_ble_eq_true rfl⟩ rfl rfl (fun _ h => CW.yd h (by decide)) (Nat.le_of_ble_eq_true rfl) ⟨Nat.le_refl _, Nat.le_refl _⟩ dX7_carryOut_431 (fun x106 w105 hF => ?_)
                    refine x_if_eq (pc := 434) C 447 dX7_carryOut_434 rfl hF (fun c109 hF => ?_) (fun c109 hF => ?_)
                    · refine x_iconst (pc := 447) C (-1) dX7_carryOut_447 ki_m1 ?_
                      obtain ⟨rfl, rfl⟩ := ret_eq hF
                      exact x_iret (pc := 448) C hr rfl (fun _ h => h) dX7_carryOut_448
                    · refine x_aload_n (pc := 437) C 3 dX7_carryOut_437 rfl rfl ?_
                      refine gf_X7_10 (pc := 438) C  dX7_carryOut_438 ?_
                      refine cV1_0 (pc := 441) (val := Value.int) C hF (fun _ _ h => c_X6_strike l G b (by decide) h) vm_X6_strike wq423 rfl rfl ⟨Nat.le_of_ble_eq_true rfl, Nat.le_of_ble_eq_true rfl⟩ rfl rfl (fun _ h => CW.yd h (by decide)) (Nat.le_of_ble_eq_true rfl) ⟨Nat.le_refl _, Nat.le_refl _⟩ dX7_carryOut_441 (fun x108 w107 hF => ?_)
                      refine x_goto (pc := 444) C 448 dX7_carryOut_444 rfl ?_
                      obtain ⟨rfl, rfl⟩ := ret_eq hF
                      exact x_iret (pc := 448) C hr rfl (fun _ h => h) dX7_carryOut_448
                  · rw [if_neg c22] at hF
                    by_cases c23 : (x8).toInt = 110
                    · rw [if_pos c23] at hF
                      refine x_tabIn (pc := 42) C 192 dX7_carryOut_42 c23 (by decide) (by decide) rfl rfl ?_
                      refine x_aload_n (pc := 192) C 3 dX7_carryOut_192 rfl rfl ?_
                      refine gf_X7_29 (pc := 193) C  dX7_carryOut_193 ?_
                      refine x_iload_n (pc := 196) C 4 dX7_carryOut_196 rfl rfl ?_
                      refine x_iconst (pc := 197) C 3 dX7_carryOut_197 ki_3 ?_
                      refine x_iadd (pc := 198) C dX7_carryOut_198 ?_
                      refine cV1_1 (pc := 199) (val := Value.int) C hF (fun _ _ h => c_X3_branchAt l G b  _ h) vm_X3_branchAt wq877 rfl rfl ⟨Nat.le_of_ble_eq_true rfl, Nat.le_of_ble_eq_true rfl⟩ rfl rfl (fun _ h => CW.tx h) (Nat.le_of_ble_eq_true rfl) ⟨Nat.le_refl _, Nat.le_refl _⟩ dX7_carryOut_199 (fun x99 w98 hF => ?_)
                      refine x_istore (pc := 202) C [(4, .int (x99)), (3, .int (x4)), (2, .int (x2)), (0, .ref (b)), (1, .int (a1))] dX7_carryOut_202 (by decide) rfl ?_
                      refine x_aload_n (pc := 204) C 3 dX7_carryOut_204 rfl rfl ?_
                      refine gf_X7_10 (pc := 205) C  dX7_carryOut_205 ?_
                      refine x_iload_n (pc := 208) C 2 dX7_carryOut_208 rfl rfl ?_
                      refine x_iload_n (pc := 209) C 1 dX7_carryOut_209 rfl rfl ?_
                      refine x_iload (pc := 210) C 0 dX7_carryOut_210 rfl ?_
                      refine cV1_3 (pc := 212) (val := Value.int) C hF (fun _ _ h => c_X6_mayWrite l G b (by decide) _ _ _ h) vm_X6_mayWrite wq496 rfl rfl ⟨Nat.le_of_ble_eq_true rfl, Nat.le_of_ble_eq_true rfl⟩ rfl rfl (fun _ h => CW.yd h (by decide)) (Nat.le_of_ble_eq_true rfl) ⟨Nat.le_refl _, Nat.le_refl _⟩ dX7_carryOut_212 (fun x101 w100 hF => ?_)
                      refine x_if_eq (pc := 215) C 232 dX7_carryOut_215 rfl hF (fun c104 hF => ?_) (fun c104 hF => ?_)
                      · refine x_iconst (pc := 232) C (-1) dX7_carryOut_232 ki_m1 ?_
                        obtain ⟨rfl, rfl⟩ := ret_eq hF
                        exact x_iret (pc := 233) C hr rfl (fun _ h => h) dX7_carryOut_233
                      · refine x_aload_n (pc := 218) C 3 dX7_carryOut_218 rfl rfl ?_
                        refine gf_X7_10 (pc := 219) C  dX7_carryOut_219 ?_
                        refine x_iload_n (pc := 222) C 2 dX7_carryOut_222 rfl rfl ?_
                        refine x_iload_n (pc := 223) C 1 dX7_carryOut_223 rfl rfl ?_
                        refine x_iload (pc := 224) C 0 dX7_carryOut_224 rfl ?_
                        refine cV1_3 (pc := 226) (val := Value.int) C hF (fun _ _ h => c_X6_write l G b (by decide) _ _ _ h) vm_X6_write wq505 rfl rfl ⟨Nat.le_of_ble_eq_true rfl, Nat.le_of_ble_eq_true rfl⟩ rfl rfl (fun _ h => CW.yd h (by decide)) (Nat.le_of_ble_eq_true rfl) ⟨Nat.le_refl _, Nat.le_refl _⟩ dX7_carryOut_226 (fun x103 w102 hF => ?_)
                        refine x_goto (pc := 229) C 233 dX7_carryOut_229 rfl ?_
                        obtain ⟨rfl, rfl⟩ := ret_eq hF
                        exact x_iret (pc := 233) C hr rfl (fun _ h => h) dX7_carryOut_233
                    · rw [if_neg c23] at hF
                      by_cases c24 : (x8).toInt = 111
                      · rw [if_pos c24] at hF
                        refine x_tabIn (pc := 42) C 427 dX7_carryOut_42 c24 (by decide) (by decide) rfl rfl ?_
                        refine x_aload_n (pc := 427) C 3 dX7_carryOut_427 rfl rfl ?_
                        refine gf_X7_10 (pc := 428) C  dX7_carryOut_428 ?_
                        refine cV1_0 (pc := 431) (val := Value.int) C hF (fun _ _ h => c_X6_mayStrike l G b (by decide) h) vm_X6_mayStrike wq414 rfl rfl ⟨Nat.le_of_ble_eq_true rfl, Nat.le_of_ble_eq_true rfl⟩ rfl rfl (fun _ h => CW.yd h (by decide)) (Nat.le_of_ble_eq_true rfl) ⟨Nat.le_refl _, Nat.le_refl _⟩ dX7_carryOut_431 (fun x94 w93 hF => ?_)
                        refine x_if_eq (pc := 434) C 447 dX7_carryOut_434 rfl hF (fun c97 hF => ?_) (fun c97 hF => ?_)
                        · refine x_iconst (pc := 447) C (-1) dX7_carryOut_447 ki_m1 ?_
                          obtain ⟨rfl, rfl⟩ := ret_eq hF
                          exact x_iret (pc := 448) C hr rfl (fun _ h => h) dX7_carryOut_448
                        · refine x_aload_n (pc := 437) C 3 dX7_carryOut_437 rfl rfl ?_
                          refine gf_X7_10 (pc := 438) C  dX7_carryOut_438 ?_
                          refine cV1_0 (pc := 441) (val := Value.int) C hF (fun _ _ h => c_X6_strike l G b (by decide) h) vm_X6_strike wq423 rfl rfl ⟨Nat.le_of_ble_eq_true rfl, Nat.le_of_ble_eq_true rfl⟩ rfl rfl (fun _ h => CW.yd h (by decide)) (Nat.le_of_ble_eq_true rfl) ⟨Nat.le_refl _, Nat.le_refl _⟩ dX7_carryOut_441 (fun x96 w95 hF => ?_)
                          refine x_goto (pc := 444) C 448 dX7_carryOut_444 rfl ?_
                          obtain ⟨rfl, rfl⟩ := ret_eq hF
                          exact x_iret (pc := 448) C hr rfl (fun _ h => h) dX7_carryOut_448
                      · rw [if_neg c24] at hF
                        by_cases c25 : (x8).toInt = 112
                        · rw [if_pos c25] at hF
                          refine x_tabIn (pc := 42) C 234 dX7_carryOut_42 c25 (by decide) (by decide) rfl rfl ?_
                          refine x_aload_n (pc := 234) C 3 dX7_carryOut_234 rfl rfl ?_
                          refine gf_X7_10 (pc := 235) C  dX7_carryOut_235 ?_
                          refine x_iload_n (pc := 238) C 2 dX7_carryOut_238 rfl rfl ?_
                          refine x_iload_n (pc := 239) C 1 dX7_carryOut_239 rfl rfl ?_
                          refine cV1_2 (pc := 240) (val := Value.int) C hF (fun _ _ h => c_X6_mayFasten l G b (by decide) _ _ h) vm_X6_mayFasten wq535 rfl rfl ⟨Nat.le_of_ble_eq_true rfl, Nat.le_of_ble_eq_true rfl⟩ rfl rfl (fun _ h => CW.yd h (by decide)) (Nat.le_of_ble_eq_true rfl) ⟨Nat.le_refl _, Nat.le_refl _⟩ dX7_carryOut_240 (fun x89 w88 hF => ?_)
                          refine x_if_eq (pc := 243) C 258 dX7_carryOut_243 rfl hF (fun c92 hF => ?_) (fun c92 hF => ?_)
                          · refine x_iconst (pc := 258) C (-1) dX7_carryOut_258 ki_m1 ?_
                            obtain ⟨rfl, rfl⟩ := ret_eq hF
                            exact x_iret (pc := 259) C hr rfl (fun _ h => h) dX7_carryOut_259
                          · refine x_aload_n (pc := 246) C 3 dX7_carryOut_246 rfl rfl ?_
                            refine gf_X7_10 (pc := 247) C  dX7_carryOut_247 ?_
                            refine x_iload_n (pc := 250) C 2 dX7_carryOut_250 rfl rfl ?_
                            refine x_iload_n (pc := 251) C 1 dX7_carryOut_251 rfl rfl ?_
                            refine cV1_2 (pc := 252) (val := Value.int) C hF (fun _ _ h => c_X6_fasten l G b (by decide) _ _ h) vm_X6_fasten wq539 rfl rfl ⟨Nat.le_of_ble_eq_true rfl, Nat.le_of_ble_eq_true rfl⟩ rfl rfl (fun _ h => CW.yd h (by decide)) (Nat.le_of_ble_eq_true rfl) ⟨Nat.le_refl _, Nat.le_refl _⟩ dX7_carryOut_252 (fun x91 w90 hF => ?_)
                            refine x_goto (pc := 255) C 259 dX7_carryOut_255 rfl ?_
                            obtain ⟨rfl, rfl⟩ := ret_eq hF
                            exact x_iret (pc := 259) C hr rfl (fun _ h => h) dX7_carryOut_259
                        · rw [if_neg c25] at hF
                          by_cases c26 : (x8).toInt = 113
                          · rw [if_pos c26] at hF
                            refine x_tabIn (pc := 42) C 427 dX7_carryOut_42 c26 (by decide) (by decide) rfl rfl ?_
                            refine x_aload_n (pc := 427) C 3 dX7_carryOut_427 rfl rfl ?_
                            refine gf_X7_10 (pc := 428) C  dX7_carryOut_428 ?_
                            refine cV1_0 (pc := 431) (val := Value.int) C hF (fun _ _ h => c_X6_mayStrike l G b (by decide) h) vm_X6_mayStrike wq414 rfl rfl ⟨Nat.le_of_ble_eq_true rfl, Nat.le_of_ble_eq_true rfl⟩ rfl rfl (fun _ h => CW.yd h (by decide)) (Nat.le_of_ble_eq_true rfl) ⟨Nat.le_refl _, Nat.le_refl _⟩ dX7_carryOut_431 (fun x84 w83 hF => ?_)
                            refine x_if_eq (pc := 434) C 447 dX7_carryOut_434 rfl hF (fun c87 hF => ?_) (fun c87 hF => ?_)
                            · refine x_iconst (pc := 447) C (-1) dX7_carryOut_447 ki_m1 ?_
                              obtain ⟨rfl, rfl⟩ := ret_eq hF
                              exact x_iret (pc := 448) C hr rfl (fun _ h => h) dX7_carryOut_448
                            · refine x_aload_n (pc := 437) C 3 dX7_carryOut_437 rfl rfl ?_
                              refine gf_X7_10 (pc := 438) C  dX7_carryOut_438 ?_
                              refine cV1_0 (pc := 441) (val := Value.int) C hF (fun _ _ h => c_X6_strike l G b (by decide) h) vm_X6_strike wq423 rfl rfl ⟨Nat.le_of_ble_eq_true rfl, Nat.le_of_ble_eq_true rfl⟩ rfl rfl (fun _ h => CW.yd h (by decide)) (Nat.le_of_ble_eq_true rfl) ⟨Nat.le_refl _, Nat.le_refl _⟩ dX7_carryOut_441 (fun x86 w85 hF => ?_)
                              refine x_goto (pc := 444) C 448 dX7_carryOut_444 rfl ?_
                              obtain ⟨rfl, rfl⟩ := ret_eq hF
                              exact x_iret (pc := 448) C hr rfl (fun _ h => h) dX7_carryOut_448
                          · rw [if_neg c26] at hF
                            by_cases c27 : (x8).toInt = 114
                            · rw [if_pos c27] at hF
                              refine x_tabIn (pc := 42) C 427 dX7_carryOut_42 c27 (by decide) (by decide) rfl rfl ?_
                              refine x_aload_n (pc := 427) C 3 dX7_carryOut_427 rfl rfl ?_
                              refine gf_X7_10 (pc := 428) C  dX7_carryOut_428 ?_
                              refine cV1_0 (pc := 431) (val := Value.int) C hF (fun _ _ h => c_X6_mayStrike l G b (by decide) h) vm_X6_mayStrike wq414 rfl rfl ⟨Nat.le_of_ble_eq_true rfl, Nat.le_of_ble_eq_true rfl⟩ rfl rfl (fun _ h => CW.yd h (by decide)) (Nat.le_of_ble_eq_true rfl) ⟨Nat.le_refl _, Nat.le_refl _⟩ dX7_carryOut_431 (fun x79 w78 hF => ?_)
                              refine x_if_eq (pc := 434) C 447 dX7_carryOut_434 rfl hF (fun c82 hF => ?_) (fun c82 hF => ?_)
                              · refine x_iconst (pc := 447) C (-1) dX7_carryOut_447 ki_m1 ?_
                                obtain ⟨rfl, rfl⟩ := ret_eq hF
                                exact x_iret (pc := 448) C hr rfl (fun _ h => h) dX7_carryOut_448
                              · refine x_aload_n (pc := 437) C 3 dX7_carryOut_437 rfl rfl ?_
                                refine gf_X7_10 (pc := 438) C  dX7_carryOut_438 ?_
                                refine cV1_0 (pc := 441) (val := Value.int) C hF (fun _ _ h => c_X6_strike l G b (by decide) h) vm_X6_strike wq423 rfl rfl ⟨Nat.le_of_ble_eq_true rfl, Nat.le_of_ble_eq_true rfl⟩ rfl rfl (fun _ h => CW.yd h (by decide)) (Nat.le_of_ble_eq_true rfl) ⟨Nat.le_refl _, Nat.le_refl _⟩ dX7_carryOut_441 (fun x81 w80 hF => ?_)
                                refine x_goto (pc := 444) C 448 dX7_carryOut_444 rfl ?_
                                obtain ⟨rfl, rfl⟩ := ret_eq hF
                                exact x_iret (pc := 448) C hr rfl (fun _ h => h) dX7_carryOut_448
                            · rw [if_neg c27] at hF
                              by_cases c28 : (x8).toInt = 115
                              · rw [if_pos c28] at hF
                                refine x_tabIn (pc := 42) C 427 dX7_carryOut_42 c28 (by decide) (by decide) rfl rfl ?_
                                refine x_aload_n (pc := 427) C 3 dX7_carryOut_427 rfl rfl ?_
                                refine gf_X7_10 (pc := 428) C  dX7_carryOut_428 ?_
                                refine cV1_0 (pc := 431) (val := Value.int) C hF (fun _ _ h => c_X6_mayStrike l G b (by decide) h) vm_X6_mayStrike wq414 rfl rfl ⟨Nat.le_of_ble_eq_true rfl, Nat.le_of_ble_eq_true rfl⟩ rfl rfl (fun _ h => CW.yd h (by decide)) (Nat.le_of_ble_eq_true rfl) ⟨Nat.le_refl _, Nat.le_refl _⟩ dX7_carryOut_431 (fun x74 w73 hF => ?_)
                                refine x_if_eq (pc := 434) C 447 dX7_carryOut_434 rfl hF (fun c77 hF => ?_) (fun c77 hF => ?_)
                                · refine x_iconst (pc := 447) C (-1) dX7_carryOut_447 ki_m1 ?_
                                  obtain ⟨rfl, rfl⟩ := ret_eq hF
                                  exact x_iret (pc := 448) C hr rfl (fun _ h => h) dX7_carryOut_448
                                · refine x_aload_n (pc := 437) C 3 dX7_carryOut_437 rfl rfl ?_
                                  refine gf_X7_10 (pc := 438) C  dX7_carryOut_438 ?_
                                  refine cV1_0 (pc := 441) (val := Value.int) C hF (fun _ _ h => c_X6_strike l G b (by decide) h) vm_X6_strike wq423 rfl rfl ⟨Nat.le_of_ble_eq_true rfl, Nat.le_of_ble_eq_true rfl⟩ rfl rfl (fun _ h => CW.yd h (by decide)) (Nat.le_of_ble_eq_true rfl) ⟨Nat.le_refl _, Nat.le_refl _⟩ dX7_carryOut_441 (fun x76 w75 hF => ?_)
                                  refine x_goto (pc := 444) C 448 dX7_carryOut_444 rfl ?_
                                  obtain ⟨rfl, rfl⟩ := ret_eq hF
                                  exact x_iret (pc := 448) C hr rfl (fun _ h => h) dX7_carryOut_448
                              · rw [if_neg c28] at hF
                                by_cases c29 : (x8).toInt = 116
                                · rw [if_pos c29] at hF
                                  refine x_tabIn (pc := 42) C 286 dX7_carryOut_42 c29 (by decide) (by decide) rfl rfl ?_
                                  refine x_aload_n (pc := 286) C 3 dX7_carryOut_286 rfl rfl ?_
                                  refine gf_X7_10 (pc := 287) C  dX7_carryOut_287 ?_
                                  refine x_iload_n (pc := 290) C 2 dX7_carryOut_290 rfl rfl ?_
                                  refine x_iload (pc := 291) C 0 dX7_carryOut_291 rfl ?_
                                  refine cV1_2 (pc := 293) (val := Value.int) C hF (fun _ _ h => c_X6_mayTakeOff l G b (by decide) _ _ h) vm_X6_mayTakeOff wq619 rfl rfl ⟨Nat.le_of_ble_eq_true rfl, Nat.le_of_ble_eq_true rfl⟩ rfl rfl (fun _ h => CW.yd h (by decide)) (Nat.le_of_ble_eq_true rfl) ⟨Nat.le_refl _, Nat.le_refl _⟩ dX7_carryOut_293 (fun x69 w68 hF => ?_)
                                  refine x_if_eq (pc := 296) C 312 dX7_carryOut_296 rfl hF (fun c72 hF => ?_) (fun c72 hF => ?_)
                                  · refine x_iconst (pc := 312) C (-1) dX7_carryOut_312 ki_m1 ?_
                                    obtain ⟨rfl, rfl⟩ := ret_eq hF
                                    exact x_iret (pc := 313) C hr rfl (fun _ h => h) dX7_carryOut_313
                                  · refine x_aload_n (pc := 299) C 3 dX7_carryOut_299 rfl rfl ?_
                                    refine gf_X7_10 (pc := 300) C  dX7_carryOut_300 ?_
                                    refine x_iload_n (pc := 303) C 2 dX7_carryOut_303 rfl rfl ?_
                                    refine x_iload (pc := 304) C 0 dX7_carryOut_304 rfl ?_
                                    refine cV1_2 (pc := 306) (val := Value.int) C hF (fun _ _ h => c_X6_takeOff l G b (by decide) _ _ h) vm_X6_takeOff wq623 rfl rfl ⟨Nat.le_of_ble_eq_true rfl, Nat.le_of_ble_eq_true rfl⟩ rfl rfl (fun _ h => CW.yd h (by decide)) (Nat.le_of_ble_eq_true rfl) ⟨Nat.le_refl _, Nat.le_refl _⟩ dX7_carryOut_306 (fun x71 w70 hF => ?_)
                                    refine x_goto (pc := 309) C 313 dX7_carryOut_309 rfl ?_
                                    obtain ⟨rfl, rfl⟩ := ret_eq hF
                                    exact x_iret (pc := 313) C hr rfl (fun _ h => h) dX7_carryOut_313
                                · rw [if_neg c29] at hF
                                  by_cases c30 : (x8).toInt = 117
                                  · rw [if_pos c30] at hF
                                    refine x_tabIn (pc := 42) C 427 dX7_carryOut_42 c30 (by decide) (by decide) rfl rfl ?_
                                    refine x_aload_n (pc := 427) C 3 dX7_carryOut_427 rfl rfl ?_
                                    refine gf_X7_10 (pc := 428) C  dX7_carryOut_428 ?_
                                    refine cV1_0 (pc := 431) (val := Value.int) C hF (fun _ _ h => c_X6_mayStrike l G b (by decide) h) vm_X6_mayStrike wq414 rfl rfl ⟨Nat.le_of_ble_eq_true rfl, Nat.le_of_ble_eq_true rfl⟩ rfl rfl (fun _ h => CW.yd h (by decide)) (Nat.le_of_ble_eq_true rfl) ⟨Nat.le_refl _, Nat.le_refl _⟩ dX7_carryOut_431 (fun x64 w63 hF => ?_)
                                    refine x_if_eq (pc := 434) C 447 dX7_carryOut_434 rfl hF (fun c67 hF => ?_) (fun c67 hF => ?_)
                                    · refine x_iconst (pc := 447) C (-1) dX7_carryOut_447 ki_m1 ?_
                                      obtain ⟨rfl, rfl⟩ := ret_eq hF
                                      exact x_iret (pc := 448) C hr rfl (fun _ h => h) dX7_carryOut_448
                                    · refine x_aload_n (pc := 437) C 3 dX7_carryOut_437 rfl rfl ?_
                                      refine gf_X7_10 (pc := 438) C  dX7_carryOut_438 ?_
                                      refine cV1_0 (pc := 441) (val := Value.int) C hF (fun _ _ h => c_X6_strike l G b (by decide) h) vm_X6_strike wq423 rfl rfl ⟨Nat.le_of_ble_eq_true rfl, Nat.le_of_ble_eq_true rfl⟩ rfl rfl (fun _ h => CW.yd h (by decide)) (Nat.le_of_ble_eq_true rfl) ⟨Nat.le_refl _, Nat.le_refl _⟩ dX7_carryOut_441 (fun x66 w65 hF => ?_)
                                      refine x_goto (pc := 444) C 448 dX7_carryOut_444 rfl ?_
                                      obtain ⟨rfl, rfl⟩ := ret_eq hF
                                      exact x_iret (pc := 448) C hr rfl (fun _ h => h) dX7_carryOut_448
                                  · rw [if_neg c30] at hF
                                    by_cases c31 : (x8).toInt = 118
                                    · rw [if_pos c31] at hF
                                      refine x_tabIn (pc := 42) C 427 dX7_carryOut_42 c31 (by decide) (by decide) rfl rfl ?_
                                      refine x_aload_n (pc := 427) C 3 dX7_carryOut_427 rfl rfl ?_
                                      refine gf_X7_10 (pc := 428) C  dX7_carryOut_428 ?_
                                      refine cV1_0 (pc := 431) (val := Value.int) C hF (fun _ _ h => c_X6_mayStrike l G b (by decide) h) vm_X6_mayStrike wq414 rfl rfl ⟨Nat.le_of_ble_eq_true rfl, Nat.le_of_ble_eq_true rfl⟩ rfl rfl (fun _ h => CW.yd h (by decide)) (Nat.le_of_ble_eq_true rfl) ⟨Nat.le_refl _, Nat.le_refl _⟩ dX7_carryOut_431 (fun x59 w58 hF => ?_)
                                      refine x_if_eq (pc := 434) C 447 dX7_carryOut_434 rfl hF (fun c62 hF => ?_) (fun c62 hF => ?_)
                                      · refine x_iconst (pc := 447) C (-1) dX7_carryOut_447 ki_m1 ?_
                                        obtain ⟨rfl, rfl⟩ := ret_eq hF
                                        exact x_iret (pc := 448) C hr rfl (fun _ h => h) dX7_carryOut_448
                                      · refine x_aload_n (pc := 437) C 3 dX7_carryOut_437 rfl rfl ?_
                                        refine gf_X7_10 (pc := 438) C  dX7_carryOut_438 ?_
                                        refine cV1_0 (pc := 441) (val := Value.int) C hF (fun _ _ h => c_X6_strike l G b (by decide) h) vm_X6_strike wq423 rfl rfl ⟨Nat.le_of_ble_eq_true rfl, Nat.le_of_ble_eq_true rfl⟩ rfl rfl (fun _ h => CW.yd h (by decide)) (Nat.le_of_ble_eq_true rfl) ⟨Nat.le_refl _, Nat.le_refl _⟩ dX7_carryOut_441 (fun x61 w60 hF => ?_)
                                        refine x_goto (pc := 444) C 448 dX7_carryOut_444 rfl ?_
                                        obtain ⟨rfl, rfl⟩ := ret_eq hF
                                        exact x_iret (pc := 448) C hr rfl (fun _ h => h) dX7_carryOut_448
                                    · rw [if_neg c31] at hF
                                      by_cases c32 : (x8).toInt = 119
                                      · rw [if_pos c32] at hF
                                        refine x_tabIn (pc := 42) C 314 dX7_carryOut_42 c32 (by decide) (by decide) rfl rfl ?_
                                        refine x_aload_n (pc := 314) C 3 dX7_carryOut_314 rfl rfl ?_
                                        refine gf_X7_10 (pc := 315) C  dX7_carryOut_315 ?_
                                        refine x_iload_n (pc := 318) C 2 dX7_carryOut_318 rfl rfl ?_
                                        refine x_iload (pc := 319) C 0 dX7_carryOut_319 rfl ?_
                                        refine cV1_2 (pc := 321) (val := Value.int) C hF (fun _ _ h => c_X6_mayExchange l G b (by decide) _ _ h) vm_X6_mayExchange wq701 rfl rfl ⟨Nat.le_of_ble_eq_true rfl, Nat.le_of_ble_eq_true rfl⟩ rfl rfl (fun _ h => CW.yd h (by decide)) (Nat.le_of_ble_eq_true rfl) ⟨Nat.le_refl _, Nat.le_refl _⟩ dX7_carryOut_321 (fun x52 w51 hF => ?_)
                                        refine x_if_eq (pc := 324) C 350 dX7_carryOut_324 rfl hF (fun c57 hF => ?_) (fun c57 hF => ?_)
                                        · refine x_iconst (pc := 350) C (-1) dX7_carryOut_350 ki_m1 ?_
                                          obtain ⟨rfl, rfl⟩ := ret_eq hF
                                          exact x_iret (pc := 351) C hr rfl (fun _ h => h) dX7_carryOut_351
                                        · refine x_aload_n (pc := 327) C 3 dX7_carryOut_327 rfl rfl ?_
                                          refine gf_X7_10 (pc := 328) C  dX7_carryOut_328 ?_
                                          refine x_iload_n (pc := 331) C 2 dX7_carryOut_331 rfl rfl ?_
                                          refine x_iload (pc := 332) C 0 dX7_carryOut_332 rfl ?_
                                          refine x_aload_n (pc := 334) C 3 dX7_carryOut_334 rfl rfl ?_
                                          refine gf_X7_29 (pc := 335) C  dX7_carryOut_335 ?_
                                          refine x_iload_n (pc := 338) C 4 dX7_carryOut_338 rfl rfl ?_
                                          refine x_iconst (pc := 339) C 3 dX7_carryOut_339 ki_3 ?_
                                          refine x_iadd (pc := 340) C dX7_carryOut_340 ?_
                                          refine cV1_1 (pc := 341) (val := Value.int) C hF (fun _ _ h => c_X3_digitAt l G b  _ h) vm_X3_digitAt wq873 rfl rfl ⟨Nat.le_of_ble_eq_true rfl, Nat.le_of_ble_eq_true rfl⟩ rfl rfl (fun _ h => CW.tx h) (Nat.le_of_ble_eq_true rfl) ⟨Nat.le_refl _, Nat.le_refl _⟩ dX7_carryOut_341 (fun x54 w53 hF => ?_)
                                          refine cV1_3 (pc := 344) (val := Value.int) C hF (fun _ _ h => c_X6_exchange l G b (by decide) _ _ _ h) vm_X6_exchange wq706 rfl rfl ⟨Nat.le_of_ble_eq_true rfl, Nat.le_of_ble_eq_true rfl⟩ rfl rfl (fun _ h => CW.yd h (by decide)) (Nat.le_of_ble_eq_true rfl) ⟨Nat.le_refl _, Nat.le_refl _⟩ dX7_carryOut_344 (fun x56 w55 hF => ?_)
                                          refine x_goto (pc := 347) C 351 dX7_carryOut_347 rfl ?_
                                          obtain ⟨rfl, rfl⟩ := ret_eq hF
                                          exact x_iret (pc := 351) C hr rfl (fun _ h => h) dX7_carryOut_351
                                      · rw [if_neg c32] at hF
                                        by_cases c33 : (x8).toInt = 120
                                        · rw [if_pos c33] at hF
                                          refine x_tabIn (pc := 42) C 260 dX7_carryOut_42 c33 (by decide) (by decide) rfl rfl ?_
                                          refine x_aload_n (pc := 260) C 3 dX7_carryOut_260 rfl rfl ?_
                                          refine gf_X7_10 (pc := 261) C  dX7_carryOut_261 ?_
                                          refine x_iload_n (pc := 264) C 2 dX7_carryOut_264 rfl rfl ?_
                                          refine x_iload_n (pc := 265) C 1 dX7_carryOut_265 rfl rfl ?_
                                          refine cV1_2 (pc := 266) (val := Value.int) C hF (fun _ _ h => c_X6_mayRelease l G b (by decide) _ _ h) vm_X6_mayRelease wq575 rfl rfl ⟨Nat.le_of_ble_eq_true rfl, Nat.le_of_ble_eq_true rfl⟩ rfl rfl (fun _ h => CW.yd h (by decide)) (Nat.le_of_ble_eq_true rfl) ⟨Nat.le_refl _, Nat.le_refl _⟩ dX7_carryOut_266 (fun x47 w46 hF => ?_)
                                          refine x_if_eq (pc := 269) C 284 dX7_carryOut_269 rfl hF (fun c50 hF => ?_) (fun c50 hF => ?_)
                                          · refine x_iconst (pc := 284) C (-1) dX7_carryOut_284 ki_m1 ?_
                                            obtain ⟨rfl, rfl⟩ := ret_eq hF
                                            exact x_iret (pc := 285) C hr rfl (fun _ h => h) dX7_carryOut_285
                                          · refine x_aload_n (pc := 272) C 3 dX7_carryOut_272 rfl rfl ?_
                                            refine gf_X7_10 (pc := 273) C  dX7_carryOut_273 ?_
                                            refine x_iload_n (pc := 276) C 2 dX7_carryOut_276 rfl rfl ?_
                                            refine x_iload_n (pc := 277) C 1 dX7_carryOut_277 rfl rfl ?_
                                            refine cV1_2 (pc := 278) (val := Value.int) C hF (fun _ _ h => c_X6_release l G b (by decide) _ _ h) vm_X6_release wq579 rfl rfl ⟨Nat.le_of_ble_eq_true rfl, Nat.le_of_ble_eq_true rfl⟩ rfl rfl (fun _ h => CW.yd h (by decide)) (Nat.le_of_ble_eq_true rfl) ⟨Nat.le_refl _, Nat.le_refl _⟩ dX7_carryOut_278 (fun x49 w48 hF => ?_)
                                            refine x_goto (pc := 281) C 285 dX7_carryOut_281 rfl ?_
                                            obtain ⟨rfl, rfl⟩ := ret_eq hF
                                            exact x_iret (pc := 285) C hr rfl (fun _ h => h) dX7_carryOut_285
                                        · rw [if_neg c33] at hF
                                          by_cases c34 : (x8).toInt = 121
                                          · rw [if_pos c34] at hF
                                            refine x_tabIn (pc := 42) C 427 dX7_carryOut_42 c34 (by decide) (by decide) rfl rfl ?_
                                            refine x_aload_n (pc := 427) C 3 dX7_carryOut_427 rfl rfl ?_
                                            refine gf_X7_10 (pc := 428) C  dX7_carryOut_428 ?_
                                            refine cV1_0 (pc := 431) (val := Value.int) C hF (fun _ _ h => c_X6_mayStrike l G b (by decide) h) vm_X6_mayStrike wq414 rfl rfl ⟨Nat.le_of_ble_eq_true rfl, Nat.le_of_ble_eq_true rfl⟩ rfl rfl (fun _ h => CW.yd h (by decide)) (Nat.le_of_ble_eq_true rfl) ⟨Nat.le_refl _, Nat.le_refl _⟩ dX7_carryOut_431 (fun x42 w41 hF => ?_)
                                            refine x_if_eq (pc := 434) C 447 dX7_carryOut_434 rfl hF (fun c45 hF => ?_) (fun c45 hF => ?_)
                                            · refine x_iconst (pc := 447) C (-1) dX7_carryOut_447 ki_m1 ?_
                                              obtain ⟨rfl, rfl⟩ := ret_eq hF
                                              exact x_iret (pc := 448) C hr rfl (fun _ h => h) dX7_carryOut_448
                                            · refine x_aload_n (pc := 437) C 3 dX7_carryOut_437 rfl rfl ?_
                                              refine gf_X7_10 (pc := 438) C  dX7_carryOut_438 ?_
                                              refine cV1_0 (pc := 441) (val := Value.int) C hF (fun _ _ h => c_X6_strike l G b (by decide) h) vm_X6_strike wq423 rfl rfl ⟨Nat.le_of_ble_eq_true rfl, Nat.le_of_ble_eq_true rfl⟩ rfl rfl (fun _ h => CW.yd h (by decide)) (Nat.le_of_ble_eq_true rfl) ⟨Nat.le_refl _, Nat.le_refl _⟩ dX7_carryOut_441 (fun x44 w43 hF => ?_)
                                              refine x_goto (pc := 444) C 448 dX7_carryOut_444 rfl ?_
                                              obtain ⟨rfl, rfl⟩ := ret_eq hF
                                              exact x_iret (pc := 448) C hr rfl (fun _ h => h) dX7_carryOut_448
                                          · rw [if_neg c34] at hF
                                            by_cases c35 : (x8).toInt = 122
                                            · rw [if_pos c35] at hF
                                              refine x_tabIn (pc := 42) C 168 dX7_carryOut_42 c35 (by decide) (by decide) rfl rfl ?_
                                              refine x_aload_n (pc := 168) C 3 dX7_carryOut_168 rfl rfl ?_
                                              refine gf_X7_10 (pc := 169) C  dX7_carryOut_169 ?_
                                              refine x_iload_n (pc := 172) C 2 dX7_carryOut_172 rfl rfl ?_
                                              refine cV1_1 (pc := 173) (val := Value.int) C hF (fun _ _ h => c_X6_mayLieDown l G b (by decide) _ h) vm_X6_mayLieDown wq374 rfl rfl ⟨Nat.le_of_ble_eq_true rfl, Nat.le_of_ble_eq_true rfl⟩ rfl rfl (fun _ h => CW.yd h (by decide)) (Nat.le_of_ble_eq_true rfl) ⟨Nat.le_refl _, Nat.le_refl _⟩ dX7_carryOut_173 (fun x37 w36 hF => ?_)
                                              refine x_if_eq (pc := 176) C 190 dX7_carryOut_176 rfl hF (fun c40 hF => ?_) (fun c40 hF => ?_)
                                              · refine x_iconst (pc := 190) C (-1) dX7_carryOut_190 ki_m1 ?_
                                                obtain ⟨rfl, rfl⟩ := ret_eq hF
                                                exact x_iret (pc := 191) C hr rfl (fun _ h => h) dX7_carryOut_191
                                              · refine x_aload_n (pc := 179) C 3 dX7_carryOut_179 rfl rfl ?_
                                                refine gf_X7_10 (pc := 180) C  dX7_carryOut_180 ?_
                                                refine x_iload_n (pc := 183) C 2 dX7_carryOut_183 rfl rfl ?_
                                                refine cV1_1 (pc := 184) (val := Value.int) C hF (fun _ _ h => c_X6_lieDown l G b (by decide) _ h) vm_X6_lieDown wq378 rfl rfl ⟨Nat.le_of_ble_eq_true rfl, Nat.le_of_ble_eq_true rfl⟩ rfl rfl (fun _ h => CW.yd h (by decide)) (Nat.le_of_ble_eq_true rfl) ⟨Nat.le_refl _, Nat.le_refl _⟩ dX7_carryOut_184 (fun x39 w38 hF => ?_)
                                                refine x_goto (pc := 187) C 191 dX7_carryOut_187 rfl ?_
                                                obtain ⟨rfl, rfl⟩ := ret_eq hF
                                                exact x_iret (pc := 191) C hr rfl (fun _ h => h) dX7_carryOut_191
                                            · rw [if_neg c35] at hF
                                              refine x_tabOut (pc := 42) C 427 dX7_carryOut_42 (by omega) rfl ?_
                                              refine x_aload_n (pc := 427) C 3 dX7_carryOut_427 rfl rfl ?_
                                              refine gf_X7_10 (pc := 428) C  dX7_carryOut_428 ?_
                                              refine cV1_0 (pc := 431) (val := Value.int) C hF (fun _ _ h => c_X6_mayStrike l G b (by decide) h) vm_X6_mayStrike wq414 rfl rfl ⟨Nat.le_of_ble_eq_true rfl, Nat.le_of_ble_eq_true rfl⟩ rfl rfl (fun _ h => CW.yd h (by decide)) (Nat.le_of_ble_eq_true rfl) ⟨Nat.le_refl _, Nat.le_refl _⟩ dX7_carryOut_431 (fun x10 w9 hF => ?_)
                                              refine x_if_eq (pc := 434) C 447 dX7_carryOut_434 rfl hF (fun c13 hF => ?_) (fun c13 hF => ?_)
                                              · refine x_iconst (pc := 447) C (-1) dX7_carryOut_447 ki_m1 ?_
                                                obtain ⟨rfl, rfl⟩ := ret_eq hF
                                                exact x_iret (pc := 448) C hr rfl (fun _ h => h) dX7_carryOut_448
                                              · refine x_aload_n (pc := 437) C 3 dX7_carryOut_437 rfl rfl ?_
                                                refine gf_X7_10 (pc := 438) C  dX7_carryOut_438 ?_
                                                refine cV1_0 (pc := 441) (val := Value.int) C hF (fun _ _ h => c_X6_strike l G b (by decide) h) vm_X6_strike wq423 rfl rfl ⟨Nat.le_of_ble_eq_true rfl, Nat.le_of_ble_eq_true rfl⟩ rfl rfl (fun _ h => CW.yd h (by decide)) (Nat.le_of_ble_eq_true rfl) ⟨Nat.le_refl _, Nat.le_refl _⟩ dX7_carryOut_441 (fun x12 w11 hF => ?_)
                                                refine x_goto (pc := 444) C 448 dX7_carryOut_444 rfl ?_
                                                obtain ⟨rfl, rfl⟩ := ret_eq hF
                                                exact x_iret (pc := 448) C hr rfl (fun _ h => h) dX7_carryOut_448
set_option maxRecDepth 4000 in
theorem c_X7_clearBuffer (l : Launch) (G : xG) (b : Nat)      {w w' : xWt} {v : Int32} (hF : F_X7_clearBuffer  w = some (v, w')) : xMet l G b yX7_clearBuffer cX7_clearBuffer 1 (some .int) (xR 1) [.ref (b)] (CW G b w) (some (.int v)) (CW G b w') 0 0 := by
  refine x_of (own := RX7) rfl (plainFor_of_name pn_X7) (Nat.le_of_ble_eq_true rfl) ?_
  intro p e s m args below meth c ha C hr _
  unfold F_X7_clearBuffer at hF
  refine x_aload_n (pc := 0) C 0 dX7_clearBuffer_0 rfl rfl ?_
  refine gf_X7_29 (pc := 1) C  dX7_clearBuffer_1 ?_
  refine cV1_0 (pc := 4) (val := Value.int) C hF (fun _ _ h => c_X3_empty l G b  h) vm_X3_empty wq795 rfl rfl ⟨Nat.le_of_ble_eq_true rfl, Nat.le_of_ble_eq_true rfl⟩ rfl rfl (fun _ h => CW.tx h) (Nat.le_of_ble_eq_true rfl) ⟨Nat.le_refl _, Nat.le_refl _⟩ dX7_clearBuffer_4 (fun x2 w1 hF => ?_)
  obtain ⟨rfl, rfl⟩ := ret_eq hF
  exact x_iret (pc := 7) C hr rfl (fun _ h => h) dX7_clearBuffer_7
set_option maxRecDepth 4000 in
theorem c_X7_counted (l : Launch) (G : xG) (b : Nat)     (a1 : Int32) {w w' : xWt} {v : Int32} (hF : F_X7_counted a1 w = some (v, w')) : xMet l G b yX7_counted cX7_counted 2 (some .int) (xR 4) [.ref (b), .int (a1)] (CW G b w) (some (.int v)) (CW G b w') 0 0 := by
  refine x_of (own := RX7) rfl (plainFor_of_name pn_X7) (Nat.le_of_ble_eq_true rfl) ?_
  intro p e s m args below meth c ha C hr _
  unfold F_X7_counted at hF
  refine x_iload_n (pc := 0) C 1 dX7_counted_0 rfl rfl ?_
  refine x_bipush (pc := 1) C 15 dX7_counted_1 kb_15 ?_
  refine x_icmp_ne (pc := 3) C 16 dX7_counted_3 rfl hF (fun c5 hF => ?_) (fun c5 hF => ?_)
  · refine x_aload_n (pc := 16) C 0 dX7_counted_16 rfl rfl ?_
    refine gf_X7_10 (pc := 17) C  dX7_counted_17 ?_
    refine x_iload_n (pc := 20) C 1 dX7_counted_20 rfl rfl ?_
    refine cV1_1 (pc := 21) (val := Value.int) C hF (fun _ _ h => c_X6_numberOfAll l G b (by decide) _ h) vm_X6_numberOfAll wq1066 rfl rfl ⟨Nat.le_of_ble_eq_true rfl, Nat.le_of_ble_eq_true rfl⟩ rfl rfl (fun _ h => CW.yd h (by decide)) (Nat.le_of_ble_eq_true rfl) ⟨Nat.le_refl _, Nat.le_refl _⟩ dX7_counted_21 (fun x2 w1 hF => ?_)
    obtain ⟨rfl, rfl⟩ := ret_eq hF
    exact x_iret (pc := 24) C hr rfl (fun _ h => h) dX7_counted_24
  · refine x_aload_n (pc := 6) C 0 dX7_counted_6 rfl rfl ?_
    refine gf_X7_22 (pc := 7) C  dX7_counted_7 ?_
    refine cV1_0 (pc := 10) (val := Value.int) C hF (fun _ _ h => c_X5_number l G b  h) vm_X5_number wq924 rfl rfl ⟨Nat.le_of_ble_eq_true rfl, Nat.le_of_ble_eq_true rfl⟩ rfl rfl (fun _ h => CW.sv h) (Nat.le_of_ble_eq_true rfl) ⟨Nat.le_refl _, Nat.le_refl _⟩ dX7_counted_10 (fun x4 w3 hF => ?_)
    refine x_goto (pc := 13) C 24 dX7_counted_13 rfl ?_
    obtain ⟨rfl, rfl⟩ := ret_eq hF
    exact x_iret (pc := 24) C hr rfl (fun _ h => h) dX7_counted_24
set_option maxRecDepth 4000 in
theorem c_X7_fullness (l : Launch) (G : xG) (b : Nat)      {w w' : xWt} {v : UInt32} (hF : F_X7_fullness  w = some (v, w')) : xMet l G b yX7_fullness cX7_fullness 2 (some .float) (xR 2) [.ref (b)] (CW G b w) (some (.float v)) (CW G b w') 0 0 := by
  refine x_of (own := RX7) rfl (plainFor_of_name pn_X7) (Nat.le_of_ble_eq_true rfl) ?_
  intro p e s m args below meth c ha C hr _
  unfold F_X7_fullness at hF
  refine x_aload_n (pc := 0) C 0 dX7_fullness_0 rfl rfl ?_
  refine gf_X7_10 (pc := 1) C  dX7_fullness_1 ?_
  refine gf_X7_305 (pc := 4) C (by decide) dX7_fullness_4 ?_
  refine x_aload_n (pc := 7) C 0 dX7_fullness_7 rfl rfl ?_
  refine gf_X7_10 (pc := 8) C  dX7_fullness_8 ?_
  refine gf_X7_33 (pc := 11) C (by decide) dX7_fullness_11 ?_
  refine cV1_0 (pc := 14) (val := Value.int) C hF (fun _ _ h => c_X0_number l G b (by decide) h) vm_X0_number wq249 rfl rfl ⟨Nat.le_of_ble_eq_true rfl, Nat.le_of_ble_eq_true rfl⟩ rfl rfl (fun _ h => CW.ch h (by decide)) (Nat.le_of_ble_eq_true rfl) ⟨Nat.le_refl _, Nat.le_refl _⟩ dX7_fullness_14 (fun x2 w1 hF => ?_)
  refine x_imul (pc := 17) C dX7_fullness_17 ?_
  refine x_istore_n (pc := 18) C [(1, .int (((w.2.1 0 1) * x2))), (0, .ref (b))] dX7_fullness_18 rfl (by decide) rfl ?_
  refine x_iload_n (pc := 19) C 0 dX7_fullness_19 rfl rfl ?_
  refine x_if_gt (pc := 20) C 27 dX7_fullness_20 rfl hF (fun c6 hF => ?_) (fun c6 hF => ?_)
  · refine x_aload_n (pc := 27) C 1 dX7_fullness_27 rfl rfl ?_
    refine gf_X7_10 (pc := 28) C  dX7_fullness_28 ?_
    refine gf_X7_107 (pc := 31) C (by decide) dX7_fullness_31 ?_
    refine x_iconst (pc := 34) C 1 dX7_fullness_34 ki_1 ?_
    refine cV1_1 (pc := 35) (val := Value.int) C hF (fun _ _ h => c_X2_numberWhere l G b (by decide) _ h) vm_X2_numberWhere wq1240 rfl rfl ⟨Nat.le_of_ble_eq_true rfl, Nat.le_of_ble_eq_true rfl⟩ rfl rfl (fun _ h => CW.lv h (by decide)) (Nat.le_of_ble_eq_true rfl) ⟨Nat.le_refl _, Nat.le_refl _⟩ dX7_fullness_35 (fun x4 w3 hF => ?_)
    refine x_i2f (pc := 38) C dX7_fullness_38 ?_
    refine x_iload_n (pc := 39) C 0 dX7_fullness_39 rfl rfl ?_
    refine x_i2f (pc := 40) C dX7_fullness_40 ?_
    refine y_fdiv (pc := 41) C dX7_fullness_41 hF (fun x5 hF => ?_)
    obtain ⟨rfl, rfl⟩ := ret_eq hF
    exact x_fret (pc := 42) C hr rfl (fun _ h => h) dX7_fullness_42
  · refine x_fconst0 (pc := 23) C dX7_fullness_23 ?_
    refine x_goto (pc := 24) C 42 dX7_fullness_24 rfl ?_
    obtain ⟨rfl, rfl⟩ := ret_eq hF
    exact x_fret (pc := 42) C hr rfl (fun _ h => h) dX7_fullness_42
set_option maxRecDepth 4000 in
theorem c_X7_mixed (l : Launch) (G : xG) (b : Nat)     (a1 : Int64) (a2 : Int64) {w w' : xWt} {v : Int64} (hF : F_X7_mixed a1 a2 w = some (v, w')) : xMet l G b yX7_mixed cX7_mixed 4 (some .long) (xR 0) [.long (a1), .long (a2)] (CW G b w) (some (.long v)) (CW G b w') 0 0 := by
  refine x_of (own := RX7) rfl (plainFor_of_name pn_X7) (Nat.le_of_ble_eq_true rfl) ?_
  intro p e s m args below meth c ha C hr _
  unfold F_X7_mixed at hF
  refine x_ldc2 (pc := 0) C wq1270 dX7_mixed_0 ?_
  refine x_lload_n (pc := 3) C 0 dX7_mixed_3 rfl rfl ?_
  refine x_lmul (pc := 4) C dX7_mixed_4 ?_
  refine x_lload_n (pc := 5) C 1 dX7_mixed_5 rfl rfl ?_
  refine x_ladd (pc := 6) C dX7_mixed_6 ?_
  obtain ⟨rfl, rfl⟩ := ret_eq hF
  exact x_lret (pc := 7) C hr rfl (fun _ h => h) dX7_mixed_7
set_option maxRecDepth 4000 in
theorem s_X7_mixedChild_6 (C : xC p m c s args meth G b cX7_mixedChild 8 RX7)    : ∀ (n9 : Nat) (l1 : Int64) (l3 : Int32) (l4 : Int64) (l6 : Int32) (w : xWt) (o : (Int64 × Int32)) (w' : xWt), L_X7_mixedChild_6  n9 l1 l3 l4 l6 w = some (o, w') → xW p l e (xR 4) s m args below meth c Q b 8 (CW G b w') 0 0 37 [(0, .ref (b)), (1, .long (l1)), (3, .int (l3)), (4, .long (o.1)), (6, .int (o.2))] [] → xW p l e (xR 4) s m args below meth c Q b 8 (CW G b w) 0 0 6 [(0, .ref (b)), (1, .long (l1)), (3, .int (l3)), (4, .long (l4)), (6, .int (l6))] [] := by
  intro n9
  induction n9 with
  | zero => intro l1 l3 l4 l6 w o w' hF; exact none_ne (show none = some _ from hF)
  | succ n9 ih =>
    intro l1 l3 l4 l6 w o w' hF kx
    replace hF : B_X7_mixedChild_6  (L_X7_mixedChild_6  n9) l1 l3 l4 l6 w = some (o, w') := hF
    unfold B_X7_mixedChild_6 at hF
    refine x_iload (pc := 6) C 4 dX7_mixedChild_6 rfl ?_
    refine x_bipush (pc := 8) C 7 dX7_mixedChild_8 kb_7 ?_
    refine x_icmp_gt (pc := 10) C 37 dX7_mixedChild_10 rfl hF (fun c5 hF => ?_) (fun c5 hF => ?_)
    · obtain ⟨rfl, rfl⟩ := ret_eq hF
      exact x_sub [0, 1, 2, 3, 4] rfl kx
    · refine x_lload (pc := 13) C 3 dX7_mixedChild_13 rfl ?_
      refine x_aload_n (pc := 15) C 0 dX7_mixedChild_15 rfl rfl ?_
      refine gf_X7_10 (pc := 16) C  dX7_mixedChild_16 ?_
      refine x_iload_n (pc := 19) C 2 dX7_mixedChild_19 rfl rfl ?_
      refine x_iload (pc := 20) C 4 dX7_mixedChild_20 rfl ?_
      refine cV1_2 (pc := 22) (val := Value.int) C hF (fun _ _ h => c_X6_numberOfChild l G b (by decide) _ _ h) vm_X6_numberOfChild wq1008 rfl rfl ⟨Nat.le_of_ble_eq_true rfl, Nat.le_of_ble_eq_true rfl⟩ rfl rfl (fun _ h => CW.yd h (by decide)) (Nat.le_of_ble_eq_true rfl) ⟨Nat.le_refl _, Nat.le_refl _⟩ dX7_mixedChild_22 (fun x2 w1 hF => ?_)
      refine x_i2l (pc := 25) C dX7_mixedChild_25 ?_
      refine cS1_2 (pc := 26) (val := Value.long) C hF (fun _ _ h => c_X7_mixed l G b  _ _ h) sm_X7_mixed wq1267 rfl rfl ⟨Nat.le_of_ble_eq_true rfl, Nat.le_of_ble_eq_true rfl⟩ (Nat.le_of_ble_eq_true rfl) ⟨Nat.le_refl _, Nat.le_refl _⟩ dX7_mixedChild_26 (fun x4 w3 hF => ?_)
      refine x_lstore (pc := 29) C [(4, .long (x4)), (0, .ref (b)), (1, .long (l1)), (3, .int (l3)), (6, .int (l6))] dX7_mixedChild_29 (by decide) rfl ?_
      refine x_iinc (pc := 31) C 4 [(6, .int ((l6 + 1))), (4, .long (x4)), (0, .ref (b)), (1, .long (l1)), (3, .int (l3))] dX7_mixedChild_31 rfl rfl (by decide) rfl ?_
      refine x_goto (pc := 34) C 6 dX7_mixedChild_34 rfl ?_
      exact x_sub [2, 3, 4, 1, 0] rfl (ih _ _ _ _ _ _ _ hF kx)
set_option maxRecDepth 4000 in
theorem s_X7_mixedChild_49 (C : xC p m c s args meth G b cX7_mixedChild 8 RX7)    : ∀ (n9 : Nat) (l1 : Int64) (l3 : Int32) (l4 : Int64) (l6 : Int32) (l7 : Int32) (w : xWt) (o : (Int64 × Int32)) (w' : xWt), L_X7_mixedChild_49  n9 l1 l3 l4 l6 l7 w = some (o, w') → xW p l e (xR 4) s m args below meth c Q b 8 (CW G b w') 0 0 84 [(0, .ref (b)), (1, .long (l1)), (3, .int (l3)), (4, .long (o.1)), (6, .int (l6)), (7, .int (o.2))] [] → xW p l e (xR 4) s m args below meth c Q b 8 (CW G b w) 0 0 49 [(0, .ref (b)), (1, .long (l1)), (3, .int (l3)), (4, .long (l4)), (6, .int (l6)), (7, .int (l7))] [] := by
  intro n9
  induction n9 with
  | zero => intro l1 l3 l4 l6 l7 w o w' hF; exact none_ne (show none = some _ from hF)
  | succ n9 ih =>
    intro l1 l3 l4 l6 l7 w o w' hF kx
    replace hF : B_X7_mixedChild_49  (L_X7_mixedChild_49  n9) l1 l3 l4 l6 l7 w = some (o, w') := hF
    unfold B_X7_mixedChild_49 at hF
    refine x_iload (pc := 49) C 5 dX7_mixedChild_49 rfl ?_
    refine x_iconst (pc := 51) C 2 dX7_mixedChild_51 ki_2 ?_
    refine x_icmp_gt (pc := 52) C 84 dX7_mixedChild_52 rfl hF (fun c12 hF => ?_) (fun c12 hF => ?_)
    · obtain ⟨rfl, rfl⟩ := ret_eq hF
      exact x_sub [0, 1, 2, 3, 4, 5] rfl kx
    · refine x_lload (pc := 55) C 3 dX7_mixedChild_55 rfl ?_
      refine x_aload_n (pc := 57) C 0 dX7_mixedChild_57 rfl rfl ?_
      refine gf_X7_10 (pc := 58) C  dX7_mixedChild_58 ?_
      refine gf_X7_256 (pc := 61) C (by decide) dX7_mixedChild_61 ?_
      refine x_iload_n (pc := 64) C 2 dX7_mixedChild_64 rfl rfl ?_
      refine x_iload (pc := 65) C 4 dX7_mixedChild_65 rfl ?_
      refine x_iload (pc := 67) C 5 dX7_mixedChild_67 rfl ?_
      refine cV1_3 (pc := 69) (val := Value.int) C hF (fun _ _ h => c_X1_numberOfHook l G b (by decide) _ _ _ h) vm_X1_numberOfHook wq1032 rfl rfl ⟨Nat.le_of_ble_eq_true rfl, Nat.le_of_ble_eq_true rfl⟩ rfl rfl (fun _ h => CW.hk h (by decide)) (Nat.le_of_ble_eq_true rfl) ⟨Nat.le_refl _, Nat.le_refl _⟩ dX7_mixedChild_69 (fun x9 w8 hF => ?_)
      refine x_i2l (pc := 72) C dX7_mixedChild_72 ?_
      refine cS1_2 (pc := 73) (val := Value.long) C hF (fun _ _ h => c_X7_mixed l G b  _ _ h) sm_X7_mixed wq1267 rfl rfl ⟨Nat.le_of_ble_eq_true rfl, Nat.le_of_ble_eq_true rfl⟩ (Nat.le_of_ble_eq_true rfl) ⟨Nat.le_refl _, Nat.le_refl _⟩ dX7_mixedChild_73 (fun x11 w10 hF => ?_)
      refine x_lstore (pc := 76) C [(4, .long (x11)), (0, .ref (b)), (1, .long (l1)), (3, .int (l3)), (6, .int (l6)), (7, .int (l7))] dX7_mixedChild_76 (by decide) rfl ?_
      refine x_iinc (pc := 78) C 5 [(7, .int ((l7 + 1))), (4, .long (x11)), (0, .ref (b)), (1, .long (l1)), (3, .int (l3)), (6, .int (l6))] dX7_mixedChild_78 rfl rfl (by decide) rfl ?_
      refine x_goto (pc := 81) C 49 dX7_mixedChild_81 rfl ?_
      exact x_sub [2, 3, 4, 1, 5, 0] rfl (ih _ _ _ _ _ _ _ _ hF kx)
set_option maxRecDepth 4000 in
theorem s_X7_mixedChild_40 (C : xC p m c s args meth G b cX7_mixedChild 8 RX7)    : ∀ (n9 : Nat) (l1 : Int64) (l3 : Int32) (l4 : Int64) (l6 : Int32) (w : xWt) (o : (Int64 × Int32)) (w' : xWt), L_X7_mixedChild_40  n9 l1 l3 l4 l6 w = some (o, w') → xW p l e (xR 4) s m args below meth c Q b 8 (CW G b w') 0 0 108 [(0, .ref (b)), (1, .long (l1)), (3, .int (l3)), (4, .long (o.1)), (6, .int (o.2))] [] → xW p l e (xR 4) s m args below meth c Q b 8 (CW G b w) 0 0 40 [(0, .ref (b)), (1, .long (l1)), (3, .int (l3)), (4, .long (l4)), (6, .int (l6))] [] := by
  intro n9
  induction n9 with
  | zero => intro l1 l3 l4 l6 w o w' hF; exact none_ne (show none = some _ from hF)
  | succ n9 ih =>
    intro l1 l3 l4 l6 w o w' hF kx
    replace hF : B_X7_mixedChild_40  (L_X7_mixedChild_40  n9) l1 l3 l4 l6 w = some (o, w') := hF
    unfold B_X7_mixedChild_40 at hF
    refine x_iload (pc := 40) C 4 dX7_mixedChild_40 rfl ?_
    refine x_iconst (pc := 42) C 3 dX7_mixedChild_42 ki_3 ?_
    refine x_icmp_ge (pc := 43) C 108 dX7_mixedChild_43 rfl hF (fun c19 hF => ?_) (fun c19 hF => ?_)
    · obtain ⟨rfl, rfl⟩ := ret_eq hF
      exact x_sub [0, 1, 2, 3, 4] rfl kx
    · refine x_iconst (pc := 46) C 0 dX7_mixedChild_46 ki_0 ?_
      refine x_istore (pc := 47) C [(7, .int (0)), (0, .ref (b)), (1, .long (l1)), (3, .int (l3)), (4, .long (l4)), (6, .int (l6))] dX7_mixedChild_47 (by decide) rfl ?_
      obtain ⟨o13, w14, hL, hF⟩ := bd_some hF
      refine x_sub [1, 2, 3, 4, 5, 0] rfl (s_X7_mixedChild_49 C  _ _ _ _ _ _ _ _ _ hL ?_)
      refine x_lload (pc := 84) C 3 dX7_mixedChild_84 rfl ?_
      refine x_aload_n (pc := 86) C 0 dX7_mixedChild_86 rfl rfl ?_
      refine gf_X7_10 (pc := 87) C  dX7_mixedChild_87 ?_
      refine x_iload_n (pc := 90) C 2 dX7_mixedChild_90 rfl rfl ?_
      refine x_iload (pc := 91) C 4 dX7_mixedChild_91 rfl ?_
      refine cV1_2 (pc := 93) (val := Value.int) C hF (fun _ _ h => c_X6_freedBy l G b (by decide) _ _ h) vm_X6_freedBy wq1168 rfl rfl ⟨Nat.le_of_ble_eq_true rfl, Nat.le_of_ble_eq_true rfl⟩ rfl rfl (fun _ h => CW.yd h (by decide)) (Nat.le_of_ble_eq_true rfl) ⟨Nat.le_refl _, Nat.le_refl _⟩ dX7_mixedChild_93 (fun x16 w15 hF => ?_)
      refine x_i2l (pc := 96) C dX7_mixedChild_96 ?_
      refine cS1_2 (pc := 97) (val := Value.long) C hF (fun _ _ h => c_X7_mixed l G b  _ _ h) sm_X7_mixed wq1267 rfl rfl ⟨Nat.le_of_ble_eq_true rfl, Nat.le_of_ble_eq_true rfl⟩ (Nat.le_of_ble_eq_true rfl) ⟨Nat.le_refl _, Nat.le_refl _⟩ dX7_mixedChild_97 (fun x18 w17 hF => ?_)
      refine x_lstore (pc := 100) C [(4, .long (x18)), (0, .ref (b)), (1, .long (l1)), (3, .int (l3)), (6, .int (l6)), (7, .int (o13.2))] dX7_mixedChild_100 (by decide) rfl ?_
      refine x_iinc (pc := 102) C 4 [(6, .int ((l6 + 1))), (4, .long (x18)), (0, .ref (b)), (1, .long (l1)), (3, .int (l3)), (7, .int (o13.2))] dX7_mixedChild_102 rfl rfl (by decide) rfl ?_
      refine x_goto (pc := 105) C 40 dX7_mixedChild_105 rfl ?_
      exact x_sub [2, 3, 4, 1, 0] rfl (ih _ _ _ _ _ _ _ hF kx)
set_option maxRecDepth 4000 in
theorem s_X7_mixedChild_127 (C : xC p m c s args meth G b cX7_mixedChild 8 RX7)    : ∀ (n9 : Nat) (l1 : Int64) (l3 : Int32) (l4 : Int64) (l6 : Int32) (l7 : Int32) (w : xWt) (o : (Int64 × Int32)) (w' : xWt), L_X7_mixedChild_127  n9 l1 l3 l4 l6 l7 w = some (o, w') → xW p l e (xR 4) s m args below meth c Q b 8 (CW G b w') 0 0 161 [(0, .ref (b)), (1, .long (l1)), (3, .int (l3)), (4, .long (o.1)), (6, .int (l6)), (7, .int (o.2))] [] → xW p l e (xR 4) s m args below meth c Q b 8 (CW G b w) 0 0 127 [(0, .ref (b)), (1, .long (l1)), (3, .int (l3)), (4, .long (l4)), (6, .int (l6)), (7, .int (l7))] [] := by
  intro n9
  induction n9 with
  | zero => intro l1 l3 l4 l6 l7 w o w' hF; exact none_ne (show none = some _ from hF)
  | succ n9 ih =>
    intro l1 l3 l4 l6 l7 w o w' hF kx
    replace hF : B_X7_mixedChild_127  (L_X7_mixedChild_127  n9) l1 l3 l4 l6 l7 w = some (o, w') := hF
    unfold B_X7_mixedChild_127 at hF
    refine x_iload (pc := 127) C 5 dX7_mixedChild_127 rfl ?_
    refine x_iload (pc := 129) C 4 dX7_mixedChild_129 rfl ?_
    refine x_icmp_ge (pc := 131) C 161 dX7_mixedChild_131 rfl hF (fun c28 hF => ?_) (fun c28 hF => ?_)
    · obtain ⟨rfl, rfl⟩ := ret_eq hF
      exact x_sub [0, 1, 2, 3, 4, 5] rfl kx
    · refine x_lload (pc := 134) C 3 dX7_mixedChild_134 rfl ?_
      refine x_aload_n (pc := 136) C 0 dX7_mixedChild_136 rfl rfl ?_
      refine gf_X7_10 (pc := 137) C  dX7_mixedChild_137 ?_
      refine gf_X7_33 (pc := 140) C (by decide) dX7_mixedChild_140 ?_
      refine x_iload_n (pc := 143) C 2 dX7_mixedChild_143 rfl rfl ?_
      refine x_iload (pc := 144) C 5 dX7_mixedChild_144 rfl ?_
      refine cV1_2 (pc := 146) (val := Value.int) C hF (fun _ _ h => c_X0_leafOnHeap l G b (by decide) _ _ h) vm_X0_leafOnHeap wq1050 rfl rfl ⟨Nat.le_of_ble_eq_true rfl, Nat.le_of_ble_eq_true rfl⟩ rfl rfl (fun _ h => CW.ch h (by decide)) (Nat.le_of_ble_eq_true rfl) ⟨Nat.le_refl _, Nat.le_refl _⟩ dX7_mixedChild_146 (fun x25 w24 hF => ?_)
      refine x_i2l (pc := 149) C dX7_mixedChild_149 ?_
      refine cS1_2 (pc := 150) (val := Value.long) C hF (fun _ _ h => c_X7_mixed l G b  _ _ h) sm_X7_mixed wq1267 rfl rfl ⟨Nat.le_of_ble_eq_true rfl, Nat.le_of_ble_eq_true rfl⟩ (Nat.le_of_ble_eq_true rfl) ⟨Nat.le_refl _, Nat.le_refl _⟩ dX7_mixedChild_150 (fun x27 w26 hF => ?_)
      refine x_lstore (pc := 153) C [(4, .long (x27)), (0, .ref (b)), (1, .long (l1)), (3, .int (l3)), (6, .int (l6)), (7, .int (l7))] dX7_mixedChild_153 (by decide) rfl ?_
      refine x_iinc (pc := 155) C 5 [(7, .int ((l7 + 1))), (4, .long (x27)), (0, .ref (b)), (1, .long (l1)), (3, .int (l3)), (6, .int (l6))] dX7_mixedChild_155 rfl rfl (by decide) rfl ?_
      refine x_goto (pc := 158) C 127 dX7_mixedChild_158 rfl ?_
      exact x_sub [2, 3, 4, 1, 5, 0] rfl (ih _ _ _ _ _ _ _ _ hF kx)
set_option maxRecDepth 4000 in
theorem c_X7_mixedChild (l : Launch) (G : xG) (b : Nat)     (a1 : Int64) (a2 : Int32) {w w' : xWt} {v : Int64} (hF : F_X7_mixedChild a1 a2 w = some (v, w')) : xMet l G b yX7_mixedChild cX7_mixedChild 8 (some .long) (xR 4) [.ref (b), .long (a1), .int (a2)] (CW G b w) (some (.long v)) (CW G b w') 0 0 := by
  refine x_of (own := RX7) rfl (plainFor_of_name pn_X7) (Nat.le_of_ble_eq_true rfl) ?_
  intro p e s m args below meth c ha C hr _
  unfold F_X7_mixedChild at hF
  refine x_lload_n (pc := 0) C 1 dX7_mixedChild_0 rfl rfl ?_
  refine x_lstore (pc := 1) C [(4, .long (a1)), (0, .ref (b)), (1, .long (a1)), (3, .int (a2))] dX7_mixedChild_1 (by decide) rfl ?_
  refine x_iconst (pc := 3) C 0 dX7_mixedChild_3 ki_0 ?_
  refine x_istore (pc := 4) C [(6, .int (0)), (4, .long (a1)), (0, .ref (b)), (1, .long (a1)), (3, .int (a2))] dX7_mixedChild_4 (by decide) rfl ?_
  obtain ⟨o6, w7, hL, hF⟩ := bd_some hF
  refine x_sub [2, 3, 4, 1, 0] rfl (s_X7_mixedChild_6 C  _ _ _ _ _ _ _ _ hL ?_)
  refine x_iconst (pc := 37) C 0 dX7_mixedChild_37 ki_0 ?_
  refine x_istore (pc := 38) C [(6, .int (0)), (0, .ref (b)), (1, .long (a1)), (3, .int (a2)), (4, .long (o6.1))] dX7_mixedChild_38 (by decide) rfl ?_
  obtain ⟨o20, w21, hL, hF⟩ := bd_some hF
  refine x_sub [1, 2, 3, 4, 0] rfl (s_X7_mixedChild_40 C  _ _ _ _ _ _ _ _ hL ?_)
  refine x_aload_n (pc := 108) C 0 dX7_mixedChild_108 rfl rfl ?_
  refine gf_X7_10 (pc := 109) C  dX7_mixedChild_109 ?_
  refine gf_X7_33 (pc := 112) C (by decide) dX7_mixedChild_112 ?_
  refine gf_X7_374 (pc := 115) C (by decide) dX7_mixedChild_115 ?_
  refine x_iload_n (pc := 118) C 2 dX7_mixedChild_118 rfl rfl ?_
  refine cV1_1 (pc := 119) (val := Value.int) C hF (fun _ _ h => r_X4_get l G b (vr_y 11 (by decide) (by decide)) _ h) vm_X4_get wq944 rfl rfl ⟨Nat.le_of_ble_eq_true rfl, Nat.le_of_ble_eq_true rfl⟩ rfl rfl (fun _ h => CW.row0 h (vr_y 11 (by decide) (by decide))) (Nat.le_of_ble_eq_true rfl) ⟨Nat.le_refl _, Nat.le_refl _⟩ dX7_mixedChild_119 (fun x23 w22 hF => ?_)
  refine x_istore (pc := 122) C [(6, .int (x23)), (0, .ref (b)), (1, .long (a1)), (3, .int (a2)), (4, .long (o20.1))] dX7_mixedChild_122 (by decide) rfl ?_
  refine x_iconst (pc := 124) C 0 dX7_mixedChild_124 ki_0 ?_
  refine x_istore (pc := 125) C [(7, .int (0)), (6, .int (x23)), (0, .ref (b)), (1, .long (a1)), (3, .int (a2)), (4, .long (o20.1))] dX7_mixedChild_125 (by decide) rfl ?_
  obtain ⟨o29, w30, hL, hF⟩ := bd_some hF
  refine x_sub [2, 3, 4, 5, 1, 0] rfl (s_X7_mixedChild_127 C  _ _ _ _ _ _ _ _ _ hL ?_)
  refine x_lload (pc := 161) C 3 dX7_mixedChild_161 rfl ?_
  refine x_aload_n (pc := 163) C 0 dX7_mixedChild_163 rfl rfl ?_
  refine gf_X7_10 (pc := 164) C  dX7_mixedChild_164 ?_
  refine x_iload_n (pc := 167) C 2 dX7_mixedChild_167 rfl rfl ?_
  refine x_iconst (pc := 168) C 0 dX7_mixedChild_168 ki_0 ?_
  refine x_iconst (pc := 169) C (-1) dX7_mixedChild_169 ki_m1 ?_
  refine cV1_3 (pc := 170) (val := Value.int) C hF (fun _ _ h => c_X6_burnable l G b (by decide) _ _ _ h) vm_X6_burnable wq1132 rfl rfl ⟨Nat.le_of_ble_eq_true rfl, Nat.le_of_ble_eq_true rfl⟩ rfl rfl (fun _ h => CW.yd h (by decide)) (Nat.le_of_ble_eq_true rfl) ⟨Nat.le_refl _, Nat.le_refl _⟩ dX7_mixedChild_170 (fun x32 w31 hF => ?_)
  refine x_i2l (pc := 173) C dX7_mixedChild_173 ?_
  refine cS1_2 (pc := 174) (val := Value.long) C hF (fun _ _ h => c_X7_mixed l G b  _ _ h) sm_X7_mixed wq1267 rfl rfl ⟨Nat.le_of_ble_eq_true rfl, Nat.le_of_ble_eq_true rfl⟩ (Nat.le_of_ble_eq_true rfl) ⟨Nat.le_refl _, Nat.le_refl _⟩ dX7_mixedChild_174 (fun x34 w33 hF => ?_)
  refine x_lstore (pc := 177) C [(4, .long (x34)), (0, .ref (b)), (1, .long (a1)), (3, .int (a2)), (6, .int (x23)), (7, .int (o29.2))] dX7_mixedChild_177 (by decide) rfl ?_
  refine x_lload (pc := 179) C 0 dX7_mixedChild_179 rfl ?_
  refine x_aload_n (pc := 181) C 1 dX7_mixedChild_181 rfl rfl ?_
  refine gf_X7_10 (pc := 182) C  dX7_mixedChild_182 ?_
  refine x_iload_n (pc := 185) C 3 dX7_mixedChild_185 rfl rfl ?_
  refine x_iconst (pc := 186) C 1 dX7_mixedChild_186 ki_1 ?_
  refine x_iconst (pc := 187) C (-1) dX7_mixedChild_187 ki_m1 ?_
  refine cV1_3 (pc := 188) (val := Value.int) C hF (fun _ _ h => c_X6_burnable l G b (by decide) _ _ _ h) vm_X6_burnable wq1132 rfl rfl ⟨Nat.le_of_ble_eq_true rfl, Nat.le_of_ble_eq_true rfl⟩ rfl rfl (fun _ h => CW.yd h (by decide)) (Nat.le_of_ble_eq_true rfl) ⟨Nat.le_refl _, Nat.le_refl _⟩ dX7_mixedChild_188 (fun x36 w35 hF => ?_)
  refine x_i2l (pc := 191) C dX7_mixedChild_191 ?_
  refine cS1_2 (pc := 192) (val := Value.long) C hF (fun _ _ h => c_X7_mixed l G b  _ _ h) sm_X7_mixed wq1267 rfl rfl ⟨Nat.le_of_ble_eq_true rfl, Nat.le_of_ble_eq_true rfl⟩ (Nat.le_of_ble_eq_true rfl) ⟨Nat.le_refl _, Nat.le_refl _⟩ dX7_mixedChild_192 (fun x38 w37 hF => ?_)
  refine x_lstore (pc := 195) C [(4, .long (x38)), (0, .ref (b)), (1, .long (a1)), (3, .int (a2)), (6, .int (x23)), (7, .int (o29.2))] dX7_mixedChild_195 (by decide) rfl ?_
  refine x_lload (pc := 197) C 0 dX7_mixedChild_197 rfl ?_
  refine x_aload_n (pc := 199) C 1 dX7_mixedChild_199 rfl rfl ?_
  refine gf_X7_10 (pc := 200) C  dX7_mixedChild_200 ?_
  refine x_iload_n (pc := 203) C 3 dX7_mixedChild_203 rfl rfl ?_
  refine cV1_1 (pc := 204) (val := Value.int) C hF (fun _ _ h => c_X6_burnableIfRested l G b (by decide) _ h) vm_X6_burnableIfRested wq1196 rfl rfl ⟨Nat.le_of_ble_eq_true rfl, Nat.le_of_ble_eq_true rfl⟩ rfl rfl (fun _ h => CW.yd h (by decide)) (Nat.le_of_ble_eq_true rfl) ⟨Nat.le_refl _, Nat.le_refl _⟩ dX7_mixedChild_204 (fun x40 w39 hF => ?_)
  refine x_i2l (pc := 207) C dX7_mixedChild_207 ?_
  refine cS1_2 (pc := 208) (val := Value.long) C hF (fun _ _ h => c_X7_mixed l G b  _ _ h) sm_X7_mixed wq1267 rfl rfl ⟨Nat.le_of_ble_eq_true rfl, Nat.le_of_ble_eq_true rfl⟩ (Nat.le_of_ble_eq_true rfl) ⟨Nat.le_refl _, Nat.le_refl _⟩ dX7_mixedChild_208 (fun x42 w41 hF => ?_)
  obtain ⟨rfl, rfl⟩ := ret_eq hF
  exact x_lret (pc := 211) C hr rfl (fun _ h => h) dX7_mixedChild_211
set_option maxRecDepth 4000 in
theorem s_X7_mixedLeaf_6 (C : xC p m c s args meth G b cX7_mixedLeaf 7 RX7)    : ∀ (n9 : Nat) (l1 : Int64) (l3 : Int32) (l4 : Int64) (l6 : Int32) (w : xWt) (o : (Int64 × Int32)) (w' : xWt), L_X7_mixedLeaf_6  n9 l1 l3 l4 l6 w = some (o, w') → xW p l e (xR 4) s m args below meth c Q b 7 (CW G b w') 0 0 37 [(0, .ref (b)), (1, .long (l1)), (3, .int (l3)), (4, .long (o.1)), (6, .int (o.2))] [] → xW p l e (xR 4) s m args below meth c Q b 7 (CW G b w) 0 0 6 [(0, .ref (b)), (1, .long (l1)), (3, .int (l3)), (4, .long (l4)), (6, .int (l6))] [] := by
  intro n9
  induction n9 with
  | zero => intro l1 l3 l4 l6 w o w' hF; exact none_ne (show none = some _ from hF)
  | succ n9 ih =>
    intro l1 l3 l4 l6 w o w' hF kx
    replace hF : B_X7_mixedLeaf_6  (L_X7_mixedLeaf_6  n9) l1 l3 l4 l6 w = some (o, w') := hF
    unfold B_X7_mixedLeaf_6 at hF
    refine x_iload (pc := 6) C 4 dX7_mixedLeaf_6 rfl ?_
    refine x_bipush (pc := 8) C 7 dX7_mixedLeaf_8 kb_7 ?_
    refine x_icmp_gt (pc := 10) C 37 dX7_mixedLeaf_10 rfl hF (fun c5 hF => ?_) (fun c5 hF => ?_)
    · obtain ⟨rfl, rfl⟩ := ret_eq hF
      exact x_sub [0, 1, 2, 3, 4] rfl kx
    · refine x_lload (pc := 13) C 3 dX7_mixedLeaf_13 rfl ?_
      refine x_aload_n (pc := 15) C 0 dX7_mixedLeaf_15 rfl rfl ?_
      refine gf_X7_10 (pc := 16) C  dX7_mixedLeaf_16 ?_
      refine x_iload_n (pc := 19) C 2 dX7_mixedLeaf_19 rfl rfl ?_
      refine x_iload (pc := 20) C 4 dX7_mixedLeaf_20 rfl ?_
      refine cV1_2 (pc := 22) (val := Value.int) C hF (fun _ _ h => c_X6_numberOfLeaf l G b (by decide) _ _ h) vm_X6_numberOfLeaf wq964 rfl rfl ⟨Nat.le_of_ble_eq_true rfl, Nat.le_of_ble_eq_true rfl⟩ rfl rfl (fun _ h => CW.yd h (by decide)) (Nat.le_of_ble_eq_true rfl) ⟨Nat.le_refl _, Nat.le_refl _⟩ dX7_mixedLeaf_22 (fun x2 w1 hF => ?_)
      refine x_i2l (pc := 25) C dX7_mixedLeaf_25 ?_
      refine cS1_2 (pc := 26) (val := Value.long) C hF (fun _ _ h => c_X7_mixed l G b  _ _ h) sm_X7_mixed wq1267 rfl rfl ⟨Nat.le_of_ble_eq_true rfl, Nat.le_of_ble_eq_true rfl⟩ (Nat.le_of_ble_eq_true rfl) ⟨Nat.le_refl _, Nat.le_refl _⟩ dX7_mixedLeaf_26 (fun x4 w3 hF => ?_)
      refine x_lstore (pc := 29) C [(4, .long (x4)), (0, .ref (b)), (1, .long (l1)), (3, .int (l3)), (6, .int (l6))] dX7_mixedLeaf_29 (by decide) rfl ?_
      refine x_iinc (pc := 31) C 4 [(6, .int ((l6 + 1))), (4, .long (x4)), (0, .ref (b)), (1, .long (l1)), (3, .int (l3))] dX7_mixedLeaf_31 rfl rfl (by decide) rfl ?_
      refine x_goto (pc := 34) C 6 dX7_mixedLeaf_34 rfl ?_
      exact x_sub [2, 3, 4, 1, 0] rfl (ih _ _ _ _ _ _ _ hF kx)
set_option maxRecDepth 4000 in
theorem c_X7_mixedLeaf (l : Launch) (G : xG) (b : Nat)     (a1 : Int64) (a2 : Int32) {w w' : xWt} {v : Int64} (hF : F_X7_mixedLeaf a1 a2 w = some (v, w')) : xMet l G b yX7_mixedLeaf cX7_mixedLeaf 7 (some .long) (xR 4) [.ref (b), .long (a1), .int (a2)] (CW G b w) (some (.long v)) (CW G b w') 0 0 := by
  refine x_of (own := RX7) rfl (plainFor_of_name pn_X7) (Nat.le_of_ble_eq_true rfl) ?_
  intro p e s m args below meth c ha C hr _
  unfold F_X7_mixedLeaf at hF
  refine x_lload_n (pc := 0) C 1 dX7_mixedLeaf_0 rfl rfl ?_
  refine x_lstore (pc := 1) C [(4, .long (a1)), (0, .ref (b)), (1, .long (a1)), (3, .int (a2))] dX7_mixedLeaf_1 (by decide) rfl ?_
  refine x_iconst (pc := 3) C 0 dX7_mixedLeaf_3 ki_0 ?_
  refine x_istore (pc := 4) C [(6, .int (0)), (4, .long (a1)), (0, .ref (b)), (1, .long (a1)), (3, .int (a2))] dX7_mixedLeaf_4 (by decide) rfl ?_
  obtain ⟨o6, w7, hL, hF⟩ := bd_some hF
  refine x_sub [2, 3, 4, 1, 0] rfl (s_X7_mixedLeaf_6 C  _ _ _ _ _ _ _ _ hL ?_)
  refine x_lload (pc := 37) C 3 dX7_mixedLeaf_37 rfl ?_
  refine x_aload_n (pc := 39) C 0 dX7_mixedLeaf_39 rfl rfl ?_
  refine gf_X7_10 (pc := 40) C  dX7_mixedLeaf_40 ?_
  refine x_iload_n (pc := 43) C 2 dX7_mixedLeaf_43 rfl rfl ?_
  refine cV1_1 (pc := 44) (val := Value.int) C hF (fun _ _ h => c_X6_whyNotBurnt l G b (by decide) _ h) vm_X6_whyNotBurnt wq1113 rfl rfl ⟨Nat.le_of_ble_eq_true rfl, Nat.le_of_ble_eq_true rfl⟩ rfl rfl (fun _ h => CW.yd h (by decide)) (Nat.le_of_ble_eq_true rfl) ⟨Nat.le_refl _, Nat.le_refl _⟩ dX7_mixedLeaf_44 (fun x9 w8 hF => ?_)
  refine x_i2l (pc := 47) C dX7_mixedLeaf_47 ?_
  refine cS1_2 (pc := 48) (val := Value.long) C hF (fun _ _ h => c_X7_mixed l G b  _ _ h) sm_X7_mixed wq1267 rfl rfl ⟨Nat.le_of_ble_eq_true rfl, Nat.le_of_ble_eq_true rfl⟩ (Nat.le_of_ble_eq_true rfl) ⟨Nat.le_refl _, Nat.le_refl _⟩ dX7_mixedLeaf_48 (fun x11 w10 hF => ?_)
  obtain ⟨rfl, rfl⟩ := ret_eq hF
  exact x_lret (pc := 51) C hr rfl (fun _ h => h) dX7_mixedLeaf_51
set_option maxRecDepth 4000 in
theorem s_X7_mixedText_16 (C : xC p m c s args meth G b cX7_mixedText 6 RX7)    : ∀ (n9 : Nat) (l1 : Int64) (l3 : Int64) (l5 : Int32) (w : xWt) (o : (Int64 × Int32)) (w' : xWt), L_X7_mixedText_16  n9 l1 l3 l5 w = some (o, w') → xW p l e (xR 2) s m args below meth c Q b 6 (CW G b w') 0 0 49 [(0, .ref (b)), (1, .long (l1)), (3, .long (o.1)), (5, .int (o.2))] [] → xW p l e (xR 2) s m args below meth c Q b 6 (CW G b w) 0 0 16 [(0, .ref (b)), (1, .long (l1)), (3, .long (l3)), (5, .int (l5))] [] := by
  intro n9
  induction n9 with
  | zero => intro l1 l3 l5 w o w' hF; exact none_ne (show none = some _ from hF)
  | succ n9 ih =>
    intro l1 l3 l5 w o w' hF kx
    replace hF : B_X7_mixedText_16  (L_X7_mixedText_16  n9) l1 l3 l5 w = some (o, w') := hF
    unfold B_X7_mixedText_16 at hF
    refine x_iload (pc := 16) C 3 dX7_mixedText_16 rfl ?_
    refine x_aload_n (pc := 18) C 0 dX7_mixedText_18 rfl rfl ?_
    refine gf_X7_29 (pc := 19) C  dX7_mixedText_19 ?_
    refine cV1_0 (pc := 22) (val := Value.int) C hF (fun _ _ h => c_X3_length l G b  h) vm_X3_length wq776 rfl rfl ⟨Nat.le_of_ble_eq_true rfl, Nat.le_of_ble_eq_true rfl⟩ rfl rfl (fun _ h => CW.tx h) (Nat.le_of_ble_eq_true rfl) ⟨Nat.le_refl _, Nat.le_refl _⟩ dX7_mixedText_22 (fun x6 w5 hF => ?_)
    refine x_icmp_ge (pc := 25) C 49 dX7_mixedText_25 rfl hF (fun c11 hF => ?_) (fun c11 hF => ?_)
    · obtain ⟨rfl, rfl⟩ := ret_eq hF
      exact x_sub [0, 1, 2, 3] rfl kx
    · refine x_lload_n (pc := 28) C 2 dX7_mixedText_28 rfl rfl ?_
      refine x_aload_n (pc := 29) C 0 dX7_mixedText_29 rfl rfl ?_
      refine gf_X7_29 (pc := 30) C  dX7_mixedText_30 ?_
      refine x_iload (pc := 33) C 3 dX7_mixedText_33 rfl ?_
      refine cV1_1 (pc := 35) (val := Value.int) C hF (fun _ _ h => c_X3_signAt l G b  _ h) vm_X3_signAt wq881 rfl rfl ⟨Nat.le_of_ble_eq_true rfl, Nat.le_of_ble_eq_true rfl⟩ rfl rfl (fun _ h => CW.tx h) (Nat.le_of_ble_eq_true rfl) ⟨Nat.le_refl _, Nat.le_refl _⟩ dX7_mixedText_35 (fun x8 w7 hF => ?_)
      refine x_i2l (pc := 38) C dX7_mixedText_38 ?_
      refine cS1_2 (pc := 39) (val := Value.long) C hF (fun _ _ h => c_X7_mixed l G b  _ _ h) sm_X7_mixed wq1267 rfl rfl ⟨Nat.le_of_ble_eq_true rfl, Nat.le_of_ble_eq_true rfl⟩ (Nat.le_of_ble_eq_true rfl) ⟨Nat.le_refl _, Nat.le_refl _⟩ dX7_mixedText_39 (fun x10 w9 hF => ?_)
      refine x_lstore_n (pc := 42) C [(3, .long (x10)), (0, .ref (b)), (1, .long (l1)), (5, .int (l5))] dX7_mixedText_42 rfl (by decide) rfl ?_
      refine x_iinc (pc := 43) C 3 [(5, .int ((l5 + 1))), (3, .long (x10)), (0, .ref (b)), (1, .long (l1))] dX7_mixedText_43 rfl rfl (by decide) rfl ?_
      refine x_goto (pc := 46) C 16 dX7_mixedText_46 rfl ?_
      exact x_sub [2, 3, 1, 0] rfl (ih _ _ _ _ _ _ hF kx)
set_option maxRecDepth 4000 in
theorem c_X7_mixedText (l : Launch) (G : xG) (b : Nat)     (a1 : Int64) {w w' : xWt} {v : Int64} (hF : F_X7_mixedText a1 w = some (v, w')) : xMet l G b yX7_mixedText cX7_mixedText 6 (some .long) (xR 2) [.ref (b), .long (a1)] (CW G b w) (some (.long v)) (CW G b w') 0 0 := by
  refine x_of (own := RX7) rfl (plainFor_of_name pn_X7) (Nat.le_of_ble_eq_true rfl) ?_
  intro p e s m args below meth c ha C hr _
  unfold F_X7_mixedText at hF
  refine x_lload_n (pc := 0) C 1 dX7_mixedText_0 rfl rfl ?_
  refine x_aload_n (pc := 1) C 0 dX7_mixedText_1 rfl rfl ?_
  refine gf_X7_29 (pc := 2) C  dX7_mixedText_2 ?_
  refine cV1_0 (pc := 5) (val := Value.int) C hF (fun _ _ h => c_X3_length l G b  h) vm_X3_length wq776 rfl rfl ⟨Nat.le_of_ble_eq_true rfl, Nat.le_of_ble_eq_true rfl⟩ rfl rfl (fun _ h => CW.tx h) (Nat.le_of_ble_eq_true rfl) ⟨Nat.le_refl _, Nat.le_refl _⟩ dX7_mixedText_5 (fun x2 w1 hF => ?_)
  refine x_i2l (pc := 8) C dX7_mixedText_8 ?_
  refine cS1_2 (pc := 9) (val := Value.long) C hF (fun _ _ h => c_X7_mixed l G b  _ _ h) sm_X7_mixed wq1267 rfl rfl ⟨Nat.le_of_ble_eq_true rfl, Nat.le_of_ble_eq_true rfl⟩ (Nat.le_of_ble_eq_true rfl) ⟨Nat.le_refl _, Nat.le_refl _⟩ dX7_mixedText_9 (fun x4 w3 hF => ?_)
  refine x_lstore_n (pc := 12) C [(3, .long (x4)), (0, .ref (b)), (1, .long (a1))] dX7_mixedText_12 rfl (by decide) rfl ?_
  refine x_iconst (pc := 13) C 0 dX7_mixedText_13 ki_0 ?_
  refine x_istore (pc := 14) C [(5, .int (0)), (3, .long (x4)), (0, .ref (b)), (1, .long (a1))] dX7_mixedText_14 (by decide) rfl ?_
  obtain ⟨o12, w13, hL, hF⟩ := bd_some hF
  refine x_sub [2, 3, 1, 0] rfl (s_X7_mixedText_16 C  _ _ _ _ _ _ _ hL ?_)
  refine x_lload_n (pc := 49) C 2 dX7_mixedText_49 rfl rfl ?_
  obtain ⟨rfl, rfl⟩ := ret_eq hF
  exact x_lret (pc := 50) C hr rfl (fun _ h => h) dX7_mixedText_50
set_option maxRecDepth 4000 in
theorem s_X7_digest_6 (C : xC p m c s args meth G b cX7_digest 4 RX7)    : ∀ (n9 : Nat) (l1 : Int64) (l3 : Int32) (w : xWt) (o : (Int64 × Int32)) (w' : xWt), L_X7_digest_6  n9 l1 l3 w = some (o, w') → xW p l e (xR 5) s m args below meth c Q b 4 (CW G b w') 0 0 29 [(0, .ref (b)), (1, .long (o.1)), (3, .int (o.2))] [] → xW p l e (xR 5) s m args below meth c Q b 4 (CW G b w) 0 0 6 [(0, .ref (b)), (1, .long (l1)), (3, .int (l3))] [] := by
  intro n9
  induction n9 with
  | zero => intro l1 l3 w o w' hF; exact none_ne (show none = some _ from hF)
  | succ n9 ih =>
    intro l1 l3 w o w' hF kx
    replace hF : B_X7_digest_6  (L_X7_digest_6  n9) l1 l3 w = some (o, w') := hF
    unfold B_X7_digest_6 at hF
    refine x_iload_n (pc := 6) C 2 dX7_digest_6 rfl rfl ?_
    refine x_bipush (pc := 7) C 15 dX7_digest_7 kb_15 ?_
    refine x_icmp_gt (pc := 9) C 29 dX7_digest_9 rfl hF (fun c5 hF => ?_) (fun c5 hF => ?_)
    · obtain ⟨rfl, rfl⟩ := ret_eq hF
      exact x_sub [0, 1, 2] rfl kx
    · refine x_lload_n (pc := 12) C 1 dX7_digest_12 rfl rfl ?_
      refine x_aload_n (pc := 13) C 0 dX7_digest_13 rfl rfl ?_
      refine x_iload_n (pc := 14) C 2 dX7_digest_14 rfl rfl ?_
      refine cV1_1 (pc := 15) (val := Value.int) C hF (fun _ _ h => c_X7_counted l G b  _ h) vm_X7_counted wq1062 rfl rfl ⟨Nat.le_of_ble_eq_true rfl, Nat.le_of_ble_eq_true rfl⟩ rfl rfl (fun _ h => CW.pl h) (Nat.le_of_ble_eq_true rfl) ⟨Nat.le_refl _, Nat.le_refl _⟩ dX7_digest_15 (fun x2 w1 hF => ?_)
      refine x_i2l (pc := 18) C dX7_digest_18 ?_
      refine cS1_2 (pc := 19) (val := Value.long) C hF (fun _ _ h => c_X7_mixed l G b  _ _ h) sm_X7_mixed wq1267 rfl rfl ⟨Nat.le_of_ble_eq_true rfl, Nat.le_of_ble_eq_true rfl⟩ (Nat.le_of_ble_eq_true rfl) ⟨Nat.le_refl _, Nat.le_refl _⟩ dX7_digest_19 (fun x4 w3 hF => ?_)
      refine x_lstore_n (pc := 22) C [(1, .long (x4)), (0, .ref (b)), (3, .int (l3))] dX7_digest_22 rfl (by decide) rfl ?_
      refine x_iinc (pc := 23) C 2 [(3, .int ((l3 + 1))), (1, .long (x4)), (0, .ref (b))] dX7_digest_23 rfl rfl (by decide) rfl ?_
      refine x_goto (pc := 26) C 6 dX7_digest_26 rfl ?_
      exact x_sub [2, 1, 0] rfl (ih _ _ _ _ _ hF kx)
set_option maxRecDepth 4000 in
theorem s_X7_digest_31 (C : xC p m c s args meth G b cX7_digest 4 RX7)    : ∀ (n9 : Nat) (l1 : Int64) (l3 : Int32) (w : xWt) (o : (Int64 × Int32)) (w' : xWt), L_X7_digest_31  n9 l1 l3 w = some (o, w') → xW p l e (xR 5) s m args below meth c Q b 4 (CW G b w') 0 0 56 [(0, .ref (b)), (1, .long (o.1)), (3, .int (o.2))] [] → xW p l e (xR 5) s m args below meth c Q b 4 (CW G b w) 0 0 31 [(0, .ref (b)), (1, .long (l1)), (3, .int (l3))] [] := by
  intro n9
  induction n9 with
  | zero => intro l1 l3 w o w' hF; exact none_ne (show none = some _ from hF)
  | succ n9 ih =>
    intro l1 l3 w o w' hF kx
    replace hF : B_X7_digest_31  (L_X7_digest_31  n9) l1 l3 w = some (o, w') := hF
    unfold B_X7_digest_31 at hF
    refine x_iload_n (pc := 31) C 2 dX7_digest_31 rfl rfl ?_
    refine x_iconst (pc := 32) C 2 dX7_digest_32 ki_2 ?_
    refine x_icmp_ge (pc := 33) C 56 dX7_digest_33 rfl hF (fun c12 hF => ?_) (fun c12 hF => ?_)
    · obtain ⟨rfl, rfl⟩ := ret_eq hF
      exact x_sub [0, 1, 2] rfl kx
    · refine x_lload_n (pc := 36) C 1 dX7_digest_36 rfl rfl ?_
      refine x_aload_n (pc := 37) C 0 dX7_digest_37 rfl rfl ?_
      refine gf_X7_10 (pc := 38) C  dX7_digest_38 ?_
      refine x_iload_n (pc := 41) C 2 dX7_digest_41 rfl rfl ?_
      refine cV1_1 (pc := 42) (val := Value.int) C hF (fun _ _ h => c_X6_valueOf l G b (by decide) _ h) vm_X6_valueOf wq1101 rfl rfl ⟨Nat.le_of_ble_eq_true rfl, Nat.le_of_ble_eq_true rfl⟩ rfl rfl (fun _ h => CW.yd h (by decide)) (Nat.le_of_ble_eq_true rfl) ⟨Nat.le_refl _, Nat.le_refl _⟩ dX7_digest_42 (fun x9 w8 hF => ?_)
      refine x_i2l (pc := 45) C dX7_digest_45 ?_
      refine cS1_2 (pc := 46) (val := Value.long) C hF (fun _ _ h => c_X7_mixed l G b  _ _ h) sm_X7_mixed wq1267 rfl rfl ⟨Nat.le_of_ble_eq_true rfl, Nat.le_of_ble_eq_true rfl⟩ (Nat.le_of_ble_eq_true rfl) ⟨Nat.le_refl _, Nat.le_refl _⟩ dX7_digest_46 (fun x11 w10 hF => ?_)
      refine x_lstore_n (pc := 49) C [(1, .long (x11)), (0, .ref (b)), (3, .int (l3))] dX7_digest_49 rfl (by decide) rfl ?_
      refine x_iinc (pc := 50) C 2 [(3, .int ((l3 + 1))), (1, .long (x11)), (0, .ref (b))] dX7_digest_50 rfl rfl (by decide) rfl ?_
      refine x_goto (pc := 53) C 31 dX7_digest_53 rfl ?_
      exact x_sub [2, 1, 0] rfl (ih _ _ _ _ _ hF kx)
set_option maxRecDepth 4000 in
theorem s_X7_digest_58 (C : xC p m c s args meth G b cX7_digest 4 RX7)    : ∀ (n9 : Nat) (l1 : Int64) (l3 : Int32) (w : xWt) (o : (Int64 × Int32)) (w' : xWt), L_X7_digest_58  n9 l1 l3 w = some (o, w') → xW p l e (xR 5) s m args below meth c Q b 4 (CW G b w') 0 0 90 [(0, .ref (b)), (1, .long (o.1)), (3, .int (o.2))] [] → xW p l e (xR 5) s m args below meth c Q b 4 (CW G b w) 0 0 58 [(0, .ref (b)), (1, .long (l1)), (3, .int (l3))] [] := by
  intro n9
  induction n9 with
  | zero => intro l1 l3 w o w' hF; exact none_ne (show none = some _ from hF)
  | succ n9 ih =>
    intro l1 l3 w o w' hF kx
    replace hF : B_X7_digest_58  (L_X7_digest_58  n9) l1 l3 w = some (o, w') := hF
    unfold B_X7_digest_58 at hF
    refine x_iload_n (pc := 58) C 2 dX7_digest_58 rfl rfl ?_
    refine x_bipush (pc := 59) C 12 dX7_digest_59 kb_12 ?_
    refine x_icmp_ge (pc := 61) C 90 dX7_digest_61 rfl hF (fun c19 hF => ?_) (fun c19 hF => ?_)
    · obtain ⟨rfl, rfl⟩ := ret_eq hF
      exact x_sub [0, 1, 2] rfl kx
    · refine x_lload_n (pc := 64) C 1 dX7_digest_64 rfl rfl ?_
      refine x_aload_n (pc := 65) C 0 dX7_digest_65 rfl rfl ?_
      refine gf_X7_10 (pc := 66) C  dX7_digest_66 ?_
      refine gf_X7_107 (pc := 69) C (by decide) dX7_digest_69 ?_
      refine gf_X7_235 (pc := 72) C (by decide) dX7_digest_72 ?_
      refine x_iload_n (pc := 75) C 2 dX7_digest_75 rfl rfl ?_
      refine cV1_1 (pc := 76) (val := Value.int) C hF (fun _ _ h => r_X4_get l G b (vr_y 0 (by decide) (by decide)) _ h) vm_X4_get wq944 rfl rfl ⟨Nat.le_of_ble_eq_true rfl, Nat.le_of_ble_eq_true rfl⟩ rfl rfl (fun _ h => CW.row0 h (vr_y 0 (by decide) (by decide))) (Nat.le_of_ble_eq_true rfl) ⟨Nat.le_refl _, Nat.le_refl _⟩ dX7_digest_76 (fun x16 w15 hF => ?_)
      refine x_i2l (pc := 79) C dX7_digest_79 ?_
      refine cS1_2 (pc := 80) (val := Value.long) C hF (fun _ _ h => c_X7_mixed l G b  _ _ h) sm_X7_mixed wq1267 rfl rfl ⟨Nat.le_of_ble_eq_true rfl, Nat.le_of_ble_eq_true rfl⟩ (Nat.le_of_ble_eq_true rfl) ⟨Nat.le_refl _, Nat.le_refl _⟩ dX7_digest_80 (fun x18 w17 hF => ?_)
      refine x_lstore_n (pc := 83) C [(1, .long (x18)), (0, .ref (b)), (3, .int (l3))] dX7_digest_83 rfl (by decide) rfl ?_
      refine x_iinc (pc := 84) C 2 [(3, .int ((l3 + 1))), (1, .long (x18)), (0, .ref (b))] dX7_digest_84 rfl rfl (by decide) rfl ?_
      refine x_goto (pc := 87) C 58 dX7_digest_87 rfl ?_
      exact x_sub [2, 1, 0] rfl (ih _ _ _ _ _ hF kx)
set_option maxRecDepth 4000 in
theorem s_X7_digest_92 (C : xC p m c s args meth G b cX7_digest 4 RX7)    : ∀ (n9 : Nat) (l1 : Int64) (l3 : Int32) (w : xWt) (o : (Int64 × Int32)) (w' : xWt), L_X7_digest_92  n9 l1 l3 w = some (o, w') → xW p l e (xR 5) s m args below meth c Q b 4 (CW G b w') 0 0 125 [(0, .ref (b)), (1, .long (o.1)), (3, .int (o.2))] [] → xW p l e (xR 5) s m args below meth c Q b 4 (CW G b w) 0 0 92 [(0, .ref (b)), (1, .long (l1)), (3, .int (l3))] [] := by
  intro n9
  induction n9 with
  | zero => intro l1 l3 w o w' hF; exact none_ne (show none = some _ from hF)
  | succ n9 ih =>
    intro l1 l3 w o w' hF kx
    replace hF : B_X7_digest_92  (L_X7_digest_92  n9) l1 l3 w = some (o, w') := hF
    unfold B_X7_digest_92 at hF
    refine x_iload_n (pc := 92) C 2 dX7_digest_92 rfl rfl ?_
    refine x_aload_n (pc := 93) C 0 dX7_digest_93 rfl rfl ?_
    refine gf_X7_10 (pc := 94) C  dX7_digest_94 ?_
    refine gf_X7_107 (pc := 97) C (by decide) dX7_digest_97 ?_
    refine gf_X7_314 (pc := 100) C (by decide) dX7_digest_100 ?_
    refine x_icmp_ge (pc := 103) C 125 dX7_digest_103 rfl hF (fun c25 hF => ?_) (fun c25 hF => ?_)
    · obtain ⟨rfl, rfl⟩ := ret_eq hF
      exact x_sub [0, 1, 2] rfl kx
    · refine x_iload_n (pc := 106) C 2 dX7_digest_106 rfl rfl ?_
      refine x_bipush (pc := 107) C 120 dX7_digest_107 kb_120 ?_
      refine x_icmp_ge (pc := 109) C 125 dX7_digest_109 rfl hF (fun c24 hF => ?_) (fun c24 hF => ?_)
      · obtain ⟨rfl, rfl⟩ := ret_eq hF
        exact x_sub [0, 1, 2] rfl kx
      · refine x_aload_n (pc := 112) C 0 dX7_digest_112 rfl rfl ?_
        refine x_lload_n (pc := 113) C 1 dX7_digest_113 rfl rfl ?_
        refine x_iload_n (pc := 114) C 2 dX7_digest_114 rfl rfl ?_
        refine cV1_2 (pc := 115) (val := Value.long) C hF (fun _ _ h => c_X7_mixedLeaf l G b  _ _ h) vm_X7_mixedLeaf wq1271 rfl rfl ⟨Nat.le_of_ble_eq_true rfl, Nat.le_of_ble_eq_true rfl⟩ rfl rfl (fun _ h => CW.pl h) (Nat.le_of_ble_eq_true rfl) ⟨Nat.le_refl _, Nat.le_refl _⟩ dX7_digest_115 (fun x23 w22 hF => ?_)
        refine x_lstore_n (pc := 118) C [(1, .long (x23)), (0, .ref (b)), (3, .int (l3))] dX7_digest_118 rfl (by decide) rfl ?_
        refine x_iinc (pc := 119) C 2 [(3, .int ((l3 + 1))), (1, .long (x23)), (0, .ref (b))] dX7_digest_119 rfl rfl (by decide) rfl ?_
        refine x_goto (pc := 122) C 92 dX7_digest_122 rfl ?_
        exact x_sub [2, 1, 0] rfl (ih _ _ _ _ _ hF kx)
set_option maxRecDepth 4000 in
theorem s_X7_digest_127 (C : xC p m c s args meth G b cX7_digest 4 RX7)    : ∀ (n9 : Nat) (l1 : Int64) (l3 : Int32) (w : xWt) (o : (Int64 × Int32)) (w' : xWt), L_X7_digest_127  n9 l1 l3 w = some (o, w') → xW p l e (xR 5) s m args below meth c Q b 4 (CW G b w') 0 0 159 [(0, .ref (b)), (1, .long (o.1)), (3, .int (o.2))] [] → xW p l e (xR 5) s m args below meth c Q b 4 (CW G b w) 0 0 127 [(0, .ref (b)), (1, .long (l1)), (3, .int (l3))] [] := by
  intro n9
  induction n9 with
  | zero => intro l1 l3 w o w' hF; exact none_ne (show none = some _ from hF)
  | succ n9 ih =>
    intro l1 l3 w o w' hF kx
    replace hF : B_X7_digest_127  (L_X7_digest_127  n9) l1 l3 w = some (o, w') := hF
    unfold B_X7_digest_127 at hF
    refine x_iload_n (pc := 127) C 2 dX7_digest_127 rfl rfl ?_
    refine x_iconst (pc := 128) C 5 dX7_digest_128 ki_5 ?_
    refine x_icmp_ge (pc := 129) C 159 dX7_digest_129 rfl hF (fun c33 hF => ?_) (fun c33 hF => ?_)
    · obtain ⟨rfl, rfl⟩ := ret_eq hF
      exact x_sub [0, 1, 2] rfl kx
    · refine x_aload_n (pc := 132) C 0 dX7_digest_132 rfl rfl ?_
      refine gf_X7_10 (pc := 133) C  dX7_digest_133 ?_
      refine gf_X7_33 (pc := 136) C (by decide) dX7_digest_136 ?_
      refine x_iload_n (pc := 139) C 2 dX7_digest_139 rfl rfl ?_
      refine cV1_1 (pc := 140) (val := Value.int) C hF (fun _ _ h => c_X0_isHere l G b (by decide) _ h) vm_X0_isHere wq248 rfl rfl ⟨Nat.le_of_ble_eq_true rfl, Nat.le_of_ble_eq_true rfl⟩ rfl rfl (fun _ h => CW.ch h (by decide)) (Nat.le_of_ble_eq_true rfl) ⟨Nat.le_refl _, Nat.le_refl _⟩ dX7_digest_140 (fun x29 w28 hF => ?_)
      refine x_if_eq (pc := 143) C 153 dX7_digest_143 rfl hF (fun c32 hF => ?_) (fun c32 hF => ?_)
      · refine x_iinc (pc := 153) C 2 [(3, .int ((l3 + 1))), (0, .ref (b)), (1, .long (l1))] dX7_digest_153 rfl rfl (by decide) rfl ?_
        refine x_goto (pc := 156) C 127 dX7_digest_156 rfl ?_
        exact x_sub [1, 2, 0] rfl (ih _ _ _ _ _ hF kx)
      · refine x_aload_n (pc := 146) C 0 dX7_digest_146 rfl rfl ?_
        refine x_lload_n (pc := 147) C 1 dX7_digest_147 rfl rfl ?_
        refine x_iload_n (pc := 148) C 2 dX7_digest_148 rfl rfl ?_
        refine cV1_2 (pc := 149) (val := Value.long) C hF (fun _ _ h => c_X7_mixedChild l G b  _ _ h) vm_X7_mixedChild wq1275 rfl rfl ⟨Nat.le_of_ble_eq_true rfl, Nat.le_of_ble_eq_true rfl⟩ rfl rfl (fun _ h => CW.pl h) (Nat.le_of_ble_eq_true rfl) ⟨Nat.le_refl _, Nat.le_refl _⟩ dX7_digest_149 (fun x31 w30 hF => ?_)
        refine x_lstore_n (pc := 152) C [(1, .long (x31)), (0, .ref (b)), (3, .int (l3))] dX7_digest_152 rfl (by decide) rfl ?_
        refine x_iinc (pc := 153) C 2 [(3, .int ((l3 + 1))), (1, .long (x31)), (0, .ref (b))] dX7_digest_153 rfl rfl (by decide) rfl ?_
        refine x_goto (pc := 156) C 127 dX7_digest_156 rfl ?_
        exact x_sub [2, 1, 0] rfl (ih _ _ _ _ _ hF kx)
set_option maxRecDepth 4000 in
theorem c_X7_digest (l : Launch) (G : xG) (b : Nat)      {w w' : xWt} {v : Int64} (hF : F_X7_digest  w = some (v, w')) : xMet l G b yX7_digest cX7_digest 4 (some .long) (xR 5) [.ref (b)] (CW G b w) (some (.long v)) (CW G b w') 0 0 := by
  refine x_of (own := RX7) rfl (plainFor_of_name pn_X7) (Nat.le_of_ble_eq_true rfl) ?_
  intro p e s m args below meth c ha C hr _
  unfold F_X7_digest at hF
  refine x_ldc2 (pc := 0) C wq1266 dX7_digest_0 ?_
  refine x_lstore_n (pc := 3) C [(1, .long (3347)), (0, .ref (b))] dX7_digest_3 rfl (by decide) rfl ?_
  refine x_iconst (pc := 4) C 0 dX7_digest_4 ki_0 ?_
  refine x_istore_n (pc := 5) C [(3, .int (0)), (1, .long (3347)), (0, .ref (b))] dX7_digest_5 rfl (by decide) rfl ?_
  obtain ⟨o6, w7, hL, hF⟩ := bd_some hF
  refine x_sub [2, 1, 0] rfl (s_X7_digest_6 C  _ _ _ _ _ _ hL ?_)
  refine x_iconst (pc := 29) C 0 dX7_digest_29 ki_0 ?_
  refine x_istore_n (pc := 30) C [(3, .int (0)), (0, .ref (b)), (1, .long (o6.1))] dX7_digest_30 rfl (by decide) rfl ?_
  obtain ⟨o13, w14, hL, hF⟩ := bd_some hF
  refine x_sub [1, 2, 0] rfl (s_X7_digest_31 C  _ _ _ _ _ _ hL ?_)
  refine x_iconst (pc := 56) C 0 dX7_digest_56 ki_0 ?_
  refine x_istore_n (pc := 57) C [(3, .int (0)), (0, .ref (b)), (1, .long (o13.1))] dX7_digest_57 rfl (by decide) rfl ?_
  obtain ⟨o20, w21, hL, hF⟩ := bd_some hF
  refine x_sub [1, 2, 0] rfl (s_X7_digest_58 C  _ _ _ _ _ _ hL ?_)
  refine x_iconst (pc := 90) C 0 dX7_digest_90 ki_0 ?_
  refine x_istore_n (pc := 91) C [(3, .int (0)), (0, .ref (b)), (1, .long (o20.1))] dX7_digest_91 rfl (by decide) rfl ?_
  obtain ⟨o26, w27, hL, hF⟩ := bd_some hF
  refine x_sub [1, 2, 0] rfl (s_X7_digest_92 C  _ _ _ _ _ _ hL ?_)
  refine x_iconst (pc := 125) C 0 dX7_digest_125 ki_0 ?_
  refine x_istore_n (pc := 126) C [(3, .int (0)), (0, .ref (b)), (1, .long (o26.1))] dX7_digest_126 rfl (by decide) rfl ?_
  obtain ⟨o34, w35, hL, hF⟩ := bd_some hF
  refine x_sub [1, 2, 0] rfl (s_X7_digest_127 C  _ _ _ _ _ _ hL ?_)
  refine x_lload_n (pc := 159) C 1 dX7_digest_159 rfl rfl ?_
  refine x_aload_n (pc := 160) C 0 dX7_digest_160 rfl rfl ?_
  refine gf_X7_10 (pc := 161) C  dX7_digest_161 ?_
  refine cV1_0 (pc := 164) (val := Value.int) C hF (fun _ _ h => c_X6_bestHeap l G b (by decide) h) vm_X6_bestHeap wq1148 rfl rfl ⟨Nat.le_of_ble_eq_true rfl, Nat.le_of_ble_eq_true rfl⟩ rfl rfl (fun _ h => CW.yd h (by decide)) (Nat.le_of_ble_eq_true rfl) ⟨Nat.le_refl _, Nat.le_refl _⟩ dX7_digest_164 (fun x37 w36 hF => ?_)
  refine x_i2l (pc := 167) C dX7_digest_167 ?_
  refine cS1_2 (pc := 168) (val := Value.long) C hF (fun _ _ h => c_X7_mixed l G b  _ _ h) sm_X7_mixed wq1267 rfl rfl ⟨Nat.le_of_ble_eq_true rfl, Nat.le_of_ble_eq_true rfl⟩ (Nat.le_of_ble_eq_true rfl) ⟨Nat.le_refl _, Nat.le_refl _⟩ dX7_digest_168 (fun x39 w38 hF => ?_)
  refine x_lstore_n (pc := 171) C [(1, .long (x39)), (0, .ref (b)), (3, .int (o34.2))] dX7_digest_171 rfl (by decide) rfl ?_
  refine x_lload_n (pc := 172) C 0 dX7_digest_172 rfl rfl ?_
  refine x_aload_n (pc := 173) C 1 dX7_digest_173 rfl rfl ?_
  refine gf_X7_10 (pc := 174) C  dX7_digest_174 ?_
  refine gf_X7_33 (pc := 177) C (by decide) dX7_digest_177 ?_
  refine x_aload_n (pc := 180) C 1 dX7_digest_180 rfl rfl ?_
  refine gf_X7_10 (pc := 181) C  dX7_digest_181 ?_
  refine gf_X7_223 (pc := 184) C (by decide) dX7_digest_184 ?_
  refine cV1_1 (pc := 187) (val := Value.int) C hF (fun _ _ h => c_X0_maskOfLate l G b (by decide) _ h) vm_X0_maskOfLate wq1184 rfl rfl ⟨Nat.le_of_ble_eq_true rfl, Nat.le_of_ble_eq_true rfl⟩ rfl rfl (fun _ h => CW.ch h (by decide)) (Nat.le_of_ble_eq_true rfl) ⟨Nat.le_refl _, Nat.le_refl _⟩ dX7_digest_187 (fun x41 w40 hF => ?_)
  refine x_i2l (pc := 190) C dX7_digest_190 ?_
  refine cS1_2 (pc := 191) (val := Value.long) C hF (fun _ _ h => c_X7_mixed l G b  _ _ h) sm_X7_mixed wq1267 rfl rfl ⟨Nat.le_of_ble_eq_true rfl, Nat.le_of_ble_eq_true rfl⟩ (Nat.le_of_ble_eq_true rfl) ⟨Nat.le_refl _, Nat.le_refl _⟩ dX7_digest_191 (fun x43 w42 hF => ?_)
  refine x_lstore_n (pc := 194) C [(1, .long (x43)), (0, .ref (b)), (3, .int (o34.2))] dX7_digest_194 rfl (by decide) rfl ?_
  refine x_lload_n (pc := 195) C 0 dX7_digest_195 rfl rfl ?_
  refine x_aload_n (pc := 196) C 1 dX7_digest_196 rfl rfl ?_
  refine gf_X7_10 (pc := 197) C  dX7_digest_197 ?_
  refine cV1_0 (pc := 200) (val := Value.int) C hF (fun _ _ h => c_X6_burnableIfAllRested l G b (by decide) h) vm_X6_burnableIfAllRested wq1212 rfl rfl ⟨Nat.le_of_ble_eq_true rfl, Nat.le_of_ble_eq_true rfl⟩ rfl rfl (fun _ h => CW.yd h (by decide)) (Nat.le_of_ble_eq_true rfl) ⟨Nat.le_refl _, Nat.le_refl _⟩ dX7_digest_200 (fun x45 w44 hF => ?_)
  refine x_i2l (pc := 203) C dX7_digest_203 ?_
  refine cS1_2 (pc := 204) (val := Value.long) C hF (fun _ _ h => c_X7_mixed l G b  _ _ h) sm_X7_mixed wq1267 rfl rfl ⟨Nat.le_of_ble_eq_true rfl, Nat.le_of_ble_eq_true rfl⟩ (Nat.le_of_ble_eq_true rfl) ⟨Nat.le_refl _, Nat.le_refl _⟩ dX7_digest_204 (fun x47 w46 hF => ?_)
  refine x_lstore_n (pc := 207) C [(1, .long (x47)), (0, .ref (b)), (3, .int (o34.2))] dX7_digest_207 rfl (by decide) rfl ?_
  refine x_lload_n (pc := 208) C 0 dX7_digest_208 rfl rfl ?_
  refine x_aload_n (pc := 209) C 1 dX7_digest_209 rfl rfl ?_
  refine gf_X7_10 (pc := 210) C  dX7_digest_210 ?_
  refine cV1_0 (pc := 213) (val := Value.int) C hF (fun _ _ h => c_X6_mostPinned l G b (by decide) h) vm_X6_mostPinned wq1224 rfl rfl ⟨Nat.le_of_ble_eq_true rfl, Nat.le_of_ble_eq_true rfl⟩ rfl rfl (fun _ h => CW.yd h (by decide)) (Nat.le_of_ble_eq_true rfl) ⟨Nat.le_refl _, Nat.le_refl _⟩ dX7_digest_213 (fun x49 w48 hF => ?_)
  refine x_i2l (pc := 216) C dX7_digest_216 ?_
  refine cS1_2 (pc := 217) (val := Value.long) C hF (fun _ _ h => c_X7_mixed l G b  _ _ h) sm_X7_mixed wq1267 rfl rfl ⟨Nat.le_of_ble_eq_true rfl, Nat.le_of_ble_eq_true rfl⟩ (Nat.le_of_ble_eq_true rfl) ⟨Nat.le_refl _, Nat.le_refl _⟩ dX7_digest_217 (fun x51 w50 hF => ?_)
  refine x_lstore_n (pc := 220) C [(1, .long (x51)), (0, .ref (b)), (3, .int (o34.2))] dX7_digest_220 rfl (by decide) rfl ?_
  refine x_lload_n (pc := 221) C 0 dX7_digest_221 rfl rfl ?_
  refine x_aload_n (pc := 222) C 1 dX7_digest_222 rfl rfl ?_
  refine cV1_0 (pc := 223) (val := Value.double) C hF (fun _ _ h => c_X7_burntShare l G b  h) vm_X7_burntShare wq1280 rfl rfl ⟨Nat.le_of_ble_eq_true rfl, Nat.le_of_ble_eq_true rfl⟩ rfl rfl (fun _ h => CW.pl h) (Nat.le_of_ble_eq_true rfl) ⟨Nat.le_refl _, Nat.le_refl _⟩ dX7_digest_223 (fun x53 w52 hF => ?_)
  refine x_bipush (pc := 226) C 52 dX7_digest_226 kb_52 ?_
  refine x_sipush (pc := 228) C 1023 dX7_digest_228 ks_1023 ?_
  refine cS1_3 (pc := 231) (val := Value.long) C hF (fun _ _ h => c_X7_bitsOf l G b  _ _ _ h) sm_X7_bitsOf wq1281 rfl rfl ⟨Nat.le_of_ble_eq_true rfl, Nat.le_of_ble_eq_true rfl⟩ (Nat.le_of_ble_eq_true rfl) ⟨Nat.le_refl _, Nat.le_refl _⟩ dX7_digest_231 (fun x55 w54 hF => ?_)
  refine cS1_2 (pc := 234) (val := Value.long) C hF (fun _ _ h => c_X7_mixed l G b  _ _ h) sm_X7_mixed wq1267 rfl rfl ⟨Nat.le_of_ble_eq_true rfl, Nat.le_of_ble_eq_true rfl⟩ (Nat.le_of_ble_eq_true rfl) ⟨Nat.le_refl _, Nat.le_refl _⟩ dX7_digest_234 (fun x57 w56 hF => ?_)
  refine x_lstore_n (pc := 237) C [(1, .long (x57)), (0, .ref (b)), (3, .int (o34.2))] dX7_digest_237 rfl (by decide) rfl ?_
  refine x_lload_n (pc := 238) C 0 dX7_digest_238 rfl rfl ?_
  refine x_aload_n (pc := 239) C 1 dX7_digest_239 rfl rfl ?_
  refine cV1_0 (pc := 240) (val := Value.float) C hF (fun _ _ h => c_X7_fullness l G b  h) vm_X7_fullness wq1285 rfl rfl ⟨Nat.le_of_ble_eq_true rfl, Nat.le_of_ble_eq_true rfl⟩ rfl rfl (fun _ h => CW.pl h) (Nat.le_of_ble_eq_true rfl) ⟨Nat.le_refl _, Nat.le_refl _⟩ dX7_digest_240 (fun x59 w58 hF => ?_)
  refine y_f2d (pc := 243) C dX7_digest_243 hF (fun x60 hF => ?_)
  refine x_bipush (pc := 244) C 23 dX7_digest_244 kb_23 ?_
  refine x_bipush (pc := 246) C 127 dX7_digest_246 kb_127 ?_
  refine cS1_3 (pc := 248) (val := Value.long) C hF (fun _ _ h => c_X7_bitsOf l G b  _ _ _ h) sm_X7_bitsOf wq1281 rfl rfl ⟨Nat.le_of_ble_eq_true rfl, Nat.le_of_ble_eq_true rfl⟩ (Nat.le_of_ble_eq_true rfl) ⟨Nat.le_refl _, Nat.le_refl _⟩ dX7_digest_248 (fun x62 w61 hF => ?_)
  refine cS1_2 (pc := 251) (val := Value.long) C hF (fun _ _ h => c_X7_mixed l G b  _ _ h) sm_X7_mixed wq1267 rfl rfl ⟨Nat.le_of_ble_eq_true rfl, Nat.le_of_ble_eq_true rfl⟩ (Nat.le_of_ble_eq_true rfl) ⟨Nat.le_refl _, Nat.le_refl _⟩ dX7_digest_251 (fun x64 w63 hF => ?_)
  refine x_lstore_n (pc := 254) C [(1, .long (x64)), (0, .ref (b)), (3, .int (o34.2))] dX7_digest_254 rfl (by decide) rfl ?_
  refine x_lload_n (pc := 255) C 0 dX7_digest_255 rfl rfl ?_
  refine x_aload_n (pc := 256) C 1 dX7_digest_256 rfl rfl ?_
  refine gf_X7_219 (pc := 257) C  dX7_digest_257 ?_
  refine x_if_eq (pc := 260) C 267 dX7_digest_260 rfl hF (fun c73 hF => ?_) (fun c73 hF => ?_)
  · refine x_lconst (pc := 267) C 0 dX7_digest_267 rfl ?_
    refine cS1_2 (pc := 268) (val := Value.long) C hF (fun _ _ h => c_X7_mixed l G b  _ _ h) sm_X7_mixed wq1267 rfl rfl ⟨Nat.le_of_ble_eq_true rfl, Nat.le_of_ble_eq_true rfl⟩ (Nat.le_of_ble_eq_true rfl) ⟨Nat.le_refl _, Nat.le_refl _⟩ dX7_digest_268 (fun x66 w65 hF => ?_)
    refine x_lstore_n (pc := 271) C [(1, .long (x66)), (0, .ref (b)), (3, .int (o34.2))] dX7_digest_271 rfl (by decide) rfl ?_
    refine x_aload_n (pc := 272) C 1 dX7_digest_272 rfl rfl ?_
    refine x_lload_n (pc := 273) C 0 dX7_digest_273 rfl rfl ?_
    refine cV1_1 (pc := 274) (val := Value.long) C hF (fun _ _ h => c_X7_mixedText l G b  _ h) vm_X7_mixedText wq1286 rfl rfl ⟨Nat.le_of_ble_eq_true rfl, Nat.le_of_ble_eq_true rfl⟩ rfl rfl (fun _ h => CW.pl h) (Nat.le_of_ble_eq_true rfl) ⟨Nat.le_refl _, Nat.le_refl _⟩ dX7_digest_274 (fun x68 w67 hF => ?_)
    obtain ⟨rfl, rfl⟩ := ret_eq hF
    exact x_lret (pc := 277) C hr rfl (fun _ h => h) dX7_digest_277
  · refine x_lconst (pc := 263) C 1 dX7_digest_263 rfl ?_
    refine x_goto (pc := 264) C 268 dX7_digest_264 rfl ?_
    refine cS1_2 (pc := 268) (val := Value.long) C hF (fun _ _ h => c_X7_mixed l G b  _ _ h) sm_X7_mixed wq1267 rfl rfl ⟨Nat.le_of_ble_eq_true rfl, Nat.le_of_ble_eq_true rfl⟩ (Nat.le_of_ble_eq_true rfl) ⟨Nat.le_refl _, Nat.le_refl _⟩ dX7_digest_268 (fun x70 w69 hF => ?_)
    refine x_lstore_n (pc := 271) C [(1, .long (x70)), (0, .ref (b)), (3, .int (o34.2))] dX7_digest_271 rfl (by decide) rfl ?_
    refine x_aload_n (pc := 272) C 1 dX7_digest_272 rfl rfl ?_
    refine x_lload_n (pc := 273) C 0 dX7_digest_273 rfl rfl ?_
    refine cV1_1 (pc := 274) (val := Value.long) C hF (fun _ _ h => c_X7_mixedText l G b  _ h) vm_X7_mixedText wq1286 rfl rfl ⟨Nat.le_of_ble_eq_true rfl, Nat.le_of_ble_eq_true rfl⟩ rfl rfl (fun _ h => CW.pl h) (Nat.le_of_ble_eq_true rfl) ⟨Nat.le_refl _, Nat.le_refl _⟩ dX7_digest_274 (fun x72 w71 hF => ?_)
    obtain ⟨rfl, rfl⟩ := ret_eq hF
    exact x_lret (pc := 277) C hr rfl (fun _ h => h) dX7_digest_277
set_option maxRecDepth 4000 in
theorem c_X7_firstError (l : Launch) (G : xG) (b : Nat)      {w w' : xWt} {v : Int32} (hF : F_X7_firstError  w = some (v, w')) : xMet l G b yX7_firstError cX7_firstError 1 (some .int) (xR 5) [.ref (b)] (CW G b w) (some (.int v)) (CW G b w') 0 0 := by
  refine x_of (own := RX7) rfl (plainFor_of_name pn_X7) (Nat.le_of_ble_eq_true rfl) ?_
  intro p e s m args below meth c ha C hr _
  unfold F_X7_firstError at hF
  refine x_aload_n (pc := 0) C 0 dX7_firstError_0 rfl rfl ?_
  refine gf_X7_29 (pc := 1) C  dX7_firstError_1 ?_
  refine cV1_0 (pc := 4) (val := Value.int) C hF (fun _ _ h => c_X3_firstWrong l G b  h) vm_X3_firstWrong wq807 rfl rfl ⟨Nat.le_of_ble_eq_true rfl, Nat.le_of_ble_eq_true rfl⟩ rfl rfl (fun _ h => CW.tx h) (Nat.le_of_ble_eq_true rfl) ⟨Nat.le_refl _, Nat.le_refl _⟩ dX7_firstError_4 (fun x2 w1 hF => ?_)
  obtain ⟨rfl, rfl⟩ := ret_eq hF
  exact x_iret (pc := 7) C hr rfl (fun _ h => h) dX7_firstError_7
set_option maxRecDepth 4000 in
theorem c_X7_ifAllRested (l : Launch) (G : xG) (b : Nat)      {w w' : xWt} {v : Int32} (hF : F_X7_ifAllRested  w = some (v, w')) : xMet l G b yX7_ifAllRested cX7_ifAllRested 1 (some .int) (xR 2) [.ref (b)] (CW G b w) (some (.int v)) (CW G b w') 0 0 := by
  refine x_of (own := RX7) rfl (plainFor_of_name pn_X7) (Nat.le_of_ble_eq_true rfl) ?_
  intro p e s m args below meth c ha C hr _
  unfold F_X7_ifAllRested at hF
  refine x_aload_n (pc := 0) C 0 dX7_ifAllRested_0 rfl rfl ?_
  refine gf_X7_10 (pc := 1) C  dX7_ifAllRested_1 ?_
  refine cV1_0 (pc := 4) (val := Value.int) C hF (fun _ _ h => c_X6_burnableIfAllRested l G b (by decide) h) vm_X6_burnableIfAllRested wq1212 rfl rfl ⟨Nat.le_of_ble_eq_true rfl, Nat.le_of_ble_eq_true rfl⟩ rfl rfl (fun _ h => CW.yd h (by decide)) (Nat.le_of_ble_eq_true rfl) ⟨Nat.le_refl _, Nat.le_refl _⟩ dX7_ifAllRested_4 (fun x2 w1 hF => ?_)
  obtain ⟨rfl, rfl⟩ := ret_eq hF
  exact x_iret (pc := 7) C hr rfl (fun _ h => h) dX7_ifAllRested_7
set_option maxRecDepth 4000 in
theorem c_X7_isValueOf (l : Launch) (G : xG) (b : Nat)     (a1 : Int32) (a2 : Int32) {w w' : xWt} {v : Int32} (hF : F_X7_isValueOf a1 a2 w = some (v, w')) : xMet l G b yX7_isValueOf cX7_isValueOf 2 (some .boolean) (xR 0) [.int (a1), .int (a2)] (CW G b w) (some (.int v)) (CW G b w') 0 0 := by
  refine x_of (own := RX7) rfl (plainFor_of_name pn_X7) (Nat.le_of_ble_eq_true rfl) ?_
  intro p e s m args below meth c ha C hr _
  unfold F_X7_isValueOf at hF
  refine x_iload_n (pc := 0) C 0 dX7_isValueOf_0 rfl rfl ?_
  refine x_if_ne (pc := 1) C 21 dX7_isValueOf_1 rfl hF (fun c5 hF => ?_) (fun c5 hF => ?_)
  · refine x_iload_n (pc := 21) C 1 dX7_isValueOf_21 rfl rfl ?_
    refine x_if_eq (pc := 22) C 30 dX7_isValueOf_22 rfl hF (fun c2 hF => ?_) (fun c2 hF => ?_)
    · refine x_iconst (pc := 30) C 1 dX7_isValueOf_30 ki_1 ?_
      refine x_goto (pc := 31) C 35 dX7_isValueOf_31 rfl ?_
      obtain ⟨rfl, rfl⟩ := ret_eq hF
      exact x_zret (pc := 35) C rfl hr rfl (fun _ h => h) dX7_isValueOf_35
    · refine x_iload_n (pc := 25) C 1 dX7_isValueOf_25 rfl rfl ?_
      refine x_iconst (pc := 26) C 1 dX7_isValueOf_26 ki_1 ?_
      refine x_icmp_ne (pc := 27) C 34 dX7_isValueOf_27 rfl hF (fun c1 hF => ?_) (fun c1 hF => ?_)
      · refine x_iconst (pc := 34) C 0 dX7_isValueOf_34 ki_0 ?_
        obtain ⟨rfl, rfl⟩ := ret_eq hF
        exact x_zret (pc := 35) C rfl hr rfl (fun _ h => h) dX7_isValueOf_35
      · refine x_iconst (pc := 30) C 1 dX7_isValueOf_30 ki_1 ?_
        refine x_goto (pc := 31) C 35 dX7_isValueOf_31 rfl ?_
        obtain ⟨rfl, rfl⟩ := ret_eq hF
        exact x_zret (pc := 35) C rfl hr rfl (fun _ h => h) dX7_isValueOf_35
  · refine x_iload_n (pc := 4) C 1 dX7_isValueOf_4 rfl rfl ?_
    refine x_iconst (pc := 5) C 1 dX7_isValueOf_5 ki_1 ?_
    refine x_icmp_lt (pc := 6) C 19 dX7_isValueOf_6 rfl hF (fun c4 hF => ?_) (fun c4 hF => ?_)
    · refine x_iconst (pc := 19) C 0 dX7_isValueOf_19 ki_0 ?_
      obtain ⟨rfl, rfl⟩ := ret_eq hF
      exact x_zret (pc := 20) C rfl hr rfl (fun _ h => h) dX7_isValueOf_20
    · refine x_iload_n (pc := 9) C 1 dX7_isValueOf_9 rfl rfl ?_
      refine x_bipush (pc := 10) C 20 dX7_isValueOf_10 kb_20 ?_
      refine x_icmp_gt (pc := 12) C 19 dX7_isValueOf_12 rfl hF (fun c3 hF => ?_) (fun c3 hF => ?_)
      · refine x_iconst (pc := 19) C 0 dX7_isValueOf_19 ki_0 ?_
        obtain ⟨rfl, rfl⟩ := ret_eq hF
        exact x_zret (pc := 20) C rfl hr rfl (fun _ h => h) dX7_isValueOf_20
      · refine x_iconst (pc := 15) C 1 dX7_isValueOf_15 ki_1 ?_
        refine x_goto (pc := 16) C 20 dX7_isValueOf_16 rfl ?_
        obtain ⟨rfl, rfl⟩ := ret_eq hF
        exact x_zret (pc := 20) C rfl hr rfl (fun _ h => h) dX7_isValueOf_20
set_option maxRecDepth 4000 in
theorem c_X7_keep (l : Launch) (G : xG) (b : Nat)      {w w' : xWt} {v : Int32} (hF : F_X7_keep  w = some (v, w')) : xMet l G b yX7_keep cX7_keep 1 (some .int) (xR 4) [.ref (b)] (CW G b w) (some (.int v)) (CW G b w') 0 0 := by
  refine x_of (own := RX7) rfl (plainFor_of_name pn_X7) (Nat.le_of_ble_eq_true rfl) ?_
  intro p e s m args below meth c ha C hr _
  unfold F_X7_keep at hF
  refine x_aload_n (pc := 0) C 0 dX7_keep_0 rfl rfl ?_
  refine gf_X7_16 (pc := 1) C  dX7_keep_1 ?_
  refine x_aload_n (pc := 4) C 0 dX7_keep_4 rfl rfl ?_
  refine gf_X7_10 (pc := 5) C  dX7_keep_5 ?_
  refine cV0_1 (pc := 8) C hF (fun _ _ h => c_X6_copyFrom l G b (by decide) (by decide) h) vm_X6_copyFrom wq900 rfl rfl ⟨Nat.le_of_ble_eq_true rfl, Nat.le_of_ble_eq_true rfl⟩ rfl rfl (fun _ h => CW.yd h (by decide)) (Nat.le_of_ble_eq_true rfl) ⟨Nat.le_refl _, Nat.le_refl _⟩ dX7_keep_8 (fun _ w1 hF => ?_)
  refine x_aload_n (pc := 11) C 0 dX7_keep_11 rfl rfl ?_
  refine x_iconst (pc := 12) C 1 dX7_keep_12 ki_1 ?_
  refine pf_X7_219 (pc := 13) C  (Or.inr rfl) hF dX7_keep_13 (fun w2 hF => ?_)
  refine x_aload_n (pc := 16) C 0 dX7_keep_16 rfl rfl ?_
  refine gf_X7_10 (pc := 17) C  dX7_keep_17 ?_
  refine gf_X7_223 (pc := 20) C (by decide) dX7_keep_20 ?_
  obtain ⟨rfl, rfl⟩ := ret_eq hF
  exact x_iret (pc := 23) C hr rfl (fun _ h => h) dX7_keep_23
set_option maxRecDepth 4000 in
theorem c_X7_late (l : Launch) (G : xG) (b : Nat)      {w w' : xWt} {v : Int32} (hF : F_X7_late  w = some (v, w')) : xMet l G b yX7_late cX7_late 1 (some .int) (xR 3) [.ref (b)] (CW G b w) (some (.int v)) (CW G b w') 0 0 := by
  refine x_of (own := RX7) rfl (plainFor_of_name pn_X7) (Nat.le_of_ble_eq_true rfl) ?_
  intro p e s m args below meth c ha C hr _
  unfold F_X7_late at hF
  refine x_aload_n (pc := 0) C 0 dX7_late_0 rfl rfl ?_
  refine gf_X7_10 (pc := 1) C  dX7_late_1 ?_
  refine gf_X7_33 (pc := 4) C (by decide) dX7_late_4 ?_
  refine x_aload_n (pc := 7) C 0 dX7_late_7 rfl rfl ?_
  refine gf_X7_10 (pc := 8) C  dX7_late_8 ?_
  refine gf_X7_223 (pc := 11) C (by decide) dX7_late_11 ?_
  refine cV1_1 (pc := 14) (val := Value.int) C hF (fun _ _ h => c_X0_maskOfLate l G b (by decide) _ h) vm_X0_maskOfLate wq1184 rfl rfl ⟨Nat.le_of_ble_eq_true rfl, Nat.le_of_ble_eq_true rfl⟩ rfl rfl (fun _ h => CW.ch h (by decide)) (Nat.le_of_ble_eq_true rfl) ⟨Nat.le_refl _, Nat.le_refl _⟩ dX7_late_14 (fun x2 w1 hF => ?_)
  obtain ⟨rfl, rfl⟩ := ret_eq hF
  exact x_iret (pc := 17) C hr rfl (fun _ h => h) dX7_late_17
set_option maxRecDepth 4000 in
theorem c_X7_mostHeld (l : Launch) (G : xG) (b : Nat)      {w w' : xWt} {v : Int32} (hF : F_X7_mostHeld  w = some (v, w')) : xMet l G b yX7_mostHeld cX7_mostHeld 1 (some .int) (xR 3) [.ref (b)] (CW G b w) (some (.int v)) (CW G b w') 0 0 := by
  refine x_of (own := RX7) rfl (plainFor_of_name pn_X7) (Nat.le_of_ble_eq_true rfl) ?_
  intro p e s m args below meth c ha C hr _
  unfold F_X7_mostHeld at hF
  refine x_aload_n (pc := 0) C 0 dX7_mostHeld_0 rfl rfl ?_
  refine gf_X7_10 (pc := 1) C  dX7_mostHeld_1 ?_
  refine cV1_0 (pc := 4) (val := Value.int) C hF (fun _ _ h => c_X6_mostPinned l G b (by decide) h) vm_X6_mostPinned wq1224 rfl rfl ⟨Nat.le_of_ble_eq_true rfl, Nat.le_of_ble_eq_true rfl⟩ rfl rfl (fun _ h => CW.yd h (by decide)) (Nat.le_of_ble_eq_true rfl) ⟨Nat.le_refl _, Nat.le_refl _⟩ dX7_mostHeld_4 (fun x2 w1 hF => ?_)
  obtain ⟨rfl, rfl⟩ := ret_eq hF
  exact x_iret (pc := 7) C hr rfl (fun _ h => h) dX7_mostHeld_7
end WalkF
