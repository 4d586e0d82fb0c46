section WalkM
variable {p : Program} {l : Launch} {e : Env} {s : State} {m : MethodId} {args : Array Value} {below : List Frame} {meth : Method} {c : Code} {Q : State → Prop} {b : Nat} {G : xG}
set_option maxRecDepth 4000 in
theorem c_Jxe99ae_isNaN_b9ae7 (l : Launch) (G : xG) (b : Nat)     (a1 : UInt64) {w w' : xWt} {v : Int32} (hF : F_Jxe99ae_isNaN_b9ae7 a1 w = some (v, w')) : xMet l G b yJxe99ae_isNaN_b9ae7 cJxe99ae_isNaN_b9ae7 2 (some .boolean) (xR 0) [.double (a1)] (CW G b w) (some (.int v)) (CW G b w') 0 0 := by
  refine x_of (own := RJxe99ae) rfl (plainFor_of_name pn_Jxe99ae) (Nat.le_of_ble_eq_true rfl) ?_
  intro p e s m args below meth c ha C hr _
  unfold F_Jxe99ae_isNaN_b9ae7 at hF
  refine x_dload_n (pc := 0) C 0 dJxe99ae_isNaN_b9ae7_0 rfl rfl ?_
  refine x_dload_n (pc := 1) C 0 dJxe99ae_isNaN_b9ae7_1 rfl rfl ?_
  refine x_dcmp (pc := 2) C dJxe99ae_isNaN_b9ae7_2 ?_
  refine x_if_eq (pc := 3) C 10 dJxe99ae_isNaN_b9ae7_3 rfl hF (fun c1 hF => ?_) (fun c1 hF => ?_)
  · refine x_iconst (pc := 10) C 0 dJxe99ae_isNaN_b9ae7_10 ki_0 ?_
    obtain ⟨rfl, rfl⟩ := ret_eq hF
    exact x_zret (pc := 11) C rfl hr rfl (fun _ h => h) dJxe99ae_isNaN_b9ae7_11
  · refine x_iconst (pc := 6) C 1 dJxe99ae_isNaN_b9ae7_6 ki_1 ?_
    refine x_goto (pc := 7) C 11 dJxe99ae_isNaN_b9ae7_7 rfl ?_
    obtain ⟨rfl, rfl⟩ := ret_eq hF
    exact x_zret (pc := 11) C rfl hr rfl (fun _ h => h) dJxe99ae_isNaN_b9ae7_11
set_option maxRecDepth 4000 in
theorem c_Jxe99ae_doubleToLongBits_ccdee (l : Launch) (G : xG) (b : Nat)     (a1 : UInt64) {w w' : xWt} {v : Int64} (hF : F_Jxe99ae_doubleToLongBits_ccdee a1 w = some (v, w')) : xMet l G b yJxe99ae_doubleToLongBits_ccdee cJxe99ae_doubleToLongBits_ccdee 2 (some .long) (xR 1) [.double (a1)] (CW G b w) (some (.long v)) (CW G b w') 0 0 := by
  refine x_of (own := RJxe99ae) rfl (plainFor_of_name pn_Jxe99ae) (Nat.le_of_ble_eq_true rfl) ?_
  intro p e s m args below meth c ha C hr _
  unfold F_Jxe99ae_doubleToLongBits_ccdee at hF
  refine x_dload_n (pc := 0) C 0 dJxe99ae_doubleToLongBits_ccdee_0 rfl rfl ?_
  refine cS1_1 (pc := 1) (val := Value.int) C hF (fun _ _ h => c_Jxe99ae_isNaN_b9ae7 l G b  _ h) sm_Jxe99ae_isNaN_b9ae7 wq1309 rfl rfl ⟨Nat.le_of_ble_eq_true rfl, Nat.le_of_ble_eq_true rfl⟩ (Nat.le_of_ble_eq_true rfl) ⟨Nat.le_refl _, Nat.le_refl _⟩ dJxe99ae_doubleToLongBits_ccdee_1 (fun x2 w1 hF => ?_)
  refine x_if_ne (pc := 4) C 12 dJxe99ae_doubleToLongBits_ccdee_4 rfl hF (fun c3 hF => ?_) (fun c3 hF => ?_)
  · refine x_ldc2 (pc := 12) C wq1308 dJxe99ae_doubleToLongBits_ccdee_12 ?_
    obtain ⟨rfl, rfl⟩ := ret_eq hF
    exact x_lret (pc := 15) C hr rfl (fun _ h => h) dJxe99ae_doubleToLongBits_ccdee_15
  · refine x_dload_n (pc := 7) C 0 dJxe99ae_doubleToLongBits_ccdee_7 rfl rfl ?_
    refine x_doubleToRawLongBits (pc := 8) C wq1304 wq1305 wq1306 wq1307 ⟨Nat.le_of_ble_eq_true rfl, Nat.le_of_ble_eq_true rfl⟩ dJxe99ae_doubleToLongBits_ccdee_8 ?_
    obtain ⟨rfl, rfl⟩ := ret_eq hF
    exact x_lret (pc := 11) C hr rfl (fun _ h => h) dJxe99ae_doubleToLongBits_ccdee_11
set_option maxRecDepth 4000 in
theorem c_Jxf58ca_isNaN_12338 (l : Launch) (G : xG) (b : Nat)     (a1 : UInt32) {w w' : xWt} {v : Int32} (hF : F_Jxf58ca_isNaN_12338 a1 w = some (v, w')) : xMet l G b yJxf58ca_isNaN_12338 cJxf58ca_isNaN_12338 1 (some .boolean) (xR 0) [.float (a1)] (CW G b w) (some (.int v)) (CW G b w') 0 0 := by
  refine x_of (own := RJxf58ca) rfl (by decide +kernel) (Nat.le_of_ble_eq_true rfl) ?_
  intro p e s m args below meth c ha C hr _
  unfold F_Jxf58ca_isNaN_12338 at hF
  refine x_fload_n (pc := 0) C 0 dJxf58ca_isNaN_12338_0 rfl rfl ?_
  refine x_fload_n (pc := 1) C 0 dJxf58ca_isNaN_12338_1 rfl rfl ?_
  refine x_fcmp (pc := 2) C dJxf58ca_isNaN_12338_2 ?_
  refine x_if_eq (pc := 3) C 10 dJxf58ca_isNaN_12338_3 rfl hF (fun c1 hF => ?_) (fun c1 hF => ?_)
  · refine x_iconst (pc := 10) C 0 dJxf58ca_isNaN_12338_10 ki_0 ?_
    obtain ⟨rfl, rfl⟩ := ret_eq hF
    exact x_zret (pc := 11) C rfl hr rfl (fun _ h => h) dJxf58ca_isNaN_12338_11
  · refine x_iconst (pc := 6) C 1 dJxf58ca_isNaN_12338_6 ki_1 ?_
    refine x_goto (pc := 7) C 11 dJxf58ca_isNaN_12338_7 rfl ?_
    obtain ⟨rfl, rfl⟩ := ret_eq hF
    exact x_zret (pc := 11) C rfl hr rfl (fun _ h => h) dJxf58ca_isNaN_12338_11
set_option maxRecDepth 4000 in
theorem c_Jxf58ca_floatToIntBits_5c35a (l : Launch) (G : xG) (b : Nat)     (a1 : UInt32) {w w' : xWt} {v : Int32} (hF : F_Jxf58ca_floatToIntBits_5c35a a1 w = some (v, w')) : xMet l G b yJxf58ca_floatToIntBits_5c35a cJxf58ca_floatToIntBits_5c35a 1 (some .int) (xR 1) [.float (a1)] (CW G b w) (some (.int v)) (CW G b w') 0 0 := by
  refine x_of (own := RJxf58ca) rfl (by decide +kernel) (Nat.le_of_ble_eq_true rfl) ?_
  intro p e s m args below meth c ha C hr _
  unfold F_Jxf58ca_floatToIntBits_5c35a at hF
  refine x_fload_n (pc := 0) C 0 dJxf58ca_floatToIntBits_5c35a_0 rfl rfl ?_
  refine cS1_1 (pc := 1) (val := Value.int) C hF (fun _ _ h => c_Jxf58ca_isNaN_12338 l G b  _ h) sm_Jxf58ca_isNaN_12338 wq1321 rfl rfl ⟨Nat.le_of_ble_eq_true rfl, Nat.le_of_ble_eq_true rfl⟩ (Nat.le_of_ble_eq_true rfl) ⟨Nat.le_refl _, Nat.le_refl _⟩ dJxf58ca_floatToIntBits_5c35a_1 (fun x2 w1 hF => ?_)
  refine x_if_ne (pc := 4) C 12 dJxf58ca_floatToIntBits_5c35a_4 rfl hF (fun c3 hF => ?_) (fun c3 hF => ?_)
  · refine x_ldc (pc := 12) C wq1320 dJxf58ca_floatToIntBits_5c35a_12 ?_
    obtain ⟨rfl, rfl⟩ := ret_eq hF
    exact x_iret (pc := 14) C hr rfl (fun _ h => h) dJxf58ca_floatToIntBits_5c35a_14
  · refine x_fload_n (pc := 7) C 0 dJxf58ca_floatToIntBits_5c35a_7 rfl rfl ?_
    refine x_floatToRawIntBits (pc := 8) C wq1316 wq1317 wq1318 wq1319 ⟨Nat.le_of_ble_eq_true rfl, Nat.le_of_ble_eq_true rfl⟩ dJxf58ca_floatToIntBits_5c35a_8 ?_
    obtain ⟨rfl, rfl⟩ := ret_eq hF
    exact x_iret (pc := 11) C hr rfl (fun _ h => h) dJxf58ca_floatToIntBits_5c35a_11
set_option maxRecDepth 4000 in
theorem c_X8_in (l : Launch) (G : xG) (b : Nat)     (a1 : Int32) (a2 : Int32) (a3 : Int32) {w w' : xWt} {v : Int32} (hF : F_X8_in a1 a2 a3 w = some (v, w')) : xMet l G b yX8_in cX8_in 3 (some .boolean) (xR 0) [.int (a1), .int (a2), .int (a3)] (CW G b w) (some (.int v)) (CW G b w') 0 0 := by
  refine x_of (own := RX8) rfl (plainFor_of_name pn_X8) (Nat.le_of_ble_eq_true rfl) ?_
  intro p e s m args below meth c ha C hr _
  unfold F_X8_in at hF
  refine x_iload_n (pc := 0) C 0 dX8_in_0 rfl rfl ?_
  refine x_iload_n (pc := 1) C 1 dX8_in_1 rfl rfl ?_
  refine x_icmp_lt (pc := 2) C 14 dX8_in_2 rfl hF (fun c2 hF => ?_) (fun c2 hF => ?_)
  · refine x_iconst (pc := 14) C 0 dX8_in_14 ki_0 ?_
    obtain ⟨rfl, rfl⟩ := ret_eq hF
    exact x_zret (pc := 15) C rfl hr rfl (fun _ h => h) dX8_in_15
  · refine x_iload_n (pc := 5) C 0 dX8_in_5 rfl rfl ?_
    refine x_iload_n (pc := 6) C 2 dX8_in_6 rfl rfl ?_
    refine x_icmp_gt (pc := 7) C 14 dX8_in_7 rfl hF (fun c1 hF => ?_) (fun c1 hF => ?_)
    · refine x_iconst (pc := 14) C 0 dX8_in_14 ki_0 ?_
      obtain ⟨rfl, rfl⟩ := ret_eq hF
      exact x_zret (pc := 15) C rfl hr rfl (fun _ h => h) dX8_in_15
    · refine x_iconst (pc := 10) C 1 dX8_in_10 ki_1 ?_
      refine x_goto (pc := 11) C 15 dX8_in_11 rfl ?_
      obtain ⟨rfl, rfl⟩ := ret_eq hF
      exact x_zret (pc := 15) C rfl hr rfl (fun _ h => h) dX8_in_15
set_option maxRecDepth 4000 in
theorem c_X8_append (l : Launch) (G : xG) (b : Nat)     (a1 : Int32) {w w' : xWt} {v : Int32} (hF : F_X8_append a1 w = some (v, w')) : xMet l G b yX8_append cX8_append 2 (some .int) (xR 1) [.ref (mdb b), .int (a1)] (CW G b w) (some (.int v)) (CW G b w') 0 0 := by
  refine x_of (own := RX8) rfl (plainFor_of_name pn_X8) (Nat.le_of_ble_eq_true rfl) ?_
  intro p e s m args below meth c ha C hr _
  unfold F_X8_append at hF
  refine x_aload_n (pc := 0) C 0 dX8_append_0 rfl rfl ?_
  refine x_iload_n (pc := 1) C 1 dX8_append_1 rfl rfl ?_
  refine x_bipush (pc := 2) C 33 dX8_append_2 kb_33 ?_
  refine x_bipush (pc := 4) C 126 dX8_append_4 kb_126 ?_
  refine cS1_3 (pc := 6) (val := Value.int) C hF (fun _ _ h => c_X8_in l G b  _ _ _ h) sm_X8_in wq307 rfl rfl ⟨Nat.le_of_ble_eq_true rfl, Nat.le_of_ble_eq_true rfl⟩ (Nat.le_of_ble_eq_true rfl) ⟨Nat.le_refl _, Nat.le_refl _⟩ dX8_append_6 (fun x2 w1 hF => ?_)
  refine x_if_ne (pc := 9) C 16 dX8_append_9 rfl hF (fun c16 hF => ?_) (fun c16 hF => ?_)
  · refine x_aload_n (pc := 16) C 0 dX8_append_16 rfl rfl ?_
    refine gf_X8_179 (pc := 17) C  dX8_append_17 ?_
    refine x_bipush (pc := 20) C 60 dX8_append_20 kb_60 ?_
    refine x_icmp_ne (pc := 22) C 29 dX8_append_22 rfl hF (fun c11 hF => ?_) (fun c11 hF => ?_)
    · refine x_iconst (pc := 29) C 0 dX8_append_29 ki_0 ?_
      refine pf_X8_33 (pc := 30) C   hF dX8_append_30 (fun w3 hF => ?_)
      refine x_aload_n (pc := 33) C 0 dX8_append_33 rfl rfl ?_
      refine gf_X8_33 (pc := 34) C  dX8_append_34 ?_
      refine x_if_le (pc := 37) C 42 dX8_append_37 rfl hF (fun c6 hF => ?_) (fun c6 hF => ?_)
      · refine x_aload_n (pc := 42) C 0 dX8_append_42 rfl rfl ?_
        refine gf_X8_19 (pc := 43) C  dX8_append_43 ?_
        refine x_aload_n (pc := 46) C 0 dX8_append_46 rfl rfl ?_
        refine gf_X8_179 (pc := 47) C  dX8_append_47 ?_
        refine x_iload_n (pc := 50) C 1 dX8_append_50 rfl rfl ?_
        refine w_ast (pc := 51) C (vA_m 3 (by decide)) hF dX8_append_51 (fun w4 hF => ?_)
        refine x_aload_n (pc := 52) C 0 dX8_append_52 rfl rfl ?_
        refine x_dup (pc := 53) C dX8_append_53 rfl ?_
        refine gf_X8_179 (pc := 54) C  dX8_append_54 ?_
        refine x_iconst (pc := 57) C 1 dX8_append_57 ki_1 ?_
        refine x_iadd (pc := 58) C dX8_append_58 ?_
        refine pf_X8_179 (pc := 59) C   hF dX8_append_59 (fun w5 hF => ?_)
        refine x_aload_n (pc := 62) C 0 dX8_append_62 rfl rfl ?_
        refine gf_X8_179 (pc := 63) C  dX8_append_63 ?_
        obtain ⟨rfl, rfl⟩ := ret_eq hF
        exact x_iret (pc := 66) C hr rfl (fun _ h => h) dX8_append_66
      · refine x_iconst (pc := 40) C 0 dX8_append_40 ki_0 ?_
        obtain ⟨rfl, rfl⟩ := ret_eq hF
        exact x_iret (pc := 41) C hr rfl (fun _ h => h) dX8_append_41
    · refine x_iconst (pc := 25) C 2 dX8_append_25 ki_2 ?_
      refine x_goto (pc := 26) C 30 dX8_append_26 rfl ?_
      refine pf_X8_33 (pc := 30) C   hF dX8_append_30 (fun w7 hF => ?_)
      refine x_aload_n (pc := 33) C 0 dX8_append_33 rfl rfl ?_
      refine gf_X8_33 (pc := 34) C  dX8_append_34 ?_
      refine x_if_le (pc := 37) C 42 dX8_append_37 rfl hF (fun c10 hF => ?_) (fun c10 hF => ?_)
      · refine x_aload_n (pc := 42) C 0 dX8_append_42 rfl rfl ?_
        refine gf_X8_19 (pc := 43) C  dX8_append_43 ?_
        refine x_aload_n (pc := 46) C 0 dX8_append_46 rfl rfl ?_
        refine gf_X8_179 (pc := 47) C  dX8_append_47 ?_
        refine x_iload_n (pc := 50) C 1 dX8_append_50 rfl rfl ?_
        refine w_ast (pc := 51) C (vA_m 3 (by decide)) hF dX8_append_51 (fun w8 hF => ?_)
        refine x_aload_n (pc := 52) C 0 dX8_append_52 rfl rfl ?_
        refine x_dup (pc := 53) C dX8_append_53 rfl ?_
        refine gf_X8_179 (pc := 54) C  dX8_append_54 ?_
        refine x_iconst (pc := 57) C 1 dX8_append_57 ki_1 ?_
        refine x_iadd (pc := 58) C dX8_append_58 ?_
        refine pf_X8_179 (pc := 59) C   hF dX8_append_59 (fun w9 hF => ?_)
        refine x_aload_n (pc := 62) C 0 dX8_append_62 rfl rfl ?_
        refine gf_X8_179 (pc := 63) C  dX8_append_63 ?_
        obtain ⟨rfl, rfl⟩ := ret_eq hF
        exact x_iret (pc := 66) C hr rfl (fun _ h => h) dX8_append_66
      · refine x_iconst (pc := 40) C 0 dX8_append_40 ki_0 ?_
        obtain ⟨rfl, rfl⟩ := ret_eq hF
        exact x_iret (pc := 41) C hr rfl (fun _ h => h) dX8_append_41
  · refine x_iconst (pc := 12) C 1 dX8_append_12 ki_1 ?_
    refine x_goto (pc := 13) C 30 dX8_append_13 rfl ?_
    refine pf_X8_33 (pc := 30) C   hF dX8_append_30 (fun w12 hF => ?_)
    refine x_aload_n (pc := 33) C 0 dX8_append_33 rfl rfl ?_
    refine gf_X8_33 (pc := 34) C  dX8_append_34 ?_
    refine x_if_le (pc := 37) C 42 dX8_append_37 rfl hF (fun c15 hF => ?_) (fun c15 hF => ?_)
    · refine x_aload_n (pc := 42) C 0 dX8_append_42 rfl rfl ?_
      refine gf_X8_19 (pc := 43) C  dX8_append_43 ?_
      refine x_aload_n (pc := 46) C 0 dX8_append_46 rfl rfl ?_
      refine gf_X8_179 (pc := 47) C  dX8_append_47 ?_
      refine x_iload_n (pc := 50) C 1 dX8_append_50 rfl rfl ?_
      refine w_ast (pc := 51) C (vA_m 3 (by decide)) hF dX8_append_51 (fun w13 hF => ?_)
      refine x_aload_n (pc := 52) C 0 dX8_append_52 rfl rfl ?_
      refine x_dup (pc := 53) C dX8_append_53 rfl ?_
      refine gf_X8_179 (pc := 54) C  dX8_append_54 ?_
      refine x_iconst (pc := 57) C 1 dX8_append_57 ki_1 ?_
      refine x_iadd (pc := 58) C dX8_append_58 ?_
      refine pf_X8_179 (pc := 59) C   hF dX8_append_59 (fun w14 hF => ?_)
      refine x_aload_n (pc := 62) C 0 dX8_append_62 rfl rfl ?_
      refine gf_X8_179 (pc := 63) C  dX8_append_63 ?_
      obtain ⟨rfl, rfl⟩ := ret_eq hF
      exact x_iret (pc := 66) C hr rfl (fun _ h => h) dX8_append_66
    · refine x_iconst (pc := 40) C 0 dX8_append_40 ki_0 ?_
      obtain ⟨rfl, rfl⟩ := ret_eq hF
      exact x_iret (pc := 41) C hr rfl (fun _ h => h) dX8_append_41
set_option maxRecDepth 4000 in
theorem c_X8_of (l : Launch) (G : xG) (b : Nat)     (a1 : Int32) (a2 : Int32) {w w' : xWt} {v : Int32} (hF : F_X8_of a1 a2 w = some (v, w')) : xMet l G b yX8_of cX8_of 3 (some .int) (xR 0) [.ref (mdb b), .int (a1), .int (a2)] (CW G b w) (some (.int v)) (CW G b w') 0 0 := by
  refine x_of (own := RX8) rfl (plainFor_of_name pn_X8) (Nat.le_of_ble_eq_true rfl) ?_
  intro p e s m args below meth c ha C hr _
  unfold F_X8_of at hF
  refine x_aload_n (pc := 0) C 0 dX8_of_0 rfl rfl ?_
  refine gf_X8_7 (pc := 1) C  dX8_of_1 ?_
  refine x_bipush (pc := 4) C 22 dX8_of_4 kb_22 ?_
  refine x_bipush (pc := 6) C 6 dX8_of_6 kb_6 ?_
  refine x_iload_n (pc := 8) C 1 dX8_of_8 rfl rfl ?_
  refine x_imul (pc := 9) C dX8_of_9 ?_
  refine x_iadd (pc := 10) C dX8_of_10 ?_
  refine x_iload_n (pc := 11) C 2 dX8_of_11 rfl rfl ?_
  refine x_iadd (pc := 12) C dX8_of_12 ?_
  refine w_ald (pc := 13) C (vA_m 0 (by decide)) hF dX8_of_13 (fun x1 hF => ?_)
  obtain ⟨rfl, rfl⟩ := ret_eq hF
  exact x_iret (pc := 14) C hr rfl (fun _ h => h) dX8_of_14
set_option maxRecDepth 4000 in
theorem c_X8_isOnHeap (l : Launch) (G : xG) (b : Nat)     (a1 : Int32) (a2 : Int32) {w w' : xWt} {v : Int32} (hF : F_X8_isOnHeap a1 a2 w = some (v, w')) : xMet l G b yX8_isOnHeap cX8_isOnHeap 3 (some .boolean) (xR 1) [.ref (mdb b), .int (a1), .int (a2)] (CW G b w) (some (.int v)) (CW G b w') 0 0 := by
  refine x_of (own := RX8) rfl (plainFor_of_name pn_X8) (Nat.le_of_ble_eq_true rfl) ?_
  intro p e s m args below meth c ha C hr _
  unfold F_X8_isOnHeap at hF
  refine x_aload_n (pc := 0) C 0 dX8_isOnHeap_0 rfl rfl ?_
  refine x_iload_n (pc := 1) C 1 dX8_isOnHeap_1 rfl rfl ?_
  refine x_iconst (pc := 2) C 1 dX8_isOnHeap_2 ki_1 ?_
  refine cV1_2 (pc := 3) (val := Value.int) C hF (fun _ _ h => c_X8_of l G b  _ _ h) vm_X8_of wq318 rfl rfl ⟨Nat.le_of_ble_eq_true rfl, Nat.le_of_ble_eq_true rfl⟩ rfl rfl (fun _ h => CW.md h) (Nat.le_of_ble_eq_true rfl) ⟨Nat.le_refl _, Nat.le_refl _⟩ dX8_isOnHeap_3 (fun x2 w1 hF => ?_)
  refine x_iconst (pc := 6) C 1 dX8_isOnHeap_6 ki_1 ?_
  refine x_icmp_ne (pc := 7) C 24 dX8_isOnHeap_7 rfl hF (fun c6 hF => ?_) (fun c6 hF => ?_)
  · refine x_iconst (pc := 24) C 0 dX8_isOnHeap_24 ki_0 ?_
    obtain ⟨rfl, rfl⟩ := ret_eq hF
    exact x_zret (pc := 25) C rfl hr rfl (fun _ h => h) dX8_isOnHeap_25
  · refine x_aload_n (pc := 10) C 0 dX8_isOnHeap_10 rfl rfl ?_
    refine x_iload_n (pc := 11) C 1 dX8_isOnHeap_11 rfl rfl ?_
    refine x_iconst (pc := 12) C 4 dX8_isOnHeap_12 ki_4 ?_
    refine cV1_2 (pc := 13) (val := Value.int) C hF (fun _ _ h => c_X8_of l G b  _ _ h) vm_X8_of wq318 rfl rfl ⟨Nat.le_of_ble_eq_true rfl, Nat.le_of_ble_eq_true rfl⟩ rfl rfl (fun _ h => CW.md h) (Nat.le_of_ble_eq_true rfl) ⟨Nat.le_refl _, Nat.le_refl _⟩ dX8_isOnHeap_13 (fun x4 w3 hF => ?_)
    refine x_iload_n (pc := 16) C 2 dX8_isOnHeap_16 rfl rfl ?_
    refine x_icmp_ne (pc := 17) C 24 dX8_isOnHeap_17 rfl hF (fun c5 hF => ?_) (fun c5 hF => ?_)
    · refine x_iconst (pc := 24) C 0 dX8_isOnHeap_24 ki_0 ?_
      obtain ⟨rfl, rfl⟩ := ret_eq hF
      exact x_zret (pc := 25) C rfl hr rfl (fun _ h => h) dX8_isOnHeap_25
    · refine x_iconst (pc := 20) C 1 dX8_isOnHeap_20 ki_1 ?_
      refine x_goto (pc := 21) C 25 dX8_isOnHeap_21 rfl ?_
      obtain ⟨rfl, rfl⟩ := ret_eq hF
      exact x_zret (pc := 25) C rfl hr rfl (fun _ h => h) dX8_isOnHeap_25
set_option maxRecDepth 4000 in
theorem c_X8_ofChild (l : Launch) (G : xG) (b : Nat)     (a1 : Int32) (a2 : Int32) {w w' : xWt} {v : Int32} (hF : F_X8_ofChild a1 a2 w = some (v, w')) : xMet l G b yX8_ofChild cX8_ofChild 3 (some .int) (xR 0) [.ref (mdb b), .int (a1), .int (a2)] (CW G b w) (some (.int v)) (CW G b w') 0 0 := by
  refine x_of (own := RX8) rfl (plainFor_of_name pn_X8) (Nat.le_of_ble_eq_true rfl) ?_
  intro p e s m args below meth c ha C hr _
  unfold F_X8_ofChild at hF
  refine x_aload_n (pc := 0) C 0 dX8_ofChild_0 rfl rfl ?_
  refine gf_X8_7 (pc := 1) C  dX8_ofChild_1 ?_
  refine x_sipush (pc := 4) C 742 dX8_ofChild_4 ks_742 ?_
  refine x_bipush (pc := 7) C 15 dX8_ofChild_7 kb_15 ?_
  refine x_iload_n (pc := 9) C 1 dX8_ofChild_9 rfl rfl ?_
  refine x_imul (pc := 10) C dX8_ofChild_10 ?_
  refine x_iadd (pc := 11) C dX8_ofChild_11 ?_
  refine x_iload_n (pc := 12) C 2 dX8_ofChild_12 rfl rfl ?_
  refine x_iadd (pc := 13) C dX8_ofChild_13 ?_
  refine w_ald (pc := 14) C (vA_m 0 (by decide)) hF dX8_ofChild_14 (fun x1 hF => ?_)
  obtain ⟨rfl, rfl⟩ := ret_eq hF
  exact x_iret (pc := 15) C hr rfl (fun _ h => h) dX8_ofChild_15
set_option maxRecDepth 4000 in
theorem c_X8_ofHook (l : Launch) (G : xG) (b : Nat)     (a1 : Int32) (a2 : Int32) (a3 : Int32) {w w' : xWt} {v : Int32} (hF : F_X8_ofHook a1 a2 a3 w = some (v, w')) : xMet l G b yX8_ofHook cX8_ofHook 4 (some .int) (xR 1) [.ref (mdb b), .int (a1), .int (a2), .int (a3)] (CW G b w) (some (.int v)) (CW G b w') 0 0 := by
  refine x_of (own := RX8) rfl (plainFor_of_name pn_X8) (Nat.le_of_ble_eq_true rfl) ?_
  intro p e s m args below meth c ha C hr _
  unfold F_X8_ofHook at hF
  refine x_aload_n (pc := 0) C 0 dX8_ofHook_0 rfl rfl ?_
  refine x_iload_n (pc := 1) C 1 dX8_ofHook_1 rfl rfl ?_
  refine x_bipush (pc := 2) C 6 dX8_ofHook_2 kb_6 ?_
  refine x_iconst (pc := 4) C 3 dX8_ofHook_4 ki_3 ?_
  refine x_iload_n (pc := 5) C 2 dX8_ofHook_5 rfl rfl ?_
  refine x_imul (pc := 6) C dX8_ofHook_6 ?_
  refine x_iadd (pc := 7) C dX8_ofHook_7 ?_
  refine x_iload_n (pc := 8) C 3 dX8_ofHook_8 rfl rfl ?_
  refine x_iadd (pc := 9) C dX8_ofHook_9 ?_
  refine cV1_2 (pc := 10) (val := Value.int) C hF (fun _ _ h => c_X8_ofChild l G b  _ _ h) vm_X8_ofChild wq221 rfl rfl ⟨Nat.le_of_ble_eq_true rfl, Nat.le_of_ble_eq_true rfl⟩ rfl rfl (fun _ h => CW.md h) (Nat.le_of_ble_eq_true rfl) ⟨Nat.le_refl _, Nat.le_refl _⟩ dX8_ofHook_10 (fun x2 w1 hF => ?_)
  obtain ⟨rfl, rfl⟩ := ret_eq hF
  exact x_iret (pc := 13) C hr rfl (fun _ h => h) dX8_ofHook_13
set_option maxRecDepth 4000 in
theorem s_X8_holders_14 (C : xC p m c s args meth G b cX8_holders 7 RX8)    : ∀ (n9 : Nat) (l1 : Int32) (l2 : Int32) (l3 : Int32) (l4 : Int32) (l5 : Int32) (w : xWt) (o : (Int32 × Int32)) (w' : xWt), L_X8_holders_14  n9 l1 l2 l3 l4 l5 w = some (o, w') → xW p l e (xR 2) s m args below meth c Q b 7 (CW G b w') 0 0 81 [(0, .ref (mdb b)), (1, .int (l1)), (2, .int (l2)), (3, .int (o.1)), (4, .int (l4)), (5, .int (o.2))] [] → xW p l e (xR 2) s m args below meth c Q b 7 (CW G b w) 0 0 14 [(0, .ref (mdb b)), (1, .int (l1)), (2, .int (l2)), (3, .int (l3)), (4, .int (l4)), (5, .int (l5))] [] := by
  intro n9
  induction n9 with
  | zero => intro l1 l2 l3 l4 l5 w o w' hF; exact none_ne (show none = some _ from hF)
  | succ n9 ih =>
    intro l1 l2 l3 l4 l5 w o w' hF kx
    replace hF : B_X8_holders_14  (L_X8_holders_14  n9) l1 l2 l3 l4 l5 w = some (o, w') := hF
    unfold B_X8_holders_14 at hF
    refine x_iload (pc := 14) C 5 dX8_holders_14 rfl ?_
    refine x_iconst (pc := 16) C 3 dX8_holders_16 ki_3 ?_
    refine x_icmp_ge (pc := 17) C 81 dX8_holders_17 rfl hF (fun c12 hF => ?_) (fun c12 hF => ?_)
    · obtain ⟨rfl, rfl⟩ := ret_eq hF
      exact x_sub [0, 1, 2, 3, 4, 5] rfl kx
    · refine x_iload (pc := 20) C 4 dX8_holders_20 rfl ?_
      refine x_iload_n (pc := 22) C 2 dX8_holders_22 rfl rfl ?_
      refine x_icmp_eq (pc := 23) C 56 dX8_holders_23 rfl hF (fun c11 hF => ?_) (fun c11 hF => ?_)
      · refine x_iconst (pc := 56) C 0 dX8_holders_56 ki_0 ?_
        refine x_istore (pc := 57) C [(6, .int (0)), (0, .ref (mdb b)), (1, .int (l1)), (2, .int (l2)), (3, .int (l3)), (4, .int (l4)), (5, .int (l5))] dX8_holders_57 (by decide) rfl ?_
        refine x_iload_n (pc := 59) C 4 dX8_holders_59 rfl rfl ?_
        refine x_iload (pc := 60) C 0 dX8_holders_60 rfl ?_
        refine x_if_eq (pc := 62) C 72 dX8_holders_62 rfl (cst_t (c9 := (0 : Int32) = 0) (by decide) hF) (fun c1 hF => ?_) (fun c1 _ => absurd (by decide) c1)
        refine x_iconst (pc := 72) C 0 dX8_holders_72 ki_0 ?_
        refine x_ior (pc := 73) C dX8_holders_73 ?_
        refine x_istore_n (pc := 74) C [(3, .int ((l3 ||| 0))), (6, .int (0)), (0, .ref (mdb b)), (1, .int (l1)), (2, .int (l2)), (4, .int (l4)), (5, .int (l5))] dX8_holders_74 rfl (by decide) rfl ?_
        refine x_iinc (pc := 75) C 6 [(5, .int ((l5 + 1))), (3, .int ((l3 ||| 0))), (6, .int (0)), (0, .ref (mdb b)), (1, .int (l1)), (2, .int (l2)), (4, .int (l4))] dX8_holders_75 rfl rfl (by decide) rfl ?_
        refine x_goto (pc := 78) C 14 dX8_holders_78 rfl ?_
        exact x_sub [3, 4, 5, 1, 6, 0] rfl (ih _ _ _ _ _ _ _ _ hF kx)
      · refine x_aload_n (pc := 26) C 0 dX8_holders_26 rfl rfl ?_
        refine x_iload (pc := 27) C 4 dX8_holders_27 rfl ?_
        refine x_iload (pc := 29) C 5 dX8_holders_29 rfl ?_
        refine x_iconst (pc := 31) C 0 dX8_holders_31 ki_0 ?_
        refine cV1_3 (pc := 32) (val := Value.int) C hF (fun _ _ h => c_X8_ofHook l G b  _ _ _ h) vm_X8_ofHook wq403 rfl rfl ⟨Nat.le_of_ble_eq_true rfl, Nat.le_of_ble_eq_true rfl⟩ rfl rfl (fun _ h => CW.md h) (Nat.le_of_ble_eq_true rfl) ⟨Nat.le_refl _, Nat.le_refl _⟩ dX8_holders_32 (fun x3 w2 hF => ?_)
        refine x_iconst (pc := 35) C 2 dX8_holders_35 ki_2 ?_
        refine x_icmp_ne (pc := 36) C 56 dX8_holders_36 rfl hF (fun c10 hF => ?_) (fun c10 hF => ?_)
        · refine x_iconst (pc := 56) C 0 dX8_holders_56 ki_0 ?_
          refine x_istore (pc := 57) C [(6, .int (0)), (0, .ref (mdb b)), (1, .int (l1)), (2, .int (l2)), (3, .int (l3)), (4, .int (l4)), (5, .int (l5))] dX8_holders_57 (by decide) rfl ?_
          refine x_iload_n (pc := 59) C 4 dX8_holders_59 rfl rfl ?_
          refine x_iload (pc := 60) C 0 dX8_holders_60 rfl ?_
          refine x_if_eq (pc := 62) C 72 dX8_holders_62 rfl (cst_t (c9 := (0 : Int32) = 0) (by decide) hF) (fun c4 hF => ?_) (fun c4 _ => absurd (by decide) c4)
          refine x_iconst (pc := 72) C 0 dX8_holders_72 ki_0 ?_
          refine x_ior (pc := 73) C dX8_holders_73 ?_
          refine x_istore_n (pc := 74) C [(3, .int ((l3 ||| 0))), (6, .int (0)), (0, .ref (mdb b)), (1, .int (l1)), (2, .int (l2)), (4, .int (l4)), (5, .int (l5))] dX8_holders_74 rfl (by decide) rfl ?_
          refine x_iinc (pc := 75) C 6 [(5, .int ((l5 + 1))), (3, .int ((l3 ||| 0))), (6, .int (0)), (0, .ref (mdb b)), (1, .int (l1)), (2, .int (l2)), (4, .int (l4))] dX8_holders_75 rfl rfl (by decide) rfl ?_
          refine x_goto (pc := 78) C 14 dX8_holders_78 rfl ?_
          exact x_sub [3, 4, 5, 1, 6, 0] rfl (ih _ _ _ _ _ _ _ _ hF kx)
        · refine x_aload_n (pc := 39) C 0 dX8_holders_39 rfl rfl ?_
          refine x_iload (pc := 40) C 4 dX8_holders_40 rfl ?_
          refine x_iload (pc := 42) C 5 dX8_holders_42 rfl ?_
          refine x_iconst (pc := 44) C 1 dX8_holders_44 ki_1 ?_
          refine cV1_3 (pc := 45) (val := Value.int) C hF (fun _ _ h => c_X8_ofHook l G b  _ _ _ h) vm_X8_ofHook wq403 rfl rfl ⟨Nat.le_of_ble_eq_true rfl, Nat.le_of_ble_eq_true rfl⟩ rfl rfl (fun _ h => CW.md h) (Nat.le_of_ble_eq_true rfl) ⟨Nat.le_refl _, Nat.le_refl _⟩ dX8_holders_45 (fun x6 w5 hF => ?_)
          refine x_iload_n (pc := 48) C 1 dX8_holders_48 rfl rfl ?_
          refine x_icmp_ne (pc := 49) C 56 dX8_holders_49 rfl hF (fun c9 hF => ?_) (fun c9 hF => ?_)
          · refine x_iconst (pc := 56) C 0 dX8_holders_56 ki_0 ?_
            refine x_istore (pc := 57) C [(6, .int (0)), (0, .ref (mdb b)), (1, .int (l1)), (2, .int (l2)), (3, .int (l3)), (4, .int (l4)), (5, .int (l5))] dX8_holders_57 (by decide) rfl ?_
            refine x_iload_n (pc := 59) C 4 dX8_holders_59 rfl rfl ?_
            refine x_iload (pc := 60) C 0 dX8_holders_60 rfl ?_
            refine x_if_eq (pc := 62) C 72 dX8_holders_62 rfl (cst_t (c9 := (0 : Int32) = 0) (by decide) hF) (fun c7 hF => ?_) (fun c7 _ => absurd (by decide) c7)
            refine x_iconst (pc := 72) C 0 dX8_holders_72 ki_0 ?_
            refine x_ior (pc := 73) C dX8_holders_73 ?_
            refine x_istore_n (pc := 74) C [(3, .int ((l3 ||| 0))), (6, .int (0)), (0, .ref (mdb b)), (1, .int (l1)), (2, .int (l2)), (4, .int (l4)), (5, .int (l5))] dX8_holders_74 rfl (by decide) rfl ?_
            refine x_iinc (pc := 75) C 6 [(5, .int ((l5 + 1))), (3, .int ((l3 ||| 0))), (6, .int (0)), (0, .ref (mdb b)), (1, .int (l1)), (2, .int (l2)), (4, .int (l4))] dX8_holders_75 rfl rfl (by decide) rfl ?_
            refine x_goto (pc := 78) C 14 dX8_holders_78 rfl ?_
            exact x_sub [3, 4, 5, 1, 6, 0] rfl (ih _ _ _ _ _ _ _ _ hF kx)
          · refine x_iconst (pc := 52) C 1 dX8_holders_52 ki_1 ?_
            refine x_goto (pc := 53) C 57 dX8_holders_53 rfl ?_
            refine x_istore (pc := 57) C [(6, .int (1)), (0, .ref (mdb b)), (1, .int (l1)), (2, .int (l2)), (3, .int (l3)), (4, .int (l4)), (5, .int (l5))] dX8_holders_57 (by decide) rfl ?_
            refine x_iload_n (pc := 59) C 4 dX8_holders_59 rfl rfl ?_
            refine x_iload (pc := 60) C 0 dX8_holders_60 rfl ?_
            refine x_if_eq (pc := 62) C 72 dX8_holders_62 rfl (cst_f (c9 := (1 : Int32) = 0) (by decide) hF) (fun c8 _ => absurd c8 (by decide)) (fun c8 hF => ?_)
            refine x_iconst (pc := 65) C 1 dX8_holders_65 ki_1 ?_
            refine x_iload (pc := 66) C 5 dX8_holders_66 rfl ?_
            refine x_ishl (pc := 68) C dX8_holders_68 ?_
            refine x_goto (pc := 69) C 73 dX8_holders_69 rfl ?_
            refine x_ior (pc := 73) C dX8_holders_73 ?_
            refine x_istore_n (pc := 74) C [(3, .int ((l3 ||| (1 <<< (l4 &&& 31))))), (6, .int (1)), (0, .ref (mdb b)), (1, .int (l1)), (2, .int (l2)), (4, .int (l4)), (5, .int (l5))] dX8_holders_74 rfl (by decide) rfl ?_
            refine x_iinc (pc := 75) C 6 [(5, .int ((l5 + 1))), (3, .int ((l3 ||| (1 <<< (l4 &&& 31))))), (6, .int (1)), (0, .ref (mdb b)), (1, .int (l1)), (2, .int (l2)), (4, .int (l4))] dX8_holders_75 rfl rfl (by decide) rfl ?_
            refine x_goto (pc := 78) C 14 dX8_holders_78 rfl ?_
            exact x_sub [3, 4, 5, 1, 6, 0] rfl (ih _ _ _ _ _ _ _ _ hF kx)
set_option maxRecDepth 4000 in
theorem s_X8_holders_5 (C : xC p m c s args meth G b cX8_holders 7 RX8)    : ∀ (n9 : Nat) (l1 : Int32) (l2 : Int32) (l3 : Int32) (l4 : Int32) (w : xWt) (o : (Int32 × Int32)) (w' : xWt), L_X8_holders_5  n9 l1 l2 l3 l4 w = some (o, w') → xW p l e (xR 2) s m args below meth c Q b 7 (CW G b w') 0 0 87 [(0, .ref (mdb b)), (1, .int (l1)), (2, .int (l2)), (3, .int (o.1)), (4, .int (o.2))] [] → xW p l e (xR 2) s m args below meth c Q b 7 (CW G b w) 0 0 5 [(0, .ref (mdb b)), (1, .int (l1)), (2, .int (l2)), (3, .int (l3)), (4, .int (l4))] [] := by
  intro n9
  induction n9 with
  | zero => intro l1 l2 l3 l4 w o w' hF; exact none_ne (show none = some _ from hF)
  | succ n9 ih =>
    intro l1 l2 l3 l4 w o w' hF kx
    replace hF : B_X8_holders_5  (L_X8_holders_5  n9) l1 l2 l3 l4 w = some (o, w') := hF
    unfold B_X8_holders_5 at hF
    refine x_iload (pc := 5) C 4 dX8_holders_5 rfl ?_
    refine x_iconst (pc := 7) C 5 dX8_holders_7 ki_5 ?_
    refine x_icmp_ge (pc := 8) C 87 dX8_holders_8 rfl hF (fun c15 hF => ?_) (fun c15 hF => ?_)
    · obtain ⟨rfl, rfl⟩ := ret_eq hF
      exact x_sub [0, 1, 2, 3, 4] rfl kx
    · refine x_iconst (pc := 11) C 0 dX8_holders_11 ki_0 ?_
      refine x_istore (pc := 12) C [(5, .int (0)), (0, .ref (mdb b)), (1, .int (l1)), (2, .int (l2)), (3, .int (l3)), (4, .int (l4))] dX8_holders_12 (by decide) rfl ?_
      obtain ⟨o13, w14, hL, hF⟩ := bd_some hF
      refine x_sub [1, 2, 3, 4, 5, 0] rfl (s_X8_holders_14 C  _ _ _ _ _ _ _ _ _ hL ?_)
      refine x_iinc (pc := 81) C 4 [(4, .int ((l4 + 1))), (0, .ref (mdb b)), (1, .int (l1)), (2, .int (l2)), (3, .int (o13.1)), (5, .int (o13.2))] dX8_holders_81 rfl rfl (by decide) rfl ?_
      refine x_goto (pc := 84) C 5 dX8_holders_84 rfl ?_
      exact x_sub [1, 2, 3, 4, 0] rfl (ih _ _ _ _ _ _ _ hF kx)
set_option maxRecDepth 4000 in
theorem c_X8_holders (l : Launch) (G : xG) (b : Nat)     (a1 : Int32) (a2 : Int32) {w w' : xWt} {v : Int32} (hF : F_X8_holders a1 a2 w = some (v, w')) : xMet l G b yX8_holders cX8_holders 7 (some .int) (xR 2) [.ref (mdb b), .int (a1), .int (a2)] (CW G b w) (some (.int v)) (CW G b w') 0 0 := by
  refine x_of (own := RX8) rfl (plainFor_of_name pn_X8) (Nat.le_of_ble_eq_true rfl) ?_
  intro p e s m args below meth c ha C hr _
  unfold F_X8_holders at hF
  refine x_iconst (pc := 0) C 0 dX8_holders_0 ki_0 ?_
  refine x_istore_n (pc := 1) C [(3, .int (0)), (0, .ref (mdb b)), (1, .int (a1)), (2, .int (a2))] dX8_holders_1 rfl (by decide) rfl ?_
  refine x_iconst (pc := 2) C 0 dX8_holders_2 ki_0 ?_
  refine x_istore (pc := 3) C [(4, .int (0)), (3, .int (0)), (0, .ref (mdb b)), (1, .int (a1)), (2, .int (a2))] dX8_holders_3 (by decide) rfl ?_
  obtain ⟨o16, w17, hL, hF⟩ := bd_some hF
  refine x_sub [2, 3, 4, 1, 0] rfl (s_X8_holders_5 C  _ _ _ _ _ _ _ _ hL ?_)
  refine x_iload_n (pc := 87) C 3 dX8_holders_87 rfl rfl ?_
  obtain ⟨rfl, rfl⟩ := ret_eq hF
  exact x_iret (pc := 88) C hr rfl (fun _ h => h) dX8_holders_88
set_option maxRecDepth 4000 in
theorem c_X8_mayBurn (l : Launch) (G : xG) (b : Nat)     (a1 : Int32) (a2 : Int32) {w w' : xWt} {v : Int32} (hF : F_X8_mayBurn a1 a2 w = some (v, w')) : xMet l G b yX8_mayBurn cX8_mayBurn 3 (some .boolean) (xR 3) [.ref (mdb b), .int (a1), .int (a2)] (CW G b w) (some (.int v)) (CW G b w') 0 0 := by
  refine x_of (own := RX8) rfl (plainFor_of_name pn_X8) (Nat.le_of_ble_eq_true rfl) ?_
  intro p e s m args below meth c ha C hr _
  unfold F_X8_mayBurn at hF
  refine x_iload_n (pc := 0) C 2 dX8_mayBurn_0 rfl rfl ?_
  refine x_if_ne (pc := 1) C 21 dX8_mayBurn_1 rfl hF (fun c8 hF => ?_) (fun c8 hF => ?_)
  · refine x_aload_n (pc := 21) C 0 dX8_mayBurn_21 rfl rfl ?_
    refine gf_X8_7 (pc := 22) C  dX8_mayBurn_22 ?_
    refine x_iconst (pc := 25) C 0 dX8_mayBurn_25 ki_0 ?_
    refine w_ald (pc := 26) C (vA_m 0 (by decide)) hF dX8_mayBurn_26 (fun x1 hF => ?_)
    refine x_aload_n (pc := 27) C 0 dX8_mayBurn_27 rfl rfl ?_
    refine x_iload_n (pc := 28) C 1 dX8_mayBurn_28 rfl rfl ?_
    refine x_iconst (pc := 29) C 3 dX8_mayBurn_29 ki_3 ?_
    refine cV1_2 (pc := 30) (val := Value.int) C hF (fun _ _ h => c_X8_of l G b  _ _ h) vm_X8_of wq318 rfl rfl ⟨Nat.le_of_ble_eq_true rfl, Nat.le_of_ble_eq_true rfl⟩ rfl rfl (fun _ h => CW.md h) (Nat.le_of_ble_eq_true rfl) ⟨Nat.le_refl _, Nat.le_refl _⟩ dX8_mayBurn_30 (fun x3 w2 hF => ?_)
    refine x_isub (pc := 33) C dX8_mayBurn_33 ?_
    refine x_iconst (pc := 34) C 2 dX8_mayBurn_34 ki_2 ?_
    refine x_icmp_lt (pc := 35) C 42 dX8_mayBurn_35 rfl hF (fun c4 hF => ?_) (fun c4 hF => ?_)
    · refine x_iconst (pc := 42) C 0 dX8_mayBurn_42 ki_0 ?_
      obtain ⟨rfl, rfl⟩ := ret_eq hF
      exact x_zret (pc := 43) C rfl hr rfl (fun _ h => h) dX8_mayBurn_43
    · refine x_iconst (pc := 38) C 1 dX8_mayBurn_38 ki_1 ?_
      refine x_goto (pc := 39) C 43 dX8_mayBurn_39 rfl ?_
      obtain ⟨rfl, rfl⟩ := ret_eq hF
      exact x_zret (pc := 43) C rfl hr rfl (fun _ h => h) dX8_mayBurn_43
  · refine x_aload_n (pc := 4) C 0 dX8_mayBurn_4 rfl rfl ?_
    refine x_iload_n (pc := 5) C 1 dX8_mayBurn_5 rfl rfl ?_
    refine x_iconst (pc := 6) C (-1) dX8_mayBurn_6 ki_m1 ?_
    refine cV1_2 (pc := 7) (val := Value.int) C hF (fun _ _ h => c_X8_holders l G b  _ _ h) vm_X8_holders wq686 rfl rfl ⟨Nat.le_of_ble_eq_true rfl, Nat.le_of_ble_eq_true rfl⟩ rfl rfl (fun _ h => CW.md h) (Nat.le_of_ble_eq_true rfl) ⟨Nat.le_refl _, Nat.le_refl _⟩ dX8_mayBurn_7 (fun x6 w5 hF => ?_)
    refine x_if_ne (pc := 10) C 17 dX8_mayBurn_10 rfl hF (fun c7 hF => ?_) (fun c7 hF => ?_)
    · refine x_iconst (pc := 17) C 0 dX8_mayBurn_17 ki_0 ?_
      refine x_goto (pc := 18) C 43 dX8_mayBurn_18 rfl ?_
      obtain ⟨rfl, rfl⟩ := ret_eq hF
      exact x_zret (pc := 43) C rfl hr rfl (fun _ h => h) dX8_mayBurn_43
    · refine x_iconst (pc := 13) C 1 dX8_mayBurn_13 ki_1 ?_
      refine x_goto (pc := 14) C 43 dX8_mayBurn_14 rfl ?_
      obtain ⟨rfl, rfl⟩ := ret_eq hF
      exact x_zret (pc := 43) C rfl hr rfl (fun _ h => h) dX8_mayBurn_43
set_option maxRecDepth 4000 in
theorem s_X8_burnable_5 (C : xC p m c s args meth G b cX8_burnable 5 RX8)    : ∀ (n9 : Nat) (l1 : Int32) (l2 : Int32) (l3 : Int32) (l4 : Int32) (w : xWt) (o : (Int32 × Int32)) (w' : xWt), L_X8_burnable_5  n9 l1 l2 l3 l4 w = some (o, w') → xW p l e (xR 4) s m args below meth c Q b 5 (CW G b w') 0 0 50 [(0, .ref (mdb b)), (1, .int (l1)), (2, .int (l2)), (3, .int (o.1)), (4, .int (o.2))] [] → xW p l e (xR 4) s m args below meth c Q b 5 (CW G b w) 0 0 5 [(0, .ref (mdb b)), (1, .int (l1)), (2, .int (l2)), (3, .int (l3)), (4, .int (l4))] [] := by
  intro n9
  induction n9 with
  | zero => intro l1 l2 l3 l4 w o w' hF; exact none_ne (show none = some _ from hF)
  | succ n9 ih =>
    intro l1 l2 l3 l4 w o w' hF kx
    replace hF : B_X8_burnable_5  (L_X8_burnable_5  n9) l1 l2 l3 l4 w = some (o, w') := hF
    unfold B_X8_burnable_5 at hF
    refine x_iload (pc := 5) C 4 dX8_burnable_5 rfl ?_
    refine x_aload_n (pc := 7) C 0 dX8_burnable_7 rfl rfl ?_
    refine gf_X8_7 (pc := 8) C  dX8_burnable_8 ?_
    refine x_iconst (pc := 11) C 1 dX8_burnable_11 ki_1 ?_
    refine w_ald (pc := 12) C (vA_m 0 (by decide)) hF dX8_burnable_12 (fun x1 hF => ?_)
    refine x_icmp_ge (pc := 13) C 50 dX8_burnable_13 rfl hF (fun c8 hF => ?_) (fun c8 hF => ?_)
    · obtain ⟨rfl, rfl⟩ := ret_eq hF
      exact x_sub [0, 1, 2, 3, 4] rfl kx
    · refine x_iload_n (pc := 16) C 3 dX8_burnable_16 rfl rfl ?_
      refine x_aload_n (pc := 17) C 0 dX8_burnable_17 rfl rfl ?_
      refine x_iload (pc := 18) C 4 dX8_burnable_18 rfl ?_
      refine x_iload_n (pc := 20) C 1 dX8_burnable_20 rfl rfl ?_
      refine cV1_2 (pc := 21) (val := Value.int) C hF (fun _ _ h => c_X8_isOnHeap l G b  _ _ h) vm_X8_isOnHeap wq314 rfl rfl ⟨Nat.le_of_ble_eq_true rfl, Nat.le_of_ble_eq_true rfl⟩ rfl rfl (fun _ h => CW.md h) (Nat.le_of_ble_eq_true rfl) ⟨Nat.le_refl _, Nat.le_refl _⟩ dX8_burnable_21 (fun x3 w2 hF => ?_)
      refine x_if_eq (pc := 24) C 41 dX8_burnable_24 rfl hF (fun c7 hF => ?_) (fun c7 hF => ?_)
      · refine x_iconst (pc := 41) C 0 dX8_burnable_41 ki_0 ?_
        refine x_iadd (pc := 42) C dX8_burnable_42 ?_
        refine x_istore_n (pc := 43) C [(3, .int ((l3 + 0))), (0, .ref (mdb b)), (1, .int (l1)), (2, .int (l2)), (4, .int (l4))] dX8_burnable_43 rfl (by decide) rfl ?_
        refine x_iinc (pc := 44) C 4 [(4, .int ((l4 + 1))), (3, .int ((l3 + 0))), (0, .ref (mdb b)), (1, .int (l1)), (2, .int (l2))] dX8_burnable_44 rfl rfl (by decide) rfl ?_
        refine x_goto (pc := 47) C 5 dX8_burnable_47 rfl ?_
        exact x_sub [2, 3, 4, 1, 0] rfl (ih _ _ _ _ _ _ _ hF kx)
      · refine x_aload_n (pc := 27) C 0 dX8_burnable_27 rfl rfl ?_
        refine x_iload (pc := 28) C 4 dX8_burnable_28 rfl ?_
        refine x_iload_n (pc := 30) C 2 dX8_burnable_30 rfl rfl ?_
        refine cV1_2 (pc := 31) (val := Value.int) C hF (fun _ _ h => c_X8_mayBurn l G b  _ _ h) vm_X8_mayBurn wq682 rfl rfl ⟨Nat.le_of_ble_eq_true rfl, Nat.le_of_ble_eq_true rfl⟩ rfl rfl (fun _ h => CW.md h) (Nat.le_of_ble_eq_true rfl) ⟨Nat.le_refl _, Nat.le_refl _⟩ dX8_burnable_31 (fun x5 w4 hF => ?_)
        refine x_if_eq (pc := 34) C 41 dX8_burnable_34 rfl hF (fun c6 hF => ?_) (fun c6 hF => ?_)
        · refine x_iconst (pc := 41) C 0 dX8_burnable_41 ki_0 ?_
          refine x_iadd (pc := 42) C dX8_burnable_42 ?_
          refine x_istore_n (pc := 43) C [(3, .int ((l3 + 0))), (0, .ref (mdb b)), (1, .int (l1)), (2, .int (l2)), (4, .int (l4))] dX8_burnable_43 rfl (by decide) rfl ?_
          refine x_iinc (pc := 44) C 4 [(4, .int ((l4 + 1))), (3, .int ((l3 + 0))), (0, .ref (mdb b)), (1, .int (l1)), (2, .int (l2))] dX8_burnable_44 rfl rfl (by decide) rfl ?_
          refine x_goto (pc := 47) C 5 dX8_burnable_47 rfl ?_
          exact x_sub [2, 3, 4, 1, 0] rfl (ih _ _ _ _ _ _ _ hF kx)
        · refine x_iconst (pc := 37) C 1 dX8_burnable_37 ki_1 ?_
          refine x_goto (pc := 38) C 42 dX8_burnable_38 rfl ?_
          refine x_iadd (pc := 42) C dX8_burnable_42 ?_
          refine x_istore_n (pc := 43) C [(3, .int ((l3 + 1))), (0, .ref (mdb b)), (1, .int (l1)), (2, .int (l2)), (4, .int (l4))] dX8_burnable_43 rfl (by decide) rfl ?_
          refine x_iinc (pc := 44) C 4 [(4, .int ((l4 + 1))), (3, .int ((l3 + 1))), (0, .ref (mdb b)), (1, .int (l1)), (2, .int (l2))] dX8_burnable_44 rfl rfl (by decide) rfl ?_
          refine x_goto (pc := 47) C 5 dX8_burnable_47 rfl ?_
          exact x_sub [2, 3, 4, 1, 0] rfl (ih _ _ _ _ _ _ _ hF kx)
set_option maxRecDepth 4000 in
theorem c_X8_burnable (l : Launch) (G : xG) (b : Nat)     (a1 : Int32) (a2 : Int32) {w w' : xWt} {v : Int32} (hF : F_X8_burnable a1 a2 w = some (v, w')) : xMet l G b yX8_burnable cX8_burnable 5 (some .int) (xR 4) [.ref (mdb b), .int (a1), .int (a2)] (CW G b w) (some (.int v)) (CW G b w') 0 0 := by
  refine x_of (own := RX8) rfl (plainFor_of_name pn_X8) (Nat.le_of_ble_eq_true rfl) ?_
  intro p e s m args below meth c ha C hr _
  unfold F_X8_burnable at hF
  refine x_iconst (pc := 0) C 0 dX8_burnable_0 ki_0 ?_
  refine x_istore_n (pc := 1) C [(3, .int (0)), (0, .ref (mdb b)), (1, .int (a1)), (2, .int (a2))] dX8_burnable_1 rfl (by decide) rfl ?_
  refine x_iconst (pc := 2) C 0 dX8_burnable_2 ki_0 ?_
  refine x_istore (pc := 3) C [(4, .int (0)), (3, .int (0)), (0, .ref (mdb b)), (1, .int (a1)), (2, .int (a2))] dX8_burnable_3 (by decide) rfl ?_
  obtain ⟨o9, w10, hL, hF⟩ := bd_some hF
  refine x_sub [2, 3, 4, 1, 0] rfl (s_X8_burnable_5 C  _ _ _ _ _ _ _ _ hL ?_)
  refine x_iload_n (pc := 50) C 3 dX8_burnable_50 rfl rfl ?_
  obtain ⟨rfl, rfl⟩ := ret_eq hF
  exact x_iret (pc := 51) C hr rfl (fun _ h => h) dX8_burnable_51
set_option maxRecDepth 4000 in
theorem s_X8_heapOf_4 (C : xC p m c s args meth G b cX8_heapOf 4 RX8)    : ∀ (n9 : Nat) (l1 : Int32) (l2 : Int32) (l3 : Int32) (w : xWt) (o : (Int32 × Int32)) (w' : xWt), L_X8_heapOf_4  n9 l1 l2 l3 w = some (o, w') → xW p l e (xR 2) s m args below meth c Q b 4 (CW G b w') 0 0 37 [(0, .ref (mdb b)), (1, .int (l1)), (2, .int (o.1)), (3, .int (o.2))] [] → xW p l e (xR 2) s m args below meth c Q b 4 (CW G b w) 0 0 4 [(0, .ref (mdb b)), (1, .int (l1)), (2, .int (l2)), (3, .int (l3))] [] := by
  intro n9
  induction n9 with
  | zero => intro l1 l2 l3 w o w' hF; exact none_ne (show none = some _ from hF)
  | succ n9 ih =>
    intro l1 l2 l3 w o w' hF kx
    replace hF : B_X8_heapOf_4  (L_X8_heapOf_4  n9) l1 l2 l3 w = some (o, w') := hF
    unfold B_X8_heapOf_4 at hF
    refine x_iload_n (pc := 4) C 3 dX8_heapOf_4 rfl rfl ?_
    refine x_aload_n (pc := 5) C 0 dX8_heapOf_5 rfl rfl ?_
    refine gf_X8_7 (pc := 6) C  dX8_heapOf_6 ?_
    refine x_iconst (pc := 9) C 1 dX8_heapOf_9 ki_1 ?_
    refine w_ald (pc := 10) C (vA_m 0 (by decide)) hF dX8_heapOf_10 (fun x1 hF => ?_)
    refine x_icmp_ge (pc := 11) C 37 dX8_heapOf_11 rfl hF (fun c5 hF => ?_) (fun c5 hF => ?_)
    · obtain ⟨rfl, rfl⟩ := ret_eq hF
      exact x_sub [0, 1, 2, 3] rfl kx
    · refine x_iload_n (pc := 14) C 2 dX8_heapOf_14 rfl rfl ?_
      refine x_aload_n (pc := 15) C 0 dX8_heapOf_15 rfl rfl ?_
      refine x_iload_n (pc := 16) C 3 dX8_heapOf_16 rfl rfl ?_
      refine x_iload_n (pc := 17) C 1 dX8_heapOf_17 rfl rfl ?_
      refine cV1_2 (pc := 18) (val := Value.int) C hF (fun _ _ h => c_X8_isOnHeap l G b  _ _ h) vm_X8_isOnHeap wq314 rfl rfl ⟨Nat.le_of_ble_eq_true rfl, Nat.le_of_ble_eq_true rfl⟩ rfl rfl (fun _ h => CW.md h) (Nat.le_of_ble_eq_true rfl) ⟨Nat.le_refl _, Nat.le_refl _⟩ dX8_heapOf_18 (fun x3 w2 hF => ?_)
      refine x_if_eq (pc := 21) C 28 dX8_heapOf_21 rfl hF (fun c4 hF => ?_) (fun c4 hF => ?_)
      · refine x_iconst (pc := 28) C 0 dX8_heapOf_28 ki_0 ?_
        refine x_iadd (pc := 29) C dX8_heapOf_29 ?_
        refine x_istore_n (pc := 30) C [(2, .int ((l2 + 0))), (0, .ref (mdb b)), (1, .int (l1)), (3, .int (l3))] dX8_heapOf_30 rfl (by decide) rfl ?_
        refine x_iinc (pc := 31) C 3 [(3, .int ((l3 + 1))), (2, .int ((l2 + 0))), (0, .ref (mdb b)), (1, .int (l1))] dX8_heapOf_31 rfl rfl (by decide) rfl ?_
        refine x_goto (pc := 34) C 4 dX8_heapOf_34 rfl ?_
        exact x_sub [2, 3, 1, 0] rfl (ih _ _ _ _ _ _ hF kx)
      · refine x_iconst (pc := 24) C 1 dX8_heapOf_24 ki_1 ?_
        refine x_goto (pc := 25) C 29 dX8_heapOf_25 rfl ?_
        refine x_iadd (pc := 29) C dX8_heapOf_29 ?_
        refine x_istore_n (pc := 30) C [(2, .int ((l2 + 1))), (0, .ref (mdb b)), (1, .int (l1)), (3, .int (l3))] dX8_heapOf_30 rfl (by decide) rfl ?_
        refine x_iinc (pc := 31) C 3 [(3, .int ((l3 + 1))), (2, .int ((l2 + 1))), (0, .ref (mdb b)), (1, .int (l1))] dX8_heapOf_31 rfl rfl (by decide) rfl ?_
        refine x_goto (pc := 34) C 4 dX8_heapOf_34 rfl ?_
        exact x_sub [2, 3, 1, 0] rfl (ih _ _ _ _ _ _ hF kx)
set_option maxRecDepth 4000 in
theorem c_X8_heapOf (l : Launch) (G : xG) (b : Nat)     (a1 : Int32) {w w' : xWt} {v : Int32} (hF : F_X8_heapOf a1 w = some (v, w')) : xMet l G b yX8_heapOf cX8_heapOf 4 (some .int) (xR 2) [.ref (mdb b), .int (a1)] (CW G b w) (some (.int v)) (CW G b w') 0 0 := by
  refine x_of (own := RX8) rfl (plainFor_of_name pn_X8) (Nat.le_of_ble_eq_true rfl) ?_
  intro p e s m args below meth c ha C hr _
  unfold F_X8_heapOf at hF
  refine x_iconst (pc := 0) C 0 dX8_heapOf_0 ki_0 ?_
  refine x_istore_n (pc := 1) C [(2, .int (0)), (0, .ref (mdb b)), (1, .int (a1))] dX8_heapOf_1 rfl (by decide) rfl ?_
  refine x_iconst (pc := 2) C 0 dX8_heapOf_2 ki_0 ?_
  refine x_istore_n (pc := 3) C [(3, .int (0)), (2, .int (0)), (0, .ref (mdb b)), (1, .int (a1))] dX8_heapOf_3 rfl (by decide) rfl ?_
  obtain ⟨o6, w7, hL, hF⟩ := bd_some hF
  refine x_sub [2, 3, 1, 0] rfl (s_X8_heapOf_4 C  _ _ _ _ _ _ _ hL ?_)
  refine x_iload_n (pc := 37) C 2 dX8_heapOf_37 rfl rfl ?_
  obtain ⟨rfl, rfl⟩ := ret_eq hF
  exact x_iret (pc := 38) C hr rfl (fun _ h => h) dX8_heapOf_38
set_option maxRecDepth 4000 in
theorem s_X8_findBestRake_6 (C : xC p m c s args meth G b cX8_findBestRake 5 RX8)    : ∀ (n9 : Nat) (l1 : Int32) (l2 : Int32) (l3 : Int32) (w : xWt) (o : (Int32 × Int32 × Int32)) (w' : xWt), L_X8_findBestRake_6  n9 l1 l2 l3 w = some (o, w') → xW p l e (xR 5) s m args below meth c Q b 5 (CW G b w') 0 0 80 [(0, .ref (mdb b)), (1, .int (o.1)), (2, .int (o.2.1)), (3, .int (o.2.2))] [] → xW p l e (xR 5) s m args below meth c Q b 5 (CW G b w) 0 0 6 [(0, .ref (mdb b)), (1, .int (l1)), (2, .int (l2)), (3, .int (l3))] [] := by
  intro n9
  induction n9 with
  | zero => intro l1 l2 l3 w o w' hF; exact none_ne (show none = some _ from hF)
  | succ n9 ih =>
    intro l1 l2 l3 w o w' hF kx
    replace hF : B_X8_findBestRake_6  (L_X8_findBestRake_6  n9) l1 l2 l3 w = some (o, w') := hF
    unfold B_X8_findBestRake_6 at hF
    refine x_iload_n (pc := 6) C 3 dX8_findBestRake_6 rfl rfl ?_
    refine x_iconst (pc := 7) C 5 dX8_findBestRake_7 ki_5 ?_
    refine x_icmp_ge (pc := 8) C 80 dX8_findBestRake_8 rfl hF (fun c23 hF => ?_) (fun c23 hF => ?_)
    · obtain ⟨rfl, rfl⟩ := ret_eq hF
      exact x_sub [0, 1, 2, 3] rfl kx
    · refine x_aload_n (pc := 11) C 0 dX8_findBestRake_11 rfl rfl ?_
      refine x_iload_n (pc := 12) C 3 dX8_findBestRake_12 rfl rfl ?_
      refine x_iconst (pc := 13) C 0 dX8_findBestRake_13 ki_0 ?_
      refine cV1_2 (pc := 14) (val := Value.int) C hF (fun _ _ h => c_X8_ofChild l G b  _ _ h) vm_X8_ofChild wq221 rfl rfl ⟨Nat.le_of_ble_eq_true rfl, Nat.le_of_ble_eq_true rfl⟩ rfl rfl (fun _ h => CW.md h) (Nat.le_of_ble_eq_true rfl) ⟨Nat.le_refl _, Nat.le_refl _⟩ dX8_findBestRake_14 (fun x2 w1 hF => ?_)
      refine x_iconst (pc := 17) C 1 dX8_findBestRake_17 ki_1 ?_
      refine x_icmp_ne (pc := 18) C 36 dX8_findBestRake_18 rfl hF (fun c22 hF => ?_) (fun c22 hF => ?_)
      · refine x_iconst (pc := 36) C 0 dX8_findBestRake_36 ki_0 ?_
        refine x_istore (pc := 37) C [(4, .int (0)), (0, .ref (mdb b)), (1, .int (l1)), (2, .int (l2)), (3, .int (l3))] dX8_findBestRake_37 (by decide) rfl ?_
        refine x_iload (pc := 39) C 0 dX8_findBestRake_39 rfl ?_
        refine x_iload_n (pc := 41) C 3 dX8_findBestRake_41 rfl rfl ?_
        refine x_icmp_gt (pc := 42) C 69 dX8_findBestRake_42 rfl hF (fun c10 hF => ?_) (fun c10 hF => ?_)
        · refine x_iload_n (pc := 69) C 4 dX8_findBestRake_69 rfl rfl ?_
          refine x_istore_n (pc := 70) C [(1, .int (l3)), (4, .int (0)), (0, .ref (mdb b)), (2, .int (l2)), (3, .int (l3))] dX8_findBestRake_70 rfl (by decide) rfl ?_
          refine x_iload (pc := 71) C 1 dX8_findBestRake_71 rfl ?_
          refine x_istore_n (pc := 73) C [(2, .int (0)), (1, .int (l3)), (4, .int (0)), (0, .ref (mdb b)), (3, .int (l3))] dX8_findBestRake_73 rfl (by decide) rfl ?_
          refine x_iinc (pc := 74) C 4 [(3, .int ((l3 + 1))), (2, .int (0)), (1, .int (l3)), (4, .int (0)), (0, .ref (mdb b))] dX8_findBestRake_74 rfl rfl (by decide) rfl ?_
          refine x_goto (pc := 77) C 6 dX8_findBestRake_77 rfl ?_
          exact x_sub [4, 2, 1, 0] rfl (ih _ _ _ _ _ _ hF kx)
        · refine x_iload (pc := 45) C 0 dX8_findBestRake_45 rfl ?_
          refine x_if_le (pc := 47) C 74 dX8_findBestRake_47 rfl (cst_t (c9 := (0 : Int32) ≤ 0) (by decide) hF) (fun c9 hF => ?_) (fun c9 _ => absurd (by decide) c9)
          refine x_iinc (pc := 74) C 4 [(3, .int ((l3 + 1))), (4, .int (0)), (0, .ref (mdb b)), (1, .int (l1)), (2, .int (l2))] dX8_findBestRake_74 rfl rfl (by decide) rfl ?_
          refine x_goto (pc := 77) C 6 dX8_findBestRake_77 rfl ?_
          exact x_sub [2, 3, 4, 0] rfl (ih _ _ _ _ _ _ hF kx)
      · refine x_aload_n (pc := 21) C 0 dX8_findBestRake_21 rfl rfl ?_
        refine x_iload_n (pc := 22) C 3 dX8_findBestRake_22 rfl rfl ?_
        refine x_aload_n (pc := 23) C 0 dX8_findBestRake_23 rfl rfl ?_
        refine gf_X8_7 (pc := 24) C  dX8_findBestRake_24 ?_
        refine x_bipush (pc := 27) C 9 dX8_findBestRake_27 kb_9 ?_
        refine w_ald (pc := 29) C (vA_m 0 (by decide)) hF dX8_findBestRake_29 (fun x11 hF => ?_)
        refine cV1_2 (pc := 30) (val := Value.int) C hF (fun _ _ h => c_X8_burnable l G b  _ _ h) vm_X8_burnable wq1140 rfl rfl ⟨Nat.le_of_ble_eq_true rfl, Nat.le_of_ble_eq_true rfl⟩ rfl rfl (fun _ h => CW.md h) (Nat.le_of_ble_eq_true rfl) ⟨Nat.le_refl _, Nat.le_refl _⟩ dX8_findBestRake_30 (fun x13 w12 hF => ?_)
        refine x_goto (pc := 33) C 37 dX8_findBestRake_33 rfl ?_
        refine x_istore (pc := 37) C [(4, .int (x13)), (0, .ref (mdb b)), (1, .int (l1)), (2, .int (l2)), (3, .int (l3))] dX8_findBestRake_37 (by decide) rfl ?_
        refine x_iload (pc := 39) C 0 dX8_findBestRake_39 rfl ?_
        refine x_iload_n (pc := 41) C 3 dX8_findBestRake_41 rfl rfl ?_
        refine x_icmp_gt (pc := 42) C 69 dX8_findBestRake_42 rfl hF (fun c21 hF => ?_) (fun c21 hF => ?_)
        · refine x_iload_n (pc := 69) C 4 dX8_findBestRake_69 rfl rfl ?_
          refine x_istore_n (pc := 70) C [(1, .int (l3)), (4, .int (x13)), (0, .ref (mdb b)), (2, .int (l2)), (3, .int (l3))] dX8_findBestRake_70 rfl (by decide) rfl ?_
          refine x_iload (pc := 71) C 1 dX8_findBestRake_71 rfl ?_
          refine x_istore_n (pc := 73) C [(2, .int (x13)), (1, .int (l3)), (4, .int (x13)), (0, .ref (mdb b)), (3, .int (l3))] dX8_findBestRake_73 rfl (by decide) rfl ?_
          refine x_iinc (pc := 74) C 4 [(3, .int ((l3 + 1))), (2, .int (x13)), (1, .int (l3)), (4, .int (x13)), (0, .ref (mdb b))] dX8_findBestRake_74 rfl rfl (by decide) rfl ?_
          refine x_goto (pc := 77) C 6 dX8_findBestRake_77 rfl ?_
          exact x_sub [4, 2, 1, 0] rfl (ih _ _ _ _ _ _ hF kx)
        · refine x_iload (pc := 45) C 0 dX8_findBestRake_45 rfl ?_
          refine x_if_le (pc := 47) C 74 dX8_findBestRake_47 rfl hF (fun c20 hF => ?_) (fun c20 hF => ?_)
          · refine x_iinc (pc := 74) C 4 [(3, .int ((l3 + 1))), (4, .int (x13)), (0, .ref (mdb b)), (1, .int (l1)), (2, .int (l2))] dX8_findBestRake_74 rfl rfl (by decide) rfl ?_
            refine x_goto (pc := 77) C 6 dX8_findBestRake_77 rfl ?_
            exact x_sub [2, 3, 4, 0] rfl (ih _ _ _ _ _ _ hF kx)
          · refine x_iload (pc := 50) C 0 dX8_findBestRake_50 rfl ?_
            refine x_iload_n (pc := 52) C 3 dX8_findBestRake_52 rfl rfl ?_
            refine x_icmp_ne (pc := 53) C 74 dX8_findBestRake_53 rfl hF (fun c19 hF => ?_) (fun c19 hF => ?_)
            · refine x_iinc (pc := 74) C 4 [(3, .int ((l3 + 1))), (4, .int (x13)), (0, .ref (mdb b)), (1, .int (l1)), (2, .int (l2))] dX8_findBestRake_74 rfl rfl (by decide) rfl ?_
              refine x_goto (pc := 77) C 6 dX8_findBestRake_77 rfl ?_
              exact x_sub [2, 3, 4, 0] rfl (ih _ _ _ _ _ _ hF kx)
            · refine x_aload_n (pc := 56) C 1 dX8_findBestRake_56 rfl rfl ?_
              refine x_iload_n (pc := 57) C 4 dX8_findBestRake_57 rfl rfl ?_
              refine cV1_1 (pc := 58) (val := Value.int) C hF (fun _ _ h => c_X8_heapOf l G b  _ h) vm_X8_heapOf wq674 rfl rfl ⟨Nat.le_of_ble_eq_true rfl, Nat.le_of_ble_eq_true rfl⟩ rfl rfl (fun _ h => CW.md h) (Nat.le_of_ble_eq_true rfl) ⟨Nat.le_refl _, Nat.le_refl _⟩ dX8_findBestRake_58 (fun x15 w14 hF => ?_)
              refine x_aload_n (pc := 61) C 1 dX8_findBestRake_61 rfl rfl ?_
              refine x_iload_n (pc := 62) C 2 dX8_findBestRake_62 rfl rfl ?_
              refine cV1_1 (pc := 63) (val := Value.int) C hF (fun _ _ h => c_X8_heapOf l G b  _ h) vm_X8_heapOf wq674 rfl rfl ⟨Nat.le_of_ble_eq_true rfl, Nat.le_of_ble_eq_true rfl⟩ rfl rfl (fun _ h => CW.md h) (Nat.le_of_ble_eq_true rfl) ⟨Nat.le_refl _, Nat.le_refl _⟩ dX8_findBestRake_63 (fun x17 w16 hF => ?_)
              refine x_icmp_le (pc := 66) C 74 dX8_findBestRake_66 rfl hF (fun c18 hF => ?_) (fun c18 hF => ?_)
              · refine x_iinc (pc := 74) C 4 [(3, .int ((l3 + 1))), (4, .int (x13)), (0, .ref (mdb b)), (1, .int (l1)), (2, .int (l2))] dX8_findBestRake_74 rfl rfl (by decide) rfl ?_
                refine x_goto (pc := 77) C 6 dX8_findBestRake_77 rfl ?_
                exact x_sub [2, 3, 4, 0] rfl (ih _ _ _ _ _ _ hF kx)
              · refine x_iload_n (pc := 69) C 4 dX8_findBestRake_69 rfl rfl ?_
                refine x_istore_n (pc := 70) C [(1, .int (l3)), (4, .int (x13)), (0, .ref (mdb b)), (2, .int (l2)), (3, .int (l3))] dX8_findBestRake_70 rfl (by decide) rfl ?_
                refine x_iload (pc := 71) C 1 dX8_findBestRake_71 rfl ?_
                refine x_istore_n (pc := 73) C [(2, .int (x13)), (1, .int (l3)), (4, .int (x13)), (0, .ref (mdb b)), (3, .int (l3))] dX8_findBestRake_73 rfl (by decide) rfl ?_
                refine x_iinc (pc := 74) C 4 [(3, .int ((l3 + 1))), (2, .int (x13)), (1, .int (l3)), (4, .int (x13)), (0, .ref (mdb b))] dX8_findBestRake_74 rfl rfl (by decide) rfl ?_
                refine x_goto (pc := 77) C 6 dX8_findBestRake_77 rfl ?_
                exact x_sub [4, 2, 1, 0] rfl (ih _ _ _ _ _ _ hF kx)
set_option maxRecDepth 4000 in
theorem c_X8_findBestRake (l : Launch) (G : xG) (b : Nat)      {w w' : xWt} {v : Int32} (hF : F_X8_findBestRake  w = some (v, w')) : xMet l G b yX8_findBestRake cX8_findBestRake 5 (some .int) (xR 5) [.ref (mdb b)] (CW G b w) (some (.int v)) (CW G b w') 0 0 := by
  refine x_of (own := RX8) rfl (plainFor_of_name pn_X8) (Nat.le_of_ble_eq_true rfl) ?_
  intro p e s m args below meth c ha C hr _
  unfold F_X8_findBestRake at hF
  refine x_iconst (pc := 0) C (-1) dX8_findBestRake_0 ki_m1 ?_
  refine x_istore_n (pc := 1) C [(1, .int ((-1))), (0, .ref (mdb b))] dX8_findBestRake_1 rfl (by decide) rfl ?_
  refine x_iconst (pc := 2) C 0 dX8_findBestRake_2 ki_0 ?_
  refine x_istore_n (pc := 3) C [(2, .int (0)), (1, .int ((-1))), (0, .ref (mdb b))] dX8_findBestRake_3 rfl (by decide) rfl ?_
  refine x_iconst (pc := 4) C 0 dX8_findBestRake_4 ki_0 ?_
  refine x_istore_n (pc := 5) C [(3, .int (0)), (2, .int (0)), (1, .int ((-1))), (0, .ref (mdb b))] dX8_findBestRake_5 rfl (by decide) rfl ?_
  obtain ⟨o24, w25, hL, hF⟩ := bd_some hF
  refine x_sub [3, 2, 1, 0] rfl (s_X8_findBestRake_6 C  _ _ _ _ _ _ _ hL ?_)
  refine x_iload_n (pc := 80) C 1 dX8_findBestRake_80 rfl rfl ?_
  obtain ⟨rfl, rfl⟩ := ret_eq hF
  exact x_iret (pc := 81) C hr rfl (fun _ h => h) dX8_findBestRake_81
set_option maxRecDepth 4000 in
theorem c_X8_bestRake (l : Launch) (G : xG) (b : Nat)      {w w' : xWt} {v : Int32} (hF : F_X8_bestRake  w = some (v, w')) : xMet l G b yX8_bestRake cX8_bestRake 1 (some .int) (xR 6) [.ref (mdb b)] (CW G b w) (some (.int v)) (CW G b w') 0 0 := by
  refine x_of (own := RX8) rfl (plainFor_of_name pn_X8) (Nat.le_of_ble_eq_true rfl) ?_
  intro p e s m args below meth c ha C hr _
  unfold F_X8_bestRake at hF
  refine x_aload_n (pc := 0) C 0 dX8_bestRake_0 rfl rfl ?_
  refine x_iconst (pc := 1) C 0 dX8_bestRake_1 ki_0 ?_
  refine pf_X8_33 (pc := 2) C   hF dX8_bestRake_2 (fun w1 hF => ?_)
  refine x_aload_n (pc := 5) C 0 dX8_bestRake_5 rfl rfl ?_
  refine cV1_0 (pc := 6) (val := Value.int) C hF (fun _ _ h => c_X8_findBestRake l G b  h) vm_X8_findBestRake wq1157 rfl rfl ⟨Nat.le_of_ble_eq_true rfl, Nat.le_of_ble_eq_true rfl⟩ rfl rfl (fun _ h => CW.md h) (Nat.le_of_ble_eq_true rfl) ⟨Nat.le_refl _, Nat.le_refl _⟩ dX8_bestRake_6 (fun x3 w2 hF => ?_)
  obtain ⟨rfl, rfl⟩ := ret_eq hF
  exact x_iret (pc := 9) C hr rfl (fun _ h => h) dX8_bestRake_9
set_option maxRecDepth 4000 in
theorem c_X8_isBranch (l : Launch) (G : xG) (b : Nat)     (a1 : Int32) {w w' : xWt} {v : Int32} (hF : F_X8_isBranch a1 w = some (v, w')) : xMet l G b yX8_isBranch cX8_isBranch 1 (some .boolean) (xR 1) [.int (a1)] (CW G b w) (some (.int v)) (CW G b w') 0 0 := by
  refine x_of (own := RX8) rfl (plainFor_of_name pn_X8) (Nat.le_of_ble_eq_true rfl) ?_
  intro p e s m args below meth c ha C hr _
  unfold F_X8_isBranch at hF
  refine x_iload_n (pc := 0) C 0 dX8_isBranch_0 rfl rfl ?_
  refine x_iconst (pc := 1) C 0 dX8_isBranch_1 ki_0 ?_
  refine x_bipush (pc := 2) C 11 dX8_isBranch_2 kb_11 ?_
  refine cS1_3 (pc := 4) (val := Value.int) C hF (fun _ _ h => c_X8_in l G b  _ _ _ h) sm_X8_in wq307 rfl rfl ⟨Nat.le_of_ble_eq_true rfl, Nat.le_of_ble_eq_true rfl⟩ (Nat.le_of_ble_eq_true rfl) ⟨Nat.le_refl _, Nat.le_refl _⟩ dX8_isBranch_4 (fun x2 w1 hF => ?_)
  obtain ⟨hz, hF⟩ := zr_some hF
  obtain ⟨rfl, rfl⟩ := ret_eq hF
  exact x_zret (pc := 7) C (bool_ok hz) hr rfl (fun _ h => h) dX8_isBranch_7
set_option maxRecDepth 4000 in
theorem c_X8_branch (l : Launch) (G : xG) (b : Nat)     (a1 : Int32) {w w' : xWt} {v : Int32} (hF : F_X8_branch a1 w = some (v, w')) : xMet l G b yX8_branch cX8_branch 2 (some .int) (xR 2) [.ref (mdb b), .int (a1)] (CW G b w) (some (.int v)) (CW G b w') 0 0 := by
  refine x_of (own := RX8) rfl (plainFor_of_name pn_X8) (Nat.le_of_ble_eq_true rfl) ?_
  intro p e s m args below meth c ha C hr _
  unfold F_X8_branch at hF
  refine x_aload_n (pc := 0) C 0 dX8_branch_0 rfl rfl ?_
  refine x_iload_n (pc := 1) C 1 dX8_branch_1 rfl rfl ?_
  refine cS1_1 (pc := 2) (val := Value.int) C hF (fun _ _ h => c_X8_isBranch l G b  _ h) sm_X8_isBranch wq475 rfl rfl ⟨Nat.le_of_ble_eq_true rfl, Nat.le_of_ble_eq_true rfl⟩ (Nat.le_of_ble_eq_true rfl) ⟨Nat.le_refl _, Nat.le_refl _⟩ dX8_branch_2 (fun x2 w1 hF => ?_)
  refine x_if_eq (pc := 5) C 12 dX8_branch_5 rfl hF (fun c9 hF => ?_) (fun c9 hF => ?_)
  · refine x_iconst (pc := 12) C 1 dX8_branch_12 ki_1 ?_
    refine pf_X8_33 (pc := 13) C   hF dX8_branch_13 (fun w3 hF => ?_)
    refine x_aload_n (pc := 16) C 0 dX8_branch_16 rfl rfl ?_
    refine gf_X8_33 (pc := 17) C  dX8_branch_17 ?_
    refine x_if_le (pc := 20) C 27 dX8_branch_20 rfl hF (fun c5 hF => ?_) (fun c5 hF => ?_)
    · refine x_aload_n (pc := 27) C 0 dX8_branch_27 rfl rfl ?_
      refine gf_X8_7 (pc := 28) C  dX8_branch_28 ?_
      refine x_bipush (pc := 31) C 10 dX8_branch_31 kb_10 ?_
      refine x_iload_n (pc := 33) C 1 dX8_branch_33 rfl rfl ?_
      refine x_iadd (pc := 34) C dX8_branch_34 ?_
      refine w_ald (pc := 35) C (vA_m 0 (by decide)) hF dX8_branch_35 (fun x4 hF => ?_)
      obtain ⟨rfl, rfl⟩ := ret_eq hF
      exact x_iret (pc := 36) C hr rfl (fun _ h => h) dX8_branch_36
    · refine x_iconst (pc := 23) C 0 dX8_branch_23 ki_0 ?_
      refine x_goto (pc := 24) C 36 dX8_branch_24 rfl ?_
      obtain ⟨rfl, rfl⟩ := ret_eq hF
      exact x_iret (pc := 36) C hr rfl (fun _ h => h) dX8_branch_36
  · refine x_iconst (pc := 8) C 0 dX8_branch_8 ki_0 ?_
    refine x_goto (pc := 9) C 13 dX8_branch_9 rfl ?_
    refine pf_X8_33 (pc := 13) C   hF dX8_branch_13 (fun w6 hF => ?_)
    refine x_aload_n (pc := 16) C 0 dX8_branch_16 rfl rfl ?_
    refine gf_X8_33 (pc := 17) C  dX8_branch_17 ?_
    refine x_if_le (pc := 20) C 27 dX8_branch_20 rfl hF (fun c8 hF => ?_) (fun c8 hF => ?_)
    · refine x_aload_n (pc := 27) C 0 dX8_branch_27 rfl rfl ?_
      refine gf_X8_7 (pc := 28) C  dX8_branch_28 ?_
      refine x_bipush (pc := 31) C 10 dX8_branch_31 kb_10 ?_
      refine x_iload_n (pc := 33) C 1 dX8_branch_33 rfl rfl ?_
      refine x_iadd (pc := 34) C dX8_branch_34 ?_
      refine w_ald (pc := 35) C (vA_m 0 (by decide)) hF dX8_branch_35 (fun x7 hF => ?_)
      obtain ⟨rfl, rfl⟩ := ret_eq hF
      exact x_iret (pc := 36) C hr rfl (fun _ h => h) dX8_branch_36
    · refine x_iconst (pc := 23) C 0 dX8_branch_23 ki_0 ?_
      refine x_goto (pc := 24) C 36 dX8_branch_24 rfl ?_
      obtain ⟨rfl, rfl⟩ := ret_eq hF
      exact x_iret (pc := 36) C hr rfl (fun _ h => h) dX8_branch_36
set_option maxRecDepth 4000 in
theorem s_X8_burnableWithout_4 (C : xC p m c s args meth G b cX8_burnableWithout 5 RX8)    : ∀ (n9 : Nat) (l1 : Int32) (l2 : Int32) (l3 : Int32) (w : xWt) (o : (Int32 × Int32)) (w' : xWt), L_X8_burnableWithout_4  n9 l1 l2 l3 w = some (o, w') → xW p l e (xR 4) s m args below meth c Q b 5 (CW G b w') 0 0 78 [(0, .ref (mdb b)), (1, .int (l1)), (2, .int (o.1)), (3, .int (o.2))] [] → xW p l e (xR 4) s m args below meth c Q b 5 (CW G b w) 0 0 4 [(0, .ref (mdb b)), (1, .int (l1)), (2, .int (l2)), (3, .int (l3))] [] := by
  intro n9
  induction n9 with
  | zero => intro l1 l2 l3 w o w' hF; exact none_ne (show none = some _ from hF)
  | succ n9 ih =>
    intro l1 l2 l3 w o w' hF kx
    replace hF : B_X8_burnableWithout_4  (L_X8_burnableWithout_4  n9) l1 l2 l3 w = some (o, w') := hF
    unfold B_X8_burnableWithout_4 at hF
    refine x_iload_n (pc := 4) C 3 dX8_burnableWithout_4 rfl rfl ?_
    refine x_aload_n (pc := 5) C 0 dX8_burnableWithout_5 rfl rfl ?_
    refine gf_X8_7 (pc := 6) C  dX8_burnableWithout_6 ?_
    refine x_iconst (pc := 9) C 1 dX8_burnableWithout_9 ki_1 ?_
    refine w_ald (pc := 10) C (vA_m 0 (by decide)) hF dX8_burnableWithout_10 (fun x1 hF => ?_)
    refine x_icmp_ge (pc := 11) C 78 dX8_burnableWithout_11 rfl hF (fun c21 hF => ?_) (fun c21 hF => ?_)
    · obtain ⟨rfl, rfl⟩ := ret_eq hF
      exact x_sub [0, 1, 2, 3] rfl kx
    · refine x_aload_n (pc := 14) C 0 dX8_burnableWithout_14 rfl rfl ?_
      refine gf_X8_7 (pc := 15) C  dX8_burnableWithout_15 ?_
      refine x_bipush (pc := 18) C 9 dX8_burnableWithout_18 kb_9 ?_
      refine w_ald (pc := 20) C (vA_m 0 (by decide)) hF dX8_burnableWithout_20 (fun x2 hF => ?_)
      refine x_if_ne (pc := 21) C 41 dX8_burnableWithout_21 rfl hF (fun c20 hF => ?_) (fun c20 hF => ?_)
      · refine x_aload_n (pc := 41) C 0 dX8_burnableWithout_41 rfl rfl ?_
        refine x_iload_n (pc := 42) C 3 dX8_burnableWithout_42 rfl rfl ?_
        refine x_iconst (pc := 43) C 1 dX8_burnableWithout_43 ki_1 ?_
        refine cV1_2 (pc := 44) (val := Value.int) C hF (fun _ _ h => c_X8_mayBurn l G b  _ _ h) vm_X8_mayBurn wq682 rfl rfl ⟨Nat.le_of_ble_eq_true rfl, Nat.le_of_ble_eq_true rfl⟩ rfl rfl (fun _ h => CW.md h) (Nat.le_of_ble_eq_true rfl) ⟨Nat.le_refl _, Nat.le_refl _⟩ dX8_burnableWithout_44 (fun x4 w3 hF => ?_)
        refine x_istore (pc := 47) C [(4, .int (x4)), (0, .ref (mdb b)), (1, .int (l1)), (2, .int (l2)), (3, .int (l3))] dX8_burnableWithout_47 (by decide) rfl ?_
        refine x_iload_n (pc := 49) C 3 dX8_burnableWithout_49 rfl rfl ?_
        refine x_aload_n (pc := 50) C 1 dX8_burnableWithout_50 rfl rfl ?_
        refine x_iload_n (pc := 51) C 4 dX8_burnableWithout_51 rfl rfl ?_
        refine x_iconst (pc := 52) C 1 dX8_burnableWithout_52 ki_1 ?_
        refine cV1_2 (pc := 53) (val := Value.int) C hF (fun _ _ h => c_X8_of l G b  _ _ h) vm_X8_of wq318 rfl rfl ⟨Nat.le_of_ble_eq_true rfl, Nat.le_of_ble_eq_true rfl⟩ rfl rfl (fun _ h => CW.md h) (Nat.le_of_ble_eq_true rfl) ⟨Nat.le_refl _, Nat.le_refl _⟩ dX8_burnableWithout_53 (fun x6 w5 hF => ?_)
        refine x_iconst (pc := 56) C 1 dX8_burnableWithout_56 ki_1 ?_
        refine x_icmp_ne (pc := 57) C 69 dX8_burnableWithout_57 rfl hF (fun c8 hF => ?_) (fun c8 hF => ?_)
        · refine x_iconst (pc := 69) C 0 dX8_burnableWithout_69 ki_0 ?_
          refine x_iadd (pc := 70) C dX8_burnableWithout_70 ?_
          refine x_istore_n (pc := 71) C [(2, .int ((l2 + 0))), (4, .int (x4)), (0, .ref (mdb b)), (1, .int (l1)), (3, .int (l3))] dX8_burnableWithout_71 rfl (by decide) rfl ?_
          refine x_iinc (pc := 72) C 4 [(3, .int ((l3 + 1))), (2, .int ((l2 + 0))), (4, .int (x4)), (0, .ref (mdb b)), (1, .int (l1))] dX8_burnableWithout_72 rfl rfl (by decide) rfl ?_
          refine x_goto (pc := 75) C 4 dX8_burnableWithout_75 rfl ?_
          exact x_sub [3, 4, 1, 0] rfl (ih _ _ _ _ _ _ hF kx)
        · refine x_iload (pc := 60) C 0 dX8_burnableWithout_60 rfl ?_
          refine x_if_eq (pc := 62) C 69 dX8_burnableWithout_62 rfl hF (fun c7 hF => ?_) (fun c7 hF => ?_)
          · refine x_iconst (pc := 69) C 0 dX8_burnableWithout_69 ki_0 ?_
            refine x_iadd (pc := 70) C dX8_burnableWithout_70 ?_
            refine x_istore_n (pc := 71) C [(2, .int ((l2 + 0))), (4, .int (x4)), (0, .ref (mdb b)), (1, .int (l1)), (3, .int (l3))] dX8_burnableWithout_71 rfl (by decide) rfl ?_
            refine x_iinc (pc := 72) C 4 [(3, .int ((l3 + 1))), (2, .int ((l2 + 0))), (4, .int (x4)), (0, .ref (mdb b)), (1, .int (l1))] dX8_burnableWithout_72 rfl rfl (by decide) rfl ?_
            refine x_goto (pc := 75) C 4 dX8_burnableWithout_75 rfl ?_
            exact x_sub [3, 4, 1, 0] rfl (ih _ _ _ _ _ _ hF kx)
          · refine x_iconst (pc := 65) C 1 dX8_burnableWithout_65 ki_1 ?_
            refine x_goto (pc := 66) C 70 dX8_burnableWithout_66 rfl ?_
            refine x_iadd (pc := 70) C dX8_burnableWithout_70 ?_
            refine x_istore_n (pc := 71) C [(2, .int ((l2 + 1))), (4, .int (x4)), (0, .ref (mdb b)), (1, .int (l1)), (3, .int (l3))] dX8_burnableWithout_71 rfl (by decide) rfl ?_
            refine x_iinc (pc := 72) C 4 [(3, .int ((l3 + 1))), (2, .int ((l2 + 1))), (4, .int (x4)), (0, .ref (mdb b)), (1, .int (l1))] dX8_burnableWithout_72 rfl rfl (by decide) rfl ?_
            refine x_goto (pc := 75) C 4 dX8_burnableWithout_75 rfl ?_
            exact x_sub [3, 4, 1, 0] rfl (ih _ _ _ _ _ _ hF kx)
      · refine x_aload_n (pc := 24) C 0 dX8_burnableWithout_24 rfl rfl ?_
        refine x_iload_n (pc := 25) C 3 dX8_burnableWithout_25 rfl rfl ?_
        refine x_iload_n (pc := 26) C 1 dX8_burnableWithout_26 rfl rfl ?_
        refine cV1_2 (pc := 27) (val := Value.int) C hF (fun _ _ h => c_X8_holders l G b  _ _ h) vm_X8_holders wq686 rfl rfl ⟨Nat.le_of_ble_eq_true rfl, Nat.le_of_ble_eq_true rfl⟩ rfl rfl (fun _ h => CW.md h) (Nat.le_of_ble_eq_true rfl) ⟨Nat.le_refl _, Nat.le_refl _⟩ dX8_burnableWithout_27 (fun x10 w9 hF => ?_)
        refine x_if_ne (pc := 30) C 37 dX8_burnableWithout_30 rfl hF (fun c19 hF => ?_) (fun c19 hF => ?_)
        · refine x_iconst (pc := 37) C 0 dX8_burnableWithout_37 ki_0 ?_
          refine x_goto (pc := 38) C 47 dX8_burnableWithout_38 rfl ?_
          refine x_istore (pc := 47) C [(4, .int (0)), (0, .ref (mdb b)), (1, .int (l1)), (2, .int (l2)), (3, .int (l3))] dX8_burnableWithout_47 (by decide) rfl ?_
          refine x_iload_n (pc := 49) C 3 dX8_burnableWithout_49 rfl rfl ?_
          refine x_aload_n (pc := 50) C 1 dX8_burnableWithout_50 rfl rfl ?_
          refine x_iload_n (pc := 51) C 4 dX8_burnableWithout_51 rfl rfl ?_
          refine x_iconst (pc := 52) C 1 dX8_burnableWithout_52 ki_1 ?_
          refine cV1_2 (pc := 53) (val := Value.int) C hF (fun _ _ h => c_X8_of l G b  _ _ h) vm_X8_of wq318 rfl rfl ⟨Nat.le_of_ble_eq_true rfl, Nat.le_of_ble_eq_true rfl⟩ rfl rfl (fun _ h => CW.md h) (Nat.le_of_ble_eq_true rfl) ⟨Nat.le_refl _, Nat.le_refl _⟩ dX8_burnableWithout_53 (fun x12 w11 hF => ?_)
          refine x_iconst (pc := 56) C 1 dX8_burnableWithout_56 ki_1 ?_
          refine x_icmp_ne (pc := 57) C 69 dX8_burnableWithout_57 rfl hF (fun c14 hF => ?_) (fun c14 hF => ?_)
          · refine x_iconst (pc := 69) C 0 dX8_burnableWithout_69 ki_0 ?_
            refine x_iadd (pc := 70) C dX8_burnableWithout_70 ?_
            refine x_istore_n (pc := 71) C [(2, .int ((l2 + 0))), (4, .int (0)), (0, .ref (mdb b)), (1, .int (l1)), (3, .int (l3))] dX8_burnableWithout_71 rfl (by decide) rfl ?_
            refine x_iinc (pc := 72) C 4 [(3, .int ((l3 + 1))), (2, .int ((l2 + 0))), (4, .int (0)), (0, .ref (mdb b)), (1, .int (l1))] dX8_burnableWithout_72 rfl rfl (by decide) rfl ?_
            refine x_goto (pc := 75) C 4 dX8_burnableWithout_75 rfl ?_
            exact x_sub [3, 4, 1, 0] rfl (ih _ _ _ _ _ _ hF kx)
          · refine x_iload (pc := 60) C 0 dX8_burnableWithout_60 rfl ?_
            refine x_if_eq (pc := 62) C 69 dX8_burnableWithout_62 rfl (cst_t (c9 := (0 : Int32) = 0) (by decide) hF) (fun c13 hF => ?_) (fun c13 _ => absurd (by decide) c13)
            refine x_iconst (pc := 69) C 0 dX8_burnableWithout_69 ki_0 ?_
            refine x_iadd (pc := 70) C dX8_burnableWithout_70 ?_
            refine x_istore_n (pc := 71) C [(2, .int ((l2 + 0))), (4, .int (0)), (0, .ref (mdb b)), (1, .int (l1)), (3, .int (l3))] dX8_burnableWithout_71 rfl (by decide) rfl ?_
            refine x_iinc (pc := 72) C 4 [(3, .int ((l3 + 1))), (2, .int ((l2 + 0))), (4, .int (0)), (0, .ref (mdb b)), (1, .int (l1))] dX8_burnableWithout_72 rfl rfl (by decide) rfl ?_
            refine x_goto (pc := 75) C 4 dX8_burnableWithout_75 rfl ?_
            exact x_sub [3, 4, 1, 0] rfl (ih _ _ _ _ _ _ hF kx)
        · refine x_iconst (pc := 33) C 1 dX8_burnableWithout_33 ki_1 ?_
          refine x_goto (pc := 34) C 47 dX8_burnableWithout_34 rfl ?_
          refine x_istore (pc := 47) C [(4, .int (1)), (0, .ref (mdb b)), (1, .int (l1)), (2, .int (l2)), (3, .int (l3))] dX8_burnableWithout_47 (by decide) rfl ?_
          refine x_iload_n (pc := 49) C 3 dX8_burnableWithout_49 rfl rfl ?_
          refine x_aload_n (pc := 50) C 1 dX8_burnableWithout_50 rfl rfl ?_
          refine x_iload_n (pc := 51) C 4 dX8_burnableWithout_51 rfl rfl ?_
          refine x_iconst (pc := 52) C 1 dX8_burnableWithout_52 ki_1 ?_
          refine cV1_2 (pc := 53) (val := Value.int) C hF (fun _ _ h => c_X8_of l G b  _ _ h) vm_X8_of wq318 rfl rfl ⟨Nat.le_of_ble_eq_true rfl, Nat.le_of_ble_eq_true rfl⟩ rfl rfl (fun _ h => CW.md h) (Nat.le_of_ble_eq_true rfl) ⟨Nat.le_refl _, Nat.le_refl _⟩ dX8_burnableWithout_53 (fun x16 w15 hF => ?_)
          refine x_iconst (pc := 56) C 1 dX8_burnableWithout_56 ki_1 ?_
          refine x_icmp_ne (pc := 57) C 69 dX8_burnableWithout_57 rfl hF (fun c18 hF => ?_) (fun c18 hF => ?_)
          · refine x_iconst (pc := 69) C 0 dX8_burnableWithout_69 ki_0 ?_
            refine x_iadd (pc := 70) C dX8_burnableWithout_70 ?_
            refine x_istore_n (pc := 71) C [(2, .int ((l2 + 0))), (4, .int (1)), (0, .ref (mdb b)), (1, .int (l1)), (3, .int (l3))] dX8_burnableWithout_71 rfl (by decide) rfl ?_
            refine x_iinc (pc := 72) C 4 [(3, .int ((l3 + 1))), (2, .int ((l2 + 0))), (4, .int (1)), (0, .ref (mdb b)), (1, .int (l1))] dX8_burnableWithout_72 rfl rfl (by decide) rfl ?_
            refine x_goto (pc := 75) C 4 dX8_burnableWithout_75 rfl ?_
            exact x_sub [3, 4, 1, 0] rfl (ih _ _ _ _ _ _ hF kx)
          · refine x_iload (pc := 60) C 0 dX8_burnableWithout_60 rfl ?_
            refine x_if_eq (pc := 62) C 69 dX8_burnableWithout_62 rfl (cst_f (c9 := (1 : Int32) = 0) (by decide) hF) (fun c17 _ => absurd c17 (by decide)) (fun c17 hF => ?_)
            refine x_iconst (pc := 65) C 1 dX8_burnableWithout_65 ki_1 ?_
            refine x_goto (pc := 66) C 70 dX8_burnableWithout_66 rfl ?_
            refine x_iadd (pc := 70) C dX8_burnableWithout_70 ?_
            refine x_istore_n (pc := 71) C [(2, .int ((l2 + 1))), (4, .int (1)), (0, .ref (mdb b)), (1, .int (l1)), (3, .int (l3))] dX8_burnableWithout_71 rfl (by decide) rfl ?_
            refine x_iinc (pc := 72) C 4 [(3, .int ((l3 + 1))), (2, .int ((l2 + 1))), (4, .int (1)), (0, .ref (mdb b)), (1, .int (l1))] dX8_burnableWithout_72 rfl rfl (by decide) rfl ?_
            refine x_goto (pc := 75) C 4 dX8_burnableWithout_75 rfl ?_
            exact x_sub [3, 4, 1, 0] rfl (ih _ _ _ _ _ _ hF kx)
set_option maxRecDepth 4000 in
theorem c_X8_burnableWithout (l : Launch) (G : xG) (b : Nat)     (a1 : Int32) {w w' : xWt} {v : Int32} (hF : F_X8_burnableWithout a1 w = some (v, w')) : xMet l G b yX8_burnableWithout cX8_burnableWithout 5 (some .int) (xR 4) [.ref (mdb b), .int (a1)] (CW G b w) (some (.int v)) (CW G b w') 0 0 := by
  refine x_of (own := RX8) rfl (plainFor_of_name pn_X8) (Nat.le_of_ble_eq_true rfl) ?_
  intro p e s m args below meth c ha C hr _
  unfold F_X8_burnableWithout at hF
  refine x_iconst (pc := 0) C 0 dX8_burnableWithout_0 ki_0 ?_
  refine x_istore_n (pc := 1) C [(2, .int (0)), (0, .ref (mdb b)), (1, .int (a1))] dX8_burnableWithout_1 rfl (by decide) rfl ?_
  refine x_iconst (pc := 2) C 0 dX8_burnableWithout_2 ki_0 ?_
  refine x_istore_n (pc := 3) C [(3, .int (0)), (2, .int (0)), (0, .ref (mdb b)), (1, .int (a1))] dX8_burnableWithout_3 rfl (by decide) rfl ?_
  obtain ⟨o22, w23, hL, hF⟩ := bd_some hF
  refine x_sub [2, 3, 1, 0] rfl (s_X8_burnableWithout_4 C  _ _ _ _ _ _ _ hL ?_)
  refine x_iload_n (pc := 78) C 2 dX8_burnableWithout_78 rfl rfl ?_
  obtain ⟨rfl, rfl⟩ := ret_eq hF
  exact x_iret (pc := 79) C hr rfl (fun _ h => h) dX8_burnableWithout_79
set_option maxRecDepth 4000 in
theorem s_X8_leavesAt_4 (C : xC p m c s args meth G b cX8_leavesAt 4 RX8)    : ∀ (n9 : Nat) (l1 : Int32) (l2 : Int32) (l3 : Int32) (w : xWt) (o : (Int32 × Int32)) (w' : xWt), L_X8_leavesAt_4  n9 l1 l2 l3 w = some (o, w') → xW p l e (xR 1) s m args below meth c Q b 4 (CW G b w') 0 0 38 [(0, .ref (mdb b)), (1, .int (l1)), (2, .int (o.1)), (3, .int (o.2))] [] → xW p l e (xR 1) s m args below meth c Q b 4 (CW G b w) 0 0 4 [(0, .ref (mdb b)), (1, .int (l1)), (2, .int (l2)), (3, .int (l3))] [] := by
  intro n9
  induction n9 with
  | zero => intro l1 l2 l3 w o w' hF; exact none_ne (show none = some _ from hF)
  | succ n9 ih =>
    intro l1 l2 l3 w o w' hF kx
    replace hF : B_X8_leavesAt_4  (L_X8_leavesAt_4  n9) l1 l2 l3 w = some (o, w') := hF
    unfold B_X8_leavesAt_4 at hF
    refine x_iload_n (pc := 4) C 3 dX8_leavesAt_4 rfl rfl ?_
    refine x_aload_n (pc := 5) C 0 dX8_leavesAt_5 rfl rfl ?_
    refine gf_X8_7 (pc := 6) C  dX8_leavesAt_6 ?_
    refine x_iconst (pc := 9) C 1 dX8_leavesAt_9 ki_1 ?_
    refine w_ald (pc := 10) C (vA_m 0 (by decide)) hF dX8_leavesAt_10 (fun x1 hF => ?_)
    refine x_icmp_ge (pc := 11) C 38 dX8_leavesAt_11 rfl hF (fun c5 hF => ?_) (fun c5 hF => ?_)
    · obtain ⟨rfl, rfl⟩ := ret_eq hF
      exact x_sub [0, 1, 2, 3] rfl kx
    · refine x_iload_n (pc := 14) C 2 dX8_leavesAt_14 rfl rfl ?_
      refine x_aload_n (pc := 15) C 0 dX8_leavesAt_15 rfl rfl ?_
      refine x_iload_n (pc := 16) C 3 dX8_leavesAt_16 rfl rfl ?_
      refine x_iconst (pc := 17) C 1 dX8_leavesAt_17 ki_1 ?_
      refine cV1_2 (pc := 18) (val := Value.int) C hF (fun _ _ h => c_X8_of l G b  _ _ h) vm_X8_of wq318 rfl rfl ⟨Nat.le_of_ble_eq_true rfl, Nat.le_of_ble_eq_true rfl⟩ rfl rfl (fun _ h => CW.md h) (Nat.le_of_ble_eq_true rfl) ⟨Nat.le_refl _, Nat.le_refl _⟩ dX8_leavesAt_18 (fun x3 w2 hF => ?_)
      refine x_iload_n (pc := 21) C 1 dX8_leavesAt_21 rfl rfl ?_
      refine x_icmp_ne (pc := 22) C 29 dX8_leavesAt_22 rfl hF (fun c4 hF => ?_) (fun c4 hF => ?_)
      · refine x_iconst (pc := 29) C 0 dX8_leavesAt_29 ki_0 ?_
        refine x_iadd (pc := 30) C dX8_leavesAt_30 ?_
        refine x_istore_n (pc := 31) C [(2, .int ((l2 + 0))), (0, .ref (mdb b)), (1, .int (l1)), (3, .int (l3))] dX8_leavesAt_31 rfl (by decide) rfl ?_
        refine x_iinc (pc := 32) C 3 [(3, .int ((l3 + 1))), (2, .int ((l2 + 0))), (0, .ref (mdb b)), (1, .int (l1))] dX8_leavesAt_32 rfl rfl (by decide) rfl ?_
        refine x_goto (pc := 35) C 4 dX8_leavesAt_35 rfl ?_
        exact x_sub [2, 3, 1, 0] rfl (ih _ _ _ _ _ _ hF kx)
      · refine x_iconst (pc := 25) C 1 dX8_leavesAt_25 ki_1 ?_
        refine x_goto (pc := 26) C 30 dX8_leavesAt_26 rfl ?_
        refine x_iadd (pc := 30) C dX8_leavesAt_30 ?_
        refine x_istore_n (pc := 31) C [(2, .int ((l2 + 1))), (0, .ref (mdb b)), (1, .int (l1)), (3, .int (l3))] dX8_leavesAt_31 rfl (by decide) rfl ?_
        refine x_iinc (pc := 32) C 3 [(3, .int ((l3 + 1))), (2, .int ((l2 + 1))), (0, .ref (mdb b)), (1, .int (l1))] dX8_leavesAt_32 rfl rfl (by decide) rfl ?_
        refine x_goto (pc := 35) C 4 dX8_leavesAt_35 rfl ?_
        exact x_sub [2, 3, 1, 0] rfl (ih _ _ _ _ _ _ hF kx)
set_option maxRecDepth 4000 in
theorem c_X8_leavesAt (l : Launch) (G : xG) (b : Nat)     (a1 : Int32) {w w' : xWt} {v : Int32} (hF : F_X8_leavesAt a1 w = some (v, w')) : xMet l G b yX8_leavesAt cX8_leavesAt 4 (some .int) (xR 1) [.ref (mdb b), .int (a1)] (CW G b w) (some (.int v)) (CW G b w') 0 0 := by
  refine x_of (own := RX8) rfl (plainFor_of_name pn_X8) (Nat.le_of_ble_eq_true rfl) ?_
  intro p e s m args below meth c ha C hr _
  unfold F_X8_leavesAt at hF
  refine x_iconst (pc := 0) C 0 dX8_leavesAt_0 ki_0 ?_
  refine x_istore_n (pc := 1) C [(2, .int (0)), (0, .ref (mdb b)), (1, .int (a1))] dX8_leavesAt_1 rfl (by decide) rfl ?_
  refine x_iconst (pc := 2) C 0 dX8_leavesAt_2 ki_0 ?_
  refine x_istore_n (pc := 3) C [(3, .int (0)), (2, .int (0)), (0, .ref (mdb b)), (1, .int (a1))] dX8_leavesAt_3 rfl (by decide) rfl ?_
  obtain ⟨o6, w7, hL, hF⟩ := bd_some hF
  refine x_sub [2, 3, 1, 0] rfl (s_X8_leavesAt_4 C  _ _ _ _ _ _ _ hL ?_)
  refine x_iload_n (pc := 38) C 2 dX8_leavesAt_38 rfl rfl ?_
  obtain ⟨rfl, rfl⟩ := ret_eq hF
  exact x_iret (pc := 39) C hr rfl (fun _ h => h) dX8_leavesAt_39
set_option maxRecDepth 4000 in
theorem c_X8_shareOfBurnt (l : Launch) (G : xG) (b : Nat)      {w w' : xWt} {v : UInt64} (hF : F_X8_shareOfBurnt  w = some (v, w')) : xMet l G b yX8_shareOfBurnt cX8_shareOfBurnt 3 (some .double) (xR 2) [.ref (mdb b)] (CW G b w) (some (.double v)) (CW G b w') 0 0 := by
  refine x_of (own := RX8) rfl (plainFor_of_name pn_X8) (Nat.le_of_ble_eq_true rfl) ?_
  intro p e s m args below meth c ha C hr _
  unfold F_X8_shareOfBurnt at hF
  refine x_aload_n (pc := 0) C 0 dX8_shareOfBurnt_0 rfl rfl ?_
  refine x_iconst (pc := 1) C 2 dX8_shareOfBurnt_1 ki_2 ?_
  refine cV1_1 (pc := 2) (val := Value.int) C hF (fun _ _ h => c_X8_leavesAt l G b  _ h) vm_X8_leavesAt wq690 rfl rfl ⟨Nat.le_of_ble_eq_true rfl, Nat.le_of_ble_eq_true rfl⟩ rfl rfl (fun _ h => CW.md h) (Nat.le_of_ble_eq_true rfl) ⟨Nat.le_refl _, Nat.le_refl _⟩ dX8_shareOfBurnt_2 (fun x2 w1 hF => ?_)
  refine x_istore_n (pc := 5) C [(1, .int (x2)), (0, .ref (mdb b))] dX8_shareOfBurnt_5 rfl (by decide) rfl ?_
  refine x_iload_n (pc := 6) C 0 dX8_shareOfBurnt_6 rfl rfl ?_
  refine x_aload_n (pc := 7) C 1 dX8_shareOfBurnt_7 rfl rfl ?_
  refine x_iconst (pc := 8) C 1 dX8_shareOfBurnt_8 ki_1 ?_
  refine cV1_1 (pc := 9) (val := Value.int) C hF (fun _ _ h => c_X8_leavesAt l G b  _ h) vm_X8_leavesAt wq690 rfl rfl ⟨Nat.le_of_ble_eq_true rfl, Nat.le_of_ble_eq_true rfl⟩ rfl rfl (fun _ h => CW.md h) (Nat.le_of_ble_eq_true rfl) ⟨Nat.le_refl _, Nat.le_refl _⟩ dX8_shareOfBurnt_9 (fun x4 w3 hF => ?_)
  refine x_iadd (pc := 12) C dX8_shareOfBurnt_12 ?_
  refine x_istore_n (pc := 13) C [(2, .int ((x2 + x4))), (1, .int (x2)), (0, .ref (mdb b))] dX8_shareOfBurnt_13 rfl (by decide) rfl ?_
  refine x_iload_n (pc := 14) C 0 dX8_shareOfBurnt_14 rfl rfl ?_
  refine x_if_ne (pc := 15) C 22 dX8_shareOfBurnt_15 rfl hF (fun c6 hF => ?_) (fun c6 hF => ?_)
  · refine x_iload_n (pc := 22) C 1 dX8_shareOfBurnt_22 rfl rfl ?_
    refine x_i2d (pc := 23) C dX8_shareOfBurnt_23 ?_
    refine x_iload_n (pc := 24) C 0 dX8_shareOfBurnt_24 rfl rfl ?_
    refine x_i2d (pc := 25) C dX8_shareOfBurnt_25 ?_
    refine y_ddiv (pc := 26) C dX8_shareOfBurnt_26 hF (fun x5 hF => ?_)
    obtain ⟨rfl, rfl⟩ := ret_eq hF
    exact x_dret (pc := 27) C hr rfl (fun _ h => h) dX8_shareOfBurnt_27
  · refine x_dconst1 (pc := 18) C dX8_shareOfBurnt_18 ?_
    refine x_goto (pc := 19) C 27 dX8_shareOfBurnt_19 rfl ?_
    obtain ⟨rfl, rfl⟩ := ret_eq hF
    exact x_dret (pc := 27) C hr rfl (fun _ h => h) dX8_shareOfBurnt_27
set_option maxRecDepth 4000 in
theorem c_X8_burntShare (l : Launch) (G : xG) (b : Nat)      {w w' : xWt} {v : UInt64} (hF : F_X8_burntShare  w = some (v, w')) : xMet l G b yX8_burntShare cX8_burntShare 1 (some .double) (xR 3) [.ref (mdb b)] (CW G b w) (some (.double v)) (CW G b w') 0 0 := by
  refine x_of (own := RX8) rfl (plainFor_of_name pn_X8) (Nat.le_of_ble_eq_true rfl) ?_
  intro p e s m args below meth c ha C hr _
  unfold F_X8_burntShare at hF
  refine x_aload_n (pc := 0) C 0 dX8_burntShare_0 rfl rfl ?_
  refine x_iconst (pc := 1) C 0 dX8_burntShare_1 ki_0 ?_
  refine pf_X8_33 (pc := 2) C   hF dX8_burntShare_2 (fun w1 hF => ?_)
  refine x_aload_n (pc := 5) C 0 dX8_burntShare_5 rfl rfl ?_
  refine cV1_0 (pc := 6) (val := Value.double) C hF (fun _ _ h => c_X8_shareOfBurnt l G b  h) vm_X8_shareOfBurnt wq1245 rfl rfl ⟨Nat.le_of_ble_eq_true rfl, Nat.le_of_ble_eq_true rfl⟩ rfl rfl (fun _ h => CW.md h) (Nat.le_of_ble_eq_true rfl) ⟨Nat.le_refl _, Nat.le_refl _⟩ dX8_burntShare_6 (fun x3 w2 hF => ?_)
  obtain ⟨rfl, rfl⟩ := ret_eq hF
  exact x_dret (pc := 9) C hr rfl (fun _ h => h) dX8_burntShare_9
set_option maxRecDepth 4000 in
theorem c_X8_isInYard (l : Launch) (G : xG) (b : Nat)     (a1 : Int32) {w w' : xWt} {v : Int32} (hF : F_X8_isInYard a1 w = some (v, w')) : xMet l G b yX8_isInYard cX8_isInYard 2 (some .boolean) (xR 1) [.ref (mdb b), .int (a1)] (CW G b w) (some (.int v)) (CW G b w') 0 0 := by
  refine x_of (own := RX8) rfl (plainFor_of_name pn_X8) (Nat.le_of_ble_eq_true rfl) ?_
  intro p e s m args below meth c ha C hr _
  unfold F_X8_isInYard at hF
  refine x_aload_n (pc := 0) C 0 dX8_isInYard_0 rfl rfl ?_
  refine x_iload_n (pc := 1) C 1 dX8_isInYard_1 rfl rfl ?_
  refine x_iconst (pc := 2) C 1 dX8_isInYard_2 ki_1 ?_
  refine cV1_2 (pc := 3) (val := Value.int) C hF (fun _ _ h => c_X8_ofChild l G b  _ _ h) vm_X8_ofChild wq221 rfl rfl ⟨Nat.le_of_ble_eq_true rfl, Nat.le_of_ble_eq_true rfl⟩ rfl rfl (fun _ h => CW.md h) (Nat.le_of_ble_eq_true rfl) ⟨Nat.le_refl _, Nat.le_refl _⟩ dX8_isInYard_3 (fun x2 w1 hF => ?_)
  refine x_iconst (pc := 6) C 1 dX8_isInYard_6 ki_1 ?_
  refine x_icmp_ne (pc := 7) C 14 dX8_isInYard_7 rfl hF (fun c3 hF => ?_) (fun c3 hF => ?_)
  · refine x_iconst (pc := 14) C 0 dX8_isInYard_14 ki_0 ?_
    obtain ⟨rfl, rfl⟩ := ret_eq hF
    exact x_zret (pc := 15) C rfl hr rfl (fun _ h => h) dX8_isInYard_15
  · refine x_iconst (pc := 10) C 1 dX8_isInYard_10 ki_1 ?_
    refine x_goto (pc := 11) C 15 dX8_isInYard_11 rfl ?_
    obtain ⟨rfl, rfl⟩ := ret_eq hF
    exact x_zret (pc := 15) C rfl hr rfl (fun _ h => h) dX8_isInYard_15
set_option maxRecDepth 4000 in
theorem s_X8_lateOnes_4 (C : xC p m c s args meth G b cX8_lateOnes 3 RX8)    : ∀ (n9 : Nat) (l1 : Int32) (l2 : Int32) (w : xWt) (o : (Int32 × Int32)) (w' : xWt), L_X8_lateOnes_4  n9 l1 l2 w = some (o, w') → xW p l e (xR 2) s m args below meth c Q b 3 (CW G b w') 0 0 48 [(0, .ref (mdb b)), (1, .int (o.1)), (2, .int (o.2))] [] → xW p l e (xR 2) s m args below meth c Q b 3 (CW G b w) 0 0 4 [(0, .ref (mdb b)), (1, .int (l1)), (2, .int (l2))] [] := by
  intro n9
  induction n9 with
  | zero => intro l1 l2 w o w' hF; exact none_ne (show none = some _ from hF)
  | succ n9 ih =>
    intro l1 l2 w o w' hF kx
    replace hF : B_X8_lateOnes_4  (L_X8_lateOnes_4  n9) l1 l2 w = some (o, w') := hF
    unfold B_X8_lateOnes_4 at hF
    refine x_iload_n (pc := 4) C 2 dX8_lateOnes_4 rfl rfl ?_
    refine x_iconst (pc := 5) C 5 dX8_lateOnes_5 ki_5 ?_
    refine x_icmp_ge (pc := 6) C 48 dX8_lateOnes_6 rfl hF (fun c8 hF => ?_) (fun c8 hF => ?_)
    · obtain ⟨rfl, rfl⟩ := ret_eq hF
      exact x_sub [0, 1, 2] rfl kx
    · refine x_iload_n (pc := 9) C 1 dX8_lateOnes_9 rfl rfl ?_
      refine x_aload_n (pc := 10) C 0 dX8_lateOnes_10 rfl rfl ?_
      refine x_iload_n (pc := 11) C 2 dX8_lateOnes_11 rfl rfl ?_
      refine cV1_1 (pc := 12) (val := Value.int) C hF (fun _ _ h => c_X8_isInYard l G b  _ h) vm_X8_isInYard wq359 rfl rfl ⟨Nat.le_of_ble_eq_true rfl, Nat.le_of_ble_eq_true rfl⟩ rfl rfl (fun _ h => CW.md h) (Nat.le_of_ble_eq_true rfl) ⟨Nat.le_refl _, Nat.le_refl _⟩ dX8_lateOnes_12 (fun x2 w1 hF => ?_)
      refine x_if_eq (pc := 15) C 39 dX8_lateOnes_15 rfl hF (fun c7 hF => ?_) (fun c7 hF => ?_)
      · refine x_iconst (pc := 39) C 0 dX8_lateOnes_39 ki_0 ?_
        refine x_ior (pc := 40) C dX8_lateOnes_40 ?_
        refine x_istore_n (pc := 41) C [(1, .int ((l1 ||| 0))), (0, .ref (mdb b)), (2, .int (l2))] dX8_lateOnes_41 rfl (by decide) rfl ?_
        refine x_iinc (pc := 42) C 2 [(2, .int ((l2 + 1))), (1, .int ((l1 ||| 0))), (0, .ref (mdb b))] dX8_lateOnes_42 rfl rfl (by decide) rfl ?_
        refine x_goto (pc := 45) C 4 dX8_lateOnes_45 rfl ?_
        exact x_sub [2, 1, 0] rfl (ih _ _ _ _ _ hF kx)
      · refine x_aload_n (pc := 18) C 0 dX8_lateOnes_18 rfl rfl ?_
        refine x_iload_n (pc := 19) C 2 dX8_lateOnes_19 rfl rfl ?_
        refine x_iconst (pc := 20) C 2 dX8_lateOnes_20 ki_2 ?_
        refine cV1_2 (pc := 21) (val := Value.int) C hF (fun _ _ h => c_X8_ofChild l G b  _ _ h) vm_X8_ofChild wq221 rfl rfl ⟨Nat.le_of_ble_eq_true rfl, Nat.le_of_ble_eq_true rfl⟩ rfl rfl (fun _ h => CW.md h) (Nat.le_of_ble_eq_true rfl) ⟨Nat.le_refl _, Nat.le_refl _⟩ dX8_lateOnes_21 (fun x4 w3 hF => ?_)
        refine x_aload_n (pc := 24) C 0 dX8_lateOnes_24 rfl rfl ?_
        refine gf_X8_7 (pc := 25) C  dX8_lateOnes_25 ?_
        refine x_iconst (pc := 28) C 0 dX8_lateOnes_28 ki_0 ?_
        refine w_ald (pc := 29) C (vA_m 0 (by decide)) hF dX8_lateOnes_29 (fun x5 hF => ?_)
        refine x_icmp_eq (pc := 30) C 39 dX8_lateOnes_30 rfl hF (fun c6 hF => ?_) (fun c6 hF => ?_)
        · refine x_iconst (pc := 39) C 0 dX8_lateOnes_39 ki_0 ?_
          refine x_ior (pc := 40) C dX8_lateOnes_40 ?_
          refine x_istore_n (pc := 41) C [(1, .int ((l1 ||| 0))), (0, .ref (mdb b)), (2, .int (l2))] dX8_lateOnes_41 rfl (by decide) rfl ?_
          refine x_iinc (pc := 42) C 2 [(2, .int ((l2 + 1))), (1, .int ((l1 ||| 0))), (0, .ref (mdb b))] dX8_lateOnes_42 rfl rfl (by decide) rfl ?_
          refine x_goto (pc := 45) C 4 dX8_lateOnes_45 rfl ?_
          exact x_sub [2, 1, 0] rfl (ih _ _ _ _ _ hF kx)
        · refine x_iconst (pc := 33) C 1 dX8_lateOnes_33 ki_1 ?_
          refine x_iload_n (pc := 34) C 2 dX8_lateOnes_34 rfl rfl ?_
          refine x_ishl (pc := 35) C dX8_lateOnes_35 ?_
          refine x_goto (pc := 36) C 40 dX8_lateOnes_36 rfl ?_
          refine x_ior (pc := 40) C dX8_lateOnes_40 ?_
          refine x_istore_n (pc := 41) C [(1, .int ((l1 ||| (1 <<< (l2 &&& 31))))), (0, .ref (mdb b)), (2, .int (l2))] dX8_lateOnes_41 rfl (by decide) rfl ?_
          refine x_iinc (pc := 42) C 2 [(2, .int ((l2 + 1))), (1, .int ((l1 ||| (1 <<< (l2 &&& 31))))), (0, .ref (mdb b))] dX8_lateOnes_42 rfl rfl (by decide) rfl ?_
          refine x_goto (pc := 45) C 4 dX8_lateOnes_45 rfl ?_
          exact x_sub [2, 1, 0] rfl (ih _ _ _ _ _ hF kx)
set_option maxRecDepth 4000 in
theorem c_X8_lateOnes (l : Launch) (G : xG) (b : Nat)      {w w' : xWt} {v : Int32} (hF : F_X8_lateOnes  w = some (v, w')) : xMet l G b yX8_lateOnes cX8_lateOnes 3 (some .int) (xR 2) [.ref (mdb b)] (CW G b w) (some (.int v)) (CW G b w') 0 0 := by
  refine x_of (own := RX8) rfl (plainFor_of_name pn_X8) (Nat.le_of_ble_eq_true rfl) ?_
  intro p e s m args below meth c ha C hr _
  unfold F_X8_lateOnes at hF
  refine x_iconst (pc := 0) C 0 dX8_lateOnes_0 ki_0 ?_
  refine x_istore_n (pc := 1) C [(1, .int (0)), (0, .ref (mdb b))] dX8_lateOnes_1 rfl (by decide) rfl ?_
  refine x_iconst (pc := 2) C 0 dX8_lateOnes_2 ki_0 ?_
  refine x_istore_n (pc := 3) C [(2, .int (0)), (1, .int (0)), (0, .ref (mdb b))] dX8_lateOnes_3 rfl (by decide) rfl ?_
  obtain ⟨o9, w10, hL, hF⟩ := bd_some hF
  refine x_sub [2, 1, 0] rfl (s_X8_lateOnes_4 C  _ _ _ _ _ _ hL ?_)
  refine x_iload_n (pc := 48) C 1 dX8_lateOnes_48 rfl rfl ?_
  obtain ⟨rfl, rfl⟩ := ret_eq hF
  exact x_iret (pc := 49) C hr rfl (fun _ h => h) dX8_lateOnes_49
set_option maxRecDepth 4000 in
theorem c_X8_isChild (l : Launch) (G : xG) (b : Nat)     (a1 : Int32) {w w' : xWt} {v : Int32} (hF : F_X8_isChild a1 w = some (v, w')) : xMet l G b yX8_isChild cX8_isChild 2 (some .boolean) (xR 1) [.ref (mdb b), .int (a1)] (CW G b w) (some (.int v)) (CW G b w') 0 0 := by
  refine x_of (own := RX8) rfl (plainFor_of_name pn_X8) (Nat.le_of_ble_eq_true rfl) ?_
  intro p e s m args below meth c ha C hr _
  unfold F_X8_isChild at hF
  refine x_iload_n (pc := 0) C 1 dX8_isChild_0 rfl rfl ?_
  refine x_iconst (pc := 1) C 0 dX8_isChild_1 ki_0 ?_
  refine x_iconst (pc := 2) C 4 dX8_isChild_2 ki_4 ?_
  refine cS1_3 (pc := 3) (val := Value.int) C hF (fun _ _ h => c_X8_in l G b  _ _ _ h) sm_X8_in wq307 rfl rfl ⟨Nat.le_of_ble_eq_true rfl, Nat.le_of_ble_eq_true rfl⟩ (Nat.le_of_ble_eq_true rfl) ⟨Nat.le_refl _, Nat.le_refl _⟩ dX8_isChild_3 (fun x2 w1 hF => ?_)
  refine x_if_eq (pc := 6) C 23 dX8_isChild_6 rfl hF (fun c6 hF => ?_) (fun c6 hF => ?_)
  · refine x_iconst (pc := 23) C 0 dX8_isChild_23 ki_0 ?_
    obtain ⟨rfl, rfl⟩ := ret_eq hF
    exact x_zret (pc := 24) C rfl hr rfl (fun _ h => h) dX8_isChild_24
  · refine x_aload_n (pc := 9) C 0 dX8_isChild_9 rfl rfl ?_
    refine x_iload_n (pc := 10) C 1 dX8_isChild_10 rfl rfl ?_
    refine x_iconst (pc := 11) C 0 dX8_isChild_11 ki_0 ?_
    refine cV1_2 (pc := 12) (val := Value.int) C hF (fun _ _ h => c_X8_ofChild l G b  _ _ h) vm_X8_ofChild wq221 rfl rfl ⟨Nat.le_of_ble_eq_true rfl, Nat.le_of_ble_eq_true rfl⟩ rfl rfl (fun _ h => CW.md h) (Nat.le_of_ble_eq_true rfl) ⟨Nat.le_refl _, Nat.le_refl _⟩ dX8_isChild_12 (fun x4 w3 hF => ?_)
    refine x_iconst (pc := 15) C 1 dX8_isChild_15 ki_1 ?_
    refine x_icmp_ne (pc := 16) C 23 dX8_isChild_16 rfl hF (fun c5 hF => ?_) (fun c5 hF => ?_)
    · refine x_iconst (pc := 23) C 0 dX8_isChild_23 ki_0 ?_
      obtain ⟨rfl, rfl⟩ := ret_eq hF
      exact x_zret (pc := 24) C rfl hr rfl (fun _ h => h) dX8_isChild_24
    · refine x_iconst (pc := 19) C 1 dX8_isChild_19 ki_1 ?_
      refine x_goto (pc := 20) C 24 dX8_isChild_20 rfl ?_
      obtain ⟨rfl, rfl⟩ := ret_eq hF
      exact x_zret (pc := 24) C rfl hr rfl (fun _ h => h) dX8_isChild_24
set_option maxRecDepth 4000 in
theorem c_X8_whyNotEnter (l : Launch) (G : xG) (b : Nat)     (a1 : Int32) {w w' : xWt} {v : Int32} (hF : F_X8_whyNotEnter a1 w = some (v, w')) : xMet l G b yX8_whyNotEnter cX8_whyNotEnter 2 (some .int) (xR 2) [.ref (mdb b), .int (a1)] (CW G b w) (some (.int v)) (CW G b w') 0 0 := by
  refine x_of (own := RX8) rfl (plainFor_of_name pn_X8) (Nat.le_of_ble_eq_true rfl) ?_
  intro p e s m args below meth c ha C hr _
  unfold F_X8_whyNotEnter at hF
  refine x_aload_n (pc := 0) C 0 dX8_whyNotEnter_0 rfl rfl ?_
  refine x_iload_n (pc := 1) C 1 dX8_whyNotEnter_1 rfl rfl ?_
  refine cV1_1 (pc := 2) (val := Value.int) C hF (fun _ _ h => c_X8_isChild l G b  _ h) vm_X8_isChild wq303 rfl rfl ⟨Nat.le_of_ble_eq_true rfl, Nat.le_of_ble_eq_true rfl⟩ rfl rfl (fun _ h => CW.md h) (Nat.le_of_ble_eq_true rfl) ⟨Nat.le_refl _, Nat.le_refl _⟩ dX8_whyNotEnter_2 (fun x2 w1 hF => ?_)
  refine x_if_ne (pc := 5) C 12 dX8_whyNotEnter_5 rfl hF (fun c6 hF => ?_) (fun c6 hF => ?_)
  · refine x_aload_n (pc := 12) C 0 dX8_whyNotEnter_12 rfl rfl ?_
    refine x_iload_n (pc := 13) C 1 dX8_whyNotEnter_13 rfl rfl ?_
    refine cV1_1 (pc := 14) (val := Value.int) C hF (fun _ _ h => c_X8_isInYard l G b  _ h) vm_X8_isInYard wq359 rfl rfl ⟨Nat.le_of_ble_eq_true rfl, Nat.le_of_ble_eq_true rfl⟩ rfl rfl (fun _ h => CW.md h) (Nat.le_of_ble_eq_true rfl) ⟨Nat.le_refl _, Nat.le_refl _⟩ dX8_whyNotEnter_14 (fun x4 w3 hF => ?_)
    refine x_if_eq (pc := 17) C 24 dX8_whyNotEnter_17 rfl hF (fun c5 hF => ?_) (fun c5 hF => ?_)
    · refine x_iconst (pc := 24) C 0 dX8_whyNotEnter_24 ki_0 ?_
      obtain ⟨rfl, rfl⟩ := ret_eq hF
      exact x_iret (pc := 25) C hr rfl (fun _ h => h) dX8_whyNotEnter_25
    · refine x_iconst (pc := 20) C 2 dX8_whyNotEnter_20 ki_2 ?_
      refine x_goto (pc := 21) C 25 dX8_whyNotEnter_21 rfl ?_
      obtain ⟨rfl, rfl⟩ := ret_eq hF
      exact x_iret (pc := 25) C hr rfl (fun _ h => h) dX8_whyNotEnter_25
  · refine x_iconst (pc := 8) C 1 dX8_whyNotEnter_8 ki_1 ?_
    refine x_goto (pc := 9) C 25 dX8_whyNotEnter_9 rfl ?_
    obtain ⟨rfl, rfl⟩ := ret_eq hF
    exact x_iret (pc := 25) C hr rfl (fun _ h => h) dX8_whyNotEnter_25
set_option maxRecDepth 4000 in
theorem c_X8_isColour (l : Launch) (G : xG) (b : Nat)     (a1 : Int32) {w w' : xWt} {v : Int32} (hF : F_X8_isColour a1 w = some (v, w')) : xMet l G b yX8_isColour cX8_isColour 1 (some .boolean) (xR 1) [.int (a1)] (CW G b w) (some (.int v)) (CW G b w') 0 0 := by
  refine x_of (own := RX8) rfl (plainFor_of_name pn_X8) (Nat.le_of_ble_eq_true rfl) ?_
  intro p e s m args below meth c ha C hr _
  unfold F_X8_isColour at hF
  refine x_iload_n (pc := 0) C 0 dX8_isColour_0 rfl rfl ?_
  refine x_iconst (pc := 1) C 0 dX8_isColour_1 ki_0 ?_
  refine x_bipush (pc := 2) C 9 dX8_isColour_2 kb_9 ?_
  refine cS1_3 (pc := 4) (val := Value.int) C hF (fun _ _ h => c_X8_in l G b  _ _ _ h) sm_X8_in wq307 rfl rfl ⟨Nat.le_of_ble_eq_true rfl, Nat.le_of_ble_eq_true rfl⟩ (Nat.le_of_ble_eq_true rfl) ⟨Nat.le_refl _, Nat.le_refl _⟩ dX8_isColour_4 (fun x2 w1 hF => ?_)
  obtain ⟨hz, hF⟩ := zr_some hF
  obtain ⟨rfl, rfl⟩ := ret_eq hF
  exact x_zret (pc := 7) C (bool_ok hz) hr rfl (fun _ h => h) dX8_isColour_7
set_option maxRecDepth 4000 in
theorem c_X8_whyNotGrow (l : Launch) (G : xG) (b : Nat)     (a1 : Int32) (a2 : Int32) {w w' : xWt} {v : Int32} (hF : F_X8_whyNotGrow a1 a2 w = some (v, w')) : xMet l G b yX8_whyNotGrow cX8_whyNotGrow 3 (some .int) (xR 2) [.ref (mdb b), .int (a1), .int (a2)] (CW G b w) (some (.int v)) (CW G b w') 0 0 := by
  refine x_of (own := RX8) rfl (plainFor_of_name pn_X8) (Nat.le_of_ble_eq_true rfl) ?_
  intro p e s m args below meth c ha C hr _
  unfold F_X8_whyNotGrow at hF
  refine x_iload_n (pc := 0) C 1 dX8_whyNotGrow_0 rfl rfl ?_
  refine cS1_1 (pc := 1) (val := Value.int) C hF (fun _ _ h => c_X8_isBranch l G b  _ h) sm_X8_isBranch wq475 rfl rfl ⟨Nat.le_of_ble_eq_true rfl, Nat.le_of_ble_eq_true rfl⟩ (Nat.le_of_ble_eq_true rfl) ⟨Nat.le_refl _, Nat.le_refl _⟩ dX8_whyNotGrow_1 (fun x2 w1 hF => ?_)
  refine x_if_ne (pc := 4) C 9 dX8_whyNotGrow_4 rfl hF (fun c10 hF => ?_) (fun c10 hF => ?_)
  · refine x_iload_n (pc := 9) C 2 dX8_whyNotGrow_9 rfl rfl ?_
    refine cS1_1 (pc := 10) (val := Value.int) C hF (fun _ _ h => c_X8_isColour l G b  _ h) sm_X8_isColour wq478 rfl rfl ⟨Nat.le_of_ble_eq_true rfl, Nat.le_of_ble_eq_true rfl⟩ (Nat.le_of_ble_eq_true rfl) ⟨Nat.le_refl _, Nat.le_refl _⟩ dX8_whyNotGrow_10 (fun x4 w3 hF => ?_)
    refine x_if_ne (pc := 13) C 18 dX8_whyNotGrow_13 rfl hF (fun c9 hF => ?_) (fun c9 hF => ?_)
    · refine x_aload_n (pc := 18) C 0 dX8_whyNotGrow_18 rfl rfl ?_
      refine gf_X8_7 (pc := 19) C  dX8_whyNotGrow_19 ?_
      refine x_bipush (pc := 22) C 10 dX8_whyNotGrow_22 kb_10 ?_
      refine x_iload_n (pc := 24) C 1 dX8_whyNotGrow_24 rfl rfl ?_
      refine x_iadd (pc := 25) C dX8_whyNotGrow_25 ?_
      refine w_ald (pc := 26) C (vA_m 0 (by decide)) hF dX8_whyNotGrow_26 (fun x5 hF => ?_)
      refine x_if_ge (pc := 27) C 41 dX8_whyNotGrow_27 rfl hF (fun c8 hF => ?_) (fun c8 hF => ?_)
      · refine x_iconst (pc := 41) C 3 dX8_whyNotGrow_41 ki_3 ?_
        refine x_goto (pc := 42) C 46 dX8_whyNotGrow_42 rfl ?_
        obtain ⟨rfl, rfl⟩ := ret_eq hF
        exact x_iret (pc := 46) C hr rfl (fun _ h => h) dX8_whyNotGrow_46
      · refine x_aload_n (pc := 30) C 0 dX8_whyNotGrow_30 rfl rfl ?_
        refine gf_X8_7 (pc := 31) C  dX8_whyNotGrow_31 ?_
        refine x_iconst (pc := 34) C 1 dX8_whyNotGrow_34 ki_1 ?_
        refine w_ald (pc := 35) C (vA_m 0 (by decide)) hF dX8_whyNotGrow_35 (fun x6 hF => ?_)
        refine x_bipush (pc := 36) C 120 dX8_whyNotGrow_36 kb_120 ?_
        refine x_icmp_ne (pc := 38) C 45 dX8_whyNotGrow_38 rfl hF (fun c7 hF => ?_) (fun c7 hF => ?_)
        · refine x_iconst (pc := 45) C 0 dX8_whyNotGrow_45 ki_0 ?_
          obtain ⟨rfl, rfl⟩ := ret_eq hF
          exact x_iret (pc := 46) C hr rfl (fun _ h => h) dX8_whyNotGrow_46
        · refine x_iconst (pc := 41) C 3 dX8_whyNotGrow_41 ki_3 ?_
          refine x_goto (pc := 42) C 46 dX8_whyNotGrow_42 rfl ?_
          obtain ⟨rfl, rfl⟩ := ret_eq hF
          exact x_iret (pc := 46) C hr rfl (fun _ h => h) dX8_whyNotGrow_46
    · refine x_iconst (pc := 16) C 2 dX8_whyNotGrow_16 ki_2 ?_
      obtain ⟨rfl, rfl⟩ := ret_eq hF
      exact x_iret (pc := 17) C hr rfl (fun _ h => h) dX8_whyNotGrow_17
  · refine x_iconst (pc := 7) C 1 dX8_whyNotGrow_7 ki_1 ?_
    obtain ⟨rfl, rfl⟩ := ret_eq hF
    exact x_iret (pc := 8) C hr rfl (fun _ h => h) dX8_whyNotGrow_8
set_option maxRecDepth 4000 in
theorem c_X8_isHook (l : Launch) (G : xG) (b : Nat)     (a1 : Int32) {w w' : xWt} {v : Int32} (hF : F_X8_isHook a1 w = some (v, w')) : xMet l G b yX8_isHook cX8_isHook 1 (some .boolean) (xR 1) [.int (a1)] (CW G b w) (some (.int v)) (CW G b w') 0 0 := by
  refine x_of (own := RX8) rfl (plainFor_of_name pn_X8) (Nat.le_of_ble_eq_true rfl) ?_
  intro p e s m args below meth c ha C hr _
  unfold F_X8_isHook at hF
  refine x_iload_n (pc := 0) C 0 dX8_isHook_0 rfl rfl ?_
  refine x_iconst (pc := 1) C 0 dX8_isHook_1 ki_0 ?_
  refine x_iconst (pc := 2) C 2 dX8_isHook_2 ki_2 ?_
  refine cS1_3 (pc := 3) (val := Value.int) C hF (fun _ _ h => c_X8_in l G b  _ _ _ h) sm_X8_in wq307 rfl rfl ⟨Nat.le_of_ble_eq_true rfl, Nat.le_of_ble_eq_true rfl⟩ (Nat.le_of_ble_eq_true rfl) ⟨Nat.le_refl _, Nat.le_refl _⟩ dX8_isHook_3 (fun x2 w1 hF => ?_)
  obtain ⟨hz, hF⟩ := zr_some hF
  obtain ⟨rfl, rfl⟩ := ret_eq hF
  exact x_zret (pc := 6) C (bool_ok hz) hr rfl (fun _ h => h) dX8_isHook_6
set_option maxRecDepth 4000 in
theorem c_X8_whyNotNote (l : Launch) (G : xG) (b : Nat)     (a1 : Int32) (a2 : Int32) (a3 : Int32) {w w' : xWt} {v : Int32} (hF : F_X8_whyNotNote a1 a2 a3 w = some (v, w')) : xMet l G b yX8_whyNotNote cX8_whyNotNote 4 (some .int) (xR 2) [.ref (mdb b), .int (a1), .int (a2), .int (a3)] (CW G b w) (some (.int v)) (CW G b w') 0 0 := by
  refine x_of (own := RX8) rfl (plainFor_of_name pn_X8) (Nat.le_of_ble_eq_true rfl) ?_
  intro p e s m args below meth c ha C hr _
  unfold F_X8_whyNotNote at hF
  refine x_aload_n (pc := 0) C 0 dX8_whyNotNote_0 rfl rfl ?_
  refine x_iload_n (pc := 1) C 1 dX8_whyNotNote_1 rfl rfl ?_
  refine cV1_1 (pc := 2) (val := Value.int) C hF (fun _ _ h => c_X8_isChild l G b  _ h) vm_X8_isChild wq303 rfl rfl ⟨Nat.le_of_ble_eq_true rfl, Nat.le_of_ble_eq_true rfl⟩ rfl rfl (fun _ h => CW.md h) (Nat.le_of_ble_eq_true rfl) ⟨Nat.le_refl _, Nat.le_refl _⟩ dX8_whyNotNote_2 (fun x2 w1 hF => ?_)
  refine x_if_eq (pc := 5) C 22 dX8_whyNotNote_5 rfl hF (fun c17 hF => ?_) (fun c17 hF => ?_)
  · refine x_iconst (pc := 22) C 1 dX8_whyNotNote_22 ki_1 ?_
    obtain ⟨rfl, rfl⟩ := ret_eq hF
    exact x_iret (pc := 23) C hr rfl (fun _ h => h) dX8_whyNotNote_23
  · refine x_iload_n (pc := 8) C 2 dX8_whyNotNote_8 rfl rfl ?_
    refine cS1_1 (pc := 9) (val := Value.int) C hF (fun _ _ h => c_X8_isHook l G b  _ h) sm_X8_isHook wq521 rfl rfl ⟨Nat.le_of_ble_eq_true rfl, Nat.le_of_ble_eq_true rfl⟩ (Nat.le_of_ble_eq_true rfl) ⟨Nat.le_refl _, Nat.le_refl _⟩ dX8_whyNotNote_9 (fun x4 w3 hF => ?_)
    refine x_if_eq (pc := 12) C 22 dX8_whyNotNote_12 rfl hF (fun c16 hF => ?_) (fun c16 hF => ?_)
    · refine x_iconst (pc := 22) C 1 dX8_whyNotNote_22 ki_1 ?_
      obtain ⟨rfl, rfl⟩ := ret_eq hF
      exact x_iret (pc := 23) C hr rfl (fun _ h => h) dX8_whyNotNote_23
    · refine x_iload_n (pc := 15) C 3 dX8_whyNotNote_15 rfl rfl ?_
      refine cS1_1 (pc := 16) (val := Value.int) C hF (fun _ _ h => c_X8_isBranch l G b  _ h) sm_X8_isBranch wq475 rfl rfl ⟨Nat.le_of_ble_eq_true rfl, Nat.le_of_ble_eq_true rfl⟩ (Nat.le_of_ble_eq_true rfl) ⟨Nat.le_refl _, Nat.le_refl _⟩ dX8_whyNotNote_16 (fun x6 w5 hF => ?_)
      refine x_if_ne (pc := 19) C 24 dX8_whyNotNote_19 rfl hF (fun c15 hF => ?_) (fun c15 hF => ?_)
      · refine x_aload_n (pc := 24) C 0 dX8_whyNotNote_24 rfl rfl ?_
        refine x_iload_n (pc := 25) C 1 dX8_whyNotNote_25 rfl rfl ?_
        refine cV1_1 (pc := 26) (val := Value.int) C hF (fun _ _ h => c_X8_isInYard l G b  _ h) vm_X8_isInYard wq359 rfl rfl ⟨Nat.le_of_ble_eq_true rfl, Nat.le_of_ble_eq_true rfl⟩ rfl rfl (fun _ h => CW.md h) (Nat.le_of_ble_eq_true rfl) ⟨Nat.le_refl _, Nat.le_refl _⟩ dX8_whyNotNote_26 (fun x8 w7 hF => ?_)
        refine x_if_eq (pc := 29) C 54 dX8_whyNotNote_29 rfl hF (fun c14 hF => ?_) (fun c14 hF => ?_)
        · refine x_iconst (pc := 54) C 2 dX8_whyNotNote_54 ki_2 ?_
          refine x_goto (pc := 55) C 59 dX8_whyNotNote_55 rfl ?_
          obtain ⟨rfl, rfl⟩ := ret_eq hF
          exact x_iret (pc := 59) C hr rfl (fun _ h => h) dX8_whyNotNote_59
        · refine x_aload_n (pc := 32) C 0 dX8_whyNotNote_32 rfl rfl ?_
          refine x_iload_n (pc := 33) C 1 dX8_whyNotNote_33 rfl rfl ?_
          refine x_iload_n (pc := 34) C 2 dX8_whyNotNote_34 rfl rfl ?_
          refine x_iconst (pc := 35) C 0 dX8_whyNotNote_35 ki_0 ?_
          refine cV1_3 (pc := 36) (val := Value.int) C hF (fun _ _ h => c_X8_ofHook l G b  _ _ _ h) vm_X8_ofHook wq403 rfl rfl ⟨Nat.le_of_ble_eq_true rfl, Nat.le_of_ble_eq_true rfl⟩ rfl rfl (fun _ h => CW.md h) (Nat.le_of_ble_eq_true rfl) ⟨Nat.le_refl _, Nat.le_refl _⟩ dX8_whyNotNote_36 (fun x10 w9 hF => ?_)
          refine x_if_ne (pc := 39) C 54 dX8_whyNotNote_39 rfl hF (fun c13 hF => ?_) (fun c13 hF => ?_)
          · refine x_iconst (pc := 54) C 2 dX8_whyNotNote_54 ki_2 ?_
            refine x_goto (pc := 55) C 59 dX8_whyNotNote_55 rfl ?_
            obtain ⟨rfl, rfl⟩ := ret_eq hF
            exact x_iret (pc := 59) C hr rfl (fun _ h => h) dX8_whyNotNote_59
          · refine x_aload_n (pc := 42) C 0 dX8_whyNotNote_42 rfl rfl ?_
            refine gf_X8_7 (pc := 43) C  dX8_whyNotNote_43 ?_
            refine x_bipush (pc := 46) C 10 dX8_whyNotNote_46 kb_10 ?_
            refine x_iload_n (pc := 48) C 3 dX8_whyNotNote_48 rfl rfl ?_
            refine x_iadd (pc := 49) C dX8_whyNotNote_49 ?_
            refine w_ald (pc := 50) C (vA_m 0 (by decide)) hF dX8_whyNotNote_50 (fun x11 hF => ?_)
            refine x_if_ge (pc := 51) C 58 dX8_whyNotNote_51 rfl hF (fun c12 hF => ?_) (fun c12 hF => ?_)
            · refine x_iconst (pc := 58) C 0 dX8_whyNotNote_58 ki_0 ?_
              obtain ⟨rfl, rfl⟩ := ret_eq hF
              exact x_iret (pc := 59) C hr rfl (fun _ h => h) dX8_whyNotNote_59
            · refine x_iconst (pc := 54) C 2 dX8_whyNotNote_54 ki_2 ?_
              refine x_goto (pc := 55) C 59 dX8_whyNotNote_55 rfl ?_
              obtain ⟨rfl, rfl⟩ := ret_eq hF
              exact x_iret (pc := 59) C hr rfl (fun _ h => h) dX8_whyNotNote_59
      · refine x_iconst (pc := 22) C 1 dX8_whyNotNote_22 ki_1 ?_
        obtain ⟨rfl, rfl⟩ := ret_eq hF
        exact x_iret (pc := 23) C hr rfl (fun _ h => h) dX8_whyNotNote_23
set_option maxRecDepth 4000 in
theorem c_X8_whyNotPin (l : Launch) (G : xG) (b : Nat)     (a1 : Int32) (a2 : Int32) {w w' : xWt} {v : Int32} (hF : F_X8_whyNotPin a1 a2 w = some (v, w')) : xMet l G b yX8_whyNotPin cX8_whyNotPin 3 (some .int) (xR 2) [.ref (mdb b), .int (a1), .int (a2)] (CW G b w) (some (.int v)) (CW G b w') 0 0 := by
  refine x_of (own := RX8) rfl (plainFor_of_name pn_X8) (Nat.le_of_ble_eq_true rfl) ?_
  intro p e s m args below meth c ha C hr _
  unfold F_X8_whyNotPin at hF
  refine x_aload_n (pc := 0) C 0 dX8_whyNotPin_0 rfl rfl ?_
  refine x_iload_n (pc := 1) C 1 dX8_whyNotPin_1 rfl rfl ?_
  refine cV1_1 (pc := 2) (val := Value.int) C hF (fun _ _ h => c_X8_isChild l G b  _ h) vm_X8_isChild wq303 rfl rfl ⟨Nat.le_of_ble_eq_true rfl, Nat.le_of_ble_eq_true rfl⟩ rfl rfl (fun _ h => CW.md h) (Nat.le_of_ble_eq_true rfl) ⟨Nat.le_refl _, Nat.le_refl _⟩ dX8_whyNotPin_2 (fun x2 w1 hF => ?_)
  refine x_if_eq (pc := 5) C 15 dX8_whyNotPin_5 rfl hF (fun c9 hF => ?_) (fun c9 hF => ?_)
  · refine x_iconst (pc := 15) C 1 dX8_whyNotPin_15 ki_1 ?_
    refine x_goto (pc := 16) C 35 dX8_whyNotPin_16 rfl ?_
    obtain ⟨rfl, rfl⟩ := ret_eq hF
    exact x_iret (pc := 35) C hr rfl (fun _ h => h) dX8_whyNotPin_35
  · refine x_iload_n (pc := 8) C 2 dX8_whyNotPin_8 rfl rfl ?_
    refine cS1_1 (pc := 9) (val := Value.int) C hF (fun _ _ h => c_X8_isHook l G b  _ h) sm_X8_isHook wq521 rfl rfl ⟨Nat.le_of_ble_eq_true rfl, Nat.le_of_ble_eq_true rfl⟩ (Nat.le_of_ble_eq_true rfl) ⟨Nat.le_refl _, Nat.le_refl _⟩ dX8_whyNotPin_9 (fun x4 w3 hF => ?_)
    refine x_if_ne (pc := 12) C 19 dX8_whyNotPin_12 rfl hF (fun c8 hF => ?_) (fun c8 hF => ?_)
    · refine x_aload_n (pc := 19) C 0 dX8_whyNotPin_19 rfl rfl ?_
      refine x_iload_n (pc := 20) C 1 dX8_whyNotPin_20 rfl rfl ?_
      refine x_iload_n (pc := 21) C 2 dX8_whyNotPin_21 rfl rfl ?_
      refine x_iconst (pc := 22) C 0 dX8_whyNotPin_22 ki_0 ?_
      refine cV1_3 (pc := 23) (val := Value.int) C hF (fun _ _ h => c_X8_ofHook l G b  _ _ _ h) vm_X8_ofHook wq403 rfl rfl ⟨Nat.le_of_ble_eq_true rfl, Nat.le_of_ble_eq_true rfl⟩ rfl rfl (fun _ h => CW.md h) (Nat.le_of_ble_eq_true rfl) ⟨Nat.le_refl _, Nat.le_refl _⟩ dX8_whyNotPin_23 (fun x6 w5 hF => ?_)
      refine x_iconst (pc := 26) C 1 dX8_whyNotPin_26 ki_1 ?_
      refine x_icmp_ne (pc := 27) C 34 dX8_whyNotPin_27 rfl hF (fun c7 hF => ?_) (fun c7 hF => ?_)
      · refine x_iconst (pc := 34) C 2 dX8_whyNotPin_34 ki_2 ?_
        obtain ⟨rfl, rfl⟩ := ret_eq hF
        exact x_iret (pc := 35) C hr rfl (fun _ h => h) dX8_whyNotPin_35
      · refine x_iconst (pc := 30) C 0 dX8_whyNotPin_30 ki_0 ?_
        refine x_goto (pc := 31) C 35 dX8_whyNotPin_31 rfl ?_
        obtain ⟨rfl, rfl⟩ := ret_eq hF
        exact x_iret (pc := 35) C hr rfl (fun _ h => h) dX8_whyNotPin_35
    · refine x_iconst (pc := 15) C 1 dX8_whyNotPin_15 ki_1 ?_
      refine x_goto (pc := 16) C 35 dX8_whyNotPin_16 rfl ?_
      obtain ⟨rfl, rfl⟩ := ret_eq hF
      exact x_iret (pc := 35) C hr rfl (fun _ h => h) dX8_whyNotPin_35
set_option maxRecDepth 4000 in
theorem c_X8_whyNotRake (l : Launch) (G : xG) (b : Nat)     (a1 : Int32) {w w' : xWt} {v : Int32} (hF : F_X8_whyNotRake a1 w = some (v, w')) : xMet l G b yX8_whyNotRake cX8_whyNotRake 2 (some .int) (xR 3) [.ref (mdb b), .int (a1)] (CW G b w) (some (.int v)) (CW G b w') 0 0 := by
  refine x_of (own := RX8) rfl (plainFor_of_name pn_X8) (Nat.le_of_ble_eq_true rfl) ?_
  intro p e s m args below meth c ha C hr _
  unfold F_X8_whyNotRake at hF
  refine x_aload_n (pc := 0) C 0 dX8_whyNotRake_0 rfl rfl ?_
  refine x_iload_n (pc := 1) C 1 dX8_whyNotRake_1 rfl rfl ?_
  refine cV1_1 (pc := 2) (val := Value.int) C hF (fun _ _ h => c_X8_isChild l G b  _ h) vm_X8_isChild wq303 rfl rfl ⟨Nat.le_of_ble_eq_true rfl, Nat.le_of_ble_eq_true rfl⟩ rfl rfl (fun _ h => CW.md h) (Nat.le_of_ble_eq_true rfl) ⟨Nat.le_refl _, Nat.le_refl _⟩ dX8_whyNotRake_2 (fun x2 w1 hF => ?_)
  refine x_if_ne (pc := 5) C 12 dX8_whyNotRake_5 rfl hF (fun c6 hF => ?_) (fun c6 hF => ?_)
  · refine x_aload_n (pc := 12) C 0 dX8_whyNotRake_12 rfl rfl ?_
    refine x_iload_n (pc := 13) C 1 dX8_whyNotRake_13 rfl rfl ?_
    refine cV1_1 (pc := 14) (val := Value.int) C hF (fun _ _ h => c_X8_heapOf l G b  _ h) vm_X8_heapOf wq674 rfl rfl ⟨Nat.le_of_ble_eq_true rfl, Nat.le_of_ble_eq_true rfl⟩ rfl rfl (fun _ h => CW.md h) (Nat.le_of_ble_eq_true rfl) ⟨Nat.le_refl _, Nat.le_refl _⟩ dX8_whyNotRake_14 (fun x4 w3 hF => ?_)
    refine x_if_ne (pc := 17) C 24 dX8_whyNotRake_17 rfl hF (fun c5 hF => ?_) (fun c5 hF => ?_)
    · refine x_iconst (pc := 24) C 0 dX8_whyNotRake_24 ki_0 ?_
      obtain ⟨rfl, rfl⟩ := ret_eq hF
      exact x_iret (pc := 25) C hr rfl (fun _ h => h) dX8_whyNotRake_25
    · refine x_iconst (pc := 20) C 2 dX8_whyNotRake_20 ki_2 ?_
      refine x_goto (pc := 21) C 25 dX8_whyNotRake_21 rfl ?_
      obtain ⟨rfl, rfl⟩ := ret_eq hF
      exact x_iret (pc := 25) C hr rfl (fun _ h => h) dX8_whyNotRake_25
  · refine x_iconst (pc := 8) C 1 dX8_whyNotRake_8 ki_1 ?_
    refine x_goto (pc := 9) C 25 dX8_whyNotRake_9 rfl ?_
    obtain ⟨rfl, rfl⟩ := ret_eq hF
    exact x_iret (pc := 25) C hr rfl (fun _ h => h) dX8_whyNotRake_25
set_option maxRecDepth 4000 in
theorem c_X8_whyNotRest (l : Launch) (G : xG) (b : Nat)     (a1 : Int32) {w w' : xWt} {v : Int32} (hF : F_X8_whyNotRest a1 w = some (v, w')) : xMet l G b yX8_whyNotRest cX8_whyNotRest 2 (some .int) (xR 2) [.ref (mdb b), .int (a1)] (CW G b w) (some (.int v)) (CW G b w') 0 0 := by
  refine x_of (own := RX8) rfl (plainFor_of_name pn_X8) (Nat.le_of_ble_eq_true rfl) ?_
  intro p e s m args below meth c ha C hr _
  unfold F_X8_whyNotRest at hF
  refine x_aload_n (pc := 0) C 0 dX8_whyNotRest_0 rfl rfl ?_
  refine x_iload_n (pc := 1) C 1 dX8_whyNotRest_1 rfl rfl ?_
  refine cV1_1 (pc := 2) (val := Value.int) C hF (fun _ _ h => c_X8_isChild l G b  _ h) vm_X8_isChild wq303 rfl rfl ⟨Nat.le_of_ble_eq_true rfl, Nat.le_of_ble_eq_true rfl⟩ rfl rfl (fun _ h => CW.md h) (Nat.le_of_ble_eq_true rfl) ⟨Nat.le_refl _, Nat.le_refl _⟩ dX8_whyNotRest_2 (fun x2 w1 hF => ?_)
  refine x_if_ne (pc := 5) C 12 dX8_whyNotRest_5 rfl hF (fun c6 hF => ?_) (fun c6 hF => ?_)
  · refine x_aload_n (pc := 12) C 0 dX8_whyNotRest_12 rfl rfl ?_
    refine x_iload_n (pc := 13) C 1 dX8_whyNotRest_13 rfl rfl ?_
    refine cV1_1 (pc := 14) (val := Value.int) C hF (fun _ _ h => c_X8_isInYard l G b  _ h) vm_X8_isInYard wq359 rfl rfl ⟨Nat.le_of_ble_eq_true rfl, Nat.le_of_ble_eq_true rfl⟩ rfl rfl (fun _ h => CW.md h) (Nat.le_of_ble_eq_true rfl) ⟨Nat.le_refl _, Nat.le_refl _⟩ dX8_whyNotRest_14 (fun x4 w3 hF => ?_)
    refine x_if_eq (pc := 17) C 24 dX8_whyNotRest_17 rfl hF (fun c5 hF => ?_) (fun c5 hF => ?_)
    · refine x_iconst (pc := 24) C 2 dX8_whyNotRest_24 ki_2 ?_
      obtain ⟨rfl, rfl⟩ := ret_eq hF
      exact x_iret (pc := 25) C hr rfl (fun _ h => h) dX8_whyNotRest_25
    · refine x_iconst (pc := 20) C 0 dX8_whyNotRest_20 ki_0 ?_
      refine x_goto (pc := 21) C 25 dX8_whyNotRest_21 rfl ?_
      obtain ⟨rfl, rfl⟩ := ret_eq hF
      exact x_iret (pc := 25) C hr rfl (fun _ h => h) dX8_whyNotRest_25
  · refine x_iconst (pc := 8) C 1 dX8_whyNotRest_8 ki_1 ?_
    refine x_goto (pc := 9) C 25 dX8_whyNotRest_9 rfl ?_
    obtain ⟨rfl, rfl⟩ := ret_eq hF
    exact x_iret (pc := 25) C hr rfl (fun _ h => h) dX8_whyNotRest_25
set_option maxRecDepth 4000 in
theorem c_X8_whyNotSwap (l : Launch) (G : xG) (b : Nat)     (a1 : Int32) (a2 : Int32) (a3 : Int32) {w w' : xWt} {v : Int32} (hF : F_X8_whyNotSwap a1 a2 a3 w = some (v, w')) : xMet l G b yX8_whyNotSwap cX8_whyNotSwap 4 (some .int) (xR 2) [.ref (mdb b), .int (a1), .int (a2), .int (a3)] (CW G b w) (some (.int v)) (CW G b w') 0 0 := by
  refine x_of (own := RX8) rfl (plainFor_of_name pn_X8) (Nat.le_of_ble_eq_true rfl) ?_
  intro p e s m args below meth c ha C hr _
  unfold F_X8_whyNotSwap at hF
  refine x_aload_n (pc := 0) C 0 dX8_whyNotSwap_0 rfl rfl ?_
  refine x_iload_n (pc := 1) C 1 dX8_whyNotSwap_1 rfl rfl ?_
  refine cV1_1 (pc := 2) (val := Value.int) C hF (fun _ _ h => c_X8_isChild l G b  _ h) vm_X8_isChild wq303 rfl rfl ⟨Nat.le_of_ble_eq_true rfl, Nat.le_of_ble_eq_true rfl⟩ rfl rfl (fun _ h => CW.md h) (Nat.le_of_ble_eq_true rfl) ⟨Nat.le_refl _, Nat.le_refl _⟩ dX8_whyNotSwap_2 (fun x2 w1 hF => ?_)
  refine x_if_eq (pc := 5) C 15 dX8_whyNotSwap_5 rfl hF (fun c16 hF => ?_) (fun c16 hF => ?_)
  · refine x_iconst (pc := 15) C 1 dX8_whyNotSwap_15 ki_1 ?_
    obtain ⟨rfl, rfl⟩ := ret_eq hF
    exact x_iret (pc := 16) C hr rfl (fun _ h => h) dX8_whyNotSwap_16
  · refine x_iload_n (pc := 8) C 2 dX8_whyNotSwap_8 rfl rfl ?_
    refine cS1_1 (pc := 9) (val := Value.int) C hF (fun _ _ h => c_X8_isBranch l G b  _ h) sm_X8_isBranch wq475 rfl rfl ⟨Nat.le_of_ble_eq_true rfl, Nat.le_of_ble_eq_true rfl⟩ (Nat.le_of_ble_eq_true rfl) ⟨Nat.le_refl _, Nat.le_refl _⟩ dX8_whyNotSwap_9 (fun x4 w3 hF => ?_)
    refine x_if_ne (pc := 12) C 17 dX8_whyNotSwap_12 rfl hF (fun c15 hF => ?_) (fun c15 hF => ?_)
    · refine x_iload_n (pc := 17) C 3 dX8_whyNotSwap_17 rfl rfl ?_
      refine cS1_1 (pc := 18) (val := Value.int) C hF (fun _ _ h => c_X8_isColour l G b  _ h) sm_X8_isColour wq478 rfl rfl ⟨Nat.le_of_ble_eq_true rfl, Nat.le_of_ble_eq_true rfl⟩ (Nat.le_of_ble_eq_true rfl) ⟨Nat.le_refl _, Nat.le_refl _⟩ dX8_whyNotSwap_18 (fun x6 w5 hF => ?_)
      refine x_if_ne (pc := 21) C 26 dX8_whyNotSwap_21 rfl hF (fun c14 hF => ?_) (fun c14 hF => ?_)
      · refine x_aload_n (pc := 26) C 0 dX8_whyNotSwap_26 rfl rfl ?_
        refine x_iload_n (pc := 27) C 1 dX8_whyNotSwap_27 rfl rfl ?_
        refine cV1_1 (pc := 28) (val := Value.int) C hF (fun _ _ h => c_X8_isInYard l G b  _ h) vm_X8_isInYard wq359 rfl rfl ⟨Nat.le_of_ble_eq_true rfl, Nat.le_of_ble_eq_true rfl⟩ rfl rfl (fun _ h => CW.md h) (Nat.le_of_ble_eq_true rfl) ⟨Nat.le_refl _, Nat.le_refl _⟩ dX8_whyNotSwap_28 (fun x8 w7 hF => ?_)
        refine x_if_eq (pc := 31) C 57 dX8_whyNotSwap_31 rfl hF (fun c13 hF => ?_) (fun c13 hF => ?_)
        · refine x_iconst (pc := 57) C 3 dX8_whyNotSwap_57 ki_3 ?_
          refine x_goto (pc := 58) C 62 dX8_whyNotSwap_58 rfl ?_
          obtain ⟨rfl, rfl⟩ := ret_eq hF
          exact x_iret (pc := 62) C hr rfl (fun _ h => h) dX8_whyNotSwap_62
        · refine x_aload_n (pc := 34) C 0 dX8_whyNotSwap_34 rfl rfl ?_
          refine gf_X8_7 (pc := 35) C  dX8_whyNotSwap_35 ?_
          refine x_bipush (pc := 38) C 10 dX8_whyNotSwap_38 kb_10 ?_
          refine x_iload_n (pc := 40) C 2 dX8_whyNotSwap_40 rfl rfl ?_
          refine x_iadd (pc := 41) C dX8_whyNotSwap_41 ?_
          refine w_ald (pc := 42) C (vA_m 0 (by decide)) hF dX8_whyNotSwap_42 (fun x9 hF => ?_)
          refine x_if_lt (pc := 43) C 57 dX8_whyNotSwap_43 rfl hF (fun c12 hF => ?_) (fun c12 hF => ?_)
          · refine x_iconst (pc := 57) C 3 dX8_whyNotSwap_57 ki_3 ?_
            refine x_goto (pc := 58) C 62 dX8_whyNotSwap_58 rfl ?_
            obtain ⟨rfl, rfl⟩ := ret_eq hF
            exact x_iret (pc := 62) C hr rfl (fun _ h => h) dX8_whyNotSwap_62
          · refine x_aload_n (pc := 46) C 0 dX8_whyNotSwap_46 rfl rfl ?_
            refine gf_X8_7 (pc := 47) C  dX8_whyNotSwap_47 ?_
            refine x_iconst (pc := 50) C 1 dX8_whyNotSwap_50 ki_1 ?_
            refine w_ald (pc := 51) C (vA_m 0 (by decide)) hF dX8_whyNotSwap_51 (fun x10 hF => ?_)
            refine x_bipush (pc := 52) C 120 dX8_whyNotSwap_52 kb_120 ?_
            refine x_icmp_ne (pc := 54) C 61 dX8_whyNotSwap_54 rfl hF (fun c11 hF => ?_) (fun c11 hF => ?_)
            · refine x_iconst (pc := 61) C 0 dX8_whyNotSwap_61 ki_0 ?_
              obtain ⟨rfl, rfl⟩ := ret_eq hF
              exact x_iret (pc := 62) C hr rfl (fun _ h => h) dX8_whyNotSwap_62
            · refine x_iconst (pc := 57) C 3 dX8_whyNotSwap_57 ki_3 ?_
              refine x_goto (pc := 58) C 62 dX8_whyNotSwap_58 rfl ?_
              obtain ⟨rfl, rfl⟩ := ret_eq hF
              exact x_iret (pc := 62) C hr rfl (fun _ h => h) dX8_whyNotSwap_62
      · refine x_iconst (pc := 24) C 2 dX8_whyNotSwap_24 ki_2 ?_
        obtain ⟨rfl, rfl⟩ := ret_eq hF
        exact x_iret (pc := 25) C hr rfl (fun _ h => h) dX8_whyNotSwap_25
    · refine x_iconst (pc := 15) C 1 dX8_whyNotSwap_15 ki_1 ?_
      obtain ⟨rfl, rfl⟩ := ret_eq hF
      exact x_iret (pc := 16) C hr rfl (fun _ h => h) dX8_whyNotSwap_16
set_option maxRecDepth 4000 in
theorem c_X8_whyNotTake (l : Launch) (G : xG) (b : Nat)     (a1 : Int32) (a2 : Int32) {w w' : xWt} {v : Int32} (hF : F_X8_whyNotTake a1 a2 w = some (v, w')) : xMet l G b yX8_whyNotTake cX8_whyNotTake 3 (some .int) (xR 2) [.ref (mdb b), .int (a1), .int (a2)] (CW G b w) (some (.int v)) (CW G b w') 0 0 := by
  refine x_of (own := RX8) rfl (plainFor_of_name pn_X8) (Nat.le_of_ble_eq_true rfl) ?_
  intro p e s m args below meth c ha C hr _
  unfold F_X8_whyNotTake at hF
  refine x_aload_n (pc := 0) C 0 dX8_whyNotTake_0 rfl rfl ?_
  refine x_iload_n (pc := 1) C 1 dX8_whyNotTake_1 rfl rfl ?_
  refine cV1_1 (pc := 2) (val := Value.int) C hF (fun _ _ h => c_X8_isChild l G b  _ h) vm_X8_isChild wq303 rfl rfl ⟨Nat.le_of_ble_eq_true rfl, Nat.le_of_ble_eq_true rfl⟩ rfl rfl (fun _ h => CW.md h) (Nat.le_of_ble_eq_true rfl) ⟨Nat.le_refl _, Nat.le_refl _⟩ dX8_whyNotTake_2 (fun x2 w1 hF => ?_)
  refine x_if_eq (pc := 5) C 15 dX8_whyNotTake_5 rfl hF (fun c11 hF => ?_) (fun c11 hF => ?_)
  · refine x_iconst (pc := 15) C 1 dX8_whyNotTake_15 ki_1 ?_
    obtain ⟨rfl, rfl⟩ := ret_eq hF
    exact x_iret (pc := 16) C hr rfl (fun _ h => h) dX8_whyNotTake_16
  · refine x_iload_n (pc := 8) C 2 dX8_whyNotTake_8 rfl rfl ?_
    refine cS1_1 (pc := 9) (val := Value.int) C hF (fun _ _ h => c_X8_isBranch l G b  _ h) sm_X8_isBranch wq475 rfl rfl ⟨Nat.le_of_ble_eq_true rfl, Nat.le_of_ble_eq_true rfl⟩ (Nat.le_of_ble_eq_true rfl) ⟨Nat.le_refl _, Nat.le_refl _⟩ dX8_whyNotTake_9 (fun x4 w3 hF => ?_)
    refine x_if_ne (pc := 12) C 17 dX8_whyNotTake_12 rfl hF (fun c10 hF => ?_) (fun c10 hF => ?_)
    · refine x_aload_n (pc := 17) C 0 dX8_whyNotTake_17 rfl rfl ?_
      refine x_iload_n (pc := 18) C 1 dX8_whyNotTake_18 rfl rfl ?_
      refine cV1_1 (pc := 19) (val := Value.int) C hF (fun _ _ h => c_X8_isInYard l G b  _ h) vm_X8_isInYard wq359 rfl rfl ⟨Nat.le_of_ble_eq_true rfl, Nat.le_of_ble_eq_true rfl⟩ rfl rfl (fun _ h => CW.md h) (Nat.le_of_ble_eq_true rfl) ⟨Nat.le_refl _, Nat.le_refl _⟩ dX8_whyNotTake_19 (fun x6 w5 hF => ?_)
      refine x_if_eq (pc := 22) C 37 dX8_whyNotTake_22 rfl hF (fun c9 hF => ?_) (fun c9 hF => ?_)
      · refine x_iconst (pc := 37) C 2 dX8_whyNotTake_37 ki_2 ?_
        refine x_goto (pc := 38) C 42 dX8_whyNotTake_38 rfl ?_
        obtain ⟨rfl, rfl⟩ := ret_eq hF
        exact x_iret (pc := 42) C hr rfl (fun _ h => h) dX8_whyNotTake_42
      · refine x_aload_n (pc := 25) C 0 dX8_whyNotTake_25 rfl rfl ?_
        refine gf_X8_7 (pc := 26) C  dX8_whyNotTake_26 ?_
        refine x_bipush (pc := 29) C 10 dX8_whyNotTake_29 kb_10 ?_
        refine x_iload_n (pc := 31) C 2 dX8_whyNotTake_31 rfl rfl ?_
        refine x_iadd (pc := 32) C dX8_whyNotTake_32 ?_
        refine w_ald (pc := 33) C (vA_m 0 (by decide)) hF dX8_whyNotTake_33 (fun x7 hF => ?_)
        refine x_if_ge (pc := 34) C 41 dX8_whyNotTake_34 rfl hF (fun c8 hF => ?_) (fun c8 hF => ?_)
        · refine x_iconst (pc := 41) C 0 dX8_whyNotTake_41 ki_0 ?_
          obtain ⟨rfl, rfl⟩ := ret_eq hF
          exact x_iret (pc := 42) C hr rfl (fun _ h => h) dX8_whyNotTake_42
        · refine x_iconst (pc := 37) C 2 dX8_whyNotTake_37 ki_2 ?_
          refine x_goto (pc := 38) C 42 dX8_whyNotTake_38 rfl ?_
          obtain ⟨rfl, rfl⟩ := ret_eq hF
          exact x_iret (pc := 42) C hr rfl (fun _ h => h) dX8_whyNotTake_42
    · refine x_iconst (pc := 15) C 1 dX8_whyNotTake_15 ki_1 ?_
      obtain ⟨rfl, rfl⟩ := ret_eq hF
      exact x_iret (pc := 16) C hr rfl (fun _ h => h) dX8_whyNotTake_16
set_option maxRecDepth 4000 in
theorem c_X8_whyNotUse (l : Launch) (G : xG) (b : Nat)     (a1 : Int32) (a2 : Int32) {w w' : xWt} {v : Int32} (hF : F_X8_whyNotUse a1 a2 w = some (v, w')) : xMet l G b yX8_whyNotUse cX8_whyNotUse 3 (some .int) (xR 2) [.ref (mdb b), .int (a1), .int (a2)] (CW G b w) (some (.int v)) (CW G b w') 0 0 := by
  refine x_of (own := RX8) rfl (plainFor_of_name pn_X8) (Nat.le_of_ble_eq_true rfl) ?_
  intro p e s m args below meth c ha C hr _
  unfold F_X8_whyNotUse at hF
  refine x_aload_n (pc := 0) C 0 dX8_whyNotUse_0 rfl rfl ?_
  refine x_iload_n (pc := 1) C 1 dX8_whyNotUse_1 rfl rfl ?_
  refine cV1_1 (pc := 2) (val := Value.int) C hF (fun _ _ h => c_X8_isChild l G b  _ h) vm_X8_isChild wq303 rfl rfl ⟨Nat.le_of_ble_eq_true rfl, Nat.le_of_ble_eq_true rfl⟩ rfl rfl (fun _ h => CW.md h) (Nat.le_of_ble_eq_true rfl) ⟨Nat.le_refl _, Nat.le_refl _⟩ dX8_whyNotUse_2 (fun x2 w1 hF => ?_)
  refine x_if_eq (pc := 5) C 15 dX8_whyNotUse_5 rfl hF (fun c9 hF => ?_) (fun c9 hF => ?_)
  · refine x_iconst (pc := 15) C 1 dX8_whyNotUse_15 ki_1 ?_
    refine x_goto (pc := 16) C 34 dX8_whyNotUse_16 rfl ?_
    obtain ⟨rfl, rfl⟩ := ret_eq hF
    exact x_iret (pc := 34) C hr rfl (fun _ h => h) dX8_whyNotUse_34
  · refine x_iload_n (pc := 8) C 2 dX8_whyNotUse_8 rfl rfl ?_
    refine cS1_1 (pc := 9) (val := Value.int) C hF (fun _ _ h => c_X8_isHook l G b  _ h) sm_X8_isHook wq521 rfl rfl ⟨Nat.le_of_ble_eq_true rfl, Nat.le_of_ble_eq_true rfl⟩ (Nat.le_of_ble_eq_true rfl) ⟨Nat.le_refl _, Nat.le_refl _⟩ dX8_whyNotUse_9 (fun x4 w3 hF => ?_)
    refine x_if_ne (pc := 12) C 19 dX8_whyNotUse_12 rfl hF (fun c8 hF => ?_) (fun c8 hF => ?_)
    · refine x_aload_n (pc := 19) C 0 dX8_whyNotUse_19 rfl rfl ?_
      refine x_iload_n (pc := 20) C 1 dX8_whyNotUse_20 rfl rfl ?_
      refine x_iload_n (pc := 21) C 2 dX8_whyNotUse_21 rfl rfl ?_
      refine x_iconst (pc := 22) C 0 dX8_whyNotUse_22 ki_0 ?_
      refine cV1_3 (pc := 23) (val := Value.int) C hF (fun _ _ h => c_X8_ofHook l G b  _ _ _ h) vm_X8_ofHook wq403 rfl rfl ⟨Nat.le_of_ble_eq_true rfl, Nat.le_of_ble_eq_true rfl⟩ rfl rfl (fun _ h => CW.md h) (Nat.le_of_ble_eq_true rfl) ⟨Nat.le_refl _, Nat.le_refl _⟩ dX8_whyNotUse_23 (fun x6 w5 hF => ?_)
      refine x_if_ne (pc := 26) C 33 dX8_whyNotUse_26 rfl hF (fun c7 hF => ?_) (fun c7 hF => ?_)
      · refine x_iconst (pc := 33) C 0 dX8_whyNotUse_33 ki_0 ?_
        obtain ⟨rfl, rfl⟩ := ret_eq hF
        exact x_iret (pc := 34) C hr rfl (fun _ h => h) dX8_whyNotUse_34
      · refine x_iconst (pc := 29) C 2 dX8_whyNotUse_29 ki_2 ?_
        refine x_goto (pc := 30) C 34 dX8_whyNotUse_30 rfl ?_
        obtain ⟨rfl, rfl⟩ := ret_eq hF
        exact x_iret (pc := 34) C hr rfl (fun _ h => h) dX8_whyNotUse_34
    · refine x_iconst (pc := 15) C 1 dX8_whyNotUse_15 ki_1 ?_
      refine x_goto (pc := 16) C 34 dX8_whyNotUse_16 rfl ?_
      obtain ⟨rfl, rfl⟩ := ret_eq hF
      exact x_iret (pc := 34) C hr rfl (fun _ h => h) dX8_whyNotUse_34
set_option maxRecDepth 4000 in
theorem c_X8_canDo (l : Launch) (G : xG) (b : Nat)      {w w' : xWt} {v : Int32} (hF : F_X8_canDo  w = some (v, w')) : xMet l G b yX8_canDo cX8_canDo 1 (some .boolean) (xR 4) [.ref (mdb b)] (CW G b w) (some (.int v)) (CW G b w') 0 0 := by
  refine x_of (own := RX8) rfl (plainFor_of_name pn_X8) (Nat.le_of_ble_eq_true rfl) ?_
  intro p e s m args below meth c ha C hr _
  unfold F_X8_canDo at hF
  refine x_aload_n (pc := 0) C 0 dX8_canDo_0 rfl rfl ?_
  refine gf_X8_182 (pc := 1) C  dX8_canDo_1 ?_
  by_cases c4 : ((w.2.1 9 4)).toInt = 101
  · rw [if_pos c4] at hF
    refine x_tabIn (pc := 4) C 108 dX8_canDo_4 c4 (by decide) (by decide) rfl rfl ?_
    refine x_aload_n (pc := 108) C 0 dX8_canDo_108 rfl rfl ?_
    refine x_aload_n (pc := 109) C 0 dX8_canDo_109 rfl rfl ?_
    refine gf_X8_22 (pc := 110) C  dX8_canDo_110 ?_
    refine x_iconst (pc := 113) C 1 dX8_canDo_113 ki_1 ?_
    refine w_ald (pc := 114) C (vA_m 4 (by decide)) hF dX8_canDo_114 (fun x105 hF => ?_)
    refine cV1_1 (pc := 115) (val := Value.int) C hF (fun _ _ h => c_X8_whyNotEnter l G b  _ h) vm_X8_whyNotEnter wq355 rfl rfl ⟨Nat.le_of_ble_eq_true rfl, Nat.le_of_ble_eq_true rfl⟩ rfl rfl (fun _ h => CW.md h) (Nat.le_of_ble_eq_true rfl) ⟨Nat.le_refl _, Nat.le_refl _⟩ dX8_canDo_115 (fun x107 w106 hF => ?_)
    refine x_if_ne (pc := 118) C 125 dX8_canDo_118 rfl hF (fun c108 hF => ?_) (fun c108 hF => ?_)
    · refine x_iconst (pc := 125) C 0 dX8_canDo_125 ki_0 ?_
      obtain ⟨rfl, rfl⟩ := ret_eq hF
      exact x_zret (pc := 126) C rfl hr rfl (fun _ h => h) dX8_canDo_126
    · refine x_iconst (pc := 121) C 1 dX8_canDo_121 ki_1 ?_
      refine x_goto (pc := 122) C 126 dX8_canDo_122 rfl ?_
      obtain ⟨rfl, rfl⟩ := ret_eq hF
      exact x_zret (pc := 126) C rfl hr rfl (fun _ h => h) dX8_canDo_126
  · rw [if_neg c4] at hF
    by_cases c5 : ((w.2.1 9 4)).toInt = 102
    · rw [if_pos c5] at hF
      refine x_tabIn (pc := 4) C 327 dX8_canDo_4 c5 (by decide) (by decide) rfl rfl ?_
      refine x_aload_n (pc := 327) C 0 dX8_canDo_327 rfl rfl ?_
      refine cV1_0 (pc := 328) (val := Value.int) C hF (fun _ _ h => c_X8_lateOnes l G b  h) vm_X8_lateOnes wq431 rfl rfl ⟨Nat.le_of_ble_eq_true rfl, Nat.le_of_ble_eq_true rfl⟩ rfl rfl (fun _ h => CW.md h) (Nat.le_of_ble_eq_true rfl) ⟨Nat.le_refl _, Nat.le_refl _⟩ dX8_canDo_328 (fun x103 w102 hF => ?_)
      refine x_if_ne (pc := 331) C 338 dX8_canDo_331 rfl hF (fun c104 hF => ?_) (fun c104 hF => ?_)
      · refine x_iconst (pc := 338) C 0 dX8_canDo_338 ki_0 ?_
        obtain ⟨rfl, rfl⟩ := ret_eq hF
        exact x_zret (pc := 339) C rfl hr rfl (fun _ h => h) dX8_canDo_339
      · refine x_iconst (pc := 334) C 1 dX8_canDo_334 ki_1 ?_
        refine x_goto (pc := 335) C 339 dX8_canDo_335 rfl ?_
        obtain ⟨rfl, rfl⟩ := ret_eq hF
        exact x_zret (pc := 339) C rfl hr rfl (fun _ h => h) dX8_canDo_339
    · rw [if_neg c5] at hF
      by_cases c6 : ((w.2.1 9 4)).toInt = 103
      · rw [if_pos c6] at hF
        refine x_tabIn (pc := 4) C 302 dX8_canDo_4 c6 (by decide) (by decide) rfl rfl ?_
        refine x_aload_n (pc := 302) C 0 dX8_canDo_302 rfl rfl ?_
        refine x_aload_n (pc := 303) C 0 dX8_canDo_303 rfl rfl ?_
        refine gf_X8_22 (pc := 304) C  dX8_canDo_304 ?_
        refine x_iconst (pc := 307) C 3 dX8_canDo_307 ki_3 ?_
        refine w_ald (pc := 308) C (vA_m 4 (by decide)) hF dX8_canDo_308 (fun x97 hF => ?_)
        refine x_aload_n (pc := 309) C 0 dX8_canDo_309 rfl rfl ?_
        refine gf_X8_22 (pc := 310) C  dX8_canDo_310 ?_
        refine x_iconst (pc := 313) C 4 dX8_canDo_313 ki_4 ?_
        refine w_ald (pc := 314) C (vA_m 4 (by decide)) hF dX8_canDo_314 (fun x98 hF => ?_)
        refine cV1_2 (pc := 315) (val := Value.int) C hF (fun _ _ h => c_X8_whyNotGrow l G b  _ _ h) vm_X8_whyNotGrow wq471 rfl rfl ⟨Nat.le_of_ble_eq_true rfl, Nat.le_of_ble_eq_true rfl⟩ rfl rfl (fun _ h => CW.md h) (Nat.le_of_ble_eq_true rfl) ⟨Nat.le_refl _, Nat.le_refl _⟩ dX8_canDo_315 (fun x100 w99 hF => ?_)
        refine x_if_ne (pc := 318) C 325 dX8_canDo_318 rfl hF (fun c101 hF => ?_) (fun c101 hF => ?_)
        · refine x_iconst (pc := 325) C 0 dX8_canDo_325 ki_0 ?_
          obtain ⟨rfl, rfl⟩ := ret_eq hF
          exact x_zret (pc := 326) C rfl hr rfl (fun _ h => h) dX8_canDo_326
        · refine x_iconst (pc := 321) C 1 dX8_canDo_321 ki_1 ?_
          refine x_goto (pc := 322) C 326 dX8_canDo_322 rfl ?_
          obtain ⟨rfl, rfl⟩ := ret_eq hF
          exact x_zret (pc := 326) C rfl hr rfl (fun _ h => h) dX8_canDo_326
      · rw [if_neg c6] at hF
        by_cases c7 : ((w.2.1 9 4)).toInt = 104
        · rw [if_pos c7] at hF
          refine x_tabIn (pc := 4) C 327 dX8_canDo_4 c7 (by decide) (by decide) rfl rfl ?_
          refine x_aload_n (pc := 327) C 0 dX8_canDo_327 rfl rfl ?_
          refine cV1_0 (pc := 328) (val := Value.int) C hF (fun _ _ h => c_X8_lateOnes l G b  h) vm_X8_lateOnes wq431 rfl rfl ⟨Nat.le_of_ble_eq_true rfl, Nat.le_of_ble_eq_true rfl⟩ rfl rfl (fun _ h => CW.md h) (Nat.le_of_ble_eq_true rfl) ⟨Nat.le_refl _, Nat.le_refl _⟩ dX8_canDo_328 (fun x95 w94 hF => ?_)
          refine x_if_ne (pc := 331) C 338 dX8_canDo_331 rfl hF (fun c96 hF => ?_) (fun c96 hF => ?_)
          · refine x_iconst (pc := 338) C 0 dX8_canDo_338 ki_0 ?_
            obtain ⟨rfl, rfl⟩ := ret_eq hF
            exact x_zret (pc := 339) C rfl hr rfl (fun _ h => h) dX8_canDo_339
          · refine x_iconst (pc := 334) C 1 dX8_canDo_334 ki_1 ?_
            refine x_goto (pc := 335) C 339 dX8_canDo_335 rfl ?_
            obtain ⟨rfl, rfl⟩ := ret_eq hF
            exact x_zret (pc := 339) C rfl hr rfl (fun _ h => h) dX8_canDo_339
        · rw [if_neg c7] at hF
          by_cases c8 : ((w.2.1 9 4)).toInt = 105
          · rw [if_pos c8] at hF
            refine x_tabIn (pc := 4) C 327 dX8_canDo_4 c8 (by decide) (by decide) rfl rfl ?_
            refine x_aload_n (pc := 327) C 0 dX8_canDo_327 rfl rfl ?_
            refine cV1_0 (pc := 328) (val := Value.int) C hF (fun _ _ h => c_X8_lateOnes l G b  h) vm_X8_lateOnes wq431 rfl rfl ⟨Nat.le_of_ble_eq_true rfl, Nat.le_of_ble_eq_true rfl⟩ rfl rfl (fun _ h => CW.md h) (Nat.le_of_ble_eq_true rfl) ⟨Nat.le_refl _, Nat.le_refl _⟩ dX8_canDo_328 (fun x92 w91 hF => ?_)
            refine x_if_ne (pc := 331) C 338 dX8_canDo_331 rfl hF (fun c93 hF => ?_) (fun c93 hF => ?_)
            · refine x_iconst (pc := 338) C 0 dX8_canDo_338 ki_0 ?_
              obtain ⟨rfl, rfl⟩ := ret_eq hF
              exact x_zret (pc := 339) C rfl hr rfl (fun _ h => h) dX8_canDo_339
            · refine x_iconst (pc := 334) C 1 dX8_canDo_334 ki_1 ?_
              refine x_goto (pc := 335) C 339 dX8_canDo_335 rfl ?_
              obtain ⟨rfl, rfl⟩ := ret_eq hF
              exact x_zret (pc := 339) C rfl hr rfl (fun _ h => h) dX8_canDo_339
          · rw [if_neg c8] at hF
            by_cases c9 : ((w.2.1 9 4)).toInt = 106
            · rw [if_pos c9] at hF
              refine x_tabIn (pc := 4) C 327 dX8_canDo_4 c9 (by decide) (by decide) rfl rfl ?_
              refine x_aload_n (pc := 327) C 0 dX8_canDo_327 rfl rfl ?_
              refine cV1_0 (pc := 328) (val := Value.int) C hF (fun _ _ h => c_X8_lateOnes l G b  h) vm_X8_lateOnes wq431 rfl rfl ⟨Nat.le_of_ble_eq_true rfl, Nat.le_of_ble_eq_true rfl⟩ rfl rfl (fun _ h => CW.md h) (Nat.le_of_ble_eq_true rfl) ⟨Nat.le_refl _, Nat.le_refl _⟩ dX8_canDo_328 (fun x89 w88 hF => ?_)
              refine x_if_ne (pc := 331) C 338 dX8_canDo_331 rfl hF (fun c90 hF => ?_) (fun c90 hF => ?_)
              · refine x_iconst (pc := 338) C 0 dX8_canDo_338 ki_0 ?_
                obtain ⟨rfl, rfl⟩ := ret_eq hF
                exact x_zret (pc := 339) C rfl hr rfl (fun _ h => h) dX8_canDo_339
              · refine x_iconst (pc := 334) C 1 dX8_canDo_334 ki_1 ?_
                refine x_goto (pc := 335) C 339 dX8_canDo_335 rfl ?_
                obtain ⟨rfl, rfl⟩ := ret_eq hF
                exact x_zret (pc := 339) C rfl hr rfl (fun _ h => h) dX8_canDo_339
            · rw [if_neg c9] at hF
              by_cases c10 : ((w.2.1 9 4)).toInt = 107
              · rw [if_pos c10] at hF
                refine x_tabIn (pc := 4) C 146 dX8_canDo_4 c10 (by decide) (by decide) rfl rfl ?_
                refine x_aload_n (pc := 146) C 0 dX8_canDo_146 rfl rfl ?_
                refine x_aload_n (pc := 147) C 0 dX8_canDo_147 rfl rfl ?_
                refine gf_X8_22 (pc := 148) C  dX8_canDo_148 ?_
                refine x_iconst (pc := 151) C 1 dX8_canDo_151 ki_1 ?_
                refine w_ald (pc := 152) C (vA_m 4 (by decide)) hF dX8_canDo_152 (fun x84 hF => ?_)
                refine cV1_1 (pc := 153) (val := Value.int) C hF (fun _ _ h => c_X8_whyNotRake l G b  _ h) vm_X8_whyNotRake wq740 rfl rfl ⟨Nat.le_of_ble_eq_true rfl, Nat.le_of_ble_eq_true rfl⟩ rfl rfl (fun _ h => CW.md h) (Nat.le_of_ble_eq_true rfl) ⟨Nat.le_refl _, Nat.le_refl _⟩ dX8_canDo_153 (fun x86 w85 hF => ?_)
                refine x_if_ne (pc := 156) C 163 dX8_canDo_156 rfl hF (fun c87 hF => ?_) (fun c87 hF => ?_)
                · refine x_iconst (pc := 163) C 0 dX8_canDo_163 ki_0 ?_
                  obtain ⟨rfl, rfl⟩ := ret_eq hF
                  exact x_zret (pc := 164) C rfl hr rfl (fun _ h => h) dX8_canDo_164
                · refine x_iconst (pc := 159) C 1 dX8_canDo_159 ki_1 ?_
                  refine x_goto (pc := 160) C 164 dX8_canDo_160 rfl ?_
                  obtain ⟨rfl, rfl⟩ := ret_eq hF
                  exact x_zret (pc := 164) C rfl hr rfl (fun _ h => h) dX8_canDo_164
              · rw [if_neg c10] at hF
                by_cases c11 : ((w.2.1 9 4)).toInt = 108
                · rw [if_pos c11] at hF
                  refine x_tabIn (pc := 4) C 327 dX8_canDo_4 c11 (by decide) (by decide) rfl rfl ?_
                  refine x_aload_n (pc := 327) C 0 dX8_canDo_327 rfl rfl ?_
                  refine cV1_0 (pc := 328) (val := Value.int) C hF (fun _ _ h => c_X8_lateOnes l G b  h) vm_X8_lateOnes wq431 rfl rfl ⟨Nat.le_of_ble_eq_true rfl, Nat.le_of_ble_eq_true rfl⟩ rfl rfl (fun _ h => CW.md h) (Nat.le_of_ble_eq_true rfl) ⟨Nat.le_refl _, Nat.le_refl _⟩ dX8_canDo_328 (fun x82 w81 hF => ?_)
                  refine x_if_ne (pc := 331) C 338 dX8_canDo_331 rfl hF (fun c83 hF => ?_) (fun c83 hF => ?_)
                  · refine x_iconst (pc := 338) C 0 dX8_canDo_338 ki_0 ?_
                    obtain ⟨rfl, rfl⟩ := ret_eq hF
                    exact x_zret (pc := 339) C rfl hr rfl (fun _ h => h) dX8_canDo_339
                  · refine x_iconst (pc := 334) C 1 dX8_canDo_334 ki_1 ?_
                    refine x_goto (pc := 335) C 339 dX8_canDo_335 rfl ?_
                    obtain ⟨rfl, rfl⟩ := ret_eq hF
                    exact x_zret (pc := 339) C rfl hr rfl (fun _ h => h) dX8_canDo_339
                · rw [if_neg c11] at hF
                  by_cases c12 : ((w.2.1 9 4)).toInt = 109
                  · rw [if_pos c12] at hF
                    refine x_tabIn (pc := 4) C 327 dX8_canDo_4 c12 (by decide) (by decide) rfl rfl ?_
                    refine x_aload_n (pc := 327) C 0 dX8_canDo_327 rfl rfl ?_
                    refine cV1_0 (pc := 328) (val := Value.int) C hF (fun _ _ h => c_X8_lateOnes l G b  h) vm_X8_lateOnes wq431 rfl rfl ⟨Nat.le_of_ble_eq_true rfl, Nat.le_of_ble_eq_true rfl⟩ rfl rfl (fun _ h => CW.md h) (Nat.le_of_ble_eq_true rfl) ⟨Nat.le_refl _, Nat.le_refl _⟩ dX8_canDo_328 (fun x79 w78 hF => ?_)
                    refine x_if_ne (pc := 331) C 338 dX8_canDo_331 rfl hF (fun c80 hF => ?_) (fun c80 hF => ?_)
                    · refine x_iconst (pc := 338) C 0 dX8_canDo_338 ki_0 ?_
                      obtain ⟨rfl, rfl⟩ := ret_eq hF
                      exact x_zret (pc := 339) C rfl hr rfl (fun _ h => h) dX8_canDo_339
                    · refine x_iconst (pc := 334) C 1 dX8_canDo_334 ki_1 ?_
                      refine x_goto (pc := 335) C 339 dX8_canDo_335 rfl ?_
                      obtain ⟨rfl, rfl⟩ := ret_eq hF
                      exact x_zret (pc := 339) C rfl hr rfl (fun _ h => h) dX8_canDo_339
                  · rw [if_neg c12] at hF
                    by_cases c13 : ((w.2.1 9 4)).toInt = 110
                    · rw [if_pos c13] at hF
                      refine x_tabIn (pc := 4) C 165 dX8_canDo_4 c13 (by decide) (by decide) rfl rfl ?_
                      refine x_aload_n (pc := 165) C 0 dX8_canDo_165 rfl rfl ?_
                      refine x_aload_n (pc := 166) C 0 dX8_canDo_166 rfl rfl ?_
                      refine gf_X8_22 (pc := 167) C  dX8_canDo_167 ?_
                      refine x_iconst (pc := 170) C 1 dX8_canDo_170 ki_1 ?_
                      refine w_ald (pc := 171) C (vA_m 4 (by decide)) hF dX8_canDo_171 (fun x72 hF => ?_)
                      refine x_aload_n (pc := 172) C 0 dX8_canDo_172 rfl rfl ?_
                      refine gf_X8_22 (pc := 173) C  dX8_canDo_173 ?_
                      refine x_iconst (pc := 176) C 2 dX8_canDo_176 ki_2 ?_
                      refine w_ald (pc := 177) C (vA_m 4 (by decide)) hF dX8_canDo_177 (fun x73 hF => ?_)
                      refine x_aload_n (pc := 178) C 0 dX8_canDo_178 rfl rfl ?_
                      refine gf_X8_22 (pc := 179) C  dX8_canDo_179 ?_
                      refine x_iconst (pc := 182) C 3 dX8_canDo_182 ki_3 ?_
                      refine w_ald (pc := 183) C (vA_m 4 (by decide)) hF dX8_canDo_183 (fun x74 hF => ?_)
                      refine cV1_3 (pc := 184) (val := Value.int) C hF (fun _ _ h => c_X8_whyNotNote l G b  _ _ _ h) vm_X8_whyNotNote wq517 rfl rfl ⟨Nat.le_of_ble_eq_true rfl, Nat.le_of_ble_eq_true rfl⟩ rfl rfl (fun _ h => CW.md h) (Nat.le_of_ble_eq_true rfl) ⟨Nat.le_refl _, Nat.le_refl _⟩ dX8_canDo_184 (fun x76 w75 hF => ?_)
                      refine x_if_ne (pc := 187) C 194 dX8_canDo_187 rfl hF (fun c77 hF => ?_) (fun c77 hF => ?_)
                      · refine x_iconst (pc := 194) C 0 dX8_canDo_194 ki_0 ?_
                        obtain ⟨rfl, rfl⟩ := ret_eq hF
                        exact x_zret (pc := 195) C rfl hr rfl (fun _ h => h) dX8_canDo_195
                      · refine x_iconst (pc := 190) C 1 dX8_canDo_190 ki_1 ?_
                        refine x_goto (pc := 191) C 195 dX8_canDo_191 rfl ?_
                        obtain ⟨rfl, rfl⟩ := ret_eq hF
                        exact x_zret (pc := 195) C rfl hr rfl (fun _ h => h) dX8_canDo_195
                    · rw [if_neg c13] at hF
                      by_cases c14 : ((w.2.1 9 4)).toInt = 111
                      · rw [if_pos c14] at hF
                        refine x_tabIn (pc := 4) C 327 dX8_canDo_4 c14 (by decide) (by decide) rfl rfl ?_
                        refine x_aload_n (pc := 327) C 0 dX8_canDo_327 rfl rfl ?_
                        refine cV1_0 (pc := 328) (val := Value.int) C hF (fun _ _ h => c_X8_lateOnes l G b  h) vm_X8_lateOnes wq431 rfl rfl ⟨Nat.le_of_ble_eq_true rfl, Nat.le_of_ble_eq_true rfl⟩ rfl rfl (fun _ h => CW.md h) (Nat.le_of_ble_eq_true rfl) ⟨Nat.le_refl _, Nat.le_refl _⟩ dX8_canDo_328 (fun x70 w69 hF => ?_)
                        refine x_if_ne (pc := 331) C 338 dX8_canDo_331 rfl hF (fun c71 hF => ?_) (fun c71 hF => ?_)
                        · refine x_iconst (pc := 338) C 0 dX8_canDo_338 ki_0 ?_
                          obtain ⟨rfl, rfl⟩ := ret_eq hF
                          exact x_zret (pc := 339) C rfl hr rfl (fun _ h => h) dX8_canDo_339
                        · refine x_iconst (pc := 334) C 1 dX8_canDo_334 ki_1 ?_
                          refine x_goto (pc := 335) C 339 dX8_canDo_335 rfl ?_
                          obtain ⟨rfl, rfl⟩ := ret_eq hF
                          exact x_zret (pc := 339) C rfl hr rfl (fun _ h => h) dX8_canDo_339
                      · rw [if_neg c14] at hF
                        by_cases c15 : ((w.2.1 9 4)).toInt = 112
                        · rw [if_pos c15] at hF
                          refine x_tabIn (pc := 4) C 196 dX8_canDo_4 c15 (by decide) (by decide) rfl rfl ?_
                          refine x_aload_n (pc := 196) C 0 dX8_canDo_196 rfl rfl ?_
                          refine x_aload_n (pc := 197) C 0 dX8_canDo_197 rfl rfl ?_
                          refine gf_X8_22 (pc := 198) C  dX8_canDo_198 ?_
                          refine x_iconst (pc := 201) C 1 dX8_canDo_201 ki_1 ?_
                          refine w_ald (pc := 202) C (vA_m 4 (by decide)) hF dX8_canDo_202 (fun x64 hF => ?_)
                          refine x_aload_n (pc := 203) C 0 dX8_canDo_203 rfl rfl ?_
                          refine gf_X8_22 (pc := 204) C  dX8_canDo_204 ?_
                          refine x_iconst (pc := 207) C 2 dX8_canDo_207 ki_2 ?_
                          refine w_ald (pc := 208) C (vA_m 4 (by decide)) hF dX8_canDo_208 (fun x65 hF => ?_)
                          refine cV1_2 (pc := 209) (val := Value.int) C hF (fun _ _ h => c_X8_whyNotPin l G b  _ _ h) vm_X8_whyNotPin wq560 rfl rfl ⟨Nat.le_of_ble_eq_true rfl, Nat.le_of_ble_eq_true rfl⟩ rfl rfl (fun _ h => CW.md h) (Nat.le_of_ble_eq_true rfl) ⟨Nat.le_refl _, Nat.le_refl _⟩ dX8_canDo_209 (fun x67 w66 hF => ?_)
                          refine x_if_ne (pc := 212) C 219 dX8_canDo_212 rfl hF (fun c68 hF => ?_) (fun c68 hF => ?_)
                          · refine x_iconst (pc := 219) C 0 dX8_canDo_219 ki_0 ?_
                            obtain ⟨rfl, rfl⟩ := ret_eq hF
                            exact x_zret (pc := 220) C rfl hr rfl (fun _ h => h) dX8_canDo_220
                          · refine x_iconst (pc := 215) C 1 dX8_canDo_215 ki_1 ?_
                            refine x_goto (pc := 216) C 220 dX8_canDo_216 rfl ?_
                            obtain ⟨rfl, rfl⟩ := ret_eq hF
                            exact x_zret (pc := 220) C rfl hr rfl (fun _ h => h) dX8_canDo_220
                        · rw [if_neg c15] at hF
                          by_cases c16 : ((w.2.1 9 4)).toInt = 113
                          · rw [if_pos c16] at hF
                            refine x_tabIn (pc := 4) C 327 dX8_canDo_4 c16 (by decide) (by decide) rfl rfl ?_
                            refine x_aload_n (pc := 327) C 0 dX8_canDo_327 rfl rfl ?_
                            refine cV1_0 (pc := 328) (val := Value.int) C hF (fun _ _ h => c_X8_lateOnes l G b  h) vm_X8_lateOnes wq431 rfl rfl ⟨Nat.le_of_ble_eq_true rfl, Nat.le_of_ble_eq_true rfl⟩ rfl rfl (fun _ h => CW.md h) (Nat.le_of_ble_eq_true rfl) ⟨Nat.le_refl _, Nat.le_refl _⟩ dX8_canDo_328 (fun x62 w61 hF => ?_)
                            refine x_if_ne (pc := 331) C 338 dX8_canDo_331 rfl hF (fun c63 hF => ?_) (fun c63 hF => ?_)
                            · refine x_iconst (pc := 338) C 0 dX8_canDo_338 ki_0 ?_
                              obtain ⟨rfl, rfl⟩ := ret_eq hF
                              exact x_zret (pc := 339) C rfl hr rfl (fun _ h => h) dX8_canDo_339
                            · refine x_iconst (pc := 334) C 1 dX8_canDo_334 ki_1 ?_
                              refine x_goto (pc := 335) C 339 dX8_canDo_335 rfl ?_
                              obtain ⟨rfl, rfl⟩ := ret_eq hF
                              exact x_zret (pc := 339) C rfl hr rfl (fun _ h => h) dX8_canDo_339
                          · rw [if_neg c16] at hF
                            by_cases c17 : ((w.2.1 9 4)).toInt = 114
                            · rw [if_pos c17] at hF
                              refine x_tabIn (pc := 4) C 327 dX8_canDo_4 c17 (by decide) (by decide) rfl rfl ?_
                              refine x_aload_n (pc := 327) C 0 dX8_canDo_327 rfl rfl ?_
                              refine cV1_0 (pc := 328) (val := Value.int) C hF (fun _ _ h => c_X8_lateOnes l G b  h) vm_X8_lateOnes wq431 rfl rfl ⟨Nat.le_of_ble_eq_true rfl, Nat.le_of_ble_eq_true rfl⟩ rfl rfl (fun _ h => CW.md h) (Nat.le_of_ble_eq_true rfl) ⟨Nat.le_refl _, Nat.le_refl _⟩ dX8_canDo_328 (fun x59 w58 hF => ?_)
                              refine x_if_ne (pc := 331) C 338 dX8_canDo_331 rfl hF (fun c60 hF => ?_) (fun c60 hF => ?_)
                              · refine x_iconst (pc := 338) C 0 dX8_canDo_338 ki_0 ?_
                                obtain ⟨rfl, rfl⟩ := ret_eq hF
                                exact x_zret (pc := 339) C rfl hr rfl (fun _ h => h) dX8_canDo_339
                              · refine x_iconst (pc := 334) C 1 dX8_canDo_334 ki_1 ?_
                                refine x_goto (pc := 335) C 339 dX8_canDo_335 rfl ?_
                                obtain ⟨rfl, rfl⟩ := ret_eq hF
                                exact x_zret (pc := 339) C rfl hr rfl (fun _ h => h) dX8_canDo_339
                            · rw [if_neg c17] at hF
                              by_cases c18 : ((w.2.1 9 4)).toInt = 115
                              · rw [if_pos c18] at hF
                                refine x_tabIn (pc := 4) C 327 dX8_canDo_4 c18 (by decide) (by decide) rfl rfl ?_
                                refine x_aload_n (pc := 327) C 0 dX8_canDo_327 rfl rfl ?_
                                refine cV1_0 (pc := 328) (val := Value.int) C hF (fun _ _ h => c_X8_lateOnes l G b  h) vm_X8_lateOnes wq431 rfl rfl ⟨Nat.le_of_ble_eq_true rfl, Nat.le_of_ble_eq_true rfl⟩ rfl rfl (fun _ h => CW.md h) (Nat.le_of_ble_eq_true rfl) ⟨Nat.le_refl _, Nat.le_refl _⟩ dX8_canDo_328 (fun x56 w55 hF => ?_)
                                refine x_if_ne (pc := 331) C 338 dX8_canDo_331 rfl hF (fun c57 hF => ?_) (fun c57 hF => ?_)
                                · refine x_iconst (pc := 338) C 0 dX8_canDo_338 ki_0 ?_
                                  obtain ⟨rfl, rfl⟩ := ret_eq hF
                                  exact x_zret (pc := 339) C rfl hr rfl (fun _ h => h) dX8_canDo_339
                                · refine x_iconst (pc := 334) C 1 dX8_canDo_334 ki_1 ?_
                                  refine x_goto (pc := 335) C 339 dX8_canDo_335 rfl ?_
                                  obtain ⟨rfl, rfl⟩ := ret_eq hF
                                  exact x_zret (pc := 339) C rfl hr rfl (fun _ h => h) dX8_canDo_339
                              · rw [if_neg c18] at hF
                                by_cases c19 : ((w.2.1 9 4)).toInt = 116
                                · rw [if_pos c19] at hF
                                  refine x_tabIn (pc := 4) C 246 dX8_canDo_4 c19 (by decide) (by decide) rfl rfl ?_
                                  refine x_aload_n (pc := 246) C 0 dX8_canDo_246 rfl rfl ?_
                                  refine x_aload_n (pc := 247) C 0 dX8_canDo_247 rfl rfl ?_
                                  refine gf_X8_22 (pc := 248) C  dX8_canDo_248 ?_
                                  refine x_iconst (pc := 251) C 1 dX8_canDo_251 ki_1 ?_
                                  refine w_ald (pc := 252) C (vA_m 4 (by decide)) hF dX8_canDo_252 (fun x50 hF => ?_)
                                  refine x_aload_n (pc := 253) C 0 dX8_canDo_253 rfl rfl ?_
                                  refine gf_X8_22 (pc := 254) C  dX8_canDo_254 ?_
                                  refine x_iconst (pc := 257) C 3 dX8_canDo_257 ki_3 ?_
                                  refine w_ald (pc := 258) C (vA_m 4 (by decide)) hF dX8_canDo_258 (fun x51 hF => ?_)
                                  refine cV1_2 (pc := 259) (val := Value.int) C hF (fun _ _ h => c_X8_whyNotTake l G b  _ _ h) vm_X8_whyNotTake wq666 rfl rfl ⟨Nat.le_of_ble_eq_true rfl, Nat.le_of_ble_eq_true rfl⟩ rfl rfl (fun _ h => CW.md h) (Nat.le_of_ble_eq_true rfl) ⟨Nat.le_refl _, Nat.le_refl _⟩ dX8_canDo_259 (fun x53 w52 hF => ?_)
                                  refine x_if_ne (pc := 262) C 269 dX8_canDo_262 rfl hF (fun c54 hF => ?_) (fun c54 hF => ?_)
                                  · refine x_iconst (pc := 269) C 0 dX8_canDo_269 ki_0 ?_
                                    obtain ⟨rfl, rfl⟩ := ret_eq hF
                                    exact x_zret (pc := 270) C rfl hr rfl (fun _ h => h) dX8_canDo_270
                                  · refine x_iconst (pc := 265) C 1 dX8_canDo_265 ki_1 ?_
                                    refine x_goto (pc := 266) C 270 dX8_canDo_266 rfl ?_
                                    obtain ⟨rfl, rfl⟩ := ret_eq hF
                                    exact x_zret (pc := 270) C rfl hr rfl (fun _ h => h) dX8_canDo_270
                                · rw [if_neg c19] at hF
                                  by_cases c20 : ((w.2.1 9 4)).toInt = 117
                                  · rw [if_pos c20] at hF
                                    refine x_tabIn (pc := 4) C 327 dX8_canDo_4 c20 (by decide) (by decide) rfl rfl ?_
                                    refine x_aload_n (pc := 327) C 0 dX8_canDo_327 rfl rfl ?_
                                    refine cV1_0 (pc := 328) (val := Value.int) C hF (fun _ _ h => c_X8_lateOnes l G b  h) vm_X8_lateOnes wq431 rfl rfl ⟨Nat.le_of_ble_eq_true rfl, Nat.le_of_ble_eq_true rfl⟩ rfl rfl (fun _ h => CW.md h) (Nat.le_of_ble_eq_true rfl) ⟨Nat.le_refl _, Nat.le_refl _⟩ dX8_canDo_328 (fun x48 w47 hF => ?_)
                                    refine x_if_ne (pc := 331) C 338 dX8_canDo_331 rfl hF (fun c49 hF => ?_) (fun c49 hF => ?_)
                                    · refine x_iconst (pc := 338) C 0 dX8_canDo_338 ki_0 ?_
                                      obtain ⟨rfl, rfl⟩ := ret_eq hF
                                      exact x_zret (pc := 339) C rfl hr rfl (fun _ h => h) dX8_canDo_339
                                    · refine x_iconst (pc := 334) C 1 dX8_canDo_334 ki_1 ?_
                                      refine x_goto (pc := 335) C 339 dX8_canDo_335 rfl ?_
                                      obtain ⟨rfl, rfl⟩ := ret_eq hF
                                      exact x_zret (pc := 339) C rfl hr rfl (fun _ h => h) dX8_canDo_339
                                  · rw [if_neg c20] at hF
                                    by_cases c21 : ((w.2.1 9 4)).toInt = 118
                                    · rw [if_pos c21] at hF
                                      refine x_tabIn (pc := 4) C 327 dX8_canDo_4 c21 (by decide) (by decide) rfl rfl ?_
                                      refine x_aload_n (pc := 327) C 0 dX8_canDo_327 rfl rfl ?_
                                      refine cV1_0 (pc := 328) (val := Value.int) C hF (fun _ _ h => c_X8_lateOnes l G b  h) vm_X8_lateOnes wq431 rfl rfl ⟨Nat.le_of_ble_eq_true rfl, Nat.le_of_ble_eq_true rfl⟩ rfl rfl (fun _ h => CW.md h) (Nat.le_of_ble_eq_true rfl) ⟨Nat.le_refl _, Nat.le_refl _⟩ dX8_canDo_328 (fun x45 w44 hF => ?_)
                                      refine x_if_ne (pc := 331) C 338 dX8_canDo_331 rfl hF (fun c46 hF => ?_) (fun c46 hF => ?_)
                                      · refine x_iconst (pc := 338) C 0 dX8_canDo_338 ki_0 ?_
                                        obtain ⟨rfl, rfl⟩ := ret_eq hF
                                        exact x_zret (pc := 339) C rfl hr rfl (fun _ h => h) dX8_canDo_339
                                      · refine x_iconst (pc := 334) C 1 dX8_canDo_334 ki_1 ?_
                                        refine x_goto (pc := 335) C 339 dX8_canDo_335 rfl ?_
                                        obtain ⟨rfl, rfl⟩ := ret_eq hF
                                        exact x_zret (pc := 339) C rfl hr rfl (fun _ h => h) dX8_canDo_339
                                    · rw [if_neg c21] at hF
                                      by_cases c22 : ((w.2.1 9 4)).toInt = 119
                                      · rw [if_pos c22] at hF
                                        refine x_tabIn (pc := 4) C 271 dX8_canDo_4 c22 (by decide) (by decide) rfl rfl ?_
                                        refine x_aload_n (pc := 271) C 0 dX8_canDo_271 rfl rfl ?_
                                        refine x_aload_n (pc := 272) C 0 dX8_canDo_272 rfl rfl ?_
                                        refine gf_X8_22 (pc := 273) C  dX8_canDo_273 ?_
                                        refine x_iconst (pc := 276) C 1 dX8_canDo_276 ki_1 ?_
                                        refine w_ald (pc := 277) C (vA_m 4 (by decide)) hF dX8_canDo_277 (fun x38 hF => ?_)
                                        refine x_aload_n (pc := 278) C 0 dX8_canDo_278 rfl rfl ?_
                                        refine gf_X8_22 (pc := 279) C  dX8_canDo_279 ?_
                                        refine x_iconst (pc := 282) C 3 dX8_canDo_282 ki_3 ?_
                                        refine w_ald (pc := 283) C (vA_m 4 (by decide)) hF dX8_canDo_283 (fun x39 hF => ?_)
                                        refine x_aload_n (pc := 284) C 0 dX8_canDo_284 rfl rfl ?_
                                        refine gf_X8_22 (pc := 285) C  dX8_canDo_285 ?_
                                        refine x_iconst (pc := 288) C 4 dX8_canDo_288 ki_4 ?_
                                        refine w_ald (pc := 289) C (vA_m 4 (by decide)) hF dX8_canDo_289 (fun x40 hF => ?_)
                                        refine cV1_3 (pc := 290) (val := Value.int) C hF (fun _ _ h => c_X8_whyNotSwap l G b  _ _ _ h) vm_X8_whyNotSwap wq716 rfl rfl ⟨Nat.le_of_ble_eq_true rfl, Nat.le_of_ble_eq_true rfl⟩ rfl rfl (fun _ h => CW.md h) (Nat.le_of_ble_eq_true rfl) ⟨Nat.le_refl _, Nat.le_refl _⟩ dX8_canDo_290 (fun x42 w41 hF => ?_)
                                        refine x_if_ne (pc := 293) C 300 dX8_canDo_293 rfl hF (fun c43 hF => ?_) (fun c43 hF => ?_)
                                        · refine x_iconst (pc := 300) C 0 dX8_canDo_300 ki_0 ?_
                                          obtain ⟨rfl, rfl⟩ := ret_eq hF
                                          exact x_zret (pc := 301) C rfl hr rfl (fun _ h => h) dX8_canDo_301
                                        · refine x_iconst (pc := 296) C 1 dX8_canDo_296 ki_1 ?_
                                          refine x_goto (pc := 297) C 301 dX8_canDo_297 rfl ?_
                                          obtain ⟨rfl, rfl⟩ := ret_eq hF
                                          exact x_zret (pc := 301) C rfl hr rfl (fun _ h => h) dX8_canDo_301
                                      · rw [if_neg c22] at hF
                                        by_cases c23 : ((w.2.1 9 4)).toInt = 120
                                        · rw [if_pos c23] at hF
                                          refine x_tabIn (pc := 4) C 221 dX8_canDo_4 c23 (by decide) (by decide) rfl rfl ?_
                                          refine x_aload_n (pc := 221) C 0 dX8_canDo_221 rfl rfl ?_
                                          refine x_aload_n (pc := 222) C 0 dX8_canDo_222 rfl rfl ?_
                                          refine gf_X8_22 (pc := 223) C  dX8_canDo_223 ?_
                                          refine x_iconst (pc := 226) C 1 dX8_canDo_226 ki_1 ?_
                                          refine w_ald (pc := 227) C (vA_m 4 (by decide)) hF dX8_canDo_227 (fun x33 hF => ?_)
                                          refine x_aload_n (pc := 228) C 0 dX8_canDo_228 rfl rfl ?_
                                          refine gf_X8_22 (pc := 229) C  dX8_canDo_229 ?_
                                          refine x_iconst (pc := 232) C 2 dX8_canDo_232 ki_2 ?_
                                          refine w_ald (pc := 233) C (vA_m 4 (by decide)) hF dX8_canDo_233 (fun x34 hF => ?_)
                                          refine cV1_2 (pc := 234) (val := Value.int) C hF (fun _ _ h => c_X8_whyNotUse l G b  _ _ h) vm_X8_whyNotUse wq587 rfl rfl ⟨Nat.le_of_ble_eq_true rfl, Nat.le_of_ble_eq_true rfl⟩ rfl rfl (fun _ h => CW.md h) (Nat.le_of_ble_eq_true rfl) ⟨Nat.le_refl _, Nat.le_refl _⟩ dX8_canDo_234 (fun x36 w35 hF => ?_)
                                          refine x_if_ne (pc := 237) C 244 dX8_canDo_237 rfl hF (fun c37 hF => ?_) (fun c37 hF => ?_)
                                          · refine x_iconst (pc := 244) C 0 dX8_canDo_244 ki_0 ?_
                                            obtain ⟨rfl, rfl⟩ := ret_eq hF
                                            exact x_zret (pc := 245) C rfl hr rfl (fun _ h => h) dX8_canDo_245
                                          · refine x_iconst (pc := 240) C 1 dX8_canDo_240 ki_1 ?_
                                            refine x_goto (pc := 241) C 245 dX8_canDo_241 rfl ?_
                                            obtain ⟨rfl, rfl⟩ := ret_eq hF
                                            exact x_zret (pc := 245) C rfl hr rfl (fun _ h => h) dX8_canDo_245
                                        · rw [if_neg c23] at hF
                                          by_cases c24 : ((w.2.1 9 4)).toInt = 121
                                          · rw [if_pos c24] at hF
                                            refine x_tabIn (pc := 4) C 327 dX8_canDo_4 c24 (by decide) (by decide) rfl rfl ?_
                                            refine x_aload_n (pc := 327) C 0 dX8_canDo_327 rfl rfl ?_
                                            refine cV1_0 (pc := 328) (val := Value.int) C hF (fun _ _ h => c_X8_lateOnes l G b  h) vm_X8_lateOnes wq431 rfl rfl ⟨Nat.le_of_ble_eq_true rfl, Nat.le_of_ble_eq_true rfl⟩ rfl rfl (fun _ h => CW.md h) (Nat.le_of_ble_eq_true rfl) ⟨Nat.le_refl _, Nat.le_refl _⟩ dX8_canDo_328 (fun x31 w30 hF => ?_)
                                            refine x_if_ne (pc := 331) C 338 dX8_canDo_331 rfl hF (fun c32 hF => ?_) (fun c32 hF => ?_)
                                            · refine x_iconst (pc := 338) C 0 dX8_canDo_338 ki_0 ?_
                                              obtain ⟨rfl, rfl⟩ := ret_eq hF
                                              exact x_zret (pc := 339) C rfl hr rfl (fun _ h => h) dX8_canDo_339
                                            · refine x_iconst (pc := 334) C 1 dX8_canDo_334 ki_1 ?_
                                              refine x_goto (pc := 335) C 339 dX8_canDo_335 rfl ?_
                                              obtain ⟨rfl, rfl⟩ := ret_eq hF
                                              exact x_zret (pc := 339) C rfl hr rfl (fun _ h => h) dX8_canDo_339
                                          · rw [if_neg c24] at hF
                                            by_cases c25 : ((w.2.1 9 4)).toInt = 122
                                            · rw [if_pos c25] at hF
                                              refine x_tabIn (pc := 4) C 127 dX8_canDo_4 c25 (by decide) (by decide) rfl rfl ?_
                                              refine x_aload_n (pc := 127) C 0 dX8_canDo_127 rfl rfl ?_
                                              refine x_aload_n (pc := 128) C 0 dX8_canDo_128 rfl rfl ?_
                                              refine gf_X8_22 (pc := 129) C  dX8_canDo_129 ?_
                                              refine x_iconst (pc := 132) C 1 dX8_canDo_132 ki_1 ?_
                                              refine w_ald (pc := 133) C (vA_m 4 (by decide)) hF dX8_canDo_133 (fun x26 hF => ?_)
                                              refine cV1_1 (pc := 134) (val := Value.int) C hF (fun _ _ h => c_X8_whyNotRest l G b  _ h) vm_X8_whyNotRest wq391 rfl rfl ⟨Nat.le_of_ble_eq_true rfl, Nat.le_of_ble_eq_true rfl⟩ rfl rfl (fun _ h => CW.md h) (Nat.le_of_ble_eq_true rfl) ⟨Nat.le_refl _, Nat.le_refl _⟩ dX8_canDo_134 (fun x28 w27 hF => ?_)
                                              refine x_if_ne (pc := 137) C 144 dX8_canDo_137 rfl hF (fun c29 hF => ?_) (fun c29 hF => ?_)
                                              · refine x_iconst (pc := 144) C 0 dX8_canDo_144 ki_0 ?_
                                                obtain ⟨rfl, rfl⟩ := ret_eq hF
                                                exact x_zret (pc := 145) C rfl hr rfl (fun _ h => h) dX8_canDo_145
                                              · refine x_iconst (pc := 140) C 1 dX8_canDo_140 ki_1 ?_
                                                refine x_goto (pc := 141) C 145 dX8_canDo_141 rfl ?_
                                                obtain ⟨rfl, rfl⟩ := ret_eq hF
                                                exact x_zret (pc := 145) C rfl hr rfl (fun _ h => h) dX8_canDo_145
                                            · rw [if_neg c25] at hF
                                              refine x_tabOut (pc := 4) C 327 dX8_canDo_4 (by omega) rfl ?_
                                              refine x_aload_n (pc := 327) C 0 dX8_canDo_327 rfl rfl ?_
                                              refine cV1_0 (pc := 328) (val := Value.int) C hF (fun _ _ h => c_X8_lateOnes l G b  h) vm_X8_lateOnes wq431 rfl rfl ⟨Nat.le_of_ble_eq_true rfl, Nat.le_of_ble_eq_true rfl⟩ rfl rfl (fun _ h => CW.md h) (Nat.le_of_ble_eq_true rfl) ⟨Nat.le_refl _, Nat.le_refl _⟩ dX8_canDo_328 (fun x2 w1 hF => ?_)
                                              refine x_if_ne (pc := 331) C 338 dX8_canDo_331 rfl hF (fun c3 hF => ?_) (fun c3 hF => ?_)
                                              · refine x_iconst (pc := 338) C 0 dX8_canDo_338 ki_0 ?_
                                                obtain ⟨rfl, rfl⟩ := ret_eq hF
                                                exact x_zret (pc := 339) C rfl hr rfl (fun _ h => h) dX8_canDo_339
                                              · refine x_iconst (pc := 334) C 1 dX8_canDo_334 ki_1 ?_
                                                refine x_goto (pc := 335) C 339 dX8_canDo_335 rfl ?_
                                                obtain ⟨rfl, rfl⟩ := ret_eq hF
                                                exact x_zret (pc := 339) C rfl hr rfl (fun _ h => h) dX8_canDo_339
set_option maxRecDepth 4000 in
theorem s_X8_hooksOf_5 (C : xC p m c s args meth G b cX8_hooksOf 5 RX8)    : ∀ (n9 : Nat) (l1 : Int32) (l2 : Int32) (l3 : Int32) (l4 : Int32) (w : xWt) (o : (Int32 × Int32)) (w' : xWt), L_X8_hooksOf_5  n9 l1 l2 l3 l4 w = some (o, w') → xW p l e (xR 2) s m args below meth c Q b 5 (CW G b w') 0 0 37 [(0, .ref (mdb b)), (1, .int (l1)), (2, .int (l2)), (3, .int (o.1)), (4, .int (o.2))] [] → xW p l e (xR 2) s m args below meth c Q b 5 (CW G b w) 0 0 5 [(0, .ref (mdb b)), (1, .int (l1)), (2, .int (l2)), (3, .int (l3)), (4, .int (l4))] [] := by
  intro n9
  induction n9 with
  | zero => intro l1 l2 l3 l4 w o w' hF; exact none_ne (show none = some _ from hF)
  | succ n9 ih =>
    intro l1 l2 l3 l4 w o w' hF kx
    replace hF : B_X8_hooksOf_5  (L_X8_hooksOf_5  n9) l1 l2 l3 l4 w = some (o, w') := hF
    unfold B_X8_hooksOf_5 at hF
    refine x_iload (pc := 5) C 4 dX8_hooksOf_5 rfl ?_
    refine x_iconst (pc := 7) C 3 dX8_hooksOf_7 ki_3 ?_
    refine x_icmp_ge (pc := 8) C 37 dX8_hooksOf_8 rfl hF (fun c4 hF => ?_) (fun c4 hF => ?_)
    · obtain ⟨rfl, rfl⟩ := ret_eq hF
      exact x_sub [0, 1, 2, 3, 4] rfl kx
    · refine x_iload_n (pc := 11) C 3 dX8_hooksOf_11 rfl rfl ?_
      refine x_aload_n (pc := 12) C 0 dX8_hooksOf_12 rfl rfl ?_
      refine x_iload_n (pc := 13) C 1 dX8_hooksOf_13 rfl rfl ?_
      refine x_iload (pc := 14) C 4 dX8_hooksOf_14 rfl ?_
      refine x_iconst (pc := 16) C 0 dX8_hooksOf_16 ki_0 ?_
      refine cV1_3 (pc := 17) (val := Value.int) C hF (fun _ _ h => c_X8_ofHook l G b  _ _ _ h) vm_X8_ofHook wq403 rfl rfl ⟨Nat.le_of_ble_eq_true rfl, Nat.le_of_ble_eq_true rfl⟩ rfl rfl (fun _ h => CW.md h) (Nat.le_of_ble_eq_true rfl) ⟨Nat.le_refl _, Nat.le_refl _⟩ dX8_hooksOf_17 (fun x2 w1 hF => ?_)
      refine x_iload_n (pc := 20) C 2 dX8_hooksOf_20 rfl rfl ?_
      refine x_icmp_ne (pc := 21) C 28 dX8_hooksOf_21 rfl hF (fun c3 hF => ?_) (fun c3 hF => ?_)
      · refine x_iconst (pc := 28) C 0 dX8_hooksOf_28 ki_0 ?_
        refine x_iadd (pc := 29) C dX8_hooksOf_29 ?_
        refine x_istore_n (pc := 30) C [(3, .int ((l3 + 0))), (0, .ref (mdb b)), (1, .int (l1)), (2, .int (l2)), (4, .int (l4))] dX8_hooksOf_30 rfl (by decide) rfl ?_
        refine x_iinc (pc := 31) C 4 [(4, .int ((l4 + 1))), (3, .int ((l3 + 0))), (0, .ref (mdb b)), (1, .int (l1)), (2, .int (l2))] dX8_hooksOf_31 rfl rfl (by decide) rfl ?_
        refine x_goto (pc := 34) C 5 dX8_hooksOf_34 rfl ?_
        exact x_sub [2, 3, 4, 1, 0] rfl (ih _ _ _ _ _ _ _ hF kx)
      · refine x_iconst (pc := 24) C 1 dX8_hooksOf_24 ki_1 ?_
        refine x_goto (pc := 25) C 29 dX8_hooksOf_25 rfl ?_
        refine x_iadd (pc := 29) C dX8_hooksOf_29 ?_
        refine x_istore_n (pc := 30) C [(3, .int ((l3 + 1))), (0, .ref (mdb b)), (1, .int (l1)), (2, .int (l2)), (4, .int (l4))] dX8_hooksOf_30 rfl (by decide) rfl ?_
        refine x_iinc (pc := 31) C 4 [(4, .int ((l4 + 1))), (3, .int ((l3 + 1))), (0, .ref (mdb b)), (1, .int (l1)), (2, .int (l2))] dX8_hooksOf_31 rfl rfl (by decide) rfl ?_
        refine x_goto (pc := 34) C 5 dX8_hooksOf_34 rfl ?_
        exact x_sub [2, 3, 4, 1, 0] rfl (ih _ _ _ _ _ _ _ hF kx)
set_option maxRecDepth 4000 in
theorem c_X8_hooksOf (l : Launch) (G : xG) (b : Nat)     (a1 : Int32) (a2 : Int32) {w w' : xWt} {v : Int32} (hF : F_X8_hooksOf a1 a2 w = some (v, w')) : xMet l G b yX8_hooksOf cX8_hooksOf 5 (some .int) (xR 2) [.ref (mdb b), .int (a1), .int (a2)] (CW G b w) (some (.int v)) (CW G b w') 0 0 := by
  refine x_of (own := RX8) rfl (plainFor_of_name pn_X8) (Nat.le_of_ble_eq_true rfl) ?_
  intro p e s m args below meth c ha C hr _
  unfold F_X8_hooksOf at hF
  refine x_iconst (pc := 0) C 0 dX8_hooksOf_0 ki_0 ?_
  refine x_istore_n (pc := 1) C [(3, .int (0)), (0, .ref (mdb b)), (1, .int (a1)), (2, .int (a2))] dX8_hooksOf_1 rfl (by decide) rfl ?_
  refine x_iconst (pc := 2) C 0 dX8_hooksOf_2 ki_0 ?_
  refine x_istore (pc := 3) C [(4, .int (0)), (3, .int (0)), (0, .ref (mdb b)), (1, .int (a1)), (2, .int (a2))] dX8_hooksOf_3 (by decide) rfl ?_
  obtain ⟨o5, w6, hL, hF⟩ := bd_some hF
  refine x_sub [2, 3, 4, 1, 0] rfl (s_X8_hooksOf_5 C  _ _ _ _ _ _ _ _ hL ?_)
  refine x_iload_n (pc := 37) C 3 dX8_hooksOf_37 rfl rfl ?_
  obtain ⟨rfl, rfl⟩ := ret_eq hF
  exact x_iret (pc := 38) C hr rfl (fun _ h => h) dX8_hooksOf_38
set_option maxRecDepth 4000 in
theorem c_X8_childNow (l : Launch) (G : xG) (b : Nat)     (a1 : Int32) (a2 : Int32) {w w' : xWt} {v : Int32} (hF : F_X8_childNow a1 a2 w = some (v, w')) : xMet l G b yX8_childNow cX8_childNow 3 (some .int) (xR 3) [.ref (mdb b), .int (a1), .int (a2)] (CW G b w) (some (.int v)) (CW G b w') 0 0 := by
  refine x_of (own := RX8) rfl (plainFor_of_name pn_X8) (Nat.le_of_ble_eq_true rfl) ?_
  intro p e s m args below meth c ha C hr _
  unfold F_X8_childNow at hF
  refine x_iload_n (pc := 0) C 2 dX8_childNow_0 rfl rfl ?_
  by_cases c3 : (a2).toInt = 0
  · rw [if_pos c3] at hF
    refine x_tabIn (pc := 1) C 44 dX8_childNow_1 c3 (by decide) (by decide) rfl rfl ?_
    refine x_aload_n (pc := 44) C 0 dX8_childNow_44 rfl rfl ?_
    refine x_iload_n (pc := 45) C 1 dX8_childNow_45 rfl rfl ?_
    refine x_iconst (pc := 46) C 1 dX8_childNow_46 ki_1 ?_
    refine cV1_2 (pc := 47) (val := Value.int) C hF (fun _ _ h => c_X8_ofChild l G b  _ _ h) vm_X8_ofChild wq221 rfl rfl ⟨Nat.le_of_ble_eq_true rfl, Nat.le_of_ble_eq_true rfl⟩ rfl rfl (fun _ h => CW.md h) (Nat.le_of_ble_eq_true rfl) ⟨Nat.le_refl _, Nat.le_refl _⟩ dX8_childNow_47 (fun x23 w22 hF => ?_)
    obtain ⟨rfl, rfl⟩ := ret_eq hF
    exact x_iret (pc := 50) C hr rfl (fun _ h => h) dX8_childNow_50
  · rw [if_neg c3] at hF
    by_cases c4 : (a2).toInt = 1
    · rw [if_pos c4] at hF
      refine x_tabIn (pc := 1) C 51 dX8_childNow_1 c4 (by decide) (by decide) rfl rfl ?_
      refine x_aload_n (pc := 51) C 0 dX8_childNow_51 rfl rfl ?_
      refine x_iload_n (pc := 52) C 1 dX8_childNow_52 rfl rfl ?_
      refine x_iconst (pc := 53) C 2 dX8_childNow_53 ki_2 ?_
      refine cV1_2 (pc := 54) (val := Value.int) C hF (fun _ _ h => c_X8_ofChild l G b  _ _ h) vm_X8_ofChild wq221 rfl rfl ⟨Nat.le_of_ble_eq_true rfl, Nat.le_of_ble_eq_true rfl⟩ rfl rfl (fun _ h => CW.md h) (Nat.le_of_ble_eq_true rfl) ⟨Nat.le_refl _, Nat.le_refl _⟩ dX8_childNow_54 (fun x21 w20 hF => ?_)
      obtain ⟨rfl, rfl⟩ := ret_eq hF
      exact x_iret (pc := 57) C hr rfl (fun _ h => h) dX8_childNow_57
    · rw [if_neg c4] at hF
      by_cases c5 : (a2).toInt = 2
      · rw [if_pos c5] at hF
        refine x_tabIn (pc := 1) C 58 dX8_childNow_1 c5 (by decide) (by decide) rfl rfl ?_
        refine x_aload_n (pc := 58) C 0 dX8_childNow_58 rfl rfl ?_
        refine x_iload_n (pc := 59) C 1 dX8_childNow_59 rfl rfl ?_
        refine x_iconst (pc := 60) C 2 dX8_childNow_60 ki_2 ?_
        refine cV1_2 (pc := 61) (val := Value.int) C hF (fun _ _ h => c_X8_hooksOf l G b  _ _ h) vm_X8_hooksOf wq399 rfl rfl ⟨Nat.le_of_ble_eq_true rfl, Nat.le_of_ble_eq_true rfl⟩ rfl rfl (fun _ h => CW.md h) (Nat.le_of_ble_eq_true rfl) ⟨Nat.le_refl _, Nat.le_refl _⟩ dX8_childNow_61 (fun x19 w18 hF => ?_)
        obtain ⟨rfl, rfl⟩ := ret_eq hF
        exact x_iret (pc := 64) C hr rfl (fun _ h => h) dX8_childNow_64
      · rw [if_neg c5] at hF
        by_cases c6 : (a2).toInt = 3
        · rw [if_pos c6] at hF
          refine x_tabIn (pc := 1) C 65 dX8_childNow_1 c6 (by decide) (by decide) rfl rfl ?_
          refine x_aload_n (pc := 65) C 0 dX8_childNow_65 rfl rfl ?_
          refine x_iload_n (pc := 66) C 1 dX8_childNow_66 rfl rfl ?_
          refine x_iconst (pc := 67) C 1 dX8_childNow_67 ki_1 ?_
          refine cV1_2 (pc := 68) (val := Value.int) C hF (fun _ _ h => c_X8_hooksOf l G b  _ _ h) vm_X8_hooksOf wq399 rfl rfl ⟨Nat.le_of_ble_eq_true rfl, Nat.le_of_ble_eq_true rfl⟩ rfl rfl (fun _ h => CW.md h) (Nat.le_of_ble_eq_true rfl) ⟨Nat.le_refl _, Nat.le_refl _⟩ dX8_childNow_68 (fun x17 w16 hF => ?_)
          obtain ⟨rfl, rfl⟩ := ret_eq hF
          exact x_iret (pc := 71) C hr rfl (fun _ h => h) dX8_childNow_71
        · rw [if_neg c6] at hF
          by_cases c7 : (a2).toInt = 4
          · rw [if_pos c7] at hF
            refine x_tabIn (pc := 1) C 72 dX8_childNow_1 c7 (by decide) (by decide) rfl rfl ?_
            refine x_aload_n (pc := 72) C 0 dX8_childNow_72 rfl rfl ?_
            refine x_iload_n (pc := 73) C 1 dX8_childNow_73 rfl rfl ?_
            refine cV1_1 (pc := 74) (val := Value.int) C hF (fun _ _ h => c_X8_heapOf l G b  _ h) vm_X8_heapOf wq674 rfl rfl ⟨Nat.le_of_ble_eq_true rfl, Nat.le_of_ble_eq_true rfl⟩ rfl rfl (fun _ h => CW.md h) (Nat.le_of_ble_eq_true rfl) ⟨Nat.le_refl _, Nat.le_refl _⟩ dX8_childNow_74 (fun x15 w14 hF => ?_)
            obtain ⟨rfl, rfl⟩ := ret_eq hF
            exact x_iret (pc := 77) C hr rfl (fun _ h => h) dX8_childNow_77
          · rw [if_neg c7] at hF
            by_cases c8 : (a2).toInt = 5
            · rw [if_pos c8] at hF
              refine x_tabIn (pc := 1) C 78 dX8_childNow_1 c8 (by decide) (by decide) rfl rfl ?_
              refine x_aload_n (pc := 78) C 0 dX8_childNow_78 rfl rfl ?_
              refine x_iload_n (pc := 79) C 1 dX8_childNow_79 rfl rfl ?_
              refine x_iconst (pc := 80) C 3 dX8_childNow_80 ki_3 ?_
              refine cV1_2 (pc := 81) (val := Value.int) C hF (fun _ _ h => c_X8_ofChild l G b  _ _ h) vm_X8_ofChild wq221 rfl rfl ⟨Nat.le_of_ble_eq_true rfl, Nat.le_of_ble_eq_true rfl⟩ rfl rfl (fun _ h => CW.md h) (Nat.le_of_ble_eq_true rfl) ⟨Nat.le_refl _, Nat.le_refl _⟩ dX8_childNow_81 (fun x13 w12 hF => ?_)
              obtain ⟨rfl, rfl⟩ := ret_eq hF
              exact x_iret (pc := 84) C hr rfl (fun _ h => h) dX8_childNow_84
            · rw [if_neg c8] at hF
              by_cases c9 : (a2).toInt = 6
              · rw [if_pos c9] at hF
                refine x_tabIn (pc := 1) C 85 dX8_childNow_1 c9 (by decide) (by decide) rfl rfl ?_
                refine x_aload_n (pc := 85) C 0 dX8_childNow_85 rfl rfl ?_
                refine x_iload_n (pc := 86) C 1 dX8_childNow_86 rfl rfl ?_
                refine x_iconst (pc := 87) C 4 dX8_childNow_87 ki_4 ?_
                refine cV1_2 (pc := 88) (val := Value.int) C hF (fun _ _ h => c_X8_ofChild l G b  _ _ h) vm_X8_ofChild wq221 rfl rfl ⟨Nat.le_of_ble_eq_true rfl, Nat.le_of_ble_eq_true rfl⟩ rfl rfl (fun _ h => CW.md h) (Nat.le_of_ble_eq_true rfl) ⟨Nat.le_refl _, Nat.le_refl _⟩ dX8_childNow_88 (fun x11 w10 hF => ?_)
                obtain ⟨rfl, rfl⟩ := ret_eq hF
                exact x_iret (pc := 91) C hr rfl (fun _ h => h) dX8_childNow_91
              · rw [if_neg c9] at hF
                refine x_tabOut (pc := 1) C 92 dX8_childNow_1 (by omega) rfl ?_
                refine x_aload_n (pc := 92) C 0 dX8_childNow_92 rfl rfl ?_
                refine x_iload_n (pc := 93) C 1 dX8_childNow_93 rfl rfl ?_
                refine x_iconst (pc := 94) C 5 dX8_childNow_94 ki_5 ?_
                refine cV1_2 (pc := 95) (val := Value.int) C hF (fun _ _ h => c_X8_ofChild l G b  _ _ h) vm_X8_ofChild wq221 rfl rfl ⟨Nat.le_of_ble_eq_true rfl, Nat.le_of_ble_eq_true rfl⟩ rfl rfl (fun _ h => CW.md h) (Nat.le_of_ble_eq_true rfl) ⟨Nat.le_refl _, Nat.le_refl _⟩ dX8_childNow_95 (fun x2 w1 hF => ?_)
                obtain ⟨rfl, rfl⟩ := ret_eq hF
                exact x_iret (pc := 98) C hr rfl (fun _ h => h) dX8_childNow_98
set_option maxRecDepth 4000 in
theorem c_X8_child (l : Launch) (G : xG) (b : Nat)     (a1 : Int32) (a2 : Int32) {w w' : xWt} {v : Int32} (hF : F_X8_child a1 a2 w = some (v, w')) : xMet l G b yX8_child cX8_child 3 (some .int) (xR 4) [.ref (mdb b), .int (a1), .int (a2)] (CW G b w) (some (.int v)) (CW G b w') 0 0 := by
  refine x_of (own := RX8) rfl (plainFor_of_name pn_X8) (Nat.le_of_ble_eq_true rfl) ?_
  intro p e s m args below meth c ha C hr _
  unfold F_X8_child at hF
  refine x_aload_n (pc := 0) C 0 dX8_child_0 rfl rfl ?_
  refine x_aload_n (pc := 1) C 0 dX8_child_1 rfl rfl ?_
  refine x_iload_n (pc := 2) C 1 dX8_child_2 rfl rfl ?_
  refine cV1_1 (pc := 3) (val := Value.int) C hF (fun _ _ h => c_X8_isChild l G b  _ h) vm_X8_isChild wq303 rfl rfl ⟨Nat.le_of_ble_eq_true rfl, Nat.le_of_ble_eq_true rfl⟩ rfl rfl (fun _ h => CW.md h) (Nat.le_of_ble_eq_true rfl) ⟨Nat.le_refl _, Nat.le_refl _⟩ dX8_child_3 (fun x2 w1 hF => ?_)
  refine x_if_ne (pc := 6) C 13 dX8_child_6 rfl hF (fun c18 hF => ?_) (fun c18 hF => ?_)
  · refine x_iload_n (pc := 13) C 2 dX8_child_13 rfl rfl ?_
    refine x_iconst (pc := 14) C 0 dX8_child_14 ki_0 ?_
    refine x_bipush (pc := 15) C 7 dX8_child_15 kb_7 ?_
    refine cS1_3 (pc := 17) (val := Value.int) C hF (fun _ _ h => c_X8_in l G b  _ _ _ h) sm_X8_in wq307 rfl rfl ⟨Nat.le_of_ble_eq_true rfl, Nat.le_of_ble_eq_true rfl⟩ (Nat.le_of_ble_eq_true rfl) ⟨Nat.le_refl _, Nat.le_refl _⟩ dX8_child_17 (fun x4 w3 hF => ?_)
    refine x_if_eq (pc := 20) C 27 dX8_child_20 rfl hF (fun c13 hF => ?_) (fun c13 hF => ?_)
    · refine x_iconst (pc := 27) C 2 dX8_child_27 ki_2 ?_
      refine pf_X8_33 (pc := 28) C   hF dX8_child_28 (fun w5 hF => ?_)
      refine x_aload_n (pc := 31) C 0 dX8_child_31 rfl rfl ?_
      refine gf_X8_33 (pc := 32) C  dX8_child_32 ?_
      refine x_if_le (pc := 35) C 42 dX8_child_35 rfl hF (fun c8 hF => ?_) (fun c8 hF => ?_)
      · refine x_aload_n (pc := 42) C 0 dX8_child_42 rfl rfl ?_
        refine x_iload_n (pc := 43) C 1 dX8_child_43 rfl rfl ?_
        refine x_iload_n (pc := 44) C 2 dX8_child_44 rfl rfl ?_
        refine cV1_2 (pc := 45) (val := Value.int) C hF (fun _ _ h => c_X8_childNow l G b  _ _ h) vm_X8_childNow wq1020 rfl rfl ⟨Nat.le_of_ble_eq_true rfl, Nat.le_of_ble_eq_true rfl⟩ rfl rfl (fun _ h => CW.md h) (Nat.le_of_ble_eq_true rfl) ⟨Nat.le_refl _, Nat.le_refl _⟩ dX8_child_45 (fun x7 w6 hF => ?_)
        obtain ⟨rfl, rfl⟩ := ret_eq hF
        exact x_iret (pc := 48) C hr rfl (fun _ h => h) dX8_child_48
      · refine x_iconst (pc := 38) C 0 dX8_child_38 ki_0 ?_
        refine x_goto (pc := 39) C 48 dX8_child_39 rfl ?_
        obtain ⟨rfl, rfl⟩ := ret_eq hF
        exact x_iret (pc := 48) C hr rfl (fun _ h => h) dX8_child_48
    · refine x_iconst (pc := 23) C 0 dX8_child_23 ki_0 ?_
      refine x_goto (pc := 24) C 28 dX8_child_24 rfl ?_
      refine pf_X8_33 (pc := 28) C   hF dX8_child_28 (fun w9 hF => ?_)
      refine x_aload_n (pc := 31) C 0 dX8_child_31 rfl rfl ?_
      refine gf_X8_33 (pc := 32) C  dX8_child_32 ?_
      refine x_if_le (pc := 35) C 42 dX8_child_35 rfl hF (fun c12 hF => ?_) (fun c12 hF => ?_)
      · refine x_aload_n (pc := 42) C 0 dX8_child_42 rfl rfl ?_
        refine x_iload_n (pc := 43) C 1 dX8_child_43 rfl rfl ?_
        refine x_iload_n (pc := 44) C 2 dX8_child_44 rfl rfl ?_
        refine cV1_2 (pc := 45) (val := Value.int) C hF (fun _ _ h => c_X8_childNow l G b  _ _ h) vm_X8_childNow wq1020 rfl rfl ⟨Nat.le_of_ble_eq_true rfl, Nat.le_of_ble_eq_true rfl⟩ rfl rfl (fun _ h => CW.md h) (Nat.le_of_ble_eq_true rfl) ⟨Nat.le_refl _, Nat.le_refl _⟩ dX8_child_45 (fun x11 w10 hF => ?_)
        obtain ⟨rfl, rfl⟩ := ret_eq hF
        exact x_iret (pc := 48) C hr rfl (fun _ h => h) dX8_child_48
      · refine x_iconst (pc := 38) C 0 dX8_child_38 ki_0 ?_
        refine x_goto (pc := 39) C 48 dX8_child_39 rfl ?_
        obtain ⟨rfl, rfl⟩ := ret_eq hF
        exact x_iret (pc := 48) C hr rfl (fun _ h => h) dX8_child_48
  · refine x_iconst (pc := 9) C 1 dX8_child_9 ki_1 ?_
    refine x_goto (pc := 10) C 28 dX8_child_10 rfl ?_
    refine pf_X8_33 (pc := 28) C   hF dX8_child_28 (fun w14 hF => ?_)
    refine x_aload_n (pc := 31) C 0 dX8_child_31 rfl rfl ?_
    refine gf_X8_33 (pc := 32) C  dX8_child_32 ?_
    refine x_if_le (pc := 35) C 42 dX8_child_35 rfl hF (fun c17 hF => ?_) (fun c17 hF => ?_)
    · refine x_aload_n (pc := 42) C 0 dX8_child_42 rfl rfl ?_
      refine x_iload_n (pc := 43) C 1 dX8_child_43 rfl rfl ?_
      refine x_iload_n (pc := 44) C 2 dX8_child_44 rfl rfl ?_
      refine cV1_2 (pc := 45) (val := Value.int) C hF (fun _ _ h => c_X8_childNow l G b  _ _ h) vm_X8_childNow wq1020 rfl rfl ⟨Nat.le_of_ble_eq_true rfl, Nat.le_of_ble_eq_true rfl⟩ rfl rfl (fun _ h => CW.md h) (Nat.le_of_ble_eq_true rfl) ⟨Nat.le_refl _, Nat.le_refl _⟩ dX8_child_45 (fun x16 w15 hF => ?_)
      obtain ⟨rfl, rfl⟩ := ret_eq hF
      exact x_iret (pc := 48) C hr rfl (fun _ h => h) dX8_child_48
    · refine x_iconst (pc := 38) C 0 dX8_child_38 ki_0 ?_
      refine x_goto (pc := 39) C 48 dX8_child_39 rfl ?_
      obtain ⟨rfl, rfl⟩ := ret_eq hF
      exact x_iret (pc := 48) C hr rfl (fun _ h => h) dX8_child_48
set_option maxRecDepth 4000 in
theorem s_X8_children_4 (C : xC p m c s args meth G b cX8_children 3 RX8)    : ∀ (n9 : Nat) (l1 : Int32) (l2 : Int32) (w : xWt) (o : (Int32 × Int32)) (w' : xWt), L_X8_children_4  n9 l1 l2 w = some (o, w') → xW p l e (xR 1) s m args below meth c Q b 3 (CW G b w') 0 0 24 [(0, .ref (mdb b)), (1, .int (o.1)), (2, .int (o.2))] [] → xW p l e (xR 1) s m args below meth c Q b 3 (CW G b w) 0 0 4 [(0, .ref (mdb b)), (1, .int (l1)), (2, .int (l2))] [] := by
  intro n9
  induction n9 with
  | zero => intro l1 l2 w o w' hF; exact none_ne (show none = some _ from hF)
  | succ n9 ih =>
    intro l1 l2 w o w' hF kx
    replace hF : B_X8_children_4  (L_X8_children_4  n9) l1 l2 w = some (o, w') := hF
    unfold B_X8_children_4 at hF
    refine x_iload_n (pc := 4) C 2 dX8_children_4 rfl rfl ?_
    refine x_iconst (pc := 5) C 5 dX8_children_5 ki_5 ?_
    refine x_icmp_ge (pc := 6) C 24 dX8_children_6 rfl hF (fun c3 hF => ?_) (fun c3 hF => ?_)
    · obtain ⟨rfl, rfl⟩ := ret_eq hF
      exact x_sub [0, 1, 2] rfl kx
    · refine x_iload_n (pc := 9) C 1 dX8_children_9 rfl rfl ?_
      refine x_aload_n (pc := 10) C 0 dX8_children_10 rfl rfl ?_
      refine x_iload_n (pc := 11) C 2 dX8_children_11 rfl rfl ?_
      refine x_iconst (pc := 12) C 0 dX8_children_12 ki_0 ?_
      refine cV1_2 (pc := 13) (val := Value.int) C hF (fun _ _ h => c_X8_ofChild l G b  _ _ h) vm_X8_ofChild wq221 rfl rfl ⟨Nat.le_of_ble_eq_true rfl, Nat.le_of_ble_eq_true rfl⟩ rfl rfl (fun _ h => CW.md h) (Nat.le_of_ble_eq_true rfl) ⟨Nat.le_refl _, Nat.le_refl _⟩ dX8_children_13 (fun x2 w1 hF => ?_)
      refine x_iadd (pc := 16) C dX8_children_16 ?_
      refine x_istore_n (pc := 17) C [(1, .int ((l1 + x2))), (0, .ref (mdb b)), (2, .int (l2))] dX8_children_17 rfl (by decide) rfl ?_
      refine x_iinc (pc := 18) C 2 [(2, .int ((l2 + 1))), (1, .int ((l1 + x2))), (0, .ref (mdb b))] dX8_children_18 rfl rfl (by decide) rfl ?_
      refine x_goto (pc := 21) C 4 dX8_children_21 rfl ?_
      exact x_sub [2, 1, 0] rfl (ih _ _ _ _ _ hF kx)
set_option maxRecDepth 4000 in
theorem c_X8_children (l : Launch) (G : xG) (b : Nat)      {w w' : xWt} {v : Int32} (hF : F_X8_children  w = some (v, w')) : xMet l G b yX8_children cX8_children 3 (some .int) (xR 1) [.ref (mdb b)] (CW G b w) (some (.int v)) (CW G b w') 0 0 := by
  refine x_of (own := RX8) rfl (plainFor_of_name pn_X8) (Nat.le_of_ble_eq_true rfl) ?_
  intro p e s m args below meth c ha C hr _
  unfold F_X8_children at hF
  refine x_iconst (pc := 0) C 0 dX8_children_0 ki_0 ?_
  refine x_istore_n (pc := 1) C [(1, .int (0)), (0, .ref (mdb b))] dX8_children_1 rfl (by decide) rfl ?_
  refine x_iconst (pc := 2) C 0 dX8_children_2 ki_0 ?_
  refine x_istore_n (pc := 3) C [(2, .int (0)), (1, .int (0)), (0, .ref (mdb b))] dX8_children_3 rfl (by decide) rfl ?_
  obtain ⟨o4, w5, hL, hF⟩ := bd_some hF
  refine x_sub [2, 1, 0] rfl (s_X8_children_4 C  _ _ _ _ _ _ hL ?_)
  refine x_iload_n (pc := 24) C 1 dX8_children_24 rfl rfl ?_
  obtain ⟨rfl, rfl⟩ := ret_eq hF
  exact x_iret (pc := 25) C hr rfl (fun _ h => h) dX8_children_25
set_option maxRecDepth 4000 in
theorem c_X8_clearBuffer (l : Launch) (G : xG) (b : Nat)      {w w' : xWt} {v : Int32} (hF : F_X8_clearBuffer  w = some (v, w')) : xMet l G b yX8_clearBuffer cX8_clearBuffer 2 (some .int) (xR 0) [.ref (mdb b)] (CW G b w) (some (.int v)) (CW G b w') 0 0 := by
  refine x_of (own := RX8) rfl (plainFor_of_name pn_X8) (Nat.le_of_ble_eq_true rfl) ?_
  intro p e s m args below meth c ha C hr _
  unfold F_X8_clearBuffer at hF
  refine x_aload_n (pc := 0) C 0 dX8_clearBuffer_0 rfl rfl ?_
  refine x_iconst (pc := 1) C 0 dX8_clearBuffer_1 ki_0 ?_
  refine pf_X8_33 (pc := 2) C   hF dX8_clearBuffer_2 (fun w1 hF => ?_)
  refine x_aload_n (pc := 5) C 0 dX8_clearBuffer_5 rfl rfl ?_
  refine gf_X8_179 (pc := 6) C  dX8_clearBuffer_6 ?_
  refine x_istore_n (pc := 9) C [(1, .int ((w1.2.1 9 3))), (0, .ref (mdb b))] dX8_clearBuffer_9 rfl (by decide) rfl ?_
  refine x_aload_n (pc := 10) C 1 dX8_clearBuffer_10 rfl rfl ?_
  refine x_iconst (pc := 11) C 0 dX8_clearBuffer_11 ki_0 ?_
  refine pf_X8_179 (pc := 12) C   hF dX8_clearBuffer_12 (fun w2 hF => ?_)
  refine x_iload_n (pc := 15) C 0 dX8_clearBuffer_15 rfl rfl ?_
  obtain ⟨rfl, rfl⟩ := ret_eq hF
  exact x_iret (pc := 16) C hr rfl (fun _ h => h) dX8_clearBuffer_16
set_option maxRecDepth 4000 in
theorem c_X8_setChild (l : Launch) (G : xG) (b : Nat)     (a1 : Int32) (a2 : Int32) (a3 : Int32) {w w' : xWt}  (hF : F_X8_setChild a1 a2 a3 w = some ((), w')) : xMet l G b yX8_setChild cX8_setChild 4 none (xR 0) [.ref (mdb b), .int (a1), .int (a2), .int (a3)] (CW G b w) none (CW G b w') 0 0 := by
  refine x_of (own := RX8) rfl (plainFor_of_name pn_X8) (Nat.le_of_ble_eq_true rfl) ?_
  intro p e s m args below meth c ha C hr _
  unfold F_X8_setChild at hF
  refine x_aload_n (pc := 0) C 0 dX8_setChild_0 rfl rfl ?_
  refine gf_X8_7 (pc := 1) C  dX8_setChild_1 ?_
  refine x_sipush (pc := 4) C 742 dX8_setChild_4 ks_742 ?_
  refine x_bipush (pc := 7) C 15 dX8_setChild_7 kb_15 ?_
  refine x_iload_n (pc := 9) C 1 dX8_setChild_9 rfl rfl ?_
  refine x_imul (pc := 10) C dX8_setChild_10 ?_
  refine x_iadd (pc := 11) C dX8_setChild_11 ?_
  refine x_iload_n (pc := 12) C 2 dX8_setChild_12 rfl rfl ?_
  refine x_iadd (pc := 13) C dX8_setChild_13 ?_
  refine x_iload_n (pc := 14) C 3 dX8_setChild_14 rfl rfl ?_
  refine w_ast (pc := 15) C (vA_m 0 (by decide)) hF dX8_setChild_15 (fun w1 hF => ?_)
  obtain ⟨-, rfl⟩ := ret_eq hF
  exact x_vret (pc := 16) C hr (fun _ h => h) dX8_setChild_16
set_option maxRecDepth 4000 in
theorem c_X8_setHook (l : Launch) (G : xG) (b : Nat)     (a1 : Int32) (a2 : Int32) (a3 : Int32) (a4 : Int32) (a5 : Int32) {w w' : xWt}  (hF : F_X8_setHook a1 a2 a3 a4 a5 w = some ((), w')) : xMet l G b yX8_setHook cX8_setHook 6 none (xR 1) [.ref (mdb b), .int (a1), .int (a2), .int (a3), .int (a4), .int (a5)] (CW G b w) none (CW G b w') 0 0 := by
  refine x_of (own := RX8) rfl (plainFor_of_name pn_X8) (Nat.le_of_ble_eq_true rfl) ?_
  intro p e s m args below meth c ha C hr _
  unfold F_X8_setHook at hF
  refine x_aload_n (pc := 0) C 0 dX8_setHook_0 rfl rfl ?_
  refine x_iload_n (pc := 1) C 1 dX8_setHook_1 rfl rfl ?_
  refine x_bipush (pc := 2) C 6 dX8_setHook_2 kb_6 ?_
  refine x_iconst (pc := 4) C 3 dX8_setHook_4 ki_3 ?_
  refine x_iload_n (pc := 5) C 2 dX8_setHook_5 rfl rfl ?_
  refine x_imul (pc := 6) C dX8_setHook_6 ?_
  refine x_iadd (pc := 7) C dX8_setHook_7 ?_
  refine x_iconst (pc := 8) C 0 dX8_setHook_8 ki_0 ?_
  refine x_iadd (pc := 9) C dX8_setHook_9 ?_
  refine x_iload_n (pc := 10) C 3 dX8_setHook_10 rfl rfl ?_
  refine cV0_3 (pc := 11) C hF (fun _ _ h => c_X8_setChild l G b  _ _ _ h) vm_X8_setChild wq119 rfl rfl ⟨Nat.le_of_ble_eq_true rfl, Nat.le_of_ble_eq_true rfl⟩ rfl rfl (fun _ h => CW.md h) (Nat.le_of_ble_eq_true rfl) ⟨Nat.le_refl _, Nat.le_refl _⟩ dX8_setHook_11 (fun _ w1 hF => ?_)
  refine x_aload_n (pc := 14) C 0 dX8_setHook_14 rfl rfl ?_
  refine x_iload_n (pc := 15) C 1 dX8_setHook_15 rfl rfl ?_
  refine x_bipush (pc := 16) C 6 dX8_setHook_16 kb_6 ?_
  refine x_iconst (pc := 18) C 3 dX8_setHook_18 ki_3 ?_
  refine x_iload_n (pc := 19) C 2 dX8_setHook_19 rfl rfl ?_
  refine x_imul (pc := 20) C dX8_setHook_20 ?_
  refine x_iadd (pc := 21) C dX8_setHook_21 ?_
  refine x_iconst (pc := 22) C 1 dX8_setHook_22 ki_1 ?_
  refine x_iadd (pc := 23) C dX8_setHook_23 ?_
  refine x_iload (pc := 24) C 4 dX8_setHook_24 rfl ?_
  refine cV0_3 (pc := 26) C hF (fun _ _ h => c_X8_setChild l G b  _ _ _ h) vm_X8_setChild wq119 rfl rfl ⟨Nat.le_of_ble_eq_true rfl, Nat.le_of_ble_eq_true rfl⟩ rfl rfl (fun _ h => CW.md h) (Nat.le_of_ble_eq_true rfl) ⟨Nat.le_refl _, Nat.le_refl _⟩ dX8_setHook_26 (fun _ w2 hF => ?_)
  refine x_aload_n (pc := 29) C 0 dX8_setHook_29 rfl rfl ?_
  refine x_iload_n (pc := 30) C 1 dX8_setHook_30 rfl rfl ?_
  refine x_bipush (pc := 31) C 6 dX8_setHook_31 kb_6 ?_
  refine x_iconst (pc := 33) C 3 dX8_setHook_33 ki_3 ?_
  refine x_iload_n (pc := 34) C 2 dX8_setHook_34 rfl rfl ?_
  refine x_imul (pc := 35) C dX8_setHook_35 ?_
  refine x_iadd (pc := 36) C dX8_setHook_36 ?_
  refine x_iconst (pc := 37) C 2 dX8_setHook_37 ki_2 ?_
  refine x_iadd (pc := 38) C dX8_setHook_38 ?_
  refine x_iload (pc := 39) C 5 dX8_setHook_39 rfl ?_
  refine cV0_3 (pc := 41) C hF (fun _ _ h => c_X8_setChild l G b  _ _ _ h) vm_X8_setChild wq119 rfl rfl ⟨Nat.le_of_ble_eq_true rfl, Nat.le_of_ble_eq_true rfl⟩ rfl rfl (fun _ h => CW.md h) (Nat.le_of_ble_eq_true rfl) ⟨Nat.le_refl _, Nat.le_refl _⟩ dX8_setHook_41 (fun _ w3 hF => ?_)
  obtain ⟨-, rfl⟩ := ret_eq hF
  exact x_vret (pc := 44) C hr (fun _ h => h) dX8_setHook_44
set_option maxRecDepth 4000 in
theorem s_X8_emptyHooks_2 (C : xC p m c s args meth G b cX8_emptyHooks 3 RX8)    : ∀ (n9 : Nat) (l1 : Int32) (l2 : Int32) (w : xWt) (o : (Int32)) (w' : xWt), L_X8_emptyHooks_2  n9 l1 l2 w = some (o, w') → xW p l e (xR 2) s m args below meth c Q b 3 (CW G b w') 0 0 22 [(0, .ref (mdb b)), (1, .int (l1)), (2, .int (o))] [] → xW p l e (xR 2) s m args below meth c Q b 3 (CW G b w) 0 0 2 [(0, .ref (mdb b)), (1, .int (l1)), (2, .int (l2))] [] := by
  intro n9
  induction n9 with
  | zero => intro l1 l2 w o w' hF; exact none_ne (show none = some _ from hF)
  | succ n9 ih =>
    intro l1 l2 w o w' hF kx
    replace hF : B_X8_emptyHooks_2  (L_X8_emptyHooks_2  n9) l1 l2 w = some (o, w') := hF
    unfold B_X8_emptyHooks_2 at hF
    refine x_iload_n (pc := 2) C 2 dX8_emptyHooks_2 rfl rfl ?_
    refine x_iconst (pc := 3) C 3 dX8_emptyHooks_3 ki_3 ?_
    refine x_icmp_ge (pc := 4) C 22 dX8_emptyHooks_4 rfl hF (fun c2 hF => ?_) (fun c2 hF => ?_)
    · obtain ⟨rfl, rfl⟩ := ret_eq hF
      exact x_sub [0, 1, 2] rfl kx
    · refine x_aload_n (pc := 7) C 0 dX8_emptyHooks_7 rfl rfl ?_
      refine x_iload_n (pc := 8) C 1 dX8_emptyHooks_8 rfl rfl ?_
      refine x_iload_n (pc := 9) C 2 dX8_emptyHooks_9 rfl rfl ?_
      refine x_iconst (pc := 10) C 0 dX8_emptyHooks_10 ki_0 ?_
      refine x_iconst (pc := 11) C (-1) dX8_emptyHooks_11 ki_m1 ?_
      refine x_iconst (pc := 12) C (-1) dX8_emptyHooks_12 ki_m1 ?_
      refine cV0_5 (pc := 13) C hF (fun _ _ h => c_X8_setHook l G b  _ _ _ _ _ h) vm_X8_setHook wq127 rfl rfl ⟨Nat.le_of_ble_eq_true rfl, Nat.le_of_ble_eq_true rfl⟩ rfl rfl (fun _ h => CW.md h) (Nat.le_of_ble_eq_true rfl) ⟨Nat.le_refl _, Nat.le_refl _⟩ dX8_emptyHooks_13 (fun _ w1 hF => ?_)
      refine x_iinc (pc := 16) C 2 [(2, .int ((l2 + 1))), (0, .ref (mdb b)), (1, .int (l1))] dX8_emptyHooks_16 rfl rfl (by decide) rfl ?_
      refine x_goto (pc := 19) C 2 dX8_emptyHooks_19 rfl ?_
      exact x_sub [1, 2, 0] rfl (ih _ _ _ _ _ hF kx)
set_option maxRecDepth 4000 in
theorem c_X8_emptyHooks (l : Launch) (G : xG) (b : Nat)     (a1 : Int32) {w w' : xWt}  (hF : F_X8_emptyHooks a1 w = some ((), w')) : xMet l G b yX8_emptyHooks cX8_emptyHooks 3 none (xR 2) [.ref (mdb b), .int (a1)] (CW G b w) none (CW G b w') 0 0 := by
  refine x_of (own := RX8) rfl (plainFor_of_name pn_X8) (Nat.le_of_ble_eq_true rfl) ?_
  intro p e s m args below meth c ha C hr _
  unfold F_X8_emptyHooks at hF
  refine x_iconst (pc := 0) C 0 dX8_emptyHooks_0 ki_0 ?_
  refine x_istore_n (pc := 1) C [(2, .int (0)), (0, .ref (mdb b)), (1, .int (a1))] dX8_emptyHooks_1 rfl (by decide) rfl ?_
  obtain ⟨o3, w4, hL, hF⟩ := bd_some hF
  refine x_sub [1, 2, 0] rfl (s_X8_emptyHooks_2 C  _ _ _ _ _ _ hL ?_)
  obtain ⟨-, rfl⟩ := ret_eq hF
  exact x_vret (pc := 22) C hr (fun _ h => h) dX8_emptyHooks_22
set_option maxRecDepth 4000 in
theorem s_X8_clearChild_2 (C : xC p m c s args meth G b cX8_clearChild 3 RX8)    : ∀ (n9 : Nat) (l1 : Int32) (l2 : Int32) (w : xWt) (o : (Int32)) (w' : xWt), L_X8_clearChild_2  n9 l1 l2 w = some (o, w') → xW p l e (xR 3) s m args below meth c Q b 3 (CW G b w') 0 0 21 [(0, .ref (mdb b)), (1, .int (l1)), (2, .int (o))] [] → xW p l e (xR 3) s m args below meth c Q b 3 (CW G b w) 0 0 2 [(0, .ref (mdb b)), (1, .int (l1)), (2, .int (l2))] [] := by
  intro n9
  induction n9 with
  | zero => intro l1 l2 w o w' hF; exact none_ne (show none = some _ from hF)
  | succ n9 ih =>
    intro l1 l2 w o w' hF kx
    replace hF : B_X8_clearChild_2  (L_X8_clearChild_2  n9) l1 l2 w = some (o, w') := hF
    unfold B_X8_clearChild_2 at hF
    refine x_iload_n (pc := 2) C 2 dX8_clearChild_2 rfl rfl ?_
    refine x_bipush (pc := 3) C 6 dX8_clearChild_3 kb_6 ?_
    refine x_icmp_ge (pc := 5) C 21 dX8_clearChild_5 rfl hF (fun c2 hF => ?_) (fun c2 hF => ?_)
    · obtain ⟨rfl, rfl⟩ := ret_eq hF
      exact x_sub [0, 1, 2] rfl kx
    · refine x_aload_n (pc := 8) C 0 dX8_clearChild_8 rfl rfl ?_
      refine x_iload_n (pc := 9) C 1 dX8_clearChild_9 rfl rfl ?_
      refine x_iload_n (pc := 10) C 2 dX8_clearChild_10 rfl rfl ?_
      refine x_iconst (pc := 11) C 0 dX8_clearChild_11 ki_0 ?_
      refine cV0_3 (pc := 12) C hF (fun _ _ h => c_X8_setChild l G b  _ _ _ h) vm_X8_setChild wq119 rfl rfl ⟨Nat.le_of_ble_eq_true rfl, Nat.le_of_ble_eq_true rfl⟩ rfl rfl (fun _ h => CW.md h) (Nat.le_of_ble_eq_true rfl) ⟨Nat.le_refl _, Nat.le_refl _⟩ dX8_clearChild_12 (fun _ w1 hF => ?_)
      refine x_iinc (pc := 15) C 2 [(2, .int ((l2 + 1))), (0, .ref (mdb b)), (1, .int (l1))] dX8_clearChild_15 rfl rfl (by decide) rfl ?_
      refine x_goto (pc := 18) C 2 dX8_clearChild_18 rfl ?_
      exact x_sub [1, 2, 0] rfl (ih _ _ _ _ _ hF kx)
set_option maxRecDepth 4000 in
theorem c_X8_clearChild (l : Launch) (G : xG) (b : Nat)     (a1 : Int32) {w w' : xWt}  (hF : F_X8_clearChild a1 w = some ((), w')) : xMet l G b yX8_clearChild cX8_clearChild 3 none (xR 3) [.ref (mdb b), .int (a1)] (CW G b w) none (CW G b w') 0 0 := by
  refine x_of (own := RX8) rfl (plainFor_of_name pn_X8) (Nat.le_of_ble_eq_true rfl) ?_
  intro p e s m args below meth c ha C hr _
  unfold F_X8_clearChild at hF
  refine x_iconst (pc := 0) C 0 dX8_clearChild_0 ki_0 ?_
  refine x_istore_n (pc := 1) C [(2, .int (0)), (0, .ref (mdb b)), (1, .int (a1))] dX8_clearChild_1 rfl (by decide) rfl ?_
  obtain ⟨o3, w4, hL, hF⟩ := bd_some hF
  refine x_sub [1, 2, 0] rfl (s_X8_clearChild_2 C  _ _ _ _ _ _ hL ?_)
  refine x_aload_n (pc := 21) C 0 dX8_clearChild_21 rfl rfl ?_
  refine x_iload_n (pc := 22) C 1 dX8_clearChild_22 rfl rfl ?_
  refine x_iconst (pc := 23) C 2 dX8_clearChild_23 ki_2 ?_
  refine x_iconst (pc := 24) C (-1) dX8_clearChild_24 ki_m1 ?_
  refine cV0_3 (pc := 25) C hF (fun _ _ h => c_X8_setChild l G b  _ _ _ h) vm_X8_setChild wq119 rfl rfl ⟨Nat.le_of_ble_eq_true rfl, Nat.le_of_ble_eq_true rfl⟩ rfl rfl (fun _ h => CW.md h) (Nat.le_of_ble_eq_true rfl) ⟨Nat.le_refl _, Nat.le_refl _⟩ dX8_clearChild_25 (fun _ w5 hF => ?_)
  refine x_aload_n (pc := 28) C 0 dX8_clearChild_28 rfl rfl ?_
  refine x_iload_n (pc := 29) C 1 dX8_clearChild_29 rfl rfl ?_
  refine cV0_1 (pc := 30) C hF (fun _ _ h => c_X8_emptyHooks l G b  _ h) vm_X8_emptyHooks wq123 rfl rfl ⟨Nat.le_of_ble_eq_true rfl, Nat.le_of_ble_eq_true rfl⟩ rfl rfl (fun _ h => CW.md h) (Nat.le_of_ble_eq_true rfl) ⟨Nat.le_refl _, Nat.le_refl _⟩ dX8_clearChild_30 (fun _ w6 hF => ?_)
  obtain ⟨-, rfl⟩ := ret_eq hF
  exact x_vret (pc := 33) C hr (fun _ h => h) dX8_clearChild_33
set_option maxRecDepth 4000 in
theorem s_X8_record_52 (C : xC p m c s args meth G b cX8_record 2 RX8)    : ∀ (n9 : Nat) (l1 : Int32) (w : xWt) (o : (Int32)) (w' : xWt), L_X8_record_52  n9 l1 w = some (o, w') → xW p l e (xR 0) s m args below meth c Q b 2 (CW G b w') 0 0 86 [(0, .ref (mdb b)), (1, .int (o))] [] → xW p l e (xR 0) s m args below meth c Q b 2 (CW G b w) 0 0 52 [(0, .ref (mdb b)), (1, .int (l1))] [] := by
  intro n9
  induction n9 with
  | zero => intro l1 w o w' hF; exact none_ne (show none = some _ from hF)
  | succ n9 ih =>
    intro l1 w o w' hF kx
    replace hF : B_X8_record_52  (L_X8_record_52  n9) l1 w = some (o, w') := hF
    unfold B_X8_record_52 at hF
    refine x_iload_n (pc := 52) C 1 dX8_record_52 rfl rfl ?_
    refine x_sipush (pc := 53) C 817 dX8_record_53 ks_817 ?_
    refine x_icmp_ge (pc := 56) C 86 dX8_record_56 rfl hF (fun c3 hF => ?_) (fun c3 hF => ?_)
    · obtain ⟨rfl, rfl⟩ := ret_eq hF
      exact x_sub [0, 1] rfl kx
    · refine x_aload_n (pc := 59) C 0 dX8_record_59 rfl rfl ?_
      refine gf_X8_13 (pc := 60) C  dX8_record_60 ?_
      refine x_sipush (pc := 63) C 817 dX8_record_63 ks_817 ?_
      refine x_aload_n (pc := 66) C 0 dX8_record_66 rfl rfl ?_
      refine gf_X8_72 (pc := 67) C  dX8_record_67 ?_
      refine x_imul (pc := 70) C dX8_record_70 ?_
      refine x_iload_n (pc := 71) C 1 dX8_record_71 rfl rfl ?_
      refine x_iadd (pc := 72) C dX8_record_72 ?_
      refine x_aload_n (pc := 73) C 0 dX8_record_73 rfl rfl ?_
      refine gf_X8_7 (pc := 74) C  dX8_record_74 ?_
      refine x_iload_n (pc := 77) C 1 dX8_record_77 rfl rfl ?_
      refine w_ald (pc := 78) C (vA_m 0 (by decide)) hF dX8_record_78 (fun x1 hF => ?_)
      refine w_ast (pc := 79) C (vA_m 1 (by decide)) hF dX8_record_79 (fun w2 hF => ?_)
      refine x_iinc (pc := 80) C 1 [(1, .int ((l1 + 1))), (0, .ref (mdb b))] dX8_record_80 rfl rfl (by decide) rfl ?_
      refine x_goto (pc := 83) C 52 dX8_record_83 rfl ?_
      exact x_sub [1, 0] rfl (ih _ _ _ _ hF kx)
set_option maxRecDepth 4000 in
theorem s_X8_record_11 (C : xC p m c s args meth G b cX8_record 2 RX8)    : ∀ (n9 : Nat) (l1 : Int32) (w : xWt) (o : (Int32)) (w' : xWt), L_X8_record_11  n9 l1 w = some (o, w') → xW p l e (xR 0) s m args below meth c Q b 2 (CW G b w') 0 0 40 [(0, .ref (mdb b)), (1, .int (o))] [] → xW p l e (xR 0) s m args below meth c Q b 2 (CW G b w) 0 0 11 [(0, .ref (mdb b)), (1, .int (l1))] [] := by
  intro n9
  induction n9 with
  | zero => intro l1 w o w' hF; exact none_ne (show none = some _ from hF)
  | succ n9 ih =>
    intro l1 w o w' hF kx
    replace hF : B_X8_record_11  (L_X8_record_11  n9) l1 w = some (o, w') := hF
    unfold B_X8_record_11 at hF
    refine x_iload_n (pc := 11) C 1 dX8_record_11 rfl rfl ?_
    refine x_sipush (pc := 12) C 4085 dX8_record_12 ks_4085 ?_
    refine x_icmp_ge (pc := 15) C 40 dX8_record_15 rfl hF (fun c9 hF => ?_) (fun c9 hF => ?_)
    · obtain ⟨rfl, rfl⟩ := ret_eq hF
      exact x_sub [0, 1] rfl kx
    · refine x_aload_n (pc := 18) C 0 dX8_record_18 rfl rfl ?_
      refine gf_X8_13 (pc := 19) C  dX8_record_19 ?_
      refine x_iload_n (pc := 22) C 1 dX8_record_22 rfl rfl ?_
      refine x_aload_n (pc := 23) C 0 dX8_record_23 rfl rfl ?_
      refine gf_X8_13 (pc := 24) C  dX8_record_24 ?_
      refine x_sipush (pc := 27) C 817 dX8_record_27 ks_817 ?_
      refine x_iload_n (pc := 30) C 1 dX8_record_30 rfl rfl ?_
      refine x_iadd (pc := 31) C dX8_record_31 ?_
      refine w_ald (pc := 32) C (vA_m 1 (by decide)) hF dX8_record_32 (fun x7 hF => ?_)
      refine w_ast (pc := 33) C (vA_m 1 (by decide)) hF dX8_record_33 (fun w8 hF => ?_)
      refine x_iinc (pc := 34) C 1 [(1, .int ((l1 + 1))), (0, .ref (mdb b))] dX8_record_34 rfl rfl (by decide) rfl ?_
      refine x_goto (pc := 37) C 11 dX8_record_37 rfl ?_
      exact x_sub [1, 0] rfl (ih _ _ _ _ hF kx)
set_option maxRecDepth 4000 in
theorem c_X8_record (l : Launch) (G : xG) (b : Nat)      {w w' : xWt}  (hF : F_X8_record  w = some ((), w')) : xMet l G b yX8_record cX8_record 2 none (xR 0) [.ref (mdb b)] (CW G b w) none (CW G b w') 0 0 := by
  refine x_of (own := RX8) rfl (plainFor_of_name pn_X8) (Nat.le_of_ble_eq_true rfl) ?_
  intro p e s m args below meth c ha C hr _
  unfold F_X8_record at hF
  refine x_aload_n (pc := 0) C 0 dX8_record_0 rfl rfl ?_
  refine gf_X8_72 (pc := 1) C  dX8_record_1 ?_
  refine x_bipush (pc := 4) C 6 dX8_record_4 kb_6 ?_
  refine x_icmp_ne (pc := 6) C 50 dX8_record_6 rfl hF (fun c16 hF => ?_) (fun c16 hF => ?_)
  · refine x_iconst (pc := 50) C 0 dX8_record_50 ki_0 ?_
    refine x_istore_n (pc := 51) C [(1, .int (0)), (0, .ref (mdb b))] dX8_record_51 rfl (by decide) rfl ?_
    obtain ⟨o4, w5, hL, hF⟩ := bd_some hF
    refine x_sub [1, 0] rfl (s_X8_record_52 C  _ _ _ _ _ hL ?_)
    refine x_aload_n (pc := 86) C 0 dX8_record_86 rfl rfl ?_
    refine x_dup (pc := 87) C dX8_record_87 rfl ?_
    refine gf_X8_72 (pc := 88) C  dX8_record_88 ?_
    refine x_iconst (pc := 91) C 1 dX8_record_91 ki_1 ?_
    refine x_iadd (pc := 92) C dX8_record_92 ?_
    refine pf_X8_72 (pc := 93) C   hF dX8_record_93 (fun w6 hF => ?_)
    obtain ⟨-, rfl⟩ := ret_eq hF
    exact x_vret (pc := 96) C hr (fun _ h => h) dX8_record_96
  · refine x_iconst (pc := 9) C 0 dX8_record_9 ki_0 ?_
    refine x_istore_n (pc := 10) C [(1, .int (0)), (0, .ref (mdb b))] dX8_record_10 rfl (by decide) rfl ?_
    obtain ⟨o10, w11, hL, hF⟩ := bd_some hF
    refine x_sub [1, 0] rfl (s_X8_record_11 C  _ _ _ _ _ hL ?_)
    refine x_aload_n (pc := 40) C 0 dX8_record_40 rfl rfl ?_
    refine x_dup (pc := 41) C dX8_record_41 rfl ?_
    refine gf_X8_72 (pc := 42) C  dX8_record_42 ?_
    refine x_iconst (pc := 45) C 1 dX8_record_45 ki_1 ?_
    refine x_isub (pc := 46) C dX8_record_46 ?_
    refine pf_X8_72 (pc := 47) C   hF dX8_record_47 (fun w12 hF => ?_)
    refine x_iconst (pc := 50) C 0 dX8_record_50 ki_0 ?_
    refine x_istore_n (pc := 51) C [(1, .int (0)), (0, .ref (mdb b))] dX8_record_51 rfl (by decide) rfl ?_
    obtain ⟨o13, w14, hL, hF⟩ := bd_some hF
    refine x_sub [1, 0] rfl (s_X8_record_52 C  _ _ _ _ _ hL ?_)
    refine x_aload_n (pc := 86) C 0 dX8_record_86 rfl rfl ?_
    refine x_dup (pc := 87) C dX8_record_87 rfl ?_
    refine gf_X8_72 (pc := 88) C  dX8_record_88 ?_
    refine x_iconst (pc := 91) C 1 dX8_record_91 ki_1 ?_
    refine x_iadd (pc := 92) C dX8_record_92 ?_
    refine pf_X8_72 (pc := 93) C   hF dX8_record_93 (fun w15 hF => ?_)
    obtain ⟨-, rfl⟩ := ret_eq hF
    exact x_vret (pc := 96) C hr (fun _ h => h) dX8_record_96
set_option maxRecDepth 4000 in
theorem s_X8_come_32 (C : xC p m c s args meth G b cX8_come 2 RX8)    : ∀ (n9 : Nat) (l1 : Int32) (w : xWt) (o : (Int32)) (w' : xWt), L_X8_come_32  n9 l1 w = some (o, w') → xW p l e (xR 4) s m args below meth c Q b 2 (CW G b w') 0 0 48 [(0, .ref (mdb b)), (1, .int (o))] [] → xW p l e (xR 4) s m args below meth c Q b 2 (CW G b w) 0 0 32 [(0, .ref (mdb b)), (1, .int (l1))] [] := by
  intro n9
  induction n9 with
  | zero => intro l1 w o w' hF; exact none_ne (show none = some _ from hF)
  | succ n9 ih =>
    intro l1 w o w' hF kx
    replace hF : B_X8_come_32  (L_X8_come_32  n9) l1 w = some (o, w') := hF
    unfold B_X8_come_32 at hF
    refine x_aload_n (pc := 32) C 0 dX8_come_32 rfl rfl ?_
    refine x_iload_n (pc := 33) C 1 dX8_come_33 rfl rfl ?_
    refine x_iconst (pc := 34) C 0 dX8_come_34 ki_0 ?_
    refine cV1_2 (pc := 35) (val := Value.int) C hF (fun _ _ h => c_X8_ofChild l G b  _ _ h) vm_X8_ofChild wq221 rfl rfl ⟨Nat.le_of_ble_eq_true rfl, Nat.le_of_ble_eq_true rfl⟩ rfl rfl (fun _ h => CW.md h) (Nat.le_of_ble_eq_true rfl) ⟨Nat.le_refl _, Nat.le_refl _⟩ dX8_come_35 (fun x6 w5 hF => ?_)
    refine x_iconst (pc := 38) C 1 dX8_come_38 ki_1 ?_
    refine x_icmp_ne (pc := 39) C 48 dX8_come_39 rfl hF (fun c7 hF => ?_) (fun c7 hF => ?_)
    · obtain ⟨rfl, rfl⟩ := ret_eq hF
      exact x_sub [0, 1] rfl kx
    · refine x_iinc (pc := 42) C 1 [(1, .int ((l1 + 1))), (0, .ref (mdb b))] dX8_come_42 rfl rfl (by decide) rfl ?_
      refine x_goto (pc := 45) C 32 dX8_come_45 rfl ?_
      exact x_sub [1, 0] rfl (ih _ _ _ _ hF kx)
set_option maxRecDepth 4000 in
theorem c_X8_come (l : Launch) (G : xG) (b : Nat)      {w w' : xWt} {v : Int32} (hF : F_X8_come  w = some (v, w')) : xMet l G b yX8_come cX8_come 2 (some .int) (xR 4) [.ref (mdb b)] (CW G b w) (some (.int v)) (CW G b w') 0 0 := by
  refine x_of (own := RX8) rfl (plainFor_of_name pn_X8) (Nat.le_of_ble_eq_true rfl) ?_
  intro p e s m args below meth c ha C hr _
  unfold F_X8_come at hF
  refine x_aload_n (pc := 0) C 0 dX8_come_0 rfl rfl ?_
  refine x_aload_n (pc := 1) C 0 dX8_come_1 rfl rfl ?_
  refine cV1_0 (pc := 2) (val := Value.int) C hF (fun _ _ h => c_X8_children l G b  h) vm_X8_children wq217 rfl rfl ⟨Nat.le_of_ble_eq_true rfl, Nat.le_of_ble_eq_true rfl⟩ rfl rfl (fun _ h => CW.md h) (Nat.le_of_ble_eq_true rfl) ⟨Nat.le_refl _, Nat.le_refl _⟩ dX8_come_2 (fun x2 w1 hF => ?_)
  refine x_iconst (pc := 5) C 5 dX8_come_5 ki_5 ?_
  refine x_icmp_ne (pc := 6) C 13 dX8_come_6 rfl hF (fun c20 hF => ?_) (fun c20 hF => ?_)
  · refine x_iconst (pc := 13) C 0 dX8_come_13 ki_0 ?_
    refine pf_X8_33 (pc := 14) C   hF dX8_come_14 (fun w3 hF => ?_)
    refine x_aload_n (pc := 17) C 0 dX8_come_17 rfl rfl ?_
    refine gf_X8_33 (pc := 18) C  dX8_come_18 ?_
    refine x_if_le (pc := 21) C 26 dX8_come_21 rfl hF (fun c12 hF => ?_) (fun c12 hF => ?_)
    · refine x_aload_n (pc := 26) C 0 dX8_come_26 rfl rfl ?_
      refine cV0_0 (pc := 27) C hF (fun _ _ h => c_X8_record l G b  h) vm_X8_record wq225 rfl rfl ⟨Nat.le_of_ble_eq_true rfl, Nat.le_of_ble_eq_true rfl⟩ rfl rfl (fun _ h => CW.md h) (Nat.le_of_ble_eq_true rfl) ⟨Nat.le_refl _, Nat.le_refl _⟩ dX8_come_27 (fun _ w4 hF => ?_)
      refine x_iconst (pc := 30) C 0 dX8_come_30 ki_0 ?_
      refine x_istore_n (pc := 31) C [(1, .int (0)), (0, .ref (mdb b))] dX8_come_31 rfl (by decide) rfl ?_
      obtain ⟨o8, w9, hL, hF⟩ := bd_some hF
      refine x_sub [1, 0] rfl (s_X8_come_32 C  _ _ _ _ _ hL ?_)
      refine x_aload_n (pc := 48) C 0 dX8_come_48 rfl rfl ?_
      refine x_iload_n (pc := 49) C 1 dX8_come_49 rfl rfl ?_
      refine cV0_1 (pc := 50) C hF (fun _ _ h => c_X8_clearChild l G b  _ h) vm_X8_clearChild wq115 rfl rfl ⟨Nat.le_of_ble_eq_true rfl, Nat.le_of_ble_eq_true rfl⟩ rfl rfl (fun _ h => CW.md h) (Nat.le_of_ble_eq_true rfl) ⟨Nat.le_refl _, Nat.le_refl _⟩ dX8_come_50 (fun _ w10 hF => ?_)
      refine x_aload_n (pc := 53) C 0 dX8_come_53 rfl rfl ?_
      refine x_iload_n (pc := 54) C 1 dX8_come_54 rfl rfl ?_
      refine x_iconst (pc := 55) C 0 dX8_come_55 ki_0 ?_
      refine x_iconst (pc := 56) C 1 dX8_come_56 ki_1 ?_
      refine cV0_3 (pc := 57) C hF (fun _ _ h => c_X8_setChild l G b  _ _ _ h) vm_X8_setChild wq119 rfl rfl ⟨Nat.le_of_ble_eq_true rfl, Nat.le_of_ble_eq_true rfl⟩ rfl rfl (fun _ h => CW.md h) (Nat.le_of_ble_eq_true rfl) ⟨Nat.le_refl _, Nat.le_refl _⟩ dX8_come_57 (fun _ w11 hF => ?_)
      refine x_iload_n (pc := 60) C 1 dX8_come_60 rfl rfl ?_
      obtain ⟨rfl, rfl⟩ := ret_eq hF
      exact x_iret (pc := 61) C hr rfl (fun _ h => h) dX8_come_61
    · refine x_iconst (pc := 24) C 0 dX8_come_24 ki_0 ?_
      obtain ⟨rfl, rfl⟩ := ret_eq hF
      exact x_iret (pc := 25) C hr rfl (fun _ h => h) dX8_come_25
  · refine x_iconst (pc := 9) C 1 dX8_come_9 ki_1 ?_
    refine x_goto (pc := 10) C 14 dX8_come_10 rfl ?_
    refine pf_X8_33 (pc := 14) C   hF dX8_come_14 (fun w13 hF => ?_)
    refine x_aload_n (pc := 17) C 0 dX8_come_17 rfl rfl ?_
    refine gf_X8_33 (pc := 18) C  dX8_come_18 ?_
    refine x_if_le (pc := 21) C 26 dX8_come_21 rfl hF (fun c19 hF => ?_) (fun c19 hF => ?_)
    · refine x_aload_n (pc := 26) C 0 dX8_come_26 rfl rfl ?_
      refine cV0_0 (pc := 27) C hF (fun _ _ h => c_X8_record l G b  h) vm_X8_record wq225 rfl rfl ⟨Nat.le_of_ble_eq_true rfl, Nat.le_of_ble_eq_true rfl⟩ rfl rfl (fun _ h => CW.md h) (Nat.le_of_ble_eq_true rfl) ⟨Nat.le_refl _, Nat.le_refl _⟩ dX8_come_27 (fun _ w14 hF => ?_)
      refine x_iconst (pc := 30) C 0 dX8_come_30 ki_0 ?_
      refine x_istore_n (pc := 31) C [(1, .int (0)), (0, .ref (mdb b))] dX8_come_31 rfl (by decide) rfl ?_
      obtain ⟨o15, w16, hL, hF⟩ := bd_some hF
      refine x_sub [1, 0] rfl (s_X8_come_32 C  _ _ _ _ _ hL ?_)
      refine x_aload_n (pc := 48) C 0 dX8_come_48 rfl rfl ?_
      refine x_iload_n (pc := 49) C 1 dX8_come_49 rfl rfl ?_
      refine cV0_1 (pc := 50) C hF (fun _ _ h => c_X8_clearChild l G b  _ h) vm_X8_clearChild wq115 rfl rfl ⟨Nat.le_of_ble_eq_true rfl, Nat.le_of_ble_eq_true rfl⟩ rfl rfl (fun _ h => CW.md h) (Nat.le_of_ble_eq_true rfl) ⟨Nat.le_refl _, Nat.le_refl _⟩ dX8_come_50 (fun _ w17 hF => ?_)
      refine x_aload_n (pc := 53) C 0 dX8_come_53 rfl rfl ?_
      refine x_iload_n (pc := 54) C 1 dX8_come_54 rfl rfl ?_
      refine x_iconst (pc := 55) C 0 dX8_come_55 ki_0 ?_
      refine x_iconst (pc := 56) C 1 dX8_come_56 ki_1 ?_
      refine cV0_3 (pc := 57) C hF (fun _ _ h => c_X8_setChild l G b  _ _ _ h) vm_X8_setChild wq119 rfl rfl ⟨Nat.le_of_ble_eq_true rfl, Nat.le_of_ble_eq_true rfl⟩ rfl rfl (fun _ h => CW.md h) (Nat.le_of_ble_eq_true rfl) ⟨Nat.le_refl _, Nat.le_refl _⟩ dX8_come_57 (fun _ w18 hF => ?_)
      refine x_iload_n (pc := 60) C 1 dX8_come_60 rfl rfl ?_
      obtain ⟨rfl, rfl⟩ := ret_eq hF
      exact x_iret (pc := 61) C hr rfl (fun _ h => h) dX8_come_61
    · refine x_iconst (pc := 24) C 0 dX8_come_24 ki_0 ?_
      obtain ⟨rfl, rfl⟩ := ret_eq hF
      exact x_iret (pc := 25) C hr rfl (fun _ h => h) dX8_come_25
set_option maxRecDepth 4000 in
theorem s_X8_countNow_13 (C : xC p m c s args meth G b cX8_countNow 7 RX8)    : ∀ (n9 : Nat) (l1 : Int32) (l2 : Int32) (l3 : Int32) (l4 : Int32) (l5 : Int32) (l6 : Int32) (w : xWt) (o : (Int32 × Int32 × Int32 × Int32 × Int32)) (w' : xWt), L_X8_countNow_13  n9 l1 l2 l3 l4 l5 l6 w = some (o, w') → xW p l e (xR 3) s m args below meth c Q b 7 (CW G b w') 0 0 72 [(0, .ref (mdb b)), (1, .int (l1)), (2, .int (o.1)), (3, .int (o.2.1)), (4, .int (o.2.2.1)), (5, .int (o.2.2.2.1)), (6, .int (o.2.2.2.2))] [] → xW p l e (xR 3) s m args below meth c Q b 7 (CW G b w) 0 0 13 [(0, .ref (mdb b)), (1, .int (l1)), (2, .int (l2)), (3, .int (l3)), (4, .int (l4)), (5, .int (l5)), (6, .int (l6))] [] := by
  intro n9
  induction n9 with
  | zero => intro l1 l2 l3 l4 l5 l6 w o w' hF; exact none_ne (show none = some _ from hF)
  | succ n9 ih =>
    intro l1 l2 l3 l4 l5 l6 w o w' hF kx
    replace hF : B_X8_countNow_13  (L_X8_countNow_13  n9) l1 l2 l3 l4 l5 l6 w = some (o, w') := hF
    unfold B_X8_countNow_13 at hF
    refine x_iload (pc := 13) C 6 dX8_countNow_13 rfl ?_
    refine x_iconst (pc := 15) C 5 dX8_countNow_15 ki_5 ?_
    refine x_icmp_ge (pc := 16) C 72 dX8_countNow_16 rfl hF (fun c9 hF => ?_) (fun c9 hF => ?_)
    · obtain ⟨rfl, rfl⟩ := ret_eq hF
      exact x_sub [0, 1, 2, 3, 4, 5, 6] rfl kx
    · refine x_iload_n (pc := 19) C 2 dX8_countNow_19 rfl rfl ?_
      refine x_aload_n (pc := 20) C 0 dX8_countNow_20 rfl rfl ?_
      refine x_iload (pc := 21) C 6 dX8_countNow_21 rfl ?_
      refine x_iconst (pc := 23) C 0 dX8_countNow_23 ki_0 ?_
      refine cV1_2 (pc := 24) (val := Value.int) C hF (fun _ _ h => c_X8_ofChild l G b  _ _ h) vm_X8_ofChild wq221 rfl rfl ⟨Nat.le_of_ble_eq_true rfl, Nat.le_of_ble_eq_true rfl⟩ rfl rfl (fun _ h => CW.md h) (Nat.le_of_ble_eq_true rfl) ⟨Nat.le_refl _, Nat.le_refl _⟩ dX8_countNow_24 (fun x2 w1 hF => ?_)
      refine x_iload (pc := 27) C 6 dX8_countNow_27 rfl ?_
      refine x_ishl (pc := 29) C dX8_countNow_29 ?_
      refine x_ior (pc := 30) C dX8_countNow_30 ?_
      refine x_istore_n (pc := 31) C [(2, .int ((l2 ||| (x2 <<< (l6 &&& 31))))), (0, .ref (mdb b)), (1, .int (l1)), (3, .int (l3)), (4, .int (l4)), (5, .int (l5)), (6, .int (l6))] dX8_countNow_31 rfl (by decide) rfl ?_
      refine x_iload_n (pc := 32) C 3 dX8_countNow_32 rfl rfl ?_
      refine x_aload_n (pc := 33) C 1 dX8_countNow_33 rfl rfl ?_
      refine x_iload (pc := 34) C 6 dX8_countNow_34 rfl ?_
      refine x_iconst (pc := 36) C 1 dX8_countNow_36 ki_1 ?_
      refine cV1_2 (pc := 37) (val := Value.int) C hF (fun _ _ h => c_X8_ofChild l G b  _ _ h) vm_X8_ofChild wq221 rfl rfl ⟨Nat.le_of_ble_eq_true rfl, Nat.le_of_ble_eq_true rfl⟩ rfl rfl (fun _ h => CW.md h) (Nat.le_of_ble_eq_true rfl) ⟨Nat.le_refl _, Nat.le_refl _⟩ dX8_countNow_37 (fun x4 w3 hF => ?_)
      refine x_iadd (pc := 40) C dX8_countNow_40 ?_
      refine x_istore_n (pc := 41) C [(3, .int ((l3 + x4))), (2, .int ((l2 ||| (x2 <<< (l6 &&& 31))))), (0, .ref (mdb b)), (1, .int (l1)), (4, .int (l4)), (5, .int (l5)), (6, .int (l6))] dX8_countNow_41 rfl (by decide) rfl ?_
      refine x_iload (pc := 42) C 4 dX8_countNow_42 rfl ?_
      refine x_aload_n (pc := 44) C 2 dX8_countNow_44 rfl rfl ?_
      refine x_iload (pc := 45) C 6 dX8_countNow_45 rfl ?_
      refine x_iconst (pc := 47) C 2 dX8_countNow_47 ki_2 ?_
      refine cV1_2 (pc := 48) (val := Value.int) C hF (fun _ _ h => c_X8_hooksOf l G b  _ _ h) vm_X8_hooksOf wq399 rfl rfl ⟨Nat.le_of_ble_eq_true rfl, Nat.le_of_ble_eq_true rfl⟩ rfl rfl (fun _ h => CW.md h) (Nat.le_of_ble_eq_true rfl) ⟨Nat.le_refl _, Nat.le_refl _⟩ dX8_countNow_48 (fun x6 w5 hF => ?_)
      refine x_iadd (pc := 51) C dX8_countNow_51 ?_
      refine x_istore (pc := 52) C [(4, .int ((l4 + x6))), (3, .int ((l3 + x4))), (2, .int ((l2 ||| (x2 <<< (l6 &&& 31))))), (0, .ref (mdb b)), (1, .int (l1)), (5, .int (l5)), (6, .int (l6))] dX8_countNow_52 (by decide) rfl ?_
      refine x_iload (pc := 54) C 5 dX8_countNow_54 rfl ?_
      refine x_aload_n (pc := 56) C 3 dX8_countNow_56 rfl rfl ?_
      refine x_iload (pc := 57) C 6 dX8_countNow_57 rfl ?_
      refine x_iconst (pc := 59) C 1 dX8_countNow_59 ki_1 ?_
      refine cV1_2 (pc := 60) (val := Value.int) C hF (fun _ _ h => c_X8_hooksOf l G b  _ _ h) vm_X8_hooksOf wq399 rfl rfl ⟨Nat.le_of_ble_eq_true rfl, Nat.le_of_ble_eq_true rfl⟩ rfl rfl (fun _ h => CW.md h) (Nat.le_of_ble_eq_true rfl) ⟨Nat.le_refl _, Nat.le_refl _⟩ dX8_countNow_60 (fun x8 w7 hF => ?_)
      refine x_iadd (pc := 63) C dX8_countNow_63 ?_
      refine x_istore (pc := 64) C [(5, .int ((l5 + x8))), (4, .int ((l4 + x6))), (3, .int ((l3 + x4))), (2, .int ((l2 ||| (x2 <<< (l6 &&& 31))))), (0, .ref (mdb b)), (1, .int (l1)), (6, .int (l6))] dX8_countNow_64 (by decide) rfl ?_
      refine x_iinc (pc := 66) C 6 [(6, .int ((l6 + 1))), (5, .int ((l5 + x8))), (4, .int ((l4 + x6))), (3, .int ((l3 + x4))), (2, .int ((l2 ||| (x2 <<< (l6 &&& 31))))), (0, .ref (mdb b)), (1, .int (l1))] dX8_countNow_66 rfl rfl (by decide) rfl ?_
      refine x_goto (pc := 69) C 13 dX8_countNow_69 rfl ?_
      exact x_sub [5, 6, 4, 3, 2, 1, 0] rfl (ih _ _ _ _ _ _ _ _ _ hF kx)
set_option maxRecDepth 4000 in
theorem c_X8_countNow (l : Launch) (G : xG) (b : Nat)     (a1 : Int32) {w w' : xWt} {v : Int32} (hF : F_X8_countNow a1 w = some (v, w')) : xMet l G b yX8_countNow cX8_countNow 7 (some .int) (xR 3) [.ref (mdb b), .int (a1)] (CW G b w) (some (.int v)) (CW G b w') 0 0 := by
  refine x_of (own := RX8) rfl (plainFor_of_name pn_X8) (Nat.le_of_ble_eq_true rfl) ?_
  intro p e s m args below meth c ha C hr _
  unfold F_X8_countNow at hF
  refine x_iconst (pc := 0) C 0 dX8_countNow_0 ki_0 ?_
  refine x_istore_n (pc := 1) C [(2, .int (0)), (0, .ref (mdb b)), (1, .int (a1))] dX8_countNow_1 rfl (by decide) rfl ?_
  refine x_iconst (pc := 2) C 0 dX8_countNow_2 ki_0 ?_
  refine x_istore_n (pc := 3) C [(3, .int (0)), (2, .int (0)), (0, .ref (mdb b)), (1, .int (a1))] dX8_countNow_3 rfl (by decide) rfl ?_
  refine x_iconst (pc := 4) C 0 dX8_countNow_4 ki_0 ?_
  refine x_istore (pc := 5) C [(4, .int (0)), (3, .int (0)), (2, .int (0)), (0, .ref (mdb b)), (1, .int (a1))] dX8_countNow_5 (by decide) rfl ?_
  refine x_iconst (pc := 7) C 0 dX8_countNow_7 ki_0 ?_
  refine x_istore (pc := 8) C [(5, .int (0)), (4, .int (0)), (3, .int (0)), (2, .int (0)), (0, .ref (mdb b)), (1, .int (a1))] dX8_countNow_8 (by decide) rfl ?_
  refine x_iconst (pc := 10) C 0 dX8_countNow_10 ki_0 ?_
  refine x_istore (pc := 11) C [(6, .int (0)), (5, .int (0)), (4, .int (0)), (3, .int (0)), (2, .int (0)), (0, .ref (mdb b)), (1, .int (a1))] dX8_countNow_11 (by decide) rfl ?_
  obtain ⟨o10, w11, hL, hF⟩ := bd_some hF
  refine x_sub [5, 6, 4, 3, 2, 1, 0] rfl (s_X8_countNow_13 C  _ _ _ _ _ _ _ _ _ _ hL ?_)
  refine x_iload_n (pc := 72) C 1 dX8_countNow_72 rfl rfl ?_
  by_cases c12 : (a1).toInt = 0
  · rw [if_pos c12] at hF
    refine x_tabIn (pc := 73) C 148 dX8_countNow_73 c12 (by decide) (by decide) rfl rfl ?_
    refine x_iload_n (pc := 148) C 2 dX8_countNow_148 rfl rfl ?_
    obtain ⟨rfl, rfl⟩ := ret_eq hF
    exact x_iret (pc := 149) C hr rfl (fun _ h => h) dX8_countNow_149
  · rw [if_neg c12] at hF
    by_cases c13 : (a1).toInt = 1
    · rw [if_pos c13] at hF
      refine x_tabIn (pc := 73) C 150 dX8_countNow_73 c13 (by decide) (by decide) rfl rfl ?_
      refine x_aload_n (pc := 150) C 0 dX8_countNow_150 rfl rfl ?_
      refine cV1_0 (pc := 151) (val := Value.int) C hF (fun _ _ h => c_X8_children l G b  h) vm_X8_children wq217 rfl rfl ⟨Nat.le_of_ble_eq_true rfl, Nat.le_of_ble_eq_true rfl⟩ rfl rfl (fun _ h => CW.md h) (Nat.le_of_ble_eq_true rfl) ⟨Nat.le_refl _, Nat.le_refl _⟩ dX8_countNow_151 (fun x41 w40 hF => ?_)
      obtain ⟨rfl, rfl⟩ := ret_eq hF
      exact x_iret (pc := 154) C hr rfl (fun _ h => h) dX8_countNow_154
    · rw [if_neg c13] at hF
      by_cases c14 : (a1).toInt = 2
      · rw [if_pos c14] at hF
        refine x_tabIn (pc := 73) C 155 dX8_countNow_73 c14 (by decide) (by decide) rfl rfl ?_
        refine x_iload_n (pc := 155) C 3 dX8_countNow_155 rfl rfl ?_
        obtain ⟨rfl, rfl⟩ := ret_eq hF
        exact x_iret (pc := 156) C hr rfl (fun _ h => h) dX8_countNow_156
      · rw [if_neg c14] at hF
        by_cases c15 : (a1).toInt = 3
        · rw [if_pos c15] at hF
          refine x_tabIn (pc := 73) C 157 dX8_countNow_73 c15 (by decide) (by decide) rfl rfl ?_
          refine x_aload_n (pc := 157) C 0 dX8_countNow_157 rfl rfl ?_
          refine gf_X8_7 (pc := 158) C  dX8_countNow_158 ?_
          refine x_iconst (pc := 161) C 0 dX8_countNow_161 ki_0 ?_
          refine w_ald (pc := 162) C (vA_m 0 (by decide)) hF dX8_countNow_162 (fun x39 hF => ?_)
          obtain ⟨rfl, rfl⟩ := ret_eq hF
          exact x_iret (pc := 163) C hr rfl (fun _ h => h) dX8_countNow_163
        · rw [if_neg c15] at hF
          by_cases c16 : (a1).toInt = 4
          · rw [if_pos c16] at hF
            refine x_tabIn (pc := 73) C 164 dX8_countNow_73 c16 (by decide) (by decide) rfl rfl ?_
            refine x_aload_n (pc := 164) C 0 dX8_countNow_164 rfl rfl ?_
            refine gf_X8_7 (pc := 165) C  dX8_countNow_165 ?_
            refine x_iconst (pc := 168) C 1 dX8_countNow_168 ki_1 ?_
            refine w_ald (pc := 169) C (vA_m 0 (by decide)) hF dX8_countNow_169 (fun x38 hF => ?_)
            obtain ⟨rfl, rfl⟩ := ret_eq hF
            exact x_iret (pc := 170) C hr rfl (fun _ h => h) dX8_countNow_170
          · rw [if_neg c16] at hF
            by_cases c17 : (a1).toInt = 5
            · rw [if_pos c17] at hF
              refine x_tabIn (pc := 73) C 171 dX8_countNow_73 c17 (by decide) (by decide) rfl rfl ?_
              refine x_aload_n (pc := 171) C 0 dX8_countNow_171 rfl rfl ?_
              refine x_iconst (pc := 172) C 0 dX8_countNow_172 ki_0 ?_
              refine cV1_1 (pc := 173) (val := Value.int) C hF (fun _ _ h => c_X8_leavesAt l G b  _ h) vm_X8_leavesAt wq690 rfl rfl ⟨Nat.le_of_ble_eq_true rfl, Nat.le_of_ble_eq_true rfl⟩ rfl rfl (fun _ h => CW.md h) (Nat.le_of_ble_eq_true rfl) ⟨Nat.le_refl _, Nat.le_refl _⟩ dX8_countNow_173 (fun x37 w36 hF => ?_)
              obtain ⟨rfl, rfl⟩ := ret_eq hF
              exact x_iret (pc := 176) C hr rfl (fun _ h => h) dX8_countNow_176
            · rw [if_neg c17] at hF
              by_cases c18 : (a1).toInt = 6
              · rw [if_pos c18] at hF
                refine x_tabIn (pc := 73) C 177 dX8_countNow_73 c18 (by decide) (by decide) rfl rfl ?_
                refine x_aload_n (pc := 177) C 0 dX8_countNow_177 rfl rfl ?_
                refine x_iconst (pc := 178) C 1 dX8_countNow_178 ki_1 ?_
                refine cV1_1 (pc := 179) (val := Value.int) C hF (fun _ _ h => c_X8_leavesAt l G b  _ h) vm_X8_leavesAt wq690 rfl rfl ⟨Nat.le_of_ble_eq_true rfl, Nat.le_of_ble_eq_true rfl⟩ rfl rfl (fun _ h => CW.md h) (Nat.le_of_ble_eq_true rfl) ⟨Nat.le_refl _, Nat.le_refl _⟩ dX8_countNow_179 (fun x35 w34 hF => ?_)
                obtain ⟨rfl, rfl⟩ := ret_eq hF
                exact x_iret (pc := 182) C hr rfl (fun _ h => h) dX8_countNow_182
              · rw [if_neg c18] at hF
                by_cases c19 : (a1).toInt = 7
                · rw [if_pos c19] at hF
                  refine x_tabIn (pc := 73) C 183 dX8_countNow_73 c19 (by decide) (by decide) rfl rfl ?_
                  refine x_aload_n (pc := 183) C 0 dX8_countNow_183 rfl rfl ?_
                  refine x_iconst (pc := 184) C 2 dX8_countNow_184 ki_2 ?_
                  refine cV1_1 (pc := 185) (val := Value.int) C hF (fun _ _ h => c_X8_leavesAt l G b  _ h) vm_X8_leavesAt wq690 rfl rfl ⟨Nat.le_of_ble_eq_true rfl, Nat.le_of_ble_eq_true rfl⟩ rfl rfl (fun _ h => CW.md h) (Nat.le_of_ble_eq_true rfl) ⟨Nat.le_refl _, Nat.le_refl _⟩ dX8_countNow_185 (fun x33 w32 hF => ?_)
                  obtain ⟨rfl, rfl⟩ := ret_eq hF
                  exact x_iret (pc := 188) C hr rfl (fun _ h => h) dX8_countNow_188
                · rw [if_neg c19] at hF
                  by_cases c20 : (a1).toInt = 8
                  · rw [if_pos c20] at hF
                    refine x_tabIn (pc := 73) C 189 dX8_countNow_73 c20 (by decide) (by decide) rfl rfl ?_
                    refine x_iload (pc := 189) C 4 dX8_countNow_189 rfl ?_
                    obtain ⟨rfl, rfl⟩ := ret_eq hF
                    exact x_iret (pc := 191) C hr rfl (fun _ h => h) dX8_countNow_191
                  · rw [if_neg c20] at hF
                    by_cases c21 : (a1).toInt = 9
                    · rw [if_pos c21] at hF
                      refine x_tabIn (pc := 73) C 192 dX8_countNow_73 c21 (by decide) (by decide) rfl rfl ?_
                      refine x_iload (pc := 192) C 5 dX8_countNow_192 rfl ?_
                      obtain ⟨rfl, rfl⟩ := ret_eq hF
                      exact x_iret (pc := 194) C hr rfl (fun _ h => h) dX8_countNow_194
                    · rw [if_neg c21] at hF
                      by_cases c22 : (a1).toInt = 10
                      · rw [if_pos c22] at hF
                        refine x_tabIn (pc := 73) C 195 dX8_countNow_73 c22 (by decide) (by decide) rfl rfl ?_
                        refine x_aload_n (pc := 195) C 0 dX8_countNow_195 rfl rfl ?_
                        refine gf_X8_7 (pc := 196) C  dX8_countNow_196 ?_
                        refine x_iconst (pc := 199) C 2 dX8_countNow_199 ki_2 ?_
                        refine w_ald (pc := 200) C (vA_m 0 (by decide)) hF dX8_countNow_200 (fun x31 hF => ?_)
                        obtain ⟨rfl, rfl⟩ := ret_eq hF
                        exact x_iret (pc := 201) C hr rfl (fun _ h => h) dX8_countNow_201
                      · rw [if_neg c22] at hF
                        by_cases c23 : (a1).toInt = 11
                        · rw [if_pos c23] at hF
                          refine x_tabIn (pc := 73) C 202 dX8_countNow_73 c23 (by decide) (by decide) rfl rfl ?_
                          refine x_aload_n (pc := 202) C 0 dX8_countNow_202 rfl rfl ?_
                          refine gf_X8_7 (pc := 203) C  dX8_countNow_203 ?_
                          refine x_iconst (pc := 206) C 3 dX8_countNow_206 ki_3 ?_
                          refine w_ald (pc := 207) C (vA_m 0 (by decide)) hF dX8_countNow_207 (fun x30 hF => ?_)
                          obtain ⟨rfl, rfl⟩ := ret_eq hF
                          exact x_iret (pc := 208) C hr rfl (fun _ h => h) dX8_countNow_208
                        · rw [if_neg c23] at hF
                          by_cases c24 : (a1).toInt = 12
                          · rw [if_pos c24] at hF
                            refine x_tabIn (pc := 73) C 209 dX8_countNow_73 c24 (by decide) (by decide) rfl rfl ?_
                            refine x_aload_n (pc := 209) C 0 dX8_countNow_209 rfl rfl ?_
                            refine gf_X8_7 (pc := 210) C  dX8_countNow_210 ?_
                            refine x_iconst (pc := 213) C 4 dX8_countNow_213 ki_4 ?_
                            refine w_ald (pc := 214) C (vA_m 0 (by decide)) hF dX8_countNow_214 (fun x29 hF => ?_)
                            obtain ⟨rfl, rfl⟩ := ret_eq hF
                            exact x_iret (pc := 215) C hr rfl (fun _ h => h) dX8_countNow_215
                          · rw [if_neg c24] at hF
                            by_cases c25 : (a1).toInt = 13
                            · rw [if_pos c25] at hF
                              refine x_tabIn (pc := 73) C 216 dX8_countNow_73 c25 (by decide) (by decide) rfl rfl ?_
                              refine x_aload_n (pc := 216) C 0 dX8_countNow_216 rfl rfl ?_
                              refine gf_X8_7 (pc := 217) C  dX8_countNow_217 ?_
                              refine x_iconst (pc := 220) C 5 dX8_countNow_220 ki_5 ?_
                              refine w_ald (pc := 221) C (vA_m 0 (by decide)) hF dX8_countNow_221 (fun x28 hF => ?_)
                              obtain ⟨rfl, rfl⟩ := ret_eq hF
                              exact x_iret (pc := 222) C hr rfl (fun _ h => h) dX8_countNow_222
                            · rw [if_neg c25] at hF
                              by_cases c26 : (a1).toInt = 14
                              · rw [if_pos c26] at hF
                                refine x_tabIn (pc := 73) C 223 dX8_countNow_73 c26 (by decide) (by decide) rfl rfl ?_
                                refine x_aload_n (pc := 223) C 0 dX8_countNow_223 rfl rfl ?_
                                refine gf_X8_7 (pc := 224) C  dX8_countNow_224 ?_
                                refine x_bipush (pc := 227) C 6 dX8_countNow_227 kb_6 ?_
                                refine w_ald (pc := 229) C (vA_m 0 (by decide)) hF dX8_countNow_229 (fun x27 hF => ?_)
                                obtain ⟨rfl, rfl⟩ := ret_eq hF
                                exact x_iret (pc := 230) C hr rfl (fun _ h => h) dX8_countNow_230
                              · rw [if_neg c26] at hF
                                refine x_tabOut (pc := 73) C 231 dX8_countNow_73 (by omega) rfl ?_
                                refine x_aload_n (pc := 231) C 0 dX8_countNow_231 rfl rfl ?_
                                refine gf_X8_72 (pc := 232) C  dX8_countNow_232 ?_
                                obtain ⟨rfl, rfl⟩ := ret_eq hF
                                exact x_iret (pc := 235) C hr rfl (fun _ h => h) dX8_countNow_235
set_option maxRecDepth 4000 in
theorem c_X8_count (l : Launch) (G : xG) (b : Nat)     (a1 : Int32) {w w' : xWt} {v : Int32} (hF : F_X8_count a1 w = some (v, w')) : xMet l G b yX8_count cX8_count 2 (some .int) (xR 4) [.ref (mdb b), .int (a1)] (CW G b w) (some (.int v)) (CW G b w') 0 0 := by
  refine x_of (own := RX8) rfl (plainFor_of_name pn_X8) (Nat.le_of_ble_eq_true rfl) ?_
  intro p e s m args below meth c ha C hr _
  unfold F_X8_count at hF
  refine x_aload_n (pc := 0) C 0 dX8_count_0 rfl rfl ?_
  refine x_iload_n (pc := 1) C 1 dX8_count_1 rfl rfl ?_
  refine x_iconst (pc := 2) C 0 dX8_count_2 ki_0 ?_
  refine x_bipush (pc := 3) C 15 dX8_count_3 kb_15 ?_
  refine cS1_3 (pc := 5) (val := Value.int) C hF (fun _ _ h => c_X8_in l G b  _ _ _ h) sm_X8_in wq307 rfl rfl ⟨Nat.le_of_ble_eq_true rfl, Nat.le_of_ble_eq_true rfl⟩ (Nat.le_of_ble_eq_true rfl) ⟨Nat.le_refl _, Nat.le_refl _⟩ dX8_count_5 (fun x2 w1 hF => ?_)
  refine x_if_eq (pc := 8) C 15 dX8_count_8 rfl hF (fun c11 hF => ?_) (fun c11 hF => ?_)
  · refine x_iconst (pc := 15) C 1 dX8_count_15 ki_1 ?_
    refine pf_X8_33 (pc := 16) C   hF dX8_count_16 (fun w3 hF => ?_)
    refine x_aload_n (pc := 19) C 0 dX8_count_19 rfl rfl ?_
    refine gf_X8_33 (pc := 20) C  dX8_count_20 ?_
    refine x_if_le (pc := 23) C 30 dX8_count_23 rfl hF (fun c6 hF => ?_) (fun c6 hF => ?_)
    · refine x_aload_n (pc := 30) C 0 dX8_count_30 rfl rfl ?_
      refine x_iload_n (pc := 31) C 1 dX8_count_31 rfl rfl ?_
      refine cV1_1 (pc := 32) (val := Value.int) C hF (fun _ _ h => c_X8_countNow l G b  _ h) vm_X8_countNow wq1090 rfl rfl ⟨Nat.le_of_ble_eq_true rfl, Nat.le_of_ble_eq_true rfl⟩ rfl rfl (fun _ h => CW.md h) (Nat.le_of_ble_eq_true rfl) ⟨Nat.le_refl _, Nat.le_refl _⟩ dX8_count_32 (fun x5 w4 hF => ?_)
      obtain ⟨rfl, rfl⟩ := ret_eq hF
      exact x_iret (pc := 35) C hr rfl (fun _ h => h) dX8_count_35
    · refine x_iconst (pc := 26) C 0 dX8_count_26 ki_0 ?_
      refine x_goto (pc := 27) C 35 dX8_count_27 rfl ?_
      obtain ⟨rfl, rfl⟩ := ret_eq hF
      exact x_iret (pc := 35) C hr rfl (fun _ h => h) dX8_count_35
  · refine x_iconst (pc := 11) C 0 dX8_count_11 ki_0 ?_
    refine x_goto (pc := 12) C 16 dX8_count_12 rfl ?_
    refine pf_X8_33 (pc := 16) C   hF dX8_count_16 (fun w7 hF => ?_)
    refine x_aload_n (pc := 19) C 0 dX8_count_19 rfl rfl ?_
    refine gf_X8_33 (pc := 20) C  dX8_count_20 ?_
    refine x_if_le (pc := 23) C 30 dX8_count_23 rfl hF (fun c10 hF => ?_) (fun c10 hF => ?_)
    · refine x_aload_n (pc := 30) C 0 dX8_count_30 rfl rfl ?_
      refine x_iload_n (pc := 31) C 1 dX8_count_31 rfl rfl ?_
      refine cV1_1 (pc := 32) (val := Value.int) C hF (fun _ _ h => c_X8_countNow l G b  _ h) vm_X8_countNow wq1090 rfl rfl ⟨Nat.le_of_ble_eq_true rfl, Nat.le_of_ble_eq_true rfl⟩ rfl rfl (fun _ h => CW.md h) (Nat.le_of_ble_eq_true rfl) ⟨Nat.le_refl _, Nat.le_refl _⟩ dX8_count_32 (fun x9 w8 hF => ?_)
      obtain ⟨rfl, rfl⟩ := ret_eq hF
      exact x_iret (pc := 35) C hr rfl (fun _ h => h) dX8_count_35
    · refine x_iconst (pc := 26) C 0 dX8_count_26 ki_0 ?_
      refine x_goto (pc := 27) C 35 dX8_count_27 rfl ?_
      obtain ⟨rfl, rfl⟩ := ret_eq hF
      exact x_iret (pc := 35) C hr rfl (fun _ h => h) dX8_count_35
set_option maxRecDepth 4000 in
theorem s_X8_hooksOn_14 (C : xC p m c s args meth G b cX8_hooksOn 6 RX8)    : ∀ (n9 : Nat) (l1 : Int32) (l2 : Int32) (l3 : Int32) (l4 : Int32) (l5 : Int32) (w : xWt) (o : (Int32 × Int32)) (w' : xWt), L_X8_hooksOn_14  n9 l1 l2 l3 l4 l5 w = some (o, w') → xW p l e (xR 2) s m args below meth c Q b 6 (CW G b w') 0 0 60 [(0, .ref (mdb b)), (1, .int (l1)), (2, .int (l2)), (3, .int (o.1)), (4, .int (l4)), (5, .int (o.2))] [] → xW p l e (xR 2) s m args below meth c Q b 6 (CW G b w) 0 0 14 [(0, .ref (mdb b)), (1, .int (l1)), (2, .int (l2)), (3, .int (l3)), (4, .int (l4)), (5, .int (l5))] [] := by
  intro n9
  induction n9 with
  | zero => intro l1 l2 l3 l4 l5 w o w' hF; exact none_ne (show none = some _ from hF)
  | succ n9 ih =>
    intro l1 l2 l3 l4 l5 w o w' hF kx
    replace hF : B_X8_hooksOn_14  (L_X8_hooksOn_14  n9) l1 l2 l3 l4 l5 w = some (o, w') := hF
    unfold B_X8_hooksOn_14 at hF
    refine x_iload (pc := 14) C 5 dX8_hooksOn_14 rfl ?_
    refine x_iconst (pc := 16) C 3 dX8_hooksOn_16 ki_3 ?_
    refine x_icmp_ge (pc := 17) C 60 dX8_hooksOn_17 rfl hF (fun c7 hF => ?_) (fun c7 hF => ?_)
    · obtain ⟨rfl, rfl⟩ := ret_eq hF
      exact x_sub [0, 1, 2, 3, 4, 5] rfl kx
    · refine x_iload_n (pc := 20) C 3 dX8_hooksOn_20 rfl rfl ?_
      refine x_aload_n (pc := 21) C 0 dX8_hooksOn_21 rfl rfl ?_
      refine x_iload (pc := 22) C 4 dX8_hooksOn_22 rfl ?_
      refine x_iload (pc := 24) C 5 dX8_hooksOn_24 rfl ?_
      refine x_iconst (pc := 26) C 0 dX8_hooksOn_26 ki_0 ?_
      refine cV1_3 (pc := 27) (val := Value.int) C hF (fun _ _ h => c_X8_ofHook l G b  _ _ _ h) vm_X8_ofHook wq403 rfl rfl ⟨Nat.le_of_ble_eq_true rfl, Nat.le_of_ble_eq_true rfl⟩ rfl rfl (fun _ h => CW.md h) (Nat.le_of_ble_eq_true rfl) ⟨Nat.le_refl _, Nat.le_refl _⟩ dX8_hooksOn_27 (fun x2 w1 hF => ?_)
      refine x_iload_n (pc := 30) C 2 dX8_hooksOn_30 rfl rfl ?_
      refine x_icmp_ne (pc := 31) C 51 dX8_hooksOn_31 rfl hF (fun c6 hF => ?_) (fun c6 hF => ?_)
      · refine x_iconst (pc := 51) C 0 dX8_hooksOn_51 ki_0 ?_
        refine x_iadd (pc := 52) C dX8_hooksOn_52 ?_
        refine x_istore_n (pc := 53) C [(3, .int ((l3 + 0))), (0, .ref (mdb b)), (1, .int (l1)), (2, .int (l2)), (4, .int (l4)), (5, .int (l5))] dX8_hooksOn_53 rfl (by decide) rfl ?_
        refine x_iinc (pc := 54) C 5 [(5, .int ((l5 + 1))), (3, .int ((l3 + 0))), (0, .ref (mdb b)), (1, .int (l1)), (2, .int (l2)), (4, .int (l4))] dX8_hooksOn_54 rfl rfl (by decide) rfl ?_
        refine x_goto (pc := 57) C 14 dX8_hooksOn_57 rfl ?_
        exact x_sub [2, 3, 4, 1, 5, 0] rfl (ih _ _ _ _ _ _ _ _ hF kx)
      · refine x_aload_n (pc := 34) C 0 dX8_hooksOn_34 rfl rfl ?_
        refine x_iload (pc := 35) C 4 dX8_hooksOn_35 rfl ?_
        refine x_iload (pc := 37) C 5 dX8_hooksOn_37 rfl ?_
        refine x_iconst (pc := 39) C 1 dX8_hooksOn_39 ki_1 ?_
        refine cV1_3 (pc := 40) (val := Value.int) C hF (fun _ _ h => c_X8_ofHook l G b  _ _ _ h) vm_X8_ofHook wq403 rfl rfl ⟨Nat.le_of_ble_eq_true rfl, Nat.le_of_ble_eq_true rfl⟩ rfl rfl (fun _ h => CW.md h) (Nat.le_of_ble_eq_true rfl) ⟨Nat.le_refl _, Nat.le_refl _⟩ dX8_hooksOn_40 (fun x4 w3 hF => ?_)
        refine x_iload_n (pc := 43) C 1 dX8_hooksOn_43 rfl rfl ?_
        refine x_icmp_ne (pc := 44) C 51 dX8_hooksOn_44 rfl hF (fun c5 hF => ?_) (fun c5 hF => ?_)
        · refine x_iconst (pc := 51) C 0 dX8_hooksOn_51 ki_0 ?_
          refine x_iadd (pc := 52) C dX8_hooksOn_52 ?_
          refine x_istore_n (pc := 53) C [(3, .int ((l3 + 0))), (0, .ref (mdb b)), (1, .int (l1)), (2, .int (l2)), (4, .int (l4)), (5, .int (l5))] dX8_hooksOn_53 rfl (by decide) rfl ?_
          refine x_iinc (pc := 54) C 5 [(5, .int ((l5 + 1))), (3, .int ((l3 + 0))), (0, .ref (mdb b)), (1, .int (l1)), (2, .int (l2)), (4, .int (l4))] dX8_hooksOn_54 rfl rfl (by decide) rfl ?_
          refine x_goto (pc := 57) C 14 dX8_hooksOn_57 rfl ?_
          exact x_sub [2, 3, 4, 1, 5, 0] rfl (ih _ _ _ _ _ _ _ _ hF kx)
        · refine x_iconst (pc := 47) C 1 dX8_hooksOn_47 ki_1 ?_
          refine x_goto (pc := 48) C 52 dX8_hooksOn_48 rfl ?_
          refine x_iadd (pc := 52) C dX8_hooksOn_52 ?_
          refine x_istore_n (pc := 53) C [(3, .int ((l3 + 1))), (0, .ref (mdb b)), (1, .int (l1)), (2, .int (l2)), (4, .int (l4)), (5, .int (l5))] dX8_hooksOn_53 rfl (by decide) rfl ?_
          refine x_iinc (pc := 54) C 5 [(5, .int ((l5 + 1))), (3, .int ((l3 + 1))), (0, .ref (mdb b)), (1, .int (l1)), (2, .int (l2)), (4, .int (l4))] dX8_hooksOn_54 rfl rfl (by decide) rfl ?_
          refine x_goto (pc := 57) C 14 dX8_hooksOn_57 rfl ?_
          exact x_sub [2, 3, 4, 1, 5, 0] rfl (ih _ _ _ _ _ _ _ _ hF kx)
set_option maxRecDepth 4000 in
theorem s_X8_hooksOn_5 (C : xC p m c s args meth G b cX8_hooksOn 6 RX8)    : ∀ (n9 : Nat) (l1 : Int32) (l2 : Int32) (l3 : Int32) (l4 : Int32) (w : xWt) (o : (Int32 × Int32)) (w' : xWt), L_X8_hooksOn_5  n9 l1 l2 l3 l4 w = some (o, w') → xW p l e (xR 2) s m args below meth c Q b 6 (CW G b w') 0 0 66 [(0, .ref (mdb b)), (1, .int (l1)), (2, .int (l2)), (3, .int (o.1)), (4, .int (o.2))] [] → xW p l e (xR 2) s m args below meth c Q b 6 (CW G b w) 0 0 5 [(0, .ref (mdb b)), (1, .int (l1)), (2, .int (l2)), (3, .int (l3)), (4, .int (l4))] [] := by
  intro n9
  induction n9 with
  | zero => intro l1 l2 l3 l4 w o w' hF; exact none_ne (show none = some _ from hF)
  | succ n9 ih =>
    intro l1 l2 l3 l4 w o w' hF kx
    replace hF : B_X8_hooksOn_5  (L_X8_hooksOn_5  n9) l1 l2 l3 l4 w = some (o, w') := hF
    unfold B_X8_hooksOn_5 at hF
    refine x_iload (pc := 5) C 4 dX8_hooksOn_5 rfl ?_
    refine x_iconst (pc := 7) C 5 dX8_hooksOn_7 ki_5 ?_
    refine x_icmp_ge (pc := 8) C 66 dX8_hooksOn_8 rfl hF (fun c10 hF => ?_) (fun c10 hF => ?_)
    · obtain ⟨rfl, rfl⟩ := ret_eq hF
      exact x_sub [0, 1, 2, 3, 4] rfl kx
    · refine x_iconst (pc := 11) C 0 dX8_hooksOn_11 ki_0 ?_
      refine x_istore (pc := 12) C [(5, .int (0)), (0, .ref (mdb b)), (1, .int (l1)), (2, .int (l2)), (3, .int (l3)), (4, .int (l4))] dX8_hooksOn_12 (by decide) rfl ?_
      obtain ⟨o8, w9, hL, hF⟩ := bd_some hF
      refine x_sub [1, 2, 3, 4, 5, 0] rfl (s_X8_hooksOn_14 C  _ _ _ _ _ _ _ _ _ hL ?_)
      refine x_iinc (pc := 60) C 4 [(4, .int ((l4 + 1))), (0, .ref (mdb b)), (1, .int (l1)), (2, .int (l2)), (3, .int (o8.1)), (5, .int (o8.2))] dX8_hooksOn_60 rfl rfl (by decide) rfl ?_
      refine x_goto (pc := 63) C 5 dX8_hooksOn_63 rfl ?_
      exact x_sub [1, 2, 3, 4, 0] rfl (ih _ _ _ _ _ _ _ hF kx)
set_option maxRecDepth 4000 in
theorem c_X8_hooksOn (l : Launch) (G : xG) (b : Nat)     (a1 : Int32) (a2 : Int32) {w w' : xWt} {v : Int32} (hF : F_X8_hooksOn a1 a2 w = some (v, w')) : xMet l G b yX8_hooksOn cX8_hooksOn 6 (some .int) (xR 2) [.ref (mdb b), .int (a1), .int (a2)] (CW G b w) (some (.int v)) (CW G b w') 0 0 := by
  refine x_of (own := RX8) rfl (plainFor_of_name pn_X8) (Nat.le_of_ble_eq_true rfl) ?_
  intro p e s m args below meth c ha C hr _
  unfold F_X8_hooksOn at hF
  refine x_iconst (pc := 0) C 0 dX8_hooksOn_0 ki_0 ?_
  refine x_istore_n (pc := 1) C [(3, .int (0)), (0, .ref (mdb b)), (1, .int (a1)), (2, .int (a2))] dX8_hooksOn_1 rfl (by decide) rfl ?_
  refine x_iconst (pc := 2) C 0 dX8_hooksOn_2 ki_0 ?_
  refine x_istore (pc := 3) C [(4, .int (0)), (3, .int (0)), (0, .ref (mdb b)), (1, .int (a1)), (2, .int (a2))] dX8_hooksOn_3 (by decide) rfl ?_
  obtain ⟨o11, w12, hL, hF⟩ := bd_some hF
  refine x_sub [2, 3, 4, 1, 0] rfl (s_X8_hooksOn_5 C  _ _ _ _ _ _ _ _ hL ?_)
  refine x_iload_n (pc := 66) C 3 dX8_hooksOn_66 rfl rfl ?_
  obtain ⟨rfl, rfl⟩ := ret_eq hF
  exact x_iret (pc := 67) C hr rfl (fun _ h => h) dX8_hooksOn_67
set_option maxRecDepth 4000 in
theorem c_X8_freedBy (l : Launch) (G : xG) (b : Nat)     (a1 : Int32) (a2 : Int32) {w w' : xWt} {v : Int32} (hF : F_X8_freedBy a1 a2 w = some (v, w')) : xMet l G b yX8_freedBy cX8_freedBy 5 (some .int) (xR 3) [.ref (mdb b), .int (a1), .int (a2)] (CW G b w) (some (.int v)) (CW G b w') 0 0 := by
  refine x_of (own := RX8) rfl (plainFor_of_name pn_X8) (Nat.le_of_ble_eq_true rfl) ?_
  intro p e s m args below meth c ha C hr _
  unfold F_X8_freedBy at hF
  refine x_aload_n (pc := 0) C 0 dX8_freedBy_0 rfl rfl ?_
  refine x_iload_n (pc := 1) C 1 dX8_freedBy_1 rfl rfl ?_
  refine x_iload_n (pc := 2) C 2 dX8_freedBy_2 rfl rfl ?_
  refine x_iconst (pc := 3) C 1 dX8_freedBy_3 ki_1 ?_
  refine cV1_3 (pc := 4) (val := Value.int) C hF (fun _ _ h => c_X8_ofHook l G b  _ _ _ h) vm_X8_ofHook wq403 rfl rfl ⟨Nat.le_of_ble_eq_true rfl, Nat.le_of_ble_eq_true rfl⟩ rfl rfl (fun _ h => CW.md h) (Nat.le_of_ble_eq_true rfl) ⟨Nat.le_refl _, Nat.le_refl _⟩ dX8_freedBy_4 (fun x2 w1 hF => ?_)
  refine x_istore_n (pc := 7) C [(3, .int (x2)), (0, .ref (mdb b)), (1, .int (a1)), (2, .int (a2))] dX8_freedBy_7 rfl (by decide) rfl ?_
  refine x_aload_n (pc := 8) C 1 dX8_freedBy_8 rfl rfl ?_
  refine x_iload_n (pc := 9) C 2 dX8_freedBy_9 rfl rfl ?_
  refine x_iload_n (pc := 10) C 3 dX8_freedBy_10 rfl rfl ?_
  refine x_iconst (pc := 11) C 0 dX8_freedBy_11 ki_0 ?_
  refine cV1_3 (pc := 12) (val := Value.int) C hF (fun _ _ h => c_X8_ofHook l G b  _ _ _ h) vm_X8_ofHook wq403 rfl rfl ⟨Nat.le_of_ble_eq_true rfl, Nat.le_of_ble_eq_true rfl⟩ rfl rfl (fun _ h => CW.md h) (Nat.le_of_ble_eq_true rfl) ⟨Nat.le_refl _, Nat.le_refl _⟩ dX8_freedBy_12 (fun x4 w3 hF => ?_)
  refine x_iconst (pc := 15) C 2 dX8_freedBy_15 ki_2 ?_
  refine x_icmp_ne (pc := 16) C 43 dX8_freedBy_16 rfl hF (fun c15 hF => ?_) (fun c15 hF => ?_)
  · refine x_iconst (pc := 43) C 0 dX8_freedBy_43 ki_0 ?_
    refine x_istore (pc := 44) C [(4, .int (0)), (3, .int (x2)), (0, .ref (mdb b)), (1, .int (a1)), (2, .int (a2))] dX8_freedBy_44 (by decide) rfl ?_
    refine x_iload (pc := 46) C 0 dX8_freedBy_46 rfl ?_
    refine x_if_eq (pc := 48) C 55 dX8_freedBy_48 rfl (cst_t (c9 := (0 : Int32) = 0) (by decide) hF) (fun c5 hF => ?_) (fun c5 _ => absurd (by decide) c5)
    refine x_iconst (pc := 55) C 0 dX8_freedBy_55 ki_0 ?_
    obtain ⟨rfl, rfl⟩ := ret_eq hF
    exact x_iret (pc := 56) C hr rfl (fun _ h => h) dX8_freedBy_56
  · refine x_aload_n (pc := 19) C 1 dX8_freedBy_19 rfl rfl ?_
    refine x_iload_n (pc := 20) C 0 dX8_freedBy_20 rfl rfl ?_
    refine x_iconst (pc := 21) C 1 dX8_freedBy_21 ki_1 ?_
    refine cV1_2 (pc := 22) (val := Value.int) C hF (fun _ _ h => c_X8_of l G b  _ _ h) vm_X8_of wq318 rfl rfl ⟨Nat.le_of_ble_eq_true rfl, Nat.le_of_ble_eq_true rfl⟩ rfl rfl (fun _ h => CW.md h) (Nat.le_of_ble_eq_true rfl) ⟨Nat.le_refl _, Nat.le_refl _⟩ dX8_freedBy_22 (fun x7 w6 hF => ?_)
    refine x_iconst (pc := 25) C 1 dX8_freedBy_25 ki_1 ?_
    refine x_icmp_ne (pc := 26) C 43 dX8_freedBy_26 rfl hF (fun c14 hF => ?_) (fun c14 hF => ?_)
    · refine x_iconst (pc := 43) C 0 dX8_freedBy_43 ki_0 ?_
      refine x_istore (pc := 44) C [(4, .int (0)), (3, .int (x2)), (0, .ref (mdb b)), (1, .int (a1)), (2, .int (a2))] dX8_freedBy_44 (by decide) rfl ?_
      refine x_iload (pc := 46) C 0 dX8_freedBy_46 rfl ?_
      refine x_if_eq (pc := 48) C 55 dX8_freedBy_48 rfl (cst_t (c9 := (0 : Int32) = 0) (by decide) hF) (fun c8 hF => ?_) (fun c8 _ => absurd (by decide) c8)
      refine x_iconst (pc := 55) C 0 dX8_freedBy_55 ki_0 ?_
      obtain ⟨rfl, rfl⟩ := ret_eq hF
      exact x_iret (pc := 56) C hr rfl (fun _ h => h) dX8_freedBy_56
    · refine x_aload_n (pc := 29) C 1 dX8_freedBy_29 rfl rfl ?_
      refine x_iload_n (pc := 30) C 0 dX8_freedBy_30 rfl rfl ?_
      refine x_iconst (pc := 31) C 2 dX8_freedBy_31 ki_2 ?_
      refine cV1_2 (pc := 32) (val := Value.int) C hF (fun _ _ h => c_X8_hooksOn l G b  _ _ h) vm_X8_hooksOn wq997 rfl rfl ⟨Nat.le_of_ble_eq_true rfl, Nat.le_of_ble_eq_true rfl⟩ rfl rfl (fun _ h => CW.md h) (Nat.le_of_ble_eq_true rfl) ⟨Nat.le_refl _, Nat.le_refl _⟩ dX8_freedBy_32 (fun x10 w9 hF => ?_)
      refine x_iconst (pc := 35) C 1 dX8_freedBy_35 ki_1 ?_
      refine x_icmp_ne (pc := 36) C 43 dX8_freedBy_36 rfl hF (fun c13 hF => ?_) (fun c13 hF => ?_)
      · refine x_iconst (pc := 43) C 0 dX8_freedBy_43 ki_0 ?_
        refine x_istore (pc := 44) C [(4, .int (0)), (3, .int (x2)), (0, .ref (mdb b)), (1, .int (a1)), (2, .int (a2))] dX8_freedBy_44 (by decide) rfl ?_
        refine x_iload (pc := 46) C 0 dX8_freedBy_46 rfl ?_
        refine x_if_eq (pc := 48) C 55 dX8_freedBy_48 rfl (cst_t (c9 := (0 : Int32) = 0) (by decide) hF) (fun c11 hF => ?_) (fun c11 _ => absurd (by decide) c11)
        refine x_iconst (pc := 55) C 0 dX8_freedBy_55 ki_0 ?_
        obtain ⟨rfl, rfl⟩ := ret_eq hF
        exact x_iret (pc := 56) C hr rfl (fun _ h => h) dX8_freedBy_56
      · refine x_iconst (pc := 39) C 1 dX8_freedBy_39 ki_1 ?_
        refine x_goto (pc := 40) C 44 dX8_freedBy_40 rfl ?_
        refine x_istore (pc := 44) C [(4, .int (1)), (3, .int (x2)), (0, .ref (mdb b)), (1, .int (a1)), (2, .int (a2))] dX8_freedBy_44 (by decide) rfl ?_
        refine x_iload (pc := 46) C 0 dX8_freedBy_46 rfl ?_
        refine x_if_eq (pc := 48) C 55 dX8_freedBy_48 rfl (cst_f (c9 := (1 : Int32) = 0) (by decide) hF) (fun c12 _ => absurd c12 (by decide)) (fun c12 hF => ?_)
        refine x_iconst (pc := 51) C 1 dX8_freedBy_51 ki_1 ?_
        refine x_goto (pc := 52) C 56 dX8_freedBy_52 rfl ?_
        obtain ⟨rfl, rfl⟩ := ret_eq hF
        exact x_iret (pc := 56) C hr rfl (fun _ h => h) dX8_freedBy_56
set_option maxRecDepth 4000 in
theorem s_X8_onHeap_22 (C : xC p m c s args meth G b cX8_onHeap 7 RX8)    : ∀ (n9 : Nat) (l1 : Int32) (l2 : Int32) (l3 : Int32) (l4 : Int32) (l5 : Int32) (l6 : Int32) (w : xWt) (o : (Int32 × Int32)) (w' : xWt), L_X8_onHeap_22  n9 l1 l2 l3 l4 l5 l6 w = some (o, w') → xW p l e (xR 2) s m args below meth c Q b 7 (CW G b w') 0 0 76 [(0, .ref (mdb b)), (1, .int (l1)), (2, .int (l2)), (3, .int (l3)), (4, .int (l4)), (5, .int (o.1)), (6, .int (o.2))] [] → xW p l e (xR 2) s m args below meth c Q b 7 (CW G b w) 0 0 22 [(0, .ref (mdb b)), (1, .int (l1)), (2, .int (l2)), (3, .int (l3)), (4, .int (l4)), (5, .int (l5)), (6, .int (l6))] [] := by
  intro n9
  induction n9 with
  | zero => intro l1 l2 l3 l4 l5 l6 w o w' hF; exact none_ne (show none = some _ from hF)
  | succ n9 ih =>
    intro l1 l2 l3 l4 l5 l6 w o w' hF kx
    replace hF : B_X8_onHeap_22  (L_X8_onHeap_22  n9) l1 l2 l3 l4 l5 l6 w = some (o, w') := hF
    unfold B_X8_onHeap_22 at hF
    refine x_iload (pc := 22) C 6 dX8_onHeap_22 rfl ?_
    refine x_aload_n (pc := 24) C 0 dX8_onHeap_24 rfl rfl ?_
    refine gf_X8_7 (pc := 25) C  dX8_onHeap_25 ?_
    refine x_iconst (pc := 28) C 1 dX8_onHeap_28 ki_1 ?_
    refine w_ald (pc := 29) C (vA_m 0 (by decide)) hF dX8_onHeap_29 (fun x2 hF => ?_)
    refine x_icmp_ge (pc := 30) C 76 dX8_onHeap_30 rfl hF (fun c11 hF => ?_) (fun c11 hF => ?_)
    · obtain ⟨rfl, rfl⟩ := ret_eq hF
      exact x_sub [0, 1, 2, 3, 4, 5, 6] rfl kx
    · refine x_iload (pc := 33) C 5 dX8_onHeap_33 rfl ?_
      refine x_aload_n (pc := 35) C 0 dX8_onHeap_35 rfl rfl ?_
      refine x_iload (pc := 36) C 6 dX8_onHeap_36 rfl ?_
      refine x_iload_n (pc := 38) C 1 dX8_onHeap_38 rfl rfl ?_
      refine cV1_2 (pc := 39) (val := Value.int) C hF (fun _ _ h => c_X8_isOnHeap l G b  _ _ h) vm_X8_isOnHeap wq314 rfl rfl ⟨Nat.le_of_ble_eq_true rfl, Nat.le_of_ble_eq_true rfl⟩ rfl rfl (fun _ h => CW.md h) (Nat.le_of_ble_eq_true rfl) ⟨Nat.le_refl _, Nat.le_refl _⟩ dX8_onHeap_39 (fun x4 w3 hF => ?_)
      refine x_if_eq (pc := 42) C 66 dX8_onHeap_42 rfl hF (fun c10 hF => ?_) (fun c10 hF => ?_)
      · refine x_iconst (pc := 66) C 0 dX8_onHeap_66 ki_0 ?_
        refine x_iadd (pc := 67) C dX8_onHeap_67 ?_
        refine x_istore (pc := 68) C [(5, .int ((l5 + 0))), (0, .ref (mdb b)), (1, .int (l1)), (2, .int (l2)), (3, .int (l3)), (4, .int (l4)), (6, .int (l6))] dX8_onHeap_68 (by decide) rfl ?_
        refine x_iinc (pc := 70) C 6 [(6, .int ((l6 + 1))), (5, .int ((l5 + 0))), (0, .ref (mdb b)), (1, .int (l1)), (2, .int (l2)), (3, .int (l3)), (4, .int (l4))] dX8_onHeap_70 rfl rfl (by decide) rfl ?_
        refine x_goto (pc := 73) C 22 dX8_onHeap_73 rfl ?_
        exact x_sub [2, 3, 4, 5, 6, 1, 0] rfl (ih _ _ _ _ _ _ _ _ _ hF kx)
      · refine x_aload_n (pc := 45) C 0 dX8_onHeap_45 rfl rfl ?_
        refine x_iload (pc := 46) C 6 dX8_onHeap_46 rfl ?_
        refine x_iconst (pc := 48) C 5 dX8_onHeap_48 ki_5 ?_
        refine cV1_2 (pc := 49) (val := Value.int) C hF (fun _ _ h => c_X8_of l G b  _ _ h) vm_X8_of wq318 rfl rfl ⟨Nat.le_of_ble_eq_true rfl, Nat.le_of_ble_eq_true rfl⟩ rfl rfl (fun _ h => CW.md h) (Nat.le_of_ble_eq_true rfl) ⟨Nat.le_refl _, Nat.le_refl _⟩ dX8_onHeap_49 (fun x6 w5 hF => ?_)
        refine x_aload_n (pc := 52) C 0 dX8_onHeap_52 rfl rfl ?_
        refine x_iload (pc := 53) C 4 dX8_onHeap_53 rfl ?_
        refine x_iconst (pc := 55) C 5 dX8_onHeap_55 ki_5 ?_
        refine cV1_2 (pc := 56) (val := Value.int) C hF (fun _ _ h => c_X8_of l G b  _ _ h) vm_X8_of wq318 rfl rfl ⟨Nat.le_of_ble_eq_true rfl, Nat.le_of_ble_eq_true rfl⟩ rfl rfl (fun _ h => CW.md h) (Nat.le_of_ble_eq_true rfl) ⟨Nat.le_refl _, Nat.le_refl _⟩ dX8_onHeap_56 (fun x8 w7 hF => ?_)
        refine x_icmp_ge (pc := 59) C 66 dX8_onHeap_59 rfl hF (fun c9 hF => ?_) (fun c9 hF => ?_)
        · refine x_iconst (pc := 66) C 0 dX8_onHeap_66 ki_0 ?_
          refine x_iadd (pc := 67) C dX8_onHeap_67 ?_
          refine x_istore (pc := 68) C [(5, .int ((l5 + 0))), (0, .ref (mdb b)), (1, .int (l1)), (2, .int (l2)), (3, .int (l3)), (4, .int (l4)), (6, .int (l6))] dX8_onHeap_68 (by decide) rfl ?_
          refine x_iinc (pc := 70) C 6 [(6, .int ((l6 + 1))), (5, .int ((l5 + 0))), (0, .ref (mdb b)), (1, .int (l1)), (2, .int (l2)), (3, .int (l3)), (4, .int (l4))] dX8_onHeap_70 rfl rfl (by decide) rfl ?_
          refine x_goto (pc := 73) C 22 dX8_onHeap_73 rfl ?_
          exact x_sub [2, 3, 4, 5, 6, 1, 0] rfl (ih _ _ _ _ _ _ _ _ _ hF kx)
        · refine x_iconst (pc := 62) C 1 dX8_onHeap_62 ki_1 ?_
          refine x_goto (pc := 63) C 67 dX8_onHeap_63 rfl ?_
          refine x_iadd (pc := 67) C dX8_onHeap_67 ?_
          refine x_istore (pc := 68) C [(5, .int ((l5 + 1))), (0, .ref (mdb b)), (1, .int (l1)), (2, .int (l2)), (3, .int (l3)), (4, .int (l4)), (6, .int (l6))] dX8_onHeap_68 (by decide) rfl ?_
          refine x_iinc (pc := 70) C 6 [(6, .int ((l6 + 1))), (5, .int ((l5 + 1))), (0, .ref (mdb b)), (1, .int (l1)), (2, .int (l2)), (3, .int (l3)), (4, .int (l4))] dX8_onHeap_70 rfl rfl (by decide) rfl ?_
          refine x_goto (pc := 73) C 22 dX8_onHeap_73 rfl ?_
          exact x_sub [2, 3, 4, 5, 6, 1, 0] rfl (ih _ _ _ _ _ _ _ _ _ hF kx)
set_option maxRecDepth 4000 in
theorem s_X8_onHeap_5 (C : xC p m c s args meth G b cX8_onHeap 7 RX8)    : ∀ (n9 : Nat) (l1 : Int32) (l2 : Int32) (l3 : Int32) (l4 : Int32) (w : xWt) (o : (Int32 × Int32)) (w' : xWt), L_X8_onHeap_5  n9 l1 l2 l3 l4 w = some (o, w') → xW p l e (xR 2) s m args below meth c Q b 7 (CW G b w') 0 0 105 [(0, .ref (mdb b)), (1, .int (l1)), (2, .int (l2)), (3, .int (o.1)), (4, .int (o.2))] [] → xW p l e (xR 2) s m args below meth c Q b 7 (CW G b w) 0 0 5 [(0, .ref (mdb b)), (1, .int (l1)), (2, .int (l2)), (3, .int (l3)), (4, .int (l4))] [] := by
  intro n9
  induction n9 with
  | zero => intro l1 l2 l3 l4 w o w' hF; exact none_ne (show none = some _ from hF)
  | succ n9 ih =>
    intro l1 l2 l3 l4 w o w' hF kx
    replace hF : B_X8_onHeap_5  (L_X8_onHeap_5  n9) l1 l2 l3 l4 w = some (o, w') := hF
    unfold B_X8_onHeap_5 at hF
    refine x_iload (pc := 5) C 4 dX8_onHeap_5 rfl ?_
    refine x_aload_n (pc := 7) C 0 dX8_onHeap_7 rfl rfl ?_
    refine gf_X8_7 (pc := 8) C  dX8_onHeap_8 ?_
    refine x_iconst (pc := 11) C 1 dX8_onHeap_11 ki_1 ?_
    refine w_ald (pc := 12) C (vA_m 0 (by decide)) hF dX8_onHeap_12 (fun x1 hF => ?_)
    refine x_icmp_ge (pc := 13) C 105 dX8_onHeap_13 rfl hF (fun c18 hF => ?_) (fun c18 hF => ?_)
    · obtain ⟨rfl, rfl⟩ := ret_eq hF
      exact x_sub [0, 1, 2, 3, 4] rfl kx
    · refine x_iconst (pc := 16) C 0 dX8_onHeap_16 ki_0 ?_
      refine x_istore (pc := 17) C [(5, .int (0)), (0, .ref (mdb b)), (1, .int (l1)), (2, .int (l2)), (3, .int (l3)), (4, .int (l4))] dX8_onHeap_17 (by decide) rfl ?_
      refine x_iconst (pc := 19) C 0 dX8_onHeap_19 ki_0 ?_
      refine x_istore (pc := 20) C [(6, .int (0)), (5, .int (0)), (0, .ref (mdb b)), (1, .int (l1)), (2, .int (l2)), (3, .int (l3)), (4, .int (l4))] dX8_onHeap_20 (by decide) rfl ?_
      obtain ⟨o12, w13, hL, hF⟩ := bd_some hF
      refine x_sub [2, 3, 4, 5, 6, 1, 0] rfl (s_X8_onHeap_22 C  _ _ _ _ _ _ _ _ _ _ hL ?_)
      refine x_aload_n (pc := 76) C 0 dX8_onHeap_76 rfl rfl ?_
      refine x_iload (pc := 77) C 4 dX8_onHeap_77 rfl ?_
      refine x_iload_n (pc := 79) C 1 dX8_onHeap_79 rfl rfl ?_
      refine cV1_2 (pc := 80) (val := Value.int) C hF (fun _ _ h => c_X8_isOnHeap l G b  _ _ h) vm_X8_isOnHeap wq314 rfl rfl ⟨Nat.le_of_ble_eq_true rfl, Nat.le_of_ble_eq_true rfl⟩ rfl rfl (fun _ h => CW.md h) (Nat.le_of_ble_eq_true rfl) ⟨Nat.le_refl _, Nat.le_refl _⟩ dX8_onHeap_80 (fun x15 w14 hF => ?_)
      refine x_if_eq (pc := 83) C 97 dX8_onHeap_83 rfl hF (fun c17 hF => ?_) (fun c17 hF => ?_)
      · refine x_iload_n (pc := 97) C 3 dX8_onHeap_97 rfl rfl ?_
        refine x_istore_n (pc := 98) C [(3, .int (l3)), (0, .ref (mdb b)), (1, .int (l1)), (2, .int (l2)), (4, .int (l4)), (5, .int (o12.1)), (6, .int (o12.2))] dX8_onHeap_98 rfl (by decide) rfl ?_
        refine x_iinc (pc := 99) C 4 [(4, .int ((l4 + 1))), (3, .int (l3)), (0, .ref (mdb b)), (1, .int (l1)), (2, .int (l2)), (5, .int (o12.1)), (6, .int (o12.2))] dX8_onHeap_99 rfl rfl (by decide) rfl ?_
        refine x_goto (pc := 102) C 5 dX8_onHeap_102 rfl ?_
        exact x_sub [2, 3, 4, 1, 0] rfl (ih _ _ _ _ _ _ _ hF kx)
      · refine x_iload (pc := 86) C 5 dX8_onHeap_86 rfl ?_
        refine x_iload_n (pc := 88) C 2 dX8_onHeap_88 rfl rfl ?_
        refine x_icmp_ne (pc := 89) C 97 dX8_onHeap_89 rfl hF (fun c16 hF => ?_) (fun c16 hF => ?_)
        · refine x_iload_n (pc := 97) C 3 dX8_onHeap_97 rfl rfl ?_
          refine x_istore_n (pc := 98) C [(3, .int (l3)), (0, .ref (mdb b)), (1, .int (l1)), (2, .int (l2)), (4, .int (l4)), (5, .int (o12.1)), (6, .int (o12.2))] dX8_onHeap_98 rfl (by decide) rfl ?_
          refine x_iinc (pc := 99) C 4 [(4, .int ((l4 + 1))), (3, .int (l3)), (0, .ref (mdb b)), (1, .int (l1)), (2, .int (l2)), (5, .int (o12.1)), (6, .int (o12.2))] dX8_onHeap_99 rfl rfl (by decide) rfl ?_
          refine x_goto (pc := 102) C 5 dX8_onHeap_102 rfl ?_
          exact x_sub [2, 3, 4, 1, 0] rfl (ih _ _ _ _ _ _ _ hF kx)
        · refine x_iload (pc := 92) C 4 dX8_onHeap_92 rfl ?_
          refine x_goto (pc := 94) C 98 dX8_onHeap_94 rfl ?_
          refine x_istore_n (pc := 98) C [(3, .int (l4)), (0, .ref (mdb b)), (1, .int (l1)), (2, .int (l2)), (4, .int (l4)), (5, .int (o12.1)), (6, .int (o12.2))] dX8_onHeap_98 rfl (by decide) rfl ?_
          refine x_iinc (pc := 99) C 4 [(4, .int ((l4 + 1))), (3, .int (l4)), (0, .ref (mdb b)), (1, .int (l1)), (2, .int (l2)), (5, .int (o12.1)), (6, .int (o12.2))] dX8_onHeap_99 rfl rfl (by decide) rfl ?_
          refine x_goto (pc := 102) C 5 dX8_onHeap_102 rfl ?_
          exact x_sub [2, 3, 4, 1, 0] rfl (ih _ _ _ _ _ _ _ hF kx)
set_option maxRecDepth 4000 in
theorem c_X8_onHeap (l : Launch) (G : xG) (b : Nat)     (a1 : Int32) (a2 : Int32) {w w' : xWt} {v : Int32} (hF : F_X8_onHeap a1 a2 w = some (v, w')) : xMet l G b yX8_onHeap cX8_onHeap 7 (some .int) (xR 2) [.ref (mdb b), .int (a1), .int (a2)] (CW G b w) (some (.int v)) (CW G b w') 0 0 := by
  refine x_of (own := RX8) rfl (plainFor_of_name pn_X8) (Nat.le_of_ble_eq_true rfl) ?_
  intro p e s m args below meth c ha C hr _
  unfold F_X8_onHeap at hF
  refine x_iconst (pc := 0) C (-1) dX8_onHeap_0 ki_m1 ?_
  refine x_istore_n (pc := 1) C [(3, .int ((-1))), (0, .ref (mdb b)), (1, .int (a1)), (2, .int (a2))] dX8_onHeap_1 rfl (by decide) rfl ?_
  refine x_iconst (pc := 2) C 0 dX8_onHeap_2 ki_0 ?_
  refine x_istore (pc := 3) C [(4, .int (0)), (3, .int ((-1))), (0, .ref (mdb b)), (1, .int (a1)), (2, .int (a2))] dX8_onHeap_3 (by decide) rfl ?_
  obtain ⟨o19, w20, hL, hF⟩ := bd_some hF
  refine x_sub [2, 3, 4, 1, 0] rfl (s_X8_onHeap_5 C  _ _ _ _ _ _ _ _ hL ?_)
  refine x_iload_n (pc := 105) C 3 dX8_onHeap_105 rfl rfl ?_
  obtain ⟨rfl, rfl⟩ := ret_eq hF
  exact x_iret (pc := 106) C hr rfl (fun _ h => h) dX8_onHeap_106
set_option maxRecDepth 4000 in
theorem s_X8_digestOf_6 (C : xC p m c s args meth G b cX8_digestOf 8 RX8)    : ∀ (n9 : Nat) (l1 : Int32) (l2 : Int64) (l4 : Int64) (l6 : Int32) (w : xWt) (o : (Int64 × Int32)) (w' : xWt), L_X8_digestOf_6  n9 l1 l2 l4 l6 w = some (o, w') → xW p l e (xR 5) s m args below meth c Q b 8 (CW G b w') 0 0 36 [(0, .ref (mdb b)), (1, .int (l1)), (2, .long (l2)), (4, .long (o.1)), (6, .int (o.2))] [] → xW p l e (xR 5) s m args below meth c Q b 8 (CW G b w) 0 0 6 [(0, .ref (mdb b)), (1, .int (l1)), (2, .long (l2)), (4, .long (l4)), (6, .int (l6))] [] := by
  intro n9
  induction n9 with
  | zero => intro l1 l2 l4 l6 w o w' hF; exact none_ne (show none = some _ from hF)
  | succ n9 ih =>
    intro l1 l2 l4 l6 w o w' hF kx
    replace hF : B_X8_digestOf_6  (L_X8_digestOf_6  n9) l1 l2 l4 l6 w = some (o, w') := hF
    unfold B_X8_digestOf_6 at hF
    refine x_iload (pc := 6) C 4 dX8_digestOf_6 rfl ?_
    refine x_bipush (pc := 8) C 8 dX8_digestOf_8 kb_8 ?_
    refine x_icmp_ge (pc := 10) C 36 dX8_digestOf_10 rfl hF (fun c3 hF => ?_) (fun c3 hF => ?_)
    · obtain ⟨rfl, rfl⟩ := ret_eq hF
      exact x_sub [0, 1, 2, 3, 4] rfl kx
    · refine x_ldc2 (pc := 13) C wq1295 dX8_digestOf_13 ?_
      refine x_lload (pc := 16) C 3 dX8_digestOf_16 rfl ?_
      refine x_lmul (pc := 18) C dX8_digestOf_18 ?_
      refine x_aload_n (pc := 19) C 0 dX8_digestOf_19 rfl rfl ?_
      refine x_iload_n (pc := 20) C 1 dX8_digestOf_20 rfl rfl ?_
      refine x_iload (pc := 21) C 4 dX8_digestOf_21 rfl ?_
      refine cV1_2 (pc := 23) (val := Value.int) C hF (fun _ _ h => c_X8_childNow l G b  _ _ h) vm_X8_childNow wq1020 rfl rfl ⟨Nat.le_of_ble_eq_true rfl, Nat.le_of_ble_eq_true rfl⟩ rfl rfl (fun _ h => CW.md h) (Nat.le_of_ble_eq_true rfl) ⟨Nat.le_refl _, Nat.le_refl _⟩ dX8_digestOf_23 (fun x2 w1 hF => ?_)
      refine x_i2l (pc := 26) C dX8_digestOf_26 ?_
      refine x_ladd (pc := 27) C dX8_digestOf_27 ?_
      refine x_lstore (pc := 28) C [(4, .long (((31 * l4) + (Int32.toInt64 x2)))), (0, .ref (mdb b)), (1, .int (l1)), (2, .long (l2)), (6, .int (l6))] dX8_digestOf_28 (by decide) rfl ?_
      refine x_iinc (pc := 30) C 4 [(6, .int ((l6 + 1))), (4, .long (((31 * l4) + (Int32.toInt64 x2)))), (0, .ref (mdb b)), (1, .int (l1)), (2, .long (l2))] dX8_digestOf_30 rfl rfl (by decide) rfl ?_
      refine x_goto (pc := 33) C 6 dX8_digestOf_33 rfl ?_
      exact x_sub [2, 3, 4, 1, 0] rfl (ih _ _ _ _ _ _ _ hF kx)
set_option maxRecDepth 4000 in
theorem s_X8_digestOf_48 (C : xC p m c s args meth G b cX8_digestOf 8 RX8)    : ∀ (n9 : Nat) (l1 : Int32) (l2 : Int64) (l4 : Int64) (l6 : Int32) (l7 : Int32) (w : xWt) (o : (Int64 × Int32)) (w' : xWt), L_X8_digestOf_48  n9 l1 l2 l4 l6 l7 w = some (o, w') → xW p l e (xR 5) s m args below meth c Q b 8 (CW G b w') 0 0 79 [(0, .ref (mdb b)), (1, .int (l1)), (2, .long (l2)), (4, .long (o.1)), (6, .int (l6)), (7, .int (o.2))] [] → xW p l e (xR 5) s m args below meth c Q b 8 (CW G b w) 0 0 48 [(0, .ref (mdb b)), (1, .int (l1)), (2, .long (l2)), (4, .long (l4)), (6, .int (l6)), (7, .int (l7))] [] := by
  intro n9
  induction n9 with
  | zero => intro l1 l2 l4 l6 l7 w o w' hF; exact none_ne (show none = some _ from hF)
  | succ n9 ih =>
    intro l1 l2 l4 l6 l7 w o w' hF kx
    replace hF : B_X8_digestOf_48  (L_X8_digestOf_48  n9) l1 l2 l4 l6 l7 w = some (o, w') := hF
    unfold B_X8_digestOf_48 at hF
    refine x_iload (pc := 48) C 5 dX8_digestOf_48 rfl ?_
    refine x_iconst (pc := 50) C 3 dX8_digestOf_50 ki_3 ?_
    refine x_icmp_ge (pc := 51) C 79 dX8_digestOf_51 rfl hF (fun c8 hF => ?_) (fun c8 hF => ?_)
    · obtain ⟨rfl, rfl⟩ := ret_eq hF
      exact x_sub [0, 1, 2, 3, 4, 5] rfl kx
    · refine x_ldc2 (pc := 54) C wq1295 dX8_digestOf_54 ?_
      refine x_lload (pc := 57) C 3 dX8_digestOf_57 rfl ?_
      refine x_lmul (pc := 59) C dX8_digestOf_59 ?_
      refine x_aload_n (pc := 60) C 0 dX8_digestOf_60 rfl rfl ?_
      refine x_iload_n (pc := 61) C 1 dX8_digestOf_61 rfl rfl ?_
      refine x_iload (pc := 62) C 4 dX8_digestOf_62 rfl ?_
      refine x_iload (pc := 64) C 5 dX8_digestOf_64 rfl ?_
      refine cV1_3 (pc := 66) (val := Value.int) C hF (fun _ _ h => c_X8_ofHook l G b  _ _ _ h) vm_X8_ofHook wq403 rfl rfl ⟨Nat.le_of_ble_eq_true rfl, Nat.le_of_ble_eq_true rfl⟩ rfl rfl (fun _ h => CW.md h) (Nat.le_of_ble_eq_true rfl) ⟨Nat.le_refl _, Nat.le_refl _⟩ dX8_digestOf_66 (fun x7 w6 hF => ?_)
      refine x_i2l (pc := 69) C dX8_digestOf_69 ?_
      refine x_ladd (pc := 70) C dX8_digestOf_70 ?_
      refine x_lstore (pc := 71) C [(4, .long (((31 * l4) + (Int32.toInt64 x7)))), (0, .ref (mdb b)), (1, .int (l1)), (2, .long (l2)), (6, .int (l6)), (7, .int (l7))] dX8_digestOf_71 (by decide) rfl ?_
      refine x_iinc (pc := 73) C 5 [(7, .int ((l7 + 1))), (4, .long (((31 * l4) + (Int32.toInt64 x7)))), (0, .ref (mdb b)), (1, .int (l1)), (2, .long (l2)), (6, .int (l6))] dX8_digestOf_73 rfl rfl (by decide) rfl ?_
      refine x_goto (pc := 76) C 48 dX8_digestOf_76 rfl ?_
      exact x_sub [2, 3, 4, 1, 5, 0] rfl (ih _ _ _ _ _ _ _ _ hF kx)
set_option maxRecDepth 4000 in
theorem s_X8_digestOf_39 (C : xC p m c s args meth G b cX8_digestOf 8 RX8)    : ∀ (n9 : Nat) (l1 : Int32) (l2 : Int64) (l4 : Int64) (l6 : Int32) (w : xWt) (o : (Int64 × Int32)) (w' : xWt), L_X8_digestOf_39  n9 l1 l2 l4 l6 w = some (o, w') → xW p l e (xR 5) s m args below meth c Q b 8 (CW G b w') 0 0 102 [(0, .ref (mdb b)), (1, .int (l1)), (2, .long (l2)), (4, .long (o.1)), (6, .int (o.2))] [] → xW p l e (xR 5) s m args below meth c Q b 8 (CW G b w) 0 0 39 [(0, .ref (mdb b)), (1, .int (l1)), (2, .long (l2)), (4, .long (l4)), (6, .int (l6))] [] := by
  intro n9
  induction n9 with
  | zero => intro l1 l2 l4 l6 w o w' hF; exact none_ne (show none = some _ from hF)
  | succ n9 ih =>
    intro l1 l2 l4 l6 w o w' hF kx
    replace hF : B_X8_digestOf_39  (L_X8_digestOf_39  n9) l1 l2 l4 l6 w = some (o, w') := hF
    unfold B_X8_digestOf_39 at hF
    refine x_iload (pc := 39) C 4 dX8_digestOf_39 rfl ?_
    refine x_iconst (pc := 41) C 3 dX8_digestOf_41 ki_3 ?_
    refine x_icmp_ge (pc := 42) C 102 dX8_digestOf_42 rfl hF (fun c13 hF => ?_) (fun c13 hF => ?_)
    · obtain ⟨rfl, rfl⟩ := ret_eq hF
      exact x_sub [0, 1, 2, 3, 4] rfl kx
    · refine x_iconst (pc := 45) C 0 dX8_digestOf_45 ki_0 ?_
      refine x_istore (pc := 46) C [(7, .int (0)), (0, .ref (mdb b)), (1, .int (l1)), (2, .long (l2)), (4, .long (l4)), (6, .int (l6))] dX8_digestOf_46 (by decide) rfl ?_
      obtain ⟨o9, w10, hL, hF⟩ := bd_some hF
      refine x_sub [1, 2, 3, 4, 5, 0] rfl (s_X8_digestOf_48 C  _ _ _ _ _ _ _ _ _ hL ?_)
      refine x_ldc2 (pc := 79) C wq1295 dX8_digestOf_79 ?_
      refine x_lload (pc := 82) C 3 dX8_digestOf_82 rfl ?_
      refine x_lmul (pc := 84) C dX8_digestOf_84 ?_
      refine x_aload_n (pc := 85) C 0 dX8_digestOf_85 rfl rfl ?_
      refine x_iload_n (pc := 86) C 1 dX8_digestOf_86 rfl rfl ?_
      refine x_iload (pc := 87) C 4 dX8_digestOf_87 rfl ?_
      refine cV1_2 (pc := 89) (val := Value.int) C hF (fun _ _ h => c_X8_freedBy l G b  _ _ h) vm_X8_freedBy wq1176 rfl rfl ⟨Nat.le_of_ble_eq_true rfl, Nat.le_of_ble_eq_true rfl⟩ rfl rfl (fun _ h => CW.md h) (Nat.le_of_ble_eq_true rfl) ⟨Nat.le_refl _, Nat.le_refl _⟩ dX8_digestOf_89 (fun x12 w11 hF => ?_)
      refine x_i2l (pc := 92) C dX8_digestOf_92 ?_
      refine x_ladd (pc := 93) C dX8_digestOf_93 ?_
      refine x_lstore (pc := 94) C [(4, .long (((31 * o9.1) + (Int32.toInt64 x12)))), (0, .ref (mdb b)), (1, .int (l1)), (2, .long (l2)), (6, .int (l6)), (7, .int (o9.2))] dX8_digestOf_94 (by decide) rfl ?_
      refine x_iinc (pc := 96) C 4 [(6, .int ((l6 + 1))), (4, .long (((31 * o9.1) + (Int32.toInt64 x12)))), (0, .ref (mdb b)), (1, .int (l1)), (2, .long (l2)), (7, .int (o9.2))] dX8_digestOf_96 rfl rfl (by decide) rfl ?_
      refine x_goto (pc := 99) C 39 dX8_digestOf_99 rfl ?_
      exact x_sub [2, 3, 4, 1, 0] rfl (ih _ _ _ _ _ _ _ hF kx)
set_option maxRecDepth 4000 in
theorem s_X8_digestOf_112 (C : xC p m c s args meth G b cX8_digestOf 8 RX8)    : ∀ (n9 : Nat) (l1 : Int32) (l2 : Int64) (l4 : Int64) (l6 : Int32) (l7 : Int32) (w : xWt) (o : (Int64 × Int32)) (w' : xWt), L_X8_digestOf_112  n9 l1 l2 l4 l6 l7 w = some (o, w') → xW p l e (xR 5) s m args below meth c Q b 8 (CW G b w') 0 0 142 [(0, .ref (mdb b)), (1, .int (l1)), (2, .long (l2)), (4, .long (o.1)), (6, .int (l6)), (7, .int (o.2))] [] → xW p l e (xR 5) s m args below meth c Q b 8 (CW G b w) 0 0 112 [(0, .ref (mdb b)), (1, .int (l1)), (2, .long (l2)), (4, .long (l4)), (6, .int (l6)), (7, .int (l7))] [] := by
  intro n9
  induction n9 with
  | zero => intro l1 l2 l4 l6 l7 w o w' hF; exact none_ne (show none = some _ from hF)
  | succ n9 ih =>
    intro l1 l2 l4 l6 l7 w o w' hF kx
    replace hF : B_X8_digestOf_112  (L_X8_digestOf_112  n9) l1 l2 l4 l6 l7 w = some (o, w') := hF
    unfold B_X8_digestOf_112 at hF
    refine x_iload (pc := 112) C 5 dX8_digestOf_112 rfl ?_
    refine x_iload (pc := 114) C 4 dX8_digestOf_114 rfl ?_
    refine x_icmp_ge (pc := 116) C 142 dX8_digestOf_116 rfl hF (fun c20 hF => ?_) (fun c20 hF => ?_)
    · obtain ⟨rfl, rfl⟩ := ret_eq hF
      exact x_sub [0, 1, 2, 3, 4, 5] rfl kx
    · refine x_ldc2 (pc := 119) C wq1295 dX8_digestOf_119 ?_
      refine x_lload (pc := 122) C 3 dX8_digestOf_122 rfl ?_
      refine x_lmul (pc := 124) C dX8_digestOf_124 ?_
      refine x_aload_n (pc := 125) C 0 dX8_digestOf_125 rfl rfl ?_
      refine x_iload_n (pc := 126) C 1 dX8_digestOf_126 rfl rfl ?_
      refine x_iload (pc := 127) C 5 dX8_digestOf_127 rfl ?_
      refine cV1_2 (pc := 129) (val := Value.int) C hF (fun _ _ h => c_X8_onHeap l G b  _ _ h) vm_X8_onHeap wq310 rfl rfl ⟨Nat.le_of_ble_eq_true rfl, Nat.le_of_ble_eq_true rfl⟩ rfl rfl (fun _ h => CW.md h) (Nat.le_of_ble_eq_true rfl) ⟨Nat.le_refl _, Nat.le_refl _⟩ dX8_digestOf_129 (fun x19 w18 hF => ?_)
      refine x_i2l (pc := 132) C dX8_digestOf_132 ?_
      refine x_ladd (pc := 133) C dX8_digestOf_133 ?_
      refine x_lstore (pc := 134) C [(4, .long (((31 * l4) + (Int32.toInt64 x19)))), (0, .ref (mdb b)), (1, .int (l1)), (2, .long (l2)), (6, .int (l6)), (7, .int (l7))] dX8_digestOf_134 (by decide) rfl ?_
      refine x_iinc (pc := 136) C 5 [(7, .int ((l7 + 1))), (4, .long (((31 * l4) + (Int32.toInt64 x19)))), (0, .ref (mdb b)), (1, .int (l1)), (2, .long (l2)), (6, .int (l6))] dX8_digestOf_136 rfl rfl (by decide) rfl ?_
      refine x_goto (pc := 139) C 112 dX8_digestOf_139 rfl ?_
      exact x_sub [2, 3, 4, 1, 5, 0] rfl (ih _ _ _ _ _ _ _ _ hF kx)
set_option maxRecDepth 4000 in
theorem c_X8_digestOf (l : Launch) (G : xG) (b : Nat)     (a1 : Int32) (a2 : Int64) {w w' : xWt} {v : Int64} (hF : F_X8_digestOf a1 a2 w = some (v, w')) : xMet l G b yX8_digestOf cX8_digestOf 8 (some .long) (xR 5) [.ref (mdb b), .int (a1), .long (a2)] (CW G b w) (some (.long v)) (CW G b w') 0 0 := by
  refine x_of (own := RX8) rfl (plainFor_of_name pn_X8) (Nat.le_of_ble_eq_true rfl) ?_
  intro p e s m args below meth c ha C hr _
  unfold F_X8_digestOf at hF
  refine x_lload_n (pc := 0) C 2 dX8_digestOf_0 rfl rfl ?_
  refine x_lstore (pc := 1) C [(4, .long (a2)), (0, .ref (mdb b)), (1, .int (a1)), (2, .long (a2))] dX8_digestOf_1 (by decide) rfl ?_
  refine x_iconst (pc := 3) C 0 dX8_digestOf_3 ki_0 ?_
  refine x_istore (pc := 4) C [(6, .int (0)), (4, .long (a2)), (0, .ref (mdb b)), (1, .int (a1)), (2, .long (a2))] dX8_digestOf_4 (by decide) rfl ?_
  obtain ⟨o4, w5, hL, hF⟩ := bd_some hF
  refine x_sub [2, 3, 4, 1, 0] rfl (s_X8_digestOf_6 C  _ _ _ _ _ _ _ _ hL ?_)
  refine x_iconst (pc := 36) C 0 dX8_digestOf_36 ki_0 ?_
  refine x_istore (pc := 37) C [(6, .int (0)), (0, .ref (mdb b)), (1, .int (a1)), (2, .long (a2)), (4, .long (o4.1))] dX8_digestOf_37 (by decide) rfl ?_
  obtain ⟨o14, w15, hL, hF⟩ := bd_some hF
  refine x_sub [1, 2, 3, 4, 0] rfl (s_X8_digestOf_39 C  _ _ _ _ _ _ _ _ hL ?_)
  refine x_aload_n (pc := 102) C 0 dX8_digestOf_102 rfl rfl ?_
  refine x_iload_n (pc := 103) C 1 dX8_digestOf_103 rfl rfl ?_
  refine cV1_1 (pc := 104) (val := Value.int) C hF (fun _ _ h => c_X8_heapOf l G b  _ h) vm_X8_heapOf wq674 rfl rfl ⟨Nat.le_of_ble_eq_true rfl, Nat.le_of_ble_eq_true rfl⟩ rfl rfl (fun _ h => CW.md h) (Nat.le_of_ble_eq_true rfl) ⟨Nat.le_refl _, Nat.le_refl _⟩ dX8_digestOf_104 (fun x17 w16 hF => ?_)
  refine x_istore (pc := 107) C [(6, .int (x17)), (0, .ref (mdb b)), (1, .int (a1)), (2, .long (a2)), (4, .long (o14.1))] dX8_digestOf_107 (by decide) rfl ?_
  refine x_iconst (pc := 109) C 0 dX8_digestOf_109 ki_0 ?_
  refine x_istore (pc := 110) C [(7, .int (0)), (6, .int (x17)), (0, .ref (mdb b)), (1, .int (a1)), (2, .long (a2)), (4, .long (o14.1))] dX8_digestOf_110 (by decide) rfl ?_
  obtain ⟨o21, w22, hL, hF⟩ := bd_some hF
  refine x_sub [2, 3, 4, 5, 1, 0] rfl (s_X8_digestOf_112 C  _ _ _ _ _ _ _ _ _ hL ?_)
  refine x_ldc2 (pc := 142) C wq1295 dX8_digestOf_142 ?_
  refine x_lload (pc := 145) C 3 dX8_digestOf_145 rfl ?_
  refine x_lmul (pc := 147) C dX8_digestOf_147 ?_
  refine x_aload_n (pc := 148) C 0 dX8_digestOf_148 rfl rfl ?_
  refine x_iload_n (pc := 149) C 1 dX8_digestOf_149 rfl rfl ?_
  refine x_iconst (pc := 150) C 0 dX8_digestOf_150 ki_0 ?_
  refine cV1_2 (pc := 151) (val := Value.int) C hF (fun _ _ h => c_X8_burnable l G b  _ _ h) vm_X8_burnable wq1140 rfl rfl ⟨Nat.le_of_ble_eq_true rfl, Nat.le_of_ble_eq_true rfl⟩ rfl rfl (fun _ h => CW.md h) (Nat.le_of_ble_eq_true rfl) ⟨Nat.le_refl _, Nat.le_refl _⟩ dX8_digestOf_151 (fun x24 w23 hF => ?_)
  refine x_i2l (pc := 154) C dX8_digestOf_154 ?_
  refine x_ladd (pc := 155) C dX8_digestOf_155 ?_
  refine x_lstore (pc := 156) C [(4, .long (((31 * o21.1) + (Int32.toInt64 x24)))), (0, .ref (mdb b)), (1, .int (a1)), (2, .long (a2)), (6, .int (x17)), (7, .int (o21.2))] dX8_digestOf_156 (by decide) rfl ?_
  refine x_ldc2 (pc := 158) C wq1295 dX8_digestOf_158 ?_
  refine x_lload (pc := 161) C 0 dX8_digestOf_161 rfl ?_
  refine x_lmul (pc := 163) C dX8_digestOf_163 ?_
  refine x_aload_n (pc := 164) C 1 dX8_digestOf_164 rfl rfl ?_
  refine x_iload_n (pc := 165) C 2 dX8_digestOf_165 rfl rfl ?_
  refine x_iconst (pc := 166) C 1 dX8_digestOf_166 ki_1 ?_
  refine cV1_2 (pc := 167) (val := Value.int) C hF (fun _ _ h => c_X8_burnable l G b  _ _ h) vm_X8_burnable wq1140 rfl rfl ⟨Nat.le_of_ble_eq_true rfl, Nat.le_of_ble_eq_true rfl⟩ rfl rfl (fun _ h => CW.md h) (Nat.le_of_ble_eq_true rfl) ⟨Nat.le_refl _, Nat.le_refl _⟩ dX8_digestOf_167 (fun x26 w25 hF => ?_)
  refine x_i2l (pc := 170) C dX8_digestOf_170 ?_
  refine x_ladd (pc := 171) C dX8_digestOf_171 ?_
  refine x_lstore (pc := 172) C [(4, .long (((31 * ((31 * o21.1) + (Int32.toInt64 x24))) + (Int32.toInt64 x26)))), (0, .ref (mdb b)), (1, .int (a1)), (2, .long (a2)), (6, .int (x17)), (7, .int (o21.2))] dX8_digestOf_172 (by decide) rfl ?_
  refine x_ldc2 (pc := 174) C wq1295 dX8_digestOf_174 ?_
  refine x_lload (pc := 177) C 0 dX8_digestOf_177 rfl ?_
  refine x_lmul (pc := 179) C dX8_digestOf_179 ?_
  refine x_aload_n (pc := 180) C 1 dX8_digestOf_180 rfl rfl ?_
  refine x_iload_n (pc := 181) C 2 dX8_digestOf_181 rfl rfl ?_
  refine cV1_1 (pc := 182) (val := Value.int) C hF (fun _ _ h => c_X8_burnableWithout l G b  _ h) vm_X8_burnableWithout wq1204 rfl rfl ⟨Nat.le_of_ble_eq_true rfl, Nat.le_of_ble_eq_true rfl⟩ rfl rfl (fun _ h => CW.md h) (Nat.le_of_ble_eq_true rfl) ⟨Nat.le_refl _, Nat.le_refl _⟩ dX8_digestOf_182 (fun x28 w27 hF => ?_)
  refine x_i2l (pc := 185) C dX8_digestOf_185 ?_
  refine x_ladd (pc := 186) C dX8_digestOf_186 ?_
  obtain ⟨rfl, rfl⟩ := ret_eq hF
  exact x_lret (pc := 187) C hr rfl (fun _ h => h) dX8_digestOf_187
set_option maxRecDepth 4000 in
theorem s_X8_findMostHeld_6 (C : xC p m c s args meth G b cX8_findMostHeld 5 RX8)    : ∀ (n9 : Nat) (l1 : Int32) (l2 : Int32) (l3 : Int32) (w : xWt) (o : (Int32 × Int32 × Int32)) (w' : xWt), L_X8_findMostHeld_6  n9 l1 l2 l3 w = some (o, w') → xW p l e (xR 3) s m args below meth c Q b 5 (CW G b w') 0 0 55 [(0, .ref (mdb b)), (1, .int (o.1)), (2, .int (o.2.1)), (3, .int (o.2.2))] [] → xW p l e (xR 3) s m args below meth c Q b 5 (CW G b w) 0 0 6 [(0, .ref (mdb b)), (1, .int (l1)), (2, .int (l2)), (3, .int (l3))] [] := by
  intro n9
  induction n9 with
  | zero => intro l1 l2 l3 w o w' hF; exact none_ne (show none = some _ from hF)
  | succ n9 ih =>
    intro l1 l2 l3 w o w' hF kx
    replace hF : B_X8_findMostHeld_6  (L_X8_findMostHeld_6  n9) l1 l2 l3 w = some (o, w') := hF
    unfold B_X8_findMostHeld_6 at hF
    refine x_iload_n (pc := 6) C 3 dX8_findMostHeld_6 rfl rfl ?_
    refine x_aload_n (pc := 7) C 0 dX8_findMostHeld_7 rfl rfl ?_
    refine gf_X8_7 (pc := 8) C  dX8_findMostHeld_8 ?_
    refine x_iconst (pc := 11) C 1 dX8_findMostHeld_11 ki_1 ?_
    refine w_ald (pc := 12) C (vA_m 0 (by decide)) hF dX8_findMostHeld_12 (fun x1 hF => ?_)
    refine x_icmp_ge (pc := 13) C 55 dX8_findMostHeld_13 rfl hF (fun c7 hF => ?_) (fun c7 hF => ?_)
    · obtain ⟨rfl, rfl⟩ := ret_eq hF
      exact x_sub [0, 1, 2, 3] rfl kx
    · refine x_aload_n (pc := 16) C 0 dX8_findMostHeld_16 rfl rfl ?_
      refine x_iload_n (pc := 17) C 3 dX8_findMostHeld_17 rfl rfl ?_
      refine x_iconst (pc := 18) C 2 dX8_findMostHeld_18 ki_2 ?_
      refine cV1_2 (pc := 19) (val := Value.int) C hF (fun _ _ h => c_X8_hooksOn l G b  _ _ h) vm_X8_hooksOn wq997 rfl rfl ⟨Nat.le_of_ble_eq_true rfl, Nat.le_of_ble_eq_true rfl⟩ rfl rfl (fun _ h => CW.md h) (Nat.le_of_ble_eq_true rfl) ⟨Nat.le_refl _, Nat.le_refl _⟩ dX8_findMostHeld_19 (fun x3 w2 hF => ?_)
      refine x_istore (pc := 22) C [(4, .int (x3)), (0, .ref (mdb b)), (1, .int (l1)), (2, .int (l2)), (3, .int (l3))] dX8_findMostHeld_22 (by decide) rfl ?_
      refine x_iload (pc := 24) C 0 dX8_findMostHeld_24 rfl ?_
      refine x_iload_n (pc := 26) C 3 dX8_findMostHeld_26 rfl rfl ?_
      refine x_icmp_le (pc := 27) C 34 dX8_findMostHeld_27 rfl hF (fun c6 hF => ?_) (fun c6 hF => ?_)
      · refine x_iload_n (pc := 34) C 2 dX8_findMostHeld_34 rfl rfl ?_
        refine x_istore_n (pc := 35) C [(1, .int (l1)), (4, .int (x3)), (0, .ref (mdb b)), (2, .int (l2)), (3, .int (l3))] dX8_findMostHeld_35 rfl (by decide) rfl ?_
        refine x_iload (pc := 36) C 1 dX8_findMostHeld_36 rfl ?_
        refine x_iload_n (pc := 38) C 3 dX8_findMostHeld_38 rfl rfl ?_
        refine x_icmp_le (pc := 39) C 47 dX8_findMostHeld_39 rfl hF (fun c4 hF => ?_) (fun c4 hF => ?_)
        · refine x_iload_n (pc := 47) C 3 dX8_findMostHeld_47 rfl rfl ?_
          refine x_istore_n (pc := 48) C [(2, .int (l2)), (1, .int (l1)), (4, .int (x3)), (0, .ref (mdb b)), (3, .int (l3))] dX8_findMostHeld_48 rfl (by decide) rfl ?_
          refine x_iinc (pc := 49) C 4 [(3, .int ((l3 + 1))), (2, .int (l2)), (1, .int (l1)), (4, .int (x3)), (0, .ref (mdb b))] dX8_findMostHeld_49 rfl rfl (by decide) rfl ?_
          refine x_goto (pc := 52) C 6 dX8_findMostHeld_52 rfl ?_
          exact x_sub [4, 2, 1, 0] rfl (ih _ _ _ _ _ _ hF kx)
        · refine x_iload (pc := 42) C 1 dX8_findMostHeld_42 rfl ?_
          refine x_goto (pc := 44) C 48 dX8_findMostHeld_44 rfl ?_
          refine x_istore_n (pc := 48) C [(2, .int (x3)), (1, .int (l1)), (4, .int (x3)), (0, .ref (mdb b)), (3, .int (l3))] dX8_findMostHeld_48 rfl (by decide) rfl ?_
          refine x_iinc (pc := 49) C 4 [(3, .int ((l3 + 1))), (2, .int (x3)), (1, .int (l1)), (4, .int (x3)), (0, .ref (mdb b))] dX8_findMostHeld_49 rfl rfl (by decide) rfl ?_
          refine x_goto (pc := 52) C 6 dX8_findMostHeld_52 rfl ?_
          exact x_sub [4, 2, 1, 0] rfl (ih _ _ _ _ _ _ hF kx)
      · refine x_iload_n (pc := 30) C 4 dX8_findMostHeld_30 rfl rfl ?_
        refine x_goto (pc := 31) C 35 dX8_findMostHeld_31 rfl ?_
        refine x_istore_n (pc := 35) C [(1, .int (l3)), (4, .int (x3)), (0, .ref (mdb b)), (2, .int (l2)), (3, .int (l3))] dX8_findMostHeld_35 rfl (by decide) rfl ?_
        refine x_iload (pc := 36) C 1 dX8_findMostHeld_36 rfl ?_
        refine x_iload_n (pc := 38) C 3 dX8_findMostHeld_38 rfl rfl ?_
        refine x_icmp_le (pc := 39) C 47 dX8_findMostHeld_39 rfl hF (fun c5 hF => ?_) (fun c5 hF => ?_)
        · refine x_iload_n (pc := 47) C 3 dX8_findMostHeld_47 rfl rfl ?_
          refine x_istore_n (pc := 48) C [(2, .int (l2)), (1, .int (l3)), (4, .int (x3)), (0, .ref (mdb b)), (3, .int (l3))] dX8_findMostHeld_48 rfl (by decide) rfl ?_
          refine x_iinc (pc := 49) C 4 [(3, .int ((l3 + 1))), (2, .int (l2)), (1, .int (l3)), (4, .int (x3)), (0, .ref (mdb b))] dX8_findMostHeld_49 rfl rfl (by decide) rfl ?_
          refine x_goto (pc := 52) C 6 dX8_findMostHeld_52 rfl ?_
          exact x_sub [4, 2, 1, 0] rfl (ih _ _ _ _ _ _ hF kx)
        · refine x_iload (pc := 42) C 1 dX8_findMostHeld_42 rfl ?_
          refine x_goto (pc := 44) C 48 dX8_findMostHeld_44 rfl ?_
          refine x_istore_n (pc := 48) C [(2, .int (x3)), (1, .int (l3)), (4, .int (x3)), (0, .ref (mdb b)), (3, .int (l3))] dX8_findMostHeld_48 rfl (by decide) rfl ?_
          refine x_iinc (pc := 49) C 4 [(3, .int ((l3 + 1))), (2, .int (x3)), (1, .int (l3)), (4, .int (x3)), (0, .ref (mdb b))] dX8_findMostHeld_49 rfl rfl (by decide) rfl ?_
          refine x_goto (pc := 52) C 6 dX8_findMostHeld_52 rfl ?_
          exact x_sub [4, 2, 1, 0] rfl (ih _ _ _ _ _ _ hF kx)
set_option maxRecDepth 4000 in
theorem c_X8_findMostHeld (l : Launch) (G : xG) (b : Nat)      {w w' : xWt} {v : Int32} (hF : F_X8_findMostHeld  w = some (v, w')) : xMet l G b yX8_findMostHeld cX8_findMostHeld 5 (some .int) (xR 3) [.ref (mdb b)] (CW G b w) (some (.int v)) (CW G b w') 0 0 := by
  refine x_of (own := RX8) rfl (plainFor_of_name pn_X8) (Nat.le_of_ble_eq_true rfl) ?_
  intro p e s m args below meth c ha C hr _
  unfold F_X8_findMostHeld at hF
  refine x_iconst (pc := 0) C (-1) dX8_findMostHeld_0 ki_m1 ?_
  refine x_istore_n (pc := 1) C [(1, .int ((-1))), (0, .ref (mdb b))] dX8_findMostHeld_1 rfl (by decide) rfl ?_
  refine x_iconst (pc := 2) C 0 dX8_findMostHeld_2 ki_0 ?_
  refine x_istore_n (pc := 3) C [(2, .int (0)), (1, .int ((-1))), (0, .ref (mdb b))] dX8_findMostHeld_3 rfl (by decide) rfl ?_
  refine x_iconst (pc := 4) C 0 dX8_findMostHeld_4 ki_0 ?_
  refine x_istore_n (pc := 5) C [(3, .int (0)), (2, .int (0)), (1, .int ((-1))), (0, .ref (mdb b))] dX8_findMostHeld_5 rfl (by decide) rfl ?_
  obtain ⟨o8, w9, hL, hF⟩ := bd_some hF
  refine x_sub [3, 2, 1, 0] rfl (s_X8_findMostHeld_6 C  _ _ _ _ _ _ _ hL ?_)
  refine x_iload_n (pc := 55) C 1 dX8_findMostHeld_55 rfl rfl ?_
  obtain ⟨rfl, rfl⟩ := ret_eq hF
  exact x_iret (pc := 56) C hr rfl (fun _ h => h) dX8_findMostHeld_56
set_option maxRecDepth 4000 in
theorem c_X8_fullnessNow (l : Launch) (G : xG) (b : Nat)      {w w' : xWt} {v : UInt32} (hF : F_X8_fullnessNow  w = some (v, w')) : xMet l G b yX8_fullnessNow cX8_fullnessNow 1 (some .float) (xR 2) [.ref (mdb b)] (CW G b w) (some (.float v)) (CW G b w') 0 0 := by
  refine x_of (own := RX8) rfl (plainFor_of_name pn_X8) (Nat.le_of_ble_eq_true rfl) ?_
  intro p e s m args below meth c ha C hr _
  unfold F_X8_fullnessNow at hF
  refine x_aload_n (pc := 0) C 0 dX8_fullnessNow_0 rfl rfl ?_
  refine x_iconst (pc := 1) C 1 dX8_fullnessNow_1 ki_1 ?_
  refine cV1_1 (pc := 2) (val := Value.int) C hF (fun _ _ h => c_X8_leavesAt l G b  _ h) vm_X8_leavesAt wq690 rfl rfl ⟨Nat.le_of_ble_eq_true rfl, Nat.le_of_ble_eq_true rfl⟩ rfl rfl (fun _ h => CW.md h) (Nat.le_of_ble_eq_true rfl) ⟨Nat.le_refl _, Nat.le_refl _⟩ dX8_fullnessNow_2 (fun x2 w1 hF => ?_)
  refine x_i2f (pc := 5) C dX8_fullnessNow_5 ?_
  refine x_aload_n (pc := 6) C 0 dX8_fullnessNow_6 rfl rfl ?_
  refine gf_X8_7 (pc := 7) C  dX8_fullnessNow_7 ?_
  refine x_bipush (pc := 10) C 8 dX8_fullnessNow_10 kb_8 ?_
  refine w_ald (pc := 12) C (vA_m 0 (by decide)) hF dX8_fullnessNow_12 (fun x3 hF => ?_)
  refine x_aload_n (pc := 13) C 0 dX8_fullnessNow_13 rfl rfl ?_
  refine cV1_0 (pc := 14) (val := Value.int) C hF (fun _ _ h => c_X8_children l G b  h) vm_X8_children wq217 rfl rfl ⟨Nat.le_of_ble_eq_true rfl, Nat.le_of_ble_eq_true rfl⟩ rfl rfl (fun _ h => CW.md h) (Nat.le_of_ble_eq_true rfl) ⟨Nat.le_refl _, Nat.le_refl _⟩ dX8_fullnessNow_14 (fun x5 w4 hF => ?_)
  refine x_imul (pc := 17) C dX8_fullnessNow_17 ?_
  refine x_i2f (pc := 18) C dX8_fullnessNow_18 ?_
  refine y_fdiv (pc := 19) C dX8_fullnessNow_19 hF (fun x6 hF => ?_)
  obtain ⟨rfl, rfl⟩ := ret_eq hF
  exact x_fret (pc := 20) C hr rfl (fun _ h => h) dX8_fullnessNow_20
set_option maxRecDepth 4000 in
theorem c_X8_leafNow (l : Launch) (G : xG) (b : Nat)     (a1 : Int32) (a2 : Int32) {w w' : xWt} {v : Int32} (hF : F_X8_leafNow a1 a2 w = some (v, w')) : xMet l G b yX8_leafNow cX8_leafNow 3 (some .int) (xR 3) [.ref (mdb b), .int (a1), .int (a2)] (CW G b w) (some (.int v)) (CW G b w') 0 0 := by
  refine x_of (own := RX8) rfl (plainFor_of_name pn_X8) (Nat.le_of_ble_eq_true rfl) ?_
  intro p e s m args below meth c ha C hr _
  unfold F_X8_leafNow at hF
  refine x_iload_n (pc := 0) C 2 dX8_leafNow_0 rfl rfl ?_
  by_cases c3 : (a2).toInt = 0
  · rw [if_pos c3] at hF
    refine x_tabIn (pc := 1) C 44 dX8_leafNow_1 c3 (by decide) (by decide) rfl rfl ?_
    refine x_aload_n (pc := 44) C 0 dX8_leafNow_44 rfl rfl ?_
    refine x_iload_n (pc := 45) C 1 dX8_leafNow_45 rfl rfl ?_
    refine x_iconst (pc := 46) C 0 dX8_leafNow_46 ki_0 ?_
    refine cV1_2 (pc := 47) (val := Value.int) C hF (fun _ _ h => c_X8_of l G b  _ _ h) vm_X8_of wq318 rfl rfl ⟨Nat.le_of_ble_eq_true rfl, Nat.le_of_ble_eq_true rfl⟩ rfl rfl (fun _ h => CW.md h) (Nat.le_of_ble_eq_true rfl) ⟨Nat.le_refl _, Nat.le_refl _⟩ dX8_leafNow_47 (fun x26 w25 hF => ?_)
    obtain ⟨rfl, rfl⟩ := ret_eq hF
    exact x_iret (pc := 50) C hr rfl (fun _ h => h) dX8_leafNow_50
  · rw [if_neg c3] at hF
    by_cases c4 : (a2).toInt = 1
    · rw [if_pos c4] at hF
      refine x_tabIn (pc := 1) C 51 dX8_leafNow_1 c4 (by decide) (by decide) rfl rfl ?_
      refine x_aload_n (pc := 51) C 0 dX8_leafNow_51 rfl rfl ?_
      refine x_iload_n (pc := 52) C 1 dX8_leafNow_52 rfl rfl ?_
      refine x_iconst (pc := 53) C 1 dX8_leafNow_53 ki_1 ?_
      refine cV1_2 (pc := 54) (val := Value.int) C hF (fun _ _ h => c_X8_of l G b  _ _ h) vm_X8_of wq318 rfl rfl ⟨Nat.le_of_ble_eq_true rfl, Nat.le_of_ble_eq_true rfl⟩ rfl rfl (fun _ h => CW.md h) (Nat.le_of_ble_eq_true rfl) ⟨Nat.le_refl _, Nat.le_refl _⟩ dX8_leafNow_54 (fun x24 w23 hF => ?_)
      obtain ⟨rfl, rfl⟩ := ret_eq hF
      exact x_iret (pc := 57) C hr rfl (fun _ h => h) dX8_leafNow_57
    · rw [if_neg c4] at hF
      by_cases c5 : (a2).toInt = 2
      · rw [if_pos c5] at hF
        refine x_tabIn (pc := 1) C 58 dX8_leafNow_1 c5 (by decide) (by decide) rfl rfl ?_
        refine x_aload_n (pc := 58) C 0 dX8_leafNow_58 rfl rfl ?_
        refine x_iload_n (pc := 59) C 1 dX8_leafNow_59 rfl rfl ?_
        refine x_iconst (pc := 60) C 2 dX8_leafNow_60 ki_2 ?_
        refine cV1_2 (pc := 61) (val := Value.int) C hF (fun _ _ h => c_X8_of l G b  _ _ h) vm_X8_of wq318 rfl rfl ⟨Nat.le_of_ble_eq_true rfl, Nat.le_of_ble_eq_true rfl⟩ rfl rfl (fun _ h => CW.md h) (Nat.le_of_ble_eq_true rfl) ⟨Nat.le_refl _, Nat.le_refl _⟩ dX8_leafNow_61 (fun x22 w21 hF => ?_)
        obtain ⟨rfl, rfl⟩ := ret_eq hF
        exact x_iret (pc := 64) C hr rfl (fun _ h => h) dX8_leafNow_64
      · rw [if_neg c5] at hF
        by_cases c6 : (a2).toInt = 3
        · rw [if_pos c6] at hF
          refine x_tabIn (pc := 1) C 65 dX8_leafNow_1 c6 (by decide) (by decide) rfl rfl ?_
          refine x_aload_n (pc := 65) C 0 dX8_leafNow_65 rfl rfl ?_
          refine x_iload_n (pc := 66) C 1 dX8_leafNow_66 rfl rfl ?_
          refine x_iconst (pc := 67) C 3 dX8_leafNow_67 ki_3 ?_
          refine cV1_2 (pc := 68) (val := Value.int) C hF (fun _ _ h => c_X8_of l G b  _ _ h) vm_X8_of wq318 rfl rfl ⟨Nat.le_of_ble_eq_true rfl, Nat.le_of_ble_eq_true rfl⟩ rfl rfl (fun _ h => CW.md h) (Nat.le_of_ble_eq_true rfl) ⟨Nat.le_refl _, Nat.le_refl _⟩ dX8_leafNow_68 (fun x20 w19 hF => ?_)
          obtain ⟨rfl, rfl⟩ := ret_eq hF
          exact x_iret (pc := 71) C hr rfl (fun _ h => h) dX8_leafNow_71
        · rw [if_neg c6] at hF
          by_cases c7 : (a2).toInt = 4
          · rw [if_pos c7] at hF
            refine x_tabIn (pc := 1) C 72 dX8_leafNow_1 c7 (by decide) (by decide) rfl rfl ?_
            refine x_aload_n (pc := 72) C 0 dX8_leafNow_72 rfl rfl ?_
            refine x_iload_n (pc := 73) C 1 dX8_leafNow_73 rfl rfl ?_
            refine x_iconst (pc := 74) C 1 dX8_leafNow_74 ki_1 ?_
            refine cV1_2 (pc := 75) (val := Value.int) C hF (fun _ _ h => c_X8_of l G b  _ _ h) vm_X8_of wq318 rfl rfl ⟨Nat.le_of_ble_eq_true rfl, Nat.le_of_ble_eq_true rfl⟩ rfl rfl (fun _ h => CW.md h) (Nat.le_of_ble_eq_true rfl) ⟨Nat.le_refl _, Nat.le_refl _⟩ dX8_leafNow_75 (fun x15 w14 hF => ?_)
            refine x_iconst (pc := 78) C 1 dX8_leafNow_78 ki_1 ?_
            refine x_icmp_ne (pc := 79) C 91 dX8_leafNow_79 rfl hF (fun c18 hF => ?_) (fun c18 hF => ?_)
            · refine x_iconst (pc := 91) C (-1) dX8_leafNow_91 ki_m1 ?_
              obtain ⟨rfl, rfl⟩ := ret_eq hF
              exact x_iret (pc := 92) C hr rfl (fun _ h => h) dX8_leafNow_92
            · refine x_aload_n (pc := 82) C 0 dX8_leafNow_82 rfl rfl ?_
              refine x_iload_n (pc := 83) C 1 dX8_leafNow_83 rfl rfl ?_
              refine x_iconst (pc := 84) C 4 dX8_leafNow_84 ki_4 ?_
              refine cV1_2 (pc := 85) (val := Value.int) C hF (fun _ _ h => c_X8_of l G b  _ _ h) vm_X8_of wq318 rfl rfl ⟨Nat.le_of_ble_eq_true rfl, Nat.le_of_ble_eq_true rfl⟩ rfl rfl (fun _ h => CW.md h) (Nat.le_of_ble_eq_true rfl) ⟨Nat.le_refl _, Nat.le_refl _⟩ dX8_leafNow_85 (fun x17 w16 hF => ?_)
              refine x_goto (pc := 88) C 92 dX8_leafNow_88 rfl ?_
              obtain ⟨rfl, rfl⟩ := ret_eq hF
              exact x_iret (pc := 92) C hr rfl (fun _ h => h) dX8_leafNow_92
          · rw [if_neg c7] at hF
            by_cases c8 : (a2).toInt = 5
            · rw [if_pos c8] at hF
              refine x_tabIn (pc := 1) C 93 dX8_leafNow_1 c8 (by decide) (by decide) rfl rfl ?_
              refine x_aload_n (pc := 93) C 0 dX8_leafNow_93 rfl rfl ?_
              refine x_iload_n (pc := 94) C 1 dX8_leafNow_94 rfl rfl ?_
              refine x_iconst (pc := 95) C (-1) dX8_leafNow_95 ki_m1 ?_
              refine cV1_2 (pc := 96) (val := Value.int) C hF (fun _ _ h => c_X8_holders l G b  _ _ h) vm_X8_holders wq686 rfl rfl ⟨Nat.le_of_ble_eq_true rfl, Nat.le_of_ble_eq_true rfl⟩ rfl rfl (fun _ h => CW.md h) (Nat.le_of_ble_eq_true rfl) ⟨Nat.le_refl _, Nat.le_refl _⟩ dX8_leafNow_96 (fun x13 w12 hF => ?_)
              obtain ⟨rfl, rfl⟩ := ret_eq hF
              exact x_iret (pc := 99) C hr rfl (fun _ h => h) dX8_leafNow_99
            · rw [if_neg c8] at hF
              by_cases c9 : (a2).toInt = 6
              · rw [if_pos c9] at hF
                refine x_tabIn (pc := 1) C 100 dX8_leafNow_1 c9 (by decide) (by decide) rfl rfl ?_
                refine x_aload_n (pc := 100) C 0 dX8_leafNow_100 rfl rfl ?_
                refine x_iload_n (pc := 101) C 1 dX8_leafNow_101 rfl rfl ?_
                refine x_iconst (pc := 102) C 2 dX8_leafNow_102 ki_2 ?_
                refine cV1_2 (pc := 103) (val := Value.int) C hF (fun _ _ h => c_X8_hooksOn l G b  _ _ h) vm_X8_hooksOn wq997 rfl rfl ⟨Nat.le_of_ble_eq_true rfl, Nat.le_of_ble_eq_true rfl⟩ rfl rfl (fun _ h => CW.md h) (Nat.le_of_ble_eq_true rfl) ⟨Nat.le_refl _, Nat.le_refl _⟩ dX8_leafNow_103 (fun x11 w10 hF => ?_)
                obtain ⟨rfl, rfl⟩ := ret_eq hF
                exact x_iret (pc := 106) C hr rfl (fun _ h => h) dX8_leafNow_106
              · rw [if_neg c9] at hF
                refine x_tabOut (pc := 1) C 107 dX8_leafNow_1 (by omega) rfl ?_
                refine x_aload_n (pc := 107) C 0 dX8_leafNow_107 rfl rfl ?_
                refine x_iload_n (pc := 108) C 1 dX8_leafNow_108 rfl rfl ?_
                refine x_iconst (pc := 109) C 1 dX8_leafNow_109 ki_1 ?_
                refine cV1_2 (pc := 110) (val := Value.int) C hF (fun _ _ h => c_X8_hooksOn l G b  _ _ h) vm_X8_hooksOn wq997 rfl rfl ⟨Nat.le_of_ble_eq_true rfl, Nat.le_of_ble_eq_true rfl⟩ rfl rfl (fun _ h => CW.md h) (Nat.le_of_ble_eq_true rfl) ⟨Nat.le_refl _, Nat.le_refl _⟩ dX8_leafNow_110 (fun x2 w1 hF => ?_)
                obtain ⟨rfl, rfl⟩ := ret_eq hF
                exact x_iret (pc := 113) C hr rfl (fun _ h => h) dX8_leafNow_113
set_option maxRecDepth 4000 in
theorem c_X8_whyNot (l : Launch) (G : xG) (b : Nat)     (a1 : Int32) {w w' : xWt} {v : Int32} (hF : F_X8_whyNot a1 w = some (v, w')) : xMet l G b yX8_whyNot cX8_whyNot 3 (some .int) (xR 4) [.ref (mdb b), .int (a1)] (CW G b w) (some (.int v)) (CW G b w') 0 0 := by
  refine x_of (own := RX8) rfl (plainFor_of_name pn_X8) (Nat.le_of_ble_eq_true rfl) ?_
  intro p e s m args below meth c ha C hr _
  unfold F_X8_whyNot at hF
  refine x_aload_n (pc := 0) C 0 dX8_whyNot_0 rfl rfl ?_
  refine x_iload_n (pc := 1) C 1 dX8_whyNot_1 rfl rfl ?_
  refine x_iconst (pc := 2) C 1 dX8_whyNot_2 ki_1 ?_
  refine cV1_2 (pc := 3) (val := Value.int) C hF (fun _ _ h => c_X8_of l G b  _ _ h) vm_X8_of wq318 rfl rfl ⟨Nat.le_of_ble_eq_true rfl, Nat.le_of_ble_eq_true rfl⟩ rfl rfl (fun _ h => CW.md h) (Nat.le_of_ble_eq_true rfl) ⟨Nat.le_refl _, Nat.le_refl _⟩ dX8_whyNot_3 (fun x2 w1 hF => ?_)
  refine x_istore_n (pc := 6) C [(2, .int (x2)), (0, .ref (mdb b)), (1, .int (a1))] dX8_whyNot_6 rfl (by decide) rfl ?_
  refine x_iload_n (pc := 7) C 0 dX8_whyNot_7 rfl rfl ?_
  refine x_iconst (pc := 8) C 2 dX8_whyNot_8 ki_2 ?_
  refine x_icmp_ne (pc := 9) C 16 dX8_whyNot_9 rfl hF (fun c8 hF => ?_) (fun c8 hF => ?_)
  · refine x_iload_n (pc := 16) C 0 dX8_whyNot_16 rfl rfl ?_
    refine x_if_ne (pc := 17) C 24 dX8_whyNot_17 rfl hF (fun c7 hF => ?_) (fun c7 hF => ?_)
    · refine x_aload_n (pc := 24) C 1 dX8_whyNot_24 rfl rfl ?_
      refine x_iload_n (pc := 25) C 2 dX8_whyNot_25 rfl rfl ?_
      refine x_aload_n (pc := 26) C 1 dX8_whyNot_26 rfl rfl ?_
      refine gf_X8_7 (pc := 27) C  dX8_whyNot_27 ?_
      refine x_bipush (pc := 30) C 9 dX8_whyNot_30 kb_9 ?_
      refine w_ald (pc := 32) C (vA_m 0 (by decide)) hF dX8_whyNot_32 (fun x3 hF => ?_)
      refine cV1_2 (pc := 33) (val := Value.int) C hF (fun _ _ h => c_X8_mayBurn l G b  _ _ h) vm_X8_mayBurn wq682 rfl rfl ⟨Nat.le_of_ble_eq_true rfl, Nat.le_of_ble_eq_true rfl⟩ rfl rfl (fun _ h => CW.md h) (Nat.le_of_ble_eq_true rfl) ⟨Nat.le_refl _, Nat.le_refl _⟩ dX8_whyNot_33 (fun x5 w4 hF => ?_)
      refine x_if_eq (pc := 36) C 43 dX8_whyNot_36 rfl hF (fun c6 hF => ?_) (fun c6 hF => ?_)
      · refine x_iconst (pc := 43) C 2 dX8_whyNot_43 ki_2 ?_
        obtain ⟨rfl, rfl⟩ := ret_eq hF
        exact x_iret (pc := 44) C hr rfl (fun _ h => h) dX8_whyNot_44
      · refine x_iconst (pc := 39) C 3 dX8_whyNot_39 ki_3 ?_
        refine x_goto (pc := 40) C 44 dX8_whyNot_40 rfl ?_
        obtain ⟨rfl, rfl⟩ := ret_eq hF
        exact x_iret (pc := 44) C hr rfl (fun _ h => h) dX8_whyNot_44
    · refine x_iconst (pc := 20) C 1 dX8_whyNot_20 ki_1 ?_
      refine x_goto (pc := 21) C 44 dX8_whyNot_21 rfl ?_
      obtain ⟨rfl, rfl⟩ := ret_eq hF
      exact x_iret (pc := 44) C hr rfl (fun _ h => h) dX8_whyNot_44
  · refine x_iconst (pc := 12) C 0 dX8_whyNot_12 ki_0 ?_
    refine x_goto (pc := 13) C 44 dX8_whyNot_13 rfl ?_
    obtain ⟨rfl, rfl⟩ := ret_eq hF
    exact x_iret (pc := 44) C hr rfl (fun _ h => h) dX8_whyNot_44
set_option maxRecDepth 4000 in
theorem s_X8_digest_11 (C : xC p m c s args meth G b cX8_digest 5 RX8)    : ∀ (n9 : Nat) (l1 : Int64) (l3 : Int32) (w : xWt) (o : (Int64 × Int32)) (w' : xWt), L_X8_digest_11  n9 l1 l3 w = some (o, w') → xW p l e (xR 6) s m args below meth c Q b 5 (CW G b w') 0 0 36 [(0, .ref (mdb b)), (1, .long (o.1)), (3, .int (o.2))] [] → xW p l e (xR 6) s m args below meth c Q b 5 (CW G b w) 0 0 11 [(0, .ref (mdb b)), (1, .long (l1)), (3, .int (l3))] [] := by
  intro n9
  induction n9 with
  | zero => intro l1 l3 w o w' hF; exact none_ne (show none = some _ from hF)
  | succ n9 ih =>
    intro l1 l3 w o w' hF kx
    replace hF : B_X8_digest_11  (L_X8_digest_11  n9) l1 l3 w = some (o, w') := hF
    unfold B_X8_digest_11 at hF
    refine x_iload_n (pc := 11) C 2 dX8_digest_11 rfl rfl ?_
    refine x_bipush (pc := 12) C 16 dX8_digest_12 kb_16 ?_
    refine x_icmp_ge (pc := 14) C 36 dX8_digest_14 rfl hF (fun c4 hF => ?_) (fun c4 hF => ?_)
    · obtain ⟨rfl, rfl⟩ := ret_eq hF
      exact x_sub [0, 1, 2] rfl kx
    · refine x_ldc2 (pc := 17) C wq1295 dX8_digest_17 ?_
      refine x_lload_n (pc := 20) C 1 dX8_digest_20 rfl rfl ?_
      refine x_lmul (pc := 21) C dX8_digest_21 ?_
      refine x_aload_n (pc := 22) C 0 dX8_digest_22 rfl rfl ?_
      refine x_iload_n (pc := 23) C 2 dX8_digest_23 rfl rfl ?_
      refine cV1_1 (pc := 24) (val := Value.int) C hF (fun _ _ h => c_X8_countNow l G b  _ h) vm_X8_countNow wq1090 rfl rfl ⟨Nat.le_of_ble_eq_true rfl, Nat.le_of_ble_eq_true rfl⟩ rfl rfl (fun _ h => CW.md h) (Nat.le_of_ble_eq_true rfl) ⟨Nat.le_refl _, Nat.le_refl _⟩ dX8_digest_24 (fun x3 w2 hF => ?_)
      refine x_i2l (pc := 27) C dX8_digest_27 ?_
      refine x_ladd (pc := 28) C dX8_digest_28 ?_
      refine x_lstore_n (pc := 29) C [(1, .long (((31 * l1) + (Int32.toInt64 x3)))), (0, .ref (mdb b)), (3, .int (l3))] dX8_digest_29 rfl (by decide) rfl ?_
      refine x_iinc (pc := 30) C 2 [(3, .int ((l3 + 1))), (1, .long (((31 * l1) + (Int32.toInt64 x3)))), (0, .ref (mdb b))] dX8_digest_30 rfl rfl (by decide) rfl ?_
      refine x_goto (pc := 33) C 11 dX8_digest_33 rfl ?_
      exact x_sub [2, 1, 0] rfl (ih _ _ _ _ _ hF kx)
set_option maxRecDepth 4000 in
theorem s_X8_digest_66 (C : xC p m c s args meth G b cX8_digest 5 RX8)    : ∀ (n9 : Nat) (l1 : Int64) (l3 : Int32) (w : xWt) (o : (Int64 × Int32)) (w' : xWt), L_X8_digest_66  n9 l1 l3 w = some (o, w') → xW p l e (xR 6) s m args below meth c Q b 5 (CW G b w') 0 0 95 [(0, .ref (mdb b)), (1, .long (o.1)), (3, .int (o.2))] [] → xW p l e (xR 6) s m args below meth c Q b 5 (CW G b w) 0 0 66 [(0, .ref (mdb b)), (1, .long (l1)), (3, .int (l3))] [] := by
  intro n9
  induction n9 with
  | zero => intro l1 l3 w o w' hF; exact none_ne (show none = some _ from hF)
  | succ n9 ih =>
    intro l1 l3 w o w' hF kx
    replace hF : B_X8_digest_66  (L_X8_digest_66  n9) l1 l3 w = some (o, w') := hF
    unfold B_X8_digest_66 at hF
    refine x_iload_n (pc := 66) C 2 dX8_digest_66 rfl rfl ?_
    refine x_bipush (pc := 67) C 12 dX8_digest_67 kb_12 ?_
    refine x_icmp_ge (pc := 69) C 95 dX8_digest_69 rfl hF (fun c10 hF => ?_) (fun c10 hF => ?_)
    · obtain ⟨rfl, rfl⟩ := ret_eq hF
      exact x_sub [0, 1, 2] rfl kx
    · refine x_ldc2 (pc := 72) C wq1295 dX8_digest_72 ?_
      refine x_lload_n (pc := 75) C 1 dX8_digest_75 rfl rfl ?_
      refine x_lmul (pc := 76) C dX8_digest_76 ?_
      refine x_aload_n (pc := 77) C 0 dX8_digest_77 rfl rfl ?_
      refine gf_X8_7 (pc := 78) C  dX8_digest_78 ?_
      refine x_bipush (pc := 81) C 10 dX8_digest_81 kb_10 ?_
      refine x_iload_n (pc := 83) C 2 dX8_digest_83 rfl rfl ?_
      refine x_iadd (pc := 84) C dX8_digest_84 ?_
      refine w_ald (pc := 85) C (vA_m 0 (by decide)) hF dX8_digest_85 (fun x9 hF => ?_)
      refine x_i2l (pc := 86) C dX8_digest_86 ?_
      refine x_ladd (pc := 87) C dX8_digest_87 ?_
      refine x_lstore_n (pc := 88) C [(1, .long (((31 * l1) + (Int32.toInt64 x9)))), (0, .ref (mdb b)), (3, .int (l3))] dX8_digest_88 rfl (by decide) rfl ?_
      refine x_iinc (pc := 89) C 2 [(3, .int ((l3 + 1))), (1, .long (((31 * l1) + (Int32.toInt64 x9)))), (0, .ref (mdb b))] dX8_digest_89 rfl rfl (by decide) rfl ?_
      refine x_goto (pc := 92) C 66 dX8_digest_92 rfl ?_
      exact x_sub [2, 1, 0] rfl (ih _ _ _ _ _ hF kx)
set_option maxRecDepth 4000 in
theorem s_X8_digest_110 (C : xC p m c s args meth G b cX8_digest 5 RX8)    : ∀ (n9 : Nat) (l1 : Int64) (l3 : Int32) (l4 : Int32) (w : xWt) (o : (Int64 × Int32)) (w' : xWt), L_X8_digest_110  n9 l1 l3 l4 w = some (o, w') → xW p l e (xR 6) s m args below meth c Q b 5 (CW G b w') 0 0 138 [(0, .ref (mdb b)), (1, .long (o.1)), (3, .int (l3)), (4, .int (o.2))] [] → xW p l e (xR 6) s m args below meth c Q b 5 (CW G b w) 0 0 110 [(0, .ref (mdb b)), (1, .long (l1)), (3, .int (l3)), (4, .int (l4))] [] := by
  intro n9
  induction n9 with
  | zero => intro l1 l3 l4 w o w' hF; exact none_ne (show none = some _ from hF)
  | succ n9 ih =>
    intro l1 l3 l4 w o w' hF kx
    replace hF : B_X8_digest_110  (L_X8_digest_110  n9) l1 l3 l4 w = some (o, w') := hF
    unfold B_X8_digest_110 at hF
    refine x_iload (pc := 110) C 3 dX8_digest_110 rfl ?_
    refine x_bipush (pc := 112) C 8 dX8_digest_112 kb_8 ?_
    refine x_icmp_ge (pc := 114) C 138 dX8_digest_114 rfl hF (fun c16 hF => ?_) (fun c16 hF => ?_)
    · obtain ⟨rfl, rfl⟩ := ret_eq hF
      exact x_sub [0, 1, 2, 3] rfl kx
    · refine x_ldc2 (pc := 117) C wq1295 dX8_digest_117 ?_
      refine x_lload_n (pc := 120) C 1 dX8_digest_120 rfl rfl ?_
      refine x_lmul (pc := 121) C dX8_digest_121 ?_
      refine x_aload_n (pc := 122) C 0 dX8_digest_122 rfl rfl ?_
      refine x_iload_n (pc := 123) C 2 dX8_digest_123 rfl rfl ?_
      refine x_iload (pc := 124) C 3 dX8_digest_124 rfl ?_
      refine cV1_2 (pc := 126) (val := Value.int) C hF (fun _ _ h => c_X8_leafNow l G b  _ _ h) vm_X8_leafNow wq993 rfl rfl ⟨Nat.le_of_ble_eq_true rfl, Nat.le_of_ble_eq_true rfl⟩ rfl rfl (fun _ h => CW.md h) (Nat.le_of_ble_eq_true rfl) ⟨Nat.le_refl _, Nat.le_refl _⟩ dX8_digest_126 (fun x15 w14 hF => ?_)
      refine x_i2l (pc := 129) C dX8_digest_129 ?_
      refine x_ladd (pc := 130) C dX8_digest_130 ?_
      refine x_lstore_n (pc := 131) C [(1, .long (((31 * l1) + (Int32.toInt64 x15)))), (0, .ref (mdb b)), (3, .int (l3)), (4, .int (l4))] dX8_digest_131 rfl (by decide) rfl ?_
      refine x_iinc (pc := 132) C 3 [(4, .int ((l4 + 1))), (1, .long (((31 * l1) + (Int32.toInt64 x15)))), (0, .ref (mdb b)), (3, .int (l3))] dX8_digest_132 rfl rfl (by decide) rfl ?_
      refine x_goto (pc := 135) C 110 dX8_digest_135 rfl ?_
      exact x_sub [2, 1, 3, 0] rfl (ih _ _ _ _ _ _ hF kx)
set_option maxRecDepth 4000 in
theorem s_X8_digest_97 (C : xC p m c s args meth G b cX8_digest 5 RX8)    : ∀ (n9 : Nat) (l1 : Int64) (l3 : Int32) (w : xWt) (o : (Int64 × Int32)) (w' : xWt), L_X8_digest_97  n9 l1 l3 w = some (o, w') → xW p l e (xR 6) s m args below meth c Q b 5 (CW G b w') 0 0 157 [(0, .ref (mdb b)), (1, .long (o.1)), (3, .int (o.2))] [] → xW p l e (xR 6) s m args below meth c Q b 5 (CW G b w) 0 0 97 [(0, .ref (mdb b)), (1, .long (l1)), (3, .int (l3))] [] := by
  intro n9
  induction n9 with
  | zero => intro l1 l3 w o w' hF; exact none_ne (show none = some _ from hF)
  | succ n9 ih =>
    intro l1 l3 w o w' hF kx
    replace hF : B_X8_digest_97  (L_X8_digest_97  n9) l1 l3 w = some (o, w') := hF
    unfold B_X8_digest_97 at hF
    refine x_iload_n (pc := 97) C 2 dX8_digest_97 rfl rfl ?_
    refine x_aload_n (pc := 98) C 0 dX8_digest_98 rfl rfl ?_
    refine gf_X8_7 (pc := 99) C  dX8_digest_99 ?_
    refine x_iconst (pc := 102) C 1 dX8_digest_102 ki_1 ?_
    refine w_ald (pc := 103) C (vA_m 0 (by decide)) hF dX8_digest_103 (fun x13 hF => ?_)
    refine x_icmp_ge (pc := 104) C 157 dX8_digest_104 rfl hF (fun c21 hF => ?_) (fun c21 hF => ?_)
    · obtain ⟨rfl, rfl⟩ := ret_eq hF
      exact x_sub [0, 1, 2] rfl kx
    · refine x_iconst (pc := 107) C 0 dX8_digest_107 ki_0 ?_
      refine x_istore (pc := 108) C [(4, .int (0)), (0, .ref (mdb b)), (1, .long (l1)), (3, .int (l3))] dX8_digest_108 (by decide) rfl ?_
      obtain ⟨o17, w18, hL, hF⟩ := bd_some hF
      refine x_sub [1, 2, 3, 0] rfl (s_X8_digest_110 C  _ _ _ _ _ _ _ hL ?_)
      refine x_ldc2 (pc := 138) C wq1295 dX8_digest_138 ?_
      refine x_lload_n (pc := 141) C 1 dX8_digest_141 rfl rfl ?_
      refine x_lmul (pc := 142) C dX8_digest_142 ?_
      refine x_aload_n (pc := 143) C 0 dX8_digest_143 rfl rfl ?_
      refine x_iload_n (pc := 144) C 2 dX8_digest_144 rfl rfl ?_
      refine cV1_1 (pc := 145) (val := Value.int) C hF (fun _ _ h => c_X8_whyNot l G b  _ h) vm_X8_whyNot wq1121 rfl rfl ⟨Nat.le_of_ble_eq_true rfl, Nat.le_of_ble_eq_true rfl⟩ rfl rfl (fun _ h => CW.md h) (Nat.le_of_ble_eq_true rfl) ⟨Nat.le_refl _, Nat.le_refl _⟩ dX8_digest_145 (fun x20 w19 hF => ?_)
      refine x_i2l (pc := 148) C dX8_digest_148 ?_
      refine x_ladd (pc := 149) C dX8_digest_149 ?_
      refine x_lstore_n (pc := 150) C [(1, .long (((31 * o17.1) + (Int32.toInt64 x20)))), (0, .ref (mdb b)), (3, .int (l3)), (4, .int (o17.2))] dX8_digest_150 rfl (by decide) rfl ?_
      refine x_iinc (pc := 151) C 2 [(3, .int ((l3 + 1))), (1, .long (((31 * o17.1) + (Int32.toInt64 x20)))), (0, .ref (mdb b)), (4, .int (o17.2))] dX8_digest_151 rfl rfl (by decide) rfl ?_
      refine x_goto (pc := 154) C 97 dX8_digest_154 rfl ?_
      exact x_sub [2, 1, 0] rfl (ih _ _ _ _ _ hF kx)
set_option maxRecDepth 4000 in
theorem s_X8_digest_159 (C : xC p m c s args meth G b cX8_digest 5 RX8)    : ∀ (n9 : Nat) (l1 : Int64) (l3 : Int32) (w : xWt) (o : (Int64 × Int32)) (w' : xWt), L_X8_digest_159  n9 l1 l3 w = some (o, w') → xW p l e (xR 6) s m args below meth c Q b 5 (CW G b w') 0 0 191 [(0, .ref (mdb b)), (1, .long (o.1)), (3, .int (o.2))] [] → xW p l e (xR 6) s m args below meth c Q b 5 (CW G b w) 0 0 159 [(0, .ref (mdb b)), (1, .long (l1)), (3, .int (l3))] [] := by
  intro n9
  induction n9 with
  | zero => intro l1 l3 w o w' hF; exact none_ne (show none = some _ from hF)
  | succ n9 ih =>
    intro l1 l3 w o w' hF kx
    replace hF : B_X8_digest_159  (L_X8_digest_159  n9) l1 l3 w = some (o, w') := hF
    unfold B_X8_digest_159 at hF
    refine x_iload_n (pc := 159) C 2 dX8_digest_159 rfl rfl ?_
    refine x_iconst (pc := 160) C 5 dX8_digest_160 ki_5 ?_
    refine x_icmp_ge (pc := 161) C 191 dX8_digest_161 rfl hF (fun c29 hF => ?_) (fun c29 hF => ?_)
    · obtain ⟨rfl, rfl⟩ := ret_eq hF
      exact x_sub [0, 1, 2] rfl kx
    · refine x_aload_n (pc := 164) C 0 dX8_digest_164 rfl rfl ?_
      refine x_iload_n (pc := 165) C 2 dX8_digest_165 rfl rfl ?_
      refine x_iconst (pc := 166) C 0 dX8_digest_166 ki_0 ?_
      refine cV1_2 (pc := 167) (val := Value.int) C hF (fun _ _ h => c_X8_ofChild l G b  _ _ h) vm_X8_ofChild wq221 rfl rfl ⟨Nat.le_of_ble_eq_true rfl, Nat.le_of_ble_eq_true rfl⟩ rfl rfl (fun _ h => CW.md h) (Nat.le_of_ble_eq_true rfl) ⟨Nat.le_refl _, Nat.le_refl _⟩ dX8_digest_167 (fun x25 w24 hF => ?_)
      refine x_iconst (pc := 170) C 1 dX8_digest_170 ki_1 ?_
      refine x_icmp_ne (pc := 171) C 183 dX8_digest_171 rfl hF (fun c28 hF => ?_) (fun c28 hF => ?_)
      · refine x_lload_n (pc := 183) C 1 dX8_digest_183 rfl rfl ?_
        refine x_lstore_n (pc := 184) C [(1, .long (l1)), (0, .ref (mdb b)), (3, .int (l3))] dX8_digest_184 rfl (by decide) rfl ?_
        refine x_iinc (pc := 185) C 2 [(3, .int ((l3 + 1))), (1, .long (l1)), (0, .ref (mdb b))] dX8_digest_185 rfl rfl (by decide) rfl ?_
        refine x_goto (pc := 188) C 159 dX8_digest_188 rfl ?_
        exact x_sub [2, 1, 0] rfl (ih _ _ _ _ _ hF kx)
      · refine x_aload_n (pc := 174) C 0 dX8_digest_174 rfl rfl ?_
        refine x_iload_n (pc := 175) C 2 dX8_digest_175 rfl rfl ?_
        refine x_lload_n (pc := 176) C 1 dX8_digest_176 rfl rfl ?_
        refine cV1_2 (pc := 177) (val := Value.long) C hF (fun _ _ h => c_X8_digestOf l G b  _ _ h) vm_X8_digestOf wq1296 rfl rfl ⟨Nat.le_of_ble_eq_true rfl, Nat.le_of_ble_eq_true rfl⟩ rfl rfl (fun _ h => CW.md h) (Nat.le_of_ble_eq_true rfl) ⟨Nat.le_refl _, Nat.le_refl _⟩ dX8_digest_177 (fun x27 w26 hF => ?_)
        refine x_goto (pc := 180) C 184 dX8_digest_180 rfl ?_
        refine x_lstore_n (pc := 184) C [(1, .long (x27)), (0, .ref (mdb b)), (3, .int (l3))] dX8_digest_184 rfl (by decide) rfl ?_
        refine x_iinc (pc := 185) C 2 [(3, .int ((l3 + 1))), (1, .long (x27)), (0, .ref (mdb b))] dX8_digest_185 rfl rfl (by decide) rfl ?_
        refine x_goto (pc := 188) C 159 dX8_digest_188 rfl ?_
        exact x_sub [2, 1, 0] rfl (ih _ _ _ _ _ hF kx)
set_option maxRecDepth 4000 in
theorem s_X8_digest_303 (C : xC p m c s args meth G b cX8_digest 5 RX8)    : ∀ (n9 : Nat) (l1 : Int64) (l3 : Int32) (w : xWt) (o : (Int64 × Int32)) (w' : xWt), L_X8_digest_303  n9 l1 l3 w = some (o, w') → xW p l e (xR 6) s m args below meth c Q b 5 (CW G b w') 0 0 331 [(0, .ref (mdb b)), (1, .long (o.1)), (3, .int (o.2))] [] → xW p l e (xR 6) s m args below meth c Q b 5 (CW G b w) 0 0 303 [(0, .ref (mdb b)), (1, .long (l1)), (3, .int (l3))] [] := by
  intro n9
  induction n9 with
  | zero => intro l1 l3 w o w' hF; exact none_ne (show none = some _ from hF)
  | succ n9 ih =>
    intro l1 l3 w o w' hF kx
    replace hF : B_X8_digest_303  (L_X8_digest_303  n9) l1 l3 w = some (o, w') := hF
    unfold B_X8_digest_303 at hF
    refine x_iload_n (pc := 303) C 2 dX8_digest_303 rfl rfl ?_
    refine x_aload_n (pc := 304) C 0 dX8_digest_304 rfl rfl ?_
    refine gf_X8_179 (pc := 305) C  dX8_digest_305 ?_
    refine x_icmp_ge (pc := 308) C 331 dX8_digest_308 rfl hF (fun c49 hF => ?_) (fun c49 hF => ?_)
    · obtain ⟨rfl, rfl⟩ := ret_eq hF
      exact x_sub [0, 1, 2] rfl kx
    · refine x_ldc2 (pc := 311) C wq1295 dX8_digest_311 ?_
      refine x_lload_n (pc := 314) C 1 dX8_digest_314 rfl rfl ?_
      refine x_lmul (pc := 315) C dX8_digest_315 ?_
      refine x_aload_n (pc := 316) C 0 dX8_digest_316 rfl rfl ?_
      refine gf_X8_19 (pc := 317) C  dX8_digest_317 ?_
      refine x_iload_n (pc := 320) C 2 dX8_digest_320 rfl rfl ?_
      refine w_ald (pc := 321) C (vA_m 3 (by decide)) hF dX8_digest_321 (fun x48 hF => ?_)
      refine x_i2l (pc := 322) C dX8_digest_322 ?_
      refine x_ladd (pc := 323) C dX8_digest_323 ?_
      refine x_lstore_n (pc := 324) C [(1, .long (((31 * l1) + (Int32.toInt64 x48)))), (0, .ref (mdb b)), (3, .int (l3))] dX8_digest_324 rfl (by decide) rfl ?_
      refine x_iinc (pc := 325) C 2 [(3, .int ((l3 + 1))), (1, .long (((31 * l1) + (Int32.toInt64 x48)))), (0, .ref (mdb b))] dX8_digest_325 rfl rfl (by decide) rfl ?_
      refine x_goto (pc := 328) C 303 dX8_digest_328 rfl ?_
      exact x_sub [2, 1, 0] rfl (ih _ _ _ _ _ hF kx)
set_option maxRecDepth 4000 in
theorem c_X8_digest (l : Launch) (G : xG) (b : Nat)      {w w' : xWt} {v : Int64} (hF : F_X8_digest  w = some (v, w')) : xMet l G b yX8_digest cX8_digest 5 (some .long) (xR 6) [.ref (mdb b)] (CW G b w) (some (.long v)) (CW G b w') 0 0 := by
  refine x_of (own := RX8) rfl (plainFor_of_name pn_X8) (Nat.le_of_ble_eq_true rfl) ?_
  intro p e s m args below meth c ha C hr _
  unfold F_X8_digest at hF
  refine x_aload_n (pc := 0) C 0 dX8_digest_0 rfl rfl ?_
  refine x_iconst (pc := 1) C 0 dX8_digest_1 ki_0 ?_
  refine pf_X8_33 (pc := 2) C   hF dX8_digest_2 (fun w1 hF => ?_)
  refine x_ldc2 (pc := 5) C wq1294 dX8_digest_5 ?_
  refine x_lstore_n (pc := 8) C [(1, .long (3347)), (0, .ref (mdb b))] dX8_digest_8 rfl (by decide) rfl ?_
  refine x_iconst (pc := 9) C 0 dX8_digest_9 ki_0 ?_
  refine x_istore_n (pc := 10) C [(3, .int (0)), (1, .long (3347)), (0, .ref (mdb b))] dX8_digest_10 rfl (by decide) rfl ?_
  obtain ⟨o5, w6, hL, hF⟩ := bd_some hF
  refine x_sub [2, 1, 0] rfl (s_X8_digest_11 C  _ _ _ _ _ _ hL ?_)
  refine x_ldc2 (pc := 36) C wq1295 dX8_digest_36 ?_
  refine x_ldc2 (pc := 39) C wq1295 dX8_digest_39 ?_
  refine x_lload_n (pc := 42) C 1 dX8_digest_42 rfl rfl ?_
  refine x_lmul (pc := 43) C dX8_digest_43 ?_
  refine x_aload_n (pc := 44) C 0 dX8_digest_44 rfl rfl ?_
  refine gf_X8_7 (pc := 45) C  dX8_digest_45 ?_
  refine x_bipush (pc := 48) C 8 dX8_digest_48 kb_8 ?_
  refine w_ald (pc := 50) C (vA_m 0 (by decide)) hF dX8_digest_50 (fun x7 hF => ?_)
  refine x_i2l (pc := 51) C dX8_digest_51 ?_
  refine x_ladd (pc := 52) C dX8_digest_52 ?_
  refine x_lmul (pc := 53) C dX8_digest_53 ?_
  refine x_aload_n (pc := 54) C 0 dX8_digest_54 rfl rfl ?_
  refine gf_X8_7 (pc := 55) C  dX8_digest_55 ?_
  refine x_bipush (pc := 58) C 9 dX8_digest_58 kb_9 ?_
  refine w_ald (pc := 60) C (vA_m 0 (by decide)) hF dX8_digest_60 (fun x8 hF => ?_)
  refine x_i2l (pc := 61) C dX8_digest_61 ?_
  refine x_ladd (pc := 62) C dX8_digest_62 ?_
  refine x_lstore_n (pc := 63) C [(1, .long (((31 * ((31 * o5.1) + (Int32.toInt64 x7))) + (Int32.toInt64 x8)))), (0, .ref (mdb b)), (3, .int (o5.2))] dX8_digest_63 rfl (by decide) rfl ?_
  refine x_iconst (pc := 64) C 0 dX8_digest_64 ki_0 ?_
  refine x_istore_n (pc := 65) C [(3, .int (0)), (1, .long (((31 * ((31 * o5.1) + (Int32.toInt64 x7))) + (Int32.toInt64 x8)))), (0, .ref (mdb b))] dX8_digest_65 rfl (by decide) rfl ?_
  obtain ⟨o11, w12, hL, hF⟩ := bd_some hF
  refine x_sub [2, 1, 0] rfl (s_X8_digest_66 C  _ _ _ _ _ _ hL ?_)
  refine x_iconst (pc := 95) C 0 dX8_digest_95 ki_0 ?_
  refine x_istore_n (pc := 96) C [(3, .int (0)), (0, .ref (mdb b)), (1, .long (o11.1))] dX8_digest_96 rfl (by decide) rfl ?_
  obtain ⟨o22, w23, hL, hF⟩ := bd_some hF
  refine x_sub [1, 2, 0] rfl (s_X8_digest_97 C  _ _ _ _ _ _ hL ?_)
  refine x_iconst (pc := 157) C 0 dX8_digest_157 ki_0 ?_
  refine x_istore_n (pc := 158) C [(3, .int (0)), (0, .ref (mdb b)), (1, .long (o22.1))] dX8_digest_158 rfl (by decide) rfl ?_
  obtain ⟨o30, w31, hL, hF⟩ := bd_some hF
  refine x_sub [1, 2, 0] rfl (s_X8_digest_159 C  _ _ _ _ _ _ hL ?_)
  refine x_ldc2 (pc := 191) C wq1295 dX8_digest_191 ?_
  refine x_lload_n (pc := 194) C 1 dX8_digest_194 rfl rfl ?_
  refine x_lmul (pc := 195) C dX8_digest_195 ?_
  refine x_aload_n (pc := 196) C 0 dX8_digest_196 rfl rfl ?_
  refine cV1_0 (pc := 197) (val := Value.int) C hF (fun _ _ h => c_X8_findBestRake l G b  h) vm_X8_findBestRake wq1157 rfl rfl ⟨Nat.le_of_ble_eq_true rfl, Nat.le_of_ble_eq_true rfl⟩ rfl rfl (fun _ h => CW.md h) (Nat.le_of_ble_eq_true rfl) ⟨Nat.le_refl _, Nat.le_refl _⟩ dX8_digest_197 (fun x33 w32 hF => ?_)
  refine x_i2l (pc := 200) C dX8_digest_200 ?_
  refine x_ladd (pc := 201) C dX8_digest_201 ?_
  refine x_lstore_n (pc := 202) C [(1, .long (((31 * o30.1) + (Int32.toInt64 x33)))), (0, .ref (mdb b)), (3, .int (o30.2))] dX8_digest_202 rfl (by decide) rfl ?_
  refine x_ldc2 (pc := 203) C wq1295 dX8_digest_203 ?_
  refine x_lload_n (pc := 206) C 0 dX8_digest_206 rfl rfl ?_
  refine x_lmul (pc := 207) C dX8_digest_207 ?_
  refine x_aload_n (pc := 208) C 1 dX8_digest_208 rfl rfl ?_
  refine cV1_0 (pc := 209) (val := Value.int) C hF (fun _ _ h => c_X8_lateOnes l G b  h) vm_X8_lateOnes wq431 rfl rfl ⟨Nat.le_of_ble_eq_true rfl, Nat.le_of_ble_eq_true rfl⟩ rfl rfl (fun _ h => CW.md h) (Nat.le_of_ble_eq_true rfl) ⟨Nat.le_refl _, Nat.le_refl _⟩ dX8_digest_209 (fun x35 w34 hF => ?_)
  refine x_i2l (pc := 212) C dX8_digest_212 ?_
  refine x_ladd (pc := 213) C dX8_digest_213 ?_
  refine x_lstore_n (pc := 214) C [(1, .long (((31 * ((31 * o30.1) + (Int32.toInt64 x33))) + (Int32.toInt64 x35)))), (0, .ref (mdb b)), (3, .int (o30.2))] dX8_digest_214 rfl (by decide) rfl ?_
  refine x_ldc2 (pc := 215) C wq1295 dX8_digest_215 ?_
  refine x_lload_n (pc := 218) C 0 dX8_digest_218 rfl rfl ?_
  refine x_lmul (pc := 219) C dX8_digest_219 ?_
  refine x_aload_n (pc := 220) C 1 dX8_digest_220 rfl rfl ?_
  refine x_iconst (pc := 221) C 1 dX8_digest_221 ki_1 ?_
  refine cV1_1 (pc := 222) (val := Value.int) C hF (fun _ _ h => c_X8_leavesAt l G b  _ h) vm_X8_leavesAt wq690 rfl rfl ⟨Nat.le_of_ble_eq_true rfl, Nat.le_of_ble_eq_true rfl⟩ rfl rfl (fun _ h => CW.md h) (Nat.le_of_ble_eq_true rfl) ⟨Nat.le_refl _, Nat.le_refl _⟩ dX8_digest_222 (fun x37 w36 hF => ?_)
  refine x_i2l (pc := 225) C dX8_digest_225 ?_
  refine x_ladd (pc := 226) C dX8_digest_226 ?_
  refine x_lstore_n (pc := 227) C [(1, .long (((31 * ((31 * ((31 * o30.1) + (Int32.toInt64 x33))) + (Int32.toInt64 x35))) + (Int32.toInt64 x37)))), (0, .ref (mdb b)), (3, .int (o30.2))] dX8_digest_227 rfl (by decide) rfl ?_
  refine x_ldc2 (pc := 228) C wq1295 dX8_digest_228 ?_
  refine x_lload_n (pc := 231) C 0 dX8_digest_231 rfl rfl ?_
  refine x_lmul (pc := 232) C dX8_digest_232 ?_
  refine x_aload_n (pc := 233) C 1 dX8_digest_233 rfl rfl ?_
  refine cV1_0 (pc := 234) (val := Value.int) C hF (fun _ _ h => c_X8_findMostHeld l G b  h) vm_X8_findMostHeld wq1232 rfl rfl ⟨Nat.le_of_ble_eq_true rfl, Nat.le_of_ble_eq_true rfl⟩ rfl rfl (fun _ h => CW.md h) (Nat.le_of_ble_eq_true rfl) ⟨Nat.le_refl _, Nat.le_refl _⟩ dX8_digest_234 (fun x39 w38 hF => ?_)
  refine x_i2l (pc := 237) C dX8_digest_237 ?_
  refine x_ladd (pc := 238) C dX8_digest_238 ?_
  refine x_lstore_n (pc := 239) C [(1, .long (((31 * ((31 * ((31 * ((31 * o30.1) + (Int32.toInt64 x33))) + (Int32.toInt64 x35))) + (Int32.toInt64 x37))) + (Int32.toInt64 x39)))), (0, .ref (mdb b)), (3, .int (o30.2))] dX8_digest_239 rfl (by decide) rfl ?_
  refine x_ldc2 (pc := 240) C wq1295 dX8_digest_240 ?_
  refine x_lload_n (pc := 243) C 0 dX8_digest_243 rfl rfl ?_
  refine x_lmul (pc := 244) C dX8_digest_244 ?_
  refine x_aload_n (pc := 245) C 1 dX8_digest_245 rfl rfl ?_
  refine cV1_0 (pc := 246) (val := Value.double) C hF (fun _ _ h => c_X8_shareOfBurnt l G b  h) vm_X8_shareOfBurnt wq1245 rfl rfl ⟨Nat.le_of_ble_eq_true rfl, Nat.le_of_ble_eq_true rfl⟩ rfl rfl (fun _ h => CW.md h) (Nat.le_of_ble_eq_true rfl) ⟨Nat.le_refl _, Nat.le_refl _⟩ dX8_digest_246 (fun x41 w40 hF => ?_)
  refine cS1_1 (pc := 249) (val := Value.long) C hF (fun _ _ h => c_Jxe99ae_doubleToLongBits_ccdee l G b  _ h) sm_Jxe99ae_doubleToLongBits_ccdee wq1300 rfl rfl ⟨Nat.le_of_ble_eq_true rfl, Nat.le_of_ble_eq_true rfl⟩ (Nat.le_of_ble_eq_true rfl) ⟨Nat.le_refl _, Nat.le_refl _⟩ dX8_digest_249 (fun x43 w42 hF => ?_)
  refine x_ladd (pc := 252) C dX8_digest_252 ?_
  refine x_lstore_n (pc := 253) C [(1, .long (((31 * ((31 * ((31 * ((31 * ((31 * o30.1) + (Int32.toInt64 x33))) + (Int32.toInt64 x35))) + (Int32.toInt64 x37))) + (Int32.toInt64 x39))) + x43))), (0, .ref (mdb b)), (3, .int (o30.2))] dX8_digest_253 rfl (by decide) rfl ?_
  refine x_ldc2 (pc := 254) C wq1295 dX8_digest_254 ?_
  refine x_lload_n (pc := 257) C 0 dX8_digest_257 rfl rfl ?_
  refine x_lmul (pc := 258) C dX8_digest_258 ?_
  refine x_aload_n (pc := 259) C 1 dX8_digest_259 rfl rfl ?_
  refine cV1_0 (pc := 260) (val := Value.float) C hF (fun _ _ h => c_X8_fullnessNow l G b  h) vm_X8_fullnessNow wq1258 rfl rfl ⟨Nat.le_of_ble_eq_true rfl, Nat.le_of_ble_eq_true rfl⟩ rfl rfl (fun _ h => CW.md h) (Nat.le_of_ble_eq_true rfl) ⟨Nat.le_refl _, Nat.le_refl _⟩ dX8_digest_260 (fun x45 w44 hF => ?_)
  refine cS1_1 (pc := 263) (val := Value.int) C hF (fun _ _ h => c_Jxf58ca_floatToIntBits_5c35a l G b  _ h) sm_Jxf58ca_floatToIntBits_5c35a wq1312 rfl rfl ⟨Nat.le_of_ble_eq_true rfl, Nat.le_of_ble_eq_true rfl⟩ (Nat.le_of_ble_eq_true rfl) ⟨Nat.le_refl _, Nat.le_refl _⟩ dX8_digest_263 (fun x47 w46 hF => ?_)
  refine x_i2l (pc := 266) C dX8_digest_266 ?_
  refine x_ladd (pc := 267) C dX8_digest_267 ?_
  refine x_lstore_n (pc := 268) C [(1, .long (((31 * ((31 * ((31 * ((31 * ((31 * ((31 * o30.1) + (Int32.toInt64 x33))) + (Int32.toInt64 x35))) + (Int32.toInt64 x37))) + (Int32.toInt64 x39))) + x43)) + (Int32.toInt64 x47)))), (0, .ref (mdb b)), (3, .int (o30.2))] dX8_digest_268 rfl (by decide) rfl ?_
  refine x_ldc2 (pc := 269) C wq1295 dX8_digest_269 ?_
  refine x_lload_n (pc := 272) C 0 dX8_digest_272 rfl rfl ?_
  refine x_lmul (pc := 273) C dX8_digest_273 ?_
  refine x_aload_n (pc := 274) C 1 dX8_digest_274 rfl rfl ?_
  refine gf_X8_75 (pc := 275) C  dX8_digest_275 ?_
  refine x_if_eq (pc := 278) C 285 dX8_digest_278 rfl hF (fun c54 hF => ?_) (fun c54 hF => ?_)
  · refine x_iconst (pc := 285) C 0 dX8_digest_285 ki_0 ?_
    refine x_i2l (pc := 286) C dX8_digest_286 ?_
    refine x_ladd (pc := 287) C dX8_digest_287 ?_
    refine x_lstore_n (pc := 288) C [(1, .long (((31 * ((31 * ((31 * ((31 * ((31 * ((31 * ((31 * o30.1) + (Int32.toInt64 x33))) + (Int32.toInt64 x35))) + (Int32.toInt64 x37))) + (Int32.toInt64 x39))) + x43)) + (Int32.toInt64 x47))) + (Int32.toInt64 0)))), (0, .ref (mdb b)), (3, .int (o30.2))] dX8_digest_288 rfl (by decide) rfl ?_
    refine x_ldc2 (pc := 289) C wq1295 dX8_digest_289 ?_
    refine x_lload_n (pc := 292) C 0 dX8_digest_292 rfl rfl ?_
    refine x_lmul (pc := 293) C dX8_digest_293 ?_
    refine x_aload_n (pc := 294) C 1 dX8_digest_294 rfl rfl ?_
    refine gf_X8_179 (pc := 295) C  dX8_digest_295 ?_
    refine x_i2l (pc := 298) C dX8_digest_298 ?_
    refine x_ladd (pc := 299) C dX8_digest_299 ?_
    refine x_lstore_n (pc := 300) C [(1, .long (((31 * ((31 * ((31 * ((31 * ((31 * ((31 * ((31 * ((31 * o30.1) + (Int32.toInt64 x33))) + (Int32.toInt64 x35))) + (Int32.toInt64 x37))) + (Int32.toInt64 x39))) + x43)) + (Int32.toInt64 x47))) + (Int32.toInt64 0))) + (Int32.toInt64 (w46.2.1 9 3))))), (0, .ref (mdb b)), (3, .int (o30.2))] dX8_digest_300 rfl (by decide) rfl ?_
    refine x_iconst (pc := 301) C 0 dX8_digest_301 ki_0 ?_
    refine x_istore_n (pc := 302) C [(3, .int (0)), (1, .long (((31 * ((31 * ((31 * ((31 * ((31 * ((31 * ((31 * ((31 * o30.1) + (Int32.toInt64 x33))) + (Int32.toInt64 x35))) + (Int32.toInt64 x37))) + (Int32.toInt64 x39))) + x43)) + (Int32.toInt64 x47))) + (Int32.toInt64 0))) + (Int32.toInt64 (w46.2.1 9 3))))), (0, .ref (mdb b))] dX8_digest_302 rfl (by decide) rfl ?_
    obtain ⟨o50, w51, hL, hF⟩ := bd_some hF
    refine x_sub [2, 1, 0] rfl (s_X8_digest_303 C  _ _ _ _ _ _ hL ?_)
    refine x_lload_n (pc := 331) C 1 dX8_digest_331 rfl rfl ?_
    obtain ⟨rfl, rfl⟩ := ret_eq hF
    exact x_lret (pc := 332) C hr rfl (fun _ h => h) dX8_digest_332
  · refine x_iconst (pc := 281) C 1 dX8_digest_281 ki_1 ?_
    refine x_goto (pc := 282) C 286 dX8_digest_282 rfl ?_
    refine x_i2l (pc := 286) C dX8_digest_286 ?_
    refine x_ladd (pc := 287) C dX8_digest_287 ?_
    refine x_lstore_n (pc := 288) C [(1, .long (((31 * ((31 * ((31 * ((31 * ((31 * ((31 * ((31 * o30.1) + (Int32.toInt64 x33))) + (Int32.toInt64 x35))) + (Int32.toInt64 x37))) + (Int32.toInt64 x39))) + x43)) + (Int32.toInt64 x47))) + (Int32.toInt64 1)))), (0, .ref (mdb b)), (3, .int (o30.2))] dX8_digest_288 rfl (by decide) rfl ?_
    refine x_ldc2 (pc := 289) C wq1295 dX8_digest_289 ?_
    refine x_lload_n (pc := 292) C 0 dX8_digest_292 rfl rfl ?_
    refine x_lmul (pc := 293) C dX8_digest_293 ?_
    refine x_aload_n (pc := 294) C 1 dX8_digest_294 rfl rfl ?_
    refine gf_X8_179 (pc := 295) C  dX8_digest_295 ?_
    refine x_i2l (pc := 298) C dX8_digest_298 ?_
    refine x_ladd (pc := 299) C dX8_digest_299 ?_
    refine x_lstore_n (pc := 300) C [(1, .long (((31 * ((31 * ((31 * ((31 * ((31 * ((31 * ((31 * ((31 * o30.1) + (Int32.toInt64 x33))) + (Int32.toInt64 x35))) + (Int32.toInt64 x37))) + (Int32.toInt64 x39))) + x43)) + (Int32.toInt64 x47))) + (Int32.toInt64 1))) + (Int32.toInt64 (w46.2.1 9 3))))), (0, .ref (mdb b)), (3, .int (o30.2))] dX8_digest_300 rfl (by decide) rfl ?_
    refine x_iconst (pc := 301) C 0 dX8_digest_301 ki_0 ?_
    refine x_istore_n (pc := 302) C [(3, .int (0)), (1, .long (((31 * ((31 * ((31 * ((31 * ((31 * ((31 * ((31 * ((31 * o30.1) + (Int32.toInt64 x33))) + (Int32.toInt64 x35))) + (Int32.toInt64 x37))) + (Int32.toInt64 x39))) + x43)) + (Int32.toInt64 x47))) + (Int32.toInt64 1))) + (Int32.toInt64 (w46.2.1 9 3))))), (0, .ref (mdb b))] dX8_digest_302 rfl (by decide) rfl ?_
    obtain ⟨o52, w53, hL, hF⟩ := bd_some hF
    refine x_sub [2, 1, 0] rfl (s_X8_digest_303 C  _ _ _ _ _ _ hL ?_)
    refine x_lload_n (pc := 331) C 1 dX8_digest_331 rfl rfl ?_
    obtain ⟨rfl, rfl⟩ := ret_eq hF
    exact x_lret (pc := 332) C hr rfl (fun _ h => h) dX8_digest_332
set_option maxRecDepth 4000 in
theorem c_X8_doEnter (l : Launch) (G : xG) (b : Nat)     (a1 : Int32) {w w' : xWt} {v : Int32} (hF : F_X8_doEnter a1 w = some (v, w')) : xMet l G b yX8_doEnter cX8_doEnter 2 (some .int) (xR 1) [.ref (mdb b), .int (a1)] (CW G b w) (some (.int v)) (CW G b w') 0 0 := by
  refine x_of (own := RX8) rfl (plainFor_of_name pn_X8) (Nat.le_of_ble_eq_true rfl) ?_
  intro p e s m args below meth c ha C hr _
  unfold F_X8_doEnter at hF
  refine x_aload_n (pc := 0) C 0 dX8_doEnter_0 rfl rfl ?_
  refine x_iload_n (pc := 1) C 1 dX8_doEnter_1 rfl rfl ?_
  refine x_iconst (pc := 2) C 1 dX8_doEnter_2 ki_1 ?_
  refine x_iconst (pc := 3) C 1 dX8_doEnter_3 ki_1 ?_
  refine cV0_3 (pc := 4) C hF (fun _ _ h => c_X8_setChild l G b  _ _ _ h) vm_X8_setChild wq119 rfl rfl ⟨Nat.le_of_ble_eq_true rfl, Nat.le_of_ble_eq_true rfl⟩ rfl rfl (fun _ h => CW.md h) (Nat.le_of_ble_eq_true rfl) ⟨Nat.le_refl _, Nat.le_refl _⟩ dX8_doEnter_4 (fun _ w1 hF => ?_)
  refine x_aload_n (pc := 7) C 0 dX8_doEnter_7 rfl rfl ?_
  refine x_iload_n (pc := 8) C 1 dX8_doEnter_8 rfl rfl ?_
  refine x_iconst (pc := 9) C 2 dX8_doEnter_9 ki_2 ?_
  refine x_aload_n (pc := 10) C 0 dX8_doEnter_10 rfl rfl ?_
  refine gf_X8_7 (pc := 11) C  dX8_doEnter_11 ?_
  refine x_iconst (pc := 14) C 0 dX8_doEnter_14 ki_0 ?_
  refine w_ald (pc := 15) C (vA_m 0 (by decide)) hF dX8_doEnter_15 (fun x2 hF => ?_)
  refine cV0_3 (pc := 16) C hF (fun _ _ h => c_X8_setChild l G b  _ _ _ h) vm_X8_setChild wq119 rfl rfl ⟨Nat.le_of_ble_eq_true rfl, Nat.le_of_ble_eq_true rfl⟩ rfl rfl (fun _ h => CW.md h) (Nat.le_of_ble_eq_true rfl) ⟨Nat.le_refl _, Nat.le_refl _⟩ dX8_doEnter_16 (fun _ w3 hF => ?_)
  refine x_aload_n (pc := 19) C 0 dX8_doEnter_19 rfl rfl ?_
  refine gf_X8_7 (pc := 20) C  dX8_doEnter_20 ?_
  refine x_iconst (pc := 23) C 0 dX8_doEnter_23 ki_0 ?_
  refine w_ald (pc := 24) C (vA_m 0 (by decide)) hF dX8_doEnter_24 (fun x4 hF => ?_)
  obtain ⟨rfl, rfl⟩ := ret_eq hF
  exact x_iret (pc := 25) C hr rfl (fun _ h => h) dX8_doEnter_25
set_option maxRecDepth 4000 in
theorem c_X8_setLeaf (l : Launch) (G : xG) (b : Nat)     (a1 : Int32) (a2 : Int32) (a3 : Int32) {w w' : xWt}  (hF : F_X8_setLeaf a1 a2 a3 w = some ((), w')) : xMet l G b yX8_setLeaf cX8_setLeaf 4 none (xR 0) [.ref (mdb b), .int (a1), .int (a2), .int (a3)] (CW G b w) none (CW G b w') 0 0 := by
  refine x_of (own := RX8) rfl (plainFor_of_name pn_X8) (Nat.le_of_ble_eq_true rfl) ?_
  intro p e s m args below meth c ha C hr _
  unfold F_X8_setLeaf at hF
  refine x_aload_n (pc := 0) C 0 dX8_setLeaf_0 rfl rfl ?_
  refine gf_X8_7 (pc := 1) C  dX8_setLeaf_1 ?_
  refine x_bipush (pc := 4) C 22 dX8_setLeaf_4 kb_22 ?_
  refine x_bipush (pc := 6) C 6 dX8_setLeaf_6 kb_6 ?_
  refine x_iload_n (pc := 8) C 1 dX8_setLeaf_8 rfl rfl ?_
  refine x_imul (pc := 9) C dX8_setLeaf_9 ?_
  refine x_iadd (pc := 10) C dX8_setLeaf_10 ?_
  refine x_iload_n (pc := 11) C 2 dX8_setLeaf_11 rfl rfl ?_
  refine x_iadd (pc := 12) C dX8_setLeaf_12 ?_
  refine x_iload_n (pc := 13) C 3 dX8_setLeaf_13 rfl rfl ?_
  refine w_ast (pc := 14) C (vA_m 0 (by decide)) hF dX8_setLeaf_14 (fun w1 hF => ?_)
  obtain ⟨-, rfl⟩ := ret_eq hF
  exact x_vret (pc := 15) C hr (fun _ h => h) dX8_setLeaf_15
set_option maxRecDepth 4000 in
theorem c_X8_doGrow (l : Launch) (G : xG) (b : Nat)     (a1 : Int32) (a2 : Int32) {w w' : xWt} {v : Int32} (hF : F_X8_doGrow a1 a2 w = some (v, w')) : xMet l G b yX8_doGrow cX8_doGrow 4 (some .int) (xR 1) [.ref (mdb b), .int (a1), .int (a2)] (CW G b w) (some (.int v)) (CW G b w') 0 0 := by
  refine x_of (own := RX8) rfl (plainFor_of_name pn_X8) (Nat.le_of_ble_eq_true rfl) ?_
  intro p e s m args below meth c ha C hr _
  unfold F_X8_doGrow at hF
  refine x_aload_n (pc := 0) C 0 dX8_doGrow_0 rfl rfl ?_
  refine gf_X8_7 (pc := 1) C  dX8_doGrow_1 ?_
  refine x_iconst (pc := 4) C 1 dX8_doGrow_4 ki_1 ?_
  refine w_ald (pc := 5) C (vA_m 0 (by decide)) hF dX8_doGrow_5 (fun x1 hF => ?_)
  refine x_istore_n (pc := 6) C [(3, .int (x1)), (0, .ref (mdb b)), (1, .int (a1)), (2, .int (a2))] dX8_doGrow_6 rfl (by decide) rfl ?_
  refine x_aload_n (pc := 7) C 1 dX8_doGrow_7 rfl rfl ?_
  refine gf_X8_7 (pc := 8) C  dX8_doGrow_8 ?_
  refine x_iconst (pc := 11) C 1 dX8_doGrow_11 ki_1 ?_
  refine x_dup2 (pc := 12) C dX8_doGrow_12 rfl rfl ?_
  refine w_ald (pc := 13) C (vA_m 0 (by decide)) hF dX8_doGrow_13 (fun x2 hF => ?_)
  refine x_iconst (pc := 14) C 1 dX8_doGrow_14 ki_1 ?_
  refine x_iadd (pc := 15) C dX8_doGrow_15 ?_
  refine w_ast (pc := 16) C (vA_m 0 (by decide)) hF dX8_doGrow_16 (fun w3 hF => ?_)
  refine x_aload_n (pc := 17) C 1 dX8_doGrow_17 rfl rfl ?_
  refine gf_X8_7 (pc := 18) C  dX8_doGrow_18 ?_
  refine x_bipush (pc := 21) C 10 dX8_doGrow_21 kb_10 ?_
  refine x_iload_n (pc := 23) C 2 dX8_doGrow_23 rfl rfl ?_
  refine x_iadd (pc := 24) C dX8_doGrow_24 ?_
  refine x_iload_n (pc := 25) C 0 dX8_doGrow_25 rfl rfl ?_
  refine w_ast (pc := 26) C (vA_m 0 (by decide)) hF dX8_doGrow_26 (fun w4 hF => ?_)
  refine x_aload_n (pc := 27) C 1 dX8_doGrow_27 rfl rfl ?_
  refine x_iload_n (pc := 28) C 0 dX8_doGrow_28 rfl rfl ?_
  refine x_iconst (pc := 29) C 0 dX8_doGrow_29 ki_0 ?_
  refine x_iload_n (pc := 30) C 3 dX8_doGrow_30 rfl rfl ?_
  refine cV0_3 (pc := 31) C hF (fun _ _ h => c_X8_setLeaf l G b  _ _ _ h) vm_X8_setLeaf wq326 rfl rfl ⟨Nat.le_of_ble_eq_true rfl, Nat.le_of_ble_eq_true rfl⟩ rfl rfl (fun _ h => CW.md h) (Nat.le_of_ble_eq_true rfl) ⟨Nat.le_refl _, Nat.le_refl _⟩ dX8_doGrow_31 (fun _ w5 hF => ?_)
  refine x_aload_n (pc := 34) C 1 dX8_doGrow_34 rfl rfl ?_
  refine x_iload_n (pc := 35) C 0 dX8_doGrow_35 rfl rfl ?_
  refine x_iconst (pc := 36) C 1 dX8_doGrow_36 ki_1 ?_
  refine x_iconst (pc := 37) C 0 dX8_doGrow_37 ki_0 ?_
  refine cV0_3 (pc := 38) C hF (fun _ _ h => c_X8_setLeaf l G b  _ _ _ h) vm_X8_setLeaf wq326 rfl rfl ⟨Nat.le_of_ble_eq_true rfl, Nat.le_of_ble_eq_true rfl⟩ rfl rfl (fun _ h => CW.md h) (Nat.le_of_ble_eq_true rfl) ⟨Nat.le_refl _, Nat.le_refl _⟩ dX8_doGrow_38 (fun _ w6 hF => ?_)
  refine x_aload_n (pc := 41) C 1 dX8_doGrow_41 rfl rfl ?_
  refine x_iload_n (pc := 42) C 0 dX8_doGrow_42 rfl rfl ?_
  refine x_iconst (pc := 43) C 2 dX8_doGrow_43 ki_2 ?_
  refine x_iload_n (pc := 44) C 2 dX8_doGrow_44 rfl rfl ?_
  refine cV0_3 (pc := 45) C hF (fun _ _ h => c_X8_setLeaf l G b  _ _ _ h) vm_X8_setLeaf wq326 rfl rfl ⟨Nat.le_of_ble_eq_true rfl, Nat.le_of_ble_eq_true rfl⟩ rfl rfl (fun _ h => CW.md h) (Nat.le_of_ble_eq_true rfl) ⟨Nat.le_refl _, Nat.le_refl _⟩ dX8_doGrow_45 (fun _ w7 hF => ?_)
  refine x_aload_n (pc := 48) C 1 dX8_doGrow_48 rfl rfl ?_
  refine x_iload_n (pc := 49) C 0 dX8_doGrow_49 rfl rfl ?_
  refine x_iconst (pc := 50) C 3 dX8_doGrow_50 ki_3 ?_
  refine x_iconst (pc := 51) C (-1) dX8_doGrow_51 ki_m1 ?_
  refine cV0_3 (pc := 52) C hF (fun _ _ h => c_X8_setLeaf l G b  _ _ _ h) vm_X8_setLeaf wq326 rfl rfl ⟨Nat.le_of_ble_eq_true rfl, Nat.le_of_ble_eq_true rfl⟩ rfl rfl (fun _ h => CW.md h) (Nat.le_of_ble_eq_true rfl) ⟨Nat.le_refl _, Nat.le_refl _⟩ dX8_doGrow_52 (fun _ w8 hF => ?_)
  refine x_iload_n (pc := 55) C 0 dX8_doGrow_55 rfl rfl ?_
  obtain ⟨rfl, rfl⟩ := ret_eq hF
  exact x_iret (pc := 56) C hr rfl (fun _ h => h) dX8_doGrow_56
set_option maxRecDepth 4000 in
theorem c_X8_doLoosen (l : Launch) (G : xG) (b : Nat)     (a1 : Int32) (a2 : Int32) {w w' : xWt} {v : Int32} (hF : F_X8_doLoosen a1 a2 w = some (v, w')) : xMet l G b yX8_doLoosen cX8_doLoosen 4 (some .int) (xR 2) [.ref (mdb b), .int (a1), .int (a2)] (CW G b w) (some (.int v)) (CW G b w') 0 0 := by
  refine x_of (own := RX8) rfl (plainFor_of_name pn_X8) (Nat.le_of_ble_eq_true rfl) ?_
  intro p e s m args below meth c ha C hr _
  unfold F_X8_doLoosen at hF
  refine x_aload_n (pc := 0) C 0 dX8_doLoosen_0 rfl rfl ?_
  refine x_iload_n (pc := 1) C 1 dX8_doLoosen_1 rfl rfl ?_
  refine x_iload_n (pc := 2) C 2 dX8_doLoosen_2 rfl rfl ?_
  refine x_iconst (pc := 3) C 1 dX8_doLoosen_3 ki_1 ?_
  refine cV1_3 (pc := 4) (val := Value.int) C hF (fun _ _ h => c_X8_ofHook l G b  _ _ _ h) vm_X8_ofHook wq403 rfl rfl ⟨Nat.le_of_ble_eq_true rfl, Nat.le_of_ble_eq_true rfl⟩ rfl rfl (fun _ h => CW.md h) (Nat.le_of_ble_eq_true rfl) ⟨Nat.le_refl _, Nat.le_refl _⟩ dX8_doLoosen_4 (fun x2 w1 hF => ?_)
  refine x_istore_n (pc := 7) C [(3, .int (x2)), (0, .ref (mdb b)), (1, .int (a1)), (2, .int (a2))] dX8_doLoosen_7 rfl (by decide) rfl ?_
  refine x_aload_n (pc := 8) C 1 dX8_doLoosen_8 rfl rfl ?_
  refine x_iload_n (pc := 9) C 2 dX8_doLoosen_9 rfl rfl ?_
  refine x_iload_n (pc := 10) C 3 dX8_doLoosen_10 rfl rfl ?_
  refine x_iconst (pc := 11) C 0 dX8_doLoosen_11 ki_0 ?_
  refine x_iconst (pc := 12) C (-1) dX8_doLoosen_12 ki_m1 ?_
  refine x_iconst (pc := 13) C (-1) dX8_doLoosen_13 ki_m1 ?_
  refine cV0_5 (pc := 14) C hF (fun _ _ h => c_X8_setHook l G b  _ _ _ _ _ h) vm_X8_setHook wq127 rfl rfl ⟨Nat.le_of_ble_eq_true rfl, Nat.le_of_ble_eq_true rfl⟩ rfl rfl (fun _ h => CW.md h) (Nat.le_of_ble_eq_true rfl) ⟨Nat.le_refl _, Nat.le_refl _⟩ dX8_doLoosen_14 (fun _ w3 hF => ?_)
  refine x_iload_n (pc := 17) C 0 dX8_doLoosen_17 rfl rfl ?_
  obtain ⟨rfl, rfl⟩ := ret_eq hF
  exact x_iret (pc := 18) C hr rfl (fun _ h => h) dX8_doLoosen_18
set_option maxRecDepth 4000 in
theorem c_X8_doNote (l : Launch) (G : xG) (b : Nat)     (a1 : Int32) (a2 : Int32) (a3 : Int32) {w w' : xWt} {v : Int32} (hF : F_X8_doNote a1 a2 a3 w = some (v, w')) : xMet l G b yX8_doNote cX8_doNote 4 (some .int) (xR 2) [.ref (mdb b), .int (a1), .int (a2), .int (a3)] (CW G b w) (some (.int v)) (CW G b w') 0 0 := by
  refine x_of (own := RX8) rfl (plainFor_of_name pn_X8) (Nat.le_of_ble_eq_true rfl) ?_
  intro p e s m args below meth c ha C hr _
  unfold F_X8_doNote at hF
  refine x_aload_n (pc := 0) C 0 dX8_doNote_0 rfl rfl ?_
  refine x_iload_n (pc := 1) C 1 dX8_doNote_1 rfl rfl ?_
  refine x_iload_n (pc := 2) C 2 dX8_doNote_2 rfl rfl ?_
  refine x_iconst (pc := 3) C 1 dX8_doNote_3 ki_1 ?_
  refine x_aload_n (pc := 4) C 0 dX8_doNote_4 rfl rfl ?_
  refine gf_X8_7 (pc := 5) C  dX8_doNote_5 ?_
  refine x_bipush (pc := 8) C 10 dX8_doNote_8 kb_10 ?_
  refine x_iload_n (pc := 10) C 3 dX8_doNote_10 rfl rfl ?_
  refine x_iadd (pc := 11) C dX8_doNote_11 ?_
  refine w_ald (pc := 12) C (vA_m 0 (by decide)) hF dX8_doNote_12 (fun x1 hF => ?_)
  refine x_iload_n (pc := 13) C 3 dX8_doNote_13 rfl rfl ?_
  refine cV0_5 (pc := 14) C hF (fun _ _ h => c_X8_setHook l G b  _ _ _ _ _ h) vm_X8_setHook wq127 rfl rfl ⟨Nat.le_of_ble_eq_true rfl, Nat.le_of_ble_eq_true rfl⟩ rfl rfl (fun _ h => CW.md h) (Nat.le_of_ble_eq_true rfl) ⟨Nat.le_refl _, Nat.le_refl _⟩ dX8_doNote_14 (fun _ w2 hF => ?_)
  refine x_aload_n (pc := 17) C 0 dX8_doNote_17 rfl rfl ?_
  refine gf_X8_7 (pc := 18) C  dX8_doNote_18 ?_
  refine x_bipush (pc := 21) C 10 dX8_doNote_21 kb_10 ?_
  refine x_iload_n (pc := 23) C 3 dX8_doNote_23 rfl rfl ?_
  refine x_iadd (pc := 24) C dX8_doNote_24 ?_
  refine w_ald (pc := 25) C (vA_m 0 (by decide)) hF dX8_doNote_25 (fun x3 hF => ?_)
  obtain ⟨rfl, rfl⟩ := ret_eq hF
  exact x_iret (pc := 26) C hr rfl (fun _ h => h) dX8_doNote_26
set_option maxRecDepth 4000 in
theorem c_X8_doPin (l : Launch) (G : xG) (b : Nat)     (a1 : Int32) (a2 : Int32) {w w' : xWt} {v : Int32} (hF : F_X8_doPin a1 a2 w = some (v, w')) : xMet l G b yX8_doPin cX8_doPin 5 (some .int) (xR 2) [.ref (mdb b), .int (a1), .int (a2)] (CW G b w) (some (.int v)) (CW G b w') 0 0 := by
  refine x_of (own := RX8) rfl (plainFor_of_name pn_X8) (Nat.le_of_ble_eq_true rfl) ?_
  intro p e s m args below meth c ha C hr _
  unfold F_X8_doPin at hF
  refine x_aload_n (pc := 0) C 0 dX8_doPin_0 rfl rfl ?_
  refine x_iload_n (pc := 1) C 1 dX8_doPin_1 rfl rfl ?_
  refine x_iload_n (pc := 2) C 2 dX8_doPin_2 rfl rfl ?_
  refine x_iconst (pc := 3) C 1 dX8_doPin_3 ki_1 ?_
  refine cV1_3 (pc := 4) (val := Value.int) C hF (fun _ _ h => c_X8_ofHook l G b  _ _ _ h) vm_X8_ofHook wq403 rfl rfl ⟨Nat.le_of_ble_eq_true rfl, Nat.le_of_ble_eq_true rfl⟩ rfl rfl (fun _ h => CW.md h) (Nat.le_of_ble_eq_true rfl) ⟨Nat.le_refl _, Nat.le_refl _⟩ dX8_doPin_4 (fun x2 w1 hF => ?_)
  refine x_istore_n (pc := 7) C [(3, .int (x2)), (0, .ref (mdb b)), (1, .int (a1)), (2, .int (a2))] dX8_doPin_7 rfl (by decide) rfl ?_
  refine x_aload_n (pc := 8) C 1 dX8_doPin_8 rfl rfl ?_
  refine gf_X8_7 (pc := 9) C  dX8_doPin_9 ?_
  refine x_bipush (pc := 12) C 10 dX8_doPin_12 kb_10 ?_
  refine x_aload_n (pc := 14) C 1 dX8_doPin_14 rfl rfl ?_
  refine x_iload_n (pc := 15) C 2 dX8_doPin_15 rfl rfl ?_
  refine x_iload_n (pc := 16) C 3 dX8_doPin_16 rfl rfl ?_
  refine x_iconst (pc := 17) C 2 dX8_doPin_17 ki_2 ?_
  refine cV1_3 (pc := 18) (val := Value.int) C hF (fun _ _ h => c_X8_ofHook l G b  _ _ _ h) vm_X8_ofHook wq403 rfl rfl ⟨Nat.le_of_ble_eq_true rfl, Nat.le_of_ble_eq_true rfl⟩ rfl rfl (fun _ h => CW.md h) (Nat.le_of_ble_eq_true rfl) ⟨Nat.le_refl _, Nat.le_refl _⟩ dX8_doPin_18 (fun x4 w3 hF => ?_)
  refine x_iadd (pc := 21) C dX8_doPin_21 ?_
  refine w_ald (pc := 22) C (vA_m 0 (by decide)) hF dX8_doPin_22 (fun x5 hF => ?_)
  refine x_iload_n (pc := 23) C 0 dX8_doPin_23 rfl rfl ?_
  refine x_icmp_ne (pc := 24) C 31 dX8_doPin_24 rfl hF (fun c20 hF => ?_) (fun c20 hF => ?_)
  · refine x_iconst (pc := 31) C 0 dX8_doPin_31 ki_0 ?_
    refine x_istore (pc := 32) C [(4, .int (0)), (3, .int (x2)), (0, .ref (mdb b)), (1, .int (a1)), (2, .int (a2))] dX8_doPin_32 (by decide) rfl ?_
    refine x_iload (pc := 34) C 0 dX8_doPin_34 rfl ?_
    refine x_if_eq (pc := 36) C 51 dX8_doPin_36 rfl (cst_t (c9 := (0 : Int32) = 0) (by decide) hF) (fun c12 hF => ?_) (fun c12 _ => absurd (by decide) c12)
    refine x_aload_n (pc := 51) C 2 dX8_doPin_51 rfl rfl ?_
    refine x_iload_n (pc := 52) C 3 dX8_doPin_52 rfl rfl ?_
    refine x_iload_n (pc := 53) C 4 dX8_doPin_53 rfl rfl ?_
    refine x_iconst (pc := 54) C 0 dX8_doPin_54 ki_0 ?_
    refine x_iconst (pc := 55) C (-1) dX8_doPin_55 ki_m1 ?_
    refine x_iconst (pc := 56) C (-1) dX8_doPin_56 ki_m1 ?_
    refine cV0_5 (pc := 57) C hF (fun _ _ h => c_X8_setHook l G b  _ _ _ _ _ h) vm_X8_setHook wq127 rfl rfl ⟨Nat.le_of_ble_eq_true rfl, Nat.le_of_ble_eq_true rfl⟩ rfl rfl (fun _ h => CW.md h) (Nat.le_of_ble_eq_true rfl) ⟨Nat.le_refl _, Nat.le_refl _⟩ dX8_doPin_57 (fun _ w6 hF => ?_)
    refine x_aload_n (pc := 60) C 2 dX8_doPin_60 rfl rfl ?_
    refine gf_X8_7 (pc := 61) C  dX8_doPin_61 ?_
    refine x_iconst (pc := 64) C 4 dX8_doPin_64 ki_4 ?_
    refine x_dup2 (pc := 65) C dX8_doPin_65 rfl rfl ?_
    refine w_ald (pc := 66) C (vA_m 0 (by decide)) hF dX8_doPin_66 (fun x7 hF => ?_)
    refine x_iconst (pc := 67) C 1 dX8_doPin_67 ki_1 ?_
    refine x_iadd (pc := 68) C dX8_doPin_68 ?_
    refine w_ast (pc := 69) C (vA_m 0 (by decide)) hF dX8_doPin_69 (fun w8 hF => ?_)
    refine x_iload (pc := 70) C 0 dX8_doPin_70 rfl ?_
    refine x_if_eq (pc := 72) C 79 dX8_doPin_72 rfl (cst_t (c9 := (0 : Int32) = 0) (by decide) hF) (fun c9 hF => ?_) (fun c9 _ => absurd (by decide) c9)
    refine x_iconst (pc := 79) C 0 dX8_doPin_79 ki_0 ?_
    obtain ⟨rfl, rfl⟩ := ret_eq hF
    exact x_iret (pc := 80) C hr rfl (fun _ h => h) dX8_doPin_80
  · refine x_iconst (pc := 27) C 1 dX8_doPin_27 ki_1 ?_
    refine x_goto (pc := 28) C 32 dX8_doPin_28 rfl ?_
    refine x_istore (pc := 32) C [(4, .int (1)), (3, .int (x2)), (0, .ref (mdb b)), (1, .int (a1)), (2, .int (a2))] dX8_doPin_32 (by decide) rfl ?_
    refine x_iload (pc := 34) C 0 dX8_doPin_34 rfl ?_
    refine x_if_eq (pc := 36) C 51 dX8_doPin_36 rfl (cst_f (c9 := (1 : Int32) = 0) (by decide) hF) (fun c19 _ => absurd c19 (by decide)) (fun c19 hF => ?_)
    refine x_aload_n (pc := 39) C 2 dX8_doPin_39 rfl rfl ?_
    refine x_iload_n (pc := 40) C 3 dX8_doPin_40 rfl rfl ?_
    refine x_iload_n (pc := 41) C 4 dX8_doPin_41 rfl rfl ?_
    refine x_iconst (pc := 42) C 2 dX8_doPin_42 ki_2 ?_
    refine x_iload_n (pc := 43) C 1 dX8_doPin_43 rfl rfl ?_
    refine x_iconst (pc := 44) C (-1) dX8_doPin_44 ki_m1 ?_
    refine cV0_5 (pc := 45) C hF (fun _ _ h => c_X8_setHook l G b  _ _ _ _ _ h) vm_X8_setHook wq127 rfl rfl ⟨Nat.le_of_ble_eq_true rfl, Nat.le_of_ble_eq_true rfl⟩ rfl rfl (fun _ h => CW.md h) (Nat.le_of_ble_eq_true rfl) ⟨Nat.le_refl _, Nat.le_refl _⟩ dX8_doPin_45 (fun _ w17 hF => ?_)
    refine x_goto (pc := 48) C 70 dX8_doPin_48 rfl ?_
    refine x_iload (pc := 70) C 0 dX8_doPin_70 rfl ?_
    refine x_if_eq (pc := 72) C 79 dX8_doPin_72 rfl (cst_f (c9 := (1 : Int32) = 0) (by decide) hF) (fun c18 _ => absurd c18 (by decide)) (fun c18 hF => ?_)
    refine x_iconst (pc := 75) C 1 dX8_doPin_75 ki_1 ?_
    refine x_goto (pc := 76) C 80 dX8_doPin_76 rfl ?_
    obtain ⟨rfl, rfl⟩ := ret_eq hF
    exact x_iret (pc := 80) C hr rfl (fun _ h => h) dX8_doPin_80
set_option maxRecDepth 4000 in
theorem s_X8_doRake_4 (C : xC p m c s args meth G b cX8_doRake 4 RX8)    : ∀ (n9 : Nat) (l1 : Int32) (l2 : Int32) (l3 : Int32) (w : xWt) (o : (Int32 × Int32)) (w' : xWt), L_X8_doRake_4  n9 l1 l2 l3 w = some (o, w') → xW p l e (xR 4) s m args below meth c Q b 4 (CW G b w') 0 0 54 [(0, .ref (mdb b)), (1, .int (l1)), (2, .int (o.1)), (3, .int (o.2))] [] → xW p l e (xR 4) s m args below meth c Q b 4 (CW G b w) 0 0 4 [(0, .ref (mdb b)), (1, .int (l1)), (2, .int (l2)), (3, .int (l3))] [] := by
  intro n9
  induction n9 with
  | zero => intro l1 l2 l3 w o w' hF; exact none_ne (show none = some _ from hF)
  | succ n9 ih =>
    intro l1 l2 l3 w o w' hF kx
    replace hF : B_X8_doRake_4  (L_X8_doRake_4  n9) l1 l2 l3 w = some (o, w') := hF
    unfold B_X8_doRake_4 at hF
    refine x_iload_n (pc := 4) C 3 dX8_doRake_4 rfl rfl ?_
    refine x_aload_n (pc := 5) C 0 dX8_doRake_5 rfl rfl ?_
    refine gf_X8_7 (pc := 6) C  dX8_doRake_6 ?_
    refine x_iconst (pc := 9) C 1 dX8_doRake_9 ki_1 ?_
    refine w_ald (pc := 10) C (vA_m 0 (by decide)) hF dX8_doRake_10 (fun x1 hF => ?_)
    refine x_icmp_ge (pc := 11) C 54 dX8_doRake_11 rfl hF (fun c10 hF => ?_) (fun c10 hF => ?_)
    · obtain ⟨rfl, rfl⟩ := ret_eq hF
      exact x_sub [0, 1, 2, 3] rfl kx
    · refine x_aload_n (pc := 14) C 0 dX8_doRake_14 rfl rfl ?_
      refine x_iload_n (pc := 15) C 3 dX8_doRake_15 rfl rfl ?_
      refine x_iload_n (pc := 16) C 1 dX8_doRake_16 rfl rfl ?_
      refine cV1_2 (pc := 17) (val := Value.int) C hF (fun _ _ h => c_X8_isOnHeap l G b  _ _ h) vm_X8_isOnHeap wq314 rfl rfl ⟨Nat.le_of_ble_eq_true rfl, Nat.le_of_ble_eq_true rfl⟩ rfl rfl (fun _ h => CW.md h) (Nat.le_of_ble_eq_true rfl) ⟨Nat.le_refl _, Nat.le_refl _⟩ dX8_doRake_17 (fun x3 w2 hF => ?_)
      refine x_if_eq (pc := 20) C 48 dX8_doRake_20 rfl hF (fun c9 hF => ?_) (fun c9 hF => ?_)
      · refine x_iinc (pc := 48) C 3 [(3, .int ((l3 + 1))), (0, .ref (mdb b)), (1, .int (l1)), (2, .int (l2))] dX8_doRake_48 rfl rfl (by decide) rfl ?_
        refine x_goto (pc := 51) C 4 dX8_doRake_51 rfl ?_
        exact x_sub [1, 2, 3, 0] rfl (ih _ _ _ _ _ _ hF kx)
      · refine x_aload_n (pc := 23) C 0 dX8_doRake_23 rfl rfl ?_
        refine x_iload_n (pc := 24) C 3 dX8_doRake_24 rfl rfl ?_
        refine x_aload_n (pc := 25) C 0 dX8_doRake_25 rfl rfl ?_
        refine gf_X8_7 (pc := 26) C  dX8_doRake_26 ?_
        refine x_bipush (pc := 29) C 9 dX8_doRake_29 kb_9 ?_
        refine w_ald (pc := 31) C (vA_m 0 (by decide)) hF dX8_doRake_31 (fun x4 hF => ?_)
        refine cV1_2 (pc := 32) (val := Value.int) C hF (fun _ _ h => c_X8_mayBurn l G b  _ _ h) vm_X8_mayBurn wq682 rfl rfl ⟨Nat.le_of_ble_eq_true rfl, Nat.le_of_ble_eq_true rfl⟩ rfl rfl (fun _ h => CW.md h) (Nat.le_of_ble_eq_true rfl) ⟨Nat.le_refl _, Nat.le_refl _⟩ dX8_doRake_32 (fun x6 w5 hF => ?_)
        refine x_if_eq (pc := 35) C 48 dX8_doRake_35 rfl hF (fun c8 hF => ?_) (fun c8 hF => ?_)
        · refine x_iinc (pc := 48) C 3 [(3, .int ((l3 + 1))), (0, .ref (mdb b)), (1, .int (l1)), (2, .int (l2))] dX8_doRake_48 rfl rfl (by decide) rfl ?_
          refine x_goto (pc := 51) C 4 dX8_doRake_51 rfl ?_
          exact x_sub [1, 2, 3, 0] rfl (ih _ _ _ _ _ _ hF kx)
        · refine x_aload_n (pc := 38) C 0 dX8_doRake_38 rfl rfl ?_
          refine x_iload_n (pc := 39) C 3 dX8_doRake_39 rfl rfl ?_
          refine x_iconst (pc := 40) C 1 dX8_doRake_40 ki_1 ?_
          refine x_iconst (pc := 41) C 2 dX8_doRake_41 ki_2 ?_
          refine cV0_3 (pc := 42) C hF (fun _ _ h => c_X8_setLeaf l G b  _ _ _ h) vm_X8_setLeaf wq326 rfl rfl ⟨Nat.le_of_ble_eq_true rfl, Nat.le_of_ble_eq_true rfl⟩ rfl rfl (fun _ h => CW.md h) (Nat.le_of_ble_eq_true rfl) ⟨Nat.le_refl _, Nat.le_refl _⟩ dX8_doRake_42 (fun _ w7 hF => ?_)
          refine x_iinc (pc := 45) C 2 [(2, .int ((l2 + 1))), (0, .ref (mdb b)), (1, .int (l1)), (3, .int (l3))] dX8_doRake_45 rfl rfl (by decide) rfl ?_
          refine x_iinc (pc := 48) C 3 [(3, .int ((l3 + 1))), (2, .int ((l2 + 1))), (0, .ref (mdb b)), (1, .int (l1))] dX8_doRake_48 rfl rfl (by decide) rfl ?_
          refine x_goto (pc := 51) C 4 dX8_doRake_51 rfl ?_
          exact x_sub [2, 3, 1, 0] rfl (ih _ _ _ _ _ _ hF kx)
set_option maxRecDepth 4000 in
theorem c_X8_doRake (l : Launch) (G : xG) (b : Nat)     (a1 : Int32) {w w' : xWt} {v : Int32} (hF : F_X8_doRake a1 w = some (v, w')) : xMet l G b yX8_doRake cX8_doRake 4 (some .int) (xR 4) [.ref (mdb b), .int (a1)] (CW G b w) (some (.int v)) (CW G b w') 0 0 := by
  refine x_of (own := RX8) rfl (plainFor_of_name pn_X8) (Nat.le_of_ble_eq_true rfl) ?_
  intro p e s m args below meth c ha C hr _
  unfold F_X8_doRake at hF
  refine x_iconst (pc := 0) C 0 dX8_doRake_0 ki_0 ?_
  refine x_istore_n (pc := 1) C [(2, .int (0)), (0, .ref (mdb b)), (1, .int (a1))] dX8_doRake_1 rfl (by decide) rfl ?_
  refine x_iconst (pc := 2) C 0 dX8_doRake_2 ki_0 ?_
  refine x_istore_n (pc := 3) C [(3, .int (0)), (2, .int (0)), (0, .ref (mdb b)), (1, .int (a1))] dX8_doRake_3 rfl (by decide) rfl ?_
  obtain ⟨o11, w12, hL, hF⟩ := bd_some hF
  refine x_sub [2, 3, 1, 0] rfl (s_X8_doRake_4 C  _ _ _ _ _ _ _ hL ?_)
  refine x_aload_n (pc := 54) C 0 dX8_doRake_54 rfl rfl ?_
  refine gf_X8_7 (pc := 55) C  dX8_doRake_55 ?_
  refine x_iconst (pc := 58) C 2 dX8_doRake_58 ki_2 ?_
  refine x_dup2 (pc := 59) C dX8_doRake_59 rfl rfl ?_
  refine w_ald (pc := 60) C (vA_m 0 (by decide)) hF dX8_doRake_60 (fun x13 hF => ?_)
  refine x_iconst (pc := 61) C 1 dX8_doRake_61 ki_1 ?_
  refine x_iadd (pc := 62) C dX8_doRake_62 ?_
  refine w_ast (pc := 63) C (vA_m 0 (by decide)) hF dX8_doRake_63 (fun w14 hF => ?_)
  refine x_aload_n (pc := 64) C 0 dX8_doRake_64 rfl rfl ?_
  refine gf_X8_7 (pc := 65) C  dX8_doRake_65 ?_
  refine x_iconst (pc := 68) C 3 dX8_doRake_68 ki_3 ?_
  refine x_dup2 (pc := 69) C dX8_doRake_69 rfl rfl ?_
  refine w_ald (pc := 70) C (vA_m 0 (by decide)) hF dX8_doRake_70 (fun x15 hF => ?_)
  refine x_aload_n (pc := 71) C 0 dX8_doRake_71 rfl rfl ?_
  refine gf_X8_7 (pc := 72) C  dX8_doRake_72 ?_
  refine x_bipush (pc := 75) C 9 dX8_doRake_75 kb_9 ?_
  refine w_ald (pc := 77) C (vA_m 0 (by decide)) hF dX8_doRake_77 (fun x16 hF => ?_)
  refine x_if_ne (pc := 78) C 90 dX8_doRake_78 rfl hF (fun c33 hF => ?_) (fun c33 hF => ?_)
  · refine x_iconst (pc := 90) C 0 dX8_doRake_90 ki_0 ?_
    refine x_iadd (pc := 91) C dX8_doRake_91 ?_
    refine w_ast (pc := 92) C (vA_m 0 (by decide)) hF dX8_doRake_92 (fun w17 hF => ?_)
    refine x_aload_n (pc := 93) C 0 dX8_doRake_93 rfl rfl ?_
    refine x_iload_n (pc := 94) C 1 dX8_doRake_94 rfl rfl ?_
    refine x_iconst (pc := 95) C 5 dX8_doRake_95 ki_5 ?_
    refine x_aload_n (pc := 96) C 0 dX8_doRake_96 rfl rfl ?_
    refine x_iload_n (pc := 97) C 1 dX8_doRake_97 rfl rfl ?_
    refine x_iconst (pc := 98) C 5 dX8_doRake_98 ki_5 ?_
    refine cV1_2 (pc := 99) (val := Value.int) C hF (fun _ _ h => c_X8_ofChild l G b  _ _ h) vm_X8_ofChild wq221 rfl rfl ⟨Nat.le_of_ble_eq_true rfl, Nat.le_of_ble_eq_true rfl⟩ rfl rfl (fun _ h => CW.md h) (Nat.le_of_ble_eq_true rfl) ⟨Nat.le_refl _, Nat.le_refl _⟩ dX8_doRake_99 (fun x19 w18 hF => ?_)
    refine x_iconst (pc := 102) C 1 dX8_doRake_102 ki_1 ?_
    refine x_iadd (pc := 103) C dX8_doRake_103 ?_
    refine cV0_3 (pc := 104) C hF (fun _ _ h => c_X8_setChild l G b  _ _ _ h) vm_X8_setChild wq119 rfl rfl ⟨Nat.le_of_ble_eq_true rfl, Nat.le_of_ble_eq_true rfl⟩ rfl rfl (fun _ h => CW.md h) (Nat.le_of_ble_eq_true rfl) ⟨Nat.le_refl _, Nat.le_refl _⟩ dX8_doRake_104 (fun _ w20 hF => ?_)
    refine x_aload_n (pc := 107) C 0 dX8_doRake_107 rfl rfl ?_
    refine x_iload_n (pc := 108) C 1 dX8_doRake_108 rfl rfl ?_
    refine x_iconst (pc := 109) C 4 dX8_doRake_109 ki_4 ?_
    refine x_aload_n (pc := 110) C 0 dX8_doRake_110 rfl rfl ?_
    refine x_iload_n (pc := 111) C 1 dX8_doRake_111 rfl rfl ?_
    refine x_iconst (pc := 112) C 4 dX8_doRake_112 ki_4 ?_
    refine cV1_2 (pc := 113) (val := Value.int) C hF (fun _ _ h => c_X8_ofChild l G b  _ _ h) vm_X8_ofChild wq221 rfl rfl ⟨Nat.le_of_ble_eq_true rfl, Nat.le_of_ble_eq_true rfl⟩ rfl rfl (fun _ h => CW.md h) (Nat.le_of_ble_eq_true rfl) ⟨Nat.le_refl _, Nat.le_refl _⟩ dX8_doRake_113 (fun x22 w21 hF => ?_)
    refine x_iload_n (pc := 116) C 2 dX8_doRake_116 rfl rfl ?_
    refine x_iadd (pc := 117) C dX8_doRake_117 ?_
    refine cV0_3 (pc := 118) C hF (fun _ _ h => c_X8_setChild l G b  _ _ _ h) vm_X8_setChild wq119 rfl rfl ⟨Nat.le_of_ble_eq_true rfl, Nat.le_of_ble_eq_true rfl⟩ rfl rfl (fun _ h => CW.md h) (Nat.le_of_ble_eq_true rfl) ⟨Nat.le_refl _, Nat.le_refl _⟩ dX8_doRake_118 (fun _ w23 hF => ?_)
    refine x_iload_n (pc := 121) C 2 dX8_doRake_121 rfl rfl ?_
    obtain ⟨rfl, rfl⟩ := ret_eq hF
    exact x_iret (pc := 122) C hr rfl (fun _ h => h) dX8_doRake_122
  · refine x_iconst (pc := 81) C 3 dX8_doRake_81 ki_3 ?_
    refine x_aload_n (pc := 82) C 0 dX8_doRake_82 rfl rfl ?_
    refine cV1_0 (pc := 83) (val := Value.int) C hF (fun _ _ h => c_X8_children l G b  h) vm_X8_children wq217 rfl rfl ⟨Nat.le_of_ble_eq_true rfl, Nat.le_of_ble_eq_true rfl⟩ rfl rfl (fun _ h => CW.md h) (Nat.le_of_ble_eq_true rfl) ⟨Nat.le_refl _, Nat.le_refl _⟩ dX8_doRake_83 (fun x25 w24 hF => ?_)
    refine x_imul (pc := 86) C dX8_doRake_86 ?_
    refine x_goto (pc := 87) C 91 dX8_doRake_87 rfl ?_
    refine x_iadd (pc := 91) C dX8_doRake_91 ?_
    refine w_ast (pc := 92) C (vA_m 0 (by decide)) hF dX8_doRake_92 (fun w26 hF => ?_)
    refine x_aload_n (pc := 93) C 0 dX8_doRake_93 rfl rfl ?_
    refine x_iload_n (pc := 94) C 1 dX8_doRake_94 rfl rfl ?_
    refine x_iconst (pc := 95) C 5 dX8_doRake_95 ki_5 ?_
    refine x_aload_n (pc := 96) C 0 dX8_doRake_96 rfl rfl ?_
    refine x_iload_n (pc := 97) C 1 dX8_doRake_97 rfl rfl ?_
    refine x_iconst (pc := 98) C 5 dX8_doRake_98 ki_5 ?_
    refine cV1_2 (pc := 99) (val := Value.int) C hF (fun _ _ h => c_X8_ofChild l G b  _ _ h) vm_X8_ofChild wq221 rfl rfl ⟨Nat.le_of_ble_eq_true rfl, Nat.le_of_ble_eq_true rfl⟩ rfl rfl (fun _ h => CW.md h) (Nat.le_of_ble_eq_true rfl) ⟨Nat.le_refl _, Nat.le_refl _⟩ dX8_doRake_99 (fun x28 w27 hF => ?_)
    refine x_iconst (pc := 102) C 1 dX8_doRake_102 ki_1 ?_
    refine x_iadd (pc := 103) C dX8_doRake_103 ?_
    refine cV0_3 (pc := 104) C hF (fun _ _ h => c_X8_setChild l G b  _ _ _ h) vm_X8_setChild wq119 rfl rfl ⟨Nat.le_of_ble_eq_true rfl, Nat.le_of_ble_eq_true rfl⟩ rfl rfl (fun _ h => CW.md h) (Nat.le_of_ble_eq_true rfl) ⟨Nat.le_refl _, Nat.le_refl _⟩ dX8_doRake_104 (fun _ w29 hF => ?_)
    refine x_aload_n (pc := 107) C 0 dX8_doRake_107 rfl rfl ?_
    refine x_iload_n (pc := 108) C 1 dX8_doRake_108 rfl rfl ?_
    refine x_iconst (pc := 109) C 4 dX8_doRake_109 ki_4 ?_
    refine x_aload_n (pc := 110) C 0 dX8_doRake_110 rfl rfl ?_
    refine x_iload_n (pc := 111) C 1 dX8_doRake_111 rfl rfl ?_
    refine x_iconst (pc := 112) C 4 dX8_doRake_112 ki_4 ?_
    refine cV1_2 (pc := 113) (val := Value.int) C hF (fun _ _ h => c_X8_ofChild l G b  _ _ h) vm_X8_ofChild wq221 rfl rfl ⟨Nat.le_of_ble_eq_true rfl, Nat.le_of_ble_eq_true rfl⟩ rfl rfl (fun _ h => CW.md h) (Nat.le_of_ble_eq_true rfl) ⟨Nat.le_refl _, Nat.le_refl _⟩ dX8_doRake_113 (fun x31 w30 hF => ?_)
    refine x_iload_n (pc := 116) C 2 dX8_doRake_116 rfl rfl ?_
    refine x_iadd (pc := 117) C dX8_doRake_117 ?_
    refine cV0_3 (pc := 118) C hF (fun _ _ h => c_X8_setChild l G b  _ _ _ h) vm_X8_setChild wq119 rfl rfl ⟨Nat.le_of_ble_eq_true rfl, Nat.le_of_ble_eq_true rfl⟩ rfl rfl (fun _ h => CW.md h) (Nat.le_of_ble_eq_true rfl) ⟨Nat.le_refl _, Nat.le_refl _⟩ dX8_doRake_118 (fun _ w32 hF => ?_)
    refine x_iload_n (pc := 121) C 2 dX8_doRake_121 rfl rfl ?_
    obtain ⟨rfl, rfl⟩ := ret_eq hF
    exact x_iret (pc := 122) C hr rfl (fun _ h => h) dX8_doRake_122
set_option maxRecDepth 4000 in
theorem c_X8_doRest (l : Launch) (G : xG) (b : Nat)     (a1 : Int32) {w w' : xWt} {v : Int32} (hF : F_X8_doRest a1 w = some (v, w')) : xMet l G b yX8_doRest cX8_doRest 3 (some .int) (xR 3) [.ref (mdb b), .int (a1)] (CW G b w) (some (.int v)) (CW G b w') 0 0 := by
  refine x_of (own := RX8) rfl (plainFor_of_name pn_X8) (Nat.le_of_ble_eq_true rfl) ?_
  intro p e s m args below meth c ha C hr _
  unfold F_X8_doRest at hF
  refine x_aload_n (pc := 0) C 0 dX8_doRest_0 rfl rfl ?_
  refine x_iload_n (pc := 1) C 1 dX8_doRest_1 rfl rfl ?_
  refine x_iconst (pc := 2) C 2 dX8_doRest_2 ki_2 ?_
  refine cV1_2 (pc := 3) (val := Value.int) C hF (fun _ _ h => c_X8_hooksOf l G b  _ _ h) vm_X8_hooksOf wq399 rfl rfl ⟨Nat.le_of_ble_eq_true rfl, Nat.le_of_ble_eq_true rfl⟩ rfl rfl (fun _ h => CW.md h) (Nat.le_of_ble_eq_true rfl) ⟨Nat.le_refl _, Nat.le_refl _⟩ dX8_doRest_3 (fun x2 w1 hF => ?_)
  refine x_istore_n (pc := 6) C [(2, .int (x2)), (0, .ref (mdb b)), (1, .int (a1))] dX8_doRest_6 rfl (by decide) rfl ?_
  refine x_aload_n (pc := 7) C 1 dX8_doRest_7 rfl rfl ?_
  refine x_iload_n (pc := 8) C 2 dX8_doRest_8 rfl rfl ?_
  refine x_iconst (pc := 9) C 1 dX8_doRest_9 ki_1 ?_
  refine x_iconst (pc := 10) C 0 dX8_doRest_10 ki_0 ?_
  refine cV0_3 (pc := 11) C hF (fun _ _ h => c_X8_setChild l G b  _ _ _ h) vm_X8_setChild wq119 rfl rfl ⟨Nat.le_of_ble_eq_true rfl, Nat.le_of_ble_eq_true rfl⟩ rfl rfl (fun _ h => CW.md h) (Nat.le_of_ble_eq_true rfl) ⟨Nat.le_refl _, Nat.le_refl _⟩ dX8_doRest_11 (fun _ w3 hF => ?_)
  refine x_aload_n (pc := 14) C 1 dX8_doRest_14 rfl rfl ?_
  refine x_iload_n (pc := 15) C 2 dX8_doRest_15 rfl rfl ?_
  refine x_iconst (pc := 16) C 2 dX8_doRest_16 ki_2 ?_
  refine x_iconst (pc := 17) C (-1) dX8_doRest_17 ki_m1 ?_
  refine cV0_3 (pc := 18) C hF (fun _ _ h => c_X8_setChild l G b  _ _ _ h) vm_X8_setChild wq119 rfl rfl ⟨Nat.le_of_ble_eq_true rfl, Nat.le_of_ble_eq_true rfl⟩ rfl rfl (fun _ h => CW.md h) (Nat.le_of_ble_eq_true rfl) ⟨Nat.le_refl _, Nat.le_refl _⟩ dX8_doRest_18 (fun _ w4 hF => ?_)
  refine x_aload_n (pc := 21) C 1 dX8_doRest_21 rfl rfl ?_
  refine x_iload_n (pc := 22) C 2 dX8_doRest_22 rfl rfl ?_
  refine cV0_1 (pc := 23) C hF (fun _ _ h => c_X8_emptyHooks l G b  _ h) vm_X8_emptyHooks wq123 rfl rfl ⟨Nat.le_of_ble_eq_true rfl, Nat.le_of_ble_eq_true rfl⟩ rfl rfl (fun _ h => CW.md h) (Nat.le_of_ble_eq_true rfl) ⟨Nat.le_refl _, Nat.le_refl _⟩ dX8_doRest_23 (fun _ w5 hF => ?_)
  refine x_iload_n (pc := 26) C 0 dX8_doRest_26 rfl rfl ?_
  obtain ⟨rfl, rfl⟩ := ret_eq hF
  exact x_iret (pc := 27) C hr rfl (fun _ h => h) dX8_doRest_27
set_option maxRecDepth 4000 in
theorem c_X8_doRing (l : Launch) (G : xG) (b : Nat)      {w w' : xWt} {v : Int32} (hF : F_X8_doRing  w = some (v, w')) : xMet l G b yX8_doRing cX8_doRing 1 (some .int) (xR 0) [.ref (mdb b)] (CW G b w) (some (.int v)) (CW G b w') 0 0 := by
  refine x_of (own := RX8) rfl (plainFor_of_name pn_X8) (Nat.le_of_ble_eq_true rfl) ?_
  intro p e s m args below meth c ha C hr _
  unfold F_X8_doRing at hF
  refine x_aload_n (pc := 0) C 0 dX8_doRing_0 rfl rfl ?_
  refine gf_X8_7 (pc := 1) C  dX8_doRing_1 ?_
  refine x_iconst (pc := 4) C 0 dX8_doRing_4 ki_0 ?_
  refine x_dup2 (pc := 5) C dX8_doRing_5 rfl rfl ?_
  refine w_ald (pc := 6) C (vA_m 0 (by decide)) hF dX8_doRing_6 (fun x1 hF => ?_)
  refine x_iconst (pc := 7) C 1 dX8_doRing_7 ki_1 ?_
  refine x_iadd (pc := 8) C dX8_doRing_8 ?_
  refine w_ast (pc := 9) C (vA_m 0 (by decide)) hF dX8_doRing_9 (fun w2 hF => ?_)
  refine x_aload_n (pc := 10) C 0 dX8_doRing_10 rfl rfl ?_
  refine gf_X8_7 (pc := 11) C  dX8_doRing_11 ?_
  refine x_iconst (pc := 14) C 0 dX8_doRing_14 ki_0 ?_
  refine w_ald (pc := 15) C (vA_m 0 (by decide)) hF dX8_doRing_15 (fun x3 hF => ?_)
  obtain ⟨rfl, rfl⟩ := ret_eq hF
  exact x_iret (pc := 16) C hr rfl (fun _ h => h) dX8_doRing_16
set_option maxRecDepth 4000 in
theorem c_X8_putOnHeap (l : Launch) (G : xG) (b : Nat)     (a1 : Int32) (a2 : Int32) {w w' : xWt}  (hF : F_X8_putOnHeap a1 a2 w = some ((), w')) : xMet l G b yX8_putOnHeap cX8_putOnHeap 3 none (xR 1) [.ref (mdb b), .int (a1), .int (a2)] (CW G b w) none (CW G b w') 0 0 := by
  refine x_of (own := RX8) rfl (plainFor_of_name pn_X8) (Nat.le_of_ble_eq_true rfl) ?_
  intro p e s m args below meth c ha C hr _
  unfold F_X8_putOnHeap at hF
  refine x_aload_n (pc := 0) C 0 dX8_putOnHeap_0 rfl rfl ?_
  refine x_iload_n (pc := 1) C 1 dX8_putOnHeap_1 rfl rfl ?_
  refine x_iconst (pc := 2) C 1 dX8_putOnHeap_2 ki_1 ?_
  refine x_iconst (pc := 3) C 1 dX8_putOnHeap_3 ki_1 ?_
  refine cV0_3 (pc := 4) C hF (fun _ _ h => c_X8_setLeaf l G b  _ _ _ h) vm_X8_setLeaf wq326 rfl rfl ⟨Nat.le_of_ble_eq_true rfl, Nat.le_of_ble_eq_true rfl⟩ rfl rfl (fun _ h => CW.md h) (Nat.le_of_ble_eq_true rfl) ⟨Nat.le_refl _, Nat.le_refl _⟩ dX8_putOnHeap_4 (fun _ w1 hF => ?_)
  refine x_aload_n (pc := 7) C 0 dX8_putOnHeap_7 rfl rfl ?_
  refine x_iload_n (pc := 8) C 1 dX8_putOnHeap_8 rfl rfl ?_
  refine x_iconst (pc := 9) C 4 dX8_putOnHeap_9 ki_4 ?_
  refine x_iload_n (pc := 10) C 2 dX8_putOnHeap_10 rfl rfl ?_
  refine cV0_3 (pc := 11) C hF (fun _ _ h => c_X8_setLeaf l G b  _ _ _ h) vm_X8_setLeaf wq326 rfl rfl ⟨Nat.le_of_ble_eq_true rfl, Nat.le_of_ble_eq_true rfl⟩ rfl rfl (fun _ h => CW.md h) (Nat.le_of_ble_eq_true rfl) ⟨Nat.le_refl _, Nat.le_refl _⟩ dX8_putOnHeap_11 (fun _ w2 hF => ?_)
  refine x_aload_n (pc := 14) C 0 dX8_putOnHeap_14 rfl rfl ?_
  refine x_iload_n (pc := 15) C 1 dX8_putOnHeap_15 rfl rfl ?_
  refine x_iconst (pc := 16) C 5 dX8_putOnHeap_16 ki_5 ?_
  refine x_aload_n (pc := 17) C 0 dX8_putOnHeap_17 rfl rfl ?_
  refine gf_X8_7 (pc := 18) C  dX8_putOnHeap_18 ?_
  refine x_bipush (pc := 21) C 7 dX8_putOnHeap_21 kb_7 ?_
  refine w_ald (pc := 23) C (vA_m 0 (by decide)) hF dX8_putOnHeap_23 (fun x3 hF => ?_)
  refine cV0_3 (pc := 24) C hF (fun _ _ h => c_X8_setLeaf l G b  _ _ _ h) vm_X8_setLeaf wq326 rfl rfl ⟨Nat.le_of_ble_eq_true rfl, Nat.le_of_ble_eq_true rfl⟩ rfl rfl (fun _ h => CW.md h) (Nat.le_of_ble_eq_true rfl) ⟨Nat.le_refl _, Nat.le_refl _⟩ dX8_putOnHeap_24 (fun _ w4 hF => ?_)
  refine x_aload_n (pc := 27) C 0 dX8_putOnHeap_27 rfl rfl ?_
  refine gf_X8_7 (pc := 28) C  dX8_putOnHeap_28 ?_
  refine x_bipush (pc := 31) C 7 dX8_putOnHeap_31 kb_7 ?_
  refine x_dup2 (pc := 33) C dX8_putOnHeap_33 rfl rfl ?_
  refine w_ald (pc := 34) C (vA_m 0 (by decide)) hF dX8_putOnHeap_34 (fun x5 hF => ?_)
  refine x_iconst (pc := 35) C 1 dX8_putOnHeap_35 ki_1 ?_
  refine x_iadd (pc := 36) C dX8_putOnHeap_36 ?_
  refine w_ast (pc := 37) C (vA_m 0 (by decide)) hF dX8_putOnHeap_37 (fun w6 hF => ?_)
  obtain ⟨-, rfl⟩ := ret_eq hF
  exact x_vret (pc := 38) C hr (fun _ h => h) dX8_putOnHeap_38
set_option maxRecDepth 4000 in
theorem c_X8_doTake (l : Launch) (G : xG) (b : Nat)     (a1 : Int32) (a2 : Int32) {w w' : xWt} {v : Int32} (hF : F_X8_doTake a1 a2 w = some (v, w')) : xMet l G b yX8_doTake cX8_doTake 6 (some .int) (xR 5) [.ref (mdb b), .int (a1), .int (a2)] (CW G b w) (some (.int v)) (CW G b w') 0 0 := by
  refine x_of (own := RX8) rfl (plainFor_of_name pn_X8) (Nat.le_of_ble_eq_true rfl) ?_
  intro p e s m args below meth c ha C hr _
  unfold F_X8_doTake at hF
  refine x_aload_n (pc := 0) C 0 dX8_doTake_0 rfl rfl ?_
  refine gf_X8_7 (pc := 1) C  dX8_doTake_1 ?_
  refine x_bipush (pc := 4) C 10 dX8_doTake_4 kb_10 ?_
  refine x_iload_n (pc := 6) C 2 dX8_doTake_6 rfl rfl ?_
  refine x_iadd (pc := 7) C dX8_doTake_7 ?_
  refine w_ald (pc := 8) C (vA_m 0 (by decide)) hF dX8_doTake_8 (fun x1 hF => ?_)
  refine x_istore_n (pc := 9) C [(3, .int (x1)), (0, .ref (mdb b)), (1, .int (a1)), (2, .int (a2))] dX8_doTake_9 rfl (by decide) rfl ?_
  refine x_aload_n (pc := 10) C 1 dX8_doTake_10 rfl rfl ?_
  refine gf_X8_7 (pc := 11) C  dX8_doTake_11 ?_
  refine x_bipush (pc := 14) C 10 dX8_doTake_14 kb_10 ?_
  refine x_iload_n (pc := 16) C 3 dX8_doTake_16 rfl rfl ?_
  refine x_iadd (pc := 17) C dX8_doTake_17 ?_
  refine x_iconst (pc := 18) C (-1) dX8_doTake_18 ki_m1 ?_
  refine w_ast (pc := 19) C (vA_m 0 (by decide)) hF dX8_doTake_19 (fun w2 hF => ?_)
  refine x_aload_n (pc := 20) C 1 dX8_doTake_20 rfl rfl ?_
  refine x_iload_n (pc := 21) C 0 dX8_doTake_21 rfl rfl ?_
  refine x_iconst (pc := 22) C 3 dX8_doTake_22 ki_3 ?_
  refine x_aload_n (pc := 23) C 1 dX8_doTake_23 rfl rfl ?_
  refine gf_X8_7 (pc := 24) C  dX8_doTake_24 ?_
  refine x_iconst (pc := 27) C 0 dX8_doTake_27 ki_0 ?_
  refine w_ald (pc := 28) C (vA_m 0 (by decide)) hF dX8_doTake_28 (fun x3 hF => ?_)
  refine cV0_3 (pc := 29) C hF (fun _ _ h => c_X8_setLeaf l G b  _ _ _ h) vm_X8_setLeaf wq326 rfl rfl ⟨Nat.le_of_ble_eq_true rfl, Nat.le_of_ble_eq_true rfl⟩ rfl rfl (fun _ h => CW.md h) (Nat.le_of_ble_eq_true rfl) ⟨Nat.le_refl _, Nat.le_refl _⟩ dX8_doTake_29 (fun _ w4 hF => ?_)
  refine x_aload_n (pc := 32) C 1 dX8_doTake_32 rfl rfl ?_
  refine x_iload_n (pc := 33) C 0 dX8_doTake_33 rfl rfl ?_
  refine x_iload_n (pc := 34) C 2 dX8_doTake_34 rfl rfl ?_
  refine cV0_2 (pc := 35) C hF (fun _ _ h => c_X8_putOnHeap l G b  _ _ h) vm_X8_putOnHeap wq322 rfl rfl ⟨Nat.le_of_ble_eq_true rfl, Nat.le_of_ble_eq_true rfl⟩ rfl rfl (fun _ h => CW.md h) (Nat.le_of_ble_eq_true rfl) ⟨Nat.le_refl _, Nat.le_refl _⟩ dX8_doTake_35 (fun _ w5 hF => ?_)
  refine x_aload_n (pc := 38) C 1 dX8_doTake_38 rfl rfl ?_
  refine x_iload_n (pc := 39) C 2 dX8_doTake_39 rfl rfl ?_
  refine x_iconst (pc := 40) C 3 dX8_doTake_40 ki_3 ?_
  refine x_aload_n (pc := 41) C 1 dX8_doTake_41 rfl rfl ?_
  refine x_iload_n (pc := 42) C 2 dX8_doTake_42 rfl rfl ?_
  refine x_iconst (pc := 43) C 3 dX8_doTake_43 ki_3 ?_
  refine cV1_2 (pc := 44) (val := Value.int) C hF (fun _ _ h => c_X8_ofChild l G b  _ _ h) vm_X8_ofChild wq221 rfl rfl ⟨Nat.le_of_ble_eq_true rfl, Nat.le_of_ble_eq_true rfl⟩ rfl rfl (fun _ h => CW.md h) (Nat.le_of_ble_eq_true rfl) ⟨Nat.le_refl _, Nat.le_refl _⟩ dX8_doTake_44 (fun x7 w6 hF => ?_)
  refine x_iconst (pc := 47) C 1 dX8_doTake_47 ki_1 ?_
  refine x_iadd (pc := 48) C dX8_doTake_48 ?_
  refine cV0_3 (pc := 49) C hF (fun _ _ h => c_X8_setChild l G b  _ _ _ h) vm_X8_setChild wq119 rfl rfl ⟨Nat.le_of_ble_eq_true rfl, Nat.le_of_ble_eq_true rfl⟩ rfl rfl (fun _ h => CW.md h) (Nat.le_of_ble_eq_true rfl) ⟨Nat.le_refl _, Nat.le_refl _⟩ dX8_doTake_49 (fun _ w8 hF => ?_)
  refine x_aload_n (pc := 52) C 1 dX8_doTake_52 rfl rfl ?_
  refine x_iload_n (pc := 53) C 2 dX8_doTake_53 rfl rfl ?_
  refine cV1_1 (pc := 54) (val := Value.int) C hF (fun _ _ h => c_X8_heapOf l G b  _ h) vm_X8_heapOf wq674 rfl rfl ⟨Nat.le_of_ble_eq_true rfl, Nat.le_of_ble_eq_true rfl⟩ rfl rfl (fun _ h => CW.md h) (Nat.le_of_ble_eq_true rfl) ⟨Nat.le_refl _, Nat.le_refl _⟩ dX8_doTake_54 (fun x10 w9 hF => ?_)
  refine x_aload_n (pc := 57) C 1 dX8_doTake_57 rfl rfl ?_
  refine gf_X8_7 (pc := 58) C  dX8_doTake_58 ?_
  refine x_bipush (pc := 61) C 8 dX8_doTake_61 kb_8 ?_
  refine w_ald (pc := 63) C (vA_m 0 (by decide)) hF dX8_doTake_63 (fun x11 hF => ?_)
  refine x_icmp_lt (pc := 64) C 75 dX8_doTake_64 rfl hF (fun c28 hF => ?_) (fun c28 hF => ?_)
  · refine x_iconst (pc := 75) C 0 dX8_doTake_75 ki_0 ?_
    refine x_istore (pc := 76) C [(4, .int (0)), (3, .int (x1)), (0, .ref (mdb b)), (1, .int (a1)), (2, .int (a2))] dX8_doTake_76 (by decide) rfl ?_
    refine x_aload_n (pc := 78) C 2 dX8_doTake_78 rfl rfl ?_
    refine x_iconst (pc := 79) C 1 dX8_doTake_79 ki_1 ?_
    refine cV1_1 (pc := 80) (val := Value.int) C hF (fun _ _ h => c_X8_leavesAt l G b  _ h) vm_X8_leavesAt wq690 rfl rfl ⟨Nat.le_of_ble_eq_true rfl, Nat.le_of_ble_eq_true rfl⟩ rfl rfl (fun _ h => CW.md h) (Nat.le_of_ble_eq_true rfl) ⟨Nat.le_refl _, Nat.le_refl _⟩ dX8_doTake_80 (fun x13 w12 hF => ?_)
    refine x_istore (pc := 83) C [(5, .int (x13)), (4, .int (0)), (3, .int (x1)), (0, .ref (mdb b)), (1, .int (a1)), (2, .int (a2))] dX8_doTake_83 (by decide) rfl ?_
    refine x_aload_n (pc := 85) C 3 dX8_doTake_85 rfl rfl ?_
    refine gf_X8_7 (pc := 86) C  dX8_doTake_86 ?_
    refine x_bipush (pc := 89) C 6 dX8_doTake_89 kb_6 ?_
    refine x_iload (pc := 91) C 0 dX8_doTake_91 rfl ?_
    refine x_aload_n (pc := 93) C 3 dX8_doTake_93 rfl rfl ?_
    refine gf_X8_7 (pc := 94) C  dX8_doTake_94 ?_
    refine x_bipush (pc := 97) C 6 dX8_doTake_97 kb_6 ?_
    refine w_ald (pc := 99) C (vA_m 0 (by decide)) hF dX8_doTake_99 (fun x14 hF => ?_)
    refine x_icmp_le (pc := 100) C 108 dX8_doTake_100 rfl hF (fun c18 hF => ?_) (fun c18 hF => ?_)
    · refine x_aload_n (pc := 108) C 3 dX8_doTake_108 rfl rfl ?_
      refine gf_X8_7 (pc := 109) C  dX8_doTake_109 ?_
      refine x_bipush (pc := 112) C 6 dX8_doTake_112 kb_6 ?_
      refine w_ald (pc := 114) C (vA_m 0 (by decide)) hF dX8_doTake_114 (fun x15 hF => ?_)
      refine w_ast (pc := 115) C (vA_m 0 (by decide)) hF dX8_doTake_115 (fun w16 hF => ?_)
      refine x_iload (pc := 116) C 1 dX8_doTake_116 rfl ?_
      obtain ⟨rfl, rfl⟩ := ret_eq hF
      exact x_iret (pc := 118) C hr rfl (fun _ h => h) dX8_doTake_118
    · refine x_iload (pc := 103) C 0 dX8_doTake_103 rfl ?_
      refine x_goto (pc := 105) C 115 dX8_doTake_105 rfl ?_
      refine w_ast (pc := 115) C (vA_m 0 (by decide)) hF dX8_doTake_115 (fun w17 hF => ?_)
      refine x_iload (pc := 116) C 1 dX8_doTake_116 rfl ?_
      obtain ⟨rfl, rfl⟩ := ret_eq hF
      exact x_iret (pc := 118) C hr rfl (fun _ h => h) dX8_doTake_118
  · refine x_aload_n (pc := 67) C 1 dX8_doTake_67 rfl rfl ?_
    refine x_iload_n (pc := 68) C 2 dX8_doTake_68 rfl rfl ?_
    refine cV1_1 (pc := 69) (val := Value.int) C hF (fun _ _ h => c_X8_doRake l G b  _ h) vm_X8_doRake wq678 rfl rfl ⟨Nat.le_of_ble_eq_true rfl, Nat.le_of_ble_eq_true rfl⟩ rfl rfl (fun _ h => CW.md h) (Nat.le_of_ble_eq_true rfl) ⟨Nat.le_refl _, Nat.le_refl _⟩ dX8_doTake_69 (fun x20 w19 hF => ?_)
    refine x_goto (pc := 72) C 76 dX8_doTake_72 rfl ?_
    refine x_istore (pc := 76) C [(4, .int (x20)), (3, .int (x1)), (0, .ref (mdb b)), (1, .int (a1)), (2, .int (a2))] dX8_doTake_76 (by decide) rfl ?_
    refine x_aload_n (pc := 78) C 2 dX8_doTake_78 rfl rfl ?_
    refine x_iconst (pc := 79) C 1 dX8_doTake_79 ki_1 ?_
    refine cV1_1 (pc := 80) (val := Value.int) C hF (fun _ _ h => c_X8_leavesAt l G b  _ h) vm_X8_leavesAt wq690 rfl rfl ⟨Nat.le_of_ble_eq_true rfl, Nat.le_of_ble_eq_true rfl⟩ rfl rfl (fun _ h => CW.md h) (Nat.le_of_ble_eq_true rfl) ⟨Nat.le_refl _, Nat.le_refl _⟩ dX8_doTake_80 (fun x22 w21 hF => ?_)
    refine x_istore (pc := 83) C [(5, .int (x22)), (4, .int (x20)), (3, .int (x1)), (0, .ref (mdb b)), (1, .int (a1)), (2, .int (a2))] dX8_doTake_83 (by decide) rfl ?_
    refine x_aload_n (pc := 85) C 3 dX8_doTake_85 rfl rfl ?_
    refine gf_X8_7 (pc := 86) C  dX8_doTake_86 ?_
    refine x_bipush (pc := 89) C 6 dX8_doTake_89 kb_6 ?_
    refine x_iload (pc := 91) C 0 dX8_doTake_91 rfl ?_
    refine x_aload_n (pc := 93) C 3 dX8_doTake_93 rfl rfl ?_
    refine gf_X8_7 (pc := 94) C  dX8_doTake_94 ?_
    refine x_bipush (pc := 97) C 6 dX8_doTake_97 kb_6 ?_
    refine w_ald (pc := 99) C (vA_m 0 (by decide)) hF dX8_doTake_99 (fun x23 hF => ?_)
    refine x_icmp_le (pc := 100) C 108 dX8_doTake_100 rfl hF (fun c27 hF => ?_) (fun c27 hF => ?_)
    · refine x_aload_n (pc := 108) C 3 dX8_doTake_108 rfl rfl ?_
      refine gf_X8_7 (pc := 109) C  dX8_doTake_109 ?_
      refine x_bipush (pc := 112) C 6 dX8_doTake_112 kb_6 ?_
      refine w_ald (pc := 114) C (vA_m 0 (by decide)) hF dX8_doTake_114 (fun x24 hF => ?_)
      refine w_ast (pc := 115) C (vA_m 0 (by decide)) hF dX8_doTake_115 (fun w25 hF => ?_)
      refine x_iload (pc := 116) C 1 dX8_doTake_116 rfl ?_
      obtain ⟨rfl, rfl⟩ := ret_eq hF
      exact x_iret (pc := 118) C hr rfl (fun _ h => h) dX8_doTake_118
    · refine x_iload (pc := 103) C 0 dX8_doTake_103 rfl ?_
      refine x_goto (pc := 105) C 115 dX8_doTake_105 rfl ?_
      refine w_ast (pc := 115) C (vA_m 0 (by decide)) hF dX8_doTake_115 (fun w26 hF => ?_)
      refine x_iload (pc := 116) C 1 dX8_doTake_116 rfl ?_
      obtain ⟨rfl, rfl⟩ := ret_eq hF
      exact x_iret (pc := 118) C hr rfl (fun _ h => h) dX8_doTake_118
set_option maxRecDepth 4000 in
theorem c_X8_doSwap (l : Launch) (G : xG) (b : Nat)     (a1 : Int32) (a2 : Int32) (a3 : Int32) {w w' : xWt} {v : Int32} (hF : F_X8_doSwap a1 a2 a3 w = some (v, w')) : xMet l G b yX8_doSwap cX8_doSwap 4 (some .int) (xR 6) [.ref (mdb b), .int (a1), .int (a2), .int (a3)] (CW G b w) (some (.int v)) (CW G b w') 0 0 := by
  refine x_of (own := RX8) rfl (plainFor_of_name pn_X8) (Nat.le_of_ble_eq_true rfl) ?_
  intro p e s m args below meth c ha C hr _
  unfold F_X8_doSwap at hF
  refine x_aload_n (pc := 0) C 0 dX8_doSwap_0 rfl rfl ?_
  refine x_iload_n (pc := 1) C 1 dX8_doSwap_1 rfl rfl ?_
  refine x_iload_n (pc := 2) C 2 dX8_doSwap_2 rfl rfl ?_
  refine cV1_2 (pc := 3) (val := Value.int) C hF (fun _ _ h => c_X8_doTake l G b  _ _ h) vm_X8_doTake wq670 rfl rfl ⟨Nat.le_of_ble_eq_true rfl, Nat.le_of_ble_eq_true rfl⟩ rfl rfl (fun _ h => CW.md h) (Nat.le_of_ble_eq_true rfl) ⟨Nat.le_refl _, Nat.le_refl _⟩ dX8_doSwap_3 (fun x2 w1 hF => ?_)
  refine x_pop (pc := 6) C dX8_doSwap_6 rfl ?_
  refine x_aload_n (pc := 7) C 0 dX8_doSwap_7 rfl rfl ?_
  refine x_iload_n (pc := 8) C 2 dX8_doSwap_8 rfl rfl ?_
  refine x_iload_n (pc := 9) C 3 dX8_doSwap_9 rfl rfl ?_
  refine cV1_2 (pc := 10) (val := Value.int) C hF (fun _ _ h => c_X8_doGrow l G b  _ _ h) vm_X8_doGrow wq481 rfl rfl ⟨Nat.le_of_ble_eq_true rfl, Nat.le_of_ble_eq_true rfl⟩ rfl rfl (fun _ h => CW.md h) (Nat.le_of_ble_eq_true rfl) ⟨Nat.le_refl _, Nat.le_refl _⟩ dX8_doSwap_10 (fun x4 w3 hF => ?_)
  obtain ⟨rfl, rfl⟩ := ret_eq hF
  exact x_iret (pc := 13) C hr rfl (fun _ h => h) dX8_doSwap_13
set_option maxRecDepth 4000 in
theorem c_X8_doOrder (l : Launch) (G : xG) (b : Nat)      {w w' : xWt} {v : Int32} (hF : F_X8_doOrder  w = some (v, w')) : xMet l G b yX8_doOrder cX8_doOrder 1 (some .int) (xR 7) [.ref (mdb b)] (CW G b w) (some (.int v)) (CW G b w') 0 0 := by
  refine x_of (own := RX8) rfl (plainFor_of_name pn_X8) (Nat.le_of_ble_eq_true rfl) ?_
  intro p e s m args below meth c ha C hr _
  unfold F_X8_doOrder at hF
  refine x_aload_n (pc := 0) C 0 dX8_doOrder_0 rfl rfl ?_
  refine gf_X8_182 (pc := 1) C  dX8_doOrder_1 ?_
  by_cases c3 : ((w.2.1 9 4)).toInt = 101
  · rw [if_pos c3] at hF
    refine x_tabIn (pc := 4) C 108 dX8_doOrder_4 c3 (by decide) (by decide) rfl rfl ?_
    refine x_aload_n (pc := 108) C 0 dX8_doOrder_108 rfl rfl ?_
    refine x_aload_n (pc := 109) C 0 dX8_doOrder_109 rfl rfl ?_
    refine gf_X8_22 (pc := 110) C  dX8_doOrder_110 ?_
    refine x_iconst (pc := 113) C 1 dX8_doOrder_113 ki_1 ?_
    refine w_ald (pc := 114) C (vA_m 4 (by decide)) hF dX8_doOrder_114 (fun x83 hF => ?_)
    refine cV1_1 (pc := 115) (val := Value.int) C hF (fun _ _ h => c_X8_doEnter l G b  _ h) vm_X8_doEnter wq363 rfl rfl ⟨Nat.le_of_ble_eq_true rfl, Nat.le_of_ble_eq_true rfl⟩ rfl rfl (fun _ h => CW.md h) (Nat.le_of_ble_eq_true rfl) ⟨Nat.le_refl _, Nat.le_refl _⟩ dX8_doOrder_115 (fun x85 w84 hF => ?_)
    obtain ⟨rfl, rfl⟩ := ret_eq hF
    exact x_iret (pc := 118) C hr rfl (fun _ h => h) dX8_doOrder_118
  · rw [if_neg c3] at hF
    by_cases c4 : ((w.2.1 9 4)).toInt = 102
    · rw [if_pos c4] at hF
      refine x_tabIn (pc := 4) C 255 dX8_doOrder_4 c4 (by decide) (by decide) rfl rfl ?_
      refine x_aload_n (pc := 255) C 0 dX8_doOrder_255 rfl rfl ?_
      refine cV1_0 (pc := 256) (val := Value.int) C hF (fun _ _ h => c_X8_doRing l G b  h) vm_X8_doRing wq435 rfl rfl ⟨Nat.le_of_ble_eq_true rfl, Nat.le_of_ble_eq_true rfl⟩ rfl rfl (fun _ h => CW.md h) (Nat.le_of_ble_eq_true rfl) ⟨Nat.le_refl _, Nat.le_refl _⟩ dX8_doOrder_256 (fun x82 w81 hF => ?_)
      obtain ⟨rfl, rfl⟩ := ret_eq hF
      exact x_iret (pc := 259) C hr rfl (fun _ h => h) dX8_doOrder_259
    · rw [if_neg c4] at hF
      by_cases c5 : ((w.2.1 9 4)).toInt = 103
      · rw [if_pos c5] at hF
        refine x_tabIn (pc := 4) C 238 dX8_doOrder_4 c5 (by decide) (by decide) rfl rfl ?_
        refine x_aload_n (pc := 238) C 0 dX8_doOrder_238 rfl rfl ?_
        refine x_aload_n (pc := 239) C 0 dX8_doOrder_239 rfl rfl ?_
        refine gf_X8_22 (pc := 240) C  dX8_doOrder_240 ?_
        refine x_iconst (pc := 243) C 3 dX8_doOrder_243 ki_3 ?_
        refine w_ald (pc := 244) C (vA_m 4 (by decide)) hF dX8_doOrder_244 (fun x77 hF => ?_)
        refine x_aload_n (pc := 245) C 0 dX8_doOrder_245 rfl rfl ?_
        refine gf_X8_22 (pc := 246) C  dX8_doOrder_246 ?_
        refine x_iconst (pc := 249) C 4 dX8_doOrder_249 ki_4 ?_
        refine w_ald (pc := 250) C (vA_m 4 (by decide)) hF dX8_doOrder_250 (fun x78 hF => ?_)
        refine cV1_2 (pc := 251) (val := Value.int) C hF (fun _ _ h => c_X8_doGrow l G b  _ _ h) vm_X8_doGrow wq481 rfl rfl ⟨Nat.le_of_ble_eq_true rfl, Nat.le_of_ble_eq_true rfl⟩ rfl rfl (fun _ h => CW.md h) (Nat.le_of_ble_eq_true rfl) ⟨Nat.le_refl _, Nat.le_refl _⟩ dX8_doOrder_251 (fun x80 w79 hF => ?_)
        obtain ⟨rfl, rfl⟩ := ret_eq hF
        exact x_iret (pc := 254) C hr rfl (fun _ h => h) dX8_doOrder_254
      · rw [if_neg c5] at hF
        by_cases c6 : ((w.2.1 9 4)).toInt = 104
        · rw [if_pos c6] at hF
          refine x_tabIn (pc := 4) C 255 dX8_doOrder_4 c6 (by decide) (by decide) rfl rfl ?_
          refine x_aload_n (pc := 255) C 0 dX8_doOrder_255 rfl rfl ?_
          refine cV1_0 (pc := 256) (val := Value.int) C hF (fun _ _ h => c_X8_doRing l G b  h) vm_X8_doRing wq435 rfl rfl ⟨Nat.le_of_ble_eq_true rfl, Nat.le_of_ble_eq_true rfl⟩ rfl rfl (fun _ h => CW.md h) (Nat.le_of_ble_eq_true rfl) ⟨Nat.le_refl _, Nat.le_refl _⟩ dX8_doOrder_256 (fun x76 w75 hF => ?_)
          obtain ⟨rfl, rfl⟩ := ret_eq hF
          exact x_iret (pc := 259) C hr rfl (fun _ h => h) dX8_doOrder_259
        · rw [if_neg c6] at hF
          by_cases c7 : ((w.2.1 9 4)).toInt = 105
          · rw [if_pos c7] at hF
            refine x_tabIn (pc := 4) C 255 dX8_doOrder_4 c7 (by decide) (by decide) rfl rfl ?_
            refine x_aload_n (pc := 255) C 0 dX8_doOrder_255 rfl rfl ?_
            refine cV1_0 (pc := 256) (val := Value.int) C hF (fun _ _ h => c_X8_doRing l G b  h) vm_X8_doRing wq435 rfl rfl ⟨Nat.le_of_ble_eq_true rfl, Nat.le_of_ble_eq_true rfl⟩ rfl rfl (fun _ h => CW.md h) (Nat.le_of_ble_eq_true rfl) ⟨Nat.le_refl _, Nat.le_refl _⟩ dX8_doOrder_256 (fun x74 w73 hF => ?_)
            obtain ⟨rfl, rfl⟩ := ret_eq hF
            exact x_iret (pc := 259) C hr rfl (fun _ h => h) dX8_doOrder_259
          · rw [if_neg c7] at hF
            by_cases c8 : ((w.2.1 9 4)).toInt = 106
            · rw [if_pos c8] at hF
              refine x_tabIn (pc := 4) C 255 dX8_doOrder_4 c8 (by decide) (by decide) rfl rfl ?_
              refine x_aload_n (pc := 255) C 0 dX8_doOrder_255 rfl rfl ?_
              refine cV1_0 (pc := 256) (val := Value.int) C hF (fun _ _ h => c_X8_doRing l G b  h) vm_X8_doRing wq435 rfl rfl ⟨Nat.le_of_ble_eq_true rfl, Nat.le_of_ble_eq_true rfl⟩ rfl rfl (fun _ h => CW.md h) (Nat.le_of_ble_eq_true rfl) ⟨Nat.le_refl _, Nat.le_refl _⟩ dX8_doOrder_256 (fun x72 w71 hF => ?_)
              obtain ⟨rfl, rfl⟩ := ret_eq hF
              exact x_iret (pc := 259) C hr rfl (fun _ h => h) dX8_doOrder_259
            · rw [if_neg c8] at hF
              by_cases c9 : ((w.2.1 9 4)).toInt = 107
              · rw [if_pos c9] at hF
                refine x_tabIn (pc := 4) C 130 dX8_doOrder_4 c9 (by decide) (by decide) rfl rfl ?_
                refine x_aload_n (pc := 130) C 0 dX8_doOrder_130 rfl rfl ?_
                refine x_aload_n (pc := 131) C 0 dX8_doOrder_131 rfl rfl ?_
                refine gf_X8_22 (pc := 132) C  dX8_doOrder_132 ?_
                refine x_iconst (pc := 135) C 1 dX8_doOrder_135 ki_1 ?_
                refine w_ald (pc := 136) C (vA_m 4 (by decide)) hF dX8_doOrder_136 (fun x68 hF => ?_)
                refine cV1_1 (pc := 137) (val := Value.int) C hF (fun _ _ h => c_X8_doRake l G b  _ h) vm_X8_doRake wq678 rfl rfl ⟨Nat.le_of_ble_eq_true rfl, Nat.le_of_ble_eq_true rfl⟩ rfl rfl (fun _ h => CW.md h) (Nat.le_of_ble_eq_true rfl) ⟨Nat.le_refl _, Nat.le_refl _⟩ dX8_doOrder_137 (fun x70 w69 hF => ?_)
                obtain ⟨rfl, rfl⟩ := ret_eq hF
                exact x_iret (pc := 140) C hr rfl (fun _ h => h) dX8_doOrder_140
              · rw [if_neg c9] at hF
                by_cases c10 : ((w.2.1 9 4)).toInt = 108
                · rw [if_pos c10] at hF
                  refine x_tabIn (pc := 4) C 255 dX8_doOrder_4 c10 (by decide) (by decide) rfl rfl ?_
                  refine x_aload_n (pc := 255) C 0 dX8_doOrder_255 rfl rfl ?_
                  refine cV1_0 (pc := 256) (val := Value.int) C hF (fun _ _ h => c_X8_doRing l G b  h) vm_X8_doRing wq435 rfl rfl ⟨Nat.le_of_ble_eq_true rfl, Nat.le_of_ble_eq_true rfl⟩ rfl rfl (fun _ h => CW.md h) (Nat.le_of_ble_eq_true rfl) ⟨Nat.le_refl _, Nat.le_refl _⟩ dX8_doOrder_256 (fun x67 w66 hF => ?_)
                  obtain ⟨rfl, rfl⟩ := ret_eq hF
                  exact x_iret (pc := 259) C hr rfl (fun _ h => h) dX8_doOrder_259
                · rw [if_neg c10] at hF
                  by_cases c11 : ((w.2.1 9 4)).toInt = 109
                  · rw [if_pos c11] at hF
                    refine x_tabIn (pc := 4) C 255 dX8_doOrder_4 c11 (by decide) (by decide) rfl rfl ?_
                    refine x_aload_n (pc := 255) C 0 dX8_doOrder_255 rfl rfl ?_
                    refine cV1_0 (pc := 256) (val := Value.int) C hF (fun _ _ h => c_X8_doRing l G b  h) vm_X8_doRing wq435 rfl rfl ⟨Nat.le_of_ble_eq_true rfl, Nat.le_of_ble_eq_true rfl⟩ rfl rfl (fun _ h => CW.md h) (Nat.le_of_ble_eq_true rfl) ⟨Nat.le_refl _, Nat.le_refl _⟩ dX8_doOrder_256 (fun x65 w64 hF => ?_)
                    obtain ⟨rfl, rfl⟩ := ret_eq hF
                    exact x_iret (pc := 259) C hr rfl (fun _ h => h) dX8_doOrder_259
                  · rw [if_neg c11] at hF
                    by_cases c12 : ((w.2.1 9 4)).toInt = 110
                    · rw [if_pos c12] at hF
                      refine x_tabIn (pc := 4) C 141 dX8_doOrder_4 c12 (by decide) (by decide) rfl rfl ?_
                      refine x_aload_n (pc := 141) C 0 dX8_doOrder_141 rfl rfl ?_
                      refine x_aload_n (pc := 142) C 0 dX8_doOrder_142 rfl rfl ?_
                      refine gf_X8_22 (pc := 143) C  dX8_doOrder_143 ?_
                      refine x_iconst (pc := 146) C 1 dX8_doOrder_146 ki_1 ?_
                      refine w_ald (pc := 147) C (vA_m 4 (by decide)) hF dX8_doOrder_147 (fun x59 hF => ?_)
                      refine x_aload_n (pc := 148) C 0 dX8_doOrder_148 rfl rfl ?_
                      refine gf_X8_22 (pc := 149) C  dX8_doOrder_149 ?_
                      refine x_iconst (pc := 152) C 2 dX8_doOrder_152 ki_2 ?_
                      refine w_ald (pc := 153) C (vA_m 4 (by decide)) hF dX8_doOrder_153 (fun x60 hF => ?_)
                      refine x_aload_n (pc := 154) C 0 dX8_doOrder_154 rfl rfl ?_
                      refine gf_X8_22 (pc := 155) C  dX8_doOrder_155 ?_
                      refine x_iconst (pc := 158) C 3 dX8_doOrder_158 ki_3 ?_
                      refine w_ald (pc := 159) C (vA_m 4 (by decide)) hF dX8_doOrder_159 (fun x61 hF => ?_)
                      refine cV1_3 (pc := 160) (val := Value.int) C hF (fun _ _ h => c_X8_doNote l G b  _ _ _ h) vm_X8_doNote wq524 rfl rfl ⟨Nat.le_of_ble_eq_true rfl, Nat.le_of_ble_eq_true rfl⟩ rfl rfl (fun _ h => CW.md h) (Nat.le_of_ble_eq_true rfl) ⟨Nat.le_refl _, Nat.le_refl _⟩ dX8_doOrder_160 (fun x63 w62 hF => ?_)
                      obtain ⟨rfl, rfl⟩ := ret_eq hF
                      exact x_iret (pc := 163) C hr rfl (fun _ h => h) dX8_doOrder_163
                    · rw [if_neg c12] at hF
                      by_cases c13 : ((w.2.1 9 4)).toInt = 111
                      · rw [if_pos c13] at hF
                        refine x_tabIn (pc := 4) C 255 dX8_doOrder_4 c13 (by decide) (by decide) rfl rfl ?_
                        refine x_aload_n (pc := 255) C 0 dX8_doOrder_255 rfl rfl ?_
                        refine cV1_0 (pc := 256) (val := Value.int) C hF (fun _ _ h => c_X8_doRing l G b  h) vm_X8_doRing wq435 rfl rfl ⟨Nat.le_of_ble_eq_true rfl, Nat.le_of_ble_eq_true rfl⟩ rfl rfl (fun _ h => CW.md h) (Nat.le_of_ble_eq_true rfl) ⟨Nat.le_refl _, Nat.le_refl _⟩ dX8_doOrder_256 (fun x58 w57 hF => ?_)
                        obtain ⟨rfl, rfl⟩ := ret_eq hF
                        exact x_iret (pc := 259) C hr rfl (fun _ h => h) dX8_doOrder_259
                      · rw [if_neg c13] at hF
                        by_cases c14 : ((w.2.1 9 4)).toInt = 112
                        · rw [if_pos c14] at hF
                          refine x_tabIn (pc := 4) C 164 dX8_doOrder_4 c14 (by decide) (by decide) rfl rfl ?_
                          refine x_aload_n (pc := 164) C 0 dX8_doOrder_164 rfl rfl ?_
                          refine x_aload_n (pc := 165) C 0 dX8_doOrder_165 rfl rfl ?_
                          refine gf_X8_22 (pc := 166) C  dX8_doOrder_166 ?_
                          refine x_iconst (pc := 169) C 1 dX8_doOrder_169 ki_1 ?_
                          refine w_ald (pc := 170) C (vA_m 4 (by decide)) hF dX8_doOrder_170 (fun x53 hF => ?_)
                          refine x_aload_n (pc := 171) C 0 dX8_doOrder_171 rfl rfl ?_
                          refine gf_X8_22 (pc := 172) C  dX8_doOrder_172 ?_
                          refine x_iconst (pc := 175) C 2 dX8_doOrder_175 ki_2 ?_
                          refine w_ald (pc := 176) C (vA_m 4 (by decide)) hF dX8_doOrder_176 (fun x54 hF => ?_)
                          refine cV1_2 (pc := 177) (val := Value.int) C hF (fun _ _ h => c_X8_doPin l G b  _ _ h) vm_X8_doPin wq564 rfl rfl ⟨Nat.le_of_ble_eq_true rfl, Nat.le_of_ble_eq_true rfl⟩ rfl rfl (fun _ h => CW.md h) (Nat.le_of_ble_eq_true rfl) ⟨Nat.le_refl _, Nat.le_refl _⟩ dX8_doOrder_177 (fun x56 w55 hF => ?_)
                          obtain ⟨rfl, rfl⟩ := ret_eq hF
                          exact x_iret (pc := 180) C hr rfl (fun _ h => h) dX8_doOrder_180
                        · rw [if_neg c14] at hF
                          by_cases c15 : ((w.2.1 9 4)).toInt = 113
                          · rw [if_pos c15] at hF
                            refine x_tabIn (pc := 4) C 255 dX8_doOrder_4 c15 (by decide) (by decide) rfl rfl ?_
                            refine x_aload_n (pc := 255) C 0 dX8_doOrder_255 rfl rfl ?_
                            refine cV1_0 (pc := 256) (val := Value.int) C hF (fun _ _ h => c_X8_doRing l G b  h) vm_X8_doRing wq435 rfl rfl ⟨Nat.le_of_ble_eq_true rfl, Nat.le_of_ble_eq_true rfl⟩ rfl rfl (fun _ h => CW.md h) (Nat.le_of_ble_eq_true rfl) ⟨Nat.le_refl _, Nat.le_refl _⟩ dX8_doOrder_256 (fun x52 w51 hF => ?_)
                            obtain ⟨rfl, rfl⟩ := ret_eq hF
                            exact x_iret (pc := 259) C hr rfl (fun _ h => h) dX8_doOrder_259
                          · rw [if_neg c15] at hF
                            by_cases c16 : ((w.2.1 9 4)).toInt = 114
                            · rw [if_pos c16] at hF
                              refine x_tabIn (pc := 4) C 255 dX8_doOrder_4 c16 (by decide) (by decide) rfl rfl ?_
                              refine x_aload_n (pc := 255) C 0 dX8_doOrder_255 rfl rfl ?_
                              refine cV1_0 (pc := 256) (val := Value.int) C hF (fun _ _ h => c_X8_doRing l G b  h) vm_X8_doRing wq435 rfl rfl ⟨Nat.le_of_ble_eq_true rfl, Nat.le_of_ble_eq_true rfl⟩ rfl rfl (fun _ h => CW.md h) (Nat.le_of_ble_eq_true rfl) ⟨Nat.le_refl _, Nat.le_refl _⟩ dX8_doOrder_256 (fun x50 w49 hF => ?_)
                              obtain ⟨rfl, rfl⟩ := ret_eq hF
                              exact x_iret (pc := 259) C hr rfl (fun _ h => h) dX8_doOrder_259
                            · rw [if_neg c16] at hF
                              by_cases c17 : ((w.2.1 9 4)).toInt = 115
                              · rw [if_pos c17] at hF
                                refine x_tabIn (pc := 4) C 255 dX8_doOrder_4 c17 (by decide) (by decide) rfl rfl ?_
                                refine x_aload_n (pc := 255) C 0 dX8_doOrder_255 rfl rfl ?_
                                refine cV1_0 (pc := 256) (val := Value.int) C hF (fun _ _ h => c_X8_doRing l G b  h) vm_X8_doRing wq435 rfl rfl ⟨Nat.le_of_ble_eq_true rfl, Nat.le_of_ble_eq_true rfl⟩ rfl rfl (fun _ h => CW.md h) (Nat.le_of_ble_eq_true rfl) ⟨Nat.le_refl _, Nat.le_refl _⟩ dX8_doOrder_256 (fun x48 w47 hF => ?_)
                                obtain ⟨rfl, rfl⟩ := ret_eq hF
                                exact x_iret (pc := 259) C hr rfl (fun _ h => h) dX8_doOrder_259
                              · rw [if_neg c17] at hF
                                by_cases c18 : ((w.2.1 9 4)).toInt = 116
                                · rw [if_pos c18] at hF
                                  refine x_tabIn (pc := 4) C 198 dX8_doOrder_4 c18 (by decide) (by decide) rfl rfl ?_
                                  refine x_aload_n (pc := 198) C 0 dX8_doOrder_198 rfl rfl ?_
                                  refine x_aload_n (pc := 199) C 0 dX8_doOrder_199 rfl rfl ?_
                                  refine gf_X8_22 (pc := 200) C  dX8_doOrder_200 ?_
                                  refine x_iconst (pc := 203) C 1 dX8_doOrder_203 ki_1 ?_
                                  refine w_ald (pc := 204) C (vA_m 4 (by decide)) hF dX8_doOrder_204 (fun x43 hF => ?_)
                                  refine x_aload_n (pc := 205) C 0 dX8_doOrder_205 rfl rfl ?_
                                  refine gf_X8_22 (pc := 206) C  dX8_doOrder_206 ?_
                                  refine x_iconst (pc := 209) C 3 dX8_doOrder_209 ki_3 ?_
                                  refine w_ald (pc := 210) C (vA_m 4 (by decide)) hF dX8_doOrder_210 (fun x44 hF => ?_)
                                  refine cV1_2 (pc := 211) (val := Value.int) C hF (fun _ _ h => c_X8_doTake l G b  _ _ h) vm_X8_doTake wq670 rfl rfl ⟨Nat.le_of_ble_eq_true rfl, Nat.le_of_ble_eq_true rfl⟩ rfl rfl (fun _ h => CW.md h) (Nat.le_of_ble_eq_true rfl) ⟨Nat.le_refl _, Nat.le_refl _⟩ dX8_doOrder_211 (fun x46 w45 hF => ?_)
                                  obtain ⟨rfl, rfl⟩ := ret_eq hF
                                  exact x_iret (pc := 214) C hr rfl (fun _ h => h) dX8_doOrder_214
                                · rw [if_neg c18] at hF
                                  by_cases c19 : ((w.2.1 9 4)).toInt = 117
                                  · rw [if_pos c19] at hF
                                    refine x_tabIn (pc := 4) C 255 dX8_doOrder_4 c19 (by decide) (by decide) rfl rfl ?_
                                    refine x_aload_n (pc := 255) C 0 dX8_doOrder_255 rfl rfl ?_
                                    refine cV1_0 (pc := 256) (val := Value.int) C hF (fun _ _ h => c_X8_doRing l G b  h) vm_X8_doRing wq435 rfl rfl ⟨Nat.le_of_ble_eq_true rfl, Nat.le_of_ble_eq_true rfl⟩ rfl rfl (fun _ h => CW.md h) (Nat.le_of_ble_eq_true rfl) ⟨Nat.le_refl _, Nat.le_refl _⟩ dX8_doOrder_256 (fun x42 w41 hF => ?_)
                                    obtain ⟨rfl, rfl⟩ := ret_eq hF
                                    exact x_iret (pc := 259) C hr rfl (fun _ h => h) dX8_doOrder_259
                                  · rw [if_neg c19] at hF
                                    by_cases c20 : ((w.2.1 9 4)).toInt = 118
                                    · rw [if_pos c20] at hF
                                      refine x_tabIn (pc := 4) C 255 dX8_doOrder_4 c20 (by decide) (by decide) rfl rfl ?_
                                      refine x_aload_n (pc := 255) C 0 dX8_doOrder_255 rfl rfl ?_
                                      refine cV1_0 (pc := 256) (val := Value.int) C hF (fun _ _ h => c_X8_doRing l G b  h) vm_X8_doRing wq435 rfl rfl ⟨Nat.le_of_ble_eq_true rfl, Nat.le_of_ble_eq_true rfl⟩ rfl rfl (fun _ h => CW.md h) (Nat.le_of_ble_eq_true rfl) ⟨Nat.le_refl _, Nat.le_refl _⟩ dX8_doOrder_256 (fun x40 w39 hF => ?_)
                                      obtain ⟨rfl, rfl⟩ := ret_eq hF
                                      exact x_iret (pc := 259) C hr rfl (fun _ h => h) dX8_doOrder_259
                                    · rw [if_neg c20] at hF
                                      by_cases c21 : ((w.2.1 9 4)).toInt = 119
                                      · rw [if_pos c21] at hF
                                        refine x_tabIn (pc := 4) C 215 dX8_doOrder_4 c21 (by decide) (by decide) rfl rfl ?_
                                        refine x_aload_n (pc := 215) C 0 dX8_doOrder_215 rfl rfl ?_
                                        refine x_aload_n (pc := 216) C 0 dX8_doOrder_216 rfl rfl ?_
                                        refine gf_X8_22 (pc := 217) C  dX8_doOrder_217 ?_
                                        refine x_iconst (pc := 220) C 1 dX8_doOrder_220 ki_1 ?_
                                        refine w_ald (pc := 221) C (vA_m 4 (by decide)) hF dX8_doOrder_221 (fun x34 hF => ?_)
                                        refine x_aload_n (pc := 222) C 0 dX8_doOrder_222 rfl rfl ?_
                                        refine gf_X8_22 (pc := 223) C  dX8_doOrder_223 ?_
                                        refine x_iconst (pc := 226) C 3 dX8_doOrder_226 ki_3 ?_
                                        refine w_ald (pc := 227) C (vA_m 4 (by decide)) hF dX8_doOrder_227 (fun x35 hF => ?_)
                                        refine x_aload_n (pc := 228) C 0 dX8_doOrder_228 rfl rfl ?_
                                        refine gf_X8_22 (pc := 229) C  dX8_doOrder_229 ?_
                                        refine x_iconst (pc := 232) C 4 dX8_doOrder_232 ki_4 ?_
                                        refine w_ald (pc := 233) C (vA_m 4 (by decide)) hF dX8_doOrder_233 (fun x36 hF => ?_)
                                        refine cV1_3 (pc := 234) (val := Value.int) C hF (fun _ _ h => c_X8_doSwap l G b  _ _ _ h) vm_X8_doSwap wq720 rfl rfl ⟨Nat.le_of_ble_eq_true rfl, Nat.le_of_ble_eq_true rfl⟩ rfl rfl (fun _ h => CW.md h) (Nat.le_of_ble_eq_true rfl) ⟨Nat.le_refl _, Nat.le_refl _⟩ dX8_doOrder_234 (fun x38 w37 hF => ?_)
                                        obtain ⟨rfl, rfl⟩ := ret_eq hF
                                        exact x_iret (pc := 237) C hr rfl (fun _ h => h) dX8_doOrder_237
                                      · rw [if_neg c21] at hF
                                        by_cases c22 : ((w.2.1 9 4)).toInt = 120
                                        · rw [if_pos c22] at hF
                                          refine x_tabIn (pc := 4) C 181 dX8_doOrder_4 c22 (by decide) (by decide) rfl rfl ?_
                                          refine x_aload_n (pc := 181) C 0 dX8_doOrder_181 rfl rfl ?_
                                          refine x_aload_n (pc := 182) C 0 dX8_doOrder_182 rfl rfl ?_
                                          refine gf_X8_22 (pc := 183) C  dX8_doOrder_183 ?_
                                          refine x_iconst (pc := 186) C 1 dX8_doOrder_186 ki_1 ?_
                                          refine w_ald (pc := 187) C (vA_m 4 (by decide)) hF dX8_doOrder_187 (fun x30 hF => ?_)
                                          refine x_aload_n (pc := 188) C 0 dX8_doOrder_188 rfl rfl ?_
                                          refine gf_X8_22 (pc := 189) C  dX8_doOrder_189 ?_
                                          refine x_iconst (pc := 192) C 2 dX8_doOrder_192 ki_2 ?_
                                          refine w_ald (pc := 193) C (vA_m 4 (by decide)) hF dX8_doOrder_193 (fun x31 hF => ?_)
                                          refine cV1_2 (pc := 194) (val := Value.int) C hF (fun _ _ h => c_X8_doLoosen l G b  _ _ h) vm_X8_doLoosen wq591 rfl rfl ⟨Nat.le_of_ble_eq_true rfl, Nat.le_of_ble_eq_true rfl⟩ rfl rfl (fun _ h => CW.md h) (Nat.le_of_ble_eq_true rfl) ⟨Nat.le_refl _, Nat.le_refl _⟩ dX8_doOrder_194 (fun x33 w32 hF => ?_)
                                          obtain ⟨rfl, rfl⟩ := ret_eq hF
                                          exact x_iret (pc := 197) C hr rfl (fun _ h => h) dX8_doOrder_197
                                        · rw [if_neg c22] at hF
                                          by_cases c23 : ((w.2.1 9 4)).toInt = 121
                                          · rw [if_pos c23] at hF
                                            refine x_tabIn (pc := 4) C 255 dX8_doOrder_4 c23 (by decide) (by decide) rfl rfl ?_
                                            refine x_aload_n (pc := 255) C 0 dX8_doOrder_255 rfl rfl ?_
                                            refine cV1_0 (pc := 256) (val := Value.int) C hF (fun _ _ h => c_X8_doRing l G b  h) vm_X8_doRing wq435 rfl rfl ⟨Nat.le_of_ble_eq_true rfl, Nat.le_of_ble_eq_true rfl⟩ rfl rfl (fun _ h => CW.md h) (Nat.le_of_ble_eq_true rfl) ⟨Nat.le_refl _, Nat.le_refl _⟩ dX8_doOrder_256 (fun x29 w28 hF => ?_)
                                            obtain ⟨rfl, rfl⟩ := ret_eq hF
                                            exact x_iret (pc := 259) C hr rfl (fun _ h => h) dX8_doOrder_259
                                          · rw [if_neg c23] at hF
                                            by_cases c24 : ((w.2.1 9 4)).toInt = 122
                                            · rw [if_pos c24] at hF
                                              refine x_tabIn (pc := 4) C 119 dX8_doOrder_4 c24 (by decide) (by decide) rfl rfl ?_
                                              refine x_aload_n (pc := 119) C 0 dX8_doOrder_119 rfl rfl ?_
                                              refine x_aload_n (pc := 120) C 0 dX8_doOrder_120 rfl rfl ?_
                                              refine gf_X8_22 (pc := 121) C  dX8_doOrder_121 ?_
                                              refine x_iconst (pc := 124) C 1 dX8_doOrder_124 ki_1 ?_
                                              refine w_ald (pc := 125) C (vA_m 4 (by decide)) hF dX8_doOrder_125 (fun x25 hF => ?_)
                                              refine cV1_1 (pc := 126) (val := Value.int) C hF (fun _ _ h => c_X8_doRest l G b  _ h) vm_X8_doRest wq395 rfl rfl ⟨Nat.le_of_ble_eq_true rfl, Nat.le_of_ble_eq_true rfl⟩ rfl rfl (fun _ h => CW.md h) (Nat.le_of_ble_eq_true rfl) ⟨Nat.le_refl _, Nat.le_refl _⟩ dX8_doOrder_126 (fun x27 w26 hF => ?_)
                                              obtain ⟨rfl, rfl⟩ := ret_eq hF
                                              exact x_iret (pc := 129) C hr rfl (fun _ h => h) dX8_doOrder_129
                                            · rw [if_neg c24] at hF
                                              refine x_tabOut (pc := 4) C 255 dX8_doOrder_4 (by omega) rfl ?_
                                              refine x_aload_n (pc := 255) C 0 dX8_doOrder_255 rfl rfl ?_
                                              refine cV1_0 (pc := 256) (val := Value.int) C hF (fun _ _ h => c_X8_doRing l G b  h) vm_X8_doRing wq435 rfl rfl ⟨Nat.le_of_ble_eq_true rfl, Nat.le_of_ble_eq_true rfl⟩ rfl rfl (fun _ h => CW.md h) (Nat.le_of_ble_eq_true rfl) ⟨Nat.le_refl _, Nat.le_refl _⟩ dX8_doOrder_256 (fun x2 w1 hF => ?_)
                                              obtain ⟨rfl, rfl⟩ := ret_eq hF
                                              exact x_iret (pc := 259) C hr rfl (fun _ h => h) dX8_doOrder_259
set_option maxRecDepth 4000 in
theorem c_X8_enter (l : Launch) (G : xG) (b : Nat)     (a1 : Int32) {w w' : xWt} {v : Int32} (hF : F_X8_enter a1 w = some (v, w')) : xMet l G b yX8_enter cX8_enter 2 (some .int) (xR 3) [.ref (mdb b), .int (a1)] (CW G b w) (some (.int v)) (CW G b w') 0 0 := by
  refine x_of (own := RX8) rfl (plainFor_of_name pn_X8) (Nat.le_of_ble_eq_true rfl) ?_
  intro p e s m args below meth c ha C hr _
  unfold F_X8_enter at hF
  refine x_aload_n (pc := 0) C 0 dX8_enter_0 rfl rfl ?_
  refine x_aload_n (pc := 1) C 0 dX8_enter_1 rfl rfl ?_
  refine x_iload_n (pc := 2) C 1 dX8_enter_2 rfl rfl ?_
  refine cV1_1 (pc := 3) (val := Value.int) C hF (fun _ _ h => c_X8_whyNotEnter l G b  _ h) vm_X8_whyNotEnter wq355 rfl rfl ⟨Nat.le_of_ble_eq_true rfl, Nat.le_of_ble_eq_true rfl⟩ rfl rfl (fun _ h => CW.md h) (Nat.le_of_ble_eq_true rfl) ⟨Nat.le_refl _, Nat.le_refl _⟩ dX8_enter_3 (fun x2 w1 hF => ?_)
  refine pf_X8_33 (pc := 6) C   hF dX8_enter_6 (fun w3 hF => ?_)
  refine x_aload_n (pc := 9) C 0 dX8_enter_9 rfl rfl ?_
  refine gf_X8_33 (pc := 10) C  dX8_enter_10 ?_
  refine x_if_le (pc := 13) C 18 dX8_enter_13 rfl hF (fun c7 hF => ?_) (fun c7 hF => ?_)
  · refine x_aload_n (pc := 18) C 0 dX8_enter_18 rfl rfl ?_
    refine cV0_0 (pc := 19) C hF (fun _ _ h => c_X8_record l G b  h) vm_X8_record wq225 rfl rfl ⟨Nat.le_of_ble_eq_true rfl, Nat.le_of_ble_eq_true rfl⟩ rfl rfl (fun _ h => CW.md h) (Nat.le_of_ble_eq_true rfl) ⟨Nat.le_refl _, Nat.le_refl _⟩ dX8_enter_19 (fun _ w4 hF => ?_)
    refine x_aload_n (pc := 22) C 0 dX8_enter_22 rfl rfl ?_
    refine x_iload_n (pc := 23) C 1 dX8_enter_23 rfl rfl ?_
    refine cV1_1 (pc := 24) (val := Value.int) C hF (fun _ _ h => c_X8_doEnter l G b  _ h) vm_X8_doEnter wq363 rfl rfl ⟨Nat.le_of_ble_eq_true rfl, Nat.le_of_ble_eq_true rfl⟩ rfl rfl (fun _ h => CW.md h) (Nat.le_of_ble_eq_true rfl) ⟨Nat.le_refl _, Nat.le_refl _⟩ dX8_enter_24 (fun x6 w5 hF => ?_)
    obtain ⟨rfl, rfl⟩ := ret_eq hF
    exact x_iret (pc := 27) C hr rfl (fun _ h => h) dX8_enter_27
  · refine x_iconst (pc := 16) C 0 dX8_enter_16 ki_0 ?_
    obtain ⟨rfl, rfl⟩ := ret_eq hF
    exact x_iret (pc := 17) C hr rfl (fun _ h => h) dX8_enter_17
set_option maxRecDepth 4000 in
theorem c_X8_shapeOf (l : Launch) (G : xG) (b : Nat)     (a1 : Int32) {w w' : xWt} {v : Int32} (hF : F_X8_shapeOf a1 w = some (v, w')) : xMet l G b yX8_shapeOf cX8_shapeOf 1 (some .int) (xR 0) [.int (a1)] (CW G b w) (some (.int v)) (CW G b w') 0 0 := by
  refine x_of (own := RX8) rfl (plainFor_of_name pn_X8) (Nat.le_of_ble_eq_true rfl) ?_
  intro p e s m args below meth c ha C hr _
  unfold F_X8_shapeOf at hF
  refine x_iload_n (pc := 0) C 0 dX8_shapeOf_0 rfl rfl ?_
  by_cases c1 : (a1).toInt = 98
  · rw [if_pos c1] at hF
    refine x_tabIn (pc := 1) C 134 dX8_shapeOf_1 c1 (by decide) (by decide) rfl rfl ?_
    refine x_iconst (pc := 134) C 0 dX8_shapeOf_134 ki_0 ?_
    obtain ⟨rfl, rfl⟩ := ret_eq hF
    exact x_iret (pc := 135) C hr rfl (fun _ h => h) dX8_shapeOf_135
  · rw [if_neg c1] at hF
    by_cases c2 : (a1).toInt = 99
    · rw [if_pos c2] at hF
      refine x_tabIn (pc := 1) C 136 dX8_shapeOf_1 c2 (by decide) (by decide) rfl rfl ?_
      refine x_iconst (pc := 136) C (-1) dX8_shapeOf_136 ki_m1 ?_
      obtain ⟨rfl, rfl⟩ := ret_eq hF
      exact x_iret (pc := 137) C hr rfl (fun _ h => h) dX8_shapeOf_137
    · rw [if_neg c2] at hF
      by_cases c3 : (a1).toInt = 100
      · rw [if_pos c3] at hF
        refine x_tabIn (pc := 1) C 136 dX8_shapeOf_1 c3 (by decide) (by decide) rfl rfl ?_
        refine x_iconst (pc := 136) C (-1) dX8_shapeOf_136 ki_m1 ?_
        obtain ⟨rfl, rfl⟩ := ret_eq hF
        exact x_iret (pc := 137) C hr rfl (fun _ h => h) dX8_shapeOf_137
      · rw [if_neg c3] at hF
        by_cases c4 : (a1).toInt = 101
        · rw [if_pos c4] at hF
          refine x_tabIn (pc := 1) C 116 dX8_shapeOf_1 c4 (by decide) (by decide) rfl rfl ?_
          refine x_iconst (pc := 116) C 1 dX8_shapeOf_116 ki_1 ?_
          obtain ⟨rfl, rfl⟩ := ret_eq hF
          exact x_iret (pc := 117) C hr rfl (fun _ h => h) dX8_shapeOf_117
        · rw [if_neg c4] at hF
          by_cases c5 : (a1).toInt = 102
          · rw [if_pos c5] at hF
            refine x_tabIn (pc := 1) C 136 dX8_shapeOf_1 c5 (by decide) (by decide) rfl rfl ?_
            refine x_iconst (pc := 136) C (-1) dX8_shapeOf_136 ki_m1 ?_
            obtain ⟨rfl, rfl⟩ := ret_eq hF
            exact x_iret (pc := 137) C hr rfl (fun _ h => h) dX8_shapeOf_137
          · rw [if_neg c5] at hF
            by_cases c6 : (a1).toInt = 103
            · rw [if_pos c6] at hF
              refine x_tabIn (pc := 1) C 131 dX8_shapeOf_1 c6 (by decide) (by decide) rfl rfl ?_
              refine x_bipush (pc := 131) C 34 dX8_shapeOf_131 kb_34 ?_
              obtain ⟨rfl, rfl⟩ := ret_eq hF
              exact x_iret (pc := 133) C hr rfl (fun _ h => h) dX8_shapeOf_133
            · rw [if_neg c6] at hF
              by_cases c7 : (a1).toInt = 104
              · rw [if_pos c7] at hF
                refine x_tabIn (pc := 1) C 136 dX8_shapeOf_1 c7 (by decide) (by decide) rfl rfl ?_
                refine x_iconst (pc := 136) C (-1) dX8_shapeOf_136 ki_m1 ?_
                obtain ⟨rfl, rfl⟩ := ret_eq hF
                exact x_iret (pc := 137) C hr rfl (fun _ h => h) dX8_shapeOf_137
              · rw [if_neg c7] at hF
                by_cases c8 : (a1).toInt = 105
                · rw [if_pos c8] at hF
                  refine x_tabIn (pc := 1) C 136 dX8_shapeOf_1 c8 (by decide) (by decide) rfl rfl ?_
                  refine x_iconst (pc := 136) C (-1) dX8_shapeOf_136 ki_m1 ?_
                  obtain ⟨rfl, rfl⟩ := ret_eq hF
                  exact x_iret (pc := 137) C hr rfl (fun _ h => h) dX8_shapeOf_137
                · rw [if_neg c8] at hF
                  by_cases c9 : (a1).toInt = 106
                  · rw [if_pos c9] at hF
                    refine x_tabIn (pc := 1) C 136 dX8_shapeOf_1 c9 (by decide) (by decide) rfl rfl ?_
                    refine x_iconst (pc := 136) C (-1) dX8_shapeOf_136 ki_m1 ?_
                    obtain ⟨rfl, rfl⟩ := ret_eq hF
                    exact x_iret (pc := 137) C hr rfl (fun _ h => h) dX8_shapeOf_137
                  · rw [if_neg c9] at hF
                    by_cases c10 : (a1).toInt = 107
                    · rw [if_pos c10] at hF
                      refine x_tabIn (pc := 1) C 116 dX8_shapeOf_1 c10 (by decide) (by decide) rfl rfl ?_
                      refine x_iconst (pc := 116) C 1 dX8_shapeOf_116 ki_1 ?_
                      obtain ⟨rfl, rfl⟩ := ret_eq hF
                      exact x_iret (pc := 117) C hr rfl (fun _ h => h) dX8_shapeOf_117
                    · rw [if_neg c10] at hF
                      by_cases c11 : (a1).toInt = 108
                      · rw [if_pos c11] at hF
                        refine x_tabIn (pc := 1) C 136 dX8_shapeOf_1 c11 (by decide) (by decide) rfl rfl ?_
                        refine x_iconst (pc := 136) C (-1) dX8_shapeOf_136 ki_m1 ?_
                        obtain ⟨rfl, rfl⟩ := ret_eq hF
                        exact x_iret (pc := 137) C hr rfl (fun _ h => h) dX8_shapeOf_137
                      · rw [if_neg c11] at hF
                        by_cases c12 : (a1).toInt = 109
                        · rw [if_pos c12] at hF
                          refine x_tabIn (pc := 1) C 136 dX8_shapeOf_1 c12 (by decide) (by decide) rfl rfl ?_
                          refine x_iconst (pc := 136) C (-1) dX8_shapeOf_136 ki_m1 ?_
                          obtain ⟨rfl, rfl⟩ := ret_eq hF
                          exact x_iret (pc := 137) C hr rfl (fun _ h => h) dX8_shapeOf_137
                        · rw [if_neg c12] at hF
                          by_cases c13 : (a1).toInt = 110
                          · rw [if_pos c13] at hF
                            refine x_tabIn (pc := 1) C 118 dX8_shapeOf_1 c13 (by decide) (by decide) rfl rfl ?_
                            refine x_bipush (pc := 118) C 123 dX8_shapeOf_118 kb_123 ?_
                            obtain ⟨rfl, rfl⟩ := ret_eq hF
                            exact x_iret (pc := 120) C hr rfl (fun _ h => h) dX8_shapeOf_120
                          · rw [if_neg c13] at hF
                            by_cases c14 : (a1).toInt = 111
                            · rw [if_pos c14] at hF
                              refine x_tabIn (pc := 1) C 136 dX8_shapeOf_1 c14 (by decide) (by decide) rfl rfl ?_
                              refine x_iconst (pc := 136) C (-1) dX8_shapeOf_136 ki_m1 ?_
                              obtain ⟨rfl, rfl⟩ := ret_eq hF
                              exact x_iret (pc := 137) C hr rfl (fun _ h => h) dX8_shapeOf_137
                            · rw [if_neg c14] at hF
                              by_cases c15 : (a1).toInt = 112
                              · rw [if_pos c15] at hF
                                refine x_tabIn (pc := 1) C 121 dX8_shapeOf_1 c15 (by decide) (by decide) rfl rfl ?_
                                refine x_bipush (pc := 121) C 12 dX8_shapeOf_121 kb_12 ?_
                                obtain ⟨rfl, rfl⟩ := ret_eq hF
                                exact x_iret (pc := 123) C hr rfl (fun _ h => h) dX8_shapeOf_123
                              · rw [if_neg c15] at hF
                                by_cases c16 : (a1).toInt = 113
                                · rw [if_pos c16] at hF
                                  refine x_tabIn (pc := 1) C 136 dX8_shapeOf_1 c16 (by decide) (by decide) rfl rfl ?_
                                  refine x_iconst (pc := 136) C (-1) dX8_shapeOf_136 ki_m1 ?_
                                  obtain ⟨rfl, rfl⟩ := ret_eq hF
                                  exact x_iret (pc := 137) C hr rfl (fun _ h => h) dX8_shapeOf_137
                                · rw [if_neg c16] at hF
                                  by_cases c17 : (a1).toInt = 114
                                  · rw [if_pos c17] at hF
                                    refine x_tabIn (pc := 1) C 136 dX8_shapeOf_1 c17 (by decide) (by decide) rfl rfl ?_
                                    refine x_iconst (pc := 136) C (-1) dX8_shapeOf_136 ki_m1 ?_
                                    obtain ⟨rfl, rfl⟩ := ret_eq hF
                                    exact x_iret (pc := 137) C hr rfl (fun _ h => h) dX8_shapeOf_137
                                  · rw [if_neg c17] at hF
                                    by_cases c18 : (a1).toInt = 115
                                    · rw [if_pos c18] at hF
                                      refine x_tabIn (pc := 1) C 136 dX8_shapeOf_1 c18 (by decide) (by decide) rfl rfl ?_
                                      refine x_iconst (pc := 136) C (-1) dX8_shapeOf_136 ki_m1 ?_
                                      obtain ⟨rfl, rfl⟩ := ret_eq hF
                                      exact x_iret (pc := 137) C hr rfl (fun _ h => h) dX8_shapeOf_137
                                    · rw [if_neg c18] at hF
                                      by_cases c19 : (a1).toInt = 116
                                      · rw [if_pos c19] at hF
                                        refine x_tabIn (pc := 1) C 124 dX8_shapeOf_1 c19 (by decide) (by decide) rfl rfl ?_
                                        refine x_bipush (pc := 124) C 13 dX8_shapeOf_124 kb_13 ?_
                                        obtain ⟨rfl, rfl⟩ := ret_eq hF
                                        exact x_iret (pc := 126) C hr rfl (fun _ h => h) dX8_shapeOf_126
                                      · rw [if_neg c19] at hF
                                        by_cases c20 : (a1).toInt = 117
                                        · rw [if_pos c20] at hF
                                          refine x_tabIn (pc := 1) C 136 dX8_shapeOf_1 c20 (by decide) (by decide) rfl rfl ?_
                                          refine x_iconst (pc := 136) C (-1) dX8_shapeOf_136 ki_m1 ?_
                                          obtain ⟨rfl, rfl⟩ := ret_eq hF
                                          exact x_iret (pc := 137) C hr rfl (fun _ h => h) dX8_shapeOf_137
                                        · rw [if_neg c20] at hF
                                          by_cases c21 : (a1).toInt = 118
                                          · rw [if_pos c21] at hF
                                            refine x_tabIn (pc := 1) C 136 dX8_shapeOf_1 c21 (by decide) (by decide) rfl rfl ?_
                                            refine x_iconst (pc := 136) C (-1) dX8_shapeOf_136 ki_m1 ?_
                                            obtain ⟨rfl, rfl⟩ := ret_eq hF
                                            exact x_iret (pc := 137) C hr rfl (fun _ h => h) dX8_shapeOf_137
                                          · rw [if_neg c21] at hF
                                            by_cases c22 : (a1).toInt = 119
                                            · rw [if_pos c22] at hF
                                              refine x_tabIn (pc := 1) C 127 dX8_shapeOf_1 c22 (by decide) (by decide) rfl rfl ?_
                                              refine x_sipush (pc := 127) C 134 dX8_shapeOf_127 ks_134 ?_
                                              obtain ⟨rfl, rfl⟩ := ret_eq hF
                                              exact x_iret (pc := 130) C hr rfl (fun _ h => h) dX8_shapeOf_130
                                            · rw [if_neg c22] at hF
                                              by_cases c23 : (a1).toInt = 120
                                              · rw [if_pos c23] at hF
                                                refine x_tabIn (pc := 1) C 121 dX8_shapeOf_1 c23 (by decide) (by decide) rfl rfl ?_
                                                refine x_bipush (pc := 121) C 12 dX8_shapeOf_121 kb_12 ?_
                                                obtain ⟨rfl, rfl⟩ := ret_eq hF
                                                exact x_iret (pc := 123) C hr rfl (fun _ h => h) dX8_shapeOf_123
                                              · rw [if_neg c23] at hF
                                                by_cases c24 : (a1).toInt = 121
                                                · rw [if_pos c24] at hF
                                                  refine x_tabIn (pc := 1) C 136 dX8_shapeOf_1 c24 (by decide) (by decide) rfl rfl ?_
                                                  refine x_iconst (pc := 136) C (-1) dX8_shapeOf_136 ki_m1 ?_
                                                  obtain ⟨rfl, rfl⟩ := ret_eq hF
                                                  exact x_iret (pc := 137) C hr rfl (fun _ h => h) dX8_shapeOf_137
                                                · rw [if_neg c24] at hF
                                                  by_cases c25 : (a1).toInt = 122
                                                  · rw [if_pos c25] at hF
                                                    refine x_tabIn (pc := 1) C 116 dX8_shapeOf_1 c25 (by decide) (by decide) rfl rfl ?_
                                                    refine x_iconst (pc := 116) C 1 dX8_shapeOf_116 ki_1 ?_
                                                    obtain ⟨rfl, rfl⟩ := ret_eq hF
                                                    exact x_iret (pc := 117) C hr rfl (fun _ h => h) dX8_shapeOf_117
                                                  · rw [if_neg c25] at hF
                                                    refine x_tabOut (pc := 1) C 136 dX8_shapeOf_1 (by omega) rfl ?_
                                                    refine x_iconst (pc := 136) C (-1) dX8_shapeOf_136 ki_m1 ?_
                                                    obtain ⟨rfl, rfl⟩ := ret_eq hF
                                                    exact x_iret (pc := 137) C hr rfl (fun _ h => h) dX8_shapeOf_137
set_option maxRecDepth 4000 in
theorem c_X8_valueOf (l : Launch) (G : xG) (b : Nat)     (a1 : Int32) (a2 : Int32) {w w' : xWt} {v : Int32} (hF : F_X8_valueOf a1 a2 w = some (v, w')) : xMet l G b yX8_valueOf cX8_valueOf 4 (some .int) (xR 1) [.int (a1), .int (a2)] (CW G b w) (some (.int v)) (CW G b w') 0 0 := by
  refine x_of (own := RX8) rfl (plainFor_of_name pn_X8) (Nat.le_of_ble_eq_true rfl) ?_
  intro p e s m args below meth c ha C hr _
  unfold F_X8_valueOf at hF
  refine x_iload_n (pc := 0) C 0 dX8_valueOf_0 rfl rfl ?_
  refine x_iconst (pc := 1) C 3 dX8_valueOf_1 ki_3 ?_
  refine x_icmp_ne (pc := 2) C 12 dX8_valueOf_2 rfl hF (fun c31 hF => ?_) (fun c31 hF => ?_)
  · refine x_iload_n (pc := 12) C 1 dX8_valueOf_12 rfl rfl ?_
    refine x_bipush (pc := 13) C 48 dX8_valueOf_13 kb_48 ?_
    refine x_isub (pc := 15) C dX8_valueOf_15 ?_
    refine x_istore_n (pc := 16) C [(2, .int ((a2 - 48))), (0, .int (a1)), (1, .int (a2))] dX8_valueOf_16 rfl (by decide) rfl ?_
    refine x_iload_n (pc := 17) C 1 dX8_valueOf_17 rfl rfl ?_
    refine x_iconst (pc := 18) C 1 dX8_valueOf_18 ki_1 ?_
    refine x_icmp_ne (pc := 19) C 26 dX8_valueOf_19 rfl hF (fun c15 hF => ?_) (fun c15 hF => ?_)
    · refine x_iload_n (pc := 26) C 1 dX8_valueOf_26 rfl rfl ?_
      refine x_iconst (pc := 27) C 2 dX8_valueOf_27 ki_2 ?_
      refine x_icmp_ne (pc := 28) C 35 dX8_valueOf_28 rfl hF (fun c11 hF => ?_) (fun c11 hF => ?_)
      · refine x_iload_n (pc := 35) C 1 dX8_valueOf_35 rfl rfl ?_
        refine x_iconst (pc := 36) C 3 dX8_valueOf_36 ki_3 ?_
        refine x_icmp_ne (pc := 37) C 45 dX8_valueOf_37 rfl hF (fun c7 hF => ?_) (fun c7 hF => ?_)
        · refine x_bipush (pc := 45) C 9 dX8_valueOf_45 kb_9 ?_
          refine x_istore_n (pc := 47) C [(3, .int (9)), (2, .int ((a2 - 48))), (0, .int (a1)), (1, .int (a2))] dX8_valueOf_47 rfl (by decide) rfl ?_
          refine x_iload_n (pc := 48) C 1 dX8_valueOf_48 rfl rfl ?_
          refine x_iconst (pc := 49) C 0 dX8_valueOf_49 ki_0 ?_
          refine x_iload_n (pc := 50) C 0 dX8_valueOf_50 rfl rfl ?_
          refine cS1_3 (pc := 51) (val := Value.int) C hF (fun _ _ h => c_X8_in l G b  _ _ _ h) sm_X8_in wq307 rfl rfl ⟨Nat.le_of_ble_eq_true rfl, Nat.le_of_ble_eq_true rfl⟩ (Nat.le_of_ble_eq_true rfl) ⟨Nat.le_refl _, Nat.le_refl _⟩ dX8_valueOf_51 (fun x2 w1 hF => ?_)
          refine x_if_eq (pc := 54) C 61 dX8_valueOf_54 rfl hF (fun c3 hF => ?_) (fun c3 hF => ?_)
          · refine x_iconst (pc := 61) C (-1) dX8_valueOf_61 ki_m1 ?_
            obtain ⟨rfl, rfl⟩ := ret_eq hF
            exact x_iret (pc := 62) C hr rfl (fun _ h => h) dX8_valueOf_62
          · refine x_iload_n (pc := 57) C 1 dX8_valueOf_57 rfl rfl ?_
            refine x_goto (pc := 58) C 62 dX8_valueOf_58 rfl ?_
            obtain ⟨rfl, rfl⟩ := ret_eq hF
            exact x_iret (pc := 62) C hr rfl (fun _ h => h) dX8_valueOf_62
        · refine x_bipush (pc := 40) C 11 dX8_valueOf_40 kb_11 ?_
          refine x_goto (pc := 42) C 47 dX8_valueOf_42 rfl ?_
          refine x_istore_n (pc := 47) C [(3, .int (11)), (2, .int ((a2 - 48))), (0, .int (a1)), (1, .int (a2))] dX8_valueOf_47 rfl (by decide) rfl ?_
          refine x_iload_n (pc := 48) C 1 dX8_valueOf_48 rfl rfl ?_
          refine x_iconst (pc := 49) C 0 dX8_valueOf_49 ki_0 ?_
          refine x_iload_n (pc := 50) C 0 dX8_valueOf_50 rfl rfl ?_
          refine cS1_3 (pc := 51) (val := Value.int) C hF (fun _ _ h => c_X8_in l G b  _ _ _ h) sm_X8_in wq307 rfl rfl ⟨Nat.le_of_ble_eq_true rfl, Nat.le_of_ble_eq_true rfl⟩ (Nat.le_of_ble_eq_true rfl) ⟨Nat.le_refl _, Nat.le_refl _⟩ dX8_valueOf_51 (fun x5 w4 hF => ?_)
          refine x_if_eq (pc := 54) C 61 dX8_valueOf_54 rfl hF (fun c6 hF => ?_) (fun c6 hF => ?_)
          · refine x_iconst (pc := 61) C (-1) dX8_valueOf_61 ki_m1 ?_
            obtain ⟨rfl, rfl⟩ := ret_eq hF
            exact x_iret (pc := 62) C hr rfl (fun _ h => h) dX8_valueOf_62
          · refine x_iload_n (pc := 57) C 1 dX8_valueOf_57 rfl rfl ?_
            refine x_goto (pc := 58) C 62 dX8_valueOf_58 rfl ?_
            obtain ⟨rfl, rfl⟩ := ret_eq hF
            exact x_iret (pc := 62) C hr rfl (fun _ h => h) dX8_valueOf_62
      · refine x_iconst (pc := 31) C 2 dX8_valueOf_31 ki_2 ?_
        refine x_goto (pc := 32) C 47 dX8_valueOf_32 rfl ?_
        refine x_istore_n (pc := 47) C [(3, .int (2)), (2, .int ((a2 - 48))), (0, .int (a1)), (1, .int (a2))] dX8_valueOf_47 rfl (by decide) rfl ?_
        refine x_iload_n (pc := 48) C 1 dX8_valueOf_48 rfl rfl ?_
        refine x_iconst (pc := 49) C 0 dX8_valueOf_49 ki_0 ?_
        refine x_iload_n (pc := 50) C 0 dX8_valueOf_50 rfl rfl ?_
        refine cS1_3 (pc := 51) (val := Value.int) C hF (fun _ _ h => c_X8_in l G b  _ _ _ h) sm_X8_in wq307 rfl rfl ⟨Nat.le_of_ble_eq_true rfl, Nat.le_of_ble_eq_true rfl⟩ (Nat.le_of_ble_eq_true rfl) ⟨Nat.le_refl _, Nat.le_refl _⟩ dX8_valueOf_51 (fun x9 w8 hF => ?_)
        refine x_if_eq (pc := 54) C 61 dX8_valueOf_54 rfl hF (fun c10 hF => ?_) (fun c10 hF => ?_)
        · refine x_iconst (pc := 61) C (-1) dX8_valueOf_61 ki_m1 ?_
          obtain ⟨rfl, rfl⟩ := ret_eq hF
          exact x_iret (pc := 62) C hr rfl (fun _ h => h) dX8_valueOf_62
        · refine x_iload_n (pc := 57) C 1 dX8_valueOf_57 rfl rfl ?_
          refine x_goto (pc := 58) C 62 dX8_valueOf_58 rfl ?_
          obtain ⟨rfl, rfl⟩ := ret_eq hF
          exact x_iret (pc := 62) C hr rfl (fun _ h => h) dX8_valueOf_62
    · refine x_iconst (pc := 22) C 4 dX8_valueOf_22 ki_4 ?_
      refine x_goto (pc := 23) C 47 dX8_valueOf_23 rfl ?_
      refine x_istore_n (pc := 47) C [(3, .int (4)), (2, .int ((a2 - 48))), (0, .int (a1)), (1, .int (a2))] dX8_valueOf_47 rfl (by decide) rfl ?_
      refine x_iload_n (pc := 48) C 1 dX8_valueOf_48 rfl rfl ?_
      refine x_iconst (pc := 49) C 0 dX8_valueOf_49 ki_0 ?_
      refine x_iload_n (pc := 50) C 0 dX8_valueOf_50 rfl rfl ?_
      refine cS1_3 (pc := 51) (val := Value.int) C hF (fun _ _ h => c_X8_in l G b  _ _ _ h) sm_X8_in wq307 rfl rfl ⟨Nat.le_of_ble_eq_true rfl, Nat.le_of_ble_eq_true rfl⟩ (Nat.le_of_ble_eq_true rfl) ⟨Nat.le_refl _, Nat.le_refl _⟩ dX8_valueOf_51 (fun x13 w12 hF => ?_)
      refine x_if_eq (pc := 54) C 61 dX8_valueOf_54 rfl hF (fun c14 hF => ?_) (fun c14 hF => ?_)
      · refine x_iconst (pc := 61) C (-1) dX8_valueOf_61 ki_m1 ?_
        obtain ⟨rfl, rfl⟩ := ret_eq hF
        exact x_iret (pc := 62) C hr rfl (fun _ h => h) dX8_valueOf_62
      · refine x_iload_n (pc := 57) C 1 dX8_valueOf_57 rfl rfl ?_
        refine x_goto (pc := 58) C 62 dX8_valueOf_58 rfl ?_
        obtain ⟨rfl, rfl⟩ := ret_eq hF
        exact x_iret (pc := 62) C hr rfl (fun _ h => h) dX8_valueOf_62
  · refine x_iload_n (pc := 5) C 1 dX8_valueOf_5 rfl rfl ?_
    refine x_bipush (pc := 6) C 97 dX8_valueOf_6 kb_97 ?_
    refine x_isub (pc := 8) C dX8_valueOf_8 ?_
    refine x_goto (pc := 9) C 16 dX8_valueOf_9 rfl ?_
    refine x_istore_n (pc := 16) C [(2, .int ((a2 - 97))), (0, .int (a1)), (1, .int (a2))] dX8_valueOf_16 rfl (by decide) rfl ?_
    refine x_iload_n (pc := 17) C 1 dX8_valueOf_17 rfl rfl ?_
    refine x_iconst (pc := 18) C 1 dX8_valueOf_18 ki_1 ?_
    refine x_icmp_ne (pc := 19) C 26 dX8_valueOf_19 rfl hF (fun c30 hF => ?_) (fun c30 hF => ?_)
    · refine x_iload_n (pc := 26) C 1 dX8_valueOf_26 rfl rfl ?_
      refine x_iconst (pc := 27) C 2 dX8_valueOf_27 ki_2 ?_
      refine x_icmp_ne (pc := 28) C 35 dX8_valueOf_28 rfl hF (fun c26 hF => ?_) (fun c26 hF => ?_)
      · refine x_iload_n (pc := 35) C 1 dX8_valueOf_35 rfl rfl ?_
        refine x_iconst (pc := 36) C 3 dX8_valueOf_36 ki_3 ?_
        refine x_icmp_ne (pc := 37) C 45 dX8_valueOf_37 rfl hF (fun c22 hF => ?_) (fun c22 hF => ?_)
        · refine x_bipush (pc := 45) C 9 dX8_valueOf_45 kb_9 ?_
          refine x_istore_n (pc := 47) C [(3, .int (9)), (2, .int ((a2 - 97))), (0, .int (a1)), (1, .int (a2))] dX8_valueOf_47 rfl (by decide) rfl ?_
          refine x_iload_n (pc := 48) C 1 dX8_valueOf_48 rfl rfl ?_
          refine x_iconst (pc := 49) C 0 dX8_valueOf_49 ki_0 ?_
          refine x_iload_n (pc := 50) C 0 dX8_valueOf_50 rfl rfl ?_
          refine cS1_3 (pc := 51) (val := Value.int) C hF (fun _ _ h => c_X8_in l G b  _ _ _ h) sm_X8_in wq307 rfl rfl ⟨Nat.le_of_ble_eq_true rfl, Nat.le_of_ble_eq_true rfl⟩ (Nat.le_of_ble_eq_true rfl) ⟨Nat.le_refl _, Nat.le_refl _⟩ dX8_valueOf_51 (fun x17 w16 hF => ?_)
          refine x_if_eq (pc := 54) C 61 dX8_valueOf_54 rfl hF (fun c18 hF => ?_) (fun c18 hF => ?_)
          · refine x_iconst (pc := 61) C (-1) dX8_valueOf_61 ki_m1 ?_
            obtain ⟨rfl, rfl⟩ := ret_eq hF
            exact x_iret (pc := 62) C hr rfl (fun _ h => h) dX8_valueOf_62
          · refine x_iload_n (pc := 57) C 1 dX8_valueOf_57 rfl rfl ?_
            refine x_goto (pc := 58) C 62 dX8_valueOf_58 rfl ?_
            obtain ⟨rfl, rfl⟩ := ret_eq hF
            exact x_iret (pc := 62) C hr rfl (fun _ h => h) dX8_valueOf_62
        · refine x_bipush (pc := 40) C 11 dX8_valueOf_40 kb_11 ?_
          refine x_goto (pc := 42) C 47 dX8_valueOf_42 rfl ?_
          refine x_istore_n (pc := 47) C [(3, .int (11)), (2, .int ((a2 - 97))), (0, .int (a1)), (1, .int (a2))] dX8_valueOf_47 rfl (by decide) rfl ?_
          refine x_iload_n (pc := 48) C 1 dX8_valueOf_48 rfl rfl ?_
          refine x_iconst (pc := 49) C 0 dX8_valueOf_49 ki_0 ?_
          refine x_iload_n (pc := 50) C 0 dX8_valueOf_50 rfl rfl ?_
          refine cS1_3 (pc := 51) (val := Value.int) C hF (fun _ _ h => c_X8_in l G b  _ _ _ h) sm_X8_in wq307 rfl rfl ⟨Nat.le_of_ble_eq_true rfl, Nat.le_of_ble_eq_true rfl⟩ (Nat.le_of_ble_eq_true rfl) ⟨Nat.le_refl _, Nat.le_refl _⟩ dX8_valueOf_51 (fun x20 w19 hF => ?_)
          refine x_if_eq (pc := 54) C 61 dX8_valueOf_54 rfl hF (fun c21 hF => ?_) (fun c21 hF => ?_)
          · refine x_iconst (pc := 61) C (-1) dX8_valueOf_61 ki_m1 ?_
            obtain ⟨rfl, rfl⟩ := ret_eq hF
            exact x_iret (pc := 62) C hr rfl (fun _ h => h) dX8_valueOf_62
          · refine x_iload_n (pc := 57) C 1 dX8_valueOf_57 rfl rfl ?_
            refine x_goto (pc := 58) C 62 dX8_valueOf_58 rfl ?_
            obtain ⟨rfl, rfl⟩ := ret_eq hF
            exact x_iret (pc := 62) C hr rfl (fun _ h => h) dX8_valueOf_62
      · refine x_iconst (pc := 31) C 2 dX8_valueOf_31 ki_2 ?_
        refine x_goto (pc := 32) C 47 dX8_valueOf_32 rfl ?_
        refine x_istore_n (pc := 47) C [(3, .int (2)), (2, .int ((a2 - 97))), (0, .int (a1)), (1, .int (a2))] dX8_valueOf_47 rfl (by decide) rfl ?_
        refine x_iload_n (pc := 48) C 1 dX8_valueOf_48 rfl rfl ?_
        refine x_iconst (pc := 49) C 0 dX8_valueOf_49 ki_0 ?_
        refine x_iload_n (pc := 50) C 0 dX8_valueOf_50 rfl rfl ?_
        refine cS1_3 (pc := 51) (val := Value.int) C hF (fun _ _ h => c_X8_in l G b  _ _ _ h) sm_X8_in wq307 rfl rfl ⟨Nat.le_of_ble_eq_true rfl, Nat.le_of_ble_eq_true rfl⟩ (Nat.le_of_ble_eq_true rfl) ⟨Nat.le_refl _, Nat.le_refl _⟩ dX8_valueOf_51 (fun x24 w23 hF => ?_)
        refine x_if_eq (pc := 54) C 61 dX8_valueOf_54 rfl hF (fun c25 hF => ?_) (fun c25 hF => ?_)
        · refine x_iconst (pc := 61) C (-1) dX8_valueOf_61 ki_m1 ?_
          obtain ⟨rfl, rfl⟩ := ret_eq hF
          exact x_iret (pc := 62) C hr rfl (fun _ h => h) dX8_valueOf_62
        · refine x_iload_n (pc := 57) C 1 dX8_valueOf_57 rfl rfl ?_
          refine x_goto (pc := 58) C 62 dX8_valueOf_58 rfl ?_
          obtain ⟨rfl, rfl⟩ := ret_eq hF
          exact x_iret (pc := 62) C hr rfl (fun _ h => h) dX8_valueOf_62
    · refine x_iconst (pc := 22) C 4 dX8_valueOf_22 ki_4 ?_
      refine x_goto (pc := 23) C 47 dX8_valueOf_23 rfl ?_
      refine x_istore_n (pc := 47) C [(3, .int (4)), (2, .int ((a2 - 97))), (0, .int (a1)), (1, .int (a2))] dX8_valueOf_47 rfl (by decide) rfl ?_
      refine x_iload_n (pc := 48) C 1 dX8_valueOf_48 rfl rfl ?_
      refine x_iconst (pc := 49) C 0 dX8_valueOf_49 ki_0 ?_
      refine x_iload_n (pc := 50) C 0 dX8_valueOf_50 rfl rfl ?_
      refine cS1_3 (pc := 51) (val := Value.int) C hF (fun _ _ h => c_X8_in l G b  _ _ _ h) sm_X8_in wq307 rfl rfl ⟨Nat.le_of_ble_eq_true rfl, Nat.le_of_ble_eq_true rfl⟩ (Nat.le_of_ble_eq_true rfl) ⟨Nat.le_refl _, Nat.le_refl _⟩ dX8_valueOf_51 (fun x28 w27 hF => ?_)
      refine x_if_eq (pc := 54) C 61 dX8_valueOf_54 rfl hF (fun c29 hF => ?_) (fun c29 hF => ?_)
      · refine x_iconst (pc := 61) C (-1) dX8_valueOf_61 ki_m1 ?_
        obtain ⟨rfl, rfl⟩ := ret_eq hF
        exact x_iret (pc := 62) C hr rfl (fun _ h => h) dX8_valueOf_62
      · refine x_iload_n (pc := 57) C 1 dX8_valueOf_57 rfl rfl ?_
        refine x_goto (pc := 58) C 62 dX8_valueOf_58 rfl ?_
        obtain ⟨rfl, rfl⟩ := ret_eq hF
        exact x_iret (pc := 62) C hr rfl (fun _ h => h) dX8_valueOf_62
set_option maxRecDepth 4000 in
theorem s_X8_readOrder_57 (C : xC p m c s args meth G b cX8_readOrder 7 RX8)    : ∀ (n9 : Nat) (l1 : Int32) (l2 : Int32) (l3 : Int32) (l4 : Int32) (l5 : Int32) (w : xWt) (o : (Int32 × Int32 × Int32)) (w' : xWt), L_X8_readOrder_57  n9 l1 l2 l3 l4 l5 w = some (o, w') → xW p l e (xR 2) s m args below meth c Q b 7 (CW G b w') 0 0 151 [(0, .ref (mdb b)), (1, .int (l1)), (2, .int (l2)), (3, .int (o.1)), (4, .int (o.2.1)), (5, .int (o.2.2))] [] → xW p l e (xR 2) s m args below meth c Q b 7 (CW G b w) 0 0 57 [(0, .ref (mdb b)), (1, .int (l1)), (2, .int (l2)), (3, .int (l3)), (4, .int (l4)), (5, .int (l5))] [] := by
  intro n9
  induction n9 with
  | zero => intro l1 l2 l3 l4 l5 w o w' hF; exact none_ne (show none = some _ from hF)
  | succ n9 ih =>
    intro l1 l2 l3 l4 l5 w o w' hF kx
    replace hF : B_X8_readOrder_57  (L_X8_readOrder_57  n9) l1 l2 l3 l4 l5 w = some (o, w') := hF
    unfold B_X8_readOrder_57 at hF
    refine x_iload (pc := 57) C 5 dX8_readOrder_57 rfl ?_
    refine x_if_le (pc := 59) C 151 dX8_readOrder_59 rfl hF (fun c31 hF => ?_) (fun c31 hF => ?_)
    · obtain ⟨rfl, rfl⟩ := ret_eq hF
      exact x_sub [0, 1, 2, 3, 4, 5] rfl kx
    · refine x_iload (pc := 62) C 4 dX8_readOrder_62 rfl ?_
      refine x_if_ne (pc := 64) C 151 dX8_readOrder_64 rfl hF (fun c30 hF => ?_) (fun c30 hF => ?_)
      · obtain ⟨rfl, rfl⟩ := ret_eq hF
        exact x_sub [0, 1, 2, 3, 4, 5] rfl kx
      · refine x_iload_n (pc := 67) C 2 dX8_readOrder_67 rfl rfl ?_
        refine x_iload (pc := 68) C 5 dX8_readOrder_68 rfl ?_
        refine y_idiv (pc := 70) C dX8_readOrder_70 hF (fun x4 hF => ?_)
        refine x_bipush (pc := 71) C 10 dX8_readOrder_71 kb_10 ?_
        refine y_irem (pc := 73) C dX8_readOrder_73 hF (fun x5 hF => ?_)
        refine x_istore (pc := 74) C [(6, .int (x5)), (0, .ref (mdb b)), (1, .int (l1)), (2, .int (l2)), (3, .int (l3)), (4, .int (l4)), (5, .int (l5))] dX8_readOrder_74 (by decide) rfl ?_
        refine x_iload (pc := 76) C 0 dX8_readOrder_76 rfl ?_
        refine x_if_le (pc := 78) C 141 dX8_readOrder_78 rfl hF (fun c29 hF => ?_) (fun c29 hF => ?_)
        · refine x_iload (pc := 141) C 6 dX8_readOrder_141 rfl ?_
          refine x_bipush (pc := 143) C 10 dX8_readOrder_143 kb_10 ?_
          refine y_idiv (pc := 145) C dX8_readOrder_145 hF (fun x6 hF => ?_)
          refine x_istore (pc := 146) C [(5, .int (x6)), (6, .int (x5)), (0, .ref (mdb b)), (1, .int (l1)), (2, .int (l2)), (3, .int (l3)), (4, .int (l4))] dX8_readOrder_146 (by decide) rfl ?_
          refine x_goto (pc := 148) C 57 dX8_readOrder_148 rfl ?_
          exact x_sub [2, 3, 4, 5, 6, 0] rfl (ih _ _ _ _ _ _ _ _ hF kx)
        · refine x_aload_n (pc := 81) C 1 dX8_readOrder_81 rfl rfl ?_
          refine gf_X8_22 (pc := 82) C  dX8_readOrder_82 ?_
          refine x_iload (pc := 85) C 0 dX8_readOrder_85 rfl ?_
          refine x_iload_n (pc := 87) C 4 dX8_readOrder_87 rfl rfl ?_
          refine x_aload_n (pc := 88) C 1 dX8_readOrder_88 rfl rfl ?_
          refine gf_X8_179 (pc := 89) C  dX8_readOrder_89 ?_
          refine x_icmp_ge (pc := 92) C 109 dX8_readOrder_92 rfl hF (fun c28 hF => ?_) (fun c28 hF => ?_)
          · refine x_iconst (pc := 109) C (-1) dX8_readOrder_109 ki_m1 ?_
            refine w_ast (pc := 110) C (vA_m 4 (by decide)) hF dX8_readOrder_110 (fun w7 hF => ?_)
            refine x_aload_n (pc := 111) C 1 dX8_readOrder_111 rfl rfl ?_
            refine gf_X8_22 (pc := 112) C  dX8_readOrder_112 ?_
            refine x_iload (pc := 115) C 0 dX8_readOrder_115 rfl ?_
            refine w_ald (pc := 117) C (vA_m 4 (by decide)) hF dX8_readOrder_117 (fun x8 hF => ?_)
            refine x_if_ge (pc := 118) C 125 dX8_readOrder_118 rfl hF (fun c15 hF => ?_) (fun c15 hF => ?_)
            · refine x_iconst (pc := 125) C 0 dX8_readOrder_125 ki_0 ?_
              refine x_istore (pc := 126) C [(4, .int (0)), (6, .int (x5)), (0, .ref (mdb b)), (1, .int (l1)), (2, .int (l2)), (3, .int (l3)), (5, .int (l5))] dX8_readOrder_126 (by decide) rfl ?_
              refine x_iload_n (pc := 128) C 5 dX8_readOrder_128 rfl rfl ?_
              refine x_iload (pc := 129) C 0 dX8_readOrder_129 rfl ?_
              refine x_if_eq (pc := 131) C 138 dX8_readOrder_131 rfl (cst_t (c9 := (0 : Int32) = 0) (by decide) hF) (fun c11 hF => ?_) (fun c11 _ => absurd (by decide) c11)
              refine x_iconst (pc := 138) C 1 dX8_readOrder_138 ki_1 ?_
              refine x_iadd (pc := 139) C dX8_readOrder_139 ?_
              refine x_istore_n (pc := 140) C [(3, .int ((l3 + 1))), (4, .int (0)), (6, .int (x5)), (0, .ref (mdb b)), (1, .int (l1)), (2, .int (l2)), (5, .int (l5))] dX8_readOrder_140 rfl (by decide) rfl ?_
              refine x_iload (pc := 141) C 6 dX8_readOrder_141 rfl ?_
              refine x_bipush (pc := 143) C 10 dX8_readOrder_143 kb_10 ?_
              refine y_idiv (pc := 145) C dX8_readOrder_145 hF (fun x9 hF => ?_)
              refine x_istore (pc := 146) C [(5, .int (x9)), (3, .int ((l3 + 1))), (4, .int (0)), (6, .int (x5)), (0, .ref (mdb b)), (1, .int (l1)), (2, .int (l2))] dX8_readOrder_146 (by decide) rfl ?_
              refine x_goto (pc := 148) C 57 dX8_readOrder_148 rfl ?_
              exact x_sub [4, 5, 6, 1, 2, 0] rfl (ih _ _ _ _ _ _ _ _ hF kx)
            · refine x_iconst (pc := 121) C 1 dX8_readOrder_121 ki_1 ?_
              refine x_goto (pc := 122) C 126 dX8_readOrder_122 rfl ?_
              refine x_istore (pc := 126) C [(4, .int (1)), (6, .int (x5)), (0, .ref (mdb b)), (1, .int (l1)), (2, .int (l2)), (3, .int (l3)), (5, .int (l5))] dX8_readOrder_126 (by decide) rfl ?_
              refine x_iload_n (pc := 128) C 5 dX8_readOrder_128 rfl rfl ?_
              refine x_iload (pc := 129) C 0 dX8_readOrder_129 rfl ?_
              refine x_if_eq (pc := 131) C 138 dX8_readOrder_131 rfl (cst_f (c9 := (1 : Int32) = 0) (by decide) hF) (fun c14 _ => absurd c14 (by decide)) (fun c14 hF => ?_)
              refine x_iconst (pc := 134) C 0 dX8_readOrder_134 ki_0 ?_
              refine x_goto (pc := 135) C 139 dX8_readOrder_135 rfl ?_
              refine x_iadd (pc := 139) C dX8_readOrder_139 ?_
              refine x_istore_n (pc := 140) C [(3, .int ((l3 + 0))), (4, .int (1)), (6, .int (x5)), (0, .ref (mdb b)), (1, .int (l1)), (2, .int (l2)), (5, .int (l5))] dX8_readOrder_140 rfl (by decide) rfl ?_
              refine x_iload (pc := 141) C 6 dX8_readOrder_141 rfl ?_
              refine x_bipush (pc := 143) C 10 dX8_readOrder_143 kb_10 ?_
              refine y_idiv (pc := 145) C dX8_readOrder_145 hF (fun x13 hF => ?_)
              refine x_istore (pc := 146) C [(5, .int (x13)), (3, .int ((l3 + 0))), (4, .int (1)), (6, .int (x5)), (0, .ref (mdb b)), (1, .int (l1)), (2, .int (l2))] dX8_readOrder_146 (by decide) rfl ?_
              refine x_goto (pc := 148) C 57 dX8_readOrder_148 rfl ?_
              exact x_sub [4, 5, 6, 1, 2, 0] rfl (ih _ _ _ _ _ _ _ _ hF kx)
          · refine x_iload (pc := 95) C 0 dX8_readOrder_95 rfl ?_
            refine x_aload_n (pc := 97) C 1 dX8_readOrder_97 rfl rfl ?_
            refine gf_X8_19 (pc := 98) C  dX8_readOrder_98 ?_
            refine x_iload_n (pc := 101) C 4 dX8_readOrder_101 rfl rfl ?_
            refine w_ald (pc := 102) C (vA_m 3 (by decide)) hF dX8_readOrder_102 (fun x16 hF => ?_)
            refine cS1_2 (pc := 103) (val := Value.int) C hF (fun _ _ h => c_X8_valueOf l G b  _ _ h) sm_X8_valueOf wq849 rfl rfl ⟨Nat.le_of_ble_eq_true rfl, Nat.le_of_ble_eq_true rfl⟩ (Nat.le_of_ble_eq_true rfl) ⟨Nat.le_refl _, Nat.le_refl _⟩ dX8_readOrder_103 (fun x18 w17 hF => ?_)
            refine x_goto (pc := 106) C 110 dX8_readOrder_106 rfl ?_
            refine w_ast (pc := 110) C (vA_m 4 (by decide)) hF dX8_readOrder_110 (fun w19 hF => ?_)
            refine x_aload_n (pc := 111) C 1 dX8_readOrder_111 rfl rfl ?_
            refine gf_X8_22 (pc := 112) C  dX8_readOrder_112 ?_
            refine x_iload (pc := 115) C 0 dX8_readOrder_115 rfl ?_
            refine w_ald (pc := 117) C (vA_m 4 (by decide)) hF dX8_readOrder_117 (fun x20 hF => ?_)
            refine x_if_ge (pc := 118) C 125 dX8_readOrder_118 rfl hF (fun c27 hF => ?_) (fun c27 hF => ?_)
            · refine x_iconst (pc := 125) C 0 dX8_readOrder_125 ki_0 ?_
              refine x_istore (pc := 126) C [(4, .int (0)), (6, .int (x5)), (0, .ref (mdb b)), (1, .int (l1)), (2, .int (l2)), (3, .int (l3)), (5, .int (l5))] dX8_readOrder_126 (by decide) rfl ?_
              refine x_iload_n (pc := 128) C 5 dX8_readOrder_128 rfl rfl ?_
              refine x_iload (pc := 129) C 0 dX8_readOrder_129 rfl ?_
              refine x_if_eq (pc := 131) C 138 dX8_readOrder_131 rfl (cst_t (c9 := (0 : Int32) = 0) (by decide) hF) (fun c23 hF => ?_) (fun c23 _ => absurd (by decide) c23)
              refine x_iconst (pc := 138) C 1 dX8_readOrder_138 ki_1 ?_
              refine x_iadd (pc := 139) C dX8_readOrder_139 ?_
              refine x_istore_n (pc := 140) C [(3, .int ((l3 + 1))), (4, .int (0)), (6, .int (x5)), (0, .ref (mdb b)), (1, .int (l1)), (2, .int (l2)), (5, .int (l5))] dX8_readOrder_140 rfl (by decide) rfl ?_
              refine x_iload (pc := 141) C 6 dX8_readOrder_141 rfl ?_
              refine x_bipush (pc := 143) C 10 dX8_readOrder_143 kb_10 ?_
              refine y_idiv (pc := 145) C dX8_readOrder_145 hF (fun x21 hF => ?_)
              refine x_istore (pc := 146) C [(5, .int (x21)), (3, .int ((l3 + 1))), (4, .int (0)), (6, .int (x5)), (0, .ref (mdb b)), (1, .int (l1)), (2, .int (l2))] dX8_readOrder_146 (by decide) rfl ?_
              refine x_goto (pc := 148) C 57 dX8_readOrder_148 rfl ?_
              exact x_sub [4, 5, 6, 1, 2, 0] rfl (ih _ _ _ _ _ _ _ _ hF kx)
            · refine x_iconst (pc := 121) C 1 dX8_readOrder_121 ki_1 ?_
              refine x_goto (pc := 122) C 126 dX8_readOrder_122 rfl ?_
              refine x_istore (pc := 126) C [(4, .int (1)), (6, .int (x5)), (0, .ref (mdb b)), (1, .int (l1)), (2, .int (l2)), (3, .int (l3)), (5, .int (l5))] dX8_readOrder_126 (by decide) rfl ?_
              refine x_iload_n (pc := 128) C 5 dX8_readOrder_128 rfl rfl ?_
              refine x_iload (pc := 129) C 0 dX8_readOrder_129 rfl ?_
              refine x_if_eq (pc := 131) C 138 dX8_readOrder_131 rfl (cst_f (c9 := (1 : Int32) = 0) (by decide) hF) (fun c26 _ => absurd c26 (by decide)) (fun c26 hF => ?_)
              refine x_iconst (pc := 134) C 0 dX8_readOrder_134 ki_0 ?_
              refine x_goto (pc := 135) C 139 dX8_readOrder_135 rfl ?_
              refine x_iadd (pc := 139) C dX8_readOrder_139 ?_
              refine x_istore_n (pc := 140) C [(3, .int ((l3 + 0))), (4, .int (1)), (6, .int (x5)), (0, .ref (mdb b)), (1, .int (l1)), (2, .int (l2)), (5, .int (l5))] dX8_readOrder_140 rfl (by decide) rfl ?_
              refine x_iload (pc := 141) C 6 dX8_readOrder_141 rfl ?_
              refine x_bipush (pc := 143) C 10 dX8_readOrder_143 kb_10 ?_
              refine y_idiv (pc := 145) C dX8_readOrder_145 hF (fun x25 hF => ?_)
              refine x_istore (pc := 146) C [(5, .int (x25)), (3, .int ((l3 + 0))), (4, .int (1)), (6, .int (x5)), (0, .ref (mdb b)), (1, .int (l1)), (2, .int (l2))] dX8_readOrder_146 (by decide) rfl ?_
              refine x_goto (pc := 148) C 57 dX8_readOrder_148 rfl ?_
              exact x_sub [4, 5, 6, 1, 2, 0] rfl (ih _ _ _ _ _ _ _ _ hF kx)
set_option maxRecDepth 4000 in
theorem c_X8_readOrder (l : Launch) (G : xG) (b : Nat)     (a1 : Int32) {w w' : xWt} {v : Int32} (hF : F_X8_readOrder a1 w = some (v, w')) : xMet l G b yX8_readOrder cX8_readOrder 7 (some .int) (xR 2) [.ref (mdb b), .int (a1)] (CW G b w) (some (.int v)) (CW G b w') 0 0 := by
  refine x_of (own := RX8) rfl (plainFor_of_name pn_X8) (Nat.le_of_ble_eq_true rfl) ?_
  intro p e s m args below meth c ha C hr _
  unfold F_X8_readOrder at hF
  refine x_aload_n (pc := 0) C 0 dX8_readOrder_0 rfl rfl ?_
  refine x_iload_n (pc := 1) C 1 dX8_readOrder_1 rfl rfl ?_
  refine x_aload_n (pc := 2) C 0 dX8_readOrder_2 rfl rfl ?_
  refine gf_X8_179 (pc := 3) C  dX8_readOrder_3 ?_
  refine x_icmp_ge (pc := 6) C 18 dX8_readOrder_6 rfl hF (fun c66 hF => ?_) (fun c66 hF => ?_)
  · refine x_iconst (pc := 18) C 0 dX8_readOrder_18 ki_0 ?_
    refine pf_X8_182 (pc := 19) C   hF dX8_readOrder_19 (fun w1 hF => ?_)
    refine x_aload_n (pc := 22) C 0 dX8_readOrder_22 rfl rfl ?_
    refine gf_X8_182 (pc := 23) C  dX8_readOrder_23 ?_
    refine cS1_1 (pc := 26) (val := Value.int) C hF (fun _ _ h => c_X8_shapeOf l G b  _ h) sm_X8_shapeOf wq846 rfl rfl ⟨Nat.le_of_ble_eq_true rfl, Nat.le_of_ble_eq_true rfl⟩ (Nat.le_of_ble_eq_true rfl) ⟨Nat.le_refl _, Nat.le_refl _⟩ dX8_readOrder_26 (fun x3 w2 hF => ?_)
    refine x_istore_n (pc := 29) C [(2, .int (x3)), (0, .ref (mdb b)), (1, .int (a1))] dX8_readOrder_29 rfl (by decide) rfl ?_
    refine x_iload_n (pc := 30) C 0 dX8_readOrder_30 rfl rfl ?_
    refine x_if_ge (pc := 31) C 38 dX8_readOrder_31 rfl hF (fun c46 hF => ?_) (fun c46 hF => ?_)
    · refine x_iload_n (pc := 38) C 2 dX8_readOrder_38 rfl rfl ?_
      refine x_iconst (pc := 39) C 1 dX8_readOrder_39 ki_1 ?_
      refine x_iadd (pc := 40) C dX8_readOrder_40 ?_
      refine x_istore_n (pc := 41) C [(3, .int ((a1 + 1))), (2, .int (x3)), (0, .ref (mdb b)), (1, .int (a1))] dX8_readOrder_41 rfl (by decide) rfl ?_
      refine x_iload_n (pc := 42) C 1 dX8_readOrder_42 rfl rfl ?_
      refine x_if_ge (pc := 43) C 50 dX8_readOrder_43 rfl hF (fun c38 hF => ?_) (fun c38 hF => ?_)
      · refine x_iconst (pc := 50) C 0 dX8_readOrder_50 ki_0 ?_
        refine x_istore (pc := 51) C [(4, .int (0)), (3, .int ((a1 + 1))), (2, .int (x3)), (0, .ref (mdb b)), (1, .int (a1))] dX8_readOrder_51 (by decide) rfl ?_
        refine x_bipush (pc := 53) C 100 dX8_readOrder_53 kb_100 ?_
        refine x_istore (pc := 55) C [(5, .int (100)), (4, .int (0)), (3, .int ((a1 + 1))), (2, .int (x3)), (0, .ref (mdb b)), (1, .int (a1))] dX8_readOrder_55 (by decide) rfl ?_
        obtain ⟨o32, w33, hL, hF⟩ := bd_some hF
        refine x_sub [4, 5, 3, 2, 1, 0] rfl (s_X8_readOrder_57 C  _ _ _ _ _ _ _ _ _ hL ?_)
        refine x_iload (pc := 151) C 4 dX8_readOrder_151 rfl ?_
        refine x_if_eq (pc := 153) C 162 dX8_readOrder_153 rfl hF (fun c34 hF => ?_) (fun c34 hF => ?_)
        · refine x_iload_n (pc := 162) C 3 dX8_readOrder_162 rfl rfl ?_
          obtain ⟨rfl, rfl⟩ := ret_eq hF
          exact x_iret (pc := 163) C hr rfl (fun _ h => h) dX8_readOrder_163
        · refine x_iconst (pc := 156) C (-1) dX8_readOrder_156 ki_m1 ?_
          refine x_iload_n (pc := 157) C 3 dX8_readOrder_157 rfl rfl ?_
          refine x_isub (pc := 158) C dX8_readOrder_158 ?_
          refine x_goto (pc := 159) C 163 dX8_readOrder_159 rfl ?_
          obtain ⟨rfl, rfl⟩ := ret_eq hF
          exact x_iret (pc := 163) C hr rfl (fun _ h => h) dX8_readOrder_163
      · refine x_iconst (pc := 46) C 1 dX8_readOrder_46 ki_1 ?_
        refine x_goto (pc := 47) C 51 dX8_readOrder_47 rfl ?_
        refine x_istore (pc := 51) C [(4, .int (1)), (3, .int ((a1 + 1))), (2, .int (x3)), (0, .ref (mdb b)), (1, .int (a1))] dX8_readOrder_51 (by decide) rfl ?_
        refine x_bipush (pc := 53) C 100 dX8_readOrder_53 kb_100 ?_
        refine x_istore (pc := 55) C [(5, .int (100)), (4, .int (1)), (3, .int ((a1 + 1))), (2, .int (x3)), (0, .ref (mdb b)), (1, .int (a1))] dX8_readOrder_55 (by decide) rfl ?_
        obtain ⟨o35, w36, hL, hF⟩ := bd_some hF
        refine x_sub [4, 5, 3, 2, 1, 0] rfl (s_X8_readOrder_57 C  _ _ _ _ _ _ _ _ _ hL ?_)
        refine x_iload (pc := 151) C 4 dX8_readOrder_151 rfl ?_
        refine x_if_eq (pc := 153) C 162 dX8_readOrder_153 rfl hF (fun c37 hF => ?_) (fun c37 hF => ?_)
        · refine x_iload_n (pc := 162) C 3 dX8_readOrder_162 rfl rfl ?_
          obtain ⟨rfl, rfl⟩ := ret_eq hF
          exact x_iret (pc := 163) C hr rfl (fun _ h => h) dX8_readOrder_163
        · refine x_iconst (pc := 156) C (-1) dX8_readOrder_156 ki_m1 ?_
          refine x_iload_n (pc := 157) C 3 dX8_readOrder_157 rfl rfl ?_
          refine x_isub (pc := 158) C dX8_readOrder_158 ?_
          refine x_goto (pc := 159) C 163 dX8_readOrder_159 rfl ?_
          obtain ⟨rfl, rfl⟩ := ret_eq hF
          exact x_iret (pc := 163) C hr rfl (fun _ h => h) dX8_readOrder_163
    · refine x_iload_n (pc := 34) C 2 dX8_readOrder_34 rfl rfl ?_
      refine x_goto (pc := 35) C 41 dX8_readOrder_35 rfl ?_
      refine x_istore_n (pc := 41) C [(3, .int (a1)), (2, .int (x3)), (0, .ref (mdb b)), (1, .int (a1))] dX8_readOrder_41 rfl (by decide) rfl ?_
      refine x_iload_n (pc := 42) C 1 dX8_readOrder_42 rfl rfl ?_
      refine x_if_ge (pc := 43) C 50 dX8_readOrder_43 rfl hF (fun c45 hF => ?_) (fun c45 hF => ?_)
      · refine x_iconst (pc := 50) C 0 dX8_readOrder_50 ki_0 ?_
        refine x_istore (pc := 51) C [(4, .int (0)), (3, .int (a1)), (2, .int (x3)), (0, .ref (mdb b)), (1, .int (a1))] dX8_readOrder_51 (by decide) rfl ?_
        refine x_bipush (pc := 53) C 100 dX8_readOrder_53 kb_100 ?_
        refine x_istore (pc := 55) C [(5, .int (100)), (4, .int (0)), (3, .int (a1)), (2, .int (x3)), (0, .ref (mdb b)), (1, .int (a1))] dX8_readOrder_55 (by decide) rfl ?_
        obtain ⟨o39, w40, hL, hF⟩ := bd_some hF
        refine x_sub [4, 5, 3, 2, 1, 0] rfl (s_X8_readOrder_57 C  _ _ _ _ _ _ _ _ _ hL ?_)
        refine x_iload (pc := 151) C 4 dX8_readOrder_151 rfl ?_
        refine x_if_eq (pc := 153) C 162 dX8_readOrder_153 rfl hF (fun c41 hF => ?_) (fun c41 hF => ?_)
        · refine x_iload_n (pc := 162) C 3 dX8_readOrder_162 rfl rfl ?_
          obtain ⟨rfl, rfl⟩ := ret_eq hF
          exact x_iret (pc := 163) C hr rfl (fun _ h => h) dX8_readOrder_163
        · refine x_iconst (pc := 156) C (-1) dX8_readOrder_156 ki_m1 ?_
          refine x_iload_n (pc := 157) C 3 dX8_readOrder_157 rfl rfl ?_
          refine x_isub (pc := 158) C dX8_readOrder_158 ?_
          refine x_goto (pc := 159) C 163 dX8_readOrder_159 rfl ?_
          obtain ⟨rfl, rfl⟩ := ret_eq hF
          exact x_iret (pc := 163) C hr rfl (fun _ h => h) dX8_readOrder_163
      · refine x_iconst (pc := 46) C 1 dX8_readOrder_46 ki_1 ?_
        refine x_goto (pc := 47) C 51 dX8_readOrder_47 rfl ?_
        refine x_istore (pc := 51) C [(4, .int (1)), (3, .int (a1)), (2, .int (x3)), (0, .ref (mdb b)), (1, .int (a1))] dX8_readOrder_51 (by decide) rfl ?_
        refine x_bipush (pc := 53) C 100 dX8_readOrder_53 kb_100 ?_
        refine x_istore (pc := 55) C [(5, .int (100)), (4, .int (1)), (3, .int (a1)), (2, .int (x3)), (0, .ref (mdb b)), (1, .int (a1))] dX8_readOrder_55 (by decide) rfl ?_
        obtain ⟨o42, w43, hL, hF⟩ := bd_some hF
        refine x_sub [4, 5, 3, 2, 1, 0] rfl (s_X8_readOrder_57 C  _ _ _ _ _ _ _ _ _ hL ?_)
        refine x_iload (pc := 151) C 4 dX8_readOrder_151 rfl ?_
        refine x_if_eq (pc := 153) C 162 dX8_readOrder_153 rfl hF (fun c44 hF => ?_) (fun c44 hF => ?_)
        · refine x_iload_n (pc := 162) C 3 dX8_readOrder_162 rfl rfl ?_
          obtain ⟨rfl, rfl⟩ := ret_eq hF
          exact x_iret (pc := 163) C hr rfl (fun _ h => h) dX8_readOrder_163
        · refine x_iconst (pc := 156) C (-1) dX8_readOrder_156 ki_m1 ?_
          refine x_iload_n (pc := 157) C 3 dX8_readOrder_157 rfl rfl ?_
          refine x_isub (pc := 158) C dX8_readOrder_158 ?_
          refine x_goto (pc := 159) C 163 dX8_readOrder_159 rfl ?_
          obtain ⟨rfl, rfl⟩ := ret_eq hF
          exact x_iret (pc := 163) C hr rfl (fun _ h => h) dX8_readOrder_163
  · refine x_aload_n (pc := 9) C 0 dX8_readOrder_9 rfl rfl ?_
    refine gf_X8_19 (pc := 10) C  dX8_readOrder_10 ?_
    refine x_iload_n (pc := 13) C 1 dX8_readOrder_13 rfl rfl ?_
    refine w_ald (pc := 14) C (vA_m 3 (by decide)) hF dX8_readOrder_14 (fun x47 hF => ?_)
    refine x_goto (pc := 15) C 19 dX8_readOrder_15 rfl ?_
    refine pf_X8_182 (pc := 19) C   hF dX8_readOrder_19 (fun w48 hF => ?_)
    refine x_aload_n (pc := 22) C 0 dX8_readOrder_22 rfl rfl ?_
    refine gf_X8_182 (pc := 23) C  dX8_readOrder_23 ?_
    refine cS1_1 (pc := 26) (val := Value.int) C hF (fun _ _ h => c_X8_shapeOf l G b  _ h) sm_X8_shapeOf wq846 rfl rfl ⟨Nat.le_of_ble_eq_true rfl, Nat.le_of_ble_eq_true rfl⟩ (Nat.le_of_ble_eq_true rfl) ⟨Nat.le_refl _, Nat.le_refl _⟩ dX8_readOrder_26 (fun x50 w49 hF => ?_)
    refine x_istore_n (pc := 29) C [(2, .int (x50)), (0, .ref (mdb b)), (1, .int (a1))] dX8_readOrder_29 rfl (by decide) rfl ?_
    refine x_iload_n (pc := 30) C 0 dX8_readOrder_30 rfl rfl ?_
    refine x_if_ge (pc := 31) C 38 dX8_readOrder_31 rfl hF (fun c65 hF => ?_) (fun c65 hF => ?_)
    · refine x_iload_n (pc := 38) C 2 dX8_readOrder_38 rfl rfl ?_
      refine x_iconst (pc := 39) C 1 dX8_readOrder_39 ki_1 ?_
      refine x_iadd (pc := 40) C dX8_readOrder_40 ?_
      refine x_istore_n (pc := 41) C [(3, .int ((a1 + 1))), (2, .int (x50)), (0, .ref (mdb b)), (1, .int (a1))] dX8_readOrder_41 rfl (by decide) rfl ?_
      refine x_iload_n (pc := 42) C 1 dX8_readOrder_42 rfl rfl ?_
      refine x_if_ge (pc := 43) C 50 dX8_readOrder_43 rfl hF (fun c57 hF => ?_) (fun c57 hF => ?_)
      · refine x_iconst (pc := 50) C 0 dX8_readOrder_50 ki_0 ?_
        refine x_istore (pc := 51) C [(4, .int (0)), (3, .int ((a1 + 1))), (2, .int (x50)), (0, .ref (mdb b)), (1, .int (a1))] dX8_readOrder_51 (by decide) rfl ?_
        refine x_bipush (pc := 53) C 100 dX8_readOrder_53 kb_100 ?_
        refine x_istore (pc := 55) C [(5, .int (100)), (4, .int (0)), (3, .int ((a1 + 1))), (2, .int (x50)), (0, .ref (mdb b)), (1, .int (a1))] dX8_readOrder_55 (by decide) rfl ?_
        obtain ⟨o51, w52, hL, hF⟩ := bd_some hF
        refine x_sub [4, 5, 3, 2, 1, 0] rfl (s_X8_readOrder_57 C  _ _ _ _ _ _ _ _ _ hL ?_)
        refine x_iload (pc := 151) C 4 dX8_readOrder_151 rfl ?_
        refine x_if_eq (pc := 153) C 162 dX8_readOrder_153 rfl hF (fun c53 hF => ?_) (fun c53 hF => ?_)
        · refine x_iload_n (pc := 162) C 3 dX8_readOrder_162 rfl rfl ?_
          obtain ⟨rfl, rfl⟩ := ret_eq hF
          exact x_iret (pc := 163) C hr rfl (fun _ h => h) dX8_readOrder_163
        · refine x_iconst (pc := 156) C (-1) dX8_readOrder_156 ki_m1 ?_
          refine x_iload_n (pc := 157) C 3 dX8_readOrder_157 rfl rfl ?_
          refine x_isub (pc := 158) C dX8_readOrder_158 ?_
          refine x_goto (pc := 159) C 163 dX8_readOrder_159 rfl ?_
          obtain ⟨rfl, rfl⟩ := ret_eq hF
          exact x_iret (pc := 163) C hr rfl (fun _ h => h) dX8_readOrder_163
      · refine x_iconst (pc := 46) C 1 dX8_readOrder_46 ki_1 ?_
        refine x_goto (pc := 47) C 51 dX8_readOrder_47 rfl ?_
        refine x_istore (pc := 51) C [(4, .int (1)), (3, .int ((a1 + 1))), (2, .int (x50)), (0, .ref (mdb b)), (1, .int (a1))] dX8_readOrder_51 (by decide) rfl ?_
        refine x_bipush (pc := 53) C 100 dX8_readOrder_53 kb_100 ?_
        refine x_istore (pc := 55) C [(5, .int (100)), (4, .int (1)), (3, .int ((a1 + 1))), (2, .int (x50)), (0, .ref (mdb b)), (1, .int (a1))] dX8_readOrder_55 (by decide) rfl ?_
        obtain ⟨o54, w55, hL, hF⟩ := bd_some hF
        refine x_sub [4, 5, 3, 2, 1, 0] rfl (s_X8_readOrder_57 C  _ _ _ _ _ _ _ _ _ hL ?_)
        refine x_iload (pc := 151) C 4 dX8_readOrder_151 rfl ?_
        refine x_if_eq (pc := 153) C 162 dX8_readOrder_153 rfl hF (fun c56 hF => ?_) (fun c56 hF => ?_)
        · refine x_iload_n (pc := 162) C 3 dX8_readOrder_162 rfl rfl ?_
          obtain ⟨rfl, rfl⟩ := ret_eq hF
          exact x_iret (pc := 163) C hr rfl (fun _ h => h) dX8_readOrder_163
        · refine x_iconst (pc := 156) C (-1) dX8_readOrder_156 ki_m1 ?_
          refine x_iload_n (pc := 157) C 3 dX8_readOrder_157 rfl rfl ?_
          refine x_isub (pc := 158) C dX8_readOrder_158 ?_
          refine x_goto (pc := 159) C 163 dX8_readOrder_159 rfl ?_
          obtain ⟨rfl, rfl⟩ := ret_eq hF
          exact x_iret (pc := 163) C hr rfl (fun _ h => h) dX8_readOrder_163
    · refine x_iload_n (pc := 34) C 2 dX8_readOrder_34 rfl rfl ?_
      refine x_goto (pc := 35) C 41 dX8_readOrder_35 rfl ?_
      refine x_istore_n (pc := 41) C [(3, .int (a1)), (2, .int (x50)), (0, .ref (mdb b)), (1, .int (a1))] dX8_readOrder_41 rfl (by decide) rfl ?_
      refine x_iload_n (pc := 42) C 1 dX8_readOrder_42 rfl rfl ?_
      refine x_if_ge (pc := 43) C 50 dX8_readOrder_43 rfl hF (fun c64 hF => ?_) (fun c64 hF => ?_)
      · refine x_iconst (pc := 50) C 0 dX8_readOrder_50 ki_0 ?_
        refine x_istore (pc := 51) C [(4, .int (0)), (3, .int (a1)), (2, .int (x50)), (0, .ref (mdb b)), (1, .int (a1))] dX8_readOrder_51 (by decide) rfl ?_
        refine x_bipush (pc := 53) C 100 dX8_readOrder_53 kb_100 ?_
        refine x_istore (pc := 55) C [(5, .int (100)), (4, .int (0)), (3, .int (a1)), (2, .int (x50)), (0, .ref (mdb b)), (1, .int (a1))] dX8_readOrder_55 (by decide) rfl ?_
        obtain ⟨o58, w59, hL, hF⟩ := bd_some hF
        refine x_sub [4, 5, 3, 2, 1, 0] rfl (s_X8_readOrder_57 C  _ _ _ _ _ _ _ _ _ hL ?_)
        refine x_iload (pc := 151) C 4 dX8_readOrder_151 rfl ?_
        refine x_if_eq (pc := 153) C 162 dX8_readOrder_153 rfl hF (fun c60 hF => ?_) (fun c60 hF => ?_)
        · refine x_iload_n (pc := 162) C 3 dX8_readOrder_162 rfl rfl ?_
          obtain ⟨rfl, rfl⟩ := ret_eq hF
          exact x_iret (pc := 163) C hr rfl (fun _ h => h) dX8_readOrder_163
        · refine x_iconst (pc := 156) C (-1) dX8_readOrder_156 ki_m1 ?_
          refine x_iload_n (pc := 157) C 3 dX8_readOrder_157 rfl rfl ?_
          refine x_isub (pc := 158) C dX8_readOrder_158 ?_
          refine x_goto (pc := 159) C 163 dX8_readOrder_159 rfl ?_
          obtain ⟨rfl, rfl⟩ := ret_eq hF
          exact x_iret (pc := 163) C hr rfl (fun _ h => h) dX8_readOrder_163
      · refine x_iconst (pc := 46) C 1 dX8_readOrder_46 ki_1 ?_
        refine x_goto (pc := 47) C 51 dX8_readOrder_47 rfl ?_
        refine x_istore (pc := 51) C [(4, .int (1)), (3, .int (a1)), (2, .int (x50)), (0, .ref (mdb b)), (1, .int (a1))] dX8_readOrder_51 (by decide) rfl ?_
        refine x_bipush (pc := 53) C 100 dX8_readOrder_53 kb_100 ?_
        refine x_istore (pc := 55) C [(5, .int (100)), (4, .int (1)), (3, .int (a1)), (2, .int (x50)), (0, .ref (mdb b)), (1, .int (a1))] dX8_readOrder_55 (by decide) rfl ?_
        obtain ⟨o61, w62, hL, hF⟩ := bd_some hF
        refine x_sub [4, 5, 3, 2, 1, 0] rfl (s_X8_readOrder_57 C  _ _ _ _ _ _ _ _ _ hL ?_)
        refine x_iload (pc := 151) C 4 dX8_readOrder_151 rfl ?_
        refine x_if_eq (pc := 153) C 162 dX8_readOrder_153 rfl hF (fun c63 hF => ?_) (fun c63 hF => ?_)
        · refine x_iload_n (pc := 162) C 3 dX8_readOrder_162 rfl rfl ?_
          obtain ⟨rfl, rfl⟩ := ret_eq hF
          exact x_iret (pc := 163) C hr rfl (fun _ h => h) dX8_readOrder_163
        · refine x_iconst (pc := 156) C (-1) dX8_readOrder_156 ki_m1 ?_
          refine x_iload_n (pc := 157) C 3 dX8_readOrder_157 rfl rfl ?_
          refine x_isub (pc := 158) C dX8_readOrder_158 ?_
          refine x_goto (pc := 159) C 163 dX8_readOrder_159 rfl ?_
          obtain ⟨rfl, rfl⟩ := ret_eq hF
          exact x_iret (pc := 163) C hr rfl (fun _ h => h) dX8_readOrder_163
set_option maxRecDepth 4000 in
theorem s_X8_findError_7 (C : xC p m c s args meth G b cX8_findError 2 RX8)   {vv : Option Value} {Pf : Heap → Prop} (hr : meth.sig.returnType = (some .int)) : ∀ (n9 : Nat) (l1 : Int32) (w : xWt) (o : ((Int32) ⊕ Int32)) (w' : xWt), L_X8_findError_7  n9 l1 w = some (o, w') → (∀ x : Int32, o = .inl x → xW p l e (xR 3) s m args below meth c (MQ below (xQ b vv Pf) args s 0 0 (xA b)) b 2 (CW G b w') 0 0 47 [(0, .ref (mdb b)), (1, .int (x))] []) → (∀ x : Int32, o = .inr x → some (.int x) = vv ∧ ∀ H, (CW G b w') H → Pf H) → xW p l e (xR 3) s m args below meth c (MQ below (xQ b vv Pf) args s 0 0 (xA b)) b 2 (CW G b w) 0 0 7 [(0, .ref (mdb b)), (1, .int (l1))] [] := by
  intro n9
  induction n9 with
  | zero => intro l1 w o w' hF; exact none_ne (show none = some _ from hF)
  | succ n9 ih =>
    intro l1 w o w' hF kx kr
    replace hF : B_X8_findError_7  (L_X8_findError_7  n9) l1 w = some (o, w') := hF
    unfold B_X8_findError_7 at hF
    refine x_aload_n (pc := 7) C 0 dX8_findError_7 rfl rfl ?_
    refine x_iload_n (pc := 8) C 1 dX8_findError_8 rfl rfl ?_
    refine cV1_1 (pc := 9) (val := Value.int) C hF (fun _ _ h => c_X8_readOrder l G b  _ h) vm_X8_readOrder wq841 rfl rfl ⟨Nat.le_of_ble_eq_true rfl, Nat.le_of_ble_eq_true rfl⟩ rfl rfl (fun _ h => CW.md h) (Nat.le_of_ble_eq_true rfl) ⟨Nat.le_refl _, Nat.le_refl _⟩ dX8_findError_9 (fun x3 w2 hF => ?_)
    refine x_istore_n (pc := 12) C [(1, .int (x3)), (0, .ref (mdb b))] dX8_findError_12 rfl (by decide) rfl ?_
    refine x_iload_n (pc := 13) C 0 dX8_findError_13 rfl rfl ?_
    refine x_if_ge (pc := 14) C 21 dX8_findError_14 rfl hF (fun c8 hF => ?_) (fun c8 hF => ?_)
    · refine x_iload_n (pc := 21) C 0 dX8_findError_21 rfl rfl ?_
      refine x_aload_n (pc := 22) C 1 dX8_findError_22 rfl rfl ?_
      refine gf_X8_179 (pc := 23) C  dX8_findError_23 ?_
      refine x_icmp_ne (pc := 26) C 36 dX8_findError_26 rfl hF (fun c7 hF => ?_) (fun c7 hF => ?_)
      · refine x_aload_n (pc := 36) C 1 dX8_findError_36 rfl rfl ?_
        refine gf_X8_19 (pc := 37) C  dX8_findError_37 ?_
        refine x_iload_n (pc := 40) C 0 dX8_findError_40 rfl rfl ?_
        refine w_ald (pc := 41) C (vA_m 3 (by decide)) hF dX8_findError_41 (fun x4 hF => ?_)
        refine x_bipush (pc := 42) C 59 dX8_findError_42 kb_59 ?_
        refine x_icmp_eq (pc := 44) C 49 dX8_findError_44 rfl hF (fun c5 hF => ?_) (fun c5 hF => ?_)
        · refine x_iinc (pc := 49) C 0 [(1, .int ((x3 + 1))), (0, .ref (mdb b))] dX8_findError_49 rfl rfl (by decide) rfl ?_
          refine x_goto (pc := 52) C 7 dX8_findError_52 rfl ?_
          exact x_sub [1, 0] rfl (ih _ _ _ _ hF kx kr)
        · obtain ⟨rfl, rfl⟩ := ret_eq hF
          exact x_sub [1, 0] rfl (kx _ rfl)
      · refine x_aload_n (pc := 29) C 1 dX8_findError_29 rfl rfl ?_
        refine x_iconst (pc := 30) C 1 dX8_findError_30 ki_1 ?_
        refine pf_X8_191 (pc := 31) C  (Or.inr rfl) hF dX8_findError_31 (fun w6 hF => ?_)
        refine x_iload_n (pc := 34) C 0 dX8_findError_34 rfl rfl ?_
        obtain ⟨rfl, rfl⟩ := ret_eq hF
        obtain ⟨hv9, hP9⟩ := kr _ rfl
        exact x_iret (pc := 35) C hr hv9 hP9 dX8_findError_35
    · refine x_iconst (pc := 17) C (-1) dX8_findError_17 ki_m1 ?_
      refine x_iload_n (pc := 18) C 0 dX8_findError_18 rfl rfl ?_
      refine x_isub (pc := 19) C dX8_findError_19 ?_
      obtain ⟨rfl, rfl⟩ := ret_eq hF
      obtain ⟨hv9, hP9⟩ := kr _ rfl
      exact x_iret (pc := 20) C hr hv9 hP9 dX8_findError_20
set_option maxRecDepth 4000 in
theorem c_X8_findError (l : Launch) (G : xG) (b : Nat)      {w w' : xWt} {v : Int32} (hF : F_X8_findError  w = some (v, w')) : xMet l G b yX8_findError cX8_findError 2 (some .int) (xR 3) [.ref (mdb b)] (CW G b w) (some (.int v)) (CW G b w') 0 0 := by
  refine x_of (own := RX8) rfl (plainFor_of_name pn_X8) (Nat.le_of_ble_eq_true rfl) ?_
  intro p e s m args below meth c ha C hr _
  unfold F_X8_findError at hF
  refine x_aload_n (pc := 0) C 0 dX8_findError_0 rfl rfl ?_
  refine x_iconst (pc := 1) C 0 dX8_findError_1 ki_0 ?_
  refine pf_X8_191 (pc := 2) C  (Or.inl rfl) hF dX8_findError_2 (fun w1 hF => ?_)
  refine x_iconst (pc := 5) C 0 dX8_findError_5 ki_0 ?_
  refine x_istore_n (pc := 6) C [(1, .int (0)), (0, .ref (mdb b))] dX8_findError_6 rfl (by decide) rfl ?_
  obtain ⟨o9, w10, hL, hF⟩ := bd_some hF
  refine x_sub [1, 0] rfl (s_X8_findError_7 C  hr _ _ _ _ _ hL (fun x11 he => ?_) (fun y12 he => ?_))
  · subst he
    replace hF := sm_inl hF
    refine x_iload_n (pc := 47) C 1 dX8_findError_47 rfl rfl ?_
    obtain ⟨rfl, rfl⟩ := ret_eq hF
    exact x_iret (pc := 48) C hr rfl (fun _ h => h) dX8_findError_48
  · subst he
    obtain ⟨rfl, rfl⟩ := ret_eq hF
    exact ⟨rfl, fun _ h => h⟩
set_option maxRecDepth 4000 in
theorem c_X8_firstError (l : Launch) (G : xG) (b : Nat)      {w w' : xWt} {v : Int32} (hF : F_X8_firstError  w = some (v, w')) : xMet l G b yX8_firstError cX8_firstError 1 (some .int) (xR 4) [.ref (mdb b)] (CW G b w) (some (.int v)) (CW G b w') 0 0 := by
  refine x_of (own := RX8) rfl (plainFor_of_name pn_X8) (Nat.le_of_ble_eq_true rfl) ?_
  intro p e s m args below meth c ha C hr _
  unfold F_X8_firstError at hF
  refine x_aload_n (pc := 0) C 0 dX8_firstError_0 rfl rfl ?_
  refine x_iconst (pc := 1) C 0 dX8_firstError_1 ki_0 ?_
  refine pf_X8_33 (pc := 2) C   hF dX8_firstError_2 (fun w1 hF => ?_)
  refine x_aload_n (pc := 5) C 0 dX8_firstError_5 rfl rfl ?_
  refine cV1_0 (pc := 6) (val := Value.int) C hF (fun _ _ h => c_X8_findError l G b  h) vm_X8_findError wq836 rfl rfl ⟨Nat.le_of_ble_eq_true rfl, Nat.le_of_ble_eq_true rfl⟩ rfl rfl (fun _ h => CW.md h) (Nat.le_of_ble_eq_true rfl) ⟨Nat.le_refl _, Nat.le_refl _⟩ dX8_firstError_6 (fun x3 w2 hF => ?_)
  obtain ⟨rfl, rfl⟩ := ret_eq hF
  exact x_iret (pc := 9) C hr rfl (fun _ h => h) dX8_firstError_9
set_option maxRecDepth 4000 in
theorem c_X8_fullness (l : Launch) (G : xG) (b : Nat)      {w w' : xWt} {v : UInt32} (hF : F_X8_fullness  w = some (v, w')) : xMet l G b yX8_fullness cX8_fullness 1 (some .float) (xR 3) [.ref (mdb b)] (CW G b w) (some (.float v)) (CW G b w') 0 0 := by
  refine x_of (own := RX8) rfl (plainFor_of_name pn_X8) (Nat.le_of_ble_eq_true rfl) ?_
  intro p e s m args below meth c ha C hr _
  unfold F_X8_fullness at hF
  refine x_aload_n (pc := 0) C 0 dX8_fullness_0 rfl rfl ?_
  refine x_iconst (pc := 1) C 0 dX8_fullness_1 ki_0 ?_
  refine pf_X8_33 (pc := 2) C   hF dX8_fullness_2 (fun w1 hF => ?_)
  refine x_aload_n (pc := 5) C 0 dX8_fullness_5 rfl rfl ?_
  refine cV1_0 (pc := 6) (val := Value.float) C hF (fun _ _ h => c_X8_fullnessNow l G b  h) vm_X8_fullnessNow wq1258 rfl rfl ⟨Nat.le_of_ble_eq_true rfl, Nat.le_of_ble_eq_true rfl⟩ rfl rfl (fun _ h => CW.md h) (Nat.le_of_ble_eq_true rfl) ⟨Nat.le_refl _, Nat.le_refl _⟩ dX8_fullness_6 (fun x3 w2 hF => ?_)
  obtain ⟨rfl, rfl⟩ := ret_eq hF
  exact x_fret (pc := 9) C hr rfl (fun _ h => h) dX8_fullness_9
set_option maxRecDepth 4000 in
theorem s_X8_goBack_31 (C : xC p m c s args meth G b cX8_goBack 2 RX8)    : ∀ (n9 : Nat) (l1 : Int32) (w : xWt) (o : (Int32)) (w' : xWt), L_X8_goBack_31  n9 l1 w = some (o, w') → xW p l e (xR 1) s m args below meth c Q b 2 (CW G b w') 0 0 56 [(0, .ref (mdb b)), (1, .int (o))] [] → xW p l e (xR 1) s m args below meth c Q b 2 (CW G b w) 0 0 31 [(0, .ref (mdb b)), (1, .int (l1))] [] := by
  intro n9
  induction n9 with
  | zero => intro l1 w o w' hF; exact none_ne (show none = some _ from hF)
  | succ n9 ih =>
    intro l1 w o w' hF kx
    replace hF : B_X8_goBack_31  (L_X8_goBack_31  n9) l1 w = some (o, w') := hF
    unfold B_X8_goBack_31 at hF
    refine x_iload_n (pc := 31) C 1 dX8_goBack_31 rfl rfl ?_
    refine x_sipush (pc := 32) C 817 dX8_goBack_32 ks_817 ?_
    refine x_icmp_ge (pc := 35) C 56 dX8_goBack_35 rfl hF (fun c5 hF => ?_) (fun c5 hF => ?_)
    · obtain ⟨rfl, rfl⟩ := ret_eq hF
      exact x_sub [0, 1] rfl kx
    · refine x_aload_n (pc := 38) C 0 dX8_goBack_38 rfl rfl ?_
      refine gf_X8_7 (pc := 39) C  dX8_goBack_39 ?_
      refine x_iload_n (pc := 42) C 1 dX8_goBack_42 rfl rfl ?_
      refine x_aload_n (pc := 43) C 0 dX8_goBack_43 rfl rfl ?_
      refine gf_X8_16 (pc := 44) C  dX8_goBack_44 ?_
      refine x_iload_n (pc := 47) C 1 dX8_goBack_47 rfl rfl ?_
      refine w_ald (pc := 48) C (vA_m 2 (by decide)) hF dX8_goBack_48 (fun x3 hF => ?_)
      refine w_ast (pc := 49) C (vA_m 0 (by decide)) hF dX8_goBack_49 (fun w4 hF => ?_)
      refine x_iinc (pc := 50) C 1 [(1, .int ((l1 + 1))), (0, .ref (mdb b))] dX8_goBack_50 rfl rfl (by decide) rfl ?_
      refine x_goto (pc := 53) C 31 dX8_goBack_53 rfl ?_
      exact x_sub [1, 0] rfl (ih _ _ _ _ hF kx)
set_option maxRecDepth 4000 in
theorem c_X8_goBack (l : Launch) (G : xG) (b : Nat)      {w w' : xWt} {v : Int32} (hF : F_X8_goBack  w = some (v, w')) : xMet l G b yX8_goBack cX8_goBack 2 (some .int) (xR 1) [.ref (mdb b)] (CW G b w) (some (.int v)) (CW G b w') 0 0 := by
  refine x_of (own := RX8) rfl (plainFor_of_name pn_X8) (Nat.le_of_ble_eq_true rfl) ?_
  intro p e s m args below meth c ha C hr _
  unfold F_X8_goBack at hF
  refine x_aload_n (pc := 0) C 0 dX8_goBack_0 rfl rfl ?_
  refine x_aload_n (pc := 1) C 0 dX8_goBack_1 rfl rfl ?_
  refine gf_X8_75 (pc := 2) C  dX8_goBack_2 ?_
  refine x_if_eq (pc := 5) C 12 dX8_goBack_5 rfl hF (fun c16 hF => ?_) (fun c16 hF => ?_)
  · refine x_iconst (pc := 12) C 1 dX8_goBack_12 ki_1 ?_
    refine pf_X8_33 (pc := 13) C   hF dX8_goBack_13 (fun w1 hF => ?_)
    refine x_aload_n (pc := 16) C 0 dX8_goBack_16 rfl rfl ?_
    refine gf_X8_33 (pc := 17) C  dX8_goBack_17 ?_
    refine x_if_le (pc := 20) C 25 dX8_goBack_20 rfl hF (fun c9 hF => ?_) (fun c9 hF => ?_)
    · refine x_aload_n (pc := 25) C 0 dX8_goBack_25 rfl rfl ?_
      refine cV0_0 (pc := 26) C hF (fun _ _ h => c_X8_record l G b  h) vm_X8_record wq225 rfl rfl ⟨Nat.le_of_ble_eq_true rfl, Nat.le_of_ble_eq_true rfl⟩ rfl rfl (fun _ h => CW.md h) (Nat.le_of_ble_eq_true rfl) ⟨Nat.le_refl _, Nat.le_refl _⟩ dX8_goBack_26 (fun _ w2 hF => ?_)
      refine x_iconst (pc := 29) C 0 dX8_goBack_29 ki_0 ?_
      refine x_istore_n (pc := 30) C [(1, .int (0)), (0, .ref (mdb b))] dX8_goBack_30 rfl (by decide) rfl ?_
      obtain ⟨o6, w7, hL, hF⟩ := bd_some hF
      refine x_sub [1, 0] rfl (s_X8_goBack_31 C  _ _ _ _ _ hL ?_)
      refine x_aload_n (pc := 56) C 0 dX8_goBack_56 rfl rfl ?_
      refine gf_X8_7 (pc := 57) C  dX8_goBack_57 ?_
      refine x_iconst (pc := 60) C 0 dX8_goBack_60 ki_0 ?_
      refine w_ald (pc := 61) C (vA_m 0 (by decide)) hF dX8_goBack_61 (fun x8 hF => ?_)
      obtain ⟨rfl, rfl⟩ := ret_eq hF
      exact x_iret (pc := 62) C hr rfl (fun _ h => h) dX8_goBack_62
    · refine x_iconst (pc := 23) C 0 dX8_goBack_23 ki_0 ?_
      obtain ⟨rfl, rfl⟩ := ret_eq hF
      exact x_iret (pc := 24) C hr rfl (fun _ h => h) dX8_goBack_24
  · refine x_iconst (pc := 8) C 0 dX8_goBack_8 ki_0 ?_
    refine x_goto (pc := 9) C 13 dX8_goBack_9 rfl ?_
    refine pf_X8_33 (pc := 13) C   hF dX8_goBack_13 (fun w10 hF => ?_)
    refine x_aload_n (pc := 16) C 0 dX8_goBack_16 rfl rfl ?_
    refine gf_X8_33 (pc := 17) C  dX8_goBack_17 ?_
    refine x_if_le (pc := 20) C 25 dX8_goBack_20 rfl hF (fun c15 hF => ?_) (fun c15 hF => ?_)
    · refine x_aload_n (pc := 25) C 0 dX8_goBack_25 rfl rfl ?_
      refine cV0_0 (pc := 26) C hF (fun _ _ h => c_X8_record l G b  h) vm_X8_record wq225 rfl rfl ⟨Nat.le_of_ble_eq_true rfl, Nat.le_of_ble_eq_true rfl⟩ rfl rfl (fun _ h => CW.md h) (Nat.le_of_ble_eq_true rfl) ⟨Nat.le_refl _, Nat.le_refl _⟩ dX8_goBack_26 (fun _ w11 hF => ?_)
      refine x_iconst (pc := 29) C 0 dX8_goBack_29 ki_0 ?_
      refine x_istore_n (pc := 30) C [(1, .int (0)), (0, .ref (mdb b))] dX8_goBack_30 rfl (by decide) rfl ?_
      obtain ⟨o12, w13, hL, hF⟩ := bd_some hF
      refine x_sub [1, 0] rfl (s_X8_goBack_31 C  _ _ _ _ _ hL ?_)
      refine x_aload_n (pc := 56) C 0 dX8_goBack_56 rfl rfl ?_
      refine gf_X8_7 (pc := 57) C  dX8_goBack_57 ?_
      refine x_iconst (pc := 60) C 0 dX8_goBack_60 ki_0 ?_
      refine w_ald (pc := 61) C (vA_m 0 (by decide)) hF dX8_goBack_61 (fun x14 hF => ?_)
      obtain ⟨rfl, rfl⟩ := ret_eq hF
      exact x_iret (pc := 62) C hr rfl (fun _ h => h) dX8_goBack_62
    · refine x_iconst (pc := 23) C 0 dX8_goBack_23 ki_0 ?_
      obtain ⟨rfl, rfl⟩ := ret_eq hF
      exact x_iret (pc := 24) C hr rfl (fun _ h => h) dX8_goBack_24
set_option maxRecDepth 4000 in
theorem c_X8_grow (l : Launch) (G : xG) (b : Nat)     (a1 : Int32) (a2 : Int32) {w w' : xWt} {v : Int32} (hF : F_X8_grow a1 a2 w = some (v, w')) : xMet l G b yX8_grow cX8_grow 3 (some .int) (xR 3) [.ref (mdb b), .int (a1), .int (a2)] (CW G b w) (some (.int v)) (CW G b w') 0 0 := by
  refine x_of (own := RX8) rfl (plainFor_of_name pn_X8) (Nat.le_of_ble_eq_true rfl) ?_
  intro p e s m args below meth c ha C hr _
  unfold F_X8_grow at hF
  refine x_aload_n (pc := 0) C 0 dX8_grow_0 rfl rfl ?_
  refine x_aload_n (pc := 1) C 0 dX8_grow_1 rfl rfl ?_
  refine x_iload_n (pc := 2) C 1 dX8_grow_2 rfl rfl ?_
  refine x_iload_n (pc := 3) C 2 dX8_grow_3 rfl rfl ?_
  refine cV1_2 (pc := 4) (val := Value.int) C hF (fun _ _ h => c_X8_whyNotGrow l G b  _ _ h) vm_X8_whyNotGrow wq471 rfl rfl ⟨Nat.le_of_ble_eq_true rfl, Nat.le_of_ble_eq_true rfl⟩ rfl rfl (fun _ h => CW.md h) (Nat.le_of_ble_eq_true rfl) ⟨Nat.le_refl _, Nat.le_refl _⟩ dX8_grow_4 (fun x2 w1 hF => ?_)
  refine pf_X8_33 (pc := 7) C   hF dX8_grow_7 (fun w3 hF => ?_)
  refine x_aload_n (pc := 10) C 0 dX8_grow_10 rfl rfl ?_
  refine gf_X8_33 (pc := 11) C  dX8_grow_11 ?_
  refine x_if_le (pc := 14) C 19 dX8_grow_14 rfl hF (fun c7 hF => ?_) (fun c7 hF => ?_)
  · refine x_aload_n (pc := 19) C 0 dX8_grow_19 rfl rfl ?_
    refine cV0_0 (pc := 20) C hF (fun _ _ h => c_X8_record l G b  h) vm_X8_record wq225 rfl rfl ⟨Nat.le_of_ble_eq_true rfl, Nat.le_of_ble_eq_true rfl⟩ rfl rfl (fun _ h => CW.md h) (Nat.le_of_ble_eq_true rfl) ⟨Nat.le_refl _, Nat.le_refl _⟩ dX8_grow_20 (fun _ w4 hF => ?_)
    refine x_aload_n (pc := 23) C 0 dX8_grow_23 rfl rfl ?_
    refine x_iload_n (pc := 24) C 1 dX8_grow_24 rfl rfl ?_
    refine x_iload_n (pc := 25) C 2 dX8_grow_25 rfl rfl ?_
    refine cV1_2 (pc := 26) (val := Value.int) C hF (fun _ _ h => c_X8_doGrow l G b  _ _ h) vm_X8_doGrow wq481 rfl rfl ⟨Nat.le_of_ble_eq_true rfl, Nat.le_of_ble_eq_true rfl⟩ rfl rfl (fun _ h => CW.md h) (Nat.le_of_ble_eq_true rfl) ⟨Nat.le_refl _, Nat.le_refl _⟩ dX8_grow_26 (fun x6 w5 hF => ?_)
    obtain ⟨rfl, rfl⟩ := ret_eq hF
    exact x_iret (pc := 29) C hr rfl (fun _ h => h) dX8_grow_29
  · refine x_iconst (pc := 17) C 0 dX8_grow_17 ki_0 ?_
    obtain ⟨rfl, rfl⟩ := ret_eq hF
    exact x_iret (pc := 18) C hr rfl (fun _ h => h) dX8_grow_18
set_option maxRecDepth 4000 in
theorem c_X8_heap (l : Launch) (G : xG) (b : Nat)     (a1 : Int32) (a2 : Int32) {w w' : xWt} {v : Int32} (hF : F_X8_heap a1 a2 w = some (v, w')) : xMet l G b yX8_heap cX8_heap 3 (some .int) (xR 3) [.ref (mdb b), .int (a1), .int (a2)] (CW G b w) (some (.int v)) (CW G b w') 0 0 := by
  refine x_of (own := RX8) rfl (plainFor_of_name pn_X8) (Nat.le_of_ble_eq_true rfl) ?_
  intro p e s m args below meth c ha C hr _
  unfold F_X8_heap at hF
  refine x_aload_n (pc := 0) C 0 dX8_heap_0 rfl rfl ?_
  refine x_aload_n (pc := 1) C 0 dX8_heap_1 rfl rfl ?_
  refine x_iload_n (pc := 2) C 1 dX8_heap_2 rfl rfl ?_
  refine cV1_1 (pc := 3) (val := Value.int) C hF (fun _ _ h => c_X8_isChild l G b  _ h) vm_X8_isChild wq303 rfl rfl ⟨Nat.le_of_ble_eq_true rfl, Nat.le_of_ble_eq_true rfl⟩ rfl rfl (fun _ h => CW.md h) (Nat.le_of_ble_eq_true rfl) ⟨Nat.le_refl _, Nat.le_refl _⟩ dX8_heap_3 (fun x2 w1 hF => ?_)
  refine x_if_ne (pc := 6) C 13 dX8_heap_6 rfl hF (fun c16 hF => ?_) (fun c16 hF => ?_)
  · refine x_iload_n (pc := 13) C 2 dX8_heap_13 rfl rfl ?_
    refine x_if_ge (pc := 14) C 21 dX8_heap_14 rfl hF (fun c11 hF => ?_) (fun c11 hF => ?_)
    · refine x_iconst (pc := 21) C 0 dX8_heap_21 ki_0 ?_
      refine pf_X8_33 (pc := 22) C   hF dX8_heap_22 (fun w3 hF => ?_)
      refine x_aload_n (pc := 25) C 0 dX8_heap_25 rfl rfl ?_
      refine gf_X8_33 (pc := 26) C  dX8_heap_26 ?_
      refine x_if_le (pc := 29) C 36 dX8_heap_29 rfl hF (fun c6 hF => ?_) (fun c6 hF => ?_)
      · refine x_aload_n (pc := 36) C 0 dX8_heap_36 rfl rfl ?_
        refine x_iload_n (pc := 37) C 1 dX8_heap_37 rfl rfl ?_
        refine x_iload_n (pc := 38) C 2 dX8_heap_38 rfl rfl ?_
        refine cV1_2 (pc := 39) (val := Value.int) C hF (fun _ _ h => c_X8_onHeap l G b  _ _ h) vm_X8_onHeap wq310 rfl rfl ⟨Nat.le_of_ble_eq_true rfl, Nat.le_of_ble_eq_true rfl⟩ rfl rfl (fun _ h => CW.md h) (Nat.le_of_ble_eq_true rfl) ⟨Nat.le_refl _, Nat.le_refl _⟩ dX8_heap_39 (fun x5 w4 hF => ?_)
        obtain ⟨rfl, rfl⟩ := ret_eq hF
        exact x_iret (pc := 42) C hr rfl (fun _ h => h) dX8_heap_42
      · refine x_iconst (pc := 32) C 0 dX8_heap_32 ki_0 ?_
        refine x_goto (pc := 33) C 42 dX8_heap_33 rfl ?_
        obtain ⟨rfl, rfl⟩ := ret_eq hF
        exact x_iret (pc := 42) C hr rfl (fun _ h => h) dX8_heap_42
    · refine x_iconst (pc := 17) C 2 dX8_heap_17 ki_2 ?_
      refine x_goto (pc := 18) C 22 dX8_heap_18 rfl ?_
      refine pf_X8_33 (pc := 22) C   hF dX8_heap_22 (fun w7 hF => ?_)
      refine x_aload_n (pc := 25) C 0 dX8_heap_25 rfl rfl ?_
      refine gf_X8_33 (pc := 26) C  dX8_heap_26 ?_
      refine x_if_le (pc := 29) C 36 dX8_heap_29 rfl hF (fun c10 hF => ?_) (fun c10 hF => ?_)
      · refine x_aload_n (pc := 36) C 0 dX8_heap_36 rfl rfl ?_
        refine x_iload_n (pc := 37) C 1 dX8_heap_37 rfl rfl ?_
        refine x_iload_n (pc := 38) C 2 dX8_heap_38 rfl rfl ?_
        refine cV1_2 (pc := 39) (val := Value.int) C hF (fun _ _ h => c_X8_onHeap l G b  _ _ h) vm_X8_onHeap wq310 rfl rfl ⟨Nat.le_of_ble_eq_true rfl, Nat.le_of_ble_eq_true rfl⟩ rfl rfl (fun _ h => CW.md h) (Nat.le_of_ble_eq_true rfl) ⟨Nat.le_refl _, Nat.le_refl _⟩ dX8_heap_39 (fun x9 w8 hF => ?_)
        obtain ⟨rfl, rfl⟩ := ret_eq hF
        exact x_iret (pc := 42) C hr rfl (fun _ h => h) dX8_heap_42
      · refine x_iconst (pc := 32) C 0 dX8_heap_32 ki_0 ?_
        refine x_goto (pc := 33) C 42 dX8_heap_33 rfl ?_
        obtain ⟨rfl, rfl⟩ := ret_eq hF
        exact x_iret (pc := 42) C hr rfl (fun _ h => h) dX8_heap_42
  · refine x_iconst (pc := 9) C 1 dX8_heap_9 ki_1 ?_
    refine x_goto (pc := 10) C 22 dX8_heap_10 rfl ?_
    refine pf_X8_33 (pc := 22) C   hF dX8_heap_22 (fun w12 hF => ?_)
    refine x_aload_n (pc := 25) C 0 dX8_heap_25 rfl rfl ?_
    refine gf_X8_33 (pc := 26) C  dX8_heap_26 ?_
    refine x_if_le (pc := 29) C 36 dX8_heap_29 rfl hF (fun c15 hF => ?_) (fun c15 hF => ?_)
    · refine x_aload_n (pc := 36) C 0 dX8_heap_36 rfl rfl ?_
      refine x_iload_n (pc := 37) C 1 dX8_heap_37 rfl rfl ?_
      refine x_iload_n (pc := 38) C 2 dX8_heap_38 rfl rfl ?_
      refine cV1_2 (pc := 39) (val := Value.int) C hF (fun _ _ h => c_X8_onHeap l G b  _ _ h) vm_X8_onHeap wq310 rfl rfl ⟨Nat.le_of_ble_eq_true rfl, Nat.le_of_ble_eq_true rfl⟩ rfl rfl (fun _ h => CW.md h) (Nat.le_of_ble_eq_true rfl) ⟨Nat.le_refl _, Nat.le_refl _⟩ dX8_heap_39 (fun x14 w13 hF => ?_)
      obtain ⟨rfl, rfl⟩ := ret_eq hF
      exact x_iret (pc := 42) C hr rfl (fun _ h => h) dX8_heap_42
    · refine x_iconst (pc := 32) C 0 dX8_heap_32 ki_0 ?_
      refine x_goto (pc := 33) C 42 dX8_heap_33 rfl ?_
      obtain ⟨rfl, rfl⟩ := ret_eq hF
      exact x_iret (pc := 42) C hr rfl (fun _ h => h) dX8_heap_42
set_option maxRecDepth 4000 in
theorem c_X8_hook (l : Launch) (G : xG) (b : Nat)     (a1 : Int32) (a2 : Int32) (a3 : Int32) {w w' : xWt} {v : Int32} (hF : F_X8_hook a1 a2 a3 w = some (v, w')) : xMet l G b yX8_hook cX8_hook 4 (some .int) (xR 2) [.ref (mdb b), .int (a1), .int (a2), .int (a3)] (CW G b w) (some (.int v)) (CW G b w') 0 0 := by
  refine x_of (own := RX8) rfl (plainFor_of_name pn_X8) (Nat.le_of_ble_eq_true rfl) ?_
  intro p e s m args below meth c ha C hr _
  unfold F_X8_hook at hF
  refine x_aload_n (pc := 0) C 0 dX8_hook_0 rfl rfl ?_
  refine x_aload_n (pc := 1) C 0 dX8_hook_1 rfl rfl ?_
  refine x_iload_n (pc := 2) C 1 dX8_hook_2 rfl rfl ?_
  refine cV1_1 (pc := 3) (val := Value.int) C hF (fun _ _ h => c_X8_isChild l G b  _ h) vm_X8_isChild wq303 rfl rfl ⟨Nat.le_of_ble_eq_true rfl, Nat.le_of_ble_eq_true rfl⟩ rfl rfl (fun _ h => CW.md h) (Nat.le_of_ble_eq_true rfl) ⟨Nat.le_refl _, Nat.le_refl _⟩ dX8_hook_3 (fun x2 w1 hF => ?_)
  refine x_if_eq (pc := 6) C 16 dX8_hook_6 rfl hF (fun c25 hF => ?_) (fun c25 hF => ?_)
  · refine x_iconst (pc := 16) C 1 dX8_hook_16 ki_1 ?_
    refine x_goto (pc := 17) C 34 dX8_hook_17 rfl ?_
    refine pf_X8_33 (pc := 34) C   hF dX8_hook_34 (fun w3 hF => ?_)
    refine x_aload_n (pc := 37) C 0 dX8_hook_37 rfl rfl ?_
    refine gf_X8_33 (pc := 38) C  dX8_hook_38 ?_
    refine x_if_le (pc := 41) C 48 dX8_hook_41 rfl hF (fun c6 hF => ?_) (fun c6 hF => ?_)
    · refine x_aload_n (pc := 48) C 0 dX8_hook_48 rfl rfl ?_
      refine x_iload_n (pc := 49) C 1 dX8_hook_49 rfl rfl ?_
      refine x_iload_n (pc := 50) C 2 dX8_hook_50 rfl rfl ?_
      refine x_iload_n (pc := 51) C 3 dX8_hook_51 rfl rfl ?_
      refine cV1_3 (pc := 52) (val := Value.int) C hF (fun _ _ h => c_X8_ofHook l G b  _ _ _ h) vm_X8_ofHook wq403 rfl rfl ⟨Nat.le_of_ble_eq_true rfl, Nat.le_of_ble_eq_true rfl⟩ rfl rfl (fun _ h => CW.md h) (Nat.le_of_ble_eq_true rfl) ⟨Nat.le_refl _, Nat.le_refl _⟩ dX8_hook_52 (fun x5 w4 hF => ?_)
      obtain ⟨rfl, rfl⟩ := ret_eq hF
      exact x_iret (pc := 55) C hr rfl (fun _ h => h) dX8_hook_55
    · refine x_iconst (pc := 44) C 0 dX8_hook_44 ki_0 ?_
      refine x_goto (pc := 45) C 55 dX8_hook_45 rfl ?_
      obtain ⟨rfl, rfl⟩ := ret_eq hF
      exact x_iret (pc := 55) C hr rfl (fun _ h => h) dX8_hook_55
  · refine x_iload_n (pc := 9) C 2 dX8_hook_9 rfl rfl ?_
    refine cS1_1 (pc := 10) (val := Value.int) C hF (fun _ _ h => c_X8_isHook l G b  _ h) sm_X8_isHook wq521 rfl rfl ⟨Nat.le_of_ble_eq_true rfl, Nat.le_of_ble_eq_true rfl⟩ (Nat.le_of_ble_eq_true rfl) ⟨Nat.le_refl _, Nat.le_refl _⟩ dX8_hook_10 (fun x8 w7 hF => ?_)
    refine x_if_ne (pc := 13) C 20 dX8_hook_13 rfl hF (fun c24 hF => ?_) (fun c24 hF => ?_)
    · refine x_iload_n (pc := 20) C 3 dX8_hook_20 rfl rfl ?_
      refine x_iconst (pc := 21) C 0 dX8_hook_21 ki_0 ?_
      refine x_iconst (pc := 22) C 2 dX8_hook_22 ki_2 ?_
      refine cS1_3 (pc := 23) (val := Value.int) C hF (fun _ _ h => c_X8_in l G b  _ _ _ h) sm_X8_in wq307 rfl rfl ⟨Nat.le_of_ble_eq_true rfl, Nat.le_of_ble_eq_true rfl⟩ (Nat.le_of_ble_eq_true rfl) ⟨Nat.le_refl _, Nat.le_refl _⟩ dX8_hook_23 (fun x10 w9 hF => ?_)
      refine x_if_eq (pc := 26) C 33 dX8_hook_26 rfl hF (fun c19 hF => ?_) (fun c19 hF => ?_)
      · refine x_iconst (pc := 33) C 2 dX8_hook_33 ki_2 ?_
        refine pf_X8_33 (pc := 34) C   hF dX8_hook_34 (fun w11 hF => ?_)
        refine x_aload_n (pc := 37) C 0 dX8_hook_37 rfl rfl ?_
        refine gf_X8_33 (pc := 38) C  dX8_hook_38 ?_
        refine x_if_le (pc := 41) C 48 dX8_hook_41 rfl hF (fun c14 hF => ?_) (fun c14 hF => ?_)
        · refine x_aload_n (pc := 48) C 0 dX8_hook_48 rfl rfl ?_
          refine x_iload_n (pc := 49) C 1 dX8_hook_49 rfl rfl ?_
          refine x_iload_n (pc := 50) C 2 dX8_hook_50 rfl rfl ?_
          refine x_iload_n (pc := 51) C 3 dX8_hook_51 rfl rfl ?_
          refine cV1_3 (pc := 52) (val := Value.int) C hF (fun _ _ h => c_X8_ofHook l G b  _ _ _ h) vm_X8_ofHook wq403 rfl rfl ⟨Nat.le_of_ble_eq_true rfl, Nat.le_of_ble_eq_true rfl⟩ rfl rfl (fun _ h => CW.md h) (Nat.le_of_ble_eq_true rfl) ⟨Nat.le_refl _, Nat.le_refl _⟩ dX8_hook_52 (fun x13 w12 hF => ?_)
          obtain ⟨rfl, rfl⟩ := ret_eq hF
          exact x_iret (pc := 55) C hr rfl (fun _ h => h) dX8_hook_55
        · refine x_iconst (pc := 44) C 0 dX8_hook_44 ki_0 ?_
          refine x_goto (pc := 45) C 55 dX8_hook_45 rfl ?_
          obtain ⟨rfl, rfl⟩ := ret_eq hF
          exact x_iret (pc := 55) C hr rfl (fun _ h => h) dX8_hook_55
      · refine x_iconst (pc := 29) C 0 dX8_hook_29 ki_0 ?_
        refine x_goto (pc := 30) C 34 dX8_hook_30 rfl ?_
        refine pf_X8_33 (pc := 34) C   hF dX8_hook_34 (fun w15 hF => ?_)
        refine x_aload_n (pc := 37) C 0 dX8_hook_37 rfl rfl ?_
        refine gf_X8_33 (pc := 38) C  dX8_hook_38 ?_
        refine x_if_le (pc := 41) C 48 dX8_hook_41 rfl hF (fun c18 hF => ?_) (fun c18 hF => ?_)
        · refine x_aload_n (pc := 48) C 0 dX8_hook_48 rfl rfl ?_
          refine x_iload_n (pc := 49) C 1 dX8_hook_49 rfl rfl ?_
          refine x_iload_n (pc := 50) C 2 dX8_hook_50 rfl rfl ?_
          refine x_iload_n (pc := 51) C 3 dX8_hook_51 rfl rfl ?_
          refine cV1_3 (pc := 52) (val := Value.int) C hF (fun _ _ h => c_X8_ofHook l G b  _ _ _ h) vm_X8_ofHook wq403 rfl rfl ⟨Nat.le_of_ble_eq_true rfl, Nat.le_of_ble_eq_true rfl⟩ rfl rfl (fun _ h => CW.md h) (Nat.le_of_ble_eq_true rfl) ⟨Nat.le_refl _, Nat.le_refl _⟩ dX8_hook_52 (fun x17 w16 hF => ?_)
          obtain ⟨rfl, rfl⟩ := ret_eq hF
          exact x_iret (pc := 55) C hr rfl (fun _ h => h) dX8_hook_55
        · refine x_iconst (pc := 44) C 0 dX8_hook_44 ki_0 ?_
          refine x_goto (pc := 45) C 55 dX8_hook_45 rfl ?_
          obtain ⟨rfl, rfl⟩ := ret_eq hF
          exact x_iret (pc := 55) C hr rfl (fun _ h => h) dX8_hook_55
    · refine x_iconst (pc := 16) C 1 dX8_hook_16 ki_1 ?_
      refine x_goto (pc := 17) C 34 dX8_hook_17 rfl ?_
      refine pf_X8_33 (pc := 34) C   hF dX8_hook_34 (fun w20 hF => ?_)
      refine x_aload_n (pc := 37) C 0 dX8_hook_37 rfl rfl ?_
      refine gf_X8_33 (pc := 38) C  dX8_hook_38 ?_
      refine x_if_le (pc := 41) C 48 dX8_hook_41 rfl hF (fun c23 hF => ?_) (fun c23 hF => ?_)
      · refine x_aload_n (pc := 48) C 0 dX8_hook_48 rfl rfl ?_
        refine x_iload_n (pc := 49) C 1 dX8_hook_49 rfl rfl ?_
        refine x_iload_n (pc := 50) C 2 dX8_hook_50 rfl rfl ?_
        refine x_iload_n (pc := 51) C 3 dX8_hook_51 rfl rfl ?_
        refine cV1_3 (pc := 52) (val := Value.int) C hF (fun _ _ h => c_X8_ofHook l G b  _ _ _ h) vm_X8_ofHook wq403 rfl rfl ⟨Nat.le_of_ble_eq_true rfl, Nat.le_of_ble_eq_true rfl⟩ rfl rfl (fun _ h => CW.md h) (Nat.le_of_ble_eq_true rfl) ⟨Nat.le_refl _, Nat.le_refl _⟩ dX8_hook_52 (fun x22 w21 hF => ?_)
        obtain ⟨rfl, rfl⟩ := ret_eq hF
        exact x_iret (pc := 55) C hr rfl (fun _ h => h) dX8_hook_55
      · refine x_iconst (pc := 44) C 0 dX8_hook_44 ki_0 ?_
        refine x_goto (pc := 45) C 55 dX8_hook_45 rfl ?_
        obtain ⟨rfl, rfl⟩ := ret_eq hF
        exact x_iret (pc := 55) C hr rfl (fun _ h => h) dX8_hook_55
set_option maxRecDepth 4000 in
theorem c_X8_ifAllRested (l : Launch) (G : xG) (b : Nat)      {w w' : xWt} {v : Int32} (hF : F_X8_ifAllRested  w = some (v, w')) : xMet l G b yX8_ifAllRested cX8_ifAllRested 1 (some .int) (xR 2) [.ref (mdb b)] (CW G b w) (some (.int v)) (CW G b w') 0 0 := by
  refine x_of (own := RX8) rfl (plainFor_of_name pn_X8) (Nat.le_of_ble_eq_true rfl) ?_
  intro p e s m args below meth c ha C hr _
  unfold F_X8_ifAllRested at hF
  refine x_aload_n (pc := 0) C 0 dX8_ifAllRested_0 rfl rfl ?_
  refine x_iconst (pc := 1) C 0 dX8_ifAllRested_1 ki_0 ?_
  refine pf_X8_33 (pc := 2) C   hF dX8_ifAllRested_2 (fun w1 hF => ?_)
  refine x_aload_n (pc := 5) C 0 dX8_ifAllRested_5 rfl rfl ?_
  refine x_iconst (pc := 6) C 1 dX8_ifAllRested_6 ki_1 ?_
  refine cV1_1 (pc := 7) (val := Value.int) C hF (fun _ _ h => c_X8_leavesAt l G b  _ h) vm_X8_leavesAt wq690 rfl rfl ⟨Nat.le_of_ble_eq_true rfl, Nat.le_of_ble_eq_true rfl⟩ rfl rfl (fun _ h => CW.md h) (Nat.le_of_ble_eq_true rfl) ⟨Nat.le_refl _, Nat.le_refl _⟩ dX8_ifAllRested_7 (fun x3 w2 hF => ?_)
  obtain ⟨rfl, rfl⟩ := ret_eq hF
  exact x_iret (pc := 10) C hr rfl (fun _ h => h) dX8_ifAllRested_10
set_option maxRecDepth 4000 in
theorem c_X8_ifLoosened (l : Launch) (G : xG) (b : Nat)     (a1 : Int32) (a2 : Int32) {w w' : xWt} {v : Int32} (hF : F_X8_ifLoosened a1 a2 w = some (v, w')) : xMet l G b yX8_ifLoosened cX8_ifLoosened 3 (some .int) (xR 4) [.ref (mdb b), .int (a1), .int (a2)] (CW G b w) (some (.int v)) (CW G b w') 0 0 := by
  refine x_of (own := RX8) rfl (plainFor_of_name pn_X8) (Nat.le_of_ble_eq_true rfl) ?_
  intro p e s m args below meth c ha C hr _
  unfold F_X8_ifLoosened at hF
  refine x_aload_n (pc := 0) C 0 dX8_ifLoosened_0 rfl rfl ?_
  refine x_aload_n (pc := 1) C 0 dX8_ifLoosened_1 rfl rfl ?_
  refine x_iload_n (pc := 2) C 1 dX8_ifLoosened_2 rfl rfl ?_
  refine cV1_1 (pc := 3) (val := Value.int) C hF (fun _ _ h => c_X8_isChild l G b  _ h) vm_X8_isChild wq303 rfl rfl ⟨Nat.le_of_ble_eq_true rfl, Nat.le_of_ble_eq_true rfl⟩ rfl rfl (fun _ h => CW.md h) (Nat.le_of_ble_eq_true rfl) ⟨Nat.le_refl _, Nat.le_refl _⟩ dX8_ifLoosened_3 (fun x2 w1 hF => ?_)
  refine x_if_eq (pc := 6) C 16 dX8_ifLoosened_6 rfl hF (fun c18 hF => ?_) (fun c18 hF => ?_)
  · refine x_iconst (pc := 16) C 1 dX8_ifLoosened_16 ki_1 ?_
    refine x_goto (pc := 17) C 21 dX8_ifLoosened_17 rfl ?_
    refine pf_X8_33 (pc := 21) C   hF dX8_ifLoosened_21 (fun w3 hF => ?_)
    refine x_aload_n (pc := 24) C 0 dX8_ifLoosened_24 rfl rfl ?_
    refine gf_X8_33 (pc := 25) C  dX8_ifLoosened_25 ?_
    refine x_if_le (pc := 28) C 35 dX8_ifLoosened_28 rfl hF (fun c6 hF => ?_) (fun c6 hF => ?_)
    · refine x_aload_n (pc := 35) C 0 dX8_ifLoosened_35 rfl rfl ?_
      refine x_iload_n (pc := 36) C 1 dX8_ifLoosened_36 rfl rfl ?_
      refine x_iload_n (pc := 37) C 2 dX8_ifLoosened_37 rfl rfl ?_
      refine cV1_2 (pc := 38) (val := Value.int) C hF (fun _ _ h => c_X8_freedBy l G b  _ _ h) vm_X8_freedBy wq1176 rfl rfl ⟨Nat.le_of_ble_eq_true rfl, Nat.le_of_ble_eq_true rfl⟩ rfl rfl (fun _ h => CW.md h) (Nat.le_of_ble_eq_true rfl) ⟨Nat.le_refl _, Nat.le_refl _⟩ dX8_ifLoosened_38 (fun x5 w4 hF => ?_)
      obtain ⟨rfl, rfl⟩ := ret_eq hF
      exact x_iret (pc := 41) C hr rfl (fun _ h => h) dX8_ifLoosened_41
    · refine x_iconst (pc := 31) C 0 dX8_ifLoosened_31 ki_0 ?_
      refine x_goto (pc := 32) C 41 dX8_ifLoosened_32 rfl ?_
      obtain ⟨rfl, rfl⟩ := ret_eq hF
      exact x_iret (pc := 41) C hr rfl (fun _ h => h) dX8_ifLoosened_41
  · refine x_iload_n (pc := 9) C 2 dX8_ifLoosened_9 rfl rfl ?_
    refine cS1_1 (pc := 10) (val := Value.int) C hF (fun _ _ h => c_X8_isHook l G b  _ h) sm_X8_isHook wq521 rfl rfl ⟨Nat.le_of_ble_eq_true rfl, Nat.le_of_ble_eq_true rfl⟩ (Nat.le_of_ble_eq_true rfl) ⟨Nat.le_refl _, Nat.le_refl _⟩ dX8_ifLoosened_10 (fun x8 w7 hF => ?_)
    refine x_if_ne (pc := 13) C 20 dX8_ifLoosened_13 rfl hF (fun c17 hF => ?_) (fun c17 hF => ?_)
    · refine x_iconst (pc := 20) C 0 dX8_ifLoosened_20 ki_0 ?_
      refine pf_X8_33 (pc := 21) C   hF dX8_ifLoosened_21 (fun w9 hF => ?_)
      refine x_aload_n (pc := 24) C 0 dX8_ifLoosened_24 rfl rfl ?_
      refine gf_X8_33 (pc := 25) C  dX8_ifLoosened_25 ?_
      refine x_if_le (pc := 28) C 35 dX8_ifLoosened_28 rfl hF (fun c12 hF => ?_) (fun c12 hF => ?_)
      · refine x_aload_n (pc := 35) C 0 dX8_ifLoosened_35 rfl rfl ?_
        refine x_iload_n (pc := 36) C 1 dX8_ifLoosened_36 rfl rfl ?_
        refine x_iload_n (pc := 37) C 2 dX8_ifLoosened_37 rfl rfl ?_
        refine cV1_2 (pc := 38) (val := Value.int) C hF (fun _ _ h => c_X8_freedBy l G b  _ _ h) vm_X8_freedBy wq1176 rfl rfl ⟨Nat.le_of_ble_eq_true rfl, Nat.le_of_ble_eq_true rfl⟩ rfl rfl (fun _ h => CW.md h) (Nat.le_of_ble_eq_true rfl) ⟨Nat.le_refl _, Nat.le_refl _⟩ dX8_ifLoosened_38 (fun x11 w10 hF => ?_)
        obtain ⟨rfl, rfl⟩ := ret_eq hF
        exact x_iret (pc := 41) C hr rfl (fun _ h => h) dX8_ifLoosened_41
      · refine x_iconst (pc := 31) C 0 dX8_ifLoosened_31 ki_0 ?_
        refine x_goto (pc := 32) C 41 dX8_ifLoosened_32 rfl ?_
        obtain ⟨rfl, rfl⟩ := ret_eq hF
        exact x_iret (pc := 41) C hr rfl (fun _ h => h) dX8_ifLoosened_41
    · refine x_iconst (pc := 16) C 1 dX8_ifLoosened_16 ki_1 ?_
      refine x_goto (pc := 17) C 21 dX8_ifLoosened_17 rfl ?_
      refine pf_X8_33 (pc := 21) C   hF dX8_ifLoosened_21 (fun w13 hF => ?_)
      refine x_aload_n (pc := 24) C 0 dX8_ifLoosened_24 rfl rfl ?_
      refine gf_X8_33 (pc := 25) C  dX8_ifLoosened_25 ?_
      refine x_if_le (pc := 28) C 35 dX8_ifLoosened_28 rfl hF (fun c16 hF => ?_) (fun c16 hF => ?_)
      · refine x_aload_n (pc := 35) C 0 dX8_ifLoosened_35 rfl rfl ?_
        refine x_iload_n (pc := 36) C 1 dX8_ifLoosened_36 rfl rfl ?_
        refine x_iload_n (pc := 37) C 2 dX8_ifLoosened_37 rfl rfl ?_
        refine cV1_2 (pc := 38) (val := Value.int) C hF (fun _ _ h => c_X8_freedBy l G b  _ _ h) vm_X8_freedBy wq1176 rfl rfl ⟨Nat.le_of_ble_eq_true rfl, Nat.le_of_ble_eq_true rfl⟩ rfl rfl (fun _ h => CW.md h) (Nat.le_of_ble_eq_true rfl) ⟨Nat.le_refl _, Nat.le_refl _⟩ dX8_ifLoosened_38 (fun x15 w14 hF => ?_)
        obtain ⟨rfl, rfl⟩ := ret_eq hF
        exact x_iret (pc := 41) C hr rfl (fun _ h => h) dX8_ifLoosened_41
      · refine x_iconst (pc := 31) C 0 dX8_ifLoosened_31 ki_0 ?_
        refine x_goto (pc := 32) C 41 dX8_ifLoosened_32 rfl ?_
        obtain ⟨rfl, rfl⟩ := ret_eq hF
        exact x_iret (pc := 41) C hr rfl (fun _ h => h) dX8_ifLoosened_41
set_option maxRecDepth 4000 in
theorem c_X8_ifRaked (l : Launch) (G : xG) (b : Nat)     (a1 : Int32) (a2 : Int32) {w w' : xWt} {v : Int32} (hF : F_X8_ifRaked a1 a2 w = some (v, w')) : xMet l G b yX8_ifRaked cX8_ifRaked 3 (some .int) (xR 5) [.ref (mdb b), .int (a1), .int (a2)] (CW G b w) (some (.int v)) (CW G b w') 0 0 := by
  refine x_of (own := RX8) rfl (plainFor_of_name pn_X8) (Nat.le_of_ble_eq_true rfl) ?_
  intro p e s m args below meth c ha C hr _
  unfold F_X8_ifRaked at hF
  refine x_aload_n (pc := 0) C 0 dX8_ifRaked_0 rfl rfl ?_
  refine x_aload_n (pc := 1) C 0 dX8_ifRaked_1 rfl rfl ?_
  refine x_iload_n (pc := 2) C 1 dX8_ifRaked_2 rfl rfl ?_
  refine cV1_1 (pc := 3) (val := Value.int) C hF (fun _ _ h => c_X8_isChild l G b  _ h) vm_X8_isChild wq303 rfl rfl ⟨Nat.le_of_ble_eq_true rfl, Nat.le_of_ble_eq_true rfl⟩ rfl rfl (fun _ h => CW.md h) (Nat.le_of_ble_eq_true rfl) ⟨Nat.le_refl _, Nat.le_refl _⟩ dX8_ifRaked_3 (fun x2 w1 hF => ?_)
  refine x_if_ne (pc := 6) C 13 dX8_ifRaked_6 rfl hF (fun c18 hF => ?_) (fun c18 hF => ?_)
  · refine x_iload_n (pc := 13) C 2 dX8_ifRaked_13 rfl rfl ?_
    refine x_iconst (pc := 14) C 0 dX8_ifRaked_14 ki_0 ?_
    refine x_iconst (pc := 15) C 1 dX8_ifRaked_15 ki_1 ?_
    refine cS1_3 (pc := 16) (val := Value.int) C hF (fun _ _ h => c_X8_in l G b  _ _ _ h) sm_X8_in wq307 rfl rfl ⟨Nat.le_of_ble_eq_true rfl, Nat.le_of_ble_eq_true rfl⟩ (Nat.le_of_ble_eq_true rfl) ⟨Nat.le_refl _, Nat.le_refl _⟩ dX8_ifRaked_16 (fun x4 w3 hF => ?_)
    refine x_if_eq (pc := 19) C 26 dX8_ifRaked_19 rfl hF (fun c13 hF => ?_) (fun c13 hF => ?_)
    · refine x_iconst (pc := 26) C 2 dX8_ifRaked_26 ki_2 ?_
      refine pf_X8_33 (pc := 27) C   hF dX8_ifRaked_27 (fun w5 hF => ?_)
      refine x_aload_n (pc := 30) C 0 dX8_ifRaked_30 rfl rfl ?_
      refine gf_X8_33 (pc := 31) C  dX8_ifRaked_31 ?_
      refine x_if_le (pc := 34) C 41 dX8_ifRaked_34 rfl hF (fun c8 hF => ?_) (fun c8 hF => ?_)
      · refine x_aload_n (pc := 41) C 0 dX8_ifRaked_41 rfl rfl ?_
        refine x_iload_n (pc := 42) C 1 dX8_ifRaked_42 rfl rfl ?_
        refine x_iload_n (pc := 43) C 2 dX8_ifRaked_43 rfl rfl ?_
        refine cV1_2 (pc := 44) (val := Value.int) C hF (fun _ _ h => c_X8_burnable l G b  _ _ h) vm_X8_burnable wq1140 rfl rfl ⟨Nat.le_of_ble_eq_true rfl, Nat.le_of_ble_eq_true rfl⟩ rfl rfl (fun _ h => CW.md h) (Nat.le_of_ble_eq_true rfl) ⟨Nat.le_refl _, Nat.le_refl _⟩ dX8_ifRaked_44 (fun x7 w6 hF => ?_)
        obtain ⟨rfl, rfl⟩ := ret_eq hF
        exact x_iret (pc := 47) C hr rfl (fun _ h => h) dX8_ifRaked_47
      · refine x_iconst (pc := 37) C 0 dX8_ifRaked_37 ki_0 ?_
        refine x_goto (pc := 38) C 47 dX8_ifRaked_38 rfl ?_
        obtain ⟨rfl, rfl⟩ := ret_eq hF
        exact x_iret (pc := 47) C hr rfl (fun _ h => h) dX8_ifRaked_47
    · refine x_iconst (pc := 22) C 0 dX8_ifRaked_22 ki_0 ?_
      refine x_goto (pc := 23) C 27 dX8_ifRaked_23 rfl ?_
      refine pf_X8_33 (pc := 27) C   hF dX8_ifRaked_27 (fun w9 hF => ?_)
      refine x_aload_n (pc := 30) C 0 dX8_ifRaked_30 rfl rfl ?_
      refine gf_X8_33 (pc := 31) C  dX8_ifRaked_31 ?_
      refine x_if_le (pc := 34) C 41 dX8_ifRaked_34 rfl hF (fun c12 hF => ?_) (fun c12 hF => ?_)
      · refine x_aload_n (pc := 41) C 0 dX8_ifRaked_41 rfl rfl ?_
        refine x_iload_n (pc := 42) C 1 dX8_ifRaked_42 rfl rfl ?_
        refine x_iload_n (pc := 43) C 2 dX8_ifRaked_43 rfl rfl ?_
        refine cV1_2 (pc := 44) (val := Value.int) C hF (fun _ _ h => c_X8_burnable l G b  _ _ h) vm_X8_burnable wq1140 rfl rfl ⟨Nat.le_of_ble_eq_true rfl, Nat.le_of_ble_eq_true rfl⟩ rfl rfl (fun _ h => CW.md h) (Nat.le_of_ble_eq_true rfl) ⟨Nat.le_refl _, Nat.le_refl _⟩ dX8_ifRaked_44 (fun x11 w10 hF => ?_)
        obtain ⟨rfl, rfl⟩ := ret_eq hF
        exact x_iret (pc := 47) C hr rfl (fun _ h => h) dX8_ifRaked_47
      · refine x_iconst (pc := 37) C 0 dX8_ifRaked_37 ki_0 ?_
        refine x_goto (pc := 38) C 47 dX8_ifRaked_38 rfl ?_
        obtain ⟨rfl, rfl⟩ := ret_eq hF
        exact x_iret (pc := 47) C hr rfl (fun _ h => h) dX8_ifRaked_47
  · refine x_iconst (pc := 9) C 1 dX8_ifRaked_9 ki_1 ?_
    refine x_goto (pc := 10) C 27 dX8_ifRaked_10 rfl ?_
    refine pf_X8_33 (pc := 27) C   hF dX8_ifRaked_27 (fun w14 hF => ?_)
    refine x_aload_n (pc := 30) C 0 dX8_ifRaked_30 rfl rfl ?_
    refine gf_X8_33 (pc := 31) C  dX8_ifRaked_31 ?_
    refine x_if_le (pc := 34) C 41 dX8_ifRaked_34 rfl hF (fun c17 hF => ?_) (fun c17 hF => ?_)
    · refine x_aload_n (pc := 41) C 0 dX8_ifRaked_41 rfl rfl ?_
      refine x_iload_n (pc := 42) C 1 dX8_ifRaked_42 rfl rfl ?_
      refine x_iload_n (pc := 43) C 2 dX8_ifRaked_43 rfl rfl ?_
      refine cV1_2 (pc := 44) (val := Value.int) C hF (fun _ _ h => c_X8_burnable l G b  _ _ h) vm_X8_burnable wq1140 rfl rfl ⟨Nat.le_of_ble_eq_true rfl, Nat.le_of_ble_eq_true rfl⟩ rfl rfl (fun _ h => CW.md h) (Nat.le_of_ble_eq_true rfl) ⟨Nat.le_refl _, Nat.le_refl _⟩ dX8_ifRaked_44 (fun x16 w15 hF => ?_)
      obtain ⟨rfl, rfl⟩ := ret_eq hF
      exact x_iret (pc := 47) C hr rfl (fun _ h => h) dX8_ifRaked_47
    · refine x_iconst (pc := 37) C 0 dX8_ifRaked_37 ki_0 ?_
      refine x_goto (pc := 38) C 47 dX8_ifRaked_38 rfl ?_
      obtain ⟨rfl, rfl⟩ := ret_eq hF
      exact x_iret (pc := 47) C hr rfl (fun _ h => h) dX8_ifRaked_47
set_option maxRecDepth 4000 in
theorem c_X8_ifRested (l : Launch) (G : xG) (b : Nat)     (a1 : Int32) {w w' : xWt} {v : Int32} (hF : F_X8_ifRested a1 w = some (v, w')) : xMet l G b yX8_ifRested cX8_ifRested 2 (some .int) (xR 5) [.ref (mdb b), .int (a1)] (CW G b w) (some (.int v)) (CW G b w') 0 0 := by
  refine x_of (own := RX8) rfl (plainFor_of_name pn_X8) (Nat.le_of_ble_eq_true rfl) ?_
  intro p e s m args below meth c ha C hr _
  unfold F_X8_ifRested at hF
  refine x_aload_n (pc := 0) C 0 dX8_ifRested_0 rfl rfl ?_
  refine x_aload_n (pc := 1) C 0 dX8_ifRested_1 rfl rfl ?_
  refine x_iload_n (pc := 2) C 1 dX8_ifRested_2 rfl rfl ?_
  refine cV1_1 (pc := 3) (val := Value.int) C hF (fun _ _ h => c_X8_isChild l G b  _ h) vm_X8_isChild wq303 rfl rfl ⟨Nat.le_of_ble_eq_true rfl, Nat.le_of_ble_eq_true rfl⟩ rfl rfl (fun _ h => CW.md h) (Nat.le_of_ble_eq_true rfl) ⟨Nat.le_refl _, Nat.le_refl _⟩ dX8_ifRested_3 (fun x2 w1 hF => ?_)
  refine x_if_eq (pc := 6) C 13 dX8_ifRested_6 rfl hF (fun c11 hF => ?_) (fun c11 hF => ?_)
  · refine x_iconst (pc := 13) C 1 dX8_ifRested_13 ki_1 ?_
    refine pf_X8_33 (pc := 14) C   hF dX8_ifRested_14 (fun w3 hF => ?_)
    refine x_aload_n (pc := 17) C 0 dX8_ifRested_17 rfl rfl ?_
    refine gf_X8_33 (pc := 18) C  dX8_ifRested_18 ?_
    refine x_if_le (pc := 21) C 28 dX8_ifRested_21 rfl hF (fun c6 hF => ?_) (fun c6 hF => ?_)
    · refine x_aload_n (pc := 28) C 0 dX8_ifRested_28 rfl rfl ?_
      refine x_iload_n (pc := 29) C 1 dX8_ifRested_29 rfl rfl ?_
      refine cV1_1 (pc := 30) (val := Value.int) C hF (fun _ _ h => c_X8_burnableWithout l G b  _ h) vm_X8_burnableWithout wq1204 rfl rfl ⟨Nat.le_of_ble_eq_true rfl, Nat.le_of_ble_eq_true rfl⟩ rfl rfl (fun _ h => CW.md h) (Nat.le_of_ble_eq_true rfl) ⟨Nat.le_refl _, Nat.le_refl _⟩ dX8_ifRested_30 (fun x5 w4 hF => ?_)
      obtain ⟨rfl, rfl⟩ := ret_eq hF
      exact x_iret (pc := 33) C hr rfl (fun _ h => h) dX8_ifRested_33
    · refine x_iconst (pc := 24) C 0 dX8_ifRested_24 ki_0 ?_
      refine x_goto (pc := 25) C 33 dX8_ifRested_25 rfl ?_
      obtain ⟨rfl, rfl⟩ := ret_eq hF
      exact x_iret (pc := 33) C hr rfl (fun _ h => h) dX8_ifRested_33
  · refine x_iconst (pc := 9) C 0 dX8_ifRested_9 ki_0 ?_
    refine x_goto (pc := 10) C 14 dX8_ifRested_10 rfl ?_
    refine pf_X8_33 (pc := 14) C   hF dX8_ifRested_14 (fun w7 hF => ?_)
    refine x_aload_n (pc := 17) C 0 dX8_ifRested_17 rfl rfl ?_
    refine gf_X8_33 (pc := 18) C  dX8_ifRested_18 ?_
    refine x_if_le (pc := 21) C 28 dX8_ifRested_21 rfl hF (fun c10 hF => ?_) (fun c10 hF => ?_)
    · refine x_aload_n (pc := 28) C 0 dX8_ifRested_28 rfl rfl ?_
      refine x_iload_n (pc := 29) C 1 dX8_ifRested_29 rfl rfl ?_
      refine cV1_1 (pc := 30) (val := Value.int) C hF (fun _ _ h => c_X8_burnableWithout l G b  _ h) vm_X8_burnableWithout wq1204 rfl rfl ⟨Nat.le_of_ble_eq_true rfl, Nat.le_of_ble_eq_true rfl⟩ rfl rfl (fun _ h => CW.md h) (Nat.le_of_ble_eq_true rfl) ⟨Nat.le_refl _, Nat.le_refl _⟩ dX8_ifRested_30 (fun x9 w8 hF => ?_)
      obtain ⟨rfl, rfl⟩ := ret_eq hF
      exact x_iret (pc := 33) C hr rfl (fun _ h => h) dX8_ifRested_33
    · refine x_iconst (pc := 24) C 0 dX8_ifRested_24 ki_0 ?_
      refine x_goto (pc := 25) C 33 dX8_ifRested_25 rfl ?_
      obtain ⟨rfl, rfl⟩ := ret_eq hF
      exact x_iret (pc := 33) C hr rfl (fun _ h => h) dX8_ifRested_33
set_option maxRecDepth 4000 in
theorem c_X8_isLeaf (l : Launch) (G : xG) (b : Nat)     (a1 : Int32) {w w' : xWt} {v : Int32} (hF : F_X8_isLeaf a1 w = some (v, w')) : xMet l G b yX8_isLeaf cX8_isLeaf 2 (some .boolean) (xR 1) [.ref (mdb b), .int (a1)] (CW G b w) (some (.int v)) (CW G b w') 0 0 := by
  refine x_of (own := RX8) rfl (plainFor_of_name pn_X8) (Nat.le_of_ble_eq_true rfl) ?_
  intro p e s m args below meth c ha C hr _
  unfold F_X8_isLeaf at hF
  refine x_iload_n (pc := 0) C 1 dX8_isLeaf_0 rfl rfl ?_
  refine x_iconst (pc := 1) C 0 dX8_isLeaf_1 ki_0 ?_
  refine x_aload_n (pc := 2) C 0 dX8_isLeaf_2 rfl rfl ?_
  refine gf_X8_7 (pc := 3) C  dX8_isLeaf_3 ?_
  refine x_iconst (pc := 6) C 1 dX8_isLeaf_6 ki_1 ?_
  refine w_ald (pc := 7) C (vA_m 0 (by decide)) hF dX8_isLeaf_7 (fun x1 hF => ?_)
  refine x_iconst (pc := 8) C 1 dX8_isLeaf_8 ki_1 ?_
  refine x_isub (pc := 9) C dX8_isLeaf_9 ?_
  refine cS1_3 (pc := 10) (val := Value.int) C hF (fun _ _ h => c_X8_in l G b  _ _ _ h) sm_X8_in wq307 rfl rfl ⟨Nat.le_of_ble_eq_true rfl, Nat.le_of_ble_eq_true rfl⟩ (Nat.le_of_ble_eq_true rfl) ⟨Nat.le_refl _, Nat.le_refl _⟩ dX8_isLeaf_10 (fun x3 w2 hF => ?_)
  obtain ⟨hz, hF⟩ := zr_some hF
  obtain ⟨rfl, rfl⟩ := ret_eq hF
  exact x_zret (pc := 13) C (bool_ok hz) hr rfl (fun _ h => h) dX8_isLeaf_13
set_option maxRecDepth 4000 in
theorem s_X8_keep_7 (C : xC p m c s args meth G b cX8_keep 2 RX8)    : ∀ (n9 : Nat) (l1 : Int32) (w : xWt) (o : (Int32)) (w' : xWt), L_X8_keep_7  n9 l1 w = some (o, w') → xW p l e (xR 0) s m args below meth c Q b 2 (CW G b w') 0 0 32 [(0, .ref (mdb b)), (1, .int (o))] [] → xW p l e (xR 0) s m args below meth c Q b 2 (CW G b w) 0 0 7 [(0, .ref (mdb b)), (1, .int (l1))] [] := by
  intro n9
  induction n9 with
  | zero => intro l1 w o w' hF; exact none_ne (show none = some _ from hF)
  | succ n9 ih =>
    intro l1 w o w' hF kx
    replace hF : B_X8_keep_7  (L_X8_keep_7  n9) l1 w = some (o, w') := hF
    unfold B_X8_keep_7 at hF
    refine x_iload_n (pc := 7) C 1 dX8_keep_7 rfl rfl ?_
    refine x_sipush (pc := 8) C 817 dX8_keep_8 ks_817 ?_
    refine x_icmp_ge (pc := 11) C 32 dX8_keep_11 rfl hF (fun c4 hF => ?_) (fun c4 hF => ?_)
    · obtain ⟨rfl, rfl⟩ := ret_eq hF
      exact x_sub [0, 1] rfl kx
    · refine x_aload_n (pc := 14) C 0 dX8_keep_14 rfl rfl ?_
      refine gf_X8_16 (pc := 15) C  dX8_keep_15 ?_
      refine x_iload_n (pc := 18) C 1 dX8_keep_18 rfl rfl ?_
      refine x_aload_n (pc := 19) C 0 dX8_keep_19 rfl rfl ?_
      refine gf_X8_7 (pc := 20) C  dX8_keep_20 ?_
      refine x_iload_n (pc := 23) C 1 dX8_keep_23 rfl rfl ?_
      refine w_ald (pc := 24) C (vA_m 0 (by decide)) hF dX8_keep_24 (fun x2 hF => ?_)
      refine w_ast (pc := 25) C (vA_m 2 (by decide)) hF dX8_keep_25 (fun w3 hF => ?_)
      refine x_iinc (pc := 26) C 1 [(1, .int ((l1 + 1))), (0, .ref (mdb b))] dX8_keep_26 rfl rfl (by decide) rfl ?_
      refine x_goto (pc := 29) C 7 dX8_keep_29 rfl ?_
      exact x_sub [1, 0] rfl (ih _ _ _ _ hF kx)
set_option maxRecDepth 4000 in
theorem c_X8_keep (l : Launch) (G : xG) (b : Nat)      {w w' : xWt} {v : Int32} (hF : F_X8_keep  w = some (v, w')) : xMet l G b yX8_keep cX8_keep 2 (some .int) (xR 0) [.ref (mdb b)] (CW G b w) (some (.int v)) (CW G b w') 0 0 := by
  refine x_of (own := RX8) rfl (plainFor_of_name pn_X8) (Nat.le_of_ble_eq_true rfl) ?_
  intro p e s m args below meth c ha C hr _
  unfold F_X8_keep at hF
  refine x_aload_n (pc := 0) C 0 dX8_keep_0 rfl rfl ?_
  refine x_iconst (pc := 1) C 0 dX8_keep_1 ki_0 ?_
  refine pf_X8_33 (pc := 2) C   hF dX8_keep_2 (fun w1 hF => ?_)
  refine x_iconst (pc := 5) C 0 dX8_keep_5 ki_0 ?_
  refine x_istore_n (pc := 6) C [(1, .int (0)), (0, .ref (mdb b))] dX8_keep_6 rfl (by decide) rfl ?_
  obtain ⟨o5, w6, hL, hF⟩ := bd_some hF
  refine x_sub [1, 0] rfl (s_X8_keep_7 C  _ _ _ _ _ hL ?_)
  refine x_aload_n (pc := 32) C 0 dX8_keep_32 rfl rfl ?_
  refine x_iconst (pc := 33) C 1 dX8_keep_33 ki_1 ?_
  refine pf_X8_75 (pc := 34) C  (Or.inr rfl) hF dX8_keep_34 (fun w7 hF => ?_)
  refine x_aload_n (pc := 37) C 0 dX8_keep_37 rfl rfl ?_
  refine gf_X8_7 (pc := 38) C  dX8_keep_38 ?_
  refine x_iconst (pc := 41) C 0 dX8_keep_41 ki_0 ?_
  refine w_ald (pc := 42) C (vA_m 0 (by decide)) hF dX8_keep_42 (fun x8 hF => ?_)
  obtain ⟨rfl, rfl⟩ := ret_eq hF
  exact x_iret (pc := 43) C hr rfl (fun _ h => h) dX8_keep_43
set_option maxRecDepth 4000 in
theorem c_X8_late (l : Launch) (G : xG) (b : Nat)      {w w' : xWt} {v : Int32} (hF : F_X8_late  w = some (v, w')) : xMet l G b yX8_late cX8_late 1 (some .int) (xR 3) [.ref (mdb b)] (CW G b w) (some (.int v)) (CW G b w') 0 0 := by
  refine x_of (own := RX8) rfl (plainFor_of_name pn_X8) (Nat.le_of_ble_eq_true rfl) ?_
  intro p e s m args below meth c ha C hr _
  unfold F_X8_late at hF
  refine x_aload_n (pc := 0) C 0 dX8_late_0 rfl rfl ?_
  refine x_iconst (pc := 1) C 0 dX8_late_1 ki_0 ?_
  refine pf_X8_33 (pc := 2) C   hF dX8_late_2 (fun w1 hF => ?_)
  refine x_aload_n (pc := 5) C 0 dX8_late_5 rfl rfl ?_
  refine cV1_0 (pc := 6) (val := Value.int) C hF (fun _ _ h => c_X8_lateOnes l G b  h) vm_X8_lateOnes wq431 rfl rfl ⟨Nat.le_of_ble_eq_true rfl, Nat.le_of_ble_eq_true rfl⟩ rfl rfl (fun _ h => CW.md h) (Nat.le_of_ble_eq_true rfl) ⟨Nat.le_refl _, Nat.le_refl _⟩ dX8_late_6 (fun x3 w2 hF => ?_)
  obtain ⟨rfl, rfl⟩ := ret_eq hF
  exact x_iret (pc := 9) C hr rfl (fun _ h => h) dX8_late_9
set_option maxRecDepth 4000 in
theorem c_X8_leaf (l : Launch) (G : xG) (b : Nat)     (a1 : Int32) (a2 : Int32) {w w' : xWt} {v : Int32} (hF : F_X8_leaf a1 a2 w = some (v, w')) : xMet l G b yX8_leaf cX8_leaf 3 (some .int) (xR 4) [.ref (mdb b), .int (a1), .int (a2)] (CW G b w) (some (.int v)) (CW G b w') 0 0 := by
  refine x_of (own := RX8) rfl (plainFor_of_name pn_X8) (Nat.le_of_ble_eq_true rfl) ?_
  intro p e s m args below meth c ha C hr _
  unfold F_X8_leaf at hF
  refine x_aload_n (pc := 0) C 0 dX8_leaf_0 rfl rfl ?_
  refine x_aload_n (pc := 1) C 0 dX8_leaf_1 rfl rfl ?_
  refine x_iload_n (pc := 2) C 1 dX8_leaf_2 rfl rfl ?_
  refine cV1_1 (pc := 3) (val := Value.int) C hF (fun _ _ h => c_X8_isLeaf l G b  _ h) vm_X8_isLeaf wq989 rfl rfl ⟨Nat.le_of_ble_eq_true rfl, Nat.le_of_ble_eq_true rfl⟩ rfl rfl (fun _ h => CW.md h) (Nat.le_of_ble_eq_true rfl) ⟨Nat.le_refl _, Nat.le_refl _⟩ dX8_leaf_3 (fun x2 w1 hF => ?_)
  refine x_if_ne (pc := 6) C 13 dX8_leaf_6 rfl hF (fun c18 hF => ?_) (fun c18 hF => ?_)
  · refine x_iload_n (pc := 13) C 2 dX8_leaf_13 rfl rfl ?_
    refine x_iconst (pc := 14) C 0 dX8_leaf_14 ki_0 ?_
    refine x_bipush (pc := 15) C 7 dX8_leaf_15 kb_7 ?_
    refine cS1_3 (pc := 17) (val := Value.int) C hF (fun _ _ h => c_X8_in l G b  _ _ _ h) sm_X8_in wq307 rfl rfl ⟨Nat.le_of_ble_eq_true rfl, Nat.le_of_ble_eq_true rfl⟩ (Nat.le_of_ble_eq_true rfl) ⟨Nat.le_refl _, Nat.le_refl _⟩ dX8_leaf_17 (fun x4 w3 hF => ?_)
    refine x_if_eq (pc := 20) C 27 dX8_leaf_20 rfl hF (fun c13 hF => ?_) (fun c13 hF => ?_)
    · refine x_iconst (pc := 27) C 2 dX8_leaf_27 ki_2 ?_
      refine pf_X8_33 (pc := 28) C   hF dX8_leaf_28 (fun w5 hF => ?_)
      refine x_aload_n (pc := 31) C 0 dX8_leaf_31 rfl rfl ?_
      refine gf_X8_33 (pc := 32) C  dX8_leaf_32 ?_
      refine x_if_le (pc := 35) C 42 dX8_leaf_35 rfl hF (fun c8 hF => ?_) (fun c8 hF => ?_)
      · refine x_aload_n (pc := 42) C 0 dX8_leaf_42 rfl rfl ?_
        refine x_iload_n (pc := 43) C 1 dX8_leaf_43 rfl rfl ?_
        refine x_iload_n (pc := 44) C 2 dX8_leaf_44 rfl rfl ?_
        refine cV1_2 (pc := 45) (val := Value.int) C hF (fun _ _ h => c_X8_leafNow l G b  _ _ h) vm_X8_leafNow wq993 rfl rfl ⟨Nat.le_of_ble_eq_true rfl, Nat.le_of_ble_eq_true rfl⟩ rfl rfl (fun _ h => CW.md h) (Nat.le_of_ble_eq_true rfl) ⟨Nat.le_refl _, Nat.le_refl _⟩ dX8_leaf_45 (fun x7 w6 hF => ?_)
        obtain ⟨rfl, rfl⟩ := ret_eq hF
        exact x_iret (pc := 48) C hr rfl (fun _ h => h) dX8_leaf_48
      · refine x_iconst (pc := 38) C 0 dX8_leaf_38 ki_0 ?_
        refine x_goto (pc := 39) C 48 dX8_leaf_39 rfl ?_
        obtain ⟨rfl, rfl⟩ := ret_eq hF
        exact x_iret (pc := 48) C hr rfl (fun _ h => h) dX8_leaf_48
    · refine x_iconst (pc := 23) C 0 dX8_leaf_23 ki_0 ?_
      refine x_goto (pc := 24) C 28 dX8_leaf_24 rfl ?_
      refine pf_X8_33 (pc := 28) C   hF dX8_leaf_28 (fun w9 hF => ?_)
      refine x_aload_n (pc := 31) C 0 dX8_leaf_31 rfl rfl ?_
      refine gf_X8_33 (pc := 32) C  dX8_leaf_32 ?_
      refine x_if_le (pc := 35) C 42 dX8_leaf_35 rfl hF (fun c12 hF => ?_) (fun c12 hF => ?_)
      · refine x_aload_n (pc := 42) C 0 dX8_leaf_42 rfl rfl ?_
        refine x_iload_n (pc := 43) C 1 dX8_leaf_43 rfl rfl ?_
        refine x_iload_n (pc := 44) C 2 dX8_leaf_44 rfl rfl ?_
        refine cV1_2 (pc := 45) (val := Value.int) C hF (fun _ _ h => c_X8_leafNow l G b  _ _ h) vm_X8_leafNow wq993 rfl rfl ⟨Nat.le_of_ble_eq_true rfl, Nat.le_of_ble_eq_true rfl⟩ rfl rfl (fun _ h => CW.md h) (Nat.le_of_ble_eq_true rfl) ⟨Nat.le_refl _, Nat.le_refl _⟩ dX8_leaf_45 (fun x11 w10 hF => ?_)
        obtain ⟨rfl, rfl⟩ := ret_eq hF
        exact x_iret (pc := 48) C hr rfl (fun _ h => h) dX8_leaf_48
      · refine x_iconst (pc := 38) C 0 dX8_leaf_38 ki_0 ?_
        refine x_goto (pc := 39) C 48 dX8_leaf_39 rfl ?_
        obtain ⟨rfl, rfl⟩ := ret_eq hF
        exact x_iret (pc := 48) C hr rfl (fun _ h => h) dX8_leaf_48
  · refine x_iconst (pc := 9) C 1 dX8_leaf_9 ki_1 ?_
    refine x_goto (pc := 10) C 28 dX8_leaf_10 rfl ?_
    refine pf_X8_33 (pc := 28) C   hF dX8_leaf_28 (fun w14 hF => ?_)
    refine x_aload_n (pc := 31) C 0 dX8_leaf_31 rfl rfl ?_
    refine gf_X8_33 (pc := 32) C  dX8_leaf_32 ?_
    refine x_if_le (pc := 35) C 42 dX8_leaf_35 rfl hF (fun c17 hF => ?_) (fun c17 hF => ?_)
    · refine x_aload_n (pc := 42) C 0 dX8_leaf_42 rfl rfl ?_
      refine x_iload_n (pc := 43) C 1 dX8_leaf_43 rfl rfl ?_
      refine x_iload_n (pc := 44) C 2 dX8_leaf_44 rfl rfl ?_
      refine cV1_2 (pc := 45) (val := Value.int) C hF (fun _ _ h => c_X8_leafNow l G b  _ _ h) vm_X8_leafNow wq993 rfl rfl ⟨Nat.le_of_ble_eq_true rfl, Nat.le_of_ble_eq_true rfl⟩ rfl rfl (fun _ h => CW.md h) (Nat.le_of_ble_eq_true rfl) ⟨Nat.le_refl _, Nat.le_refl _⟩ dX8_leaf_45 (fun x16 w15 hF => ?_)
      obtain ⟨rfl, rfl⟩ := ret_eq hF
      exact x_iret (pc := 48) C hr rfl (fun _ h => h) dX8_leaf_48
    · refine x_iconst (pc := 38) C 0 dX8_leaf_38 ki_0 ?_
      refine x_goto (pc := 39) C 48 dX8_leaf_39 rfl ?_
      obtain ⟨rfl, rfl⟩ := ret_eq hF
      exact x_iret (pc := 48) C hr rfl (fun _ h => h) dX8_leaf_48
set_option maxRecDepth 4000 in
theorem s_X8_leave_49 (C : xC p m c s args meth G b cX8_leave 5 RX8)    : ∀ (n9 : Nat) (l1 : Int32) (l2 : Int32) (w : xWt) (o : (Int32)) (w' : xWt), L_X8_leave_49  n9 l1 l2 w = some (o, w') → xW p l e (xR 4) s m args below meth c Q b 5 (CW G b w') 0 0 64 [(0, .ref (mdb b)), (1, .int (l1)), (2, .int (o))] [] → xW p l e (xR 4) s m args below meth c Q b 5 (CW G b w) 0 0 49 [(0, .ref (mdb b)), (1, .int (l1)), (2, .int (l2))] [] := by
  intro n9
  induction n9 with
  | zero => intro l1 l2 w o w' hF; exact none_ne (show none = some _ from hF)
  | succ n9 ih =>
    intro l1 l2 w o w' hF kx
    replace hF : B_X8_leave_49  (L_X8_leave_49  n9) l1 l2 w = some (o, w') := hF
    unfold B_X8_leave_49 at hF
    refine x_aload_n (pc := 49) C 0 dX8_leave_49 rfl rfl ?_
    refine x_iload_n (pc := 50) C 2 dX8_leave_50 rfl rfl ?_
    refine x_iconst (pc := 51) C 0 dX8_leave_51 ki_0 ?_
    refine cV1_2 (pc := 52) (val := Value.int) C hF (fun _ _ h => c_X8_ofChild l G b  _ _ h) vm_X8_ofChild wq221 rfl rfl ⟨Nat.le_of_ble_eq_true rfl, Nat.le_of_ble_eq_true rfl⟩ rfl rfl (fun _ h => CW.md h) (Nat.le_of_ble_eq_true rfl) ⟨Nat.le_refl _, Nat.le_refl _⟩ dX8_leave_52 (fun x9 w8 hF => ?_)
    refine x_if_ne (pc := 55) C 64 dX8_leave_55 rfl hF (fun c10 hF => ?_) (fun c10 hF => ?_)
    · obtain ⟨rfl, rfl⟩ := ret_eq hF
      exact x_sub [0, 1, 2] rfl kx
    · refine x_iinc (pc := 58) C 2 [(2, .int ((l2 + 1))), (0, .ref (mdb b)), (1, .int (l1))] dX8_leave_58 rfl rfl (by decide) rfl ?_
      refine x_goto (pc := 61) C 49 dX8_leave_61 rfl ?_
      exact x_sub [1, 2, 0] rfl (ih _ _ _ _ _ hF kx)
set_option maxRecDepth 4000 in
theorem s_X8_leave_74 (C : xC p m c s args meth G b cX8_leave 5 RX8)    : ∀ (n9 : Nat) (l1 : Int32) (l2 : Int32) (l3 : Int32) (l4 : Int32) (w : xWt) (o : (Int32 × Int32)) (w' : xWt), L_X8_leave_74  n9 l1 l2 l3 l4 w = some (o, w') → xW p l e (xR 4) s m args below meth c Q b 5 (CW G b w') 0 0 100 [(0, .ref (mdb b)), (1, .int (l1)), (2, .int (l2)), (3, .int (o.1)), (4, .int (o.2))] [] → xW p l e (xR 4) s m args below meth c Q b 5 (CW G b w) 0 0 74 [(0, .ref (mdb b)), (1, .int (l1)), (2, .int (l2)), (3, .int (l3)), (4, .int (l4))] [] := by
  intro n9
  induction n9 with
  | zero => intro l1 l2 l3 l4 w o w' hF; exact none_ne (show none = some _ from hF)
  | succ n9 ih =>
    intro l1 l2 l3 l4 w o w' hF kx
    replace hF : B_X8_leave_74  (L_X8_leave_74  n9) l1 l2 l3 l4 w = some (o, w') := hF
    unfold B_X8_leave_74 at hF
    refine x_iload (pc := 74) C 4 dX8_leave_74 rfl ?_
    refine x_if_lt (pc := 76) C 100 dX8_leave_76 rfl hF (fun c18 hF => ?_) (fun c18 hF => ?_)
    · obtain ⟨rfl, rfl⟩ := ret_eq hF
      exact x_sub [0, 1, 2, 3, 4] rfl kx
    · refine x_aload_n (pc := 79) C 0 dX8_leave_79 rfl rfl ?_
      refine x_iload (pc := 80) C 4 dX8_leave_80 rfl ?_
      refine x_iload_n (pc := 82) C 2 dX8_leave_82 rfl rfl ?_
      refine cV0_2 (pc := 83) C hF (fun _ _ h => c_X8_putOnHeap l G b  _ _ h) vm_X8_putOnHeap wq322 rfl rfl ⟨Nat.le_of_ble_eq_true rfl, Nat.le_of_ble_eq_true rfl⟩ rfl rfl (fun _ h => CW.md h) (Nat.le_of_ble_eq_true rfl) ⟨Nat.le_refl _, Nat.le_refl _⟩ dX8_leave_83 (fun _ w15 hF => ?_)
      refine x_iinc (pc := 86) C 3 [(3, .int ((l3 + 1))), (0, .ref (mdb b)), (1, .int (l1)), (2, .int (l2)), (4, .int (l4))] dX8_leave_86 rfl rfl (by decide) rfl ?_
      refine x_aload_n (pc := 89) C 1 dX8_leave_89 rfl rfl ?_
      refine x_iload_n (pc := 90) C 2 dX8_leave_90 rfl rfl ?_
      refine x_iconst (pc := 91) C 0 dX8_leave_91 ki_0 ?_
      refine cV1_2 (pc := 92) (val := Value.int) C hF (fun _ _ h => c_X8_onHeap l G b  _ _ h) vm_X8_onHeap wq310 rfl rfl ⟨Nat.le_of_ble_eq_true rfl, Nat.le_of_ble_eq_true rfl⟩ rfl rfl (fun _ h => CW.md h) (Nat.le_of_ble_eq_true rfl) ⟨Nat.le_refl _, Nat.le_refl _⟩ dX8_leave_92 (fun x17 w16 hF => ?_)
      refine x_istore (pc := 95) C [(4, .int (x17)), (3, .int ((l3 + 1))), (0, .ref (mdb b)), (1, .int (l1)), (2, .int (l2))] dX8_leave_95 (by decide) rfl ?_
      refine x_goto (pc := 97) C 74 dX8_leave_97 rfl ?_
      exact x_sub [2, 3, 4, 1, 0] rfl (ih _ _ _ _ _ _ _ hF kx)
set_option maxRecDepth 4000 in
theorem c_X8_leave (l : Launch) (G : xG) (b : Nat)     (a1 : Int32) {w w' : xWt} {v : Int32} (hF : F_X8_leave a1 w = some (v, w')) : xMet l G b yX8_leave cX8_leave 5 (some .int) (xR 4) [.ref (mdb b), .int (a1)] (CW G b w) (some (.int v)) (CW G b w') 0 0 := by
  refine x_of (own := RX8) rfl (plainFor_of_name pn_X8) (Nat.le_of_ble_eq_true rfl) ?_
  intro p e s m args below meth c ha C hr _
  unfold F_X8_leave at hF
  refine x_aload_n (pc := 0) C 0 dX8_leave_0 rfl rfl ?_
  refine x_aload_n (pc := 1) C 0 dX8_leave_1 rfl rfl ?_
  refine x_iload_n (pc := 2) C 1 dX8_leave_2 rfl rfl ?_
  refine cV1_1 (pc := 3) (val := Value.int) C hF (fun _ _ h => c_X8_isChild l G b  _ h) vm_X8_isChild wq303 rfl rfl ⟨Nat.le_of_ble_eq_true rfl, Nat.le_of_ble_eq_true rfl⟩ rfl rfl (fun _ h => CW.md h) (Nat.le_of_ble_eq_true rfl) ⟨Nat.le_refl _, Nat.le_refl _⟩ dX8_leave_3 (fun x2 w1 hF => ?_)
  refine x_if_ne (pc := 6) C 13 dX8_leave_6 rfl hF (fun c43 hF => ?_) (fun c43 hF => ?_)
  · refine x_aload_n (pc := 13) C 0 dX8_leave_13 rfl rfl ?_
    refine cV1_0 (pc := 14) (val := Value.int) C hF (fun _ _ h => c_X8_children l G b  h) vm_X8_children wq217 rfl rfl ⟨Nat.le_of_ble_eq_true rfl, Nat.le_of_ble_eq_true rfl⟩ rfl rfl (fun _ h => CW.md h) (Nat.le_of_ble_eq_true rfl) ⟨Nat.le_refl _, Nat.le_refl _⟩ dX8_leave_14 (fun x4 w3 hF => ?_)
    refine x_iconst (pc := 17) C 1 dX8_leave_17 ki_1 ?_
    refine x_icmp_ne (pc := 18) C 25 dX8_leave_18 rfl hF (fun c32 hF => ?_) (fun c32 hF => ?_)
    · refine x_iconst (pc := 25) C 0 dX8_leave_25 ki_0 ?_
      refine pf_X8_33 (pc := 26) C   hF dX8_leave_26 (fun w5 hF => ?_)
      refine x_aload_n (pc := 29) C 0 dX8_leave_29 rfl rfl ?_
      refine gf_X8_33 (pc := 30) C  dX8_leave_30 ?_
      refine x_if_le (pc := 33) C 38 dX8_leave_33 rfl hF (fun c21 hF => ?_) (fun c21 hF => ?_)
      · refine x_aload_n (pc := 38) C 0 dX8_leave_38 rfl rfl ?_
        refine cV0_0 (pc := 39) C hF (fun _ _ h => c_X8_record l G b  h) vm_X8_record wq225 rfl rfl ⟨Nat.le_of_ble_eq_true rfl, Nat.le_of_ble_eq_true rfl⟩ rfl rfl (fun _ h => CW.md h) (Nat.le_of_ble_eq_true rfl) ⟨Nat.le_refl _, Nat.le_refl _⟩ dX8_leave_39 (fun _ w6 hF => ?_)
        refine x_aload_n (pc := 42) C 0 dX8_leave_42 rfl rfl ?_
        refine x_iload_n (pc := 43) C 1 dX8_leave_43 rfl rfl ?_
        refine cV0_1 (pc := 44) C hF (fun _ _ h => c_X8_clearChild l G b  _ h) vm_X8_clearChild wq115 rfl rfl ⟨Nat.le_of_ble_eq_true rfl, Nat.le_of_ble_eq_true rfl⟩ rfl rfl (fun _ h => CW.md h) (Nat.le_of_ble_eq_true rfl) ⟨Nat.le_refl _, Nat.le_refl _⟩ dX8_leave_44 (fun _ w7 hF => ?_)
        refine x_iconst (pc := 47) C 0 dX8_leave_47 ki_0 ?_
        refine x_istore_n (pc := 48) C [(2, .int (0)), (0, .ref (mdb b)), (1, .int (a1))] dX8_leave_48 rfl (by decide) rfl ?_
        obtain ⟨o11, w12, hL, hF⟩ := bd_some hF
        refine x_sub [1, 2, 0] rfl (s_X8_leave_49 C  _ _ _ _ _ _ hL ?_)
        refine x_iconst (pc := 64) C 0 dX8_leave_64 ki_0 ?_
        refine x_istore_n (pc := 65) C [(3, .int (0)), (0, .ref (mdb b)), (1, .int (a1)), (2, .int (o11))] dX8_leave_65 rfl (by decide) rfl ?_
        refine x_aload_n (pc := 66) C 1 dX8_leave_66 rfl rfl ?_
        refine x_iload_n (pc := 67) C 2 dX8_leave_67 rfl rfl ?_
        refine x_iconst (pc := 68) C 0 dX8_leave_68 ki_0 ?_
        refine cV1_2 (pc := 69) (val := Value.int) C hF (fun _ _ h => c_X8_onHeap l G b  _ _ h) vm_X8_onHeap wq310 rfl rfl ⟨Nat.le_of_ble_eq_true rfl, Nat.le_of_ble_eq_true rfl⟩ rfl rfl (fun _ h => CW.md h) (Nat.le_of_ble_eq_true rfl) ⟨Nat.le_refl _, Nat.le_refl _⟩ dX8_leave_69 (fun x14 w13 hF => ?_)
        refine x_istore (pc := 72) C [(4, .int (x14)), (3, .int (0)), (0, .ref (mdb b)), (1, .int (a1)), (2, .int (o11))] dX8_leave_72 (by decide) rfl ?_
        obtain ⟨o19, w20, hL, hF⟩ := bd_some hF
        refine x_sub [2, 3, 4, 1, 0] rfl (s_X8_leave_74 C  _ _ _ _ _ _ _ _ hL ?_)
        refine x_iload_n (pc := 100) C 3 dX8_leave_100 rfl rfl ?_
        obtain ⟨rfl, rfl⟩ := ret_eq hF
        exact x_iret (pc := 101) C hr rfl (fun _ h => h) dX8_leave_101
      · refine x_iconst (pc := 36) C 0 dX8_leave_36 ki_0 ?_
        obtain ⟨rfl, rfl⟩ := ret_eq hF
        exact x_iret (pc := 37) C hr rfl (fun _ h => h) dX8_leave_37
    · refine x_iconst (pc := 21) C 2 dX8_leave_21 ki_2 ?_
      refine x_goto (pc := 22) C 26 dX8_leave_22 rfl ?_
      refine pf_X8_33 (pc := 26) C   hF dX8_leave_26 (fun w22 hF => ?_)
      refine x_aload_n (pc := 29) C 0 dX8_leave_29 rfl rfl ?_
      refine gf_X8_33 (pc := 30) C  dX8_leave_30 ?_
      refine x_if_le (pc := 33) C 38 dX8_leave_33 rfl hF (fun c31 hF => ?_) (fun c31 hF => ?_)
      · refine x_aload_n (pc := 38) C 0 dX8_leave_38 rfl rfl ?_
        refine cV0_0 (pc := 39) C hF (fun _ _ h => c_X8_record l G b  h) vm_X8_record wq225 rfl rfl ⟨Nat.le_of_ble_eq_true rfl, Nat.le_of_ble_eq_true rfl⟩ rfl rfl (fun _ h => CW.md h) (Nat.le_of_ble_eq_true rfl) ⟨Nat.le_refl _, Nat.le_refl _⟩ dX8_leave_39 (fun _ w23 hF => ?_)
        refine x_aload_n (pc := 42) C 0 dX8_leave_42 rfl rfl ?_
        refine x_iload_n (pc := 43) C 1 dX8_leave_43 rfl rfl ?_
        refine cV0_1 (pc := 44) C hF (fun _ _ h => c_X8_clearChild l G b  _ h) vm_X8_clearChild wq115 rfl rfl ⟨Nat.le_of_ble_eq_true rfl, Nat.le_of_ble_eq_true rfl⟩ rfl rfl (fun _ h => CW.md h) (Nat.le_of_ble_eq_true rfl) ⟨Nat.le_refl _, Nat.le_refl _⟩ dX8_leave_44 (fun _ w24 hF => ?_)
        refine x_iconst (pc := 47) C 0 dX8_leave_47 ki_0 ?_
        refine x_istore_n (pc := 48) C [(2, .int (0)), (0, .ref (mdb b)), (1, .int (a1))] dX8_leave_48 rfl (by decide) rfl ?_
        obtain ⟨o25, w26, hL, hF⟩ := bd_some hF
        refine x_sub [1, 2, 0] rfl (s_X8_leave_49 C  _ _ _ _ _ _ hL ?_)
        refine x_iconst (pc := 64) C 0 dX8_leave_64 ki_0 ?_
        refine x_istore_n (pc := 65) C [(3, .int (0)), (0, .ref (mdb b)), (1, .int (a1)), (2, .int (o25))] dX8_leave_65 rfl (by decide) rfl ?_
        refine x_aload_n (pc := 66) C 1 dX8_leave_66 rfl rfl ?_
        refine x_iload_n (pc := 67) C 2 dX8_leave_67 rfl rfl ?_
        refine x_iconst (pc := 68) C 0 dX8_leave_68 ki_0 ?_
        refine cV1_2 (pc := 69) (val := Value.int) C hF (fun _ _ h => c_X8_onHeap l G b  _ _ h) vm_X8_onHeap wq310 rfl rfl ⟨Nat.le_of_ble_eq_true rfl, Nat.le_of_ble_eq_true rfl⟩ rfl rfl (fun _ h => CW.md h) (Nat.le_of_ble_eq_true rfl) ⟨Nat.le_refl _, Nat.le_refl _⟩ dX8_leave_69 (fun x28 w27 hF => ?_)
        refine x_istore (pc := 72) C [(4, .int (x28)), (3, .int (0)), (0, .ref (mdb b)), (1, .int (a1)), (2, .int (o25))] dX8_leave_72 (by decide) rfl ?_
        obtain ⟨o29, w30, hL, hF⟩ := bd_some hF
        refine x_sub [2, 3, 4, 1, 0] rfl (s_X8_leave_74 C  _ _ _ _ _ _ _ _ hL ?_)
        refine x_iload_n (pc := 100) C 3 dX8_leave_100 rfl rfl ?_
        obtain ⟨rfl, rfl⟩ := ret_eq hF
        exact x_iret (pc := 101) C hr rfl (fun _ h => h) dX8_leave_101
      · refine x_iconst (pc := 36) C 0 dX8_leave_36 ki_0 ?_
        obtain ⟨rfl, rfl⟩ := ret_eq hF
        exact x_iret (pc := 37) C hr rfl (fun _ h => h) dX8_leave_37
  · refine x_iconst (pc := 9) C 1 dX8_leave_9 ki_1 ?_
    refine x_goto (pc := 10) C 26 dX8_leave_10 rfl ?_
    refine pf_X8_33 (pc := 26) C   hF dX8_leave_26 (fun w33 hF => ?_)
    refine x_aload_n (pc := 29) C 0 dX8_leave_29 rfl rfl ?_
    refine gf_X8_33 (pc := 30) C  dX8_leave_30 ?_
    refine x_if_le (pc := 33) C 38 dX8_leave_33 rfl hF (fun c42 hF => ?_) (fun c42 hF => ?_)
    · refine x_aload_n (pc := 38) C 0 dX8_leave_38 rfl rfl ?_
      refine cV0_0 (pc := 39) C hF (fun _ _ h => c_X8_record l G b  h) vm_X8_record wq225 rfl rfl ⟨Nat.le_of_ble_eq_true rfl, Nat.le_of_ble_eq_true rfl⟩ rfl rfl (fun _ h => CW.md h) (Nat.le_of_ble_eq_true rfl) ⟨Nat.le_refl _, Nat.le_refl _⟩ dX8_leave_39 (fun _ w34 hF => ?_)
      refine x_aload_n (pc := 42) C 0 dX8_leave_42 rfl rfl ?_
      refine x_iload_n (pc := 43) C 1 dX8_leave_43 rfl rfl ?_
      refine cV0_1 (pc := 44) C hF (fun _ _ h => c_X8_clearChild l G b  _ h) vm_X8_clearChild wq115 rfl rfl ⟨Nat.le_of_ble_eq_true rfl, Nat.le_of_ble_eq_true rfl⟩ rfl rfl (fun _ h => CW.md h) (Nat.le_of_ble_eq_true rfl) ⟨Nat.le_refl _, Nat.le_refl _⟩ dX8_leave_44 (fun _ w35 hF => ?_)
      refine x_iconst (pc := 47) C 0 dX8_leave_47 ki_0 ?_
      refine x_istore_n (pc := 48) C [(2, .int (0)), (0, .ref (mdb b)), (1, .int (a1))] dX8_leave_48 rfl (by decide) rfl ?_
      obtain ⟨o36, w37, hL, hF⟩ := bd_some hF
      refine x_sub [1, 2, 0] rfl (s_X8_leave_49 C  _ _ _ _ _ _ hL ?_)
      refine x_iconst (pc := 64) C 0 dX8_leave_64 ki_0 ?_
      refine x_istore_n (pc := 65) C [(3, .int (0)), (0, .ref (mdb b)), (1, .int (a1)), (2, .int (o36))] dX8_leave_65 rfl (by decide) rfl ?_
      refine x_aload_n (pc := 66) C 1 dX8_leave_66 rfl rfl ?_
      refine x_iload_n (pc := 67) C 2 dX8_leave_67 rfl rfl ?_
      refine x_iconst (pc := 68) C 0 dX8_leave_68 ki_0 ?_
      refine cV1_2 (pc := 69) (val := Value.int) C hF (fun _ _ h => c_X8_onHeap l G b  _ _ h) vm_X8_onHeap wq310 rfl rfl ⟨Nat.le_of_ble_eq_true rfl, Nat.le_of_ble_eq_true rfl⟩ rfl rfl (fun _ h => CW.md h) (Nat.le_of_ble_eq_true rfl) ⟨Nat.le_refl _, Nat.le_refl _⟩ dX8_leave_69 (fun x39 w38 hF => ?_)
      refine x_istore (pc := 72) C [(4, .int (x39)), (3, .int (0)), (0, .ref (mdb b)), (1, .int (a1)), (2, .int (o36))] dX8_leave_72 (by decide) rfl ?_
      obtain ⟨o40, w41, hL, hF⟩ := bd_some hF
      refine x_sub [2, 3, 4, 1, 0] rfl (s_X8_leave_74 C  _ _ _ _ _ _ _ _ hL ?_)
      refine x_iload_n (pc := 100) C 3 dX8_leave_100 rfl rfl ?_
      obtain ⟨rfl, rfl⟩ := ret_eq hF
      exact x_iret (pc := 101) C hr rfl (fun _ h => h) dX8_leave_101
    · refine x_iconst (pc := 36) C 0 dX8_leave_36 ki_0 ?_
      obtain ⟨rfl, rfl⟩ := ret_eq hF
      exact x_iret (pc := 37) C hr rfl (fun _ h => h) dX8_leave_37
set_option maxRecDepth 4000 in
theorem c_X8_look (l : Launch) (G : xG) (b : Nat)     (a1 : Int32) (a2 : Int32) {w w' : xWt} {v : Int32} (hF : F_X8_look a1 a2 w = some (v, w')) : xMet l G b yX8_look cX8_look 4 (some .int) (xR 3) [.ref (mdb b), .int (a1), .int (a2)] (CW G b w) (some (.int v)) (CW G b w') 0 0 := by
  refine x_of (own := RX8) rfl (plainFor_of_name pn_X8) (Nat.le_of_ble_eq_true rfl) ?_
  intro p e s m args below meth c ha C hr _
  unfold F_X8_look at hF
  refine x_aload_n (pc := 0) C 0 dX8_look_0 rfl rfl ?_
  refine x_aload_n (pc := 1) C 0 dX8_look_1 rfl rfl ?_
  refine x_iload_n (pc := 2) C 1 dX8_look_2 rfl rfl ?_
  refine x_iload_n (pc := 3) C 2 dX8_look_3 rfl rfl ?_
  refine cV1_2 (pc := 4) (val := Value.int) C hF (fun _ _ h => c_X8_whyNotUse l G b  _ _ h) vm_X8_whyNotUse wq587 rfl rfl ⟨Nat.le_of_ble_eq_true rfl, Nat.le_of_ble_eq_true rfl⟩ rfl rfl (fun _ h => CW.md h) (Nat.le_of_ble_eq_true rfl) ⟨Nat.le_refl _, Nat.le_refl _⟩ dX8_look_4 (fun x2 w1 hF => ?_)
  refine pf_X8_33 (pc := 7) C   hF dX8_look_7 (fun w3 hF => ?_)
  refine x_aload_n (pc := 10) C 0 dX8_look_10 rfl rfl ?_
  refine gf_X8_33 (pc := 11) C  dX8_look_11 ?_
  refine x_if_le (pc := 14) C 19 dX8_look_14 rfl hF (fun c19 hF => ?_) (fun c19 hF => ?_)
  · refine x_aload_n (pc := 19) C 0 dX8_look_19 rfl rfl ?_
    refine cV0_0 (pc := 20) C hF (fun _ _ h => c_X8_record l G b  h) vm_X8_record wq225 rfl rfl ⟨Nat.le_of_ble_eq_true rfl, Nat.le_of_ble_eq_true rfl⟩ rfl rfl (fun _ h => CW.md h) (Nat.le_of_ble_eq_true rfl) ⟨Nat.le_refl _, Nat.le_refl _⟩ dX8_look_20 (fun _ w4 hF => ?_)
    refine x_aload_n (pc := 23) C 0 dX8_look_23 rfl rfl ?_
    refine x_iload_n (pc := 24) C 1 dX8_look_24 rfl rfl ?_
    refine x_iload_n (pc := 25) C 2 dX8_look_25 rfl rfl ?_
    refine x_iconst (pc := 26) C 1 dX8_look_26 ki_1 ?_
    refine cV1_3 (pc := 27) (val := Value.int) C hF (fun _ _ h => c_X8_ofHook l G b  _ _ _ h) vm_X8_ofHook wq403 rfl rfl ⟨Nat.le_of_ble_eq_true rfl, Nat.le_of_ble_eq_true rfl⟩ rfl rfl (fun _ h => CW.md h) (Nat.le_of_ble_eq_true rfl) ⟨Nat.le_refl _, Nat.le_refl _⟩ dX8_look_27 (fun x6 w5 hF => ?_)
    refine x_istore_n (pc := 30) C [(3, .int (x6)), (0, .ref (mdb b)), (1, .int (a1)), (2, .int (a2))] dX8_look_30 rfl (by decide) rfl ?_
    refine x_aload_n (pc := 31) C 1 dX8_look_31 rfl rfl ?_
    refine x_iload_n (pc := 32) C 2 dX8_look_32 rfl rfl ?_
    refine x_iload_n (pc := 33) C 3 dX8_look_33 rfl rfl ?_
    refine x_iconst (pc := 34) C 0 dX8_look_34 ki_0 ?_
    refine cV1_3 (pc := 35) (val := Value.int) C hF (fun _ _ h => c_X8_ofHook l G b  _ _ _ h) vm_X8_ofHook wq403 rfl rfl ⟨Nat.le_of_ble_eq_true rfl, Nat.le_of_ble_eq_true rfl⟩ rfl rfl (fun _ h => CW.md h) (Nat.le_of_ble_eq_true rfl) ⟨Nat.le_refl _, Nat.le_refl _⟩ dX8_look_35 (fun x8 w7 hF => ?_)
    refine x_iconst (pc := 38) C 1 dX8_look_38 ki_1 ?_
    refine x_icmp_ne (pc := 39) C 64 dX8_look_39 rfl hF (fun c18 hF => ?_) (fun c18 hF => ?_)
    · refine x_aload_n (pc := 64) C 1 dX8_look_64 rfl rfl ?_
      refine x_iload_n (pc := 65) C 0 dX8_look_65 rfl rfl ?_
      refine x_iconst (pc := 66) C 0 dX8_look_66 ki_0 ?_
      refine cV1_2 (pc := 67) (val := Value.int) C hF (fun _ _ h => c_X8_of l G b  _ _ h) vm_X8_of wq318 rfl rfl ⟨Nat.le_of_ble_eq_true rfl, Nat.le_of_ble_eq_true rfl⟩ rfl rfl (fun _ h => CW.md h) (Nat.le_of_ble_eq_true rfl) ⟨Nat.le_refl _, Nat.le_refl _⟩ dX8_look_67 (fun x10 w9 hF => ?_)
      obtain ⟨rfl, rfl⟩ := ret_eq hF
      exact x_iret (pc := 70) C hr rfl (fun _ h => h) dX8_look_70
    · refine x_aload_n (pc := 42) C 1 dX8_look_42 rfl rfl ?_
      refine x_iload_n (pc := 43) C 0 dX8_look_43 rfl rfl ?_
      refine x_iconst (pc := 44) C 1 dX8_look_44 ki_1 ?_
      refine cV1_2 (pc := 45) (val := Value.int) C hF (fun _ _ h => c_X8_of l G b  _ _ h) vm_X8_of wq318 rfl rfl ⟨Nat.le_of_ble_eq_true rfl, Nat.le_of_ble_eq_true rfl⟩ rfl rfl (fun _ h => CW.md h) (Nat.le_of_ble_eq_true rfl) ⟨Nat.le_refl _, Nat.le_refl _⟩ dX8_look_45 (fun x12 w11 hF => ?_)
      refine x_iconst (pc := 48) C 2 dX8_look_48 ki_2 ?_
      refine x_icmp_ne (pc := 49) C 64 dX8_look_49 rfl hF (fun c17 hF => ?_) (fun c17 hF => ?_)
      · refine x_aload_n (pc := 64) C 1 dX8_look_64 rfl rfl ?_
        refine x_iload_n (pc := 65) C 0 dX8_look_65 rfl rfl ?_
        refine x_iconst (pc := 66) C 0 dX8_look_66 ki_0 ?_
        refine cV1_2 (pc := 67) (val := Value.int) C hF (fun _ _ h => c_X8_of l G b  _ _ h) vm_X8_of wq318 rfl rfl ⟨Nat.le_of_ble_eq_true rfl, Nat.le_of_ble_eq_true rfl⟩ rfl rfl (fun _ h => CW.md h) (Nat.le_of_ble_eq_true rfl) ⟨Nat.le_refl _, Nat.le_refl _⟩ dX8_look_67 (fun x14 w13 hF => ?_)
        obtain ⟨rfl, rfl⟩ := ret_eq hF
        exact x_iret (pc := 70) C hr rfl (fun _ h => h) dX8_look_70
      · refine x_aload_n (pc := 52) C 1 dX8_look_52 rfl rfl ?_
        refine gf_X8_7 (pc := 53) C  dX8_look_53 ?_
        refine x_iconst (pc := 56) C 5 dX8_look_56 ki_5 ?_
        refine x_dup2 (pc := 57) C dX8_look_57 rfl rfl ?_
        refine w_ald (pc := 58) C (vA_m 0 (by decide)) hF dX8_look_58 (fun x15 hF => ?_)
        refine x_iconst (pc := 59) C 1 dX8_look_59 ki_1 ?_
        refine x_iadd (pc := 60) C dX8_look_60 ?_
        refine w_ast (pc := 61) C (vA_m 0 (by decide)) hF dX8_look_61 (fun w16 hF => ?_)
        refine x_iconst (pc := 62) C (-1) dX8_look_62 ki_m1 ?_
        obtain ⟨rfl, rfl⟩ := ret_eq hF
        exact x_iret (pc := 63) C hr rfl (fun _ h => h) dX8_look_63
  · refine x_iconst (pc := 17) C 0 dX8_look_17 ki_0 ?_
    obtain ⟨rfl, rfl⟩ := ret_eq hF
    exact x_iret (pc := 18) C hr rfl (fun _ h => h) dX8_look_18
set_option maxRecDepth 4000 in
theorem c_X8_loosen (l : Launch) (G : xG) (b : Nat)     (a1 : Int32) (a2 : Int32) {w w' : xWt} {v : Int32} (hF : F_X8_loosen a1 a2 w = some (v, w')) : xMet l G b yX8_loosen cX8_loosen 3 (some .int) (xR 3) [.ref (mdb b), .int (a1), .int (a2)] (CW G b w) (some (.int v)) (CW G b w') 0 0 := by
  refine x_of (own := RX8) rfl (plainFor_of_name pn_X8) (Nat.le_of_ble_eq_true rfl) ?_
  intro p e s m args below meth c ha C hr _
  unfold F_X8_loosen at hF
  refine x_aload_n (pc := 0) C 0 dX8_loosen_0 rfl rfl ?_
  refine x_aload_n (pc := 1) C 0 dX8_loosen_1 rfl rfl ?_
  refine x_iload_n (pc := 2) C 1 dX8_loosen_2 rfl rfl ?_
  refine x_iload_n (pc := 3) C 2 dX8_loosen_3 rfl rfl ?_
  refine cV1_2 (pc := 4) (val := Value.int) C hF (fun _ _ h => c_X8_whyNotUse l G b  _ _ h) vm_X8_whyNotUse wq587 rfl rfl ⟨Nat.le_of_ble_eq_true rfl, Nat.le_of_ble_eq_true rfl⟩ rfl rfl (fun _ h => CW.md h) (Nat.le_of_ble_eq_true rfl) ⟨Nat.le_refl _, Nat.le_refl _⟩ dX8_loosen_4 (fun x2 w1 hF => ?_)
  refine pf_X8_33 (pc := 7) C   hF dX8_loosen_7 (fun w3 hF => ?_)
  refine x_aload_n (pc := 10) C 0 dX8_loosen_10 rfl rfl ?_
  refine gf_X8_33 (pc := 11) C  dX8_loosen_11 ?_
  refine x_if_le (pc := 14) C 19 dX8_loosen_14 rfl hF (fun c7 hF => ?_) (fun c7 hF => ?_)
  · refine x_aload_n (pc := 19) C 0 dX8_loosen_19 rfl rfl ?_
    refine cV0_0 (pc := 20) C hF (fun _ _ h => c_X8_record l G b  h) vm_X8_record wq225 rfl rfl ⟨Nat.le_of_ble_eq_true rfl, Nat.le_of_ble_eq_true rfl⟩ rfl rfl (fun _ h => CW.md h) (Nat.le_of_ble_eq_true rfl) ⟨Nat.le_refl _, Nat.le_refl _⟩ dX8_loosen_20 (fun _ w4 hF => ?_)
    refine x_aload_n (pc := 23) C 0 dX8_loosen_23 rfl rfl ?_
    refine x_iload_n (pc := 24) C 1 dX8_loosen_24 rfl rfl ?_
    refine x_iload_n (pc := 25) C 2 dX8_loosen_25 rfl rfl ?_
    refine cV1_2 (pc := 26) (val := Value.int) C hF (fun _ _ h => c_X8_doLoosen l G b  _ _ h) vm_X8_doLoosen wq591 rfl rfl ⟨Nat.le_of_ble_eq_true rfl, Nat.le_of_ble_eq_true rfl⟩ rfl rfl (fun _ h => CW.md h) (Nat.le_of_ble_eq_true rfl) ⟨Nat.le_refl _, Nat.le_refl _⟩ dX8_loosen_26 (fun x6 w5 hF => ?_)
    obtain ⟨rfl, rfl⟩ := ret_eq hF
    exact x_iret (pc := 29) C hr rfl (fun _ h => h) dX8_loosen_29
  · refine x_iconst (pc := 17) C 0 dX8_loosen_17 ki_0 ?_
    obtain ⟨rfl, rfl⟩ := ret_eq hF
    exact x_iret (pc := 18) C hr rfl (fun _ h => h) dX8_loosen_18
set_option maxRecDepth 4000 in
theorem c_X8_mostHeld (l : Launch) (G : xG) (b : Nat)      {w w' : xWt} {v : Int32} (hF : F_X8_mostHeld  w = some (v, w')) : xMet l G b yX8_mostHeld cX8_mostHeld 1 (some .int) (xR 4) [.ref (mdb b)] (CW G b w) (some (.int v)) (CW G b w') 0 0 := by
  refine x_of (own := RX8) rfl (plainFor_of_name pn_X8) (Nat.le_of_ble_eq_true rfl) ?_
  intro p e s m args below meth c ha C hr _
  unfold F_X8_mostHeld at hF
  refine x_aload_n (pc := 0) C 0 dX8_mostHeld_0 rfl rfl ?_
  refine x_iconst (pc := 1) C 0 dX8_mostHeld_1 ki_0 ?_
  refine pf_X8_33 (pc := 2) C   hF dX8_mostHeld_2 (fun w1 hF => ?_)
  refine x_aload_n (pc := 5) C 0 dX8_mostHeld_5 rfl rfl ?_
  refine cV1_0 (pc := 6) (val := Value.int) C hF (fun _ _ h => c_X8_findMostHeld l G b  h) vm_X8_findMostHeld wq1232 rfl rfl ⟨Nat.le_of_ble_eq_true rfl, Nat.le_of_ble_eq_true rfl⟩ rfl rfl (fun _ h => CW.md h) (Nat.le_of_ble_eq_true rfl) ⟨Nat.le_refl _, Nat.le_refl _⟩ dX8_mostHeld_6 (fun x3 w2 hF => ?_)
  obtain ⟨rfl, rfl⟩ := ret_eq hF
  exact x_iret (pc := 9) C hr rfl (fun _ h => h) dX8_mostHeld_9
set_option maxRecDepth 4000 in
theorem c_X8_note (l : Launch) (G : xG) (b : Nat)     (a1 : Int32) (a2 : Int32) (a3 : Int32) {w w' : xWt} {v : Int32} (hF : F_X8_note a1 a2 a3 w = some (v, w')) : xMet l G b yX8_note cX8_note 4 (some .int) (xR 3) [.ref (mdb b), .int (a1), .int (a2), .int (a3)] (CW G b w) (some (.int v)) (CW G b w') 0 0 := by
  refine x_of (own := RX8) rfl (plainFor_of_name pn_X8) (Nat.le_of_ble_eq_true rfl) ?_
  intro p e s m args below meth c ha C hr _
  unfold F_X8_note at hF
  refine x_aload_n (pc := 0) C 0 dX8_note_0 rfl rfl ?_
  refine x_aload_n (pc := 1) C 0 dX8_note_1 rfl rfl ?_
  refine x_iload_n (pc := 2) C 1 dX8_note_2 rfl rfl ?_
  refine x_iload_n (pc := 3) C 2 dX8_note_3 rfl rfl ?_
  refine x_iload_n (pc := 4) C 3 dX8_note_4 rfl rfl ?_
  refine cV1_3 (pc := 5) (val := Value.int) C hF (fun _ _ h => c_X8_whyNotNote l G b  _ _ _ h) vm_X8_whyNotNote wq517 rfl rfl ⟨Nat.le_of_ble_eq_true rfl, Nat.le_of_ble_eq_true rfl⟩ rfl rfl (fun _ h => CW.md h) (Nat.le_of_ble_eq_true rfl) ⟨Nat.le_refl _, Nat.le_refl _⟩ dX8_note_5 (fun x2 w1 hF => ?_)
  refine pf_X8_33 (pc := 8) C   hF dX8_note_8 (fun w3 hF => ?_)
  refine x_aload_n (pc := 11) C 0 dX8_note_11 rfl rfl ?_
  refine gf_X8_33 (pc := 12) C  dX8_note_12 ?_
  refine x_if_le (pc := 15) C 20 dX8_note_15 rfl hF (fun c7 hF => ?_) (fun c7 hF => ?_)
  · refine x_aload_n (pc := 20) C 0 dX8_note_20 rfl rfl ?_
    refine cV0_0 (pc := 21) C hF (fun _ _ h => c_X8_record l G b  h) vm_X8_record wq225 rfl rfl ⟨Nat.le_of_ble_eq_true rfl, Nat.le_of_ble_eq_true rfl⟩ rfl rfl (fun _ h => CW.md h) (Nat.le_of_ble_eq_true rfl) ⟨Nat.le_refl _, Nat.le_refl _⟩ dX8_note_21 (fun _ w4 hF => ?_)
    refine x_aload_n (pc := 24) C 0 dX8_note_24 rfl rfl ?_
    refine x_iload_n (pc := 25) C 1 dX8_note_25 rfl rfl ?_
    refine x_iload_n (pc := 26) C 2 dX8_note_26 rfl rfl ?_
    refine x_iload_n (pc := 27) C 3 dX8_note_27 rfl rfl ?_
    refine cV1_3 (pc := 28) (val := Value.int) C hF (fun _ _ h => c_X8_doNote l G b  _ _ _ h) vm_X8_doNote wq524 rfl rfl ⟨Nat.le_of_ble_eq_true rfl, Nat.le_of_ble_eq_true rfl⟩ rfl rfl (fun _ h => CW.md h) (Nat.le_of_ble_eq_true rfl) ⟨Nat.le_refl _, Nat.le_refl _⟩ dX8_note_28 (fun x6 w5 hF => ?_)
    obtain ⟨rfl, rfl⟩ := ret_eq hF
    exact x_iret (pc := 31) C hr rfl (fun _ h => h) dX8_note_31
  · refine x_iconst (pc := 18) C 0 dX8_note_18 ki_0 ?_
    obtain ⟨rfl, rfl⟩ := ret_eq hF
    exact x_iret (pc := 19) C hr rfl (fun _ h => h) dX8_note_19
set_option maxRecDepth 4000 in
theorem s_X8_obey_40 (C : xC p m c s args meth G b cX8_obey 4 RX8)    : ∀ (n9 : Nat) (l1 : Int32) (l2 : Int32) (l3 : Int32) (w : xWt) (o : (Int32 × Int32 × Int32)) (w' : xWt), L_X8_obey_40  n9 l1 l2 l3 w = some (o, w') → xW p l e (xR 8) s m args below meth c Q b 4 (CW G b w') 0 0 80 [(0, .ref (mdb b)), (1, .int (o.1)), (2, .int (o.2.1)), (3, .int (o.2.2))] [] → xW p l e (xR 8) s m args below meth c Q b 4 (CW G b w) 0 0 40 [(0, .ref (mdb b)), (1, .int (l1)), (2, .int (l2)), (3, .int (l3))] [] := by
  intro n9
  induction n9 with
  | zero => intro l1 l2 l3 w o w' hF; exact none_ne (show none = some _ from hF)
  | succ n9 ih =>
    intro l1 l2 l3 w o w' hF kx
    replace hF : B_X8_obey_40  (L_X8_obey_40  n9) l1 l2 l3 w = some (o, w') := hF
    unfold B_X8_obey_40 at hF
    refine x_iload_n (pc := 40) C 2 dX8_obey_40 rfl rfl ?_
    refine x_if_eq (pc := 41) C 80 dX8_obey_41 rfl hF (fun c13 hF => ?_) (fun c13 hF => ?_)
    · obtain ⟨rfl, rfl⟩ := ret_eq hF
      exact x_sub [0, 1, 2, 3] rfl kx
    · refine x_iload_n (pc := 44) C 3 dX8_obey_44 rfl rfl ?_
      refine x_aload_n (pc := 45) C 0 dX8_obey_45 rfl rfl ?_
      refine gf_X8_179 (pc := 46) C  dX8_obey_46 ?_
      refine x_icmp_ge (pc := 49) C 80 dX8_obey_49 rfl hF (fun c12 hF => ?_) (fun c12 hF => ?_)
      · obtain ⟨rfl, rfl⟩ := ret_eq hF
        exact x_sub [0, 1, 2, 3] rfl kx
      · refine x_aload_n (pc := 52) C 0 dX8_obey_52 rfl rfl ?_
        refine x_iload_n (pc := 53) C 3 dX8_obey_53 rfl rfl ?_
        refine cV1_1 (pc := 54) (val := Value.int) C hF (fun _ _ h => c_X8_readOrder l G b  _ h) vm_X8_readOrder wq841 rfl rfl ⟨Nat.le_of_ble_eq_true rfl, Nat.le_of_ble_eq_true rfl⟩ rfl rfl (fun _ h => CW.md h) (Nat.le_of_ble_eq_true rfl) ⟨Nat.le_refl _, Nat.le_refl _⟩ dX8_obey_54 (fun x6 w5 hF => ?_)
        refine x_iconst (pc := 57) C 1 dX8_obey_57 ki_1 ?_
        refine x_iadd (pc := 58) C dX8_obey_58 ?_
        refine x_istore_n (pc := 59) C [(3, .int ((x6 + 1))), (0, .ref (mdb b)), (1, .int (l1)), (2, .int (l2))] dX8_obey_59 rfl (by decide) rfl ?_
        refine x_aload_n (pc := 60) C 1 dX8_obey_60 rfl rfl ?_
        refine cV1_0 (pc := 61) (val := Value.int) C hF (fun _ _ h => c_X8_canDo l G b  h) vm_X8_canDo wq886 rfl rfl ⟨Nat.le_of_ble_eq_true rfl, Nat.le_of_ble_eq_true rfl⟩ rfl rfl (fun _ h => CW.md h) (Nat.le_of_ble_eq_true rfl) ⟨Nat.le_refl _, Nat.le_refl _⟩ dX8_obey_61 (fun x8 w7 hF => ?_)
        refine x_istore_n (pc := 64) C [(2, .int (x8)), (3, .int ((x6 + 1))), (0, .ref (mdb b)), (1, .int (l1))] dX8_obey_64 rfl (by decide) rfl ?_
        refine x_iload_n (pc := 65) C 0 dX8_obey_65 rfl rfl ?_
        refine x_if_eq (pc := 66) C 40 dX8_obey_66 rfl hF (fun c11 hF => ?_) (fun c11 hF => ?_)
        · exact x_sub [2, 3, 0, 1] rfl (ih _ _ _ _ _ _ hF kx)
        · refine x_aload_n (pc := 69) C 2 dX8_obey_69 rfl rfl ?_
          refine cV1_0 (pc := 70) (val := Value.int) C hF (fun _ _ h => c_X8_doOrder l G b  h) vm_X8_doOrder wq890 rfl rfl ⟨Nat.le_of_ble_eq_true rfl, Nat.le_of_ble_eq_true rfl⟩ rfl rfl (fun _ h => CW.md h) (Nat.le_of_ble_eq_true rfl) ⟨Nat.le_refl _, Nat.le_refl _⟩ dX8_obey_70 (fun x10 w9 hF => ?_)
          refine x_pop (pc := 73) C dX8_obey_73 rfl ?_
          refine x_iinc (pc := 74) C 3 [(1, .int ((l1 + 1))), (2, .int (x8)), (3, .int ((x6 + 1))), (0, .ref (mdb b))] dX8_obey_74 rfl rfl (by decide) rfl ?_
          refine x_goto (pc := 77) C 40 dX8_obey_77 rfl ?_
          exact x_sub [3, 0, 1, 2] rfl (ih _ _ _ _ _ _ hF kx)
set_option maxRecDepth 4000 in
theorem c_X8_obey (l : Launch) (G : xG) (b : Nat)      {w w' : xWt} {v : Int32} (hF : F_X8_obey  w = some (v, w')) : xMet l G b yX8_obey cX8_obey 4 (some .int) (xR 8) [.ref (mdb b)] (CW G b w) (some (.int v)) (CW G b w') 0 0 := by
  refine x_of (own := RX8) rfl (plainFor_of_name pn_X8) (Nat.le_of_ble_eq_true rfl) ?_
  intro p e s m args below meth c ha C hr _
  unfold F_X8_obey at hF
  refine x_aload_n (pc := 0) C 0 dX8_obey_0 rfl rfl ?_
  refine cV1_0 (pc := 1) (val := Value.int) C hF (fun _ _ h => c_X8_findError l G b  h) vm_X8_findError wq836 rfl rfl ⟨Nat.le_of_ble_eq_true rfl, Nat.le_of_ble_eq_true rfl⟩ rfl rfl (fun _ h => CW.md h) (Nat.le_of_ble_eq_true rfl) ⟨Nat.le_refl _, Nat.le_refl _⟩ dX8_obey_1 (fun x2 w1 hF => ?_)
  refine x_pop (pc := 4) C dX8_obey_4 rfl ?_
  refine x_aload_n (pc := 5) C 0 dX8_obey_5 rfl rfl ?_
  refine x_aload_n (pc := 6) C 0 dX8_obey_6 rfl rfl ?_
  refine gf_X8_191 (pc := 7) C  dX8_obey_7 ?_
  refine x_if_eq (pc := 10) C 17 dX8_obey_10 rfl hF (fun c24 hF => ?_) (fun c24 hF => ?_)
  · refine x_iconst (pc := 17) C 1 dX8_obey_17 ki_1 ?_
    refine pf_X8_33 (pc := 18) C   hF dX8_obey_18 (fun w3 hF => ?_)
    refine x_aload_n (pc := 21) C 0 dX8_obey_21 rfl rfl ?_
    refine gf_X8_33 (pc := 22) C  dX8_obey_22 ?_
    refine x_if_le (pc := 25) C 30 dX8_obey_25 rfl hF (fun c17 hF => ?_) (fun c17 hF => ?_)
    · refine x_aload_n (pc := 30) C 0 dX8_obey_30 rfl rfl ?_
      refine cV0_0 (pc := 31) C hF (fun _ _ h => c_X8_record l G b  h) vm_X8_record wq225 rfl rfl ⟨Nat.le_of_ble_eq_true rfl, Nat.le_of_ble_eq_true rfl⟩ rfl rfl (fun _ h => CW.md h) (Nat.le_of_ble_eq_true rfl) ⟨Nat.le_refl _, Nat.le_refl _⟩ dX8_obey_31 (fun _ w4 hF => ?_)
      refine x_iconst (pc := 34) C 0 dX8_obey_34 ki_0 ?_
      refine x_istore_n (pc := 35) C [(1, .int (0)), (0, .ref (mdb b))] dX8_obey_35 rfl (by decide) rfl ?_
      refine x_iconst (pc := 36) C 1 dX8_obey_36 ki_1 ?_
      refine x_istore_n (pc := 37) C [(2, .int (1)), (1, .int (0)), (0, .ref (mdb b))] dX8_obey_37 rfl (by decide) rfl ?_
      refine x_iconst (pc := 38) C 0 dX8_obey_38 ki_0 ?_
      refine x_istore_n (pc := 39) C [(3, .int (0)), (2, .int (1)), (1, .int (0)), (0, .ref (mdb b))] dX8_obey_39 rfl (by decide) rfl ?_
      obtain ⟨o14, w15, hL, hF⟩ := bd_some hF
      refine x_sub [3, 2, 1, 0] rfl (s_X8_obey_40 C  _ _ _ _ _ _ _ hL ?_)
      refine x_aload_n (pc := 80) C 0 dX8_obey_80 rfl rfl ?_
      refine x_iconst (pc := 81) C 0 dX8_obey_81 ki_0 ?_
      refine pf_X8_179 (pc := 82) C   hF dX8_obey_82 (fun w16 hF => ?_)
      refine x_iload_n (pc := 85) C 1 dX8_obey_85 rfl rfl ?_
      obtain ⟨rfl, rfl⟩ := ret_eq hF
      exact x_iret (pc := 86) C hr rfl (fun _ h => h) dX8_obey_86
    · refine x_iconst (pc := 28) C 0 dX8_obey_28 ki_0 ?_
      obtain ⟨rfl, rfl⟩ := ret_eq hF
      exact x_iret (pc := 29) C hr rfl (fun _ h => h) dX8_obey_29
  · refine x_iconst (pc := 13) C 0 dX8_obey_13 ki_0 ?_
    refine x_goto (pc := 14) C 18 dX8_obey_14 rfl ?_
    refine pf_X8_33 (pc := 18) C   hF dX8_obey_18 (fun w18 hF => ?_)
    refine x_aload_n (pc := 21) C 0 dX8_obey_21 rfl rfl ?_
    refine gf_X8_33 (pc := 22) C  dX8_obey_22 ?_
    refine x_if_le (pc := 25) C 30 dX8_obey_25 rfl hF (fun c23 hF => ?_) (fun c23 hF => ?_)
    · refine x_aload_n (pc := 30) C 0 dX8_obey_30 rfl rfl ?_
      refine cV0_0 (pc := 31) C hF (fun _ _ h => c_X8_record l G b  h) vm_X8_record wq225 rfl rfl ⟨Nat.le_of_ble_eq_true rfl, Nat.le_of_ble_eq_true rfl⟩ rfl rfl (fun _ h => CW.md h) (Nat.le_of_ble_eq_true rfl) ⟨Nat.le_refl _, Nat.le_refl _⟩ dX8_obey_31 (fun _ w19 hF => ?_)
      refine x_iconst (pc := 34) C 0 dX8_obey_34 ki_0 ?_
      refine x_istore_n (pc := 35) C [(1, .int (0)), (0, .ref (mdb b))] dX8_obey_35 rfl (by decide) rfl ?_
      refine x_iconst (pc := 36) C 1 dX8_obey_36 ki_1 ?_
      refine x_istore_n (pc := 37) C [(2, .int (1)), (1, .int (0)), (0, .ref (mdb b))] dX8_obey_37 rfl (by decide) rfl ?_
      refine x_iconst (pc := 38) C 0 dX8_obey_38 ki_0 ?_
      refine x_istore_n (pc := 39) C [(3, .int (0)), (2, .int (1)), (1, .int (0)), (0, .ref (mdb b))] dX8_obey_39 rfl (by decide) rfl ?_
      obtain ⟨o20, w21, hL, hF⟩ := bd_some hF
      refine x_sub [3, 2, 1, 0] rfl (s_X8_obey_40 C  _ _ _ _ _ _ _ hL ?_)
      refine x_aload_n (pc := 80) C 0 dX8_obey_80 rfl rfl ?_
      refine x_iconst (pc := 81) C 0 dX8_obey_81 ki_0 ?_
      refine pf_X8_179 (pc := 82) C   hF dX8_obey_82 (fun w22 hF => ?_)
      refine x_iload_n (pc := 85) C 1 dX8_obey_85 rfl rfl ?_
      obtain ⟨rfl, rfl⟩ := ret_eq hF
      exact x_iret (pc := 86) C hr rfl (fun _ h => h) dX8_obey_86
    · refine x_iconst (pc := 28) C 0 dX8_obey_28 ki_0 ?_
      obtain ⟨rfl, rfl⟩ := ret_eq hF
      exact x_iret (pc := 29) C hr rfl (fun _ h => h) dX8_obey_29
set_option maxRecDepth 4000 in
theorem c_X8_pin (l : Launch) (G : xG) (b : Nat)     (a1 : Int32) (a2 : Int32) {w w' : xWt} {v : Int32} (hF : F_X8_pin a1 a2 w = some (v, w')) : xMet l G b yX8_pin cX8_pin 3 (some .int) (xR 3) [.ref (mdb b), .int (a1), .int (a2)] (CW G b w) (some (.int v)) (CW G b w') 0 0 := by
  refine x_of (own := RX8) rfl (plainFor_of_name pn_X8) (Nat.le_of_ble_eq_true rfl) ?_
  intro p e s m args below meth c ha C hr _
  unfold F_X8_pin at hF
  refine x_aload_n (pc := 0) C 0 dX8_pin_0 rfl rfl ?_
  refine x_aload_n (pc := 1) C 0 dX8_pin_1 rfl rfl ?_
  refine x_iload_n (pc := 2) C 1 dX8_pin_2 rfl rfl ?_
  refine x_iload_n (pc := 3) C 2 dX8_pin_3 rfl rfl ?_
  refine cV1_2 (pc := 4) (val := Value.int) C hF (fun _ _ h => c_X8_whyNotPin l G b  _ _ h) vm_X8_whyNotPin wq560 rfl rfl ⟨Nat.le_of_ble_eq_true rfl, Nat.le_of_ble_eq_true rfl⟩ rfl rfl (fun _ h => CW.md h) (Nat.le_of_ble_eq_true rfl) ⟨Nat.le_refl _, Nat.le_refl _⟩ dX8_pin_4 (fun x2 w1 hF => ?_)
  refine pf_X8_33 (pc := 7) C   hF dX8_pin_7 (fun w3 hF => ?_)
  refine x_aload_n (pc := 10) C 0 dX8_pin_10 rfl rfl ?_
  refine gf_X8_33 (pc := 11) C  dX8_pin_11 ?_
  refine x_if_le (pc := 14) C 19 dX8_pin_14 rfl hF (fun c7 hF => ?_) (fun c7 hF => ?_)
  · refine x_aload_n (pc := 19) C 0 dX8_pin_19 rfl rfl ?_
    refine cV0_0 (pc := 20) C hF (fun _ _ h => c_X8_record l G b  h) vm_X8_record wq225 rfl rfl ⟨Nat.le_of_ble_eq_true rfl, Nat.le_of_ble_eq_true rfl⟩ rfl rfl (fun _ h => CW.md h) (Nat.le_of_ble_eq_true rfl) ⟨Nat.le_refl _, Nat.le_refl _⟩ dX8_pin_20 (fun _ w4 hF => ?_)
    refine x_aload_n (pc := 23) C 0 dX8_pin_23 rfl rfl ?_
    refine x_iload_n (pc := 24) C 1 dX8_pin_24 rfl rfl ?_
    refine x_iload_n (pc := 25) C 2 dX8_pin_25 rfl rfl ?_
    refine cV1_2 (pc := 26) (val := Value.int) C hF (fun _ _ h => c_X8_doPin l G b  _ _ h) vm_X8_doPin wq564 rfl rfl ⟨Nat.le_of_ble_eq_true rfl, Nat.le_of_ble_eq_true rfl⟩ rfl rfl (fun _ h => CW.md h) (Nat.le_of_ble_eq_true rfl) ⟨Nat.le_refl _, Nat.le_refl _⟩ dX8_pin_26 (fun x6 w5 hF => ?_)
    obtain ⟨rfl, rfl⟩ := ret_eq hF
    exact x_iret (pc := 29) C hr rfl (fun _ h => h) dX8_pin_29
  · refine x_iconst (pc := 17) C 0 dX8_pin_17 ki_0 ?_
    obtain ⟨rfl, rfl⟩ := ret_eq hF
    exact x_iret (pc := 18) C hr rfl (fun _ h => h) dX8_pin_18
set_option maxRecDepth 4000 in
theorem c_X8_rake (l : Launch) (G : xG) (b : Nat)     (a1 : Int32) {w w' : xWt} {v : Int32} (hF : F_X8_rake a1 w = some (v, w')) : xMet l G b yX8_rake cX8_rake 2 (some .int) (xR 5) [.ref (mdb b), .int (a1)] (CW G b w) (some (.int v)) (CW G b w') 0 0 := by
  refine x_of (own := RX8) rfl (plainFor_of_name pn_X8) (Nat.le_of_ble_eq_true rfl) ?_
  intro p e s m args below meth c ha C hr _
  unfold F_X8_rake at hF
  refine x_aload_n (pc := 0) C 0 dX8_rake_0 rfl rfl ?_
  refine x_aload_n (pc := 1) C 0 dX8_rake_1 rfl rfl ?_
  refine x_iload_n (pc := 2) C 1 dX8_rake_2 rfl rfl ?_
  refine cV1_1 (pc := 3) (val := Value.int) C hF (fun _ _ h => c_X8_whyNotRake l G b  _ h) vm_X8_whyNotRake wq740 rfl rfl ⟨Nat.le_of_ble_eq_true rfl, Nat.le_of_ble_eq_true rfl⟩ rfl rfl (fun _ h => CW.md h) (Nat.le_of_ble_eq_true rfl) ⟨Nat.le_refl _, Nat.le_refl _⟩ dX8_rake_3 (fun x2 w1 hF => ?_)
  refine pf_X8_33 (pc := 6) C   hF dX8_rake_6 (fun w3 hF => ?_)
  refine x_aload_n (pc := 9) C 0 dX8_rake_9 rfl rfl ?_
  refine gf_X8_33 (pc := 10) C  dX8_rake_10 ?_
  refine x_if_le (pc := 13) C 18 dX8_rake_13 rfl hF (fun c7 hF => ?_) (fun c7 hF => ?_)
  · refine x_aload_n (pc := 18) C 0 dX8_rake_18 rfl rfl ?_
    refine cV0_0 (pc := 19) C hF (fun _ _ h => c_X8_record l G b  h) vm_X8_record wq225 rfl rfl ⟨Nat.le_of_ble_eq_true rfl, Nat.le_of_ble_eq_true rfl⟩ rfl rfl (fun _ h => CW.md h) (Nat.le_of_ble_eq_true rfl) ⟨Nat.le_refl _, Nat.le_refl _⟩ dX8_rake_19 (fun _ w4 hF => ?_)
    refine x_aload_n (pc := 22) C 0 dX8_rake_22 rfl rfl ?_
    refine x_iload_n (pc := 23) C 1 dX8_rake_23 rfl rfl ?_
    refine cV1_1 (pc := 24) (val := Value.int) C hF (fun _ _ h => c_X8_doRake l G b  _ h) vm_X8_doRake wq678 rfl rfl ⟨Nat.le_of_ble_eq_true rfl, Nat.le_of_ble_eq_true rfl⟩ rfl rfl (fun _ h => CW.md h) (Nat.le_of_ble_eq_true rfl) ⟨Nat.le_refl _, Nat.le_refl _⟩ dX8_rake_24 (fun x6 w5 hF => ?_)
    obtain ⟨rfl, rfl⟩ := ret_eq hF
    exact x_iret (pc := 27) C hr rfl (fun _ h => h) dX8_rake_27
  · refine x_iconst (pc := 16) C 0 dX8_rake_16 ki_0 ?_
    obtain ⟨rfl, rfl⟩ := ret_eq hF
    exact x_iret (pc := 17) C hr rfl (fun _ h => h) dX8_rake_17
set_option maxRecDepth 4000 in
theorem c_X8_rest (l : Launch) (G : xG) (b : Nat)     (a1 : Int32) {w w' : xWt} {v : Int32} (hF : F_X8_rest a1 w = some (v, w')) : xMet l G b yX8_rest cX8_rest 2 (some .int) (xR 4) [.ref (mdb b), .int (a1)] (CW G b w) (some (.int v)) (CW G b w') 0 0 := by
  refine x_of (own := RX8) rfl (plainFor_of_name pn_X8) (Nat.le_of_ble_eq_true rfl) ?_
  intro p e s m args below meth c ha C hr _
  unfold F_X8_rest at hF
  refine x_aload_n (pc := 0) C 0 dX8_rest_0 rfl rfl ?_
  refine x_aload_n (pc := 1) C 0 dX8_rest_1 rfl rfl ?_
  refine x_iload_n (pc := 2) C 1 dX8_rest_2 rfl rfl ?_
  refine cV1_1 (pc := 3) (val := Value.int) C hF (fun _ _ h => c_X8_whyNotRest l G b  _ h) vm_X8_whyNotRest wq391 rfl rfl ⟨Nat.le_of_ble_eq_true rfl, Nat.le_of_ble_eq_true rfl⟩ rfl rfl (fun _ h => CW.md h) (Nat.le_of_ble_eq_true rfl) ⟨Nat.le_refl _, Nat.le_refl _⟩ dX8_rest_3 (fun x2 w1 hF => ?_)
  refine pf_X8_33 (pc := 6) C   hF dX8_rest_6 (fun w3 hF => ?_)
  refine x_aload_n (pc := 9) C 0 dX8_rest_9 rfl rfl ?_
  refine gf_X8_33 (pc := 10) C  dX8_rest_10 ?_
  refine x_if_le (pc := 13) C 18 dX8_rest_13 rfl hF (fun c7 hF => ?_) (fun c7 hF => ?_)
  · refine x_aload_n (pc := 18) C 0 dX8_rest_18 rfl rfl ?_
    refine cV0_0 (pc := 19) C hF (fun _ _ h => c_X8_record l G b  h) vm_X8_record wq225 rfl rfl ⟨Nat.le_of_ble_eq_true rfl, Nat.le_of_ble_eq_true rfl⟩ rfl rfl (fun _ h => CW.md h) (Nat.le_of_ble_eq_true rfl) ⟨Nat.le_refl _, Nat.le_refl _⟩ dX8_rest_19 (fun _ w4 hF => ?_)
    refine x_aload_n (pc := 22) C 0 dX8_rest_22 rfl rfl ?_
    refine x_iload_n (pc := 23) C 1 dX8_rest_23 rfl rfl ?_
    refine cV1_1 (pc := 24) (val := Value.int) C hF (fun _ _ h => c_X8_doRest l G b  _ h) vm_X8_doRest wq395 rfl rfl ⟨Nat.le_of_ble_eq_true rfl, Nat.le_of_ble_eq_true rfl⟩ rfl rfl (fun _ h => CW.md h) (Nat.le_of_ble_eq_true rfl) ⟨Nat.le_refl _, Nat.le_refl _⟩ dX8_rest_24 (fun x6 w5 hF => ?_)
    obtain ⟨rfl, rfl⟩ := ret_eq hF
    exact x_iret (pc := 27) C hr rfl (fun _ h => h) dX8_rest_27
  · refine x_iconst (pc := 16) C 0 dX8_rest_16 ki_0 ?_
    obtain ⟨rfl, rfl⟩ := ret_eq hF
    exact x_iret (pc := 17) C hr rfl (fun _ h => h) dX8_rest_17
set_option maxRecDepth 4000 in
theorem c_X8_ring (l : Launch) (G : xG) (b : Nat)      {w w' : xWt} {v : Int32} (hF : F_X8_ring  w = some (v, w')) : xMet l G b yX8_ring cX8_ring 1 (some .int) (xR 3) [.ref (mdb b)] (CW G b w) (some (.int v)) (CW G b w') 0 0 := by
  refine x_of (own := RX8) rfl (plainFor_of_name pn_X8) (Nat.le_of_ble_eq_true rfl) ?_
  intro p e s m args below meth c ha C hr _
  unfold F_X8_ring at hF
  refine x_aload_n (pc := 0) C 0 dX8_ring_0 rfl rfl ?_
  refine x_aload_n (pc := 1) C 0 dX8_ring_1 rfl rfl ?_
  refine cV1_0 (pc := 2) (val := Value.int) C hF (fun _ _ h => c_X8_lateOnes l G b  h) vm_X8_lateOnes wq431 rfl rfl ⟨Nat.le_of_ble_eq_true rfl, Nat.le_of_ble_eq_true rfl⟩ rfl rfl (fun _ h => CW.md h) (Nat.le_of_ble_eq_true rfl) ⟨Nat.le_refl _, Nat.le_refl _⟩ dX8_ring_2 (fun x2 w1 hF => ?_)
  refine x_if_ne (pc := 5) C 12 dX8_ring_5 rfl hF (fun c13 hF => ?_) (fun c13 hF => ?_)
  · refine x_iconst (pc := 12) C 1 dX8_ring_12 ki_1 ?_
    refine pf_X8_33 (pc := 13) C   hF dX8_ring_13 (fun w3 hF => ?_)
    refine x_aload_n (pc := 16) C 0 dX8_ring_16 rfl rfl ?_
    refine gf_X8_33 (pc := 17) C  dX8_ring_17 ?_
    refine x_if_le (pc := 20) C 25 dX8_ring_20 rfl hF (fun c7 hF => ?_) (fun c7 hF => ?_)
    · refine x_aload_n (pc := 25) C 0 dX8_ring_25 rfl rfl ?_
      refine cV0_0 (pc := 26) C hF (fun _ _ h => c_X8_record l G b  h) vm_X8_record wq225 rfl rfl ⟨Nat.le_of_ble_eq_true rfl, Nat.le_of_ble_eq_true rfl⟩ rfl rfl (fun _ h => CW.md h) (Nat.le_of_ble_eq_true rfl) ⟨Nat.le_refl _, Nat.le_refl _⟩ dX8_ring_26 (fun _ w4 hF => ?_)
      refine x_aload_n (pc := 29) C 0 dX8_ring_29 rfl rfl ?_
      refine cV1_0 (pc := 30) (val := Value.int) C hF (fun _ _ h => c_X8_doRing l G b  h) vm_X8_doRing wq435 rfl rfl ⟨Nat.le_of_ble_eq_true rfl, Nat.le_of_ble_eq_true rfl⟩ rfl rfl (fun _ h => CW.md h) (Nat.le_of_ble_eq_true rfl) ⟨Nat.le_refl _, Nat.le_refl _⟩ dX8_ring_30 (fun x6 w5 hF => ?_)
      obtain ⟨rfl, rfl⟩ := ret_eq hF
      exact x_iret (pc := 33) C hr rfl (fun _ h => h) dX8_ring_33
    · refine x_iconst (pc := 23) C 0 dX8_ring_23 ki_0 ?_
      obtain ⟨rfl, rfl⟩ := ret_eq hF
      exact x_iret (pc := 24) C hr rfl (fun _ h => h) dX8_ring_24
  · refine x_iconst (pc := 8) C 0 dX8_ring_8 ki_0 ?_
    refine x_goto (pc := 9) C 13 dX8_ring_9 rfl ?_
    refine pf_X8_33 (pc := 13) C   hF dX8_ring_13 (fun w8 hF => ?_)
    refine x_aload_n (pc := 16) C 0 dX8_ring_16 rfl rfl ?_
    refine gf_X8_33 (pc := 17) C  dX8_ring_17 ?_
    refine x_if_le (pc := 20) C 25 dX8_ring_20 rfl hF (fun c12 hF => ?_) (fun c12 hF => ?_)
    · refine x_aload_n (pc := 25) C 0 dX8_ring_25 rfl rfl ?_
      refine cV0_0 (pc := 26) C hF (fun _ _ h => c_X8_record l G b  h) vm_X8_record wq225 rfl rfl ⟨Nat.le_of_ble_eq_true rfl, Nat.le_of_ble_eq_true rfl⟩ rfl rfl (fun _ h => CW.md h) (Nat.le_of_ble_eq_true rfl) ⟨Nat.le_refl _, Nat.le_refl _⟩ dX8_ring_26 (fun _ w9 hF => ?_)
      refine x_aload_n (pc := 29) C 0 dX8_ring_29 rfl rfl ?_
      refine cV1_0 (pc := 30) (val := Value.int) C hF (fun _ _ h => c_X8_doRing l G b  h) vm_X8_doRing wq435 rfl rfl ⟨Nat.le_of_ble_eq_true rfl, Nat.le_of_ble_eq_true rfl⟩ rfl rfl (fun _ h => CW.md h) (Nat.le_of_ble_eq_true rfl) ⟨Nat.le_refl _, Nat.le_refl _⟩ dX8_ring_30 (fun x11 w10 hF => ?_)
      obtain ⟨rfl, rfl⟩ := ret_eq hF
      exact x_iret (pc := 33) C hr rfl (fun _ h => h) dX8_ring_33
    · refine x_iconst (pc := 23) C 0 dX8_ring_23 ki_0 ?_
      obtain ⟨rfl, rfl⟩ := ret_eq hF
      exact x_iret (pc := 24) C hr rfl (fun _ h => h) dX8_ring_24
set_option maxRecDepth 4000 in
theorem c_X8_set (l : Launch) (G : xG) (b : Nat)     (a1 : Int32) (a2 : Int32) {w w' : xWt} {v : Int32} (hF : F_X8_set a1 a2 w = some (v, w')) : xMet l G b yX8_set cX8_set 5 (some .int) (xR 1) [.ref (mdb b), .int (a1), .int (a2)] (CW G b w) (some (.int v)) (CW G b w') 0 0 := by
  refine x_of (own := RX8) rfl (plainFor_of_name pn_X8) (Nat.le_of_ble_eq_true rfl) ?_
  intro p e s m args below meth c ha C hr _
  unfold F_X8_set at hF
  refine x_iload_n (pc := 0) C 1 dX8_set_0 rfl rfl ?_
  refine x_if_ne (pc := 1) C 14 dX8_set_1 rfl hF (fun c43 hF => ?_) (fun c43 hF => ?_)
  · refine x_iload_n (pc := 14) C 2 dX8_set_14 rfl rfl ?_
    refine x_iconst (pc := 15) C 0 dX8_set_15 ki_0 ?_
    refine x_iconst (pc := 16) C 1 dX8_set_16 ki_1 ?_
    refine cS1_3 (pc := 17) (val := Value.int) C hF (fun _ _ h => c_X8_in l G b  _ _ _ h) sm_X8_in wq307 rfl rfl ⟨Nat.le_of_ble_eq_true rfl, Nat.le_of_ble_eq_true rfl⟩ (Nat.le_of_ble_eq_true rfl) ⟨Nat.le_refl _, Nat.le_refl _⟩ dX8_set_17 (fun x2 w1 hF => ?_)
    refine x_istore_n (pc := 20) C [(3, .int (x2)), (0, .ref (mdb b)), (1, .int (a1)), (2, .int (a2))] dX8_set_20 rfl (by decide) rfl ?_
    refine x_aload_n (pc := 21) C 1 dX8_set_21 rfl rfl ?_
    refine x_iload_n (pc := 22) C 2 dX8_set_22 rfl rfl ?_
    refine x_iconst (pc := 23) C 0 dX8_set_23 ki_0 ?_
    refine x_iconst (pc := 24) C 1 dX8_set_24 ki_1 ?_
    refine cS1_3 (pc := 25) (val := Value.int) C hF (fun _ _ h => c_X8_in l G b  _ _ _ h) sm_X8_in wq307 rfl rfl ⟨Nat.le_of_ble_eq_true rfl, Nat.le_of_ble_eq_true rfl⟩ (Nat.le_of_ble_eq_true rfl) ⟨Nat.le_refl _, Nat.le_refl _⟩ dX8_set_25 (fun x4 w3 hF => ?_)
    refine x_if_ne (pc := 28) C 35 dX8_set_28 rfl hF (fun c21 hF => ?_) (fun c21 hF => ?_)
    · refine x_iload_n (pc := 35) C 0 dX8_set_35 rfl rfl ?_
      refine x_if_eq (pc := 36) C 43 dX8_set_36 rfl hF (fun c15 hF => ?_) (fun c15 hF => ?_)
      · refine x_iconst (pc := 43) C 2 dX8_set_43 ki_2 ?_
        refine pf_X8_33 (pc := 44) C   hF dX8_set_44 (fun w5 hF => ?_)
        refine x_aload_n (pc := 47) C 1 dX8_set_47 rfl rfl ?_
        refine gf_X8_33 (pc := 48) C  dX8_set_48 ?_
        refine x_if_le (pc := 51) C 56 dX8_set_51 rfl hF (fun c9 hF => ?_) (fun c9 hF => ?_)
        · refine x_aload_n (pc := 56) C 1 dX8_set_56 rfl rfl ?_
          refine cV0_0 (pc := 57) C hF (fun _ _ h => c_X8_record l G b  h) vm_X8_record wq225 rfl rfl ⟨Nat.le_of_ble_eq_true rfl, Nat.le_of_ble_eq_true rfl⟩ rfl rfl (fun _ h => CW.md h) (Nat.le_of_ble_eq_true rfl) ⟨Nat.le_refl _, Nat.le_refl _⟩ dX8_set_57 (fun _ w6 hF => ?_)
          refine x_aload_n (pc := 60) C 1 dX8_set_60 rfl rfl ?_
          refine gf_X8_7 (pc := 61) C  dX8_set_61 ?_
          refine x_bipush (pc := 64) C 8 dX8_set_64 kb_8 ?_
          refine x_iload_n (pc := 66) C 2 dX8_set_66 rfl rfl ?_
          refine x_iadd (pc := 67) C dX8_set_67 ?_
          refine w_ald (pc := 68) C (vA_m 0 (by decide)) hF dX8_set_68 (fun x7 hF => ?_)
          refine x_istore (pc := 69) C [(4, .int (x7)), (3, .int (x2)), (0, .ref (mdb b)), (1, .int (a1)), (2, .int (a2))] dX8_set_69 (by decide) rfl ?_
          refine x_aload_n (pc := 71) C 2 dX8_set_71 rfl rfl ?_
          refine gf_X8_7 (pc := 72) C  dX8_set_72 ?_
          refine x_bipush (pc := 75) C 8 dX8_set_75 kb_8 ?_
          refine x_iload_n (pc := 77) C 3 dX8_set_77 rfl rfl ?_
          refine x_iadd (pc := 78) C dX8_set_78 ?_
          refine x_iload_n (pc := 79) C 4 dX8_set_79 rfl rfl ?_
          refine w_ast (pc := 80) C (vA_m 0 (by decide)) hF dX8_set_80 (fun w8 hF => ?_)
          refine x_iload (pc := 81) C 0 dX8_set_81 rfl ?_
          obtain ⟨rfl, rfl⟩ := ret_eq hF
          exact x_iret (pc := 83) C hr rfl (fun _ h => h) dX8_set_83
        · refine x_iconst (pc := 54) C 0 dX8_set_54 ki_0 ?_
          obtain ⟨rfl, rfl⟩ := ret_eq hF
          exact x_iret (pc := 55) C hr rfl (fun _ h => h) dX8_set_55
      · refine x_iconst (pc := 39) C 0 dX8_set_39 ki_0 ?_
        refine x_goto (pc := 40) C 44 dX8_set_40 rfl ?_
        refine pf_X8_33 (pc := 44) C   hF dX8_set_44 (fun w10 hF => ?_)
        refine x_aload_n (pc := 47) C 1 dX8_set_47 rfl rfl ?_
        refine gf_X8_33 (pc := 48) C  dX8_set_48 ?_
        refine x_if_le (pc := 51) C 56 dX8_set_51 rfl hF (fun c14 hF => ?_) (fun c14 hF => ?_)
        · refine x_aload_n (pc := 56) C 1 dX8_set_56 rfl rfl ?_
          refine cV0_0 (pc := 57) C hF (fun _ _ h => c_X8_record l G b  h) vm_X8_record wq225 rfl rfl ⟨Nat.le_of_ble_eq_true rfl, Nat.le_of_ble_eq_true rfl⟩ rfl rfl (fun _ h => CW.md h) (Nat.le_of_ble_eq_true rfl) ⟨Nat.le_refl _, Nat.le_refl _⟩ dX8_set_57 (fun _ w11 hF => ?_)
          refine x_aload_n (pc := 60) C 1 dX8_set_60 rfl rfl ?_
          refine gf_X8_7 (pc := 61) C  dX8_set_61 ?_
          refine x_bipush (pc := 64) C 8 dX8_set_64 kb_8 ?_
          refine x_iload_n (pc := 66) C 2 dX8_set_66 rfl rfl ?_
          refine x_iadd (pc := 67) C dX8_set_67 ?_
          refine w_ald (pc := 68) C (vA_m 0 (by decide)) hF dX8_set_68 (fun x12 hF => ?_)
          refine x_istore (pc := 69) C [(4, .int (x12)), (3, .int (x2)), (0, .ref (mdb b)), (1, .int (a1)), (2, .int (a2))] dX8_set_69 (by decide) rfl ?_
          refine x_aload_n (pc := 71) C 2 dX8_set_71 rfl rfl ?_
          refine gf_X8_7 (pc := 72) C  dX8_set_72 ?_
          refine x_bipush (pc := 75) C 8 dX8_set_75 kb_8 ?_
          refine x_iload_n (pc := 77) C 3 dX8_set_77 rfl rfl ?_
          refine x_iadd (pc := 78) C dX8_set_78 ?_
          refine x_iload_n (pc := 79) C 4 dX8_set_79 rfl rfl ?_
          refine w_ast (pc := 80) C (vA_m 0 (by decide)) hF dX8_set_80 (fun w13 hF => ?_)
          refine x_iload (pc := 81) C 0 dX8_set_81 rfl ?_
          obtain ⟨rfl, rfl⟩ := ret_eq hF
          exact x_iret (pc := 83) C hr rfl (fun _ h => h) dX8_set_83
        · refine x_iconst (pc := 54) C 0 dX8_set_54 ki_0 ?_
          obtain ⟨rfl, rfl⟩ := ret_eq hF
          exact x_iret (pc := 55) C hr rfl (fun _ h => h) dX8_set_55
    · refine x_iconst (pc := 31) C 1 dX8_set_31 ki_1 ?_
      refine x_goto (pc := 32) C 44 dX8_set_32 rfl ?_
      refine pf_X8_33 (pc := 44) C   hF dX8_set_44 (fun w16 hF => ?_)
      refine x_aload_n (pc := 47) C 1 dX8_set_47 rfl rfl ?_
      refine gf_X8_33 (pc := 48) C  dX8_set_48 ?_
      refine x_if_le (pc := 51) C 56 dX8_set_51 rfl hF (fun c20 hF => ?_) (fun c20 hF => ?_)
      · refine x_aload_n (pc := 56) C 1 dX8_set_56 rfl rfl ?_
        refine cV0_0 (pc := 57) C hF (fun _ _ h => c_X8_record l G b  h) vm_X8_record wq225 rfl rfl ⟨Nat.le_of_ble_eq_true rfl, Nat.le_of_ble_eq_true rfl⟩ rfl rfl (fun _ h => CW.md h) (Nat.le_of_ble_eq_true rfl) ⟨Nat.le_refl _, Nat.le_refl _⟩ dX8_set_57 (fun _ w17 hF => ?_)
        refine x_aload_n (pc := 60) C 1 dX8_set_60 rfl rfl ?_
        refine gf_X8_7 (pc := 61) C  dX8_set_61 ?_
        refine x_bipush (pc := 64) C 8 dX8_set_64 kb_8 ?_
        refine x_iload_n (pc := 66) C 2 dX8_set_66 rfl rfl ?_
        refine x_iadd (pc := 67) C dX8_set_67 ?_
        refine w_ald (pc := 68) C (vA_m 0 (by decide)) hF dX8_set_68 (fun x18 hF => ?_)
        refine x_istore (pc := 69) C [(4, .int (x18)), (3, .int (x2)), (0, .ref (mdb b)), (1, .int (a1)), (2, .int (a2))] dX8_set_69 (by decide) rfl ?_
        refine x_aload_n (pc := 71) C 2 dX8_set_71 rfl rfl ?_
        refine gf_X8_7 (pc := 72) C  dX8_set_72 ?_
        refine x_bipush (pc := 75) C 8 dX8_set_75 kb_8 ?_
        refine x_iload_n (pc := 77) C 3 dX8_set_77 rfl rfl ?_
        refine x_iadd (pc := 78) C dX8_set_78 ?_
        refine x_iload_n (pc := 79) C 4 dX8_set_79 rfl rfl ?_
        refine w_ast (pc := 80) C (vA_m 0 (by decide)) hF dX8_set_80 (fun w19 hF => ?_)
        refine x_iload (pc := 81) C 0 dX8_set_81 rfl ?_
        obtain ⟨rfl, rfl⟩ := ret_eq hF
        exact x_iret (pc := 83) C hr rfl (fun _ h => h) dX8_set_83
      · refine x_iconst (pc := 54) C 0 dX8_set_54 ki_0 ?_
        obtain ⟨rfl, rfl⟩ := ret_eq hF
        exact x_iret (pc := 55) C hr rfl (fun _ h => h) dX8_set_55
  · refine x_iload_n (pc := 4) C 2 dX8_set_4 rfl rfl ?_
    refine x_iconst (pc := 5) C 1 dX8_set_5 ki_1 ?_
    refine x_bipush (pc := 6) C 20 dX8_set_6 kb_20 ?_
    refine cS1_3 (pc := 8) (val := Value.int) C hF (fun _ _ h => c_X8_in l G b  _ _ _ h) sm_X8_in wq307 rfl rfl ⟨Nat.le_of_ble_eq_true rfl, Nat.le_of_ble_eq_true rfl⟩ (Nat.le_of_ble_eq_true rfl) ⟨Nat.le_refl _, Nat.le_refl _⟩ dX8_set_8 (fun x23 w22 hF => ?_)
    refine x_goto (pc := 11) C 20 dX8_set_11 rfl ?_
    refine x_istore_n (pc := 20) C [(3, .int (x23)), (0, .ref (mdb b)), (1, .int (a1)), (2, .int (a2))] dX8_set_20 rfl (by decide) rfl ?_
    refine x_aload_n (pc := 21) C 1 dX8_set_21 rfl rfl ?_
    refine x_iload_n (pc := 22) C 2 dX8_set_22 rfl rfl ?_
    refine x_iconst (pc := 23) C 0 dX8_set_23 ki_0 ?_
    refine x_iconst (pc := 24) C 1 dX8_set_24 ki_1 ?_
    refine cS1_3 (pc := 25) (val := Value.int) C hF (fun _ _ h => c_X8_in l G b  _ _ _ h) sm_X8_in wq307 rfl rfl ⟨Nat.le_of_ble_eq_true rfl, Nat.le_of_ble_eq_true rfl⟩ (Nat.le_of_ble_eq_true rfl) ⟨Nat.le_refl _, Nat.le_refl _⟩ dX8_set_25 (fun x25 w24 hF => ?_)
    refine x_if_ne (pc := 28) C 35 dX8_set_28 rfl hF (fun c42 hF => ?_) (fun c42 hF => ?_)
    · refine x_iload_n (pc := 35) C 0 dX8_set_35 rfl rfl ?_
      refine x_if_eq (pc := 36) C 43 dX8_set_36 rfl hF (fun c36 hF => ?_) (fun c36 hF => ?_)
      · refine x_iconst (pc := 43) C 2 dX8_set_43 ki_2 ?_
        refine pf_X8_33 (pc := 44) C   hF dX8_set_44 (fun w26 hF => ?_)
        refine x_aload_n (pc := 47) C 1 dX8_set_47 rfl rfl ?_
        refine gf_X8_33 (pc := 48) C  dX8_set_48 ?_
        refine x_if_le (pc := 51) C 56 dX8_set_51 rfl hF (fun c30 hF => ?_) (fun c30 hF => ?_)
        · refine x_aload_n (pc := 56) C 1 dX8_set_56 rfl rfl ?_
          refine cV0_0 (pc := 57) C hF (fun _ _ h => c_X8_record l G b  h) vm_X8_record wq225 rfl rfl ⟨Nat.le_of_ble_eq_true rfl, Nat.le_of_ble_eq_true rfl⟩ rfl rfl (fun _ h => CW.md h) (Nat.le_of_ble_eq_true rfl) ⟨Nat.le_refl _, Nat.le_refl _⟩ dX8_set_57 (fun _ w27 hF => ?_)
          refine x_aload_n (pc := 60) C 1 dX8_set_60 rfl rfl ?_
          refine gf_X8_7 (pc := 61) C  dX8_set_61 ?_
          refine x_bipush (pc := 64) C 8 dX8_set_64 kb_8 ?_
          refine x_iload_n (pc := 66) C 2 dX8_set_66 rfl rfl ?_
          refine x_iadd (pc := 67) C dX8_set_67 ?_
          refine w_ald (pc := 68) C (vA_m 0 (by decide)) hF dX8_set_68 (fun x28 hF => ?_)
          refine x_istore (pc := 69) C [(4, .int (x28)), (3, .int (x23)), (0, .ref (mdb b)), (1, .int (a1)), (2, .int (a2))] dX8_set_69 (by decide) rfl ?_
          refine x_aload_n (pc := 71) C 2 dX8_set_71 rfl rfl ?_
          refine gf_X8_7 (pc := 72) C  dX8_set_72 ?_
          refine x_bipush (pc := 75) C 8 dX8_set_75 kb_8 ?_
          refine x_iload_n (pc := 77) C 3 dX8_set_77 rfl rfl ?_
          refine x_iadd (pc := 78) C dX8_set_78 ?_
          refine x_iload_n (pc := 79) C 4 dX8_set_79 rfl rfl ?_
          refine w_ast (pc := 80) C (vA_m 0 (by decide)) hF dX8_set_80 (fun w29 hF => ?_)
          refine x_iload (pc := 81) C 0 dX8_set_81 rfl ?_
          obtain ⟨rfl, rfl⟩ := ret_eq hF
          exact x_iret (pc := 83) C hr rfl (fun _ h => h) dX8_set_83
        · refine x_iconst (pc := 54) C 0 dX8_set_54 ki_0 ?_
          obtain ⟨rfl, rfl⟩ := ret_eq hF
          exact x_iret (pc := 55) C hr rfl (fun _ h => h) dX8_set_55
      · refine x_iconst (pc := 39) C 0 dX8_set_39 ki_0 ?_
        refine x_goto (pc := 40) C 44 dX8_set_40 rfl ?_
        refine pf_X8_33 (pc := 44) C   hF dX8_set_44 (fun w31 hF => ?_)
        refine x_aload_n (pc := 47) C 1 dX8_set_47 rfl rfl ?_
        refine gf_X8_33 (pc := 48) C  dX8_set_48 ?_
        refine x_if_le (pc := 51) C 56 dX8_set_51 rfl hF (fun c35 hF => ?_) (fun c35 hF => ?_)
        · refine x_aload_n (pc := 56) C 1 dX8_set_56 rfl rfl ?_
          refine cV0_0 (pc := 57) C hF (fun _ _ h => c_X8_record l G b  h) vm_X8_record wq225 rfl rfl ⟨Nat.le_of_ble_eq_true rfl, Nat.le_of_ble_eq_true rfl⟩ rfl rfl (fun _ h => CW.md h) (Nat.le_of_ble_eq_true rfl) ⟨Nat.le_refl _, Nat.le_refl _⟩ dX8_set_57 (fun _ w32 hF => ?_)
          refine x_aload_n (pc := 60) C 1 dX8_set_60 rfl rfl ?_
          refine gf_X8_7 (pc := 61) C  dX8_set_61 ?_
          refine x_bipush (pc := 64) C 8 dX8_set_64 kb_8 ?_
          refine x_iload_n (pc := 66) C 2 dX8_set_66 rfl rfl ?_
          refine x_iadd (pc := 67) C dX8_set_67 ?_
          refine w_ald (pc := 68) C (vA_m 0 (by decide)) hF dX8_set_68 (fun x33 hF => ?_)
          refine x_istore (pc := 69) C [(4, .int (x33)), (3, .int (x23)), (0, .ref (mdb b)), (1, .int (a1)), (2, .int (a2))] dX8_set_69 (by decide) rfl ?_
          refine x_aload_n (pc := 71) C 2 dX8_set_71 rfl rfl ?_
          refine gf_X8_7 (pc := 72) C  dX8_set_72 ?_
          refine x_bipush (pc := 75) C 8 dX8_set_75 kb_8 ?_
          refine x_iload_n (pc := 77) C 3 dX8_set_77 rfl rfl ?_
          refine x_iadd (pc := 78) C dX8_set_78 ?_
          refine x_iload_n (pc := 79) C 4 dX8_set_79 rfl rfl ?_
          refine w_ast (pc := 80) C (vA_m 0 (by decide)) hF dX8_set_80 (fun w34 hF => ?_)
          refine x_iload (pc := 81) C 0 dX8_set_81 rfl ?_
          obtain ⟨rfl, rfl⟩ := ret_eq hF
          exact x_iret (pc := 83) C hr rfl (fun _ h => h) dX8_set_83
        · refine x_iconst (pc := 54) C 0 dX8_set_54 ki_0 ?_
          obtain ⟨rfl, rfl⟩ := ret_eq hF
          exact x_iret (pc := 55) C hr rfl (fun _ h => h) dX8_set_55
    · refine x_iconst (pc := 31) C 1 dX8_set_31 ki_1 ?_
      refine x_goto (pc := 32) C 44 dX8_set_32 rfl ?_
      refine pf_X8_33 (pc := 44) C   hF dX8_set_44 (fun w37 hF => ?_)
      refine x_aload_n (pc := 47) C 1 dX8_set_47 rfl rfl ?_
      refine gf_X8_33 (pc := 48) C  dX8_set_48 ?_
      refine x_if_le (pc := 51) C 56 dX8_set_51 rfl hF (fun c41 hF => ?_) (fun c41 hF => ?_)
      · refine x_aload_n (pc := 56) C 1 dX8_set_56 rfl rfl ?_
        refine cV0_0 (pc := 57) C hF (fun _ _ h => c_X8_record l G b  h) vm_X8_record wq225 rfl rfl ⟨Nat.le_of_ble_eq_true rfl, Nat.le_of_ble_eq_true rfl⟩ rfl rfl (fun _ h => CW.md h) (Nat.le_of_ble_eq_true rfl) ⟨Nat.le_refl _, Nat.le_refl _⟩ dX8_set_57 (fun _ w38 hF => ?_)
        refine x_aload_n (pc := 60) C 1 dX8_set_60 rfl rfl ?_
        refine gf_X8_7 (pc := 61) C  dX8_set_61 ?_
        refine x_bipush (pc := 64) C 8 dX8_set_64 kb_8 ?_
        refine x_iload_n (pc := 66) C 2 dX8_set_66 rfl rfl ?_
        refine x_iadd (pc := 67) C dX8_set_67 ?_
        refine w_ald (pc := 68) C (vA_m 0 (by decide)) hF dX8_set_68 (fun x39 hF => ?_)
        refine x_istore (pc := 69) C [(4, .int (x39)), (3, .int (x23)), (0, .ref (mdb b)), (1, .int (a1)), (2, .int (a2))] dX8_set_69 (by decide) rfl ?_
        refine x_aload_n (pc := 71) C 2 dX8_set_71 rfl rfl ?_
        refine gf_X8_7 (pc := 72) C  dX8_set_72 ?_
        refine x_bipush (pc := 75) C 8 dX8_set_75 kb_8 ?_
        refine x_iload_n (pc := 77) C 3 dX8_set_77 rfl rfl ?_
        refine x_iadd (pc := 78) C dX8_set_78 ?_
        refine x_iload_n (pc := 79) C 4 dX8_set_79 rfl rfl ?_
        refine w_ast (pc := 80) C (vA_m 0 (by decide)) hF dX8_set_80 (fun w40 hF => ?_)
        refine x_iload (pc := 81) C 0 dX8_set_81 rfl ?_
        obtain ⟨rfl, rfl⟩ := ret_eq hF
        exact x_iret (pc := 83) C hr rfl (fun _ h => h) dX8_set_83
      · refine x_iconst (pc := 54) C 0 dX8_set_54 ki_0 ?_
        obtain ⟨rfl, rfl⟩ := ret_eq hF
        exact x_iret (pc := 55) C hr rfl (fun _ h => h) dX8_set_55
set_option maxRecDepth 4000 in
theorem c_X8_setting (l : Launch) (G : xG) (b : Nat)     (a1 : Int32) {w w' : xWt} {v : Int32} (hF : F_X8_setting a1 w = some (v, w')) : xMet l G b yX8_setting cX8_setting 2 (some .int) (xR 1) [.ref (mdb b), .int (a1)] (CW G b w) (some (.int v)) (CW G b w') 0 0 := by
  refine x_of (own := RX8) rfl (plainFor_of_name pn_X8) (Nat.le_of_ble_eq_true rfl) ?_
  intro p e s m args below meth c ha C hr _
  unfold F_X8_setting at hF
  refine x_aload_n (pc := 0) C 0 dX8_setting_0 rfl rfl ?_
  refine x_iload_n (pc := 1) C 1 dX8_setting_1 rfl rfl ?_
  refine x_iconst (pc := 2) C 0 dX8_setting_2 ki_0 ?_
  refine x_iconst (pc := 3) C 1 dX8_setting_3 ki_1 ?_
  refine cS1_3 (pc := 4) (val := Value.int) C hF (fun _ _ h => c_X8_in l G b  _ _ _ h) sm_X8_in wq307 rfl rfl ⟨Nat.le_of_ble_eq_true rfl, Nat.le_of_ble_eq_true rfl⟩ (Nat.le_of_ble_eq_true rfl) ⟨Nat.le_refl _, Nat.le_refl _⟩ dX8_setting_4 (fun x2 w1 hF => ?_)
  refine x_if_eq (pc := 7) C 14 dX8_setting_7 rfl hF (fun c9 hF => ?_) (fun c9 hF => ?_)
  · refine x_iconst (pc := 14) C 1 dX8_setting_14 ki_1 ?_
    refine pf_X8_33 (pc := 15) C   hF dX8_setting_15 (fun w3 hF => ?_)
    refine x_aload_n (pc := 18) C 0 dX8_setting_18 rfl rfl ?_
    refine gf_X8_33 (pc := 19) C  dX8_setting_19 ?_
    refine x_if_le (pc := 22) C 29 dX8_setting_22 rfl hF (fun c5 hF => ?_) (fun c5 hF => ?_)
    · refine x_aload_n (pc := 29) C 0 dX8_setting_29 rfl rfl ?_
      refine gf_X8_7 (pc := 30) C  dX8_setting_30 ?_
      refine x_bipush (pc := 33) C 8 dX8_setting_33 kb_8 ?_
      refine x_iload_n (pc := 35) C 1 dX8_setting_35 rfl rfl ?_
      refine x_iadd (pc := 36) C dX8_setting_36 ?_
      refine w_ald (pc := 37) C (vA_m 0 (by decide)) hF dX8_setting_37 (fun x4 hF => ?_)
      obtain ⟨rfl, rfl⟩ := ret_eq hF
      exact x_iret (pc := 38) C hr rfl (fun _ h => h) dX8_setting_38
    · refine x_iconst (pc := 25) C 0 dX8_setting_25 ki_0 ?_
      refine x_goto (pc := 26) C 38 dX8_setting_26 rfl ?_
      obtain ⟨rfl, rfl⟩ := ret_eq hF
      exact x_iret (pc := 38) C hr rfl (fun _ h => h) dX8_setting_38
  · refine x_iconst (pc := 10) C 0 dX8_setting_10 ki_0 ?_
    refine x_goto (pc := 11) C 15 dX8_setting_11 rfl ?_
    refine pf_X8_33 (pc := 15) C   hF dX8_setting_15 (fun w6 hF => ?_)
    refine x_aload_n (pc := 18) C 0 dX8_setting_18 rfl rfl ?_
    refine gf_X8_33 (pc := 19) C  dX8_setting_19 ?_
    refine x_if_le (pc := 22) C 29 dX8_setting_22 rfl hF (fun c8 hF => ?_) (fun c8 hF => ?_)
    · refine x_aload_n (pc := 29) C 0 dX8_setting_29 rfl rfl ?_
      refine gf_X8_7 (pc := 30) C  dX8_setting_30 ?_
      refine x_bipush (pc := 33) C 8 dX8_setting_33 kb_8 ?_
      refine x_iload_n (pc := 35) C 1 dX8_setting_35 rfl rfl ?_
      refine x_iadd (pc := 36) C dX8_setting_36 ?_
      refine w_ald (pc := 37) C (vA_m 0 (by decide)) hF dX8_setting_37 (fun x7 hF => ?_)
      obtain ⟨rfl, rfl⟩ := ret_eq hF
      exact x_iret (pc := 38) C hr rfl (fun _ h => h) dX8_setting_38
    · refine x_iconst (pc := 25) C 0 dX8_setting_25 ki_0 ?_
      refine x_goto (pc := 26) C 38 dX8_setting_26 rfl ?_
      obtain ⟨rfl, rfl⟩ := ret_eq hF
      exact x_iret (pc := 38) C hr rfl (fun _ h => h) dX8_setting_38
set_option maxRecDepth 4000 in
theorem c_X8_swap (l : Launch) (G : xG) (b : Nat)     (a1 : Int32) (a2 : Int32) (a3 : Int32) {w w' : xWt} {v : Int32} (hF : F_X8_swap a1 a2 a3 w = some (v, w')) : xMet l G b yX8_swap cX8_swap 4 (some .int) (xR 7) [.ref (mdb b), .int (a1), .int (a2), .int (a3)] (CW G b w) (some (.int v)) (CW G b w') 0 0 := by
  refine x_of (own := RX8) rfl (plainFor_of_name pn_X8) (Nat.le_of_ble_eq_true rfl) ?_
  intro p e s m args below meth c ha C hr _
  unfold F_X8_swap at hF
  refine x_aload_n (pc := 0) C 0 dX8_swap_0 rfl rfl ?_
  refine x_aload_n (pc := 1) C 0 dX8_swap_1 rfl rfl ?_
  refine x_iload_n (pc := 2) C 1 dX8_swap_2 rfl rfl ?_
  refine x_iload_n (pc := 3) C 2 dX8_swap_3 rfl rfl ?_
  refine x_iload_n (pc := 4) C 3 dX8_swap_4 rfl rfl ?_
  refine cV1_3 (pc := 5) (val := Value.int) C hF (fun _ _ h => c_X8_whyNotSwap l G b  _ _ _ h) vm_X8_whyNotSwap wq716 rfl rfl ⟨Nat.le_of_ble_eq_true rfl, Nat.le_of_ble_eq_true rfl⟩ rfl rfl (fun _ h => CW.md h) (Nat.le_of_ble_eq_true rfl) ⟨Nat.le_refl _, Nat.le_refl _⟩ dX8_swap_5 (fun x2 w1 hF => ?_)
  refine pf_X8_33 (pc := 8) C   hF dX8_swap_8 (fun w3 hF => ?_)
  refine x_aload_n (pc := 11) C 0 dX8_swap_11 rfl rfl ?_
  refine gf_X8_33 (pc := 12) C  dX8_swap_12 ?_
  refine x_if_le (pc := 15) C 20 dX8_swap_15 rfl hF (fun c7 hF => ?_) (fun c7 hF => ?_)
  · refine x_aload_n (pc := 20) C 0 dX8_swap_20 rfl rfl ?_
    refine cV0_0 (pc := 21) C hF (fun _ _ h => c_X8_record l G b  h) vm_X8_record wq225 rfl rfl ⟨Nat.le_of_ble_eq_true rfl, Nat.le_of_ble_eq_true rfl⟩ rfl rfl (fun _ h => CW.md h) (Nat.le_of_ble_eq_true rfl) ⟨Nat.le_refl _, Nat.le_refl _⟩ dX8_swap_21 (fun _ w4 hF => ?_)
    refine x_aload_n (pc := 24) C 0 dX8_swap_24 rfl rfl ?_
    refine x_iload_n (pc := 25) C 1 dX8_swap_25 rfl rfl ?_
    refine x_iload_n (pc := 26) C 2 dX8_swap_26 rfl rfl ?_
    refine x_iload_n (pc := 27) C 3 dX8_swap_27 rfl rfl ?_
    refine cV1_3 (pc := 28) (val := Value.int) C hF (fun _ _ h => c_X8_doSwap l G b  _ _ _ h) vm_X8_doSwap wq720 rfl rfl ⟨Nat.le_of_ble_eq_true rfl, Nat.le_of_ble_eq_true rfl⟩ rfl rfl (fun _ h => CW.md h) (Nat.le_of_ble_eq_true rfl) ⟨Nat.le_refl _, Nat.le_refl _⟩ dX8_swap_28 (fun x6 w5 hF => ?_)
    obtain ⟨rfl, rfl⟩ := ret_eq hF
    exact x_iret (pc := 31) C hr rfl (fun _ h => h) dX8_swap_31
  · refine x_iconst (pc := 18) C 0 dX8_swap_18 ki_0 ?_
    obtain ⟨rfl, rfl⟩ := ret_eq hF
    exact x_iret (pc := 19) C hr rfl (fun _ h => h) dX8_swap_19
set_option maxRecDepth 4000 in
theorem c_X8_take (l : Launch) (G : xG) (b : Nat)     (a1 : Int32) (a2 : Int32) {w w' : xWt} {v : Int32} (hF : F_X8_take a1 a2 w = some (v, w')) : xMet l G b yX8_take cX8_take 3 (some .int) (xR 6) [.ref (mdb b), .int (a1), .int (a2)] (CW G b w) (some (.int v)) (CW G b w') 0 0 := by
  refine x_of (own := RX8) rfl (plainFor_of_name pn_X8) (Nat.le_of_ble_eq_true rfl) ?_
  intro p e s m args below meth c ha C hr _
  unfold F_X8_take at hF
  refine x_aload_n (pc := 0) C 0 dX8_take_0 rfl rfl ?_
  refine x_aload_n (pc := 1) C 0 dX8_take_1 rfl rfl ?_
  refine x_iload_n (pc := 2) C 1 dX8_take_2 rfl rfl ?_
  refine x_iload_n (pc := 3) C 2 dX8_take_3 rfl rfl ?_
  refine cV1_2 (pc := 4) (val := Value.int) C hF (fun _ _ h => c_X8_whyNotTake l G b  _ _ h) vm_X8_whyNotTake wq666 rfl rfl ⟨Nat.le_of_ble_eq_true rfl, Nat.le_of_ble_eq_true rfl⟩ rfl rfl (fun _ h => CW.md h) (Nat.le_of_ble_eq_true rfl) ⟨Nat.le_refl _, Nat.le_refl _⟩ dX8_take_4 (fun x2 w1 hF => ?_)
  refine pf_X8_33 (pc := 7) C   hF dX8_take_7 (fun w3 hF => ?_)
  refine x_aload_n (pc := 10) C 0 dX8_take_10 rfl rfl ?_
  refine gf_X8_33 (pc := 11) C  dX8_take_11 ?_
  refine x_if_le (pc := 14) C 19 dX8_take_14 rfl hF (fun c7 hF => ?_) (fun c7 hF => ?_)
  · refine x_aload_n (pc := 19) C 0 dX8_take_19 rfl rfl ?_
    refine cV0_0 (pc := 20) C hF (fun _ _ h => c_X8_record l G b  h) vm_X8_record wq225 rfl rfl ⟨Nat.le_of_ble_eq_true rfl, Nat.le_of_ble_eq_true rfl⟩ rfl rfl (fun _ h => CW.md h) (Nat.le_of_ble_eq_true rfl) ⟨Nat.le_refl _, Nat.le_refl _⟩ dX8_take_20 (fun _ w4 hF => ?_)
    refine x_aload_n (pc := 23) C 0 dX8_take_23 rfl rfl ?_
    refine x_iload_n (pc := 24) C 1 dX8_take_24 rfl rfl ?_
    refine x_iload_n (pc := 25) C 2 dX8_take_25 rfl rfl ?_
    refine cV1_2 (pc := 26) (val := Value.int) C hF (fun _ _ h => c_X8_doTake l G b  _ _ h) vm_X8_doTake wq670 rfl rfl ⟨Nat.le_of_ble_eq_true rfl, Nat.le_of_ble_eq_true rfl⟩ rfl rfl (fun _ h => CW.md h) (Nat.le_of_ble_eq_true rfl) ⟨Nat.le_refl _, Nat.le_refl _⟩ dX8_take_26 (fun x6 w5 hF => ?_)
    obtain ⟨rfl, rfl⟩ := ret_eq hF
    exact x_iret (pc := 29) C hr rfl (fun _ h => h) dX8_take_29
  · refine x_iconst (pc := 17) C 0 dX8_take_17 ki_0 ?_
    obtain ⟨rfl, rfl⟩ := ret_eq hF
    exact x_iret (pc := 18) C hr rfl (fun _ h => h) dX8_take_18
set_option maxRecDepth 4000 in
theorem c_X8_thrown (l : Launch) (G : xG) (b : Nat)      {w w' : xWt} {v : Int32} (hF : F_X8_thrown  w = some (v, w')) : xMet l G b yX8_thrown cX8_thrown 1 (some .int) (xR 0) [.ref (mdb b)] (CW G b w) (some (.int v)) (CW G b w') 0 0 := by
  refine x_of (own := RX8) rfl (plainFor_of_name pn_X8) (Nat.le_of_ble_eq_true rfl) ?_
  intro p e s m args below meth c ha C hr _
  unfold F_X8_thrown at hF
  refine x_aload_n (pc := 0) C 0 dX8_thrown_0 rfl rfl ?_
  refine gf_X8_33 (pc := 1) C  dX8_thrown_1 ?_
  obtain ⟨rfl, rfl⟩ := ret_eq hF
  exact x_iret (pc := 4) C hr rfl (fun _ h => h) dX8_thrown_4
set_option maxRecDepth 4000 in
theorem s_X8_undo_37 (C : xC p m c s args meth G b cX8_undo 2 RX8)    : ∀ (n9 : Nat) (l1 : Int32) (w : xWt) (o : (Int32)) (w' : xWt), L_X8_undo_37  n9 l1 w = some (o, w') → xW p l e (xR 0) s m args below meth c Q b 2 (CW G b w') 0 0 71 [(0, .ref (mdb b)), (1, .int (o))] [] → xW p l e (xR 0) s m args below meth c Q b 2 (CW G b w) 0 0 37 [(0, .ref (mdb b)), (1, .int (l1))] [] := by
  intro n9
  induction n9 with
  | zero => intro l1 w o w' hF; exact none_ne (show none = some _ from hF)
  | succ n9 ih =>
    intro l1 w o w' hF kx
    replace hF : B_X8_undo_37  (L_X8_undo_37  n9) l1 w = some (o, w') := hF
    unfold B_X8_undo_37 at hF
    refine x_iload_n (pc := 37) C 1 dX8_undo_37 rfl rfl ?_
    refine x_sipush (pc := 38) C 817 dX8_undo_38 ks_817 ?_
    refine x_icmp_ge (pc := 41) C 71 dX8_undo_41 rfl hF (fun c5 hF => ?_) (fun c5 hF => ?_)
    · obtain ⟨rfl, rfl⟩ := ret_eq hF
      exact x_sub [0, 1] rfl kx
    · refine x_aload_n (pc := 44) C 0 dX8_undo_44 rfl rfl ?_
      refine gf_X8_7 (pc := 45) C  dX8_undo_45 ?_
      refine x_iload_n (pc := 48) C 1 dX8_undo_48 rfl rfl ?_
      refine x_aload_n (pc := 49) C 0 dX8_undo_49 rfl rfl ?_
      refine gf_X8_13 (pc := 50) C  dX8_undo_50 ?_
      refine x_sipush (pc := 53) C 817 dX8_undo_53 ks_817 ?_
      refine x_aload_n (pc := 56) C 0 dX8_undo_56 rfl rfl ?_
      refine gf_X8_72 (pc := 57) C  dX8_undo_57 ?_
      refine x_imul (pc := 60) C dX8_undo_60 ?_
      refine x_iload_n (pc := 61) C 1 dX8_undo_61 rfl rfl ?_
      refine x_iadd (pc := 62) C dX8_undo_62 ?_
      refine w_ald (pc := 63) C (vA_m 1 (by decide)) hF dX8_undo_63 (fun x3 hF => ?_)
      refine w_ast (pc := 64) C (vA_m 0 (by decide)) hF dX8_undo_64 (fun w4 hF => ?_)
      refine x_iinc (pc := 65) C 1 [(1, .int ((l1 + 1))), (0, .ref (mdb b))] dX8_undo_65 rfl rfl (by decide) rfl ?_
      refine x_goto (pc := 68) C 37 dX8_undo_68 rfl ?_
      exact x_sub [1, 0] rfl (ih _ _ _ _ hF kx)
set_option maxRecDepth 4000 in
theorem c_X8_undo (l : Launch) (G : xG) (b : Nat)      {w w' : xWt} {v : Int32} (hF : F_X8_undo  w = some (v, w')) : xMet l G b yX8_undo cX8_undo 2 (some .int) (xR 0) [.ref (mdb b)] (CW G b w) (some (.int v)) (CW G b w') 0 0 := by
  refine x_of (own := RX8) rfl (plainFor_of_name pn_X8) (Nat.le_of_ble_eq_true rfl) ?_
  intro p e s m args below meth c ha C hr _
  unfold F_X8_undo at hF
  refine x_aload_n (pc := 0) C 0 dX8_undo_0 rfl rfl ?_
  refine x_aload_n (pc := 1) C 0 dX8_undo_1 rfl rfl ?_
  refine gf_X8_72 (pc := 2) C  dX8_undo_2 ?_
  refine x_if_ne (pc := 5) C 12 dX8_undo_5 rfl hF (fun c14 hF => ?_) (fun c14 hF => ?_)
  · refine x_iconst (pc := 12) C 0 dX8_undo_12 ki_0 ?_
    refine pf_X8_33 (pc := 13) C   hF dX8_undo_13 (fun w1 hF => ?_)
    refine x_aload_n (pc := 16) C 0 dX8_undo_16 rfl rfl ?_
    refine gf_X8_33 (pc := 17) C  dX8_undo_17 ?_
    refine x_if_le (pc := 20) C 25 dX8_undo_20 rfl hF (fun c8 hF => ?_) (fun c8 hF => ?_)
    · refine x_aload_n (pc := 25) C 0 dX8_undo_25 rfl rfl ?_
      refine x_dup (pc := 26) C dX8_undo_26 rfl ?_
      refine gf_X8_72 (pc := 27) C  dX8_undo_27 ?_
      refine x_iconst (pc := 30) C 1 dX8_undo_30 ki_1 ?_
      refine x_isub (pc := 31) C dX8_undo_31 ?_
      refine pf_X8_72 (pc := 32) C   hF dX8_undo_32 (fun w2 hF => ?_)
      refine x_iconst (pc := 35) C 0 dX8_undo_35 ki_0 ?_
      refine x_istore_n (pc := 36) C [(1, .int (0)), (0, .ref (mdb b))] dX8_undo_36 rfl (by decide) rfl ?_
      obtain ⟨o6, w7, hL, hF⟩ := bd_some hF
      refine x_sub [1, 0] rfl (s_X8_undo_37 C  _ _ _ _ _ hL ?_)
      refine x_aload_n (pc := 71) C 0 dX8_undo_71 rfl rfl ?_
      refine gf_X8_72 (pc := 72) C  dX8_undo_72 ?_
      obtain ⟨rfl, rfl⟩ := ret_eq hF
      exact x_iret (pc := 75) C hr rfl (fun _ h => h) dX8_undo_75
    · refine x_iconst (pc := 23) C 0 dX8_undo_23 ki_0 ?_
      obtain ⟨rfl, rfl⟩ := ret_eq hF
      exact x_iret (pc := 24) C hr rfl (fun _ h => h) dX8_undo_24
  · refine x_iconst (pc := 8) C 1 dX8_undo_8 ki_1 ?_
    refine x_goto (pc := 9) C 13 dX8_undo_9 rfl ?_
    refine pf_X8_33 (pc := 13) C   hF dX8_undo_13 (fun w9 hF => ?_)
    refine x_aload_n (pc := 16) C 0 dX8_undo_16 rfl rfl ?_
    refine gf_X8_33 (pc := 17) C  dX8_undo_17 ?_
    refine x_if_le (pc := 20) C 25 dX8_undo_20 rfl hF (fun c13 hF => ?_) (fun c13 hF => ?_)
    · refine x_aload_n (pc := 25) C 0 dX8_undo_25 rfl rfl ?_
      refine x_dup (pc := 26) C dX8_undo_26 rfl ?_
      refine gf_X8_72 (pc := 27) C  dX8_undo_27 ?_
      refine x_iconst (pc := 30) C 1 dX8_undo_30 ki_1 ?_
      refine x_isub (pc := 31) C dX8_undo_31 ?_
      refine pf_X8_72 (pc := 32) C   hF dX8_undo_32 (fun w10 hF => ?_)
      refine x_iconst (pc := 35) C 0 dX8_undo_35 ki_0 ?_
      refine x_istore_n (pc := 36) C [(1, .int (0)), (0, .ref (mdb b))] dX8_undo_36 rfl (by decide) rfl ?_
      obtain ⟨o11, w12, hL, hF⟩ := bd_some hF
      refine x_sub [1, 0] rfl (s_X8_undo_37 C  _ _ _ _ _ hL ?_)
      refine x_aload_n (pc := 71) C 0 dX8_undo_71 rfl rfl ?_
      refine gf_X8_72 (pc := 72) C  dX8_undo_72 ?_
      obtain ⟨rfl, rfl⟩ := ret_eq hF
      exact x_iret (pc := 75) C hr rfl (fun _ h => h) dX8_undo_75
    · refine x_iconst (pc := 23) C 0 dX8_undo_23 ki_0 ?_
      obtain ⟨rfl, rfl⟩ := ret_eq hF
      exact x_iret (pc := 24) C hr rfl (fun _ h => h) dX8_undo_24
set_option maxRecDepth 4000 in
theorem c_X8_why (l : Launch) (G : xG) (b : Nat)     (a1 : Int32) {w w' : xWt} {v : Int32} (hF : F_X8_why a1 w = some (v, w')) : xMet l G b yX8_why cX8_why 2 (some .int) (xR 5) [.ref (mdb b), .int (a1)] (CW G b w) (some (.int v)) (CW G b w') 0 0 := by
  refine x_of (own := RX8) rfl (plainFor_of_name pn_X8) (Nat.le_of_ble_eq_true rfl) ?_
  intro p e s m args below meth c ha C hr _
  unfold F_X8_why at hF
  refine x_aload_n (pc := 0) C 0 dX8_why_0 rfl rfl ?_
  refine x_aload_n (pc := 1) C 0 dX8_why_1 rfl rfl ?_
  refine x_iload_n (pc := 2) C 1 dX8_why_2 rfl rfl ?_
  refine cV1_1 (pc := 3) (val := Value.int) C hF (fun _ _ h => c_X8_isLeaf l G b  _ h) vm_X8_isLeaf wq989 rfl rfl ⟨Nat.le_of_ble_eq_true rfl, Nat.le_of_ble_eq_true rfl⟩ rfl rfl (fun _ h => CW.md h) (Nat.le_of_ble_eq_true rfl) ⟨Nat.le_refl _, Nat.le_refl _⟩ dX8_why_3 (fun x2 w1 hF => ?_)
  refine x_if_eq (pc := 6) C 13 dX8_why_6 rfl hF (fun c11 hF => ?_) (fun c11 hF => ?_)
  · refine x_iconst (pc := 13) C 1 dX8_why_13 ki_1 ?_
    refine pf_X8_33 (pc := 14) C   hF dX8_why_14 (fun w3 hF => ?_)
    refine x_aload_n (pc := 17) C 0 dX8_why_17 rfl rfl ?_
    refine gf_X8_33 (pc := 18) C  dX8_why_18 ?_
    refine x_if_le (pc := 21) C 28 dX8_why_21 rfl hF (fun c6 hF => ?_) (fun c6 hF => ?_)
    · refine x_aload_n (pc := 28) C 0 dX8_why_28 rfl rfl ?_
      refine x_iload_n (pc := 29) C 1 dX8_why_29 rfl rfl ?_
      refine cV1_1 (pc := 30) (val := Value.int) C hF (fun _ _ h => c_X8_whyNot l G b  _ h) vm_X8_whyNot wq1121 rfl rfl ⟨Nat.le_of_ble_eq_true rfl, Nat.le_of_ble_eq_true rfl⟩ rfl rfl (fun _ h => CW.md h) (Nat.le_of_ble_eq_true rfl) ⟨Nat.le_refl _, Nat.le_refl _⟩ dX8_why_30 (fun x5 w4 hF => ?_)
      obtain ⟨rfl, rfl⟩ := ret_eq hF
      exact x_iret (pc := 33) C hr rfl (fun _ h => h) dX8_why_33
    · refine x_iconst (pc := 24) C 0 dX8_why_24 ki_0 ?_
      refine x_goto (pc := 25) C 33 dX8_why_25 rfl ?_
      obtain ⟨rfl, rfl⟩ := ret_eq hF
      exact x_iret (pc := 33) C hr rfl (fun _ h => h) dX8_why_33
  · refine x_iconst (pc := 9) C 0 dX8_why_9 ki_0 ?_
    refine x_goto (pc := 10) C 14 dX8_why_10 rfl ?_
    refine pf_X8_33 (pc := 14) C   hF dX8_why_14 (fun w7 hF => ?_)
    refine x_aload_n (pc := 17) C 0 dX8_why_17 rfl rfl ?_
    refine gf_X8_33 (pc := 18) C  dX8_why_18 ?_
    refine x_if_le (pc := 21) C 28 dX8_why_21 rfl hF (fun c10 hF => ?_) (fun c10 hF => ?_)
    · refine x_aload_n (pc := 28) C 0 dX8_why_28 rfl rfl ?_
      refine x_iload_n (pc := 29) C 1 dX8_why_29 rfl rfl ?_
      refine cV1_1 (pc := 30) (val := Value.int) C hF (fun _ _ h => c_X8_whyNot l G b  _ h) vm_X8_whyNot wq1121 rfl rfl ⟨Nat.le_of_ble_eq_true rfl, Nat.le_of_ble_eq_true rfl⟩ rfl rfl (fun _ h => CW.md h) (Nat.le_of_ble_eq_true rfl) ⟨Nat.le_refl _, Nat.le_refl _⟩ dX8_why_30 (fun x9 w8 hF => ?_)
      obtain ⟨rfl, rfl⟩ := ret_eq hF
      exact x_iret (pc := 33) C hr rfl (fun _ h => h) dX8_why_33
    · refine x_iconst (pc := 24) C 0 dX8_why_24 ki_0 ?_
      refine x_goto (pc := 25) C 33 dX8_why_25 rfl ?_
      obtain ⟨rfl, rfl⟩ := ret_eq hF
      exact x_iret (pc := 33) C hr rfl (fun _ h => h) dX8_why_33
end WalkM
