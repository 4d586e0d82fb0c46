section WalkC
variable {p : Program} {l : Launch} {e : Env} {s : State} {m : MethodId} {args : Array Value} {below : List Frame} {meth : Method} {c : Code} {Q : State → Prop} {b : Nat} {G : xG}
set_option maxRecDepth 4000 in
theorem c_X4_copyFrom (l : Launch) (G : xG) (b : Nat) {k r : Nat} (hv : vr k r) {k2 r2 : Nat} (hv2 : vr k2 r2)  {w w' : xWt}  (hF : F_X4_copyFrom k r k2 r2 w = some ((), w')) : xMet l G b yX4_copyFrom cX4_copyFrom 2 none (xR 1) [.ref (ro b k r), .ref (ro b k2 r2)] (CW G b w) none (CW G b w') 0 0 := by
  refine x_of (own := RX4) rfl (plainFor_of_name pn_X4) (Nat.le_of_ble_eq_true rfl) ?_
  intro p e s m args below meth c ha C hr _
  unfold F_X4_copyFrom at hF
  refine x_aload_n (pc := 0) C 1 dX4_copyFrom_0 rfl rfl ?_
  refine gf_X4_9 (pc := 1) C hv2 dX4_copyFrom_1 ?_
  refine x_iconst (pc := 4) C 0 dX4_copyFrom_4 ki_0 ?_
  refine x_aload_n (pc := 5) C 0 dX4_copyFrom_5 rfl rfl ?_
  refine gf_X4_9 (pc := 6) C hv dX4_copyFrom_6 ?_
  refine x_iconst (pc := 9) C 0 dX4_copyFrom_9 ki_0 ?_
  refine x_aload_n (pc := 10) C 0 dX4_copyFrom_10 rfl rfl ?_
  refine gf_X4_9 (pc := 11) C hv dX4_copyFrom_11 ?_
  refine w_alen (pc := 14) C (Or.inl hv) dX4_copyFrom_14 ?_
  refine x_aload_n (pc := 15) C 1 dX4_copyFrom_15 rfl rfl ?_
  refine gf_X4_9 (pc := 16) C hv2 dX4_copyFrom_16 ?_
  refine w_alen (pc := 19) C (Or.inl hv2) dX4_copyFrom_19 ?_
  refine x_min (pc := 20) C wq463 wq464 wq465 wq466 ⟨Nat.le_of_ble_eq_true rfl, Nat.le_of_ble_eq_true rfl⟩ ⟨Nat.le_refl _, Nat.le_refl _⟩ dX4_copyFrom_20 ?_
  refine x_acp (pc := 23) C (Or.inl hv2) (Or.inl hv) wq467 wq468 wq469 wq470 ⟨Nat.le_of_ble_eq_true rfl, Nat.le_of_ble_eq_true rfl⟩ hF dX4_copyFrom_23 (fun w1 hF => ?_)
  obtain ⟨-, rfl⟩ := ret_eq hF
  exact x_vret (pc := 26) C hr (fun _ h => h) dX4_copyFrom_26
set_option maxRecDepth 4000 in
theorem c_X0_copyFrom (l : Launch) (G : xG) (b : Nat) {k : Nat} (hk : k < 8) {k2 : Nat} (hk2 : k2 < 8)  {w w' : xWt}  (hF : F_X0_copyFrom k k2 w = some ((), w')) : xMet l G b yX0_copyFrom cX0_copyFrom 2 none (xR 2) [.ref (chb b k), .ref (chb b k2)] (CW G b w) none (CW G b w') 0 0 := by
  refine x_of (own := RX0) rfl (plainFor_of_name pn_X0) (Nat.le_of_ble_eq_true rfl) ?_
  intro p e s m args below meth c ha C hr _
  unfold F_X0_copyFrom at hF
  refine x_aload_n (pc := 0) C 0 dX0_copyFrom_0 rfl rfl ?_
  refine gf_X0_14 (pc := 1) C hk dX0_copyFrom_1 ?_
  refine x_aload_n (pc := 4) C 1 dX0_copyFrom_4 rfl rfl ?_
  refine gf_X0_14 (pc := 5) C hk2 dX0_copyFrom_5 ?_
  refine cV0_1 (pc := 8) C hF (fun _ _ h => c_X4_copyFrom l G b (vr_y 6 hk (by decide)) (vr_y 6 hk2 (by decide)) h) vm_X4_copyFrom wq475 rfl rfl ⟨Nat.le_of_ble_eq_true rfl, Nat.le_of_ble_eq_true rfl⟩ rfl rfl (fun _ h => CW.row0 h (vr_y 6 hk (by decide))) (Nat.le_of_ble_eq_true rfl) ⟨Nat.le_refl _, Nat.le_refl _⟩ dX0_copyFrom_8 (fun _ w1 hF => ?_)
  refine x_aload_n (pc := 11) C 0 dX0_copyFrom_11 rfl rfl ?_
  refine gf_X0_20 (pc := 12) C hk dX0_copyFrom_12 ?_
  refine x_aload_n (pc := 15) C 1 dX0_copyFrom_15 rfl rfl ?_
  refine gf_X0_20 (pc := 16) C hk2 dX0_copyFrom_16 ?_
  refine cV0_1 (pc := 19) C hF (fun _ _ h => c_X4_copyFrom l G b (vr_y 7 hk (by decide)) (vr_y 7 hk2 (by decide)) h) vm_X4_copyFrom wq475 rfl rfl ⟨Nat.le_of_ble_eq_true rfl, Nat.le_of_ble_eq_true rfl⟩ rfl rfl (fun _ h => CW.row0 h (vr_y 7 hk (by decide))) (Nat.le_of_ble_eq_true rfl) ⟨Nat.le_refl _, Nat.le_refl _⟩ dX0_copyFrom_19 (fun _ w2 hF => ?_)
  refine x_aload_n (pc := 22) C 0 dX0_copyFrom_22 rfl rfl ?_
  refine gf_X0_23 (pc := 23) C hk dX0_copyFrom_23 ?_
  refine x_aload_n (pc := 26) C 1 dX0_copyFrom_26 rfl rfl ?_
  refine gf_X0_23 (pc := 27) C hk2 dX0_copyFrom_27 ?_
  refine cV0_1 (pc := 30) C hF (fun _ _ h => c_X4_copyFrom l G b (vr_y 8 hk (by decide)) (vr_y 8 hk2 (by decide)) h) vm_X4_copyFrom wq475 rfl rfl ⟨Nat.le_of_ble_eq_true rfl, Nat.le_of_ble_eq_true rfl⟩ rfl rfl (fun _ h => CW.row0 h (vr_y 8 hk (by decide))) (Nat.le_of_ble_eq_true rfl) ⟨Nat.le_refl _, Nat.le_refl _⟩ dX0_copyFrom_30 (fun _ w3 hF => ?_)
  refine x_aload_n (pc := 33) C 0 dX0_copyFrom_33 rfl rfl ?_
  refine gf_X0_26 (pc := 34) C hk dX0_copyFrom_34 ?_
  refine x_aload_n (pc := 37) C 1 dX0_copyFrom_37 rfl rfl ?_
  refine gf_X0_26 (pc := 38) C hk2 dX0_copyFrom_38 ?_
  refine cV0_1 (pc := 41) C hF (fun _ _ h => c_X4_copyFrom l G b (vr_y 9 hk (by decide)) (vr_y 9 hk2 (by decide)) h) vm_X4_copyFrom wq475 rfl rfl ⟨Nat.le_of_ble_eq_true rfl, Nat.le_of_ble_eq_true rfl⟩ rfl rfl (fun _ h => CW.row0 h (vr_y 9 hk (by decide))) (Nat.le_of_ble_eq_true rfl) ⟨Nat.le_refl _, Nat.le_refl _⟩ dX0_copyFrom_41 (fun _ w4 hF => ?_)
  refine x_aload_n (pc := 44) C 0 dX0_copyFrom_44 rfl rfl ?_
  refine gf_X0_29 (pc := 45) C hk dX0_copyFrom_45 ?_
  refine x_aload_n (pc := 48) C 1 dX0_copyFrom_48 rfl rfl ?_
  refine gf_X0_29 (pc := 49) C hk2 dX0_copyFrom_49 ?_
  refine cV0_1 (pc := 52) C hF (fun _ _ h => c_X4_copyFrom l G b (vr_y 10 hk (by decide)) (vr_y 10 hk2 (by decide)) h) vm_X4_copyFrom wq475 rfl rfl ⟨Nat.le_of_ble_eq_true rfl, Nat.le_of_ble_eq_true rfl⟩ rfl rfl (fun _ h => CW.row0 h (vr_y 10 hk (by decide))) (Nat.le_of_ble_eq_true rfl) ⟨Nat.le_refl _, Nat.le_refl _⟩ dX0_copyFrom_52 (fun _ w5 hF => ?_)
  refine x_aload_n (pc := 55) C 0 dX0_copyFrom_55 rfl rfl ?_
  refine gf_X0_32 (pc := 56) C hk dX0_copyFrom_56 ?_
  refine x_aload_n (pc := 59) C 1 dX0_copyFrom_59 rfl rfl ?_
  refine gf_X0_32 (pc := 60) C hk2 dX0_copyFrom_60 ?_
  refine cV0_1 (pc := 63) C hF (fun _ _ h => c_X4_copyFrom l G b (vr_y 11 hk (by decide)) (vr_y 11 hk2 (by decide)) h) vm_X4_copyFrom wq475 rfl rfl ⟨Nat.le_of_ble_eq_true rfl, Nat.le_of_ble_eq_true rfl⟩ rfl rfl (fun _ h => CW.row0 h (vr_y 11 hk (by decide))) (Nat.le_of_ble_eq_true rfl) ⟨Nat.le_refl _, Nat.le_refl _⟩ dX0_copyFrom_63 (fun _ w6 hF => ?_)
  refine x_aload_n (pc := 66) C 0 dX0_copyFrom_66 rfl rfl ?_
  refine gf_X0_35 (pc := 67) C hk dX0_copyFrom_67 ?_
  refine x_aload_n (pc := 70) C 1 dX0_copyFrom_70 rfl rfl ?_
  refine gf_X0_35 (pc := 71) C hk2 dX0_copyFrom_71 ?_
  refine cV0_1 (pc := 74) C hF (fun _ _ h => c_X4_copyFrom l G b (vr_y 12 hk (by decide)) (vr_y 12 hk2 (by decide)) h) vm_X4_copyFrom wq475 rfl rfl ⟨Nat.le_of_ble_eq_true rfl, Nat.le_of_ble_eq_true rfl⟩ rfl rfl (fun _ h => CW.row0 h (vr_y 12 hk (by decide))) (Nat.le_of_ble_eq_true rfl) ⟨Nat.le_refl _, Nat.le_refl _⟩ dX0_copyFrom_74 (fun _ w7 hF => ?_)
  obtain ⟨-, rfl⟩ := ret_eq hF
  exact x_vret (pc := 77) C hr (fun _ h => h) dX0_copyFrom_77
set_option maxRecDepth 4000 in
theorem c_X4_put (l : Launch) (G : xG) (b : Nat) {H0 : Heap} {h a n : Nat} (hne : h ≠ a) (hab : b ≤ a) (a1 : Int32) (a2 : Int32) {w w' : (Nat → Int32)}  (hF : F_X4_put n a1 a2 w = some ((), w')) : xMet l G b yX4_put cX4_put 3 none (xR 0) [.ref (h), .int (a1), .int (a2)] (LW G H0 h a n w) none (LW G H0 h a n w') 0 0 := by
  refine x_of (own := RX4) rfl (plainFor_of_name pn_X4) (Nat.le_of_ble_eq_true rfl) ?_
  intro p e s m args below meth c ha C hr _
  unfold F_X4_put at hF
  refine x_iload_n (pc := 0) C 1 dX4_put_0 rfl rfl ?_
  refine x_if_lt (pc := 1) C 20 dX4_put_1 rfl hF (fun c3 hF => ?_) (fun c3 hF => ?_)
  · obtain ⟨-, rfl⟩ := ret_eq hF
    exact x_vret (pc := 20) C hr (fun _ h => h) dX4_put_20
  · refine x_iload_n (pc := 4) C 1 dX4_put_4 rfl rfl ?_
    refine x_aload_n (pc := 5) C 0 dX4_put_5 rfl rfl ?_
    refine gl_X4_9 (pc := 6) C dX4_put_6 ?_
    refine l_alen (pc := 9) C dX4_put_9 ?_
    refine x_icmp_ge (pc := 10) C 20 dX4_put_10 rfl hF (fun c2 hF => ?_) (fun c2 hF => ?_)
    · obtain ⟨-, rfl⟩ := ret_eq hF
      exact x_vret (pc := 20) C hr (fun _ h => h) dX4_put_20
    · refine x_aload_n (pc := 13) C 0 dX4_put_13 rfl rfl ?_
      refine gl_X4_9 (pc := 14) C dX4_put_14 ?_
      refine x_iload_n (pc := 17) C 1 dX4_put_17 rfl rfl ?_
      refine x_iload_n (pc := 18) C 2 dX4_put_18 rfl rfl ?_
      refine l_ast (pc := 19) C hne hab hF dX4_put_19 (fun w1 hF => ?_)
      obtain ⟨-, rfl⟩ := ret_eq hF
      exact x_vret (pc := 20) C hr (fun _ h => h) dX4_put_20
theorem r_X4_put (l : Launch) (G : xG) (b : Nat) {k r : Nat} (hv : vr k r) (a1 : Int32) (a2 : Int32) {w w' : xWt}  (hF : R_X4_put k r a1 a2 w = some ((), w')) : xMet l G b yX4_put cX4_put 3 none (xR 0) [.ref (ro b k r), .int (a1), .int (a2)] (CW G b w) none (CW G b w') 0 0 := by
  obtain ⟨g, h1, rfl⟩ := liftR_some hF
  exact xMet.conseq fun H h => ⟨_, _, LW.of h hv, c_X4_put l G b (ro_ne hv) ra_ge a1 a2 h1, fun H' h' => LW.cw h hv h'⟩
set_option maxRecDepth 4000 in
theorem c_X0_emptyPlace (l : Launch) (G : xG) (b : Nat) {k : Nat} (hk : k < 8)   (a1 : Int32) {w w' : xWt}  (hF : F_X0_emptyPlace k a1 w = some ((), w')) : xMet l G b yX0_emptyPlace cX0_emptyPlace 2 none (xR 1) [.ref (chb b k), .int (a1)] (CW G b w) none (CW G b w') 0 0 := by
  refine x_of (own := RX0) rfl (plainFor_of_name pn_X0) (Nat.le_of_ble_eq_true rfl) ?_
  intro p e s m args below meth c ha C hr _
  unfold F_X0_emptyPlace at hF
  refine x_aload_n (pc := 0) C 0 dX0_emptyPlace_0 rfl rfl ?_
  refine gf_X0_14 (pc := 1) C hk dX0_emptyPlace_1 ?_
  refine x_iload_n (pc := 4) C 1 dX0_emptyPlace_4 rfl rfl ?_
  refine x_iconst (pc := 5) C 0 dX0_emptyPlace_5 ki_0 ?_
  refine cV0_2 (pc := 6) C hF (fun _ _ h => r_X4_put l G b (vr_y 6 hk (by decide)) _ _ h) vm_X4_put wq76 rfl rfl ⟨Nat.le_of_ble_eq_true rfl, Nat.le_of_ble_eq_true rfl⟩ rfl rfl (fun _ h => CW.row0 h (vr_y 6 hk (by decide))) (Nat.le_of_ble_eq_true rfl) ⟨Nat.le_refl _, Nat.le_refl _⟩ dX0_emptyPlace_6 (fun _ w1 hF => ?_)
  refine x_aload_n (pc := 9) C 0 dX0_emptyPlace_9 rfl rfl ?_
  refine gf_X0_20 (pc := 10) C hk dX0_emptyPlace_10 ?_
  refine x_iload_n (pc := 13) C 1 dX0_emptyPlace_13 rfl rfl ?_
  refine x_iconst (pc := 14) C (-1) dX0_emptyPlace_14 ki_m1 ?_
  refine cV0_2 (pc := 15) C hF (fun _ _ h => r_X4_put l G b (vr_y 7 hk (by decide)) _ _ h) vm_X4_put wq76 rfl rfl ⟨Nat.le_of_ble_eq_true rfl, Nat.le_of_ble_eq_true rfl⟩ rfl rfl (fun _ h => CW.row0 h (vr_y 7 hk (by decide))) (Nat.le_of_ble_eq_true rfl) ⟨Nat.le_refl _, Nat.le_refl _⟩ dX0_emptyPlace_15 (fun _ w2 hF => ?_)
  refine x_aload_n (pc := 18) C 0 dX0_emptyPlace_18 rfl rfl ?_
  refine gf_X0_32 (pc := 19) C hk dX0_emptyPlace_19 ?_
  refine x_iload_n (pc := 22) C 1 dX0_emptyPlace_22 rfl rfl ?_
  refine x_iconst (pc := 23) C 0 dX0_emptyPlace_23 ki_0 ?_
  refine cV0_2 (pc := 24) C hF (fun _ _ h => r_X4_put l G b (vr_y 11 hk (by decide)) _ _ h) vm_X4_put wq76 rfl rfl ⟨Nat.le_of_ble_eq_true rfl, Nat.le_of_ble_eq_true rfl⟩ rfl rfl (fun _ h => CW.row0 h (vr_y 11 hk (by decide))) (Nat.le_of_ble_eq_true rfl) ⟨Nat.le_refl _, Nat.le_refl _⟩ dX0_emptyPlace_24 (fun _ w3 hF => ?_)
  obtain ⟨-, rfl⟩ := ret_eq hF
  exact x_vret (pc := 27) C hr (fun _ h => h) dX0_emptyPlace_27
set_option maxRecDepth 4000 in
theorem c_X0_fillPlace (l : Launch) (G : xG) (b : Nat) {k : Nat} (hk : k < 8)   (a1 : Int32) {w w' : xWt}  (hF : F_X0_fillPlace k a1 w = some ((), w')) : xMet l G b yX0_fillPlace cX0_fillPlace 2 none (xR 1) [.ref (chb b k), .int (a1)] (CW G b w) none (CW G b w') 0 0 := by
  refine x_of (own := RX0) rfl (plainFor_of_name pn_X0) (Nat.le_of_ble_eq_true rfl) ?_
  intro p e s m args below meth c ha C hr _
  unfold F_X0_fillPlace at hF
  refine x_aload_n (pc := 0) C 0 dX0_fillPlace_0 rfl rfl ?_
  refine gf_X0_14 (pc := 1) C hk dX0_fillPlace_1 ?_
  refine x_iload_n (pc := 4) C 1 dX0_fillPlace_4 rfl rfl ?_
  refine x_iconst (pc := 5) C 1 dX0_fillPlace_5 ki_1 ?_
  refine cV0_2 (pc := 6) C hF (fun _ _ h => r_X4_put l G b (vr_y 6 hk (by decide)) _ _ h) vm_X4_put wq76 rfl rfl ⟨Nat.le_of_ble_eq_true rfl, Nat.le_of_ble_eq_true rfl⟩ rfl rfl (fun _ h => CW.row0 h (vr_y 6 hk (by decide))) (Nat.le_of_ble_eq_true rfl) ⟨Nat.le_refl _, Nat.le_refl _⟩ dX0_fillPlace_6 (fun _ w1 hF => ?_)
  refine x_aload_n (pc := 9) C 0 dX0_fillPlace_9 rfl rfl ?_
  refine gf_X0_23 (pc := 10) C hk dX0_fillPlace_10 ?_
  refine x_iload_n (pc := 13) C 1 dX0_fillPlace_13 rfl rfl ?_
  refine x_iconst (pc := 14) C 0 dX0_fillPlace_14 ki_0 ?_
  refine cV0_2 (pc := 15) C hF (fun _ _ h => r_X4_put l G b (vr_y 8 hk (by decide)) _ _ h) vm_X4_put wq76 rfl rfl ⟨Nat.le_of_ble_eq_true rfl, Nat.le_of_ble_eq_true rfl⟩ rfl rfl (fun _ h => CW.row0 h (vr_y 8 hk (by decide))) (Nat.le_of_ble_eq_true rfl) ⟨Nat.le_refl _, Nat.le_refl _⟩ dX0_fillPlace_15 (fun _ w2 hF => ?_)
  refine x_aload_n (pc := 18) C 0 dX0_fillPlace_18 rfl rfl ?_
  refine gf_X0_26 (pc := 19) C hk dX0_fillPlace_19 ?_
  refine x_iload_n (pc := 22) C 1 dX0_fillPlace_22 rfl rfl ?_
  refine x_iconst (pc := 23) C 0 dX0_fillPlace_23 ki_0 ?_
  refine cV0_2 (pc := 24) C hF (fun _ _ h => r_X4_put l G b (vr_y 9 hk (by decide)) _ _ h) vm_X4_put wq76 rfl rfl ⟨Nat.le_of_ble_eq_true rfl, Nat.le_of_ble_eq_true rfl⟩ rfl rfl (fun _ h => CW.row0 h (vr_y 9 hk (by decide))) (Nat.le_of_ble_eq_true rfl) ⟨Nat.le_refl _, Nat.le_refl _⟩ dX0_fillPlace_24 (fun _ w3 hF => ?_)
  refine x_aload_n (pc := 27) C 0 dX0_fillPlace_27 rfl rfl ?_
  refine gf_X0_29 (pc := 28) C hk dX0_fillPlace_28 ?_
  refine x_iload_n (pc := 31) C 1 dX0_fillPlace_31 rfl rfl ?_
  refine x_iconst (pc := 32) C 0 dX0_fillPlace_32 ki_0 ?_
  refine cV0_2 (pc := 33) C hF (fun _ _ h => r_X4_put l G b (vr_y 10 hk (by decide)) _ _ h) vm_X4_put wq76 rfl rfl ⟨Nat.le_of_ble_eq_true rfl, Nat.le_of_ble_eq_true rfl⟩ rfl rfl (fun _ h => CW.row0 h (vr_y 10 hk (by decide))) (Nat.le_of_ble_eq_true rfl) ⟨Nat.le_refl _, Nat.le_refl _⟩ dX0_fillPlace_33 (fun _ w4 hF => ?_)
  obtain ⟨-, rfl⟩ := ret_eq hF
  exact x_vret (pc := 36) C hr (fun _ h => h) dX0_fillPlace_36
set_option maxRecDepth 4000 in
theorem c_X4_get (l : Launch) (G : xG) (b : Nat) {H0 : Heap} {h a n : Nat} (hne : h ≠ a) (hab : b ≤ a) (a1 : Int32) {w w' : (Nat → Int32)} {v : Int32} (hF : F_X4_get n a1 w = some (v, w')) : xMet l G b yX4_get cX4_get 2 (some .int) (xR 0) [.ref (h), .int (a1)] (LW G H0 h a n w) (some (.int v)) (LW G H0 h a n w') 0 0 := by
  refine x_of (own := RX4) rfl (plainFor_of_name pn_X4) (Nat.le_of_ble_eq_true rfl) ?_
  intro p e s m args below meth c ha C hr _
  unfold F_X4_get at hF
  refine x_iload_n (pc := 0) C 1 dX4_get_0 rfl rfl ?_
  refine x_if_lt (pc := 1) C 22 dX4_get_1 rfl hF (fun c3 hF => ?_) (fun c3 hF => ?_)
  · refine x_iconst (pc := 22) C (-1) dX4_get_22 ki_m1 ?_
    obtain ⟨rfl, rfl⟩ := ret_eq hF
    exact x_iret (pc := 23) C hr rfl (fun _ h => h) dX4_get_23
  · refine x_iload_n (pc := 4) C 1 dX4_get_4 rfl rfl ?_
    refine x_aload_n (pc := 5) C 0 dX4_get_5 rfl rfl ?_
    refine gl_X4_9 (pc := 6) C dX4_get_6 ?_
    refine l_alen (pc := 9) C dX4_get_9 ?_
    refine x_icmp_ge (pc := 10) C 22 dX4_get_10 rfl hF (fun c2 hF => ?_) (fun c2 hF => ?_)
    · refine x_iconst (pc := 22) C (-1) dX4_get_22 ki_m1 ?_
      obtain ⟨rfl, rfl⟩ := ret_eq hF
      exact x_iret (pc := 23) C hr rfl (fun _ h => h) dX4_get_23
    · refine x_aload_n (pc := 13) C 0 dX4_get_13 rfl rfl ?_
      refine gl_X4_9 (pc := 14) C dX4_get_14 ?_
      refine x_iload_n (pc := 17) C 1 dX4_get_17 rfl rfl ?_
      refine l_ald (pc := 18) C hF dX4_get_18 (fun x1 hF => ?_)
      refine x_goto (pc := 19) C 23 dX4_get_19 rfl ?_
      obtain ⟨rfl, rfl⟩ := ret_eq hF
      exact x_iret (pc := 23) C hr rfl (fun _ h => h) dX4_get_23
theorem r_X4_get (l : Launch) (G : xG) (b : Nat) {k r : Nat} (hv : vr k r) (a1 : Int32) {w w' : xWt} {v : Int32} (hF : R_X4_get k r a1 w = some (v, w')) : xMet l G b yX4_get cX4_get 2 (some .int) (xR 0) [.ref (ro b k r), .int (a1)] (CW G b w) (some (.int v)) (CW G b w') 0 0 := by
  obtain ⟨g, h1, rfl⟩ := liftR_some hF
  exact xMet.conseq fun H h => ⟨_, _, LW.of h hv, c_X4_get l G b (ro_ne hv) ra_ge a1 h1, fun H' h' => LW.cw h hv h'⟩
set_option maxRecDepth 4000 in
theorem c_X0_isHere (l : Launch) (G : xG) (b : Nat) {k : Nat} (hk : k < 8)   (a1 : Int32) {w w' : xWt} {v : Int32} (hF : F_X0_isHere k a1 w = some (v, w')) : xMet l G b yX0_isHere cX0_isHere 2 (some .boolean) (xR 1) [.ref (chb b k), .int (a1)] (CW G b w) (some (.int v)) (CW G b w') 0 0 := by
  refine x_of (own := RX0) rfl (plainFor_of_name pn_X0) (Nat.le_of_ble_eq_true rfl) ?_
  intro p e s m args below meth c ha C hr _
  unfold F_X0_isHere at hF
  refine x_aload_n (pc := 0) C 0 dX0_isHere_0 rfl rfl ?_
  refine gf_X0_14 (pc := 1) C hk dX0_isHere_1 ?_
  refine x_iload_n (pc := 4) C 1 dX0_isHere_4 rfl rfl ?_
  refine cV1_1 (pc := 5) (val := Value.int) C hF (fun _ _ h => r_X4_get l G b (vr_y 6 hk (by decide)) _ h) vm_X4_get wq152 rfl rfl ⟨Nat.le_of_ble_eq_true rfl, Nat.le_of_ble_eq_true rfl⟩ rfl rfl (fun _ h => CW.row0 h (vr_y 6 hk (by decide))) (Nat.le_of_ble_eq_true rfl) ⟨Nat.le_refl _, Nat.le_refl _⟩ dX0_isHere_5 (fun x2 w1 hF => ?_)
  refine x_iconst (pc := 8) C 1 dX0_isHere_8 ki_1 ?_
  refine x_icmp_ne (pc := 9) C 16 dX0_isHere_9 rfl hF (fun c3 hF => ?_) (fun c3 hF => ?_)
  · refine x_iconst (pc := 16) C 0 dX0_isHere_16 ki_0 ?_
    obtain ⟨rfl, rfl⟩ := ret_eq hF
    exact x_zret (pc := 17) C rfl hr rfl (fun _ h => h) dX0_isHere_17
  · refine x_iconst (pc := 12) C 1 dX0_isHere_12 ki_1 ?_
    refine x_goto (pc := 13) C 17 dX0_isHere_13 rfl ?_
    obtain ⟨rfl, rfl⟩ := ret_eq hF
    exact x_zret (pc := 17) C rfl hr rfl (fun _ h => h) dX0_isHere_17
set_option maxRecDepth 4000 in
theorem c_X0_isInYard (l : Launch) (G : xG) (b : Nat) {k : Nat} (hk : k < 8)   (a1 : Int32) {w w' : xWt} {v : Int32} (hF : F_X0_isInYard k a1 w = some (v, w')) : xMet l G b yX0_isInYard cX0_isInYard 2 (some .boolean) (xR 1) [.ref (chb b k), .int (a1)] (CW G b w) (some (.int v)) (CW G b w') 0 0 := by
  refine x_of (own := RX0) rfl (plainFor_of_name pn_X0) (Nat.le_of_ble_eq_true rfl) ?_
  intro p e s m args below meth c ha C hr _
  unfold F_X0_isInYard at hF
  refine x_aload_n (pc := 0) C 0 dX0_isInYard_0 rfl rfl ?_
  refine gf_X0_20 (pc := 1) C hk dX0_isInYard_1 ?_
  refine x_iload_n (pc := 4) C 1 dX0_isInYard_4 rfl rfl ?_
  refine cV1_1 (pc := 5) (val := Value.int) C hF (fun _ _ h => r_X4_get l G b (vr_y 7 hk (by decide)) _ h) vm_X4_get wq152 rfl rfl ⟨Nat.le_of_ble_eq_true rfl, Nat.le_of_ble_eq_true rfl⟩ rfl rfl (fun _ h => CW.row0 h (vr_y 7 hk (by decide))) (Nat.le_of_ble_eq_true rfl) ⟨Nat.le_refl _, Nat.le_refl _⟩ dX0_isInYard_5 (fun x2 w1 hF => ?_)
  refine x_iconst (pc := 8) C (-1) dX0_isInYard_8 ki_m1 ?_
  refine x_icmp_eq (pc := 9) C 16 dX0_isInYard_9 rfl hF (fun c3 hF => ?_) (fun c3 hF => ?_)
  · refine x_iconst (pc := 16) C 0 dX0_isInYard_16 ki_0 ?_
    obtain ⟨rfl, rfl⟩ := ret_eq hF
    exact x_zret (pc := 17) C rfl hr rfl (fun _ h => h) dX0_isInYard_17
  · refine x_iconst (pc := 12) C 1 dX0_isInYard_12 ki_1 ?_
    refine x_goto (pc := 13) C 17 dX0_isInYard_13 rfl ?_
    obtain ⟨rfl, rfl⟩ := ret_eq hF
    exact x_zret (pc := 17) C rfl hr rfl (fun _ h => h) dX0_isInYard_17
set_option maxRecDepth 4000 in
theorem c_X0_leafOnHeap (l : Launch) (G : xG) (b : Nat) {k : Nat} (hk : k < 8)   (a1 : Int32) (a2 : Int32) {w w' : xWt} {v : Int32} (hF : F_X0_leafOnHeap k a1 a2 w = some (v, w')) : xMet l G b yX0_leafOnHeap cX0_leafOnHeap 4 (some .int) (xR 1) [.ref (chb b k), .int (a1), .int (a2)] (CW G b w) (some (.int v)) (CW G b w') 0 0 := by
  refine x_of (own := RX0) rfl (plainFor_of_name pn_X0) (Nat.le_of_ble_eq_true rfl) ?_
  intro p e s m args below meth c ha C hr _
  unfold F_X0_leafOnHeap at hF
  refine x_iload_n (pc := 0) C 2 dX0_leafOnHeap_0 rfl rfl ?_
  refine x_if_lt (pc := 1) C 20 dX0_leafOnHeap_1 rfl hF (fun c13 hF => ?_) (fun c13 hF => ?_)
  · refine x_iconst (pc := 20) C 0 dX0_leafOnHeap_20 ki_0 ?_
    refine x_istore_n (pc := 21) C [(3, .int (0)), (0, .ref (chb b k)), (1, .int (a1)), (2, .int (a2))] dX0_leafOnHeap_21 rfl (by decide) rfl ?_
    refine x_iload_n (pc := 22) C 0 dX0_leafOnHeap_22 rfl rfl ?_
    refine x_if_eq (pc := 23) C 42 dX0_leafOnHeap_23 rfl (cst_t (c9 := (0 : Int32) = 0) (by decide) hF) (fun c3 hF => ?_) (fun c3 _ => absurd (by decide) c3)
    refine x_iconst (pc := 42) C (-1) dX0_leafOnHeap_42 ki_m1 ?_
    obtain ⟨rfl, rfl⟩ := ret_eq hF
    exact x_iret (pc := 43) C hr rfl (fun _ h => h) dX0_leafOnHeap_43
  · refine x_iload_n (pc := 4) C 2 dX0_leafOnHeap_4 rfl rfl ?_
    refine x_aload_n (pc := 5) C 0 dX0_leafOnHeap_5 rfl rfl ?_
    refine gf_X0_32 (pc := 6) C hk dX0_leafOnHeap_6 ?_
    refine x_iload_n (pc := 9) C 1 dX0_leafOnHeap_9 rfl rfl ?_
    refine cV1_1 (pc := 10) (val := Value.int) C hF (fun _ _ h => r_X4_get l G b (vr_y 11 hk (by decide)) _ h) vm_X4_get wq152 rfl rfl ⟨Nat.le_of_ble_eq_true rfl, Nat.le_of_ble_eq_true rfl⟩ rfl rfl (fun _ h => CW.row0 h (vr_y 11 hk (by decide))) (Nat.le_of_ble_eq_true rfl) ⟨Nat.le_refl _, Nat.le_refl _⟩ dX0_leafOnHeap_10 (fun x5 w4 hF => ?_)
    refine x_icmp_ge (pc := 13) C 20 dX0_leafOnHeap_13 rfl hF (fun c12 hF => ?_) (fun c12 hF => ?_)
    · refine x_iconst (pc := 20) C 0 dX0_leafOnHeap_20 ki_0 ?_
      refine x_istore_n (pc := 21) C [(3, .int (0)), (0, .ref (chb b k)), (1, .int (a1)), (2, .int (a2))] dX0_leafOnHeap_21 rfl (by decide) rfl ?_
      refine x_iload_n (pc := 22) C 0 dX0_leafOnHeap_22 rfl rfl ?_
      refine x_if_eq (pc := 23) C 42 dX0_leafOnHeap_23 rfl (cst_t (c9 := (0 : Int32) = 0) (by decide) hF) (fun c8 hF => ?_) (fun c8 _ => absurd (by decide) c8)
      refine x_iconst (pc := 42) C (-1) dX0_leafOnHeap_42 ki_m1 ?_
      obtain ⟨rfl, rfl⟩ := ret_eq hF
      exact x_iret (pc := 43) C hr rfl (fun _ h => h) dX0_leafOnHeap_43
    · refine x_iconst (pc := 16) C 1 dX0_leafOnHeap_16 ki_1 ?_
      refine x_goto (pc := 17) C 21 dX0_leafOnHeap_17 rfl ?_
      refine x_istore_n (pc := 21) C [(3, .int (1)), (0, .ref (chb b k)), (1, .int (a1)), (2, .int (a2))] dX0_leafOnHeap_21 rfl (by decide) rfl ?_
      refine x_iload_n (pc := 22) C 0 dX0_leafOnHeap_22 rfl rfl ?_
      refine x_if_eq (pc := 23) C 42 dX0_leafOnHeap_23 rfl (cst_f (c9 := (1 : Int32) = 0) (by decide) hF) (fun c11 _ => absurd c11 (by decide)) (fun c11 hF => ?_)
      refine x_aload_n (pc := 26) C 1 dX0_leafOnHeap_26 rfl rfl ?_
      refine gf_X0_35 (pc := 27) C hk dX0_leafOnHeap_27 ?_
      refine x_iload_n (pc := 30) C 2 dX0_leafOnHeap_30 rfl rfl ?_
      refine x_bipush (pc := 31) C 120 dX0_leafOnHeap_31 kb_120 ?_
      refine x_imul (pc := 33) C dX0_leafOnHeap_33 ?_
      refine x_iload_n (pc := 34) C 3 dX0_leafOnHeap_34 rfl rfl ?_
      refine x_iadd (pc := 35) C dX0_leafOnHeap_35 ?_
      refine cV1_1 (pc := 36) (val := Value.int) C hF (fun _ _ h => r_X4_get l G b (vr_y 12 hk (by decide)) _ h) vm_X4_get wq152 rfl rfl ⟨Nat.le_of_ble_eq_true rfl, Nat.le_of_ble_eq_true rfl⟩ rfl rfl (fun _ h => CW.row0 h (vr_y 12 hk (by decide))) (Nat.le_of_ble_eq_true rfl) ⟨Nat.le_refl _, Nat.le_refl _⟩ dX0_leafOnHeap_36 (fun x10 w9 hF => ?_)
      refine x_goto (pc := 39) C 43 dX0_leafOnHeap_39 rfl ?_
      obtain ⟨rfl, rfl⟩ := ret_eq hF
      exact x_iret (pc := 43) C hr rfl (fun _ h => h) dX0_leafOnHeap_43
set_option maxRecDepth 4000 in
theorem s_X0_lowestBesides_2 (C : xC p m c s args meth G b cX0_lowestBesides 3 RX0) {k : Nat} (hk : k < 8) {vv : Option Value} {Pf : Heap → Prop} (hr : meth.sig.returnType = (some .int)) : ∀ (n9 : Nat) (l1 : Int32) (l2 : Int32) (w : xWt) (o : ((Int32) ⊕ Int32)) (w' : xWt), L_X0_lowestBesides_2 k n9 l1 l2 w = some (o, w') → (∀ x : Int32, o = .inl x → xW p l e (xR 2) s m args below meth c (MQ below (xQ b vv Pf) args s 0 0 (xA b)) b 3 (CW G b w') 0 0 28 [(0, .ref (chb b k)), (1, .int (l1)), (2, .int (x))] []) → (∀ x : Int32, o = .inr x → some (.int x) = vv ∧ ∀ H, (CW G b w') H → Pf H) → xW p l e (xR 2) s m args below meth c (MQ below (xQ b vv Pf) args s 0 0 (xA b)) b 3 (CW G b w) 0 0 2 [(0, .ref (chb b k)), (1, .int (l1)), (2, .int (l2))] [] := by
  intro n9
  induction n9 with
  | zero => intro l1 l2 w o w' hF; exact none_ne (show none = some _ from hF)
  | succ n9 ih =>
    intro l1 l2 w o w' hF kx kr
    replace hF : B_X0_lowestBesides_2 k (L_X0_lowestBesides_2 k n9) l1 l2 w = some (o, w') := hF
    unfold B_X0_lowestBesides_2 at hF
    refine x_iload_n (pc := 2) C 2 dX0_lowestBesides_2 rfl rfl ?_
    refine x_iconst (pc := 3) C 5 dX0_lowestBesides_3 ki_5 ?_
    refine x_icmp_ge (pc := 4) C 28 dX0_lowestBesides_4 rfl hF (fun c5 hF => ?_) (fun c5 hF => ?_)
    · obtain ⟨rfl, rfl⟩ := ret_eq hF
      exact x_sub [0, 1, 2] rfl (kx _ rfl)
    · refine x_iload_n (pc := 7) C 2 dX0_lowestBesides_7 rfl rfl ?_
      refine x_iload_n (pc := 8) C 1 dX0_lowestBesides_8 rfl rfl ?_
      refine x_icmp_eq (pc := 9) C 22 dX0_lowestBesides_9 rfl hF (fun c4 hF => ?_) (fun c4 hF => ?_)
      · refine x_iinc (pc := 22) C 2 [(2, .int ((l2 + 1))), (0, .ref (chb b k)), (1, .int (l1))] dX0_lowestBesides_22 rfl rfl (by decide) rfl ?_
        refine x_goto (pc := 25) C 2 dX0_lowestBesides_25 rfl ?_
        exact x_sub [1, 2, 0] rfl (ih _ _ _ _ _ hF kx kr)
      · refine x_aload_n (pc := 12) C 0 dX0_lowestBesides_12 rfl rfl ?_
        refine x_iload_n (pc := 13) C 2 dX0_lowestBesides_13 rfl rfl ?_
        refine cV1_1 (pc := 14) (val := Value.int) C hF (fun _ _ h => c_X0_isHere l G b hk _ h) vm_X0_isHere wq148 rfl rfl ⟨Nat.le_of_ble_eq_true rfl, Nat.le_of_ble_eq_true rfl⟩ rfl rfl (fun _ h => CW.ch h hk) (Nat.le_of_ble_eq_true rfl) ⟨Nat.le_refl _, Nat.le_refl _⟩ dX0_lowestBesides_14 (fun x2 w1 hF => ?_)
        refine x_if_eq (pc := 17) C 22 dX0_lowestBesides_17 rfl hF (fun c3 hF => ?_) (fun c3 hF => ?_)
        · refine x_iinc (pc := 22) C 2 [(2, .int ((l2 + 1))), (0, .ref (chb b k)), (1, .int (l1))] dX0_lowestBesides_22 rfl rfl (by decide) rfl ?_
          refine x_goto (pc := 25) C 2 dX0_lowestBesides_25 rfl ?_
          exact x_sub [1, 2, 0] rfl (ih _ _ _ _ _ hF kx kr)
        · refine x_iload_n (pc := 20) C 2 dX0_lowestBesides_20 rfl rfl ?_
          obtain ⟨rfl, rfl⟩ := ret_eq hF
          obtain ⟨hv9, hP9⟩ := kr _ rfl
          exact x_iret (pc := 21) C hr hv9 hP9 dX0_lowestBesides_21
set_option maxRecDepth 4000 in
theorem c_X0_lowestBesides (l : Launch) (G : xG) (b : Nat) {k : Nat} (hk : k < 8)   (a1 : Int32) {w w' : xWt} {v : Int32} (hF : F_X0_lowestBesides k a1 w = some (v, w')) : xMet l G b yX0_lowestBesides cX0_lowestBesides 3 (some .int) (xR 2) [.ref (chb b k), .int (a1)] (CW G b w) (some (.int v)) (CW G b w') 0 0 := by
  refine x_of (own := RX0) rfl (plainFor_of_name pn_X0) (Nat.le_of_ble_eq_true rfl) ?_
  intro p e s m args below meth c ha C hr _
  unfold F_X0_lowestBesides at hF
  refine x_iconst (pc := 0) C 0 dX0_lowestBesides_0 ki_0 ?_
  refine x_istore_n (pc := 1) C [(2, .int (0)), (0, .ref (chb b k)), (1, .int (a1))] dX0_lowestBesides_1 rfl (by decide) rfl ?_
  obtain ⟨o6, w7, hL, hF⟩ := bd_some hF
  refine x_sub [1, 2, 0] rfl (s_X0_lowestBesides_2 C hk hr _ _ _ _ _ _ hL (fun x8 he => ?_) (fun y9 he => ?_))
  · subst he
    replace hF := sm_inl hF
    refine x_iconst (pc := 28) C (-1) dX0_lowestBesides_28 ki_m1 ?_
    obtain ⟨rfl, rfl⟩ := ret_eq hF
    exact x_iret (pc := 29) C hr rfl (fun _ h => h) dX0_lowestBesides_29
  · subst he
    obtain ⟨rfl, rfl⟩ := ret_eq hF
    exact ⟨rfl, fun _ h => h⟩
set_option maxRecDepth 4000 in
theorem s_X0_lowestFree_2 (C : xC p m c s args meth G b cX0_lowestFree 2 RX0) {k : Nat} (hk : k < 8) {vv : Option Value} {Pf : Heap → Prop} (hr : meth.sig.returnType = (some .int)) : ∀ (n9 : Nat) (l1 : Int32) (w : xWt) (o : ((Int32) ⊕ Int32)) (w' : xWt), L_X0_lowestFree_2 k n9 l1 w = some (o, w') → (∀ x : Int32, o = .inl x → xW p l e (xR 2) s m args below meth c (MQ below (xQ b vv Pf) args s 0 0 (xA b)) b 2 (CW G b w') 0 0 23 [(0, .ref (chb b k)), (1, .int (x))] []) → (∀ x : Int32, o = .inr x → some (.int x) = vv ∧ ∀ H, (CW G b w') H → Pf H) → xW p l e (xR 2) s m args below meth c (MQ below (xQ b vv Pf) args s 0 0 (xA b)) b 2 (CW G b w) 0 0 2 [(0, .ref (chb b k)), (1, .int (l1))] [] := by
  intro n9
  induction n9 with
  | zero => intro l1 w o w' hF; exact none_ne (show none = some _ from hF)
  | succ n9 ih =>
    intro l1 w o w' hF kx kr
    replace hF : B_X0_lowestFree_2 k (L_X0_lowestFree_2 k n9) l1 w = some (o, w') := hF
    unfold B_X0_lowestFree_2 at hF
    refine x_iload_n (pc := 2) C 1 dX0_lowestFree_2 rfl rfl ?_
    refine x_iconst (pc := 3) C 5 dX0_lowestFree_3 ki_5 ?_
    refine x_icmp_ge (pc := 4) C 23 dX0_lowestFree_4 rfl hF (fun c4 hF => ?_) (fun c4 hF => ?_)
    · obtain ⟨rfl, rfl⟩ := ret_eq hF
      exact x_sub [0, 1] rfl (kx _ rfl)
    · refine x_aload_n (pc := 7) C 0 dX0_lowestFree_7 rfl rfl ?_
      refine x_iload_n (pc := 8) C 1 dX0_lowestFree_8 rfl rfl ?_
      refine cV1_1 (pc := 9) (val := Value.int) C hF (fun _ _ h => c_X0_isHere l G b hk _ h) vm_X0_isHere wq148 rfl rfl ⟨Nat.le_of_ble_eq_true rfl, Nat.le_of_ble_eq_true rfl⟩ rfl rfl (fun _ h => CW.ch h hk) (Nat.le_of_ble_eq_true rfl) ⟨Nat.le_refl _, Nat.le_refl _⟩ dX0_lowestFree_9 (fun x2 w1 hF => ?_)
      refine x_if_ne (pc := 12) C 17 dX0_lowestFree_12 rfl hF (fun c3 hF => ?_) (fun c3 hF => ?_)
      · refine x_iinc (pc := 17) C 1 [(1, .int ((l1 + 1))), (0, .ref (chb b k))] dX0_lowestFree_17 rfl rfl (by decide) rfl ?_
        refine x_goto (pc := 20) C 2 dX0_lowestFree_20 rfl ?_
        exact x_sub [1, 0] rfl (ih _ _ _ _ hF kx kr)
      · refine x_iload_n (pc := 15) C 1 dX0_lowestFree_15 rfl rfl ?_
        obtain ⟨rfl, rfl⟩ := ret_eq hF
        obtain ⟨hv9, hP9⟩ := kr _ rfl
        exact x_iret (pc := 16) C hr hv9 hP9 dX0_lowestFree_16
set_option maxRecDepth 4000 in
theorem c_X0_lowestFree (l : Launch) (G : xG) (b : Nat) {k : Nat} (hk : k < 8)    {w w' : xWt} {v : Int32} (hF : F_X0_lowestFree k w = some (v, w')) : xMet l G b yX0_lowestFree cX0_lowestFree 2 (some .int) (xR 2) [.ref (chb b k)] (CW G b w) (some (.int v)) (CW G b w') 0 0 := by
  refine x_of (own := RX0) rfl (plainFor_of_name pn_X0) (Nat.le_of_ble_eq_true rfl) ?_
  intro p e s m args below meth c ha C hr _
  unfold F_X0_lowestFree at hF
  refine x_iconst (pc := 0) C 0 dX0_lowestFree_0 ki_0 ?_
  refine x_istore_n (pc := 1) C [(1, .int (0)), (0, .ref (chb b k))] dX0_lowestFree_1 rfl (by decide) rfl ?_
  obtain ⟨o5, w6, hL, hF⟩ := bd_some hF
  refine x_sub [1, 0] rfl (s_X0_lowestFree_2 C hk hr _ _ _ _ _ hL (fun x7 he => ?_) (fun y8 he => ?_))
  · subst he
    replace hF := sm_inl hF
    refine x_iconst (pc := 23) C (-1) dX0_lowestFree_23 ki_m1 ?_
    obtain ⟨rfl, rfl⟩ := ret_eq hF
    exact x_iret (pc := 24) C hr rfl (fun _ h => h) dX0_lowestFree_24
  · subst he
    obtain ⟨rfl, rfl⟩ := ret_eq hF
    exact ⟨rfl, fun _ h => h⟩
set_option maxRecDepth 4000 in
theorem s_X0_mask_4 (C : xC p m c s args meth G b cX0_mask 3 RX0) {k : Nat} (hk : k < 8)  : ∀ (n9 : Nat) (l1 : Int32) (l2 : Int32) (w : xWt) (o : (Int32 × Int32)) (w' : xWt), L_X0_mask_4 k n9 l1 l2 w = some (o, w') → xW p l e (xR 2) s m args below meth c Q b 3 (CW G b w') 0 0 33 [(0, .ref (chb b k)), (1, .int (o.1)), (2, .int (o.2))] [] → xW p l e (xR 2) s m args below meth c Q b 3 (CW G b w) 0 0 4 [(0, .ref (chb b k)), (1, .int (l1)), (2, .int (l2))] [] := by
  intro n9
  induction n9 with
  | zero => intro l1 l2 w o w' hF; exact none_ne (show none = some _ from hF)
  | succ n9 ih =>
    intro l1 l2 w o w' hF kx
    replace hF : B_X0_mask_4 k (L_X0_mask_4 k n9) l1 l2 w = some (o, w') := hF
    unfold B_X0_mask_4 at hF
    refine x_iload_n (pc := 4) C 2 dX0_mask_4 rfl rfl ?_
    refine x_iconst (pc := 5) C 5 dX0_mask_5 ki_5 ?_
    refine x_icmp_ge (pc := 6) C 33 dX0_mask_6 rfl hF (fun c4 hF => ?_) (fun c4 hF => ?_)
    · obtain ⟨rfl, rfl⟩ := ret_eq hF
      exact x_sub [0, 1, 2] rfl kx
    · refine x_iload_n (pc := 9) C 1 dX0_mask_9 rfl rfl ?_
      refine x_aload_n (pc := 10) C 0 dX0_mask_10 rfl rfl ?_
      refine x_iload_n (pc := 11) C 2 dX0_mask_11 rfl rfl ?_
      refine cV1_1 (pc := 12) (val := Value.int) C hF (fun _ _ h => c_X0_isHere l G b hk _ h) vm_X0_isHere wq148 rfl rfl ⟨Nat.le_of_ble_eq_true rfl, Nat.le_of_ble_eq_true rfl⟩ rfl rfl (fun _ h => CW.ch h hk) (Nat.le_of_ble_eq_true rfl) ⟨Nat.le_refl _, Nat.le_refl _⟩ dX0_mask_12 (fun x2 w1 hF => ?_)
      refine x_if_eq (pc := 15) C 24 dX0_mask_15 rfl hF (fun c3 hF => ?_) (fun c3 hF => ?_)
      · refine x_iconst (pc := 24) C 0 dX0_mask_24 ki_0 ?_
        refine x_ior (pc := 25) C dX0_mask_25 ?_
        refine x_istore_n (pc := 26) C [(1, .int ((l1 ||| 0))), (0, .ref (chb b k)), (2, .int (l2))] dX0_mask_26 rfl (by decide) rfl ?_
        refine x_iinc (pc := 27) C 2 [(2, .int ((l2 + 1))), (1, .int ((l1 ||| 0))), (0, .ref (chb b k))] dX0_mask_27 rfl rfl (by decide) rfl ?_
        refine x_goto (pc := 30) C 4 dX0_mask_30 rfl ?_
        exact x_sub [2, 1, 0] rfl (ih _ _ _ _ _ hF kx)
      · refine x_iconst (pc := 18) C 1 dX0_mask_18 ki_1 ?_
        refine x_iload_n (pc := 19) C 2 dX0_mask_19 rfl rfl ?_
        refine x_ishl (pc := 20) C dX0_mask_20 ?_
        refine x_goto (pc := 21) C 25 dX0_mask_21 rfl ?_
        refine x_ior (pc := 25) C dX0_mask_25 ?_
        refine x_istore_n (pc := 26) C [(1, .int ((l1 ||| (1 <<< (l2 &&& 31))))), (0, .ref (chb b k)), (2, .int (l2))] dX0_mask_26 rfl (by decide) rfl ?_
        refine x_iinc (pc := 27) C 2 [(2, .int ((l2 + 1))), (1, .int ((l1 ||| (1 <<< (l2 &&& 31))))), (0, .ref (chb b k))] dX0_mask_27 rfl rfl (by decide) rfl ?_
        refine x_goto (pc := 30) C 4 dX0_mask_30 rfl ?_
        exact x_sub [2, 1, 0] rfl (ih _ _ _ _ _ hF kx)
set_option maxRecDepth 4000 in
theorem c_X0_mask (l : Launch) (G : xG) (b : Nat) {k : Nat} (hk : k < 8)    {w w' : xWt} {v : Int32} (hF : F_X0_mask k w = some (v, w')) : xMet l G b yX0_mask cX0_mask 3 (some .int) (xR 2) [.ref (chb b k)] (CW G b w) (some (.int v)) (CW G b w') 0 0 := by
  refine x_of (own := RX0) rfl (plainFor_of_name pn_X0) (Nat.le_of_ble_eq_true rfl) ?_
  intro p e s m args below meth c ha C hr _
  unfold F_X0_mask at hF
  refine x_iconst (pc := 0) C 0 dX0_mask_0 ki_0 ?_
  refine x_istore_n (pc := 1) C [(1, .int (0)), (0, .ref (chb b k))] dX0_mask_1 rfl (by decide) rfl ?_
  refine x_iconst (pc := 2) C 0 dX0_mask_2 ki_0 ?_
  refine x_istore_n (pc := 3) C [(2, .int (0)), (1, .int (0)), (0, .ref (chb b k))] dX0_mask_3 rfl (by decide) rfl ?_
  obtain ⟨o5, w6, hL, hF⟩ := bd_some hF
  refine x_sub [2, 1, 0] rfl (s_X0_mask_4 C hk _ _ _ _ _ _ hL ?_)
  refine x_iload_n (pc := 33) C 1 dX0_mask_33 rfl rfl ?_
  obtain ⟨rfl, rfl⟩ := ret_eq hF
  exact x_iret (pc := 34) C hr rfl (fun _ h => h) dX0_mask_34
set_option maxRecDepth 4000 in
theorem s_X0_maskOfLate_4 (C : xC p m c s args meth G b cX0_maskOfLate 4 RX0) {k : Nat} (hk : k < 8)  : ∀ (n9 : Nat) (l1 : Int32) (l2 : Int32) (l3 : Int32) (w : xWt) (o : (Int32 × Int32)) (w' : xWt), L_X0_maskOfLate_4 k n9 l1 l2 l3 w = some (o, w') → xW p l e (xR 2) s m args below meth c Q b 4 (CW G b w') 0 0 45 [(0, .ref (chb b k)), (1, .int (l1)), (2, .int (o.1)), (3, .int (o.2))] [] → xW p l e (xR 2) s m args below meth c Q b 4 (CW G b w) 0 0 4 [(0, .ref (chb b k)), (1, .int (l1)), (2, .int (l2)), (3, .int (l3))] [] := by
  intro n9
  induction n9 with
  | zero => intro l1 l2 l3 w o w' hF; exact none_ne (show none = some _ from hF)
  | succ n9 ih =>
    intro l1 l2 l3 w o w' hF kx
    replace hF : B_X0_maskOfLate_4 k (L_X0_maskOfLate_4 k n9) l1 l2 l3 w = some (o, w') := hF
    unfold B_X0_maskOfLate_4 at hF
    refine x_iload_n (pc := 4) C 3 dX0_maskOfLate_4 rfl rfl ?_
    refine x_iconst (pc := 5) C 5 dX0_maskOfLate_5 ki_5 ?_
    refine x_icmp_ge (pc := 6) C 45 dX0_maskOfLate_6 rfl hF (fun c7 hF => ?_) (fun c7 hF => ?_)
    · obtain ⟨rfl, rfl⟩ := ret_eq hF
      exact x_sub [0, 1, 2, 3] rfl kx
    · refine x_iload_n (pc := 9) C 2 dX0_maskOfLate_9 rfl rfl ?_
      refine x_aload_n (pc := 10) C 0 dX0_maskOfLate_10 rfl rfl ?_
      refine x_iload_n (pc := 11) C 3 dX0_maskOfLate_11 rfl rfl ?_
      refine cV1_1 (pc := 12) (val := Value.int) C hF (fun _ _ h => c_X0_isInYard l G b hk _ h) vm_X0_isInYard wq209 rfl rfl ⟨Nat.le_of_ble_eq_true rfl, Nat.le_of_ble_eq_true rfl⟩ rfl rfl (fun _ h => CW.ch h hk) (Nat.le_of_ble_eq_true rfl) ⟨Nat.le_refl _, Nat.le_refl _⟩ dX0_maskOfLate_12 (fun x2 w1 hF => ?_)
      refine x_if_eq (pc := 15) C 36 dX0_maskOfLate_15 rfl hF (fun c6 hF => ?_) (fun c6 hF => ?_)
      · refine x_iconst (pc := 36) C 0 dX0_maskOfLate_36 ki_0 ?_
        refine x_ior (pc := 37) C dX0_maskOfLate_37 ?_
        refine x_istore_n (pc := 38) C [(2, .int ((l2 ||| 0))), (0, .ref (chb b k)), (1, .int (l1)), (3, .int (l3))] dX0_maskOfLate_38 rfl (by decide) rfl ?_
        refine x_iinc (pc := 39) C 3 [(3, .int ((l3 + 1))), (2, .int ((l2 ||| 0))), (0, .ref (chb b k)), (1, .int (l1))] dX0_maskOfLate_39 rfl rfl (by decide) rfl ?_
        refine x_goto (pc := 42) C 4 dX0_maskOfLate_42 rfl ?_
        exact x_sub [2, 3, 1, 0] rfl (ih _ _ _ _ _ _ hF kx)
      · refine x_aload_n (pc := 18) C 0 dX0_maskOfLate_18 rfl rfl ?_
        refine gf_X0_20 (pc := 19) C hk dX0_maskOfLate_19 ?_
        refine x_iload_n (pc := 22) C 3 dX0_maskOfLate_22 rfl rfl ?_
        refine cV1_1 (pc := 23) (val := Value.int) C hF (fun _ _ h => r_X4_get l G b (vr_y 7 hk (by decide)) _ h) vm_X4_get wq152 rfl rfl ⟨Nat.le_of_ble_eq_true rfl, Nat.le_of_ble_eq_true rfl⟩ rfl rfl (fun _ h => CW.row0 h (vr_y 7 hk (by decide))) (Nat.le_of_ble_eq_true rfl) ⟨Nat.le_refl _, Nat.le_refl _⟩ dX0_maskOfLate_23 (fun x4 w3 hF => ?_)
        refine x_iload_n (pc := 26) C 1 dX0_maskOfLate_26 rfl rfl ?_
        refine x_icmp_eq (pc := 27) C 36 dX0_maskOfLate_27 rfl hF (fun c5 hF => ?_) (fun c5 hF => ?_)
        · refine x_iconst (pc := 36) C 0 dX0_maskOfLate_36 ki_0 ?_
          refine x_ior (pc := 37) C dX0_maskOfLate_37 ?_
          refine x_istore_n (pc := 38) C [(2, .int ((l2 ||| 0))), (0, .ref (chb b k)), (1, .int (l1)), (3, .int (l3))] dX0_maskOfLate_38 rfl (by decide) rfl ?_
          refine x_iinc (pc := 39) C 3 [(3, .int ((l3 + 1))), (2, .int ((l2 ||| 0))), (0, .ref (chb b k)), (1, .int (l1))] dX0_maskOfLate_39 rfl rfl (by decide) rfl ?_
          refine x_goto (pc := 42) C 4 dX0_maskOfLate_42 rfl ?_
          exact x_sub [2, 3, 1, 0] rfl (ih _ _ _ _ _ _ hF kx)
        · refine x_iconst (pc := 30) C 1 dX0_maskOfLate_30 ki_1 ?_
          refine x_iload_n (pc := 31) C 3 dX0_maskOfLate_31 rfl rfl ?_
          refine x_ishl (pc := 32) C dX0_maskOfLate_32 ?_
          refine x_goto (pc := 33) C 37 dX0_maskOfLate_33 rfl ?_
          refine x_ior (pc := 37) C dX0_maskOfLate_37 ?_
          refine x_istore_n (pc := 38) C [(2, .int ((l2 ||| (1 <<< (l3 &&& 31))))), (0, .ref (chb b k)), (1, .int (l1)), (3, .int (l3))] dX0_maskOfLate_38 rfl (by decide) rfl ?_
          refine x_iinc (pc := 39) C 3 [(3, .int ((l3 + 1))), (2, .int ((l2 ||| (1 <<< (l3 &&& 31))))), (0, .ref (chb b k)), (1, .int (l1))] dX0_maskOfLate_39 rfl rfl (by decide) rfl ?_
          refine x_goto (pc := 42) C 4 dX0_maskOfLate_42 rfl ?_
          exact x_sub [2, 3, 1, 0] rfl (ih _ _ _ _ _ _ hF kx)
set_option maxRecDepth 4000 in
theorem c_X0_maskOfLate (l : Launch) (G : xG) (b : Nat) {k : Nat} (hk : k < 8)   (a1 : Int32) {w w' : xWt} {v : Int32} (hF : F_X0_maskOfLate k a1 w = some (v, w')) : xMet l G b yX0_maskOfLate cX0_maskOfLate 4 (some .int) (xR 2) [.ref (chb b k), .int (a1)] (CW G b w) (some (.int v)) (CW G b w') 0 0 := by
  refine x_of (own := RX0) rfl (plainFor_of_name pn_X0) (Nat.le_of_ble_eq_true rfl) ?_
  intro p e s m args below meth c ha C hr _
  unfold F_X0_maskOfLate at hF
  refine x_iconst (pc := 0) C 0 dX0_maskOfLate_0 ki_0 ?_
  refine x_istore_n (pc := 1) C [(2, .int (0)), (0, .ref (chb b k)), (1, .int (a1))] dX0_maskOfLate_1 rfl (by decide) rfl ?_
  refine x_iconst (pc := 2) C 0 dX0_maskOfLate_2 ki_0 ?_
  refine x_istore_n (pc := 3) C [(3, .int (0)), (2, .int (0)), (0, .ref (chb b k)), (1, .int (a1))] dX0_maskOfLate_3 rfl (by decide) rfl ?_
  obtain ⟨o8, w9, hL, hF⟩ := bd_some hF
  refine x_sub [2, 3, 1, 0] rfl (s_X0_maskOfLate_4 C hk _ _ _ _ _ _ _ hL ?_)
  refine x_iload_n (pc := 45) C 2 dX0_maskOfLate_45 rfl rfl ?_
  obtain ⟨rfl, rfl⟩ := ret_eq hF
  exact x_iret (pc := 46) C hr rfl (fun _ h => h) dX0_maskOfLate_46
set_option maxRecDepth 4000 in
theorem s_X4_number_14 (C : xC p m c s args meth G b cX4_number 6 RX4) {H0 : Heap} {h a n : Nat} (hne : h ≠ a) (hab : b ≤ a)  : ∀ (n9 : Nat) (l1 : Int32) (l2 : Int32) (l3 : Int32) (l4 : Int32) (l5 : Int32) (w : (Nat → Int32)) (o : (Int32 × Int32)) (w' : (Nat → Int32)), L_X4_number_14 n n9 l1 l2 l3 l4 l5 w = some (o, w') → xW p l e (xR 0) s m args below meth c Q b 6 (LW G H0 h a n w') 0 0 57 [(0, .ref (h)), (1, .int (l1)), (2, .int (l2)), (3, .int (l3)), (4, .int (o.1)), (5, .int (o.2))] [] → xW p l e (xR 0) s m args below meth c Q b 6 (LW G H0 h a n w) 0 0 14 [(0, .ref (h)), (1, .int (l1)), (2, .int (l2)), (3, .int (l3)), (4, .int (l4)), (5, .int (l5))] [] := by
  intro n9
  induction n9 with
  | zero => intro l1 l2 l3 l4 l5 w o w' hF; exact none_ne (show none = some _ from hF)
  | succ n9 ih =>
    intro l1 l2 l3 l4 l5 w o w' hF kx
    replace hF : B_X4_number_14 n (L_X4_number_14 n n9) l1 l2 l3 l4 l5 w = some (o, w') := hF
    unfold B_X4_number_14 at hF
    refine x_iload (pc := 14) C 5 dX4_number_14 rfl ?_
    refine x_iload_n (pc := 16) C 3 dX4_number_16 rfl rfl ?_
    refine x_icmp_ge (pc := 17) C 57 dX4_number_17 rfl hF (fun c4 hF => ?_) (fun c4 hF => ?_)
    · obtain ⟨rfl, rfl⟩ := ret_eq hF
      exact x_sub [0, 1, 2, 3, 4, 5] rfl kx
    · refine x_iload (pc := 20) C 5 dX4_number_20 rfl ?_
      refine x_aload_n (pc := 22) C 0 dX4_number_22 rfl rfl ?_
      refine gl_X4_9 (pc := 23) C dX4_number_23 ?_
      refine l_alen (pc := 26) C dX4_number_26 ?_
      refine x_icmp_ge (pc := 27) C 57 dX4_number_27 rfl hF (fun c3 hF => ?_) (fun c3 hF => ?_)
      · obtain ⟨rfl, rfl⟩ := ret_eq hF
        exact x_sub [0, 1, 2, 3, 4, 5] rfl kx
      · refine x_iload (pc := 30) C 4 dX4_number_30 rfl ?_
        refine x_aload_n (pc := 32) C 0 dX4_number_32 rfl rfl ?_
        refine gl_X4_9 (pc := 33) C dX4_number_33 ?_
        refine x_iload (pc := 36) C 5 dX4_number_36 rfl ?_
        refine l_ald (pc := 38) C hF dX4_number_38 (fun x1 hF => ?_)
        refine x_iload_n (pc := 39) C 1 dX4_number_39 rfl rfl ?_
        refine x_icmp_ne (pc := 40) C 47 dX4_number_40 rfl hF (fun c2 hF => ?_) (fun c2 hF => ?_)
        · refine x_iconst (pc := 47) C 0 dX4_number_47 ki_0 ?_
          refine x_iadd (pc := 48) C dX4_number_48 ?_
          refine x_istore (pc := 49) C [(4, .int ((l4 + 0))), (0, .ref (h)), (1, .int (l1)), (2, .int (l2)), (3, .int (l3)), (5, .int (l5))] dX4_number_49 (by decide) rfl ?_
          refine x_iinc (pc := 51) C 5 [(5, .int ((l5 + 1))), (4, .int ((l4 + 0))), (0, .ref (h)), (1, .int (l1)), (2, .int (l2)), (3, .int (l3))] dX4_number_51 rfl rfl (by decide) rfl ?_
          refine x_goto (pc := 54) C 14 dX4_number_54 rfl ?_
          exact x_sub [2, 3, 4, 5, 1, 0] rfl (ih _ _ _ _ _ _ _ _ hF kx)
        · refine x_iconst (pc := 43) C 1 dX4_number_43 ki_1 ?_
          refine x_goto (pc := 44) C 48 dX4_number_44 rfl ?_
          refine x_iadd (pc := 48) C dX4_number_48 ?_
          refine x_istore (pc := 49) C [(4, .int ((l4 + 1))), (0, .ref (h)), (1, .int (l1)), (2, .int (l2)), (3, .int (l3)), (5, .int (l5))] dX4_number_49 (by decide) rfl ?_
          refine x_iinc (pc := 51) C 5 [(5, .int ((l5 + 1))), (4, .int ((l4 + 1))), (0, .ref (h)), (1, .int (l1)), (2, .int (l2)), (3, .int (l3))] dX4_number_51 rfl rfl (by decide) rfl ?_
          refine x_goto (pc := 54) C 14 dX4_number_54 rfl ?_
          exact x_sub [2, 3, 4, 5, 1, 0] rfl (ih _ _ _ _ _ _ _ _ hF kx)
set_option maxRecDepth 4000 in
theorem c_X4_number (l : Launch) (G : xG) (b : Nat) {H0 : Heap} {h a n : Nat} (hne : h ≠ a) (hab : b ≤ a) (a1 : Int32) (a2 : Int32) (a3 : Int32) {w w' : (Nat → Int32)} {v : Int32} (hF : F_X4_number n a1 a2 a3 w = some (v, w')) : xMet l G b yX4_number cX4_number 6 (some .int) (xR 0) [.ref (h), .int (a1), .int (a2), .int (a3)] (LW G H0 h a n w) (some (.int v)) (LW G H0 h a n w') 0 0 := by
  refine x_of (own := RX4) rfl (plainFor_of_name pn_X4) (Nat.le_of_ble_eq_true rfl) ?_
  intro p e s m args below meth c ha C hr _
  unfold F_X4_number at hF
  refine x_iconst (pc := 0) C 0 dX4_number_0 ki_0 ?_
  refine x_istore (pc := 1) C [(4, .int (0)), (0, .ref (h)), (1, .int (a1)), (2, .int (a2)), (3, .int (a3))] dX4_number_1 (by decide) rfl ?_
  refine x_iload_n (pc := 3) C 3 dX4_number_3 rfl rfl ?_
  refine x_if_ge (pc := 4) C 11 dX4_number_4 rfl hF (fun c9 hF => ?_) (fun c9 hF => ?_)
  · refine x_iload_n (pc := 11) C 3 dX4_number_11 rfl rfl ?_
    refine x_istore (pc := 12) C [(5, .int (a2)), (4, .int (0)), (0, .ref (h)), (1, .int (a1)), (2, .int (a2)), (3, .int (a3))] dX4_number_12 (by decide) rfl ?_
    obtain ⟨o5, w6, hL, hF⟩ := lbd_some hF
    refine x_sub [2, 3, 4, 5, 1, 0] rfl (s_X4_number_14 C hne hab _ _ _ _ _ _ _ _ _ hL ?_)
    refine x_iload (pc := 57) C 4 dX4_number_57 rfl ?_
    obtain ⟨rfl, rfl⟩ := ret_eq hF
    exact x_iret (pc := 59) C hr rfl (fun _ h => h) dX4_number_59
  · refine x_iconst (pc := 7) C 0 dX4_number_7 ki_0 ?_
    refine x_goto (pc := 8) C 12 dX4_number_8 rfl ?_
    refine x_istore (pc := 12) C [(5, .int (0)), (4, .int (0)), (0, .ref (h)), (1, .int (a1)), (2, .int (a2)), (3, .int (a3))] dX4_number_12 (by decide) rfl ?_
    obtain ⟨o7, w8, hL, hF⟩ := lbd_some hF
    refine x_sub [2, 3, 4, 5, 1, 0] rfl (s_X4_number_14 C hne hab _ _ _ _ _ _ _ _ _ hL ?_)
    refine x_iload (pc := 57) C 4 dX4_number_57 rfl ?_
    obtain ⟨rfl, rfl⟩ := ret_eq hF
    exact x_iret (pc := 59) C hr rfl (fun _ h => h) dX4_number_59
theorem r_X4_number (l : Launch) (G : xG) (b : Nat) {k r : Nat} (hv : vr k r) (a1 : Int32) (a2 : Int32) (a3 : Int32) {w w' : xWt} {v : Int32} (hF : R_X4_number k r a1 a2 a3 w = some (v, w')) : xMet l G b yX4_number cX4_number 6 (some .int) (xR 0) [.ref (ro b k r), .int (a1), .int (a2), .int (a3)] (CW G b w) (some (.int v)) (CW G b w') 0 0 := by
  obtain ⟨g, h1, rfl⟩ := liftR_some hF
  exact xMet.conseq fun H h => ⟨_, _, LW.of h hv, c_X4_number l G b (ro_ne hv) ra_ge a1 a2 a3 h1, fun H' h' => LW.cw h hv h'⟩
set_option maxRecDepth 4000 in
theorem c_X0_number (l : Launch) (G : xG) (b : Nat) {k : Nat} (hk : k < 8)    {w w' : xWt} {v : Int32} (hF : F_X0_number k w = some (v, w')) : xMet l G b yX0_number cX0_number 1 (some .int) (xR 1) [.ref (chb b k)] (CW G b w) (some (.int v)) (CW G b w') 0 0 := by
  refine x_of (own := RX0) rfl (plainFor_of_name pn_X0) (Nat.le_of_ble_eq_true rfl) ?_
  intro p e s m args below meth c ha C hr _
  unfold F_X0_number at hF
  refine x_aload_n (pc := 0) C 0 dX0_number_0 rfl rfl ?_
  refine gf_X0_14 (pc := 1) C hk dX0_number_1 ?_
  refine x_iconst (pc := 4) C 1 dX0_number_4 ki_1 ?_
  refine x_iconst (pc := 5) C 0 dX0_number_5 ki_0 ?_
  refine x_iconst (pc := 6) C 5 dX0_number_6 ki_5 ?_
  refine cV1_3 (pc := 7) (val := Value.int) C hF (fun _ _ h => r_X4_number l G b (vr_y 6 hk (by decide)) _ _ _ h) vm_X4_number wq160 rfl rfl ⟨Nat.le_of_ble_eq_true rfl, Nat.le_of_ble_eq_true rfl⟩ rfl rfl (fun _ h => CW.row0 h (vr_y 6 hk (by decide))) (Nat.le_of_ble_eq_true rfl) ⟨Nat.le_refl _, Nat.le_refl _⟩ dX0_number_7 (fun x2 w1 hF => ?_)
  obtain ⟨rfl, rfl⟩ := ret_eq hF
  exact x_iret (pc := 10) C hr rfl (fun _ h => h) dX0_number_10
set_option maxRecDepth 4000 in
theorem c_X0_numberInYard (l : Launch) (G : xG) (b : Nat) {k : Nat} (hk : k < 8)    {w w' : xWt} {v : Int32} (hF : F_X0_numberInYard k w = some (v, w')) : xMet l G b yX0_numberInYard cX0_numberInYard 1 (some .int) (xR 1) [.ref (chb b k)] (CW G b w) (some (.int v)) (CW G b w') 0 0 := by
  refine x_of (own := RX0) rfl (plainFor_of_name pn_X0) (Nat.le_of_ble_eq_true rfl) ?_
  intro p e s m args below meth c ha C hr _
  unfold F_X0_numberInYard at hF
  refine x_iconst (pc := 0) C 5 dX0_numberInYard_0 ki_5 ?_
  refine x_aload_n (pc := 1) C 0 dX0_numberInYard_1 rfl rfl ?_
  refine gf_X0_20 (pc := 2) C hk dX0_numberInYard_2 ?_
  refine x_iconst (pc := 5) C (-1) dX0_numberInYard_5 ki_m1 ?_
  refine x_iconst (pc := 6) C 0 dX0_numberInYard_6 ki_0 ?_
  refine x_iconst (pc := 7) C 5 dX0_numberInYard_7 ki_5 ?_
  refine cV1_3 (pc := 8) (val := Value.int) C hF (fun _ _ h => r_X4_number l G b (vr_y 7 hk (by decide)) _ _ _ h) vm_X4_number wq160 rfl rfl ⟨Nat.le_of_ble_eq_true rfl, Nat.le_of_ble_eq_true rfl⟩ rfl rfl (fun _ h => CW.row0 h (vr_y 7 hk (by decide))) (Nat.le_of_ble_eq_true rfl) ⟨Nat.le_refl _, Nat.le_refl _⟩ dX0_numberInYard_8 (fun x2 w1 hF => ?_)
  refine x_isub (pc := 11) C dX0_numberInYard_11 ?_
  obtain ⟨rfl, rfl⟩ := ret_eq hF
  exact x_iret (pc := 12) C hr rfl (fun _ h => h) dX0_numberInYard_12
set_option maxRecDepth 4000 in
theorem c_X4_add (l : Launch) (G : xG) (b : Nat) {H0 : Heap} {h a n : Nat} (hne : h ≠ a) (hab : b ≤ a) (a1 : Int32) (a2 : Int32) {w w' : (Nat → Int32)}  (hF : F_X4_add n a1 a2 w = some ((), w')) : xMet l G b yX4_add cX4_add 3 none (xR 1) [.ref (h), .int (a1), .int (a2)] (LW G H0 h a n w) none (LW G H0 h a n w') 0 0 := by
  refine x_of (own := RX4) rfl (plainFor_of_name pn_X4) (Nat.le_of_ble_eq_true rfl) ?_
  intro p e s m args below meth c ha C hr _
  unfold F_X4_add at hF
  refine x_aload_n (pc := 0) C 0 dX4_add_0 rfl rfl ?_
  refine x_iload_n (pc := 1) C 1 dX4_add_1 rfl rfl ?_
  refine x_aload_n (pc := 2) C 0 dX4_add_2 rfl rfl ?_
  refine x_iload_n (pc := 3) C 1 dX4_add_3 rfl rfl ?_
  refine cV1L_1 (pc := 4) (val := Value.int) C hF (fun _ _ h => c_X4_get l G b hne hab _ h) vm_X4_get wq612 rfl rfl ⟨Nat.le_of_ble_eq_true rfl, Nat.le_of_ble_eq_true rfl⟩ rfl rfl (fun _ h => h.1) (Nat.le_of_ble_eq_true rfl) ⟨Nat.le_refl _, Nat.le_refl _⟩ dX4_add_4 (fun x2 w1 hF => ?_)
  refine x_iload_n (pc := 7) C 2 dX4_add_7 rfl rfl ?_
  refine x_iadd (pc := 8) C dX4_add_8 ?_
  refine cV0L_2 (pc := 9) C hF (fun _ _ h => c_X4_put l G b hne hab _ _ h) vm_X4_put wq613 rfl rfl ⟨Nat.le_of_ble_eq_true rfl, Nat.le_of_ble_eq_true rfl⟩ rfl rfl (fun _ h => h.1) (Nat.le_of_ble_eq_true rfl) ⟨Nat.le_refl _, Nat.le_refl _⟩ dX4_add_9 (fun _ w3 hF => ?_)
  obtain ⟨-, rfl⟩ := ret_eq hF
  exact x_vret (pc := 12) C hr (fun _ h => h) dX4_add_12
theorem r_X4_add (l : Launch) (G : xG) (b : Nat) {k r : Nat} (hv : vr k r) (a1 : Int32) (a2 : Int32) {w w' : xWt}  (hF : R_X4_add k r a1 a2 w = some ((), w')) : xMet l G b yX4_add cX4_add 3 none (xR 1) [.ref (ro b k r), .int (a1), .int (a2)] (CW G b w) none (CW G b w') 0 0 := by
  obtain ⟨g, h1, rfl⟩ := liftR_some hF
  exact xMet.conseq fun H h => ⟨_, _, LW.of h hv, c_X4_add l G b (ro_ne hv) ra_ge a1 a2 h1, fun H' h' => LW.cw h hv h'⟩
set_option maxRecDepth 4000 in
theorem c_X0_putOnHeap (l : Launch) (G : xG) (b : Nat) {k : Nat} (hk : k < 8)   (a1 : Int32) (a2 : Int32) {w w' : xWt}  (hF : F_X0_putOnHeap k a1 a2 w = some ((), w')) : xMet l G b yX0_putOnHeap cX0_putOnHeap 3 none (xR 2) [.ref (chb b k), .int (a1), .int (a2)] (CW G b w) none (CW G b w') 0 0 := by
  refine x_of (own := RX0) rfl (plainFor_of_name pn_X0) (Nat.le_of_ble_eq_true rfl) ?_
  intro p e s m args below meth c ha C hr _
  unfold F_X0_putOnHeap at hF
  refine x_aload_n (pc := 0) C 0 dX0_putOnHeap_0 rfl rfl ?_
  refine gf_X0_35 (pc := 1) C hk dX0_putOnHeap_1 ?_
  refine x_iload_n (pc := 4) C 1 dX0_putOnHeap_4 rfl rfl ?_
  refine x_bipush (pc := 5) C 120 dX0_putOnHeap_5 kb_120 ?_
  refine x_imul (pc := 7) C dX0_putOnHeap_7 ?_
  refine x_aload_n (pc := 8) C 0 dX0_putOnHeap_8 rfl rfl ?_
  refine gf_X0_32 (pc := 9) C hk dX0_putOnHeap_9 ?_
  refine x_iload_n (pc := 12) C 1 dX0_putOnHeap_12 rfl rfl ?_
  refine cV1_1 (pc := 13) (val := Value.int) C hF (fun _ _ h => r_X4_get l G b (vr_y 11 hk (by decide)) _ h) vm_X4_get wq152 rfl rfl ⟨Nat.le_of_ble_eq_true rfl, Nat.le_of_ble_eq_true rfl⟩ rfl rfl (fun _ h => CW.row0 h (vr_y 11 hk (by decide))) (Nat.le_of_ble_eq_true rfl) ⟨Nat.le_refl _, Nat.le_refl _⟩ dX0_putOnHeap_13 (fun x2 w1 hF => ?_)
  refine x_iadd (pc := 16) C dX0_putOnHeap_16 ?_
  refine x_iload_n (pc := 17) C 2 dX0_putOnHeap_17 rfl rfl ?_
  refine cV0_2 (pc := 18) C hF (fun _ _ h => r_X4_put l G b (vr_y 12 hk (by decide)) _ _ h) vm_X4_put wq76 rfl rfl ⟨Nat.le_of_ble_eq_true rfl, Nat.le_of_ble_eq_true rfl⟩ rfl rfl (fun _ h => CW.row0 h (vr_y 12 hk (by decide))) (Nat.le_of_ble_eq_true rfl) ⟨Nat.le_refl _, Nat.le_refl _⟩ dX0_putOnHeap_18 (fun _ w3 hF => ?_)
  refine x_aload_n (pc := 21) C 0 dX0_putOnHeap_21 rfl rfl ?_
  refine gf_X0_32 (pc := 22) C hk dX0_putOnHeap_22 ?_
  refine x_iload_n (pc := 25) C 1 dX0_putOnHeap_25 rfl rfl ?_
  refine x_iconst (pc := 26) C 1 dX0_putOnHeap_26 ki_1 ?_
  refine cV0_2 (pc := 27) C hF (fun _ _ h => r_X4_add l G b (vr_y 11 hk (by decide)) _ _ h) vm_X4_add wq608 rfl rfl ⟨Nat.le_of_ble_eq_true rfl, Nat.le_of_ble_eq_true rfl⟩ rfl rfl (fun _ h => CW.row0 h (vr_y 11 hk (by decide))) (Nat.le_of_ble_eq_true rfl) ⟨Nat.le_refl _, Nat.le_refl _⟩ dX0_putOnHeap_27 (fun _ w4 hF => ?_)
  obtain ⟨-, rfl⟩ := ret_eq hF
  exact x_vret (pc := 30) C hr (fun _ h => h) dX0_putOnHeap_30
set_option maxRecDepth 4000 in
theorem c_X1_firstOf (l : Launch) (G : xG) (b : Nat)     (a1 : Int32) {w w' : xWt} {v : Int32} (hF : F_X1_firstOf a1 w = some (v, w')) : xMet l G b yX1_firstOf cX1_firstOf 1 (some .int) (xR 0) [.int (a1)] (CW G b w) (some (.int v)) (CW G b w') 0 0 := by
  refine x_of (own := RX1) rfl (plainFor_of_name pn_X1) (Nat.le_of_ble_eq_true rfl) ?_
  intro p e s m args below meth c ha C hr _
  unfold F_X1_firstOf at hF
  refine x_iload_n (pc := 0) C 0 dX1_firstOf_0 rfl rfl ?_
  refine x_iconst (pc := 1) C 3 dX1_firstOf_1 ki_3 ?_
  refine x_imul (pc := 2) C dX1_firstOf_2 ?_
  obtain ⟨rfl, rfl⟩ := ret_eq hF
  exact x_iret (pc := 3) C hr rfl (fun _ h => h) dX1_firstOf_3
set_option maxRecDepth 4000 in
theorem c_X1_branchOf (l : Launch) (G : xG) (b : Nat) {k : Nat} (hk : k < 8)   (a1 : Int32) (a2 : Int32) {w w' : xWt} {v : Int32} (hF : F_X1_branchOf k a1 a2 w = some (v, w')) : xMet l G b yX1_branchOf cX1_branchOf 3 (some .int) (xR 1) [.ref (hkb b k), .int (a1), .int (a2)] (CW G b w) (some (.int v)) (CW G b w') 0 0 := by
  refine x_of (own := RX1) rfl (plainFor_of_name pn_X1) (Nat.le_of_ble_eq_true rfl) ?_
  intro p e s m args below meth c ha C hr _
  unfold F_X1_branchOf at hF
  refine x_aload_n (pc := 0) C 0 dX1_branchOf_0 rfl rfl ?_
  refine gf_X1_23 (pc := 1) C hk dX1_branchOf_1 ?_
  refine x_iload_n (pc := 4) C 1 dX1_branchOf_4 rfl rfl ?_
  refine cS1_1 (pc := 5) (val := Value.int) C hF (fun _ _ h => c_X1_firstOf l G b  _ h) sm_X1_firstOf wq278 rfl rfl ⟨Nat.le_of_ble_eq_true rfl, Nat.le_of_ble_eq_true rfl⟩ (Nat.le_of_ble_eq_true rfl) ⟨Nat.le_refl _, Nat.le_refl _⟩ dX1_branchOf_5 (fun x2 w1 hF => ?_)
  refine x_iload_n (pc := 8) C 2 dX1_branchOf_8 rfl rfl ?_
  refine x_iadd (pc := 9) C dX1_branchOf_9 ?_
  refine cV1_1 (pc := 10) (val := Value.int) C hF (fun _ _ h => r_X4_get l G b (vr_y 15 hk (by decide)) _ h) vm_X4_get wq373 rfl rfl ⟨Nat.le_of_ble_eq_true rfl, Nat.le_of_ble_eq_true rfl⟩ rfl rfl (fun _ h => CW.row0 h (vr_y 15 hk (by decide))) (Nat.le_of_ble_eq_true rfl) ⟨Nat.le_refl _, Nat.le_refl _⟩ dX1_branchOf_10 (fun x4 w3 hF => ?_)
  obtain ⟨rfl, rfl⟩ := ret_eq hF
  exact x_iret (pc := 13) C hr rfl (fun _ h => h) dX1_branchOf_13
set_option maxRecDepth 4000 in
theorem c_X1_copyFrom (l : Launch) (G : xG) (b : Nat) {k : Nat} (hk : k < 8) {k2 : Nat} (hk2 : k2 < 8)  {w w' : xWt}  (hF : F_X1_copyFrom k k2 w = some ((), w')) : xMet l G b yX1_copyFrom cX1_copyFrom 2 none (xR 2) [.ref (hkb b k), .ref (hkb b k2)] (CW G b w) none (CW G b w') 0 0 := by
  refine x_of (own := RX1) rfl (plainFor_of_name pn_X1) (Nat.le_of_ble_eq_true rfl) ?_
  intro p e s m args below meth c ha C hr _
  unfold F_X1_copyFrom at hF
  refine x_aload_n (pc := 0) C 0 dX1_copyFrom_0 rfl rfl ?_
  refine gf_X1_16 (pc := 1) C hk dX1_copyFrom_1 ?_
  refine x_aload_n (pc := 4) C 1 dX1_copyFrom_4 rfl rfl ?_
  refine gf_X1_16 (pc := 5) C hk2 dX1_copyFrom_5 ?_
  refine cV0_1 (pc := 8) C hF (fun _ _ h => c_X4_copyFrom l G b (vr_y 13 hk (by decide)) (vr_y 13 hk2 (by decide)) h) vm_X4_copyFrom wq480 rfl rfl ⟨Nat.le_of_ble_eq_true rfl, Nat.le_of_ble_eq_true rfl⟩ rfl rfl (fun _ h => CW.row0 h (vr_y 13 hk (by decide))) (Nat.le_of_ble_eq_true rfl) ⟨Nat.le_refl _, Nat.le_refl _⟩ dX1_copyFrom_8 (fun _ w1 hF => ?_)
  refine x_aload_n (pc := 11) C 0 dX1_copyFrom_11 rfl rfl ?_
  refine gf_X1_20 (pc := 12) C hk dX1_copyFrom_12 ?_
  refine x_aload_n (pc := 15) C 1 dX1_copyFrom_15 rfl rfl ?_
  refine gf_X1_20 (pc := 16) C hk2 dX1_copyFrom_16 ?_
  refine cV0_1 (pc := 19) C hF (fun _ _ h => c_X4_copyFrom l G b (vr_y 14 hk (by decide)) (vr_y 14 hk2 (by decide)) h) vm_X4_copyFrom wq480 rfl rfl ⟨Nat.le_of_ble_eq_true rfl, Nat.le_of_ble_eq_true rfl⟩ rfl rfl (fun _ h => CW.row0 h (vr_y 14 hk (by decide))) (Nat.le_of_ble_eq_true rfl) ⟨Nat.le_refl _, Nat.le_refl _⟩ dX1_copyFrom_19 (fun _ w2 hF => ?_)
  refine x_aload_n (pc := 22) C 0 dX1_copyFrom_22 rfl rfl ?_
  refine gf_X1_23 (pc := 23) C hk dX1_copyFrom_23 ?_
  refine x_aload_n (pc := 26) C 1 dX1_copyFrom_26 rfl rfl ?_
  refine gf_X1_23 (pc := 27) C hk2 dX1_copyFrom_27 ?_
  refine cV0_1 (pc := 30) C hF (fun _ _ h => c_X4_copyFrom l G b (vr_y 15 hk (by decide)) (vr_y 15 hk2 (by decide)) h) vm_X4_copyFrom wq480 rfl rfl ⟨Nat.le_of_ble_eq_true rfl, Nat.le_of_ble_eq_true rfl⟩ rfl rfl (fun _ h => CW.row0 h (vr_y 15 hk (by decide))) (Nat.le_of_ble_eq_true rfl) ⟨Nat.le_refl _, Nat.le_refl _⟩ dX1_copyFrom_30 (fun _ w3 hF => ?_)
  obtain ⟨-, rfl⟩ := ret_eq hF
  exact x_vret (pc := 33) C hr (fun _ h => h) dX1_copyFrom_33
set_option maxRecDepth 4000 in
theorem c_X1_fasten (l : Launch) (G : xG) (b : Nat) {k : Nat} (hk : k < 8)   (a1 : Int32) (a2 : Int32) {w w' : xWt}  (hF : F_X1_fasten k a1 a2 w = some ((), w')) : xMet l G b yX1_fasten cX1_fasten 4 none (xR 1) [.ref (hkb b k), .int (a1), .int (a2)] (CW G b w) none (CW G b w') 0 0 := by
  refine x_of (own := RX1) rfl (plainFor_of_name pn_X1) (Nat.le_of_ble_eq_true rfl) ?_
  intro p e s m args below meth c ha C hr _
  unfold F_X1_fasten at hF
  refine x_iload_n (pc := 0) C 1 dX1_fasten_0 rfl rfl ?_
  refine cS1_1 (pc := 1) (val := Value.int) C hF (fun _ _ h => c_X1_firstOf l G b  _ h) sm_X1_firstOf wq278 rfl rfl ⟨Nat.le_of_ble_eq_true rfl, Nat.le_of_ble_eq_true rfl⟩ (Nat.le_of_ble_eq_true rfl) ⟨Nat.le_refl _, Nat.le_refl _⟩ dX1_fasten_1 (fun x2 w1 hF => ?_)
  refine x_iload_n (pc := 4) C 2 dX1_fasten_4 rfl rfl ?_
  refine x_iadd (pc := 5) C dX1_fasten_5 ?_
  refine x_istore_n (pc := 6) C [(3, .int ((x2 + a2))), (0, .ref (hkb b k)), (1, .int (a1)), (2, .int (a2))] dX1_fasten_6 rfl (by decide) rfl ?_
  refine x_aload_n (pc := 7) C 1 dX1_fasten_7 rfl rfl ?_
  refine gf_X1_16 (pc := 8) C hk dX1_fasten_8 ?_
  refine x_iload_n (pc := 11) C 0 dX1_fasten_11 rfl rfl ?_
  refine x_aload_n (pc := 12) C 1 dX1_fasten_12 rfl rfl ?_
  refine gf_X1_20 (pc := 13) C hk dX1_fasten_13 ?_
  refine x_iload_n (pc := 16) C 0 dX1_fasten_16 rfl rfl ?_
  refine cV1_1 (pc := 17) (val := Value.int) C hF (fun _ _ h => r_X4_get l G b (vr_y 14 hk (by decide)) _ h) vm_X4_get wq373 rfl rfl ⟨Nat.le_of_ble_eq_true rfl, Nat.le_of_ble_eq_true rfl⟩ rfl rfl (fun _ h => CW.row0 h (vr_y 14 hk (by decide))) (Nat.le_of_ble_eq_true rfl) ⟨Nat.le_refl _, Nat.le_refl _⟩ dX1_fasten_17 (fun x4 w3 hF => ?_)
  refine cV0_2 (pc := 20) C hF (fun _ _ h => r_X4_put l G b (vr_y 13 hk (by decide)) _ _ h) vm_X4_put wq537 rfl rfl ⟨Nat.le_of_ble_eq_true rfl, Nat.le_of_ble_eq_true rfl⟩ rfl rfl (fun _ h => CW.row0 h (vr_y 13 hk (by decide))) (Nat.le_of_ble_eq_true rfl) ⟨Nat.le_refl _, Nat.le_refl _⟩ dX1_fasten_20 (fun _ w5 hF => ?_)
  refine x_aload_n (pc := 23) C 1 dX1_fasten_23 rfl rfl ?_
  refine gf_X1_20 (pc := 24) C hk dX1_fasten_24 ?_
  refine x_iload_n (pc := 27) C 0 dX1_fasten_27 rfl rfl ?_
  refine x_iconst (pc := 28) C (-1) dX1_fasten_28 ki_m1 ?_
  refine cV0_2 (pc := 29) C hF (fun _ _ h => r_X4_put l G b (vr_y 14 hk (by decide)) _ _ h) vm_X4_put wq537 rfl rfl ⟨Nat.le_of_ble_eq_true rfl, Nat.le_of_ble_eq_true rfl⟩ rfl rfl (fun _ h => CW.row0 h (vr_y 14 hk (by decide))) (Nat.le_of_ble_eq_true rfl) ⟨Nat.le_refl _, Nat.le_refl _⟩ dX1_fasten_29 (fun _ w6 hF => ?_)
  refine x_aload_n (pc := 32) C 1 dX1_fasten_32 rfl rfl ?_
  refine gf_X1_23 (pc := 33) C hk dX1_fasten_33 ?_
  refine x_iload_n (pc := 36) C 0 dX1_fasten_36 rfl rfl ?_
  refine x_iconst (pc := 37) C (-1) dX1_fasten_37 ki_m1 ?_
  refine cV0_2 (pc := 38) C hF (fun _ _ h => r_X4_put l G b (vr_y 15 hk (by decide)) _ _ h) vm_X4_put wq537 rfl rfl ⟨Nat.le_of_ble_eq_true rfl, Nat.le_of_ble_eq_true rfl⟩ rfl rfl (fun _ h => CW.row0 h (vr_y 15 hk (by decide))) (Nat.le_of_ble_eq_true rfl) ⟨Nat.le_refl _, Nat.le_refl _⟩ dX1_fasten_38 (fun _ w7 hF => ?_)
  obtain ⟨-, rfl⟩ := ret_eq hF
  exact x_vret (pc := 41) C hr (fun _ h => h) dX1_fasten_41
set_option maxRecDepth 4000 in
theorem c_X1_kindOf (l : Launch) (G : xG) (b : Nat) {k : Nat} (hk : k < 8)   (a1 : Int32) (a2 : Int32) {w w' : xWt} {v : Int32} (hF : F_X1_kindOf k a1 a2 w = some (v, w')) : xMet l G b yX1_kindOf cX1_kindOf 4 (some .int) (xR 1) [.ref (hkb b k), .int (a1), .int (a2)] (CW G b w) (some (.int v)) (CW G b w') 0 0 := by
  refine x_of (own := RX1) rfl (plainFor_of_name pn_X1) (Nat.le_of_ble_eq_true rfl) ?_
  intro p e s m args below meth c ha C hr _
  unfold F_X1_kindOf at hF
  refine x_iload_n (pc := 0) C 1 dX1_kindOf_0 rfl rfl ?_
  refine cS1_1 (pc := 1) (val := Value.int) C hF (fun _ _ h => c_X1_firstOf l G b  _ h) sm_X1_firstOf wq278 rfl rfl ⟨Nat.le_of_ble_eq_true rfl, Nat.le_of_ble_eq_true rfl⟩ (Nat.le_of_ble_eq_true rfl) ⟨Nat.le_refl _, Nat.le_refl _⟩ dX1_kindOf_1 (fun x2 w1 hF => ?_)
  refine x_iload_n (pc := 4) C 2 dX1_kindOf_4 rfl rfl ?_
  refine x_iadd (pc := 5) C dX1_kindOf_5 ?_
  refine x_istore_n (pc := 6) C [(3, .int ((x2 + a2))), (0, .ref (hkb b k)), (1, .int (a1)), (2, .int (a2))] dX1_kindOf_6 rfl (by decide) rfl ?_
  refine x_aload_n (pc := 7) C 1 dX1_kindOf_7 rfl rfl ?_
  refine gf_X1_16 (pc := 8) C hk dX1_kindOf_8 ?_
  refine x_iload_n (pc := 11) C 0 dX1_kindOf_11 rfl rfl ?_
  refine cV1_1 (pc := 12) (val := Value.int) C hF (fun _ _ h => r_X4_get l G b (vr_y 13 hk (by decide)) _ h) vm_X4_get wq373 rfl rfl ⟨Nat.le_of_ble_eq_true rfl, Nat.le_of_ble_eq_true rfl⟩ rfl rfl (fun _ h => CW.row0 h (vr_y 13 hk (by decide))) (Nat.le_of_ble_eq_true rfl) ⟨Nat.le_refl _, Nat.le_refl _⟩ dX1_kindOf_12 (fun x4 w3 hF => ?_)
  refine x_iconst (pc := 15) C (-1) dX1_kindOf_15 ki_m1 ?_
  refine x_icmp_eq (pc := 16) C 21 dX1_kindOf_16 rfl hF (fun c8 hF => ?_) (fun c8 hF => ?_)
  · refine x_aload_n (pc := 21) C 1 dX1_kindOf_21 rfl rfl ?_
    refine gf_X1_20 (pc := 22) C hk dX1_kindOf_22 ?_
    refine x_iload_n (pc := 25) C 0 dX1_kindOf_25 rfl rfl ?_
    refine cV1_1 (pc := 26) (val := Value.int) C hF (fun _ _ h => r_X4_get l G b (vr_y 14 hk (by decide)) _ h) vm_X4_get wq373 rfl rfl ⟨Nat.le_of_ble_eq_true rfl, Nat.le_of_ble_eq_true rfl⟩ rfl rfl (fun _ h => CW.row0 h (vr_y 14 hk (by decide))) (Nat.le_of_ble_eq_true rfl) ⟨Nat.le_refl _, Nat.le_refl _⟩ dX1_kindOf_26 (fun x6 w5 hF => ?_)
    refine x_iconst (pc := 29) C (-1) dX1_kindOf_29 ki_m1 ?_
    refine x_icmp_eq (pc := 30) C 37 dX1_kindOf_30 rfl hF (fun c7 hF => ?_) (fun c7 hF => ?_)
    · refine x_iconst (pc := 37) C 0 dX1_kindOf_37 ki_0 ?_
      obtain ⟨rfl, rfl⟩ := ret_eq hF
      exact x_iret (pc := 38) C hr rfl (fun _ h => h) dX1_kindOf_38
    · refine x_iconst (pc := 33) C 1 dX1_kindOf_33 ki_1 ?_
      refine x_goto (pc := 34) C 38 dX1_kindOf_34 rfl ?_
      obtain ⟨rfl, rfl⟩ := ret_eq hF
      exact x_iret (pc := 38) C hr rfl (fun _ h => h) dX1_kindOf_38
  · refine x_iconst (pc := 19) C 2 dX1_kindOf_19 ki_2 ?_
    obtain ⟨rfl, rfl⟩ := ret_eq hF
    exact x_iret (pc := 20) C hr rfl (fun _ h => h) dX1_kindOf_20
set_option maxRecDepth 4000 in
theorem c_X1_leafOf (l : Launch) (G : xG) (b : Nat) {k : Nat} (hk : k < 8)   (a1 : Int32) (a2 : Int32) {w w' : xWt} {v : Int32} (hF : F_X1_leafOf k a1 a2 w = some (v, w')) : xMet l G b yX1_leafOf cX1_leafOf 4 (some .int) (xR 1) [.ref (hkb b k), .int (a1), .int (a2)] (CW G b w) (some (.int v)) (CW G b w') 0 0 := by
  refine x_of (own := RX1) rfl (plainFor_of_name pn_X1) (Nat.le_of_ble_eq_true rfl) ?_
  intro p e s m args below meth c ha C hr _
  unfold F_X1_leafOf at hF
  refine x_iload_n (pc := 0) C 1 dX1_leafOf_0 rfl rfl ?_
  refine cS1_1 (pc := 1) (val := Value.int) C hF (fun _ _ h => c_X1_firstOf l G b  _ h) sm_X1_firstOf wq278 rfl rfl ⟨Nat.le_of_ble_eq_true rfl, Nat.le_of_ble_eq_true rfl⟩ (Nat.le_of_ble_eq_true rfl) ⟨Nat.le_refl _, Nat.le_refl _⟩ dX1_leafOf_1 (fun x2 w1 hF => ?_)
  refine x_iload_n (pc := 4) C 2 dX1_leafOf_4 rfl rfl ?_
  refine x_iadd (pc := 5) C dX1_leafOf_5 ?_
  refine x_istore_n (pc := 6) C [(3, .int ((x2 + a2))), (0, .ref (hkb b k)), (1, .int (a1)), (2, .int (a2))] dX1_leafOf_6 rfl (by decide) rfl ?_
  refine x_aload_n (pc := 7) C 1 dX1_leafOf_7 rfl rfl ?_
  refine gf_X1_16 (pc := 8) C hk dX1_leafOf_8 ?_
  refine x_iload_n (pc := 11) C 0 dX1_leafOf_11 rfl rfl ?_
  refine cV1_1 (pc := 12) (val := Value.int) C hF (fun _ _ h => r_X4_get l G b (vr_y 13 hk (by decide)) _ h) vm_X4_get wq373 rfl rfl ⟨Nat.le_of_ble_eq_true rfl, Nat.le_of_ble_eq_true rfl⟩ rfl rfl (fun _ h => CW.row0 h (vr_y 13 hk (by decide))) (Nat.le_of_ble_eq_true rfl) ⟨Nat.le_refl _, Nat.le_refl _⟩ dX1_leafOf_12 (fun x4 w3 hF => ?_)
  refine x_iconst (pc := 15) C (-1) dX1_leafOf_15 ki_m1 ?_
  refine x_icmp_eq (pc := 16) C 30 dX1_leafOf_16 rfl hF (fun c9 hF => ?_) (fun c9 hF => ?_)
  · refine x_aload_n (pc := 30) C 1 dX1_leafOf_30 rfl rfl ?_
    refine gf_X1_20 (pc := 31) C hk dX1_leafOf_31 ?_
    refine x_iload_n (pc := 34) C 0 dX1_leafOf_34 rfl rfl ?_
    refine cV1_1 (pc := 35) (val := Value.int) C hF (fun _ _ h => r_X4_get l G b (vr_y 14 hk (by decide)) _ h) vm_X4_get wq373 rfl rfl ⟨Nat.le_of_ble_eq_true rfl, Nat.le_of_ble_eq_true rfl⟩ rfl rfl (fun _ h => CW.row0 h (vr_y 14 hk (by decide))) (Nat.le_of_ble_eq_true rfl) ⟨Nat.le_refl _, Nat.le_refl _⟩ dX1_leafOf_35 (fun x6 w5 hF => ?_)
    obtain ⟨rfl, rfl⟩ := ret_eq hF
    exact x_iret (pc := 38) C hr rfl (fun _ h => h) dX1_leafOf_38
  · refine x_aload_n (pc := 19) C 1 dX1_leafOf_19 rfl rfl ?_
    refine gf_X1_16 (pc := 20) C hk dX1_leafOf_20 ?_
    refine x_iload_n (pc := 23) C 0 dX1_leafOf_23 rfl rfl ?_
    refine cV1_1 (pc := 24) (val := Value.int) C hF (fun _ _ h => r_X4_get l G b (vr_y 13 hk (by decide)) _ h) vm_X4_get wq373 rfl rfl ⟨Nat.le_of_ble_eq_true rfl, Nat.le_of_ble_eq_true rfl⟩ rfl rfl (fun _ h => CW.row0 h (vr_y 13 hk (by decide))) (Nat.le_of_ble_eq_true rfl) ⟨Nat.le_refl _, Nat.le_refl _⟩ dX1_leafOf_24 (fun x8 w7 hF => ?_)
    refine x_goto (pc := 27) C 38 dX1_leafOf_27 rfl ?_
    obtain ⟨rfl, rfl⟩ := ret_eq hF
    exact x_iret (pc := 38) C hr rfl (fun _ h => h) dX1_leafOf_38
set_option maxRecDepth 4000 in
theorem c_X1_pinsOnBy (l : Launch) (G : xG) (b : Nat) {k : Nat} (hk : k < 8)   (a1 : Int32) (a2 : Int32) {w w' : xWt} {v : Int32} (hF : F_X1_pinsOnBy k a1 a2 w = some (v, w')) : xMet l G b yX1_pinsOnBy cX1_pinsOnBy 3 (some .int) (xR 1) [.ref (hkb b k), .int (a1), .int (a2)] (CW G b w) (some (.int v)) (CW G b w') 0 0 := by
  refine x_of (own := RX1) rfl (plainFor_of_name pn_X1) (Nat.le_of_ble_eq_true rfl) ?_
  intro p e s m args below meth c ha C hr _
  unfold F_X1_pinsOnBy at hF
  refine x_aload_n (pc := 0) C 0 dX1_pinsOnBy_0 rfl rfl ?_
  refine gf_X1_16 (pc := 1) C hk dX1_pinsOnBy_1 ?_
  refine x_iload_n (pc := 4) C 2 dX1_pinsOnBy_4 rfl rfl ?_
  refine x_iload_n (pc := 5) C 1 dX1_pinsOnBy_5 rfl rfl ?_
  refine cS1_1 (pc := 6) (val := Value.int) C hF (fun _ _ h => c_X1_firstOf l G b  _ h) sm_X1_firstOf wq278 rfl rfl ⟨Nat.le_of_ble_eq_true rfl, Nat.le_of_ble_eq_true rfl⟩ (Nat.le_of_ble_eq_true rfl) ⟨Nat.le_refl _, Nat.le_refl _⟩ dX1_pinsOnBy_6 (fun x2 w1 hF => ?_)
  refine x_iload_n (pc := 9) C 1 dX1_pinsOnBy_9 rfl rfl ?_
  refine cS1_1 (pc := 10) (val := Value.int) C hF (fun _ _ h => c_X1_firstOf l G b  _ h) sm_X1_firstOf wq278 rfl rfl ⟨Nat.le_of_ble_eq_true rfl, Nat.le_of_ble_eq_true rfl⟩ (Nat.le_of_ble_eq_true rfl) ⟨Nat.le_refl _, Nat.le_refl _⟩ dX1_pinsOnBy_10 (fun x4 w3 hF => ?_)
  refine x_iconst (pc := 13) C 3 dX1_pinsOnBy_13 ki_3 ?_
  refine x_iadd (pc := 14) C dX1_pinsOnBy_14 ?_
  refine cV1_3 (pc := 15) (val := Value.int) C hF (fun _ _ h => r_X4_number l G b (vr_y 13 hk (by decide)) _ _ _ h) vm_X4_number wq178 rfl rfl ⟨Nat.le_of_ble_eq_true rfl, Nat.le_of_ble_eq_true rfl⟩ rfl rfl (fun _ h => CW.row0 h (vr_y 13 hk (by decide))) (Nat.le_of_ble_eq_true rfl) ⟨Nat.le_refl _, Nat.le_refl _⟩ dX1_pinsOnBy_15 (fun x6 w5 hF => ?_)
  obtain ⟨rfl, rfl⟩ := ret_eq hF
  exact x_iret (pc := 18) C hr rfl (fun _ h => h) dX1_pinsOnBy_18
set_option maxRecDepth 4000 in
theorem s_X1_maskOfHolders_4 (C : xC p m c s args meth G b cX1_maskOfHolders 4 RX1) {k : Nat} (hk : k < 8)  : ∀ (n9 : Nat) (l1 : Int32) (l2 : Int32) (l3 : Int32) (w : xWt) (o : (Int32 × Int32)) (w' : xWt), L_X1_maskOfHolders_4 k n9 l1 l2 l3 w = some (o, w') → xW p l e (xR 2) s m args below meth c Q b 4 (CW G b w') 0 0 34 [(0, .ref (hkb b k)), (1, .int (l1)), (2, .int (o.1)), (3, .int (o.2))] [] → xW p l e (xR 2) s m args below meth c Q b 4 (CW G b w) 0 0 4 [(0, .ref (hkb b k)), (1, .int (l1)), (2, .int (l2)), (3, .int (l3))] [] := by
  intro n9
  induction n9 with
  | zero => intro l1 l2 l3 w o w' hF; exact none_ne (show none = some _ from hF)
  | succ n9 ih =>
    intro l1 l2 l3 w o w' hF kx
    replace hF : B_X1_maskOfHolders_4 k (L_X1_maskOfHolders_4 k n9) l1 l2 l3 w = some (o, w') := hF
    unfold B_X1_maskOfHolders_4 at hF
    refine x_iload_n (pc := 4) C 3 dX1_maskOfHolders_4 rfl rfl ?_
    refine x_iconst (pc := 5) C 5 dX1_maskOfHolders_5 ki_5 ?_
    refine x_icmp_ge (pc := 6) C 34 dX1_maskOfHolders_6 rfl hF (fun c4 hF => ?_) (fun c4 hF => ?_)
    · obtain ⟨rfl, rfl⟩ := ret_eq hF
      exact x_sub [0, 1, 2, 3] rfl kx
    · refine x_iload_n (pc := 9) C 2 dX1_maskOfHolders_9 rfl rfl ?_
      refine x_aload_n (pc := 10) C 0 dX1_maskOfHolders_10 rfl rfl ?_
      refine x_iload_n (pc := 11) C 3 dX1_maskOfHolders_11 rfl rfl ?_
      refine x_iload_n (pc := 12) C 1 dX1_maskOfHolders_12 rfl rfl ?_
      refine cV1_2 (pc := 13) (val := Value.int) C hF (fun _ _ h => c_X1_pinsOnBy l G b hk _ _ h) vm_X1_pinsOnBy wq274 rfl rfl ⟨Nat.le_of_ble_eq_true rfl, Nat.le_of_ble_eq_true rfl⟩ rfl rfl (fun _ h => CW.hk h hk) (Nat.le_of_ble_eq_true rfl) ⟨Nat.le_refl _, Nat.le_refl _⟩ dX1_maskOfHolders_13 (fun x2 w1 hF => ?_)
      refine x_if_le (pc := 16) C 25 dX1_maskOfHolders_16 rfl hF (fun c3 hF => ?_) (fun c3 hF => ?_)
      · refine x_iconst (pc := 25) C 0 dX1_maskOfHolders_25 ki_0 ?_
        refine x_ior (pc := 26) C dX1_maskOfHolders_26 ?_
        refine x_istore_n (pc := 27) C [(2, .int ((l2 ||| 0))), (0, .ref (hkb b k)), (1, .int (l1)), (3, .int (l3))] dX1_maskOfHolders_27 rfl (by decide) rfl ?_
        refine x_iinc (pc := 28) C 3 [(3, .int ((l3 + 1))), (2, .int ((l2 ||| 0))), (0, .ref (hkb b k)), (1, .int (l1))] dX1_maskOfHolders_28 rfl rfl (by decide) rfl ?_
        refine x_goto (pc := 31) C 4 dX1_maskOfHolders_31 rfl ?_
        exact x_sub [2, 3, 1, 0] rfl (ih _ _ _ _ _ _ hF kx)
      · refine x_iconst (pc := 19) C 1 dX1_maskOfHolders_19 ki_1 ?_
        refine x_iload_n (pc := 20) C 3 dX1_maskOfHolders_20 rfl rfl ?_
        refine x_ishl (pc := 21) C dX1_maskOfHolders_21 ?_
        refine x_goto (pc := 22) C 26 dX1_maskOfHolders_22 rfl ?_
        refine x_ior (pc := 26) C dX1_maskOfHolders_26 ?_
        refine x_istore_n (pc := 27) C [(2, .int ((l2 ||| (1 <<< (l3 &&& 31))))), (0, .ref (hkb b k)), (1, .int (l1)), (3, .int (l3))] dX1_maskOfHolders_27 rfl (by decide) rfl ?_
        refine x_iinc (pc := 28) C 3 [(3, .int ((l3 + 1))), (2, .int ((l2 ||| (1 <<< (l3 &&& 31))))), (0, .ref (hkb b k)), (1, .int (l1))] dX1_maskOfHolders_28 rfl rfl (by decide) rfl ?_
        refine x_goto (pc := 31) C 4 dX1_maskOfHolders_31 rfl ?_
        exact x_sub [2, 3, 1, 0] rfl (ih _ _ _ _ _ _ hF kx)
set_option maxRecDepth 4000 in
theorem c_X1_maskOfHolders (l : Launch) (G : xG) (b : Nat) {k : Nat} (hk : k < 8)   (a1 : Int32) {w w' : xWt} {v : Int32} (hF : F_X1_maskOfHolders k a1 w = some (v, w')) : xMet l G b yX1_maskOfHolders cX1_maskOfHolders 4 (some .int) (xR 2) [.ref (hkb b k), .int (a1)] (CW G b w) (some (.int v)) (CW G b w') 0 0 := by
  refine x_of (own := RX1) rfl (plainFor_of_name pn_X1) (Nat.le_of_ble_eq_true rfl) ?_
  intro p e s m args below meth c ha C hr _
  unfold F_X1_maskOfHolders at hF
  refine x_iconst (pc := 0) C 0 dX1_maskOfHolders_0 ki_0 ?_
  refine x_istore_n (pc := 1) C [(2, .int (0)), (0, .ref (hkb b k)), (1, .int (a1))] dX1_maskOfHolders_1 rfl (by decide) rfl ?_
  refine x_iconst (pc := 2) C 0 dX1_maskOfHolders_2 ki_0 ?_
  refine x_istore_n (pc := 3) C [(3, .int (0)), (2, .int (0)), (0, .ref (hkb b k)), (1, .int (a1))] dX1_maskOfHolders_3 rfl (by decide) rfl ?_
  obtain ⟨o5, w6, hL, hF⟩ := bd_some hF
  refine x_sub [2, 3, 1, 0] rfl (s_X1_maskOfHolders_4 C hk _ _ _ _ _ _ _ hL ?_)
  refine x_iload_n (pc := 34) C 2 dX1_maskOfHolders_34 rfl rfl ?_
  obtain ⟨rfl, rfl⟩ := ret_eq hF
  exact x_iret (pc := 35) C hr rfl (fun _ h => h) dX1_maskOfHolders_35
set_option maxRecDepth 4000 in
theorem c_X1_notes (l : Launch) (G : xG) (b : Nat) {k : Nat} (hk : k < 8)    {w w' : xWt} {v : Int32} (hF : F_X1_notes k w = some (v, w')) : xMet l G b yX1_notes cX1_notes 1 (some .int) (xR 1) [.ref (hkb b k)] (CW G b w) (some (.int v)) (CW G b w') 0 0 := by
  refine x_of (own := RX1) rfl (plainFor_of_name pn_X1) (Nat.le_of_ble_eq_true rfl) ?_
  intro p e s m args below meth c ha C hr _
  unfold F_X1_notes at hF
  refine x_bipush (pc := 0) C 15 dX1_notes_0 kb_15 ?_
  refine x_aload_n (pc := 2) C 0 dX1_notes_2 rfl rfl ?_
  refine gf_X1_20 (pc := 3) C hk dX1_notes_3 ?_
  refine x_iconst (pc := 6) C (-1) dX1_notes_6 ki_m1 ?_
  refine x_iconst (pc := 7) C 0 dX1_notes_7 ki_0 ?_
  refine x_bipush (pc := 8) C 15 dX1_notes_8 kb_15 ?_
  refine cV1_3 (pc := 10) (val := Value.int) C hF (fun _ _ h => r_X4_number l G b (vr_y 14 hk (by decide)) _ _ _ h) vm_X4_number wq178 rfl rfl ⟨Nat.le_of_ble_eq_true rfl, Nat.le_of_ble_eq_true rfl⟩ rfl rfl (fun _ h => CW.row0 h (vr_y 14 hk (by decide))) (Nat.le_of_ble_eq_true rfl) ⟨Nat.le_refl _, Nat.le_refl _⟩ dX1_notes_10 (fun x2 w1 hF => ?_)
  refine x_isub (pc := 13) C dX1_notes_13 ?_
  obtain ⟨rfl, rfl⟩ := ret_eq hF
  exact x_iret (pc := 14) C hr rfl (fun _ h => h) dX1_notes_14
set_option maxRecDepth 4000 in
theorem c_X1_notesOfChild (l : Launch) (G : xG) (b : Nat) {k : Nat} (hk : k < 8)   (a1 : Int32) {w w' : xWt} {v : Int32} (hF : F_X1_notesOfChild k a1 w = some (v, w')) : xMet l G b yX1_notesOfChild cX1_notesOfChild 2 (some .int) (xR 1) [.ref (hkb b k), .int (a1)] (CW G b w) (some (.int v)) (CW G b w') 0 0 := by
  refine x_of (own := RX1) rfl (plainFor_of_name pn_X1) (Nat.le_of_ble_eq_true rfl) ?_
  intro p e s m args below meth c ha C hr _
  unfold F_X1_notesOfChild at hF
  refine x_iconst (pc := 0) C 3 dX1_notesOfChild_0 ki_3 ?_
  refine x_aload_n (pc := 1) C 0 dX1_notesOfChild_1 rfl rfl ?_
  refine gf_X1_20 (pc := 2) C hk dX1_notesOfChild_2 ?_
  refine x_iconst (pc := 5) C (-1) dX1_notesOfChild_5 ki_m1 ?_
  refine x_iload_n (pc := 6) C 1 dX1_notesOfChild_6 rfl rfl ?_
  refine cS1_1 (pc := 7) (val := Value.int) C hF (fun _ _ h => c_X1_firstOf l G b  _ h) sm_X1_firstOf wq278 rfl rfl ⟨Nat.le_of_ble_eq_true rfl, Nat.le_of_ble_eq_true rfl⟩ (Nat.le_of_ble_eq_true rfl) ⟨Nat.le_refl _, Nat.le_refl _⟩ dX1_notesOfChild_7 (fun x2 w1 hF => ?_)
  refine x_iload_n (pc := 10) C 1 dX1_notesOfChild_10 rfl rfl ?_
  refine cS1_1 (pc := 11) (val := Value.int) C hF (fun _ _ h => c_X1_firstOf l G b  _ h) sm_X1_firstOf wq278 rfl rfl ⟨Nat.le_of_ble_eq_true rfl, Nat.le_of_ble_eq_true rfl⟩ (Nat.le_of_ble_eq_true rfl) ⟨Nat.le_refl _, Nat.le_refl _⟩ dX1_notesOfChild_11 (fun x4 w3 hF => ?_)
  refine x_iconst (pc := 14) C 3 dX1_notesOfChild_14 ki_3 ?_
  refine x_iadd (pc := 15) C dX1_notesOfChild_15 ?_
  refine cV1_3 (pc := 16) (val := Value.int) C hF (fun _ _ h => r_X4_number l G b (vr_y 14 hk (by decide)) _ _ _ h) vm_X4_number wq178 rfl rfl ⟨Nat.le_of_ble_eq_true rfl, Nat.le_of_ble_eq_true rfl⟩ rfl rfl (fun _ h => CW.row0 h (vr_y 14 hk (by decide))) (Nat.le_of_ble_eq_true rfl) ⟨Nat.le_refl _, Nat.le_refl _⟩ dX1_notesOfChild_16 (fun x6 w5 hF => ?_)
  refine x_isub (pc := 19) C dX1_notesOfChild_19 ?_
  obtain ⟨rfl, rfl⟩ := ret_eq hF
  exact x_iret (pc := 20) C hr rfl (fun _ h => h) dX1_notesOfChild_20
set_option maxRecDepth 4000 in
theorem c_X1_notesOn (l : Launch) (G : xG) (b : Nat) {k : Nat} (hk : k < 8)   (a1 : Int32) {w w' : xWt} {v : Int32} (hF : F_X1_notesOn k a1 w = some (v, w')) : xMet l G b yX1_notesOn cX1_notesOn 2 (some .int) (xR 1) [.ref (hkb b k), .int (a1)] (CW G b w) (some (.int v)) (CW G b w') 0 0 := by
  refine x_of (own := RX1) rfl (plainFor_of_name pn_X1) (Nat.le_of_ble_eq_true rfl) ?_
  intro p e s m args below meth c ha C hr _
  unfold F_X1_notesOn at hF
  refine x_aload_n (pc := 0) C 0 dX1_notesOn_0 rfl rfl ?_
  refine gf_X1_20 (pc := 1) C hk dX1_notesOn_1 ?_
  refine x_iload_n (pc := 4) C 1 dX1_notesOn_4 rfl rfl ?_
  refine x_iconst (pc := 5) C 0 dX1_notesOn_5 ki_0 ?_
  refine x_bipush (pc := 6) C 15 dX1_notesOn_6 kb_15 ?_
  refine cV1_3 (pc := 8) (val := Value.int) C hF (fun _ _ h => r_X4_number l G b (vr_y 14 hk (by decide)) _ _ _ h) vm_X4_number wq178 rfl rfl ⟨Nat.le_of_ble_eq_true rfl, Nat.le_of_ble_eq_true rfl⟩ rfl rfl (fun _ h => CW.row0 h (vr_y 14 hk (by decide))) (Nat.le_of_ble_eq_true rfl) ⟨Nat.le_refl _, Nat.le_refl _⟩ dX1_notesOn_8 (fun x2 w1 hF => ?_)
  obtain ⟨rfl, rfl⟩ := ret_eq hF
  exact x_iret (pc := 11) C hr rfl (fun _ h => h) dX1_notesOn_11
set_option maxRecDepth 4000 in
theorem c_X1_numberOfHook (l : Launch) (G : xG) (b : Nat) {k : Nat} (hk : k < 8)   (a1 : Int32) (a2 : Int32) (a3 : Int32) {w w' : xWt} {v : Int32} (hF : F_X1_numberOfHook k a1 a2 a3 w = some (v, w')) : xMet l G b yX1_numberOfHook cX1_numberOfHook 4 (some .int) (xR 2) [.ref (hkb b k), .int (a1), .int (a2), .int (a3)] (CW G b w) (some (.int v)) (CW G b w') 0 0 := by
  refine x_of (own := RX1) rfl (plainFor_of_name pn_X1) (Nat.le_of_ble_eq_true rfl) ?_
  intro p e s m args below meth c ha C hr _
  unfold F_X1_numberOfHook at hF
  refine x_iload_n (pc := 0) C 3 dX1_numberOfHook_0 rfl rfl ?_
  by_cases c3 : (a3).toInt = 0
  · rw [if_pos c3] at hF
    refine x_lookup (pc := 1) C 28 dX1_numberOfHook_1 rfl (by rw [c3]) rfl ?_
    refine x_aload_n (pc := 28) C 0 dX1_numberOfHook_28 rfl rfl ?_
    refine x_iload_n (pc := 29) C 1 dX1_numberOfHook_29 rfl rfl ?_
    refine x_iload_n (pc := 30) C 2 dX1_numberOfHook_30 rfl rfl ?_
    refine cV1_2 (pc := 31) (val := Value.int) C hF (fun _ _ h => c_X1_kindOf l G b hk _ _ h) vm_X1_kindOf wq369 rfl rfl ⟨Nat.le_of_ble_eq_true rfl, Nat.le_of_ble_eq_true rfl⟩ rfl rfl (fun _ h => CW.hk h hk) (Nat.le_of_ble_eq_true rfl) ⟨Nat.le_refl _, Nat.le_refl _⟩ dX1_numberOfHook_31 (fun x8 w7 hF => ?_)
    obtain ⟨rfl, rfl⟩ := ret_eq hF
    exact x_iret (pc := 34) C hr rfl (fun _ h => h) dX1_numberOfHook_34
  · rw [if_neg c3] at hF
    by_cases c4 : (a3).toInt = 1
    · rw [if_pos c4] at hF
      refine x_lookup (pc := 1) C 35 dX1_numberOfHook_1 rfl (by rw [c4]) rfl ?_
      refine x_aload_n (pc := 35) C 0 dX1_numberOfHook_35 rfl rfl ?_
      refine x_iload_n (pc := 36) C 1 dX1_numberOfHook_36 rfl rfl ?_
      refine x_iload_n (pc := 37) C 2 dX1_numberOfHook_37 rfl rfl ?_
      refine cV1_2 (pc := 38) (val := Value.int) C hF (fun _ _ h => c_X1_leafOf l G b hk _ _ h) vm_X1_leafOf wq374 rfl rfl ⟨Nat.le_of_ble_eq_true rfl, Nat.le_of_ble_eq_true rfl⟩ rfl rfl (fun _ h => CW.hk h hk) (Nat.le_of_ble_eq_true rfl) ⟨Nat.le_refl _, Nat.le_refl _⟩ dX1_numberOfHook_38 (fun x6 w5 hF => ?_)
      obtain ⟨rfl, rfl⟩ := ret_eq hF
      exact x_iret (pc := 41) C hr rfl (fun _ h => h) dX1_numberOfHook_41
    · rw [if_neg c4] at hF
      refine x_lookup (pc := 1) (off := 41) C 42 dX1_numberOfHook_1 rfl (by simp only [Op.lookupswitch.offset]; (repeat' split) <;> omega) rfl ?_
      refine x_aload_n (pc := 42) C 0 dX1_numberOfHook_42 rfl rfl ?_
      refine x_iload_n (pc := 43) C 1 dX1_numberOfHook_43 rfl rfl ?_
      refine x_iload_n (pc := 44) C 2 dX1_numberOfHook_44 rfl rfl ?_
      refine cV1_2 (pc := 45) (val := Value.int) C hF (fun _ _ h => c_X1_branchOf l G b hk _ _ h) vm_X1_branchOf wq378 rfl rfl ⟨Nat.le_of_ble_eq_true rfl, Nat.le_of_ble_eq_true rfl⟩ rfl rfl (fun _ h => CW.hk h hk) (Nat.le_of_ble_eq_true rfl) ⟨Nat.le_refl _, Nat.le_refl _⟩ dX1_numberOfHook_45 (fun x2 w1 hF => ?_)
      obtain ⟨rfl, rfl⟩ := ret_eq hF
      exact x_iret (pc := 48) C hr rfl (fun _ h => h) dX1_numberOfHook_48
set_option maxRecDepth 4000 in
theorem c_X1_pins (l : Launch) (G : xG) (b : Nat) {k : Nat} (hk : k < 8)    {w w' : xWt} {v : Int32} (hF : F_X1_pins k w = some (v, w')) : xMet l G b yX1_pins cX1_pins 1 (some .int) (xR 1) [.ref (hkb b k)] (CW G b w) (some (.int v)) (CW G b w') 0 0 := by
  refine x_of (own := RX1) rfl (plainFor_of_name pn_X1) (Nat.le_of_ble_eq_true rfl) ?_
  intro p e s m args below meth c ha C hr _
  unfold F_X1_pins at hF
  refine x_bipush (pc := 0) C 15 dX1_pins_0 kb_15 ?_
  refine x_aload_n (pc := 2) C 0 dX1_pins_2 rfl rfl ?_
  refine gf_X1_16 (pc := 3) C hk dX1_pins_3 ?_
  refine x_iconst (pc := 6) C (-1) dX1_pins_6 ki_m1 ?_
  refine x_iconst (pc := 7) C 0 dX1_pins_7 ki_0 ?_
  refine x_bipush (pc := 8) C 15 dX1_pins_8 kb_15 ?_
  refine cV1_3 (pc := 10) (val := Value.int) C hF (fun _ _ h => r_X4_number l G b (vr_y 13 hk (by decide)) _ _ _ h) vm_X4_number wq178 rfl rfl ⟨Nat.le_of_ble_eq_true rfl, Nat.le_of_ble_eq_true rfl⟩ rfl rfl (fun _ h => CW.row0 h (vr_y 13 hk (by decide))) (Nat.le_of_ble_eq_true rfl) ⟨Nat.le_refl _, Nat.le_refl _⟩ dX1_pins_10 (fun x2 w1 hF => ?_)
  refine x_isub (pc := 13) C dX1_pins_13 ?_
  obtain ⟨rfl, rfl⟩ := ret_eq hF
  exact x_iret (pc := 14) C hr rfl (fun _ h => h) dX1_pins_14
set_option maxRecDepth 4000 in
theorem c_X1_pinsOfChild (l : Launch) (G : xG) (b : Nat) {k : Nat} (hk : k < 8)   (a1 : Int32) {w w' : xWt} {v : Int32} (hF : F_X1_pinsOfChild k a1 w = some (v, w')) : xMet l G b yX1_pinsOfChild cX1_pinsOfChild 2 (some .int) (xR 1) [.ref (hkb b k), .int (a1)] (CW G b w) (some (.int v)) (CW G b w') 0 0 := by
  refine x_of (own := RX1) rfl (plainFor_of_name pn_X1) (Nat.le_of_ble_eq_true rfl) ?_
  intro p e s m args below meth c ha C hr _
  unfold F_X1_pinsOfChild at hF
  refine x_iconst (pc := 0) C 3 dX1_pinsOfChild_0 ki_3 ?_
  refine x_aload_n (pc := 1) C 0 dX1_pinsOfChild_1 rfl rfl ?_
  refine gf_X1_16 (pc := 2) C hk dX1_pinsOfChild_2 ?_
  refine x_iconst (pc := 5) C (-1) dX1_pinsOfChild_5 ki_m1 ?_
  refine x_iload_n (pc := 6) C 1 dX1_pinsOfChild_6 rfl rfl ?_
  refine cS1_1 (pc := 7) (val := Value.int) C hF (fun _ _ h => c_X1_firstOf l G b  _ h) sm_X1_firstOf wq278 rfl rfl ⟨Nat.le_of_ble_eq_true rfl, Nat.le_of_ble_eq_true rfl⟩ (Nat.le_of_ble_eq_true rfl) ⟨Nat.le_refl _, Nat.le_refl _⟩ dX1_pinsOfChild_7 (fun x2 w1 hF => ?_)
  refine x_iload_n (pc := 10) C 1 dX1_pinsOfChild_10 rfl rfl ?_
  refine cS1_1 (pc := 11) (val := Value.int) C hF (fun _ _ h => c_X1_firstOf l G b  _ h) sm_X1_firstOf wq278 rfl rfl ⟨Nat.le_of_ble_eq_true rfl, Nat.le_of_ble_eq_true rfl⟩ (Nat.le_of_ble_eq_true rfl) ⟨Nat.le_refl _, Nat.le_refl _⟩ dX1_pinsOfChild_11 (fun x4 w3 hF => ?_)
  refine x_iconst (pc := 14) C 3 dX1_pinsOfChild_14 ki_3 ?_
  refine x_iadd (pc := 15) C dX1_pinsOfChild_15 ?_
  refine cV1_3 (pc := 16) (val := Value.int) C hF (fun _ _ h => r_X4_number l G b (vr_y 13 hk (by decide)) _ _ _ h) vm_X4_number wq178 rfl rfl ⟨Nat.le_of_ble_eq_true rfl, Nat.le_of_ble_eq_true rfl⟩ rfl rfl (fun _ h => CW.row0 h (vr_y 13 hk (by decide))) (Nat.le_of_ble_eq_true rfl) ⟨Nat.le_refl _, Nat.le_refl _⟩ dX1_pinsOfChild_16 (fun x6 w5 hF => ?_)
  refine x_isub (pc := 19) C dX1_pinsOfChild_19 ?_
  obtain ⟨rfl, rfl⟩ := ret_eq hF
  exact x_iret (pc := 20) C hr rfl (fun _ h => h) dX1_pinsOfChild_20
set_option maxRecDepth 4000 in
theorem c_X1_pinsOn (l : Launch) (G : xG) (b : Nat) {k : Nat} (hk : k < 8)   (a1 : Int32) {w w' : xWt} {v : Int32} (hF : F_X1_pinsOn k a1 w = some (v, w')) : xMet l G b yX1_pinsOn cX1_pinsOn 2 (some .int) (xR 1) [.ref (hkb b k), .int (a1)] (CW G b w) (some (.int v)) (CW G b w') 0 0 := by
  refine x_of (own := RX1) rfl (plainFor_of_name pn_X1) (Nat.le_of_ble_eq_true rfl) ?_
  intro p e s m args below meth c ha C hr _
  unfold F_X1_pinsOn at hF
  refine x_aload_n (pc := 0) C 0 dX1_pinsOn_0 rfl rfl ?_
  refine gf_X1_16 (pc := 1) C hk dX1_pinsOn_1 ?_
  refine x_iload_n (pc := 4) C 1 dX1_pinsOn_4 rfl rfl ?_
  refine x_iconst (pc := 5) C 0 dX1_pinsOn_5 ki_0 ?_
  refine x_bipush (pc := 6) C 15 dX1_pinsOn_6 kb_15 ?_
  refine cV1_3 (pc := 8) (val := Value.int) C hF (fun _ _ h => r_X4_number l G b (vr_y 13 hk (by decide)) _ _ _ h) vm_X4_number wq178 rfl rfl ⟨Nat.le_of_ble_eq_true rfl, Nat.le_of_ble_eq_true rfl⟩ rfl rfl (fun _ h => CW.row0 h (vr_y 13 hk (by decide))) (Nat.le_of_ble_eq_true rfl) ⟨Nat.le_refl _, Nat.le_refl _⟩ dX1_pinsOn_8 (fun x2 w1 hF => ?_)
  obtain ⟨rfl, rfl⟩ := ret_eq hF
  exact x_iret (pc := 11) C hr rfl (fun _ h => h) dX1_pinsOn_11
set_option maxRecDepth 4000 in
theorem c_X1_release (l : Launch) (G : xG) (b : Nat) {k : Nat} (hk : k < 8)   (a1 : Int32) (a2 : Int32) {w w' : xWt}  (hF : F_X1_release k a1 a2 w = some ((), w')) : xMet l G b yX1_release cX1_release 4 none (xR 1) [.ref (hkb b k), .int (a1), .int (a2)] (CW G b w) none (CW G b w') 0 0 := by
  refine x_of (own := RX1) rfl (plainFor_of_name pn_X1) (Nat.le_of_ble_eq_true rfl) ?_
  intro p e s m args below meth c ha C hr _
  unfold F_X1_release at hF
  refine x_iload_n (pc := 0) C 1 dX1_release_0 rfl rfl ?_
  refine cS1_1 (pc := 1) (val := Value.int) C hF (fun _ _ h => c_X1_firstOf l G b  _ h) sm_X1_firstOf wq278 rfl rfl ⟨Nat.le_of_ble_eq_true rfl, Nat.le_of_ble_eq_true rfl⟩ (Nat.le_of_ble_eq_true rfl) ⟨Nat.le_refl _, Nat.le_refl _⟩ dX1_release_1 (fun x2 w1 hF => ?_)
  refine x_iload_n (pc := 4) C 2 dX1_release_4 rfl rfl ?_
  refine x_iadd (pc := 5) C dX1_release_5 ?_
  refine x_istore_n (pc := 6) C [(3, .int ((x2 + a2))), (0, .ref (hkb b k)), (1, .int (a1)), (2, .int (a2))] dX1_release_6 rfl (by decide) rfl ?_
  refine x_aload_n (pc := 7) C 1 dX1_release_7 rfl rfl ?_
  refine gf_X1_16 (pc := 8) C hk dX1_release_8 ?_
  refine x_iload_n (pc := 11) C 0 dX1_release_11 rfl rfl ?_
  refine x_iconst (pc := 12) C (-1) dX1_release_12 ki_m1 ?_
  refine cV0_2 (pc := 13) C hF (fun _ _ h => r_X4_put l G b (vr_y 13 hk (by decide)) _ _ h) vm_X4_put wq537 rfl rfl ⟨Nat.le_of_ble_eq_true rfl, Nat.le_of_ble_eq_true rfl⟩ rfl rfl (fun _ h => CW.row0 h (vr_y 13 hk (by decide))) (Nat.le_of_ble_eq_true rfl) ⟨Nat.le_refl _, Nat.le_refl _⟩ dX1_release_13 (fun _ w3 hF => ?_)
  refine x_aload_n (pc := 16) C 1 dX1_release_16 rfl rfl ?_
  refine gf_X1_20 (pc := 17) C hk dX1_release_17 ?_
  refine x_iload_n (pc := 20) C 0 dX1_release_20 rfl rfl ?_
  refine x_iconst (pc := 21) C (-1) dX1_release_21 ki_m1 ?_
  refine cV0_2 (pc := 22) C hF (fun _ _ h => r_X4_put l G b (vr_y 14 hk (by decide)) _ _ h) vm_X4_put wq537 rfl rfl ⟨Nat.le_of_ble_eq_true rfl, Nat.le_of_ble_eq_true rfl⟩ rfl rfl (fun _ h => CW.row0 h (vr_y 14 hk (by decide))) (Nat.le_of_ble_eq_true rfl) ⟨Nat.le_refl _, Nat.le_refl _⟩ dX1_release_22 (fun _ w4 hF => ?_)
  refine x_aload_n (pc := 25) C 1 dX1_release_25 rfl rfl ?_
  refine gf_X1_23 (pc := 26) C hk dX1_release_26 ?_
  refine x_iload_n (pc := 29) C 0 dX1_release_29 rfl rfl ?_
  refine x_iconst (pc := 30) C (-1) dX1_release_30 ki_m1 ?_
  refine cV0_2 (pc := 31) C hF (fun _ _ h => r_X4_put l G b (vr_y 15 hk (by decide)) _ _ h) vm_X4_put wq537 rfl rfl ⟨Nat.le_of_ble_eq_true rfl, Nat.le_of_ble_eq_true rfl⟩ rfl rfl (fun _ h => CW.row0 h (vr_y 15 hk (by decide))) (Nat.le_of_ble_eq_true rfl) ⟨Nat.le_refl _, Nat.le_refl _⟩ dX1_release_31 (fun _ w5 hF => ?_)
  obtain ⟨-, rfl⟩ := ret_eq hF
  exact x_vret (pc := 34) C hr (fun _ h => h) dX1_release_34
set_option maxRecDepth 4000 in
theorem s_X1_releaseAll_2 (C : xC p m c s args meth G b cX1_releaseAll 3 RX1) {k : Nat} (hk : k < 8)  : ∀ (n9 : Nat) (l1 : Int32) (l2 : Int32) (w : xWt) (o : (Int32)) (w' : xWt), L_X1_releaseAll_2 k n9 l1 l2 w = some (o, w') → xW p l e (xR 2) s m args below meth c Q b 3 (CW G b w') 0 0 19 [(0, .ref (hkb b k)), (1, .int (l1)), (2, .int (o))] [] → xW p l e (xR 2) s m args below meth c Q b 3 (CW G b w) 0 0 2 [(0, .ref (hkb b k)), (1, .int (l1)), (2, .int (l2))] [] := by
  intro n9
  induction n9 with
  | zero => intro l1 l2 w o w' hF; exact none_ne (show none = some _ from hF)
  | succ n9 ih =>
    intro l1 l2 w o w' hF kx
    replace hF : B_X1_releaseAll_2 k (L_X1_releaseAll_2 k n9) l1 l2 w = some (o, w') := hF
    unfold B_X1_releaseAll_2 at hF
    refine x_iload_n (pc := 2) C 2 dX1_releaseAll_2 rfl rfl ?_
    refine x_iconst (pc := 3) C 3 dX1_releaseAll_3 ki_3 ?_
    refine x_icmp_ge (pc := 4) C 19 dX1_releaseAll_4 rfl hF (fun c2 hF => ?_) (fun c2 hF => ?_)
    · obtain ⟨rfl, rfl⟩ := ret_eq hF
      exact x_sub [0, 1, 2] rfl kx
    · refine x_aload_n (pc := 7) C 0 dX1_releaseAll_7 rfl rfl ?_
      refine x_iload_n (pc := 8) C 1 dX1_releaseAll_8 rfl rfl ?_
      refine x_iload_n (pc := 9) C 2 dX1_releaseAll_9 rfl rfl ?_
      refine cV0_2 (pc := 10) C hF (fun _ _ h => c_X1_release l G b hk _ _ h) vm_X1_release wq533 rfl rfl ⟨Nat.le_of_ble_eq_true rfl, Nat.le_of_ble_eq_true rfl⟩ rfl rfl (fun _ h => CW.hk h hk) (Nat.le_of_ble_eq_true rfl) ⟨Nat.le_refl _, Nat.le_refl _⟩ dX1_releaseAll_10 (fun _ w1 hF => ?_)
      refine x_iinc (pc := 13) C 2 [(2, .int ((l2 + 1))), (0, .ref (hkb b k)), (1, .int (l1))] dX1_releaseAll_13 rfl rfl (by decide) rfl ?_
      refine x_goto (pc := 16) C 2 dX1_releaseAll_16 rfl ?_
      exact x_sub [1, 2, 0] rfl (ih _ _ _ _ _ hF kx)
set_option maxRecDepth 4000 in
theorem c_X1_releaseAll (l : Launch) (G : xG) (b : Nat) {k : Nat} (hk : k < 8)   (a1 : Int32) {w w' : xWt}  (hF : F_X1_releaseAll k a1 w = some ((), w')) : xMet l G b yX1_releaseAll cX1_releaseAll 3 none (xR 2) [.ref (hkb b k), .int (a1)] (CW G b w) none (CW G b w') 0 0 := by
  refine x_of (own := RX1) rfl (plainFor_of_name pn_X1) (Nat.le_of_ble_eq_true rfl) ?_
  intro p e s m args below meth c ha C hr _
  unfold F_X1_releaseAll at hF
  refine x_iconst (pc := 0) C 0 dX1_releaseAll_0 ki_0 ?_
  refine x_istore_n (pc := 1) C [(2, .int (0)), (0, .ref (hkb b k)), (1, .int (a1))] dX1_releaseAll_1 rfl (by decide) rfl ?_
  obtain ⟨o3, w4, hL, hF⟩ := bd_some hF
  refine x_sub [1, 2, 0] rfl (s_X1_releaseAll_2 C hk _ _ _ _ _ _ hL ?_)
  obtain ⟨-, rfl⟩ := ret_eq hF
  exact x_vret (pc := 19) C hr (fun _ h => h) dX1_releaseAll_19
set_option maxRecDepth 4000 in
theorem c_X1_write (l : Launch) (G : xG) (b : Nat) {k : Nat} (hk : k < 8)   (a1 : Int32) (a2 : Int32) (a3 : Int32) (a4 : Int32) {w w' : xWt}  (hF : F_X1_write k a1 a2 a3 a4 w = some ((), w')) : xMet l G b yX1_write cX1_write 6 none (xR 1) [.ref (hkb b k), .int (a1), .int (a2), .int (a3), .int (a4)] (CW G b w) none (CW G b w') 0 0 := by
  refine x_of (own := RX1) rfl (plainFor_of_name pn_X1) (Nat.le_of_ble_eq_true rfl) ?_
  intro p e s m args below meth c ha C hr _
  unfold F_X1_write at hF
  refine x_iload_n (pc := 0) C 1 dX1_write_0 rfl rfl ?_
  refine cS1_1 (pc := 1) (val := Value.int) C hF (fun _ _ h => c_X1_firstOf l G b  _ h) sm_X1_firstOf wq278 rfl rfl ⟨Nat.le_of_ble_eq_true rfl, Nat.le_of_ble_eq_true rfl⟩ (Nat.le_of_ble_eq_true rfl) ⟨Nat.le_refl _, Nat.le_refl _⟩ dX1_write_1 (fun x2 w1 hF => ?_)
  refine x_iload_n (pc := 4) C 2 dX1_write_4 rfl rfl ?_
  refine x_iadd (pc := 5) C dX1_write_5 ?_
  refine x_istore (pc := 6) C [(5, .int ((x2 + a2))), (0, .ref (hkb b k)), (1, .int (a1)), (2, .int (a2)), (3, .int (a3)), (4, .int (a4))] dX1_write_6 (by decide) rfl ?_
  refine x_aload_n (pc := 8) C 1 dX1_write_8 rfl rfl ?_
  refine gf_X1_20 (pc := 9) C hk dX1_write_9 ?_
  refine x_iload (pc := 12) C 0 dX1_write_12 rfl ?_
  refine x_iload_n (pc := 14) C 4 dX1_write_14 rfl rfl ?_
  refine cV0_2 (pc := 15) C hF (fun _ _ h => r_X4_put l G b (vr_y 14 hk (by decide)) _ _ h) vm_X4_put wq537 rfl rfl ⟨Nat.le_of_ble_eq_true rfl, Nat.le_of_ble_eq_true rfl⟩ rfl rfl (fun _ h => CW.row0 h (vr_y 14 hk (by decide))) (Nat.le_of_ble_eq_true rfl) ⟨Nat.le_refl _, Nat.le_refl _⟩ dX1_write_15 (fun _ w3 hF => ?_)
  refine x_aload_n (pc := 18) C 1 dX1_write_18 rfl rfl ?_
  refine gf_X1_23 (pc := 19) C hk dX1_write_19 ?_
  refine x_iload (pc := 22) C 0 dX1_write_22 rfl ?_
  refine x_iload (pc := 24) C 5 dX1_write_24 rfl ?_
  refine cV0_2 (pc := 26) C hF (fun _ _ h => r_X4_put l G b (vr_y 15 hk (by decide)) _ _ h) vm_X4_put wq537 rfl rfl ⟨Nat.le_of_ble_eq_true rfl, Nat.le_of_ble_eq_true rfl⟩ rfl rfl (fun _ h => CW.row0 h (vr_y 15 hk (by decide))) (Nat.le_of_ble_eq_true rfl) ⟨Nat.le_refl _, Nat.le_refl _⟩ dX1_write_26 (fun _ w4 hF => ?_)
  obtain ⟨-, rfl⟩ := ret_eq hF
  exact x_vret (pc := 29) C hr (fun _ h => h) dX1_write_29
set_option maxRecDepth 4000 in
theorem c_X2_burn (l : Launch) (G : xG) (b : Nat) {k : Nat} (hk : k < 8)   (a1 : Int32) {w w' : xWt}  (hF : F_X2_burn k a1 w = some ((), w')) : xMet l G b yX2_burn cX2_burn 2 none (xR 1) [.ref (lvb b k), .int (a1)] (CW G b w) none (CW G b w') 0 0 := by
  refine x_of (own := RX2) rfl (plainFor_of_name pn_X2) (Nat.le_of_ble_eq_true rfl) ?_
  intro p e s m args below meth c ha C hr _
  unfold F_X2_burn at hF
  refine x_aload_n (pc := 0) C 0 dX2_burn_0 rfl rfl ?_
  refine gf_X2_23 (pc := 1) C hk dX2_burn_1 ?_
  refine x_iload_n (pc := 4) C 1 dX2_burn_4 rfl rfl ?_
  refine x_iconst (pc := 5) C 2 dX2_burn_5 ki_2 ?_
  refine cV0_2 (pc := 6) C hF (fun _ _ h => r_X4_put l G b (vr_y 2 hk (by decide)) _ _ h) vm_X4_put wq712 rfl rfl ⟨Nat.le_of_ble_eq_true rfl, Nat.le_of_ble_eq_true rfl⟩ rfl rfl (fun _ h => CW.row0 h (vr_y 2 hk (by decide))) (Nat.le_of_ble_eq_true rfl) ⟨Nat.le_refl _, Nat.le_refl _⟩ dX2_burn_6 (fun _ w1 hF => ?_)
  refine x_aload_n (pc := 9) C 0 dX2_burn_9 rfl rfl ?_
  refine gf_X2_32 (pc := 10) C hk dX2_burn_10 ?_
  refine x_iload_n (pc := 13) C 1 dX2_burn_13 rfl rfl ?_
  refine x_iconst (pc := 14) C (-1) dX2_burn_14 ki_m1 ?_
  refine cV0_2 (pc := 15) C hF (fun _ _ h => r_X4_put l G b (vr_y 5 hk (by decide)) _ _ h) vm_X4_put wq712 rfl rfl ⟨Nat.le_of_ble_eq_true rfl, Nat.le_of_ble_eq_true rfl⟩ rfl rfl (fun _ h => CW.row0 h (vr_y 5 hk (by decide))) (Nat.le_of_ble_eq_true rfl) ⟨Nat.le_refl _, Nat.le_refl _⟩ dX2_burn_15 (fun _ w2 hF => ?_)
  obtain ⟨-, rfl⟩ := ret_eq hF
  exact x_vret (pc := 18) C hr (fun _ h => h) dX2_burn_18
set_option maxRecDepth 4000 in
theorem c_X2_copyFrom (l : Launch) (G : xG) (b : Nat) {k : Nat} (hk : k < 8) {k2 : Nat} (hk2 : k2 < 8)  {w w' : xWt}  (hF : F_X2_copyFrom k k2 w = some ((), w')) : xMet l G b yX2_copyFrom cX2_copyFrom 2 none (xR 2) [.ref (lvb b k), .ref (lvb b k2)] (CW G b w) none (CW G b w') 0 0 := by
  refine x_of (own := RX2) rfl (plainFor_of_name pn_X2) (Nat.le_of_ble_eq_true rfl) ?_
  intro p e s m args below meth c ha C hr _
  unfold F_X2_copyFrom at hF
  refine x_aload_n (pc := 0) C 0 dX2_copyFrom_0 rfl rfl ?_
  refine x_aload_n (pc := 1) C 1 dX2_copyFrom_1 rfl rfl ?_
  refine gf_X2_38 (pc := 2) C hk2 dX2_copyFrom_2 ?_
  refine pf_X2_38 (pc := 5) C hk  hF dX2_copyFrom_5 (fun w1 hF => ?_)
  refine x_aload_n (pc := 8) C 0 dX2_copyFrom_8 rfl rfl ?_
  refine gf_X2_14 (pc := 9) C hk dX2_copyFrom_9 ?_
  refine x_aload_n (pc := 12) C 1 dX2_copyFrom_12 rfl rfl ?_
  refine gf_X2_14 (pc := 13) C hk2 dX2_copyFrom_13 ?_
  refine cV0_1 (pc := 16) C hF (fun _ _ h => c_X4_copyFrom l G b (vr_y 0 hk (by decide)) (vr_y 0 hk2 (by decide)) h) vm_X4_copyFrom wq459 rfl rfl ⟨Nat.le_of_ble_eq_true rfl, Nat.le_of_ble_eq_true rfl⟩ rfl rfl (fun _ h => CW.row0 h (vr_y 0 hk (by decide))) (Nat.le_of_ble_eq_true rfl) ⟨Nat.le_refl _, Nat.le_refl _⟩ dX2_copyFrom_16 (fun _ w2 hF => ?_)
  refine x_aload_n (pc := 19) C 0 dX2_copyFrom_19 rfl rfl ?_
  refine gf_X2_20 (pc := 20) C hk dX2_copyFrom_20 ?_
  refine x_aload_n (pc := 23) C 1 dX2_copyFrom_23 rfl rfl ?_
  refine gf_X2_20 (pc := 24) C hk2 dX2_copyFrom_24 ?_
  refine cV0_1 (pc := 27) C hF (fun _ _ h => c_X4_copyFrom l G b (vr_y 1 hk (by decide)) (vr_y 1 hk2 (by decide)) h) vm_X4_copyFrom wq459 rfl rfl ⟨Nat.le_of_ble_eq_true rfl, Nat.le_of_ble_eq_true rfl⟩ rfl rfl (fun _ h => CW.row0 h (vr_y 1 hk (by decide))) (Nat.le_of_ble_eq_true rfl) ⟨Nat.le_refl _, Nat.le_refl _⟩ dX2_copyFrom_27 (fun _ w3 hF => ?_)
  refine x_aload_n (pc := 30) C 0 dX2_copyFrom_30 rfl rfl ?_
  refine gf_X2_23 (pc := 31) C hk dX2_copyFrom_31 ?_
  refine x_aload_n (pc := 34) C 1 dX2_copyFrom_34 rfl rfl ?_
  refine gf_X2_23 (pc := 35) C hk2 dX2_copyFrom_35 ?_
  refine cV0_1 (pc := 38) C hF (fun _ _ h => c_X4_copyFrom l G b (vr_y 2 hk (by decide)) (vr_y 2 hk2 (by decide)) h) vm_X4_copyFrom wq459 rfl rfl ⟨Nat.le_of_ble_eq_true rfl, Nat.le_of_ble_eq_true rfl⟩ rfl rfl (fun _ h => CW.row0 h (vr_y 2 hk (by decide))) (Nat.le_of_ble_eq_true rfl) ⟨Nat.le_refl _, Nat.le_refl _⟩ dX2_copyFrom_38 (fun _ w4 hF => ?_)
  refine x_aload_n (pc := 41) C 0 dX2_copyFrom_41 rfl rfl ?_
  refine gf_X2_26 (pc := 42) C hk dX2_copyFrom_42 ?_
  refine x_aload_n (pc := 45) C 1 dX2_copyFrom_45 rfl rfl ?_
  refine gf_X2_26 (pc := 46) C hk2 dX2_copyFrom_46 ?_
  refine cV0_1 (pc := 49) C hF (fun _ _ h => c_X4_copyFrom l G b (vr_y 3 hk (by decide)) (vr_y 3 hk2 (by decide)) h) vm_X4_copyFrom wq459 rfl rfl ⟨Nat.le_of_ble_eq_true rfl, Nat.le_of_ble_eq_true rfl⟩ rfl rfl (fun _ h => CW.row0 h (vr_y 3 hk (by decide))) (Nat.le_of_ble_eq_true rfl) ⟨Nat.le_refl _, Nat.le_refl _⟩ dX2_copyFrom_49 (fun _ w5 hF => ?_)
  refine x_aload_n (pc := 52) C 0 dX2_copyFrom_52 rfl rfl ?_
  refine gf_X2_29 (pc := 53) C hk dX2_copyFrom_53 ?_
  refine x_aload_n (pc := 56) C 1 dX2_copyFrom_56 rfl rfl ?_
  refine gf_X2_29 (pc := 57) C hk2 dX2_copyFrom_57 ?_
  refine cV0_1 (pc := 60) C hF (fun _ _ h => c_X4_copyFrom l G b (vr_y 4 hk (by decide)) (vr_y 4 hk2 (by decide)) h) vm_X4_copyFrom wq459 rfl rfl ⟨Nat.le_of_ble_eq_true rfl, Nat.le_of_ble_eq_true rfl⟩ rfl rfl (fun _ h => CW.row0 h (vr_y 4 hk (by decide))) (Nat.le_of_ble_eq_true rfl) ⟨Nat.le_refl _, Nat.le_refl _⟩ dX2_copyFrom_60 (fun _ w6 hF => ?_)
  refine x_aload_n (pc := 63) C 0 dX2_copyFrom_63 rfl rfl ?_
  refine gf_X2_32 (pc := 64) C hk dX2_copyFrom_64 ?_
  refine x_aload_n (pc := 67) C 1 dX2_copyFrom_67 rfl rfl ?_
  refine gf_X2_32 (pc := 68) C hk2 dX2_copyFrom_68 ?_
  refine cV0_1 (pc := 71) C hF (fun _ _ h => c_X4_copyFrom l G b (vr_y 5 hk (by decide)) (vr_y 5 hk2 (by decide)) h) vm_X4_copyFrom wq459 rfl rfl ⟨Nat.le_of_ble_eq_true rfl, Nat.le_of_ble_eq_true rfl⟩ rfl rfl (fun _ h => CW.row0 h (vr_y 5 hk (by decide))) (Nat.le_of_ble_eq_true rfl) ⟨Nat.le_refl _, Nat.le_refl _⟩ dX2_copyFrom_71 (fun _ w7 hF => ?_)
  obtain ⟨-, rfl⟩ := ret_eq hF
  exact x_vret (pc := 74) C hr (fun _ h => h) dX2_copyFrom_74
set_option maxRecDepth 4000 in
theorem c_X2_numberWhere (l : Launch) (G : xG) (b : Nat) {k : Nat} (hk : k < 8)   (a1 : Int32) {w w' : xWt} {v : Int32} (hF : F_X2_numberWhere k a1 w = some (v, w')) : xMet l G b yX2_numberWhere cX2_numberWhere 2 (some .int) (xR 1) [.ref (lvb b k), .int (a1)] (CW G b w) (some (.int v)) (CW G b w') 0 0 := by
  refine x_of (own := RX2) rfl (plainFor_of_name pn_X2) (Nat.le_of_ble_eq_true rfl) ?_
  intro p e s m args below meth c ha C hr _
  unfold F_X2_numberWhere at hF
  refine x_aload_n (pc := 0) C 0 dX2_numberWhere_0 rfl rfl ?_
  refine gf_X2_23 (pc := 1) C hk dX2_numberWhere_1 ?_
  refine x_iload_n (pc := 4) C 1 dX2_numberWhere_4 rfl rfl ?_
  refine x_iconst (pc := 5) C 0 dX2_numberWhere_5 ki_0 ?_
  refine x_aload_n (pc := 6) C 0 dX2_numberWhere_6 rfl rfl ?_
  refine gf_X2_38 (pc := 7) C hk dX2_numberWhere_7 ?_
  refine cV1_3 (pc := 10) (val := Value.int) C hF (fun _ _ h => r_X4_number l G b (vr_y 2 hk (by decide)) _ _ _ h) vm_X4_number wq173 rfl rfl ⟨Nat.le_of_ble_eq_true rfl, Nat.le_of_ble_eq_true rfl⟩ rfl rfl (fun _ h => CW.row0 h (vr_y 2 hk (by decide))) (Nat.le_of_ble_eq_true rfl) ⟨Nat.le_refl _, Nat.le_refl _⟩ dX2_numberWhere_10 (fun x2 w1 hF => ?_)
  obtain ⟨rfl, rfl⟩ := ret_eq hF
  exact x_iret (pc := 13) C hr rfl (fun _ h => h) dX2_numberWhere_13
set_option maxRecDepth 4000 in
theorem c_X2_putAside (l : Launch) (G : xG) (b : Nat) {k : Nat} (hk : k < 8)   (a1 : Int32) (a2 : Int32) (a3 : Int32) {w w' : xWt}  (hF : F_X2_putAside k a1 a2 a3 w = some ((), w')) : xMet l G b yX2_putAside cX2_putAside 4 none (xR 1) [.ref (lvb b k), .int (a1), .int (a2), .int (a3)] (CW G b w) none (CW G b w') 0 0 := by
  refine x_of (own := RX2) rfl (plainFor_of_name pn_X2) (Nat.le_of_ble_eq_true rfl) ?_
  intro p e s m args below meth c ha C hr _
  unfold F_X2_putAside at hF
  refine x_aload_n (pc := 0) C 0 dX2_putAside_0 rfl rfl ?_
  refine gf_X2_14 (pc := 1) C hk dX2_putAside_1 ?_
  refine x_aload_n (pc := 4) C 0 dX2_putAside_4 rfl rfl ?_
  refine gf_X2_26 (pc := 5) C hk dX2_putAside_5 ?_
  refine x_iload_n (pc := 8) C 1 dX2_putAside_8 rfl rfl ?_
  refine cV1_1 (pc := 9) (val := Value.int) C hF (fun _ _ h => r_X4_get l G b (vr_y 3 hk (by decide)) _ h) vm_X4_get wq738 rfl rfl ⟨Nat.le_of_ble_eq_true rfl, Nat.le_of_ble_eq_true rfl⟩ rfl rfl (fun _ h => CW.row0 h (vr_y 3 hk (by decide))) (Nat.le_of_ble_eq_true rfl) ⟨Nat.le_refl _, Nat.le_refl _⟩ dX2_putAside_9 (fun x2 w1 hF => ?_)
  refine x_iconst (pc := 12) C (-1) dX2_putAside_12 ki_m1 ?_
  refine cV0_2 (pc := 13) C hF (fun _ _ h => r_X4_put l G b (vr_y 0 hk (by decide)) _ _ h) vm_X4_put wq712 rfl rfl ⟨Nat.le_of_ble_eq_true rfl, Nat.le_of_ble_eq_true rfl⟩ rfl rfl (fun _ h => CW.row0 h (vr_y 0 hk (by decide))) (Nat.le_of_ble_eq_true rfl) ⟨Nat.le_refl _, Nat.le_refl _⟩ dX2_putAside_13 (fun _ w3 hF => ?_)
  refine x_aload_n (pc := 16) C 0 dX2_putAside_16 rfl rfl ?_
  refine gf_X2_23 (pc := 17) C hk dX2_putAside_17 ?_
  refine x_iload_n (pc := 20) C 1 dX2_putAside_20 rfl rfl ?_
  refine x_iconst (pc := 21) C 1 dX2_putAside_21 ki_1 ?_
  refine cV0_2 (pc := 22) C hF (fun _ _ h => r_X4_put l G b (vr_y 2 hk (by decide)) _ _ h) vm_X4_put wq712 rfl rfl ⟨Nat.le_of_ble_eq_true rfl, Nat.le_of_ble_eq_true rfl⟩ rfl rfl (fun _ h => CW.row0 h (vr_y 2 hk (by decide))) (Nat.le_of_ble_eq_true rfl) ⟨Nat.le_refl _, Nat.le_refl _⟩ dX2_putAside_22 (fun _ w4 hF => ?_)
  refine x_aload_n (pc := 25) C 0 dX2_putAside_25 rfl rfl ?_
  refine gf_X2_29 (pc := 26) C hk dX2_putAside_26 ?_
  refine x_iload_n (pc := 29) C 1 dX2_putAside_29 rfl rfl ?_
  refine x_iload_n (pc := 30) C 3 dX2_putAside_30 rfl rfl ?_
  refine cV0_2 (pc := 31) C hF (fun _ _ h => r_X4_put l G b (vr_y 4 hk (by decide)) _ _ h) vm_X4_put wq712 rfl rfl ⟨Nat.le_of_ble_eq_true rfl, Nat.le_of_ble_eq_true rfl⟩ rfl rfl (fun _ h => CW.row0 h (vr_y 4 hk (by decide))) (Nat.le_of_ble_eq_true rfl) ⟨Nat.le_refl _, Nat.le_refl _⟩ dX2_putAside_31 (fun _ w5 hF => ?_)
  refine x_aload_n (pc := 34) C 0 dX2_putAside_34 rfl rfl ?_
  refine gf_X2_32 (pc := 35) C hk dX2_putAside_35 ?_
  refine x_iload_n (pc := 38) C 1 dX2_putAside_38 rfl rfl ?_
  refine x_iload_n (pc := 39) C 2 dX2_putAside_39 rfl rfl ?_
  refine cV0_2 (pc := 40) C hF (fun _ _ h => r_X4_put l G b (vr_y 5 hk (by decide)) _ _ h) vm_X4_put wq712 rfl rfl ⟨Nat.le_of_ble_eq_true rfl, Nat.le_of_ble_eq_true rfl⟩ rfl rfl (fun _ h => CW.row0 h (vr_y 5 hk (by decide))) (Nat.le_of_ble_eq_true rfl) ⟨Nat.le_refl _, Nat.le_refl _⟩ dX2_putAside_40 (fun _ w6 hF => ?_)
  obtain ⟨-, rfl⟩ := ret_eq hF
  exact x_vret (pc := 43) C hr (fun _ h => h) dX2_putAside_43
set_option maxRecDepth 4000 in
theorem c_X2_sprout (l : Launch) (G : xG) (b : Nat) {k : Nat} (hk : k < 8)   (a1 : Int32) (a2 : Int32) {w w' : xWt} {v : Int32} (hF : F_X2_sprout k a1 a2 w = some (v, w')) : xMet l G b yX2_sprout cX2_sprout 4 (some .int) (xR 1) [.ref (lvb b k), .int (a1), .int (a2)] (CW G b w) (some (.int v)) (CW G b w') 0 0 := by
  refine x_of (own := RX2) rfl (plainFor_of_name pn_X2) (Nat.le_of_ble_eq_true rfl) ?_
  intro p e s m args below meth c ha C hr _
  unfold F_X2_sprout at hF
  refine x_aload_n (pc := 0) C 0 dX2_sprout_0 rfl rfl ?_
  refine gf_X2_38 (pc := 1) C hk dX2_sprout_1 ?_
  refine x_istore_n (pc := 4) C [(3, .int ((w.2.1 k 8))), (0, .ref (lvb b k)), (1, .int (a1)), (2, .int (a2))] dX2_sprout_4 rfl (by decide) rfl ?_
  refine x_aload_n (pc := 5) C 1 dX2_sprout_5 rfl rfl ?_
  refine x_dup (pc := 6) C dX2_sprout_6 rfl ?_
  refine gf_X2_38 (pc := 7) C hk dX2_sprout_7 ?_
  refine x_iconst (pc := 10) C 1 dX2_sprout_10 ki_1 ?_
  refine x_iadd (pc := 11) C dX2_sprout_11 ?_
  refine pf_X2_38 (pc := 12) C hk  hF dX2_sprout_12 (fun w1 hF => ?_)
  refine x_aload_n (pc := 15) C 1 dX2_sprout_15 rfl rfl ?_
  refine gf_X2_14 (pc := 16) C hk dX2_sprout_16 ?_
  refine x_iload_n (pc := 19) C 2 dX2_sprout_19 rfl rfl ?_
  refine x_iload_n (pc := 20) C 0 dX2_sprout_20 rfl rfl ?_
  refine cV0_2 (pc := 21) C hF (fun _ _ h => r_X4_put l G b (vr_y 0 hk (by decide)) _ _ h) vm_X4_put wq712 rfl rfl ⟨Nat.le_of_ble_eq_true rfl, Nat.le_of_ble_eq_true rfl⟩ rfl rfl (fun _ h => CW.row0 h (vr_y 0 hk (by decide))) (Nat.le_of_ble_eq_true rfl) ⟨Nat.le_refl _, Nat.le_refl _⟩ dX2_sprout_21 (fun _ w2 hF => ?_)
  refine x_aload_n (pc := 24) C 1 dX2_sprout_24 rfl rfl ?_
  refine gf_X2_20 (pc := 25) C hk dX2_sprout_25 ?_
  refine x_iload_n (pc := 28) C 0 dX2_sprout_28 rfl rfl ?_
  refine x_iload_n (pc := 29) C 3 dX2_sprout_29 rfl rfl ?_
  refine cV0_2 (pc := 30) C hF (fun _ _ h => r_X4_put l G b (vr_y 1 hk (by decide)) _ _ h) vm_X4_put wq712 rfl rfl ⟨Nat.le_of_ble_eq_true rfl, Nat.le_of_ble_eq_true rfl⟩ rfl rfl (fun _ h => CW.row0 h (vr_y 1 hk (by decide))) (Nat.le_of_ble_eq_true rfl) ⟨Nat.le_refl _, Nat.le_refl _⟩ dX2_sprout_30 (fun _ w3 hF => ?_)
  refine x_aload_n (pc := 33) C 1 dX2_sprout_33 rfl rfl ?_
  refine gf_X2_23 (pc := 34) C hk dX2_sprout_34 ?_
  refine x_iload_n (pc := 37) C 0 dX2_sprout_37 rfl rfl ?_
  refine x_iconst (pc := 38) C 0 dX2_sprout_38 ki_0 ?_
  refine cV0_2 (pc := 39) C hF (fun _ _ h => r_X4_put l G b (vr_y 2 hk (by decide)) _ _ h) vm_X4_put wq712 rfl rfl ⟨Nat.le_of_ble_eq_true rfl, Nat.le_of_ble_eq_true rfl⟩ rfl rfl (fun _ h => CW.row0 h (vr_y 2 hk (by decide))) (Nat.le_of_ble_eq_true rfl) ⟨Nat.le_refl _, Nat.le_refl _⟩ dX2_sprout_39 (fun _ w4 hF => ?_)
  refine x_aload_n (pc := 42) C 1 dX2_sprout_42 rfl rfl ?_
  refine gf_X2_26 (pc := 43) C hk dX2_sprout_43 ?_
  refine x_iload_n (pc := 46) C 0 dX2_sprout_46 rfl rfl ?_
  refine x_iload_n (pc := 47) C 2 dX2_sprout_47 rfl rfl ?_
  refine cV0_2 (pc := 48) C hF (fun _ _ h => r_X4_put l G b (vr_y 3 hk (by decide)) _ _ h) vm_X4_put wq712 rfl rfl ⟨Nat.le_of_ble_eq_true rfl, Nat.le_of_ble_eq_true rfl⟩ rfl rfl (fun _ h => CW.row0 h (vr_y 3 hk (by decide))) (Nat.le_of_ble_eq_true rfl) ⟨Nat.le_refl _, Nat.le_refl _⟩ dX2_sprout_48 (fun _ w5 hF => ?_)
  refine x_aload_n (pc := 51) C 1 dX2_sprout_51 rfl rfl ?_
  refine gf_X2_29 (pc := 52) C hk dX2_sprout_52 ?_
  refine x_iload_n (pc := 55) C 0 dX2_sprout_55 rfl rfl ?_
  refine x_iconst (pc := 56) C (-1) dX2_sprout_56 ki_m1 ?_
  refine cV0_2 (pc := 57) C hF (fun _ _ h => r_X4_put l G b (vr_y 4 hk (by decide)) _ _ h) vm_X4_put wq712 rfl rfl ⟨Nat.le_of_ble_eq_true rfl, Nat.le_of_ble_eq_true rfl⟩ rfl rfl (fun _ h => CW.row0 h (vr_y 4 hk (by decide))) (Nat.le_of_ble_eq_true rfl) ⟨Nat.le_refl _, Nat.le_refl _⟩ dX2_sprout_57 (fun _ w6 hF => ?_)
  refine x_aload_n (pc := 60) C 1 dX2_sprout_60 rfl rfl ?_
  refine gf_X2_32 (pc := 61) C hk dX2_sprout_61 ?_
  refine x_iload_n (pc := 64) C 0 dX2_sprout_64 rfl rfl ?_
  refine x_iconst (pc := 65) C (-1) dX2_sprout_65 ki_m1 ?_
  refine cV0_2 (pc := 66) C hF (fun _ _ h => r_X4_put l G b (vr_y 5 hk (by decide)) _ _ h) vm_X4_put wq712 rfl rfl ⟨Nat.le_of_ble_eq_true rfl, Nat.le_of_ble_eq_true rfl⟩ rfl rfl (fun _ h => CW.row0 h (vr_y 5 hk (by decide))) (Nat.le_of_ble_eq_true rfl) ⟨Nat.le_refl _, Nat.le_refl _⟩ dX2_sprout_66 (fun _ w7 hF => ?_)
  refine x_iload_n (pc := 69) C 0 dX2_sprout_69 rfl rfl ?_
  obtain ⟨rfl, rfl⟩ := ret_eq hF
  exact x_iret (pc := 70) C hr rfl (fun _ h => h) dX2_sprout_70
set_option maxRecDepth 4000 in
theorem s_X4_fill_2 (C : xC p m c s args meth G b cX4_fill 3 RX4) {H0 : Heap} {h a n : Nat} (hne : h ≠ a) (hab : b ≤ a)  : ∀ (n9 : Nat) (l1 : Int32) (l2 : Int32) (w : (Nat → Int32)) (o : (Int32)) (w' : (Nat → Int32)), L_X4_fill_2 n n9 l1 l2 w = some (o, w') → xW p l e (xR 0) s m args below meth c Q b 3 (LW G H0 h a n w') 0 0 24 [(0, .ref (h)), (1, .int (l1)), (2, .int (o))] [] → xW p l e (xR 0) s m args below meth c Q b 3 (LW G H0 h a n w) 0 0 2 [(0, .ref (h)), (1, .int (l1)), (2, .int (l2))] [] := by
  intro n9
  induction n9 with
  | zero => intro l1 l2 w o w' hF; exact none_ne (show none = some _ from hF)
  | succ n9 ih =>
    intro l1 l2 w o w' hF kx
    replace hF : B_X4_fill_2 n (L_X4_fill_2 n n9) l1 l2 w = some (o, w') := hF
    unfold B_X4_fill_2 at hF
    refine x_iload_n (pc := 2) C 2 dX4_fill_2 rfl rfl ?_
    refine x_aload_n (pc := 3) C 0 dX4_fill_3 rfl rfl ?_
    refine gl_X4_9 (pc := 4) C dX4_fill_4 ?_
    refine l_alen (pc := 7) C dX4_fill_7 ?_
    refine x_icmp_ge (pc := 8) C 24 dX4_fill_8 rfl hF (fun c2 hF => ?_) (fun c2 hF => ?_)
    · obtain ⟨rfl, rfl⟩ := ret_eq hF
      exact x_sub [0, 1, 2] rfl kx
    · refine x_aload_n (pc := 11) C 0 dX4_fill_11 rfl rfl ?_
      refine gl_X4_9 (pc := 12) C dX4_fill_12 ?_
      refine x_iload_n (pc := 15) C 2 dX4_fill_15 rfl rfl ?_
      refine x_iload_n (pc := 16) C 1 dX4_fill_16 rfl rfl ?_
      refine l_ast (pc := 17) C hne hab hF dX4_fill_17 (fun w1 hF => ?_)
      refine x_iinc (pc := 18) C 2 [(2, .int ((l2 + 1))), (0, .ref (h)), (1, .int (l1))] dX4_fill_18 rfl rfl (by decide) rfl ?_
      refine x_goto (pc := 21) C 2 dX4_fill_21 rfl ?_
      exact x_sub [1, 2, 0] rfl (ih _ _ _ _ _ hF kx)
set_option maxRecDepth 4000 in
theorem c_X4_fill (l : Launch) (G : xG) (b : Nat) {H0 : Heap} {h a n : Nat} (hne : h ≠ a) (hab : b ≤ a) (a1 : Int32) {w w' : (Nat → Int32)}  (hF : F_X4_fill n a1 w = some ((), w')) : xMet l G b yX4_fill cX4_fill 3 none (xR 0) [.ref (h), .int (a1)] (LW G H0 h a n w) none (LW G H0 h a n w') 0 0 := by
  refine x_of (own := RX4) rfl (plainFor_of_name pn_X4) (Nat.le_of_ble_eq_true rfl) ?_
  intro p e s m args below meth c ha C hr _
  unfold F_X4_fill at hF
  refine x_iconst (pc := 0) C 0 dX4_fill_0 ki_0 ?_
  refine x_istore_n (pc := 1) C [(2, .int (0)), (0, .ref (h)), (1, .int (a1))] dX4_fill_1 rfl (by decide) rfl ?_
  obtain ⟨o3, w4, hL, hF⟩ := lbd_some hF
  refine x_sub [1, 2, 0] rfl (s_X4_fill_2 C hne hab _ _ _ _ _ _ hL ?_)
  obtain ⟨-, rfl⟩ := ret_eq hF
  exact x_vret (pc := 24) C hr (fun _ h => h) dX4_fill_24
theorem r_X4_fill (l : Launch) (G : xG) (b : Nat) {k r : Nat} (hv : vr k r) (a1 : Int32) {w w' : xWt}  (hF : R_X4_fill k r a1 w = some ((), w')) : xMet l G b yX4_fill cX4_fill 3 none (xR 0) [.ref (ro b k r), .int (a1)] (CW G b w) none (CW G b w') 0 0 := by
  obtain ⟨g, h1, rfl⟩ := liftR_some hF
  exact xMet.conseq fun H h => ⟨_, _, LW.of h hv, c_X4_fill l G b (ro_ne hv) ra_ge a1 h1, fun H' h' => LW.cw h hv h'⟩
set_option maxRecDepth 4000 in
theorem c_X5_number (l : Launch) (G : xG) (b : Nat)      {w w' : xWt} {v : Int32} (hF : F_X5_number  w = some (v, w')) : xMet l G b yX5_number cX5_number 1 (some .int) (xR 0) [.ref (svb b)] (CW G b w) (some (.int v)) (CW G b w') 0 0 := by
  refine x_of (own := RX5) rfl (plainFor_of_name pn_X5) (Nat.le_of_ble_eq_true rfl) ?_
  intro p e s m args below meth c ha C hr _
  unfold F_X5_number at hF
  refine x_aload_n (pc := 0) C 0 dX5_number_0 rfl rfl ?_
  refine gf_X5_18 (pc := 1) C  dX5_number_1 ?_
  obtain ⟨rfl, rfl⟩ := ret_eq hF
  exact x_iret (pc := 4) C hr rfl (fun _ h => h) dX5_number_4
set_option maxRecDepth 4000 in
theorem c_X5_placeAt (l : Launch) (G : xG) (b : Nat)     (a1 : Int32) {w w' : xWt} {v : (Option Nat)} (hF : F_X5_placeAt a1 w = some (v, w')) : xMet l G b yX5_placeAt cX5_placeAt 2 (some (.object "PinnedLeaves$Yard")) (xR 0) [.ref (svb b), .int (a1)] (CW G b w) (some (yv b v)) (CW G b w') 0 0 := by
  refine x_of (own := RX5) rfl (plainFor_of_name pn_X5) (Nat.le_of_ble_eq_true rfl) ?_
  intro p e s m args below meth c ha C hr _
  unfold F_X5_placeAt at hF
  refine x_iload_n (pc := 0) C 1 dX5_placeAt_0 rfl rfl ?_
  refine x_if_lt (pc := 1) C 22 dX5_placeAt_1 rfl hF (fun c3 hF => ?_) (fun c3 hF => ?_)
  · refine x_null (pc := 22) C dX5_placeAt_22 ?_
    obtain ⟨rfl, rfl⟩ := ret_eq hF
    exact x_aret (pc := 23) C (Or.inl ⟨_, rfl⟩) (Or.inl rfl) hr rfl (fun _ h => h) dX5_placeAt_23
  · refine x_iload_n (pc := 4) C 1 dX5_placeAt_4 rfl rfl ?_
    refine x_aload_n (pc := 5) C 0 dX5_placeAt_5 rfl rfl ?_
    refine gf_X5_11 (pc := 6) C  dX5_placeAt_6 ?_
    refine w_ylen (pc := 9) C dX5_placeAt_9 ?_
    refine x_icmp_ge (pc := 10) C 22 dX5_placeAt_10 rfl hF (fun c2 hF => ?_) (fun c2 hF => ?_)
    · refine x_null (pc := 22) C dX5_placeAt_22 ?_
      obtain ⟨rfl, rfl⟩ := ret_eq hF
      exact x_aret (pc := 23) C (Or.inl ⟨_, rfl⟩) (Or.inl rfl) hr rfl (fun _ h => h) dX5_placeAt_23
    · refine x_aload_n (pc := 13) C 0 dX5_placeAt_13 rfl rfl ?_
      refine gf_X5_11 (pc := 14) C  dX5_placeAt_14 ?_
      refine x_iload_n (pc := 17) C 1 dX5_placeAt_17 rfl rfl ?_
      refine w_yld (pc := 18) C hF dX5_placeAt_18 (fun k1 hk1 hF => ?_)
      refine x_goto (pc := 19) C 23 dX5_placeAt_19 rfl ?_
      obtain ⟨rfl, rfl⟩ := ret_eq hF
      exact x_aret (pc := 23) C (Or.inl ⟨_, rfl⟩) (Or.inr ⟨_, rfl⟩) hr rfl (fun _ h => h) dX5_placeAt_23
set_option maxRecDepth 4000 in
theorem c_X6_copyFrom (l : Launch) (G : xG) (b : Nat) {k : Nat} (hk : k < 8) {k2 : Nat} (hk2 : k2 < 8)  {w w' : xWt}  (hF : F_X6_copyFrom k k2 w = some ((), w')) : xMet l G b yX6_copyFrom cX6_copyFrom 2 none (xR 3) [.ref (yb b k), .ref (yb b k2)] (CW G b w) none (CW G b w') 0 0 := by
  refine x_of (own := RX6) rfl (plainFor_of_name pn_X6) (Nat.le_of_ble_eq_true rfl) ?_
  intro p e s m args below meth c ha C hr _
  unfold F_X6_copyFrom at hF
  refine x_aload_n (pc := 0) C 0 dX6_copyFrom_0 rfl rfl ?_
  refine x_aload_n (pc := 1) C 1 dX6_copyFrom_1 rfl rfl ?_
  refine gf_X6_39 (pc := 2) C hk2 dX6_copyFrom_2 ?_
  refine pf_X6_39 (pc := 5) C hk  hF dX6_copyFrom_5 (fun w1 hF => ?_)
  refine x_aload_n (pc := 8) C 0 dX6_copyFrom_8 rfl rfl ?_
  refine x_aload_n (pc := 9) C 1 dX6_copyFrom_9 rfl rfl ?_
  refine gf_X6_9 (pc := 10) C hk2 dX6_copyFrom_10 ?_
  refine pf_X6_9 (pc := 13) C hk  hF dX6_copyFrom_13 (fun w2 hF => ?_)
  refine x_aload_n (pc := 16) C 0 dX6_copyFrom_16 rfl rfl ?_
  refine x_aload_n (pc := 17) C 1 dX6_copyFrom_17 rfl rfl ?_
  refine gf_X6_15 (pc := 18) C hk2 dX6_copyFrom_18 ?_
  refine pf_X6_15 (pc := 21) C hk  hF dX6_copyFrom_21 (fun w3 hF => ?_)
  refine x_aload_n (pc := 24) C 0 dX6_copyFrom_24 rfl rfl ?_
  refine x_aload_n (pc := 25) C 1 dX6_copyFrom_25 rfl rfl ?_
  refine gf_X6_42 (pc := 26) C hk2 dX6_copyFrom_26 ?_
  refine pf_X6_42 (pc := 29) C hk  hF dX6_copyFrom_29 (fun w4 hF => ?_)
  refine x_aload_n (pc := 32) C 0 dX6_copyFrom_32 rfl rfl ?_
  refine x_aload_n (pc := 33) C 1 dX6_copyFrom_33 rfl rfl ?_
  refine gf_X6_45 (pc := 34) C hk2 dX6_copyFrom_34 ?_
  refine pf_X6_45 (pc := 37) C hk  hF dX6_copyFrom_37 (fun w5 hF => ?_)
  refine x_aload_n (pc := 40) C 0 dX6_copyFrom_40 rfl rfl ?_
  refine x_aload_n (pc := 41) C 1 dX6_copyFrom_41 rfl rfl ?_
  refine gf_X6_48 (pc := 42) C hk2 dX6_copyFrom_42 ?_
  refine pf_X6_48 (pc := 45) C hk  hF dX6_copyFrom_45 (fun w6 hF => ?_)
  refine x_aload_n (pc := 48) C 0 dX6_copyFrom_48 rfl rfl ?_
  refine x_aload_n (pc := 49) C 1 dX6_copyFrom_49 rfl rfl ?_
  refine gf_X6_51 (pc := 50) C hk2 dX6_copyFrom_50 ?_
  refine pf_X6_51 (pc := 53) C hk  hF dX6_copyFrom_53 (fun w7 hF => ?_)
  refine x_aload_n (pc := 56) C 0 dX6_copyFrom_56 rfl rfl ?_
  refine x_aload_n (pc := 57) C 1 dX6_copyFrom_57 rfl rfl ?_
  refine gf_X6_54 (pc := 58) C hk2 dX6_copyFrom_58 ?_
  refine pf_X6_54 (pc := 61) C hk  hF dX6_copyFrom_61 (fun w8 hF => ?_)
  refine x_aload_n (pc := 64) C 0 dX6_copyFrom_64 rfl rfl ?_
  refine gf_X6_21 (pc := 65) C hk dX6_copyFrom_65 ?_
  refine x_aload_n (pc := 68) C 1 dX6_copyFrom_68 rfl rfl ?_
  refine gf_X6_21 (pc := 69) C hk2 dX6_copyFrom_69 ?_
  refine cV0_1 (pc := 72) C hF (fun _ _ h => c_X2_copyFrom l G b hk hk2 h) vm_X2_copyFrom wq455 rfl rfl ⟨Nat.le_of_ble_eq_true rfl, Nat.le_of_ble_eq_true rfl⟩ rfl rfl (fun _ h => CW.lv h hk) (Nat.le_of_ble_eq_true rfl) ⟨Nat.le_refl _, Nat.le_refl _⟩ dX6_copyFrom_72 (fun _ w9 hF => ?_)
  refine x_aload_n (pc := 75) C 0 dX6_copyFrom_75 rfl rfl ?_
  refine gf_X6_28 (pc := 76) C hk dX6_copyFrom_76 ?_
  refine x_aload_n (pc := 79) C 1 dX6_copyFrom_79 rfl rfl ?_
  refine gf_X6_28 (pc := 80) C hk2 dX6_copyFrom_80 ?_
  refine cV0_1 (pc := 83) C hF (fun _ _ h => c_X0_copyFrom l G b hk hk2 h) vm_X0_copyFrom wq471 rfl rfl ⟨Nat.le_of_ble_eq_true rfl, Nat.le_of_ble_eq_true rfl⟩ rfl rfl (fun _ h => CW.ch h hk) (Nat.le_of_ble_eq_true rfl) ⟨Nat.le_refl _, Nat.le_refl _⟩ dX6_copyFrom_83 (fun _ w10 hF => ?_)
  refine x_aload_n (pc := 86) C 0 dX6_copyFrom_86 rfl rfl ?_
  refine gf_X6_35 (pc := 87) C hk dX6_copyFrom_87 ?_
  refine x_aload_n (pc := 90) C 1 dX6_copyFrom_90 rfl rfl ?_
  refine gf_X6_35 (pc := 91) C hk2 dX6_copyFrom_91 ?_
  refine cV0_1 (pc := 94) C hF (fun _ _ h => c_X1_copyFrom l G b hk hk2 h) vm_X1_copyFrom wq476 rfl rfl ⟨Nat.le_of_ble_eq_true rfl, Nat.le_of_ble_eq_true rfl⟩ rfl rfl (fun _ h => CW.hk h hk) (Nat.le_of_ble_eq_true rfl) ⟨Nat.le_refl _, Nat.le_refl _⟩ dX6_copyFrom_94 (fun _ w11 hF => ?_)
  obtain ⟨-, rfl⟩ := ret_eq hF
  exact x_vret (pc := 97) C hr (fun _ h => h) dX6_copyFrom_97
set_option maxRecDepth 4000 in
theorem c_X5_popInto (l : Launch) (G : xG) (b : Nat)   {k2 : Nat} (hk2 : k2 < 8)  {w w' : xWt}  (hF : F_X5_popInto k2 w = some ((), w')) : xMet l G b yX5_popInto cX5_popInto 4 none (xR 4) [.ref (svb b), .ref (yb b k2)] (CW G b w) none (CW G b w') 0 0 := by
  refine x_of (own := RX5) rfl (plainFor_of_name pn_X5) (Nat.le_of_ble_eq_true rfl) ?_
  intro p e s m args below meth c ha C hr _
  unfold F_X5_popInto at hF
  refine x_aload_n (pc := 0) C 0 dX5_popInto_0 rfl rfl ?_
  refine gf_X5_22 (pc := 1) C  dX5_popInto_1 ?_
  refine x_if_le (pc := 4) C 16 dX5_popInto_4 rfl hF (fun c17 hF => ?_) (fun c17 hF => ?_)
  · refine x_iconst (pc := 16) C 5 dX5_popInto_16 ki_5 ?_
    refine x_istore_n (pc := 17) C [(2, .int (5)), (0, .ref (svb b)), (1, .ref (yb b k2))] dX5_popInto_17 rfl (by decide) rfl ?_
    refine x_aload_n (pc := 18) C 1 dX5_popInto_18 rfl rfl ?_
    refine x_iload_n (pc := 19) C 0 dX5_popInto_19 rfl rfl ?_
    refine cV1_1 (pc := 20) (val := yv b) C hF (fun _ _ h => c_X5_placeAt l G b  _ h) vm_X5_placeAt wq447 rfl rfl ⟨Nat.le_of_ble_eq_true rfl, Nat.le_of_ble_eq_true rfl⟩ rfl rfl (fun _ h => CW.sv h) (Nat.le_of_ble_eq_true rfl) ⟨Nat.le_refl _, Nat.le_refl _⟩ dX5_popInto_20 (fun x2 w1 hF => ?_)
    rcases x2 with _ | k3
    · replace hF := oy_none hF
      refine x_astore_nN (pc := 23) C [(3, .null), (2, .int (5)), (0, .ref (svb b)), (1, .ref (yb b k2))] dX5_popInto_23 rfl (by decide) rfl ?_
      refine x_aload_n (pc := 24) C 2 dX5_popInto_24 rfl rfl ?_
      refine gf_X5_18 (pc := 25) C  dX5_popInto_25 ?_
      refine x_if_le (pc := 28) C 55 dX5_popInto_28 rfl hF (fun c4 hF => ?_) (fun c4 hF => ?_)
      · obtain ⟨-, rfl⟩ := ret_eq hF
        exact x_vret (pc := 55) C hr (fun _ h => h) dX5_popInto_55
      · refine x_aload_nN (pc := 31) C 0 dX5_popInto_31 rfl rfl ?_
        refine x_ifnullN (pc := 32) C 55 dX5_popInto_32 rfl ?_
        obtain ⟨-, rfl⟩ := ret_eq hF
        exact x_vret (pc := 55) C hr (fun _ h => h) dX5_popInto_55
    · obtain ⟨hk3, hF⟩ := oy_some hF
      refine x_astore_n (pc := 23) C [(3, .ref (yb b k3)), (2, .int (5)), (0, .ref (svb b)), (1, .ref (yb b k2))] dX5_popInto_23 rfl (by decide) rfl ?_
      refine x_aload_n (pc := 24) C 2 dX5_popInto_24 rfl rfl ?_
      refine gf_X5_18 (pc := 25) C  dX5_popInto_25 ?_
      refine x_if_le (pc := 28) C 55 dX5_popInto_28 rfl hF (fun c8 hF => ?_) (fun c8 hF => ?_)
      · obtain ⟨-, rfl⟩ := ret_eq hF
        exact x_vret (pc := 55) C hr (fun _ h => h) dX5_popInto_55
      · refine x_aload_n (pc := 31) C 0 dX5_popInto_31 rfl rfl ?_
        refine x_ifnull (pc := 32) C dX5_popInto_32 ?_
        refine x_aload_n (pc := 35) C 3 dX5_popInto_35 rfl rfl ?_
        refine x_aload_n (pc := 36) C 0 dX5_popInto_36 rfl rfl ?_
        refine cV0_1 (pc := 37) C hF (fun _ _ h => c_X6_copyFrom l G b hk2 hk3 h) vm_X6_copyFrom wq451 rfl rfl ⟨Nat.le_of_ble_eq_true rfl, Nat.le_of_ble_eq_true rfl⟩ rfl rfl (fun _ h => CW.yd h hk2) (Nat.le_of_ble_eq_true rfl) ⟨Nat.le_refl _, Nat.le_refl _⟩ dX5_popInto_37 (fun _ w5 hF => ?_)
        refine x_aload_n (pc := 40) C 2 dX5_popInto_40 rfl rfl ?_
        refine x_iload_n (pc := 41) C 1 dX5_popInto_41 rfl rfl ?_
        refine pf_X5_22 (pc := 42) C   hF dX5_popInto_42 (fun w6 hF => ?_)
        refine x_aload_n (pc := 45) C 2 dX5_popInto_45 rfl rfl ?_
        refine x_dup (pc := 46) C dX5_popInto_46 rfl ?_
        refine gf_X5_18 (pc := 47) C  dX5_popInto_47 ?_
        refine x_iconst (pc := 50) C 1 dX5_popInto_50 ki_1 ?_
        refine x_isub (pc := 51) C dX5_popInto_51 ?_
        refine pf_X5_18 (pc := 52) C   hF dX5_popInto_52 (fun w7 hF => ?_)
        obtain ⟨-, rfl⟩ := ret_eq hF
        exact x_vret (pc := 55) C hr (fun _ h => h) dX5_popInto_55
  · refine x_aload_n (pc := 7) C 0 dX5_popInto_7 rfl rfl ?_
    refine gf_X5_22 (pc := 8) C  dX5_popInto_8 ?_
    refine x_iconst (pc := 11) C 1 dX5_popInto_11 ki_1 ?_
    refine x_isub (pc := 12) C dX5_popInto_12 ?_
    refine x_goto (pc := 13) C 17 dX5_popInto_13 rfl ?_
    refine x_istore_n (pc := 17) C [(2, .int (((w.2.1 8 1) - 1))), (0, .ref (svb b)), (1, .ref (yb b k2))] dX5_popInto_17 rfl (by decide) rfl ?_
    refine x_aload_n (pc := 18) C 1 dX5_popInto_18 rfl rfl ?_
    refine x_iload_n (pc := 19) C 0 dX5_popInto_19 rfl rfl ?_
    refine cV1_1 (pc := 20) (val := yv b) C hF (fun _ _ h => c_X5_placeAt l G b  _ h) vm_X5_placeAt wq447 rfl rfl ⟨Nat.le_of_ble_eq_true rfl, Nat.le_of_ble_eq_true rfl⟩ rfl rfl (fun _ h => CW.sv h) (Nat.le_of_ble_eq_true rfl) ⟨Nat.le_refl _, Nat.le_refl _⟩ dX5_popInto_20 (fun x10 w9 hF => ?_)
    rcases x10 with _ | k11
    · replace hF := oy_none hF
      refine x_astore_nN (pc := 23) C [(3, .null), (2, .int (((w.2.1 8 1) - 1))), (0, .ref (svb b)), (1, .ref (yb b k2))] dX5_popInto_23 rfl (by decide) rfl ?_
      refine x_aload_n (pc := 24) C 2 dX5_popInto_24 rfl rfl ?_
      refine gf_X5_18 (pc := 25) C  dX5_popInto_25 ?_
      refine x_if_le (pc := 28) C 55 dX5_popInto_28 rfl hF (fun c12 hF => ?_) (fun c12 hF => ?_)
      · obtain ⟨-, rfl⟩ := ret_eq hF
        exact x_vret (pc := 55) C hr (fun _ h => h) dX5_popInto_55
      · refine x_aload_nN (pc := 31) C 0 dX5_popInto_31 rfl rfl ?_
        refine x_ifnullN (pc := 32) C 55 dX5_popInto_32 rfl ?_
        obtain ⟨-, rfl⟩ := ret_eq hF
        exact x_vret (pc := 55) C hr (fun _ h => h) dX5_popInto_55
    · obtain ⟨hk11, hF⟩ := oy_some hF
      refine x_astore_n (pc := 23) C [(3, .ref (yb b k11)), (2, .int (((w.2.1 8 1) - 1))), (0, .ref (svb b)), (1, .ref (yb b k2))] dX5_popInto_23 rfl (by decide) rfl ?_
      refine x_aload_n (pc := 24) C 2 dX5_popInto_24 rfl rfl ?_
      refine gf_X5_18 (pc := 25) C  dX5_popInto_25 ?_
      refine x_if_le (pc := 28) C 55 dX5_popInto_28 rfl hF (fun c16 hF => ?_) (fun c16 hF => ?_)
      · obtain ⟨-, rfl⟩ := ret_eq hF
        exact x_vret (pc := 55) C hr (fun _ h => h) dX5_popInto_55
      · refine x_aload_n (pc := 31) C 0 dX5_popInto_31 rfl rfl ?_
        refine x_ifnull (pc := 32) C dX5_popInto_32 ?_
        refine x_aload_n (pc := 35) C 3 dX5_popInto_35 rfl rfl ?_
        refine x_aload_n (pc := 36) C 0 dX5_popInto_36 rfl rfl ?_
        refine cV0_1 (pc := 37) C hF (fun _ _ h => c_X6_copyFrom l G b hk2 hk11 h) vm_X6_copyFrom wq451 rfl rfl ⟨Nat.le_of_ble_eq_true rfl, Nat.le_of_ble_eq_true rfl⟩ rfl rfl (fun _ h => CW.yd h hk2) (Nat.le_of_ble_eq_true rfl) ⟨Nat.le_refl _, Nat.le_refl _⟩ dX5_popInto_37 (fun _ w13 hF => ?_)
        refine x_aload_n (pc := 40) C 2 dX5_popInto_40 rfl rfl ?_
        refine x_iload_n (pc := 41) C 1 dX5_popInto_41 rfl rfl ?_
        refine pf_X5_22 (pc := 42) C   hF dX5_popInto_42 (fun w14 hF => ?_)
        refine x_aload_n (pc := 45) C 2 dX5_popInto_45 rfl rfl ?_
        refine x_dup (pc := 46) C dX5_popInto_46 rfl ?_
        refine gf_X5_18 (pc := 47) C  dX5_popInto_47 ?_
        refine x_iconst (pc := 50) C 1 dX5_popInto_50 ki_1 ?_
        refine x_isub (pc := 51) C dX5_popInto_51 ?_
        refine pf_X5_18 (pc := 52) C   hF dX5_popInto_52 (fun w15 hF => ?_)
        obtain ⟨-, rfl⟩ := ret_eq hF
        exact x_vret (pc := 55) C hr (fun _ h => h) dX5_popInto_55
set_option maxRecDepth 4000 in
theorem c_X5_push (l : Launch) (G : xG) (b : Nat)   {k2 : Nat} (hk2 : k2 < 8)  {w w' : xWt}  (hF : F_X5_push k2 w = some ((), w')) : xMet l G b yX5_push cX5_push 3 none (xR 4) [.ref (svb b), .ref (yb b k2)] (CW G b w) none (CW G b w') 0 0 := by
  refine x_of (own := RX5) rfl (plainFor_of_name pn_X5) (Nat.le_of_ble_eq_true rfl) ?_
  intro p e s m args below meth c ha C hr _
  unfold F_X5_push at hF
  refine x_aload_n (pc := 0) C 0 dX5_push_0 rfl rfl ?_
  refine x_aload_n (pc := 1) C 0 dX5_push_1 rfl rfl ?_
  refine gf_X5_22 (pc := 2) C  dX5_push_2 ?_
  refine cV1_1 (pc := 5) (val := yv b) C hF (fun _ _ h => c_X5_placeAt l G b  _ h) vm_X5_placeAt wq447 rfl rfl ⟨Nat.le_of_ble_eq_true rfl, Nat.le_of_ble_eq_true rfl⟩ rfl rfl (fun _ h => CW.sv h) (Nat.le_of_ble_eq_true rfl) ⟨Nat.le_refl _, Nat.le_refl _⟩ dX5_push_5 (fun x2 w1 hF => ?_)
  rcases x2 with _ | k3
  · replace hF := oy_none hF
    refine x_astore_nN (pc := 8) C [(2, .null), (0, .ref (svb b)), (1, .ref (yb b k2))] dX5_push_8 rfl (by decide) rfl ?_
    refine x_aload_nN (pc := 9) C 0 dX5_push_9 rfl rfl ?_
    refine x_ifnullN (pc := 10) C 58 dX5_push_10 rfl ?_
    obtain ⟨-, rfl⟩ := ret_eq hF
    exact x_vret (pc := 58) C hr (fun _ h => h) dX5_push_58
  · obtain ⟨hk3, hF⟩ := oy_some hF
    refine x_astore_n (pc := 8) C [(2, .ref (yb b k3)), (0, .ref (svb b)), (1, .ref (yb b k2))] dX5_push_8 rfl (by decide) rfl ?_
    refine x_aload_n (pc := 9) C 0 dX5_push_9 rfl rfl ?_
    refine x_ifnull (pc := 10) C dX5_push_10 ?_
    refine x_aload_n (pc := 13) C 0 dX5_push_13 rfl rfl ?_
    refine x_aload_n (pc := 14) C 2 dX5_push_14 rfl rfl ?_
    refine cV0_1 (pc := 15) C hF (fun _ _ h => c_X6_copyFrom l G b hk3 hk2 h) vm_X6_copyFrom wq451 rfl rfl ⟨Nat.le_of_ble_eq_true rfl, Nat.le_of_ble_eq_true rfl⟩ rfl rfl (fun _ h => CW.yd h hk3) (Nat.le_of_ble_eq_true rfl) ⟨Nat.le_refl _, Nat.le_refl _⟩ dX5_push_15 (fun _ w4 hF => ?_)
    refine x_aload_n (pc := 18) C 1 dX5_push_18 rfl rfl ?_
    refine x_aload_n (pc := 19) C 1 dX5_push_19 rfl rfl ?_
    refine gf_X5_22 (pc := 20) C  dX5_push_20 ?_
    refine x_iconst (pc := 23) C 1 dX5_push_23 ki_1 ?_
    refine x_iadd (pc := 24) C dX5_push_24 ?_
    refine x_bipush (pc := 25) C 6 dX5_push_25 kb_6 ?_
    refine x_icmp_ge (pc := 27) C 39 dX5_push_27 rfl hF (fun c9 hF => ?_) (fun c9 hF => ?_)
    · refine x_iconst (pc := 39) C 0 dX5_push_39 ki_0 ?_
      refine pf_X5_22 (pc := 40) C   hF dX5_push_40 (fun w5 hF => ?_)
      refine x_aload_n (pc := 43) C 1 dX5_push_43 rfl rfl ?_
      refine x_aload_n (pc := 44) C 1 dX5_push_44 rfl rfl ?_
      refine gf_X5_18 (pc := 45) C  dX5_push_45 ?_
      refine x_iconst (pc := 48) C 1 dX5_push_48 ki_1 ?_
      refine x_iadd (pc := 49) C dX5_push_49 ?_
      refine x_bipush (pc := 50) C 6 dX5_push_50 kb_6 ?_
      refine x_min (pc := 52) C wq508 wq464 wq465 wq466 ⟨Nat.le_of_ble_eq_true rfl, Nat.le_of_ble_eq_true rfl⟩ ⟨Nat.le_refl _, Nat.le_refl _⟩ dX5_push_52 ?_
      refine pf_X5_18 (pc := 55) C   hF dX5_push_55 (fun w6 hF => ?_)
      obtain ⟨-, rfl⟩ := ret_eq hF
      exact x_vret (pc := 58) C hr (fun _ h => h) dX5_push_58
    · refine x_aload_n (pc := 30) C 1 dX5_push_30 rfl rfl ?_
      refine gf_X5_22 (pc := 31) C  dX5_push_31 ?_
      refine x_iconst (pc := 34) C 1 dX5_push_34 ki_1 ?_
      refine x_iadd (pc := 35) C dX5_push_35 ?_
      refine x_goto (pc := 36) C 40 dX5_push_36 rfl ?_
      refine pf_X5_22 (pc := 40) C   hF dX5_push_40 (fun w7 hF => ?_)
      refine x_aload_n (pc := 43) C 1 dX5_push_43 rfl rfl ?_
      refine x_aload_n (pc := 44) C 1 dX5_push_44 rfl rfl ?_
      refine gf_X5_18 (pc := 45) C  dX5_push_45 ?_
      refine x_iconst (pc := 48) C 1 dX5_push_48 ki_1 ?_
      refine x_iadd (pc := 49) C dX5_push_49 ?_
      refine x_bipush (pc := 50) C 6 dX5_push_50 kb_6 ?_
      refine x_min (pc := 52) C wq508 wq464 wq465 wq466 ⟨Nat.le_of_ble_eq_true rfl, Nat.le_of_ble_eq_true rfl⟩ ⟨Nat.le_refl _, Nat.le_refl _⟩ dX5_push_52 ?_
      refine pf_X5_18 (pc := 55) C   hF dX5_push_55 (fun w8 hF => ?_)
      obtain ⟨-, rfl⟩ := ret_eq hF
      exact x_vret (pc := 58) C hr (fun _ h => h) dX5_push_58
set_option maxRecDepth 4000 in
theorem c_X6_addChild (l : Launch) (G : xG) (b : Nat) {k : Nat} (hk : k < 8)    {w w' : xWt} {v : Int32} (hF : F_X6_addChild k w = some (v, w')) : xMet l G b yX6_addChild cX6_addChild 2 (some .int) (xR 3) [.ref (yb b k)] (CW G b w) (some (.int v)) (CW G b w') 0 0 := by
  refine x_of (own := RX6) rfl (plainFor_of_name pn_X6) (Nat.le_of_ble_eq_true rfl) ?_
  intro p e s m args below meth c ha C hr _
  unfold F_X6_addChild at hF
  refine x_aload_n (pc := 0) C 0 dX6_addChild_0 rfl rfl ?_
  refine gf_X6_28 (pc := 1) C hk dX6_addChild_1 ?_
  refine cV1_0 (pc := 4) (val := Value.int) C hF (fun _ _ h => c_X0_lowestFree l G b hk h) vm_X0_lowestFree wq569 rfl rfl ⟨Nat.le_of_ble_eq_true rfl, Nat.le_of_ble_eq_true rfl⟩ rfl rfl (fun _ h => CW.ch h hk) (Nat.le_of_ble_eq_true rfl) ⟨Nat.le_refl _, Nat.le_refl _⟩ dX6_addChild_4 (fun x2 w1 hF => ?_)
  refine x_istore_n (pc := 7) C [(1, .int (x2)), (0, .ref (yb b k))] dX6_addChild_7 rfl (by decide) rfl ?_
  refine x_aload_n (pc := 8) C 1 dX6_addChild_8 rfl rfl ?_
  refine gf_X6_28 (pc := 9) C hk dX6_addChild_9 ?_
  refine x_iload_n (pc := 12) C 0 dX6_addChild_12 rfl rfl ?_
  refine cV0_1 (pc := 13) C hF (fun _ _ h => c_X0_fillPlace l G b hk _ h) vm_X0_fillPlace wq570 rfl rfl ⟨Nat.le_of_ble_eq_true rfl, Nat.le_of_ble_eq_true rfl⟩ rfl rfl (fun _ h => CW.ch h hk) (Nat.le_of_ble_eq_true rfl) ⟨Nat.le_refl _, Nat.le_refl _⟩ dX6_addChild_13 (fun _ w3 hF => ?_)
  refine x_iload_n (pc := 16) C 0 dX6_addChild_16 rfl rfl ?_
  obtain ⟨rfl, rfl⟩ := ret_eq hF
  exact x_iret (pc := 17) C hr rfl (fun _ h => h) dX6_addChild_17
set_option maxRecDepth 4000 in
theorem c_X6_mayBurn (l : Launch) (G : xG) (b : Nat) {k : Nat} (hk : k < 8)   (a1 : Int32) (a2 : Int32) (a3 : Int32) {w w' : xWt} {v : Int32} (hF : F_X6_mayBurn k a1 a2 a3 w = some (v, w')) : xMet l G b yX6_mayBurn cX6_mayBurn 6 (some .boolean) (xR 1) [.ref (yb b k), .int (a1), .int (a2), .int (a3)] (CW G b w) (some (.int v)) (CW G b w') 0 0 := by
  refine x_of (own := RX6) rfl (plainFor_of_name pn_X6) (Nat.le_of_ble_eq_true rfl) ?_
  intro p e s m args below meth c ha C hr _
  unfold F_X6_mayBurn at hF
  refine x_iload_n (pc := 0) C 2 dX6_mayBurn_0 rfl rfl ?_
  refine x_iconst (pc := 1) C 1 dX6_mayBurn_1 ki_1 ?_
  refine x_icmp_ne (pc := 2) C 31 dX6_mayBurn_2 rfl hF (fun c15 hF => ?_) (fun c15 hF => ?_)
  · refine x_iload_n (pc := 31) C 3 dX6_mayBurn_31 rfl rfl ?_
    refine cS1_1 (pc := 32) (val := Value.int) C hF (fun _ _ h => c_X1_firstOf l G b  _ h) sm_X1_firstOf wq304 rfl rfl ⟨Nat.le_of_ble_eq_true rfl, Nat.le_of_ble_eq_true rfl⟩ (Nat.le_of_ble_eq_true rfl) ⟨Nat.le_refl _, Nat.le_refl _⟩ dX6_mayBurn_32 (fun x2 w1 hF => ?_)
    refine x_istore (pc := 35) C [(4, .int (x2)), (0, .ref (yb b k)), (1, .int (a1)), (2, .int (a2)), (3, .int (a3))] dX6_mayBurn_35 (by decide) rfl ?_
    refine x_iload_n (pc := 37) C 4 dX6_mayBurn_37 rfl rfl ?_
    refine x_iconst (pc := 38) C (-1) dX6_mayBurn_38 ki_m1 ?_
    refine x_icmp_ne (pc := 39) C 46 dX6_mayBurn_39 rfl hF (fun c11 hF => ?_) (fun c11 hF => ?_)
    · refine x_aload_n (pc := 46) C 1 dX6_mayBurn_46 rfl rfl ?_
      refine gf_X6_35 (pc := 47) C hk dX6_mayBurn_47 ?_
      refine gf_X6_213 (pc := 50) C hk dX6_mayBurn_50 ?_
      refine x_iload_n (pc := 53) C 2 dX6_mayBurn_53 rfl rfl ?_
      refine x_iload (pc := 54) C 0 dX6_mayBurn_54 rfl ?_
      refine x_iload (pc := 56) C 0 dX6_mayBurn_56 rfl ?_
      refine x_iconst (pc := 58) C 3 dX6_mayBurn_58 ki_3 ?_
      refine x_iadd (pc := 59) C dX6_mayBurn_59 ?_
      refine cV1_3 (pc := 60) (val := Value.int) C hF (fun _ _ h => r_X4_number l G b (vr_y 13 hk (by decide)) _ _ _ h) vm_X4_number wq305 rfl rfl ⟨Nat.le_of_ble_eq_true rfl, Nat.le_of_ble_eq_true rfl⟩ rfl rfl (fun _ h => CW.row0 h (vr_y 13 hk (by decide))) (Nat.le_of_ble_eq_true rfl) ⟨Nat.le_refl _, Nat.le_refl _⟩ dX6_mayBurn_60 (fun x4 w3 hF => ?_)
      refine x_istore (pc := 63) C [(5, .int (x4)), (4, .int (x2)), (0, .ref (yb b k)), (1, .int (a1)), (2, .int (a2)), (3, .int (a3))] dX6_mayBurn_63 (by decide) rfl ?_
      refine x_aload_n (pc := 65) C 2 dX6_mayBurn_65 rfl rfl ?_
      refine gf_X6_35 (pc := 66) C hk dX6_mayBurn_66 ?_
      refine gf_X6_213 (pc := 69) C hk dX6_mayBurn_69 ?_
      refine x_iload_n (pc := 72) C 3 dX6_mayBurn_72 rfl rfl ?_
      refine x_iconst (pc := 73) C 0 dX6_mayBurn_73 ki_0 ?_
      refine x_bipush (pc := 74) C 15 dX6_mayBurn_74 kb_15 ?_
      refine cV1_3 (pc := 76) (val := Value.int) C hF (fun _ _ h => r_X4_number l G b (vr_y 13 hk (by decide)) _ _ _ h) vm_X4_number wq305 rfl rfl ⟨Nat.le_of_ble_eq_true rfl, Nat.le_of_ble_eq_true rfl⟩ rfl rfl (fun _ h => CW.row0 h (vr_y 13 hk (by decide))) (Nat.le_of_ble_eq_true rfl) ⟨Nat.le_refl _, Nat.le_refl _⟩ dX6_mayBurn_76 (fun x6 w5 hF => ?_)
      refine x_iload (pc := 79) C 0 dX6_mayBurn_79 rfl ?_
      refine x_icmp_ne (pc := 81) C 88 dX6_mayBurn_81 rfl hF (fun c7 hF => ?_) (fun c7 hF => ?_)
      · refine x_iconst (pc := 88) C 0 dX6_mayBurn_88 ki_0 ?_
        obtain ⟨rfl, rfl⟩ := ret_eq hF
        exact x_zret (pc := 89) C rfl hr rfl (fun _ h => h) dX6_mayBurn_89
      · refine x_iconst (pc := 84) C 1 dX6_mayBurn_84 ki_1 ?_
        refine x_goto (pc := 85) C 89 dX6_mayBurn_85 rfl ?_
        obtain ⟨rfl, rfl⟩ := ret_eq hF
        exact x_zret (pc := 89) C rfl hr rfl (fun _ h => h) dX6_mayBurn_89
    · refine x_iconst (pc := 42) C 0 dX6_mayBurn_42 ki_0 ?_
      refine x_goto (pc := 43) C 63 dX6_mayBurn_43 rfl ?_
      refine x_istore (pc := 63) C [(5, .int (0)), (4, .int (x2)), (0, .ref (yb b k)), (1, .int (a1)), (2, .int (a2)), (3, .int (a3))] dX6_mayBurn_63 (by decide) rfl ?_
      refine x_aload_n (pc := 65) C 2 dX6_mayBurn_65 rfl rfl ?_
      refine gf_X6_35 (pc := 66) C hk dX6_mayBurn_66 ?_
      refine gf_X6_213 (pc := 69) C hk dX6_mayBurn_69 ?_
      refine x_iload_n (pc := 72) C 3 dX6_mayBurn_72 rfl rfl ?_
      refine x_iconst (pc := 73) C 0 dX6_mayBurn_73 ki_0 ?_
      refine x_bipush (pc := 74) C 15 dX6_mayBurn_74 kb_15 ?_
      refine cV1_3 (pc := 76) (val := Value.int) C hF (fun _ _ h => r_X4_number l G b (vr_y 13 hk (by decide)) _ _ _ h) vm_X4_number wq305 rfl rfl ⟨Nat.le_of_ble_eq_true rfl, Nat.le_of_ble_eq_true rfl⟩ rfl rfl (fun _ h => CW.row0 h (vr_y 13 hk (by decide))) (Nat.le_of_ble_eq_true rfl) ⟨Nat.le_refl _, Nat.le_refl _⟩ dX6_mayBurn_76 (fun x9 w8 hF => ?_)
      refine x_iload (pc := 79) C 0 dX6_mayBurn_79 rfl ?_
      refine x_icmp_ne (pc := 81) C 88 dX6_mayBurn_81 rfl hF (fun c10 hF => ?_) (fun c10 hF => ?_)
      · refine x_iconst (pc := 88) C 0 dX6_mayBurn_88 ki_0 ?_
        obtain ⟨rfl, rfl⟩ := ret_eq hF
        exact x_zret (pc := 89) C rfl hr rfl (fun _ h => h) dX6_mayBurn_89
      · refine x_iconst (pc := 84) C 1 dX6_mayBurn_84 ki_1 ?_
        refine x_goto (pc := 85) C 89 dX6_mayBurn_85 rfl ?_
        obtain ⟨rfl, rfl⟩ := ret_eq hF
        exact x_zret (pc := 89) C rfl hr rfl (fun _ h => h) dX6_mayBurn_89
  · refine x_aload_n (pc := 5) C 0 dX6_mayBurn_5 rfl rfl ?_
    refine gf_X6_39 (pc := 6) C hk dX6_mayBurn_6 ?_
    refine x_aload_n (pc := 9) C 0 dX6_mayBurn_9 rfl rfl ?_
    refine gf_X6_21 (pc := 10) C hk dX6_mayBurn_10 ?_
    refine gf_X6_207 (pc := 13) C hk dX6_mayBurn_13 ?_
    refine x_iload_n (pc := 16) C 1 dX6_mayBurn_16 rfl rfl ?_
    refine cV1_1 (pc := 17) (val := Value.int) C hF (fun _ _ h => r_X4_get l G b (vr_y 4 hk (by decide)) _ h) vm_X4_get wq226 rfl rfl ⟨Nat.le_of_ble_eq_true rfl, Nat.le_of_ble_eq_true rfl⟩ rfl rfl (fun _ h => CW.row0 h (vr_y 4 hk (by decide))) (Nat.le_of_ble_eq_true rfl) ⟨Nat.le_refl _, Nat.le_refl _⟩ dX6_mayBurn_17 (fun x13 w12 hF => ?_)
    refine x_isub (pc := 20) C dX6_mayBurn_20 ?_
    refine x_iconst (pc := 21) C 2 dX6_mayBurn_21 ki_2 ?_
    refine x_icmp_lt (pc := 22) C 29 dX6_mayBurn_22 rfl hF (fun c14 hF => ?_) (fun c14 hF => ?_)
    · refine x_iconst (pc := 29) C 0 dX6_mayBurn_29 ki_0 ?_
      obtain ⟨rfl, rfl⟩ := ret_eq hF
      exact x_zret (pc := 30) C rfl hr rfl (fun _ h => h) dX6_mayBurn_30
    · refine x_iconst (pc := 25) C 1 dX6_mayBurn_25 ki_1 ?_
      refine x_goto (pc := 26) C 30 dX6_mayBurn_26 rfl ?_
      obtain ⟨rfl, rfl⟩ := ret_eq hF
      exact x_zret (pc := 30) C rfl hr rfl (fun _ h => h) dX6_mayBurn_30
set_option maxRecDepth 4000 in
theorem s_X6_burnable_19 (C : xC p m c s args meth G b cX6_burnable 7 RX6) {k : Nat} (hk : k < 8)  : ∀ (n9 : Nat) (l1 : Int32) (l2 : Int32) (l3 : Int32) (l4 : Int32) (l5 : Int32) (l6 : Int32) (w : xWt) (o : (Int32 × Int32)) (w' : xWt), L_X6_burnable_19 k n9 l1 l2 l3 l4 l5 l6 w = some (o, w') → xW p l e (xR 2) s m args below meth c Q b 7 (CW G b w') 0 0 61 [(0, .ref (yb b k)), (1, .int (l1)), (2, .int (l2)), (3, .int (l3)), (4, .int (l4)), (5, .int (o.1)), (6, .int (o.2))] [] → xW p l e (xR 2) s m args below meth c Q b 7 (CW G b w) 0 0 19 [(0, .ref (yb b k)), (1, .int (l1)), (2, .int (l2)), (3, .int (l3)), (4, .int (l4)), (5, .int (l5)), (6, .int (l6))] [] := by
  intro n9
  induction n9 with
  | zero => intro l1 l2 l3 l4 l5 l6 w o w' hF; exact none_ne (show none = some _ from hF)
  | succ n9 ih =>
    intro l1 l2 l3 l4 l5 l6 w o w' hF kx
    replace hF : B_X6_burnable_19 k (L_X6_burnable_19 k n9) l1 l2 l3 l4 l5 l6 w = some (o, w') := hF
    unfold B_X6_burnable_19 at hF
    refine x_iload (pc := 19) C 6 dX6_burnable_19 rfl ?_
    refine x_iload (pc := 21) C 4 dX6_burnable_21 rfl ?_
    refine x_icmp_ge (pc := 23) C 61 dX6_burnable_23 rfl hF (fun c8 hF => ?_) (fun c8 hF => ?_)
    · obtain ⟨rfl, rfl⟩ := ret_eq hF
      exact x_sub [0, 1, 2, 3, 4, 5, 6] rfl kx
    · refine x_iload (pc := 26) C 5 dX6_burnable_26 rfl ?_
      refine x_aload_n (pc := 28) C 0 dX6_burnable_28 rfl rfl ?_
      refine x_aload_n (pc := 29) C 0 dX6_burnable_29 rfl rfl ?_
      refine gf_X6_28 (pc := 30) C hk dX6_burnable_30 ?_
      refine x_iload_n (pc := 33) C 1 dX6_burnable_33 rfl rfl ?_
      refine x_iload (pc := 34) C 6 dX6_burnable_34 rfl ?_
      refine cV1_2 (pc := 36) (val := Value.int) C hF (fun _ _ h => c_X0_leafOnHeap l G b hk _ _ h) vm_X0_leafOnHeap wq412 rfl rfl ⟨Nat.le_of_ble_eq_true rfl, Nat.le_of_ble_eq_true rfl⟩ rfl rfl (fun _ h => CW.ch h hk) (Nat.le_of_ble_eq_true rfl) ⟨Nat.le_refl _, Nat.le_refl _⟩ dX6_burnable_36 (fun x4 w3 hF => ?_)
      refine x_iload_n (pc := 39) C 2 dX6_burnable_39 rfl rfl ?_
      refine x_iload_n (pc := 40) C 3 dX6_burnable_40 rfl rfl ?_
      refine cV1_3 (pc := 41) (val := Value.int) C hF (fun _ _ h => c_X6_mayBurn l G b hk _ _ _ h) vm_X6_mayBurn wq299 rfl rfl ⟨Nat.le_of_ble_eq_true rfl, Nat.le_of_ble_eq_true rfl⟩ rfl rfl (fun _ h => CW.yd h hk) (Nat.le_of_ble_eq_true rfl) ⟨Nat.le_refl _, Nat.le_refl _⟩ dX6_burnable_41 (fun x6 w5 hF => ?_)
      refine x_if_eq (pc := 44) C 51 dX6_burnable_44 rfl hF (fun c7 hF => ?_) (fun c7 hF => ?_)
      · refine x_iconst (pc := 51) C 0 dX6_burnable_51 ki_0 ?_
        refine x_iadd (pc := 52) C dX6_burnable_52 ?_
        refine x_istore (pc := 53) C [(5, .int ((l5 + 0))), (0, .ref (yb b k)), (1, .int (l1)), (2, .int (l2)), (3, .int (l3)), (4, .int (l4)), (6, .int (l6))] dX6_burnable_53 (by decide) rfl ?_
        refine x_iinc (pc := 55) C 6 [(6, .int ((l6 + 1))), (5, .int ((l5 + 0))), (0, .ref (yb b k)), (1, .int (l1)), (2, .int (l2)), (3, .int (l3)), (4, .int (l4))] dX6_burnable_55 rfl rfl (by decide) rfl ?_
        refine x_goto (pc := 58) C 19 dX6_burnable_58 rfl ?_
        exact x_sub [2, 3, 4, 5, 6, 1, 0] rfl (ih _ _ _ _ _ _ _ _ _ hF kx)
      · refine x_iconst (pc := 47) C 1 dX6_burnable_47 ki_1 ?_
        refine x_goto (pc := 48) C 52 dX6_burnable_48 rfl ?_
        refine x_iadd (pc := 52) C dX6_burnable_52 ?_
        refine x_istore (pc := 53) C [(5, .int ((l5 + 1))), (0, .ref (yb b k)), (1, .int (l1)), (2, .int (l2)), (3, .int (l3)), (4, .int (l4)), (6, .int (l6))] dX6_burnable_53 (by decide) rfl ?_
        refine x_iinc (pc := 55) C 6 [(6, .int ((l6 + 1))), (5, .int ((l5 + 1))), (0, .ref (yb b k)), (1, .int (l1)), (2, .int (l2)), (3, .int (l3)), (4, .int (l4))] dX6_burnable_55 rfl rfl (by decide) rfl ?_
        refine x_goto (pc := 58) C 19 dX6_burnable_58 rfl ?_
        exact x_sub [2, 3, 4, 5, 6, 1, 0] rfl (ih _ _ _ _ _ _ _ _ _ hF kx)
set_option maxRecDepth 4000 in
theorem c_X6_burnable (l : Launch) (G : xG) (b : Nat) {k : Nat} (hk : k < 8)   (a1 : Int32) (a2 : Int32) (a3 : Int32) {w w' : xWt} {v : Int32} (hF : F_X6_burnable k a1 a2 a3 w = some (v, w')) : xMet l G b yX6_burnable cX6_burnable 7 (some .int) (xR 2) [.ref (yb b k), .int (a1), .int (a2), .int (a3)] (CW G b w) (some (.int v)) (CW G b w') 0 0 := by
  refine x_of (own := RX6) rfl (plainFor_of_name pn_X6) (Nat.le_of_ble_eq_true rfl) ?_
  intro p e s m args below meth c ha C hr _
  unfold F_X6_burnable at hF
  refine x_aload_n (pc := 0) C 0 dX6_burnable_0 rfl rfl ?_
  refine gf_X6_28 (pc := 1) C hk dX6_burnable_1 ?_
  refine gf_X6_75 (pc := 4) C hk dX6_burnable_4 ?_
  refine x_iload_n (pc := 7) C 1 dX6_burnable_7 rfl rfl ?_
  refine cV1_1 (pc := 8) (val := Value.int) C hF (fun _ _ h => r_X4_get l G b (vr_y 11 hk (by decide)) _ h) vm_X4_get wq226 rfl rfl ⟨Nat.le_of_ble_eq_true rfl, Nat.le_of_ble_eq_true rfl⟩ rfl rfl (fun _ h => CW.row0 h (vr_y 11 hk (by decide))) (Nat.le_of_ble_eq_true rfl) ⟨Nat.le_refl _, Nat.le_refl _⟩ dX6_burnable_8 (fun x2 w1 hF => ?_)
  refine x_istore (pc := 11) C [(4, .int (x2)), (0, .ref (yb b k)), (1, .int (a1)), (2, .int (a2)), (3, .int (a3))] dX6_burnable_11 (by decide) rfl ?_
  refine x_iconst (pc := 13) C 0 dX6_burnable_13 ki_0 ?_
  refine x_istore (pc := 14) C [(5, .int (0)), (4, .int (x2)), (0, .ref (yb b k)), (1, .int (a1)), (2, .int (a2)), (3, .int (a3))] dX6_burnable_14 (by decide) rfl ?_
  refine x_iconst (pc := 16) C 0 dX6_burnable_16 ki_0 ?_
  refine x_istore (pc := 17) C [(6, .int (0)), (5, .int (0)), (4, .int (x2)), (0, .ref (yb b k)), (1, .int (a1)), (2, .int (a2)), (3, .int (a3))] dX6_burnable_17 (by decide) rfl ?_
  obtain ⟨o9, w10, hL, hF⟩ := bd_some hF
  refine x_sub [3, 4, 5, 6, 2, 1, 0] rfl (s_X6_burnable_19 C hk _ _ _ _ _ _ _ _ _ _ hL ?_)
  refine x_iload (pc := 61) C 5 dX6_burnable_61 rfl ?_
  obtain ⟨rfl, rfl⟩ := ret_eq hF
  exact x_iret (pc := 63) C hr rfl (fun _ h => h) dX6_burnable_63
set_option maxRecDepth 4000 in
theorem s_X6_bestHeap_6 (C : xC p m c s args meth G b cX6_bestHeap 6 RX6) {k : Nat} (hk : k < 8)  : ∀ (n9 : Nat) (l1 : Int32) (l2 : Int32) (l3 : Int32) (w : xWt) (o : (Int32 × Int32 × Int32)) (w' : xWt), L_X6_bestHeap_6 k n9 l1 l2 l3 w = some (o, w') → xW p l e (xR 3) s m args below meth c Q b 6 (CW G b w') 0 0 88 [(0, .ref (yb b k)), (1, .int (o.1)), (2, .int (o.2.1)), (3, .int (o.2.2))] [] → xW p l e (xR 3) s m args below meth c Q b 6 (CW G b w) 0 0 6 [(0, .ref (yb b k)), (1, .int (l1)), (2, .int (l2)), (3, .int (l3))] [] := by
  intro n9
  induction n9 with
  | zero => intro l1 l2 l3 w o w' hF; exact none_ne (show none = some _ from hF)
  | succ n9 ih =>
    intro l1 l2 l3 w o w' hF kx
    replace hF : B_X6_bestHeap_6 k (L_X6_bestHeap_6 k n9) l1 l2 l3 w = some (o, w') := hF
    unfold B_X6_bestHeap_6 at hF
    refine x_iload_n (pc := 6) C 3 dX6_bestHeap_6 rfl rfl ?_
    refine x_iconst (pc := 7) C 5 dX6_bestHeap_7 ki_5 ?_
    refine x_icmp_ge (pc := 8) C 88 dX6_bestHeap_8 rfl hF (fun c16 hF => ?_) (fun c16 hF => ?_)
    · obtain ⟨rfl, rfl⟩ := ret_eq hF
      exact x_sub [0, 1, 2, 3] rfl kx
    · refine x_aload_n (pc := 11) C 0 dX6_bestHeap_11 rfl rfl ?_
      refine x_iload_n (pc := 12) C 3 dX6_bestHeap_12 rfl rfl ?_
      refine x_aload_n (pc := 13) C 0 dX6_bestHeap_13 rfl rfl ?_
      refine gf_X6_15 (pc := 14) C hk dX6_bestHeap_14 ?_
      refine x_iconst (pc := 17) C (-1) dX6_bestHeap_17 ki_m1 ?_
      refine cV1_3 (pc := 18) (val := Value.int) C hF (fun _ _ h => c_X6_burnable l G b hk _ _ _ h) vm_X6_burnable wq408 rfl rfl ⟨Nat.le_of_ble_eq_true rfl, Nat.le_of_ble_eq_true rfl⟩ rfl rfl (fun _ h => CW.yd h hk) (Nat.le_of_ble_eq_true rfl) ⟨Nat.le_refl _, Nat.le_refl _⟩ dX6_bestHeap_18 (fun x2 w1 hF => ?_)
      refine x_istore (pc := 21) C [(4, .int (x2)), (0, .ref (yb b k)), (1, .int (l1)), (2, .int (l2)), (3, .int (l3))] dX6_bestHeap_21 (by decide) rfl ?_
      refine x_aload_n (pc := 23) C 1 dX6_bestHeap_23 rfl rfl ?_
      refine gf_X6_28 (pc := 24) C hk dX6_bestHeap_24 ?_
      refine gf_X6_75 (pc := 27) C hk dX6_bestHeap_27 ?_
      refine x_iload_n (pc := 30) C 4 dX6_bestHeap_30 rfl rfl ?_
      refine cV1_1 (pc := 31) (val := Value.int) C hF (fun _ _ h => r_X4_get l G b (vr_y 11 hk (by decide)) _ h) vm_X4_get wq226 rfl rfl ⟨Nat.le_of_ble_eq_true rfl, Nat.le_of_ble_eq_true rfl⟩ rfl rfl (fun _ h => CW.row0 h (vr_y 11 hk (by decide))) (Nat.le_of_ble_eq_true rfl) ⟨Nat.le_refl _, Nat.le_refl _⟩ dX6_bestHeap_31 (fun x4 w3 hF => ?_)
      refine x_aload_n (pc := 34) C 1 dX6_bestHeap_34 rfl rfl ?_
      refine gf_X6_28 (pc := 35) C hk dX6_bestHeap_35 ?_
      refine gf_X6_75 (pc := 38) C hk dX6_bestHeap_38 ?_
      refine x_iload_n (pc := 41) C 2 dX6_bestHeap_41 rfl rfl ?_
      refine cV1_1 (pc := 42) (val := Value.int) C hF (fun _ _ h => r_X4_get l G b (vr_y 11 hk (by decide)) _ h) vm_X4_get wq226 rfl rfl ⟨Nat.le_of_ble_eq_true rfl, Nat.le_of_ble_eq_true rfl⟩ rfl rfl (fun _ h => CW.row0 h (vr_y 11 hk (by decide))) (Nat.le_of_ble_eq_true rfl) ⟨Nat.le_refl _, Nat.le_refl _⟩ dX6_bestHeap_42 (fun x6 w5 hF => ?_)
      refine x_icmp_le (pc := 45) C 52 dX6_bestHeap_45 rfl hF (fun c15 hF => ?_) (fun c15 hF => ?_)
      · refine x_iconst (pc := 52) C 0 dX6_bestHeap_52 ki_0 ?_
        refine x_istore (pc := 53) C [(5, .int (0)), (4, .int (x2)), (0, .ref (yb b k)), (1, .int (l1)), (2, .int (l2)), (3, .int (l3))] dX6_bestHeap_53 (by decide) rfl ?_
        refine x_iload (pc := 55) C 1 dX6_bestHeap_55 rfl ?_
        refine x_iload_n (pc := 57) C 4 dX6_bestHeap_57 rfl rfl ?_
        refine x_icmp_gt (pc := 58) C 77 dX6_bestHeap_58 rfl hF (fun c10 hF => ?_) (fun c10 hF => ?_)
        · refine x_iload_n (pc := 77) C 5 dX6_bestHeap_77 rfl rfl ?_
          refine x_istore_n (pc := 78) C [(1, .int (l3)), (5, .int (0)), (4, .int (x2)), (0, .ref (yb b k)), (2, .int (l2)), (3, .int (l3))] dX6_bestHeap_78 rfl (by decide) rfl ?_
          refine x_iload (pc := 79) C 2 dX6_bestHeap_79 rfl ?_
          refine x_istore_n (pc := 81) C [(2, .int (x2)), (1, .int (l3)), (5, .int (0)), (4, .int (x2)), (0, .ref (yb b k)), (3, .int (l3))] dX6_bestHeap_81 rfl (by decide) rfl ?_
          refine x_iinc (pc := 82) C 5 [(3, .int ((l3 + 1))), (2, .int (x2)), (1, .int (l3)), (5, .int (0)), (4, .int (x2)), (0, .ref (yb b k))] dX6_bestHeap_82 rfl rfl (by decide) rfl ?_
          refine x_goto (pc := 85) C 6 dX6_bestHeap_85 rfl ?_
          exact x_sub [5, 2, 1, 0] rfl (ih _ _ _ _ _ _ hF kx)
        · refine x_iload (pc := 61) C 1 dX6_bestHeap_61 rfl ?_
          refine x_if_le (pc := 63) C 82 dX6_bestHeap_63 rfl hF (fun c9 hF => ?_) (fun c9 hF => ?_)
          · refine x_iinc (pc := 82) C 5 [(3, .int ((l3 + 1))), (5, .int (0)), (4, .int (x2)), (0, .ref (yb b k)), (1, .int (l1)), (2, .int (l2))] dX6_bestHeap_82 rfl rfl (by decide) rfl ?_
            refine x_goto (pc := 85) C 6 dX6_bestHeap_85 rfl ?_
            exact x_sub [3, 4, 5, 0] rfl (ih _ _ _ _ _ _ hF kx)
          · refine x_iload (pc := 66) C 1 dX6_bestHeap_66 rfl ?_
            refine x_iload_n (pc := 68) C 4 dX6_bestHeap_68 rfl rfl ?_
            refine x_icmp_ne (pc := 69) C 82 dX6_bestHeap_69 rfl hF (fun c8 hF => ?_) (fun c8 hF => ?_)
            · refine x_iinc (pc := 82) C 5 [(3, .int ((l3 + 1))), (5, .int (0)), (4, .int (x2)), (0, .ref (yb b k)), (1, .int (l1)), (2, .int (l2))] dX6_bestHeap_82 rfl rfl (by decide) rfl ?_
              refine x_goto (pc := 85) C 6 dX6_bestHeap_85 rfl ?_
              exact x_sub [3, 4, 5, 0] rfl (ih _ _ _ _ _ _ hF kx)
            · refine x_iload (pc := 72) C 0 dX6_bestHeap_72 rfl ?_
              refine x_if_eq (pc := 74) C 82 dX6_bestHeap_74 rfl (cst_t (c9 := (0 : Int32) = 0) (by decide) hF) (fun c7 hF => ?_) (fun c7 _ => absurd (by decide) c7)
              refine x_iinc (pc := 82) C 5 [(3, .int ((l3 + 1))), (5, .int (0)), (4, .int (x2)), (0, .ref (yb b k)), (1, .int (l1)), (2, .int (l2))] dX6_bestHeap_82 rfl rfl (by decide) rfl ?_
              refine x_goto (pc := 85) C 6 dX6_bestHeap_85 rfl ?_
              exact x_sub [3, 4, 5, 0] rfl (ih _ _ _ _ _ _ hF kx)
      · refine x_iconst (pc := 48) C 1 dX6_bestHeap_48 ki_1 ?_
        refine x_goto (pc := 49) C 53 dX6_bestHeap_49 rfl ?_
        refine x_istore (pc := 53) C [(5, .int (1)), (4, .int (x2)), (0, .ref (yb b k)), (1, .int (l1)), (2, .int (l2)), (3, .int (l3))] dX6_bestHeap_53 (by decide) rfl ?_
        refine x_iload (pc := 55) C 1 dX6_bestHeap_55 rfl ?_
        refine x_iload_n (pc := 57) C 4 dX6_bestHeap_57 rfl rfl ?_
        refine x_icmp_gt (pc := 58) C 77 dX6_bestHeap_58 rfl hF (fun c14 hF => ?_) (fun c14 hF => ?_)
        · refine x_iload_n (pc := 77) C 5 dX6_bestHeap_77 rfl rfl ?_
          refine x_istore_n (pc := 78) C [(1, .int (l3)), (5, .int (1)), (4, .int (x2)), (0, .ref (yb b k)), (2, .int (l2)), (3, .int (l3))] dX6_bestHeap_78 rfl (by decide) rfl ?_
          refine x_iload (pc := 79) C 2 dX6_bestHeap_79 rfl ?_
          refine x_istore_n (pc := 81) C [(2, .int (x2)), (1, .int (l3)), (5, .int (1)), (4, .int (x2)), (0, .ref (yb b k)), (3, .int (l3))] dX6_bestHeap_81 rfl (by decide) rfl ?_
          refine x_iinc (pc := 82) C 5 [(3, .int ((l3 + 1))), (2, .int (x2)), (1, .int (l3)), (5, .int (1)), (4, .int (x2)), (0, .ref (yb b k))] dX6_bestHeap_82 rfl rfl (by decide) rfl ?_
          refine x_goto (pc := 85) C 6 dX6_bestHeap_85 rfl ?_
          exact x_sub [5, 2, 1, 0] rfl (ih _ _ _ _ _ _ hF kx)
        · refine x_iload (pc := 61) C 1 dX6_bestHeap_61 rfl ?_
          refine x_if_le (pc := 63) C 82 dX6_bestHeap_63 rfl hF (fun c13 hF => ?_) (fun c13 hF => ?_)
          · refine x_iinc (pc := 82) C 5 [(3, .int ((l3 + 1))), (5, .int (1)), (4, .int (x2)), (0, .ref (yb b k)), (1, .int (l1)), (2, .int (l2))] dX6_bestHeap_82 rfl rfl (by decide) rfl ?_
            refine x_goto (pc := 85) C 6 dX6_bestHeap_85 rfl ?_
            exact x_sub [3, 4, 5, 0] rfl (ih _ _ _ _ _ _ hF kx)
          · refine x_iload (pc := 66) C 1 dX6_bestHeap_66 rfl ?_
            refine x_iload_n (pc := 68) C 4 dX6_bestHeap_68 rfl rfl ?_
            refine x_icmp_ne (pc := 69) C 82 dX6_bestHeap_69 rfl hF (fun c12 hF => ?_) (fun c12 hF => ?_)
            · refine x_iinc (pc := 82) C 5 [(3, .int ((l3 + 1))), (5, .int (1)), (4, .int (x2)), (0, .ref (yb b k)), (1, .int (l1)), (2, .int (l2))] dX6_bestHeap_82 rfl rfl (by decide) rfl ?_
              refine x_goto (pc := 85) C 6 dX6_bestHeap_85 rfl ?_
              exact x_sub [3, 4, 5, 0] rfl (ih _ _ _ _ _ _ hF kx)
            · refine x_iload (pc := 72) C 0 dX6_bestHeap_72 rfl ?_
              refine x_if_eq (pc := 74) C 82 dX6_bestHeap_74 rfl (cst_f (c9 := (1 : Int32) = 0) (by decide) hF) (fun c11 _ => absurd c11 (by decide)) (fun c11 hF => ?_)
              refine x_iload_n (pc := 77) C 5 dX6_bestHeap_77 rfl rfl ?_
              refine x_istore_n (pc := 78) C [(1, .int (l3)), (5, .int (1)), (4, .int (x2)), (0, .ref (yb b k)), (2, .int (l2)), (3, .int (l3))] dX6_bestHeap_78 rfl (by decide) rfl ?_
              refine x_iload (pc := 79) C 2 dX6_bestHeap_79 rfl ?_
              refine x_istore_n (pc := 81) C [(2, .int (x2)), (1, .int (l3)), (5, .int (1)), (4, .int (x2)), (0, .ref (yb b k)), (3, .int (l3))] dX6_bestHeap_81 rfl (by decide) rfl ?_
              refine x_iinc (pc := 82) C 5 [(3, .int ((l3 + 1))), (2, .int (x2)), (1, .int (l3)), (5, .int (1)), (4, .int (x2)), (0, .ref (yb b k))] dX6_bestHeap_82 rfl rfl (by decide) rfl ?_
              refine x_goto (pc := 85) C 6 dX6_bestHeap_85 rfl ?_
              exact x_sub [5, 2, 1, 0] rfl (ih _ _ _ _ _ _ hF kx)
set_option maxRecDepth 4000 in
theorem c_X6_bestHeap (l : Launch) (G : xG) (b : Nat) {k : Nat} (hk : k < 8)    {w w' : xWt} {v : Int32} (hF : F_X6_bestHeap k w = some (v, w')) : xMet l G b yX6_bestHeap cX6_bestHeap 6 (some .int) (xR 3) [.ref (yb b k)] (CW G b w) (some (.int v)) (CW G b w') 0 0 := by
  refine x_of (own := RX6) rfl (plainFor_of_name pn_X6) (Nat.le_of_ble_eq_true rfl) ?_
  intro p e s m args below meth c ha C hr _
  unfold F_X6_bestHeap at hF
  refine x_iconst (pc := 0) C (-1) dX6_bestHeap_0 ki_m1 ?_
  refine x_istore_n (pc := 1) C [(1, .int ((-1))), (0, .ref (yb b k))] dX6_bestHeap_1 rfl (by decide) rfl ?_
  refine x_iconst (pc := 2) C 0 dX6_bestHeap_2 ki_0 ?_
  refine x_istore_n (pc := 3) C [(2, .int (0)), (1, .int ((-1))), (0, .ref (yb b k))] dX6_bestHeap_3 rfl (by decide) rfl ?_
  refine x_iconst (pc := 4) C 0 dX6_bestHeap_4 ki_0 ?_
  refine x_istore_n (pc := 5) C [(3, .int (0)), (2, .int (0)), (1, .int ((-1))), (0, .ref (yb b k))] dX6_bestHeap_5 rfl (by decide) rfl ?_
  obtain ⟨o17, w18, hL, hF⟩ := bd_some hF
  refine x_sub [3, 2, 1, 0] rfl (s_X6_bestHeap_6 C hk _ _ _ _ _ _ _ hL ?_)
  refine x_iload_n (pc := 88) C 1 dX6_bestHeap_88 rfl rfl ?_
  obtain ⟨rfl, rfl⟩ := ret_eq hF
  exact x_iret (pc := 89) C hr rfl (fun _ h => h) dX6_bestHeap_89
set_option maxRecDepth 4000 in
theorem s_X6_burnableIfAllRested_4 (C : xC p m c s args meth G b cX6_burnableIfAllRested 4 RX6) {k : Nat} (hk : k < 8)  : ∀ (n9 : Nat) (l1 : Int32) (l2 : Int32) (w : xWt) (o : (Int32 × Int32)) (w' : xWt), L_X6_burnableIfAllRested_4 k n9 l1 l2 w = some (o, w') → xW p l e (xR 1) s m args below meth c Q b 4 (CW G b w') 0 0 89 [(0, .ref (yb b k)), (1, .int (o.1)), (2, .int (o.2))] [] → xW p l e (xR 1) s m args below meth c Q b 4 (CW G b w) 0 0 4 [(0, .ref (yb b k)), (1, .int (l1)), (2, .int (l2))] [] := by
  intro n9
  induction n9 with
  | zero => intro l1 l2 w o w' hF; exact none_ne (show none = some _ from hF)
  | succ n9 ih =>
    intro l1 l2 w o w' hF kx
    replace hF : B_X6_burnableIfAllRested_4 k (L_X6_burnableIfAllRested_4 k n9) l1 l2 w = some (o, w') := hF
    unfold B_X6_burnableIfAllRested_4 at hF
    refine x_iload_n (pc := 4) C 2 dX6_burnableIfAllRested_4 rfl rfl ?_
    refine x_aload_n (pc := 5) C 0 dX6_burnableIfAllRested_5 rfl rfl ?_
    refine gf_X6_21 (pc := 6) C hk dX6_burnableIfAllRested_6 ?_
    refine gf_X6_127 (pc := 9) C hk dX6_burnableIfAllRested_9 ?_
    refine x_icmp_ge (pc := 12) C 89 dX6_burnableIfAllRested_12 rfl hF (fun c18 hF => ?_) (fun c18 hF => ?_)
    · obtain ⟨rfl, rfl⟩ := ret_eq hF
      exact x_sub [0, 1, 2] rfl kx
    · refine x_iload_n (pc := 15) C 2 dX6_burnableIfAllRested_15 rfl rfl ?_
      refine x_bipush (pc := 16) C 120 dX6_burnableIfAllRested_16 kb_120 ?_
      refine x_icmp_ge (pc := 18) C 89 dX6_burnableIfAllRested_18 rfl hF (fun c17 hF => ?_) (fun c17 hF => ?_)
      · obtain ⟨rfl, rfl⟩ := ret_eq hF
        exact x_sub [0, 1, 2] rfl kx
      · refine x_aload_n (pc := 21) C 0 dX6_burnableIfAllRested_21 rfl rfl ?_
        refine gf_X6_15 (pc := 22) C hk dX6_burnableIfAllRested_22 ?_
        refine x_if_eq (pc := 25) C 50 dX6_burnableIfAllRested_25 rfl hF (fun c16 hF => ?_) (fun c16 hF => ?_)
        · refine x_iconst (pc := 50) C 1 dX6_burnableIfAllRested_50 ki_1 ?_
          refine x_goto (pc := 51) C 55 dX6_burnableIfAllRested_51 rfl ?_
          refine x_istore_n (pc := 55) C [(3, .int (1)), (0, .ref (yb b k)), (1, .int (l1)), (2, .int (l2))] dX6_burnableIfAllRested_55 rfl (by decide) rfl ?_
          refine x_iload_n (pc := 56) C 2 dX6_burnableIfAllRested_56 rfl rfl ?_
          refine x_aload_n (pc := 57) C 1 dX6_burnableIfAllRested_57 rfl rfl ?_
          refine gf_X6_21 (pc := 58) C hk dX6_burnableIfAllRested_58 ?_
          refine gf_X6_149 (pc := 61) C hk dX6_burnableIfAllRested_61 ?_
          refine x_iload_n (pc := 64) C 3 dX6_burnableIfAllRested_64 rfl rfl ?_
          refine cV1_1 (pc := 65) (val := Value.int) C hF (fun _ _ h => r_X4_get l G b (vr_y 2 hk (by decide)) _ h) vm_X4_get wq226 rfl rfl ⟨Nat.le_of_ble_eq_true rfl, Nat.le_of_ble_eq_true rfl⟩ rfl rfl (fun _ h => CW.row0 h (vr_y 2 hk (by decide))) (Nat.le_of_ble_eq_true rfl) ⟨Nat.le_refl _, Nat.le_refl _⟩ dX6_burnableIfAllRested_65 (fun x2 w1 hF => ?_)
          refine x_iconst (pc := 68) C 1 dX6_burnableIfAllRested_68 ki_1 ?_
          refine x_icmp_ne (pc := 69) C 80 dX6_burnableIfAllRested_69 rfl hF (fun c4 hF => ?_) (fun c4 hF => ?_)
          · refine x_iconst (pc := 80) C 0 dX6_burnableIfAllRested_80 ki_0 ?_
            refine x_iadd (pc := 81) C dX6_burnableIfAllRested_81 ?_
            refine x_istore_n (pc := 82) C [(1, .int ((l1 + 0))), (3, .int (1)), (0, .ref (yb b k)), (2, .int (l2))] dX6_burnableIfAllRested_82 rfl (by decide) rfl ?_
            refine x_iinc (pc := 83) C 3 [(2, .int ((l2 + 1))), (1, .int ((l1 + 0))), (3, .int (1)), (0, .ref (yb b k))] dX6_burnableIfAllRested_83 rfl rfl (by decide) rfl ?_
            refine x_goto (pc := 86) C 4 dX6_burnableIfAllRested_86 rfl ?_
            exact x_sub [3, 1, 0] rfl (ih _ _ _ _ _ hF kx)
          · refine x_iload_n (pc := 72) C 0 dX6_burnableIfAllRested_72 rfl rfl ?_
            refine x_if_eq (pc := 73) C 80 dX6_burnableIfAllRested_73 rfl (cst_f (c9 := (1 : Int32) = 0) (by decide) hF) (fun c3 _ => absurd c3 (by decide)) (fun c3 hF => ?_)
            refine x_iconst (pc := 76) C 1 dX6_burnableIfAllRested_76 ki_1 ?_
            refine x_goto (pc := 77) C 81 dX6_burnableIfAllRested_77 rfl ?_
            refine x_iadd (pc := 81) C dX6_burnableIfAllRested_81 ?_
            refine x_istore_n (pc := 82) C [(1, .int ((l1 + 1))), (3, .int (1)), (0, .ref (yb b k)), (2, .int (l2))] dX6_burnableIfAllRested_82 rfl (by decide) rfl ?_
            refine x_iinc (pc := 83) C 3 [(2, .int ((l2 + 1))), (1, .int ((l1 + 1))), (3, .int (1)), (0, .ref (yb b k))] dX6_burnableIfAllRested_83 rfl rfl (by decide) rfl ?_
            refine x_goto (pc := 86) C 4 dX6_burnableIfAllRested_86 rfl ?_
            exact x_sub [3, 1, 0] rfl (ih _ _ _ _ _ hF kx)
        · refine x_aload_n (pc := 28) C 0 dX6_burnableIfAllRested_28 rfl rfl ?_
          refine gf_X6_39 (pc := 29) C hk dX6_burnableIfAllRested_29 ?_
          refine x_iconst (pc := 32) C 2 dX6_burnableIfAllRested_32 ki_2 ?_
          refine x_iadd (pc := 33) C dX6_burnableIfAllRested_33 ?_
          refine x_aload_n (pc := 34) C 0 dX6_burnableIfAllRested_34 rfl rfl ?_
          refine gf_X6_21 (pc := 35) C hk dX6_burnableIfAllRested_35 ?_
          refine gf_X6_207 (pc := 38) C hk dX6_burnableIfAllRested_38 ?_
          refine x_iload_n (pc := 41) C 2 dX6_burnableIfAllRested_41 rfl rfl ?_
          refine cV1_1 (pc := 42) (val := Value.int) C hF (fun _ _ h => r_X4_get l G b (vr_y 4 hk (by decide)) _ h) vm_X4_get wq226 rfl rfl ⟨Nat.le_of_ble_eq_true rfl, Nat.le_of_ble_eq_true rfl⟩ rfl rfl (fun _ h => CW.row0 h (vr_y 4 hk (by decide))) (Nat.le_of_ble_eq_true rfl) ⟨Nat.le_refl _, Nat.le_refl _⟩ dX6_burnableIfAllRested_42 (fun x6 w5 hF => ?_)
          refine x_isub (pc := 45) C dX6_burnableIfAllRested_45 ?_
          refine x_iconst (pc := 46) C 2 dX6_burnableIfAllRested_46 ki_2 ?_
          refine x_icmp_lt (pc := 47) C 54 dX6_burnableIfAllRested_47 rfl hF (fun c15 hF => ?_) (fun c15 hF => ?_)
          · refine x_iconst (pc := 54) C 0 dX6_burnableIfAllRested_54 ki_0 ?_
            refine x_istore_n (pc := 55) C [(3, .int (0)), (0, .ref (yb b k)), (1, .int (l1)), (2, .int (l2))] dX6_burnableIfAllRested_55 rfl (by decide) rfl ?_
            refine x_iload_n (pc := 56) C 2 dX6_burnableIfAllRested_56 rfl rfl ?_
            refine x_aload_n (pc := 57) C 1 dX6_burnableIfAllRested_57 rfl rfl ?_
            refine gf_X6_21 (pc := 58) C hk dX6_burnableIfAllRested_58 ?_
            refine gf_X6_149 (pc := 61) C hk dX6_burnableIfAllRested_61 ?_
            refine x_iload_n (pc := 64) C 3 dX6_burnableIfAllRested_64 rfl rfl ?_
            refine cV1_1 (pc := 65) (val := Value.int) C hF (fun _ _ h => r_X4_get l G b (vr_y 2 hk (by decide)) _ h) vm_X4_get wq226 rfl rfl ⟨Nat.le_of_ble_eq_true rfl, Nat.le_of_ble_eq_true rfl⟩ rfl rfl (fun _ h => CW.row0 h (vr_y 2 hk (by decide))) (Nat.le_of_ble_eq_true rfl) ⟨Nat.le_refl _, Nat.le_refl _⟩ dX6_burnableIfAllRested_65 (fun x8 w7 hF => ?_)
            refine x_iconst (pc := 68) C 1 dX6_burnableIfAllRested_68 ki_1 ?_
            refine x_icmp_ne (pc := 69) C 80 dX6_burnableIfAllRested_69 rfl hF (fun c10 hF => ?_) (fun c10 hF => ?_)
            · refine x_iconst (pc := 80) C 0 dX6_burnableIfAllRested_80 ki_0 ?_
              refine x_iadd (pc := 81) C dX6_burnableIfAllRested_81 ?_
              refine x_istore_n (pc := 82) C [(1, .int ((l1 + 0))), (3, .int (0)), (0, .ref (yb b k)), (2, .int (l2))] dX6_burnableIfAllRested_82 rfl (by decide) rfl ?_
              refine x_iinc (pc := 83) C 3 [(2, .int ((l2 + 1))), (1, .int ((l1 + 0))), (3, .int (0)), (0, .ref (yb b k))] dX6_burnableIfAllRested_83 rfl rfl (by decide) rfl ?_
              refine x_goto (pc := 86) C 4 dX6_burnableIfAllRested_86 rfl ?_
              exact x_sub [3, 1, 0] rfl (ih _ _ _ _ _ hF kx)
            · refine x_iload_n (pc := 72) C 0 dX6_burnableIfAllRested_72 rfl rfl ?_
              refine x_if_eq (pc := 73) C 80 dX6_burnableIfAllRested_73 rfl (cst_t (c9 := (0 : Int32) = 0) (by decide) hF) (fun c9 hF => ?_) (fun c9 _ => absurd (by decide) c9)
              refine x_iconst (pc := 80) C 0 dX6_burnableIfAllRested_80 ki_0 ?_
              refine x_iadd (pc := 81) C dX6_burnableIfAllRested_81 ?_
              refine x_istore_n (pc := 82) C [(1, .int ((l1 + 0))), (3, .int (0)), (0, .ref (yb b k)), (2, .int (l2))] dX6_burnableIfAllRested_82 rfl (by decide) rfl ?_
              refine x_iinc (pc := 83) C 3 [(2, .int ((l2 + 1))), (1, .int ((l1 + 0))), (3, .int (0)), (0, .ref (yb b k))] dX6_burnableIfAllRested_83 rfl rfl (by decide) rfl ?_
              refine x_goto (pc := 86) C 4 dX6_burnableIfAllRested_86 rfl ?_
              exact x_sub [3, 1, 0] rfl (ih _ _ _ _ _ hF kx)
          · refine x_iconst (pc := 50) C 1 dX6_burnableIfAllRested_50 ki_1 ?_
            refine x_goto (pc := 51) C 55 dX6_burnableIfAllRested_51 rfl ?_
            refine x_istore_n (pc := 55) C [(3, .int (1)), (0, .ref (yb b k)), (1, .int (l1)), (2, .int (l2))] dX6_burnableIfAllRested_55 rfl (by decide) rfl ?_
            refine x_iload_n (pc := 56) C 2 dX6_burnableIfAllRested_56 rfl rfl ?_
            refine x_aload_n (pc := 57) C 1 dX6_burnableIfAllRested_57 rfl rfl ?_
            refine gf_X6_21 (pc := 58) C hk dX6_burnableIfAllRested_58 ?_
            refine gf_X6_149 (pc := 61) C hk dX6_burnableIfAllRested_61 ?_
            refine x_iload_n (pc := 64) C 3 dX6_burnableIfAllRested_64 rfl rfl ?_
            refine cV1_1 (pc := 65) (val := Value.int) C hF (fun _ _ h => r_X4_get l G b (vr_y 2 hk (by decide)) _ h) vm_X4_get wq226 rfl rfl ⟨Nat.le_of_ble_eq_true rfl, Nat.le_of_ble_eq_true rfl⟩ rfl rfl (fun _ h => CW.row0 h (vr_y 2 hk (by decide))) (Nat.le_of_ble_eq_true rfl) ⟨Nat.le_refl _, Nat.le_refl _⟩ dX6_burnableIfAllRested_65 (fun x12 w11 hF => ?_)
            refine x_iconst (pc := 68) C 1 dX6_burnableIfAllRested_68 ki_1 ?_
            refine x_icmp_ne (pc := 69) C 80 dX6_burnableIfAllRested_69 rfl hF (fun c14 hF => ?_) (fun c14 hF => ?_)
            · refine x_iconst (pc := 80) C 0 dX6_burnableIfAllRested_80 ki_0 ?_
              refine x_iadd (pc := 81) C dX6_burnableIfAllRested_81 ?_
              refine x_istore_n (pc := 82) C [(1, .int ((l1 + 0))), (3, .int (1)), (0, .ref (yb b k)), (2, .int (l2))] dX6_burnableIfAllRested_82 rfl (by decide) rfl ?_
              refine x_iinc (pc := 83) C 3 [(2, .int ((l2 + 1))), (1, .int ((l1 + 0))), (3, .int (1)), (0, .ref (yb b k))] dX6_burnableIfAllRested_83 rfl rfl (by decide) rfl ?_
              refine x_goto (pc := 86) C 4 dX6_burnableIfAllRested_86 rfl ?_
              exact x_sub [3, 1, 0] rfl (ih _ _ _ _ _ hF kx)
            · refine x_iload_n (pc := 72) C 0 dX6_burnableIfAllRested_72 rfl rfl ?_
              refine x_if_eq (pc := 73) C 80 dX6_burnableIfAllRested_73 rfl (cst_f (c9 := (1 : Int32) = 0) (by decide) hF) (fun c13 _ => absurd c13 (by decide)) (fun c13 hF => ?_)
              refine x_iconst (pc := 76) C 1 dX6_burnableIfAllRested_76 ki_1 ?_
              refine x_goto (pc := 77) C 81 dX6_burnableIfAllRested_77 rfl ?_
              refine x_iadd (pc := 81) C dX6_burnableIfAllRested_81 ?_
              refine x_istore_n (pc := 82) C [(1, .int ((l1 + 1))), (3, .int (1)), (0, .ref (yb b k)), (2, .int (l2))] dX6_burnableIfAllRested_82 rfl (by decide) rfl ?_
              refine x_iinc (pc := 83) C 3 [(2, .int ((l2 + 1))), (1, .int ((l1 + 1))), (3, .int (1)), (0, .ref (yb b k))] dX6_burnableIfAllRested_83 rfl rfl (by decide) rfl ?_
              refine x_goto (pc := 86) C 4 dX6_burnableIfAllRested_86 rfl ?_
              exact x_sub [3, 1, 0] rfl (ih _ _ _ _ _ hF kx)
set_option maxRecDepth 4000 in
theorem c_X6_burnableIfAllRested (l : Launch) (G : xG) (b : Nat) {k : Nat} (hk : k < 8)    {w w' : xWt} {v : Int32} (hF : F_X6_burnableIfAllRested k w = some (v, w')) : xMet l G b yX6_burnableIfAllRested cX6_burnableIfAllRested 4 (some .int) (xR 1) [.ref (yb b k)] (CW G b w) (some (.int v)) (CW G b w') 0 0 := by
  refine x_of (own := RX6) rfl (plainFor_of_name pn_X6) (Nat.le_of_ble_eq_true rfl) ?_
  intro p e s m args below meth c ha C hr _
  unfold F_X6_burnableIfAllRested at hF
  refine x_iconst (pc := 0) C 0 dX6_burnableIfAllRested_0 ki_0 ?_
  refine x_istore_n (pc := 1) C [(1, .int (0)), (0, .ref (yb b k))] dX6_burnableIfAllRested_1 rfl (by decide) rfl ?_
  refine x_iconst (pc := 2) C 0 dX6_burnableIfAllRested_2 ki_0 ?_
  refine x_istore_n (pc := 3) C [(2, .int (0)), (1, .int (0)), (0, .ref (yb b k))] dX6_burnableIfAllRested_3 rfl (by decide) rfl ?_
  obtain ⟨o19, w20, hL, hF⟩ := bd_some hF
  refine x_sub [2, 1, 0] rfl (s_X6_burnableIfAllRested_4 C hk _ _ _ _ _ _ hL ?_)
  refine x_iload_n (pc := 89) C 1 dX6_burnableIfAllRested_89 rfl rfl ?_
  obtain ⟨rfl, rfl⟩ := ret_eq hF
  exact x_iret (pc := 90) C hr rfl (fun _ h => h) dX6_burnableIfAllRested_90
set_option maxRecDepth 4000 in
theorem s_X6_burnableIfRested_4 (C : xC p m c s args meth G b cX6_burnableIfRested 4 RX6) {k : Nat} (hk : k < 8)  : ∀ (n9 : Nat) (l1 : Int32) (l2 : Int32) (l3 : Int32) (w : xWt) (o : (Int32 × Int32)) (w' : xWt), L_X6_burnableIfRested_4 k n9 l1 l2 l3 w = some (o, w') → xW p l e (xR 3) s m args below meth c Q b 4 (CW G b w') 0 0 28 [(0, .ref (yb b k)), (1, .int (l1)), (2, .int (o.1)), (3, .int (o.2))] [] → xW p l e (xR 3) s m args below meth c Q b 4 (CW G b w) 0 0 4 [(0, .ref (yb b k)), (1, .int (l1)), (2, .int (l2)), (3, .int (l3))] [] := by
  intro n9
  induction n9 with
  | zero => intro l1 l2 l3 w o w' hF; exact none_ne (show none = some _ from hF)
  | succ n9 ih =>
    intro l1 l2 l3 w o w' hF kx
    replace hF : B_X6_burnableIfRested_4 k (L_X6_burnableIfRested_4 k n9) l1 l2 l3 w = some (o, w') := hF
    unfold B_X6_burnableIfRested_4 at hF
    refine x_iload_n (pc := 4) C 3 dX6_burnableIfRested_4 rfl rfl ?_
    refine x_iconst (pc := 5) C 5 dX6_burnableIfRested_5 ki_5 ?_
    refine x_icmp_ge (pc := 6) C 28 dX6_burnableIfRested_6 rfl hF (fun c3 hF => ?_) (fun c3 hF => ?_)
    · obtain ⟨rfl, rfl⟩ := ret_eq hF
      exact x_sub [0, 1, 2, 3] rfl kx
    · refine x_iload_n (pc := 9) C 2 dX6_burnableIfRested_9 rfl rfl ?_
      refine x_aload_n (pc := 10) C 0 dX6_burnableIfRested_10 rfl rfl ?_
      refine x_iload_n (pc := 11) C 3 dX6_burnableIfRested_11 rfl rfl ?_
      refine x_aload_n (pc := 12) C 0 dX6_burnableIfRested_12 rfl rfl ?_
      refine gf_X6_15 (pc := 13) C hk dX6_burnableIfRested_13 ?_
      refine x_iload_n (pc := 16) C 1 dX6_burnableIfRested_16 rfl rfl ?_
      refine cV1_3 (pc := 17) (val := Value.int) C hF (fun _ _ h => c_X6_burnable l G b hk _ _ _ h) vm_X6_burnable wq408 rfl rfl ⟨Nat.le_of_ble_eq_true rfl, Nat.le_of_ble_eq_true rfl⟩ rfl rfl (fun _ h => CW.yd h hk) (Nat.le_of_ble_eq_true rfl) ⟨Nat.le_refl _, Nat.le_refl _⟩ dX6_burnableIfRested_17 (fun x2 w1 hF => ?_)
      refine x_iadd (pc := 20) C dX6_burnableIfRested_20 ?_
      refine x_istore_n (pc := 21) C [(2, .int ((l2 + x2))), (0, .ref (yb b k)), (1, .int (l1)), (3, .int (l3))] dX6_burnableIfRested_21 rfl (by decide) rfl ?_
      refine x_iinc (pc := 22) C 3 [(3, .int ((l3 + 1))), (2, .int ((l2 + x2))), (0, .ref (yb b k)), (1, .int (l1))] dX6_burnableIfRested_22 rfl rfl (by decide) rfl ?_
      refine x_goto (pc := 25) C 4 dX6_burnableIfRested_25 rfl ?_
      exact x_sub [2, 3, 1, 0] rfl (ih _ _ _ _ _ _ hF kx)
set_option maxRecDepth 4000 in
theorem c_X6_burnableIfRested (l : Launch) (G : xG) (b : Nat) {k : Nat} (hk : k < 8)   (a1 : Int32) {w w' : xWt} {v : Int32} (hF : F_X6_burnableIfRested k a1 w = some (v, w')) : xMet l G b yX6_burnableIfRested cX6_burnableIfRested 4 (some .int) (xR 3) [.ref (yb b k), .int (a1)] (CW G b w) (some (.int v)) (CW G b w') 0 0 := by
  refine x_of (own := RX6) rfl (plainFor_of_name pn_X6) (Nat.le_of_ble_eq_true rfl) ?_
  intro p e s m args below meth c ha C hr _
  unfold F_X6_burnableIfRested at hF
  refine x_iconst (pc := 0) C 0 dX6_burnableIfRested_0 ki_0 ?_
  refine x_istore_n (pc := 1) C [(2, .int (0)), (0, .ref (yb b k)), (1, .int (a1))] dX6_burnableIfRested_1 rfl (by decide) rfl ?_
  refine x_iconst (pc := 2) C 0 dX6_burnableIfRested_2 ki_0 ?_
  refine x_istore_n (pc := 3) C [(3, .int (0)), (2, .int (0)), (0, .ref (yb b k)), (1, .int (a1))] dX6_burnableIfRested_3 rfl (by decide) rfl ?_
  obtain ⟨o4, w5, hL, hF⟩ := bd_some hF
  refine x_sub [2, 3, 1, 0] rfl (s_X6_burnableIfRested_4 C hk _ _ _ _ _ _ _ hL ?_)
  refine x_iload_n (pc := 28) C 2 dX6_burnableIfRested_28 rfl rfl ?_
  obtain ⟨rfl, rfl⟩ := ret_eq hF
  exact x_iret (pc := 29) C hr rfl (fun _ h => h) dX6_burnableIfRested_29
set_option maxRecDepth 4000 in
theorem c_X6_valueOf (l : Launch) (G : xG) (b : Nat) {k : Nat} (hk : k < 8)   (a1 : Int32) {w w' : xWt} {v : Int32} (hF : F_X6_valueOf k a1 w = some (v, w')) : xMet l G b yX6_valueOf cX6_valueOf 2 (some .int) (xR 0) [.ref (yb b k), .int (a1)] (CW G b w) (some (.int v)) (CW G b w') 0 0 := by
  refine x_of (own := RX6) rfl (plainFor_of_name pn_X6) (Nat.le_of_ble_eq_true rfl) ?_
  intro p e s m args below meth c ha C hr _
  unfold F_X6_valueOf at hF
  refine x_iload_n (pc := 0) C 1 dX6_valueOf_0 rfl rfl ?_
  refine x_if_ne (pc := 1) C 11 dX6_valueOf_1 rfl hF (fun c1 hF => ?_) (fun c1 hF => ?_)
  · refine x_aload_n (pc := 11) C 0 dX6_valueOf_11 rfl rfl ?_
    refine gf_X6_15 (pc := 12) C hk dX6_valueOf_12 ?_
    obtain ⟨rfl, rfl⟩ := ret_eq hF
    exact x_iret (pc := 15) C hr rfl (fun _ h => h) dX6_valueOf_15
  · refine x_aload_n (pc := 4) C 0 dX6_valueOf_4 rfl rfl ?_
    refine gf_X6_9 (pc := 5) C hk dX6_valueOf_5 ?_
    refine x_goto (pc := 8) C 15 dX6_valueOf_8 rfl ?_
    obtain ⟨rfl, rfl⟩ := ret_eq hF
    exact x_iret (pc := 15) C hr rfl (fun _ h => h) dX6_valueOf_15
set_option maxRecDepth 4000 in
theorem c_X6_change (l : Launch) (G : xG) (b : Nat) {k : Nat} (hk : k < 8)   (a1 : Int32) (a2 : Int32) {w w' : xWt} {v : Int32} (hF : F_X6_change k a1 a2 w = some (v, w')) : xMet l G b yX6_change cX6_change 4 (some .int) (xR 1) [.ref (yb b k), .int (a1), .int (a2)] (CW G b w) (some (.int v)) (CW G b w') 0 0 := by
  refine x_of (own := RX6) rfl (plainFor_of_name pn_X6) (Nat.le_of_ble_eq_true rfl) ?_
  intro p e s m args below meth c ha C hr _
  unfold F_X6_change at hF
  refine x_aload_n (pc := 0) C 0 dX6_change_0 rfl rfl ?_
  refine x_iload_n (pc := 1) C 1 dX6_change_1 rfl rfl ?_
  refine cV1_1 (pc := 2) (val := Value.int) C hF (fun _ _ h => c_X6_valueOf l G b hk _ h) vm_X6_valueOf wq588 rfl rfl ⟨Nat.le_of_ble_eq_true rfl, Nat.le_of_ble_eq_true rfl⟩ rfl rfl (fun _ h => CW.yd h hk) (Nat.le_of_ble_eq_true rfl) ⟨Nat.le_refl _, Nat.le_refl _⟩ dX6_change_2 (fun x2 w1 hF => ?_)
  refine x_istore_n (pc := 5) C [(3, .int (x2)), (0, .ref (yb b k)), (1, .int (a1)), (2, .int (a2))] dX6_change_5 rfl (by decide) rfl ?_
  refine x_iload_n (pc := 6) C 2 dX6_change_6 rfl rfl ?_
  refine x_if_ne (pc := 7) C 18 dX6_change_7 rfl hF (fun c5 hF => ?_) (fun c5 hF => ?_)
  · refine x_aload_n (pc := 18) C 1 dX6_change_18 rfl rfl ?_
    refine x_iload_n (pc := 19) C 3 dX6_change_19 rfl rfl ?_
    refine pf_X6_15 (pc := 20) C hk  hF dX6_change_20 (fun w3 hF => ?_)
    refine x_iload_n (pc := 23) C 0 dX6_change_23 rfl rfl ?_
    obtain ⟨rfl, rfl⟩ := ret_eq hF
    exact x_iret (pc := 24) C hr rfl (fun _ h => h) dX6_change_24
  · refine x_aload_n (pc := 10) C 1 dX6_change_10 rfl rfl ?_
    refine x_iload_n (pc := 11) C 3 dX6_change_11 rfl rfl ?_
    refine pf_X6_9 (pc := 12) C hk  hF dX6_change_12 (fun w4 hF => ?_)
    refine x_goto (pc := 15) C 23 dX6_change_15 rfl ?_
    refine x_iload_n (pc := 23) C 0 dX6_change_23 rfl rfl ?_
    obtain ⟨rfl, rfl⟩ := ret_eq hF
    exact x_iret (pc := 24) C hr rfl (fun _ h => h) dX6_change_24
set_option maxRecDepth 4000 in
theorem s_X6_clear_23 (C : xC p m c s args meth G b cX6_clear 7 RX6) {k : Nat} (hk : k < 8)  : ∀ (n9 : Nat) (l1 : Int32) (l2 : Int32) (l3 : Int32) (l4 : Int32) (l5 : Int32) (w : xWt) (o : (Int32 × Int32)) (w' : xWt), L_X6_clear_23 k n9 l1 l2 l3 l4 l5 w = some (o, w') → xW p l e (xR 2) s m args below meth c Q b 7 (CW G b w') 0 0 96 [(0, .ref (yb b k)), (1, .int (l1)), (2, .int (l2)), (3, .int (l3)), (4, .int (o.1)), (5, .int (o.2))] [] → xW p l e (xR 2) s m args below meth c Q b 7 (CW G b w) 0 0 23 [(0, .ref (yb b k)), (1, .int (l1)), (2, .int (l2)), (3, .int (l3)), (4, .int (l4)), (5, .int (l5))] [] := by
  intro n9
  induction n9 with
  | zero => intro l1 l2 l3 l4 l5 w o w' hF; exact none_ne (show none = some _ from hF)
  | succ n9 ih =>
    intro l1 l2 l3 l4 l5 w o w' hF kx
    replace hF : B_X6_clear_23 k (L_X6_clear_23 k n9) l1 l2 l3 l4 l5 w = some (o, w') := hF
    unfold B_X6_clear_23 at hF
    refine x_iload (pc := 23) C 5 dX6_clear_23 rfl ?_
    refine x_iload_n (pc := 25) C 2 dX6_clear_25 rfl rfl ?_
    refine x_icmp_ge (pc := 26) C 96 dX6_clear_26 rfl hF (fun c10 hF => ?_) (fun c10 hF => ?_)
    · obtain ⟨rfl, rfl⟩ := ret_eq hF
      exact x_sub [0, 1, 2, 3, 4, 5] rfl kx
    · refine x_aload_n (pc := 29) C 0 dX6_clear_29 rfl rfl ?_
      refine gf_X6_28 (pc := 30) C hk dX6_clear_30 ?_
      refine gf_X6_186 (pc := 33) C hk dX6_clear_33 ?_
      refine x_iload_n (pc := 36) C 3 dX6_clear_36 rfl rfl ?_
      refine x_iload (pc := 37) C 5 dX6_clear_37 rfl ?_
      refine x_iadd (pc := 39) C dX6_clear_39 ?_
      refine cV1_1 (pc := 40) (val := Value.int) C hF (fun _ _ h => r_X4_get l G b (vr_y 12 hk (by decide)) _ h) vm_X4_get wq226 rfl rfl ⟨Nat.le_of_ble_eq_true rfl, Nat.le_of_ble_eq_true rfl⟩ rfl rfl (fun _ h => CW.row0 h (vr_y 12 hk (by decide))) (Nat.le_of_ble_eq_true rfl) ⟨Nat.le_refl _, Nat.le_refl _⟩ dX6_clear_40 (fun x4 w3 hF => ?_)
      refine x_istore (pc := 43) C [(6, .int (x4)), (0, .ref (yb b k)), (1, .int (l1)), (2, .int (l2)), (3, .int (l3)), (4, .int (l4)), (5, .int (l5))] dX6_clear_43 (by decide) rfl ?_
      refine x_aload_n (pc := 45) C 1 dX6_clear_45 rfl rfl ?_
      refine x_iload (pc := 46) C 0 dX6_clear_46 rfl ?_
      refine x_aload_n (pc := 48) C 1 dX6_clear_48 rfl rfl ?_
      refine gf_X6_15 (pc := 49) C hk dX6_clear_49 ?_
      refine x_iconst (pc := 52) C (-1) dX6_clear_52 ki_m1 ?_
      refine cV1_3 (pc := 53) (val := Value.int) C hF (fun _ _ h => c_X6_mayBurn l G b hk _ _ _ h) vm_X6_mayBurn wq299 rfl rfl ⟨Nat.le_of_ble_eq_true rfl, Nat.le_of_ble_eq_true rfl⟩ rfl rfl (fun _ h => CW.yd h hk) (Nat.le_of_ble_eq_true rfl) ⟨Nat.le_refl _, Nat.le_refl _⟩ dX6_clear_53 (fun x6 w5 hF => ?_)
      refine x_if_eq (pc := 56) C 71 dX6_clear_56 rfl hF (fun c9 hF => ?_) (fun c9 hF => ?_)
      · refine x_aload_n (pc := 71) C 1 dX6_clear_71 rfl rfl ?_
        refine gf_X6_28 (pc := 72) C hk dX6_clear_72 ?_
        refine gf_X6_186 (pc := 75) C hk dX6_clear_75 ?_
        refine x_iload_n (pc := 78) C 4 dX6_clear_78 rfl rfl ?_
        refine x_iload (pc := 79) C 5 dX6_clear_79 rfl ?_
        refine x_iadd (pc := 81) C dX6_clear_81 ?_
        refine x_iload (pc := 82) C 0 dX6_clear_82 rfl ?_
        refine cV0_2 (pc := 84) C hF (fun _ _ h => r_X4_put l G b (vr_y 12 hk (by decide)) _ _ h) vm_X4_put wq513 rfl rfl ⟨Nat.le_of_ble_eq_true rfl, Nat.le_of_ble_eq_true rfl⟩ rfl rfl (fun _ h => CW.row0 h (vr_y 12 hk (by decide))) (Nat.le_of_ble_eq_true rfl) ⟨Nat.le_refl _, Nat.le_refl _⟩ dX6_clear_84 (fun _ w7 hF => ?_)
        refine x_iinc (pc := 87) C 5 [(4, .int ((l4 + 1))), (6, .int (x4)), (0, .ref (yb b k)), (1, .int (l1)), (2, .int (l2)), (3, .int (l3)), (5, .int (l5))] dX6_clear_87 rfl rfl (by decide) rfl ?_
        refine x_iinc (pc := 90) C 6 [(5, .int ((l5 + 1))), (4, .int ((l4 + 1))), (6, .int (x4)), (0, .ref (yb b k)), (1, .int (l1)), (2, .int (l2)), (3, .int (l3))] dX6_clear_90 rfl rfl (by decide) rfl ?_
        refine x_goto (pc := 93) C 23 dX6_clear_93 rfl ?_
        exact x_sub [3, 4, 5, 6, 1, 0] rfl (ih _ _ _ _ _ _ _ _ hF kx)
      · refine x_aload_n (pc := 59) C 1 dX6_clear_59 rfl rfl ?_
        refine gf_X6_21 (pc := 60) C hk dX6_clear_60 ?_
        refine x_iload (pc := 63) C 0 dX6_clear_63 rfl ?_
        refine cV0_1 (pc := 65) C hF (fun _ _ h => c_X2_burn l G b hk _ h) vm_X2_burn wq745 rfl rfl ⟨Nat.le_of_ble_eq_true rfl, Nat.le_of_ble_eq_true rfl⟩ rfl rfl (fun _ h => CW.lv h hk) (Nat.le_of_ble_eq_true rfl) ⟨Nat.le_refl _, Nat.le_refl _⟩ dX6_clear_65 (fun _ w8 hF => ?_)
        refine x_goto (pc := 68) C 90 dX6_clear_68 rfl ?_
        refine x_iinc (pc := 90) C 6 [(5, .int ((l5 + 1))), (6, .int (x4)), (0, .ref (yb b k)), (1, .int (l1)), (2, .int (l2)), (3, .int (l3)), (4, .int (l4))] dX6_clear_90 rfl rfl (by decide) rfl ?_
        refine x_goto (pc := 93) C 23 dX6_clear_93 rfl ?_
        exact x_sub [2, 3, 4, 5, 6, 0] rfl (ih _ _ _ _ _ _ _ _ hF kx)
set_option maxRecDepth 4000 in
theorem c_X6_clear (l : Launch) (G : xG) (b : Nat) {k : Nat} (hk : k < 8)   (a1 : Int32) {w w' : xWt} {v : Int32} (hF : F_X6_clear k a1 w = some (v, w')) : xMet l G b yX6_clear cX6_clear 7 (some .int) (xR 2) [.ref (yb b k), .int (a1)] (CW G b w) (some (.int v)) (CW G b w') 0 0 := by
  refine x_of (own := RX6) rfl (plainFor_of_name pn_X6) (Nat.le_of_ble_eq_true rfl) ?_
  intro p e s m args below meth c ha C hr _
  unfold F_X6_clear at hF
  refine x_aload_n (pc := 0) C 0 dX6_clear_0 rfl rfl ?_
  refine gf_X6_28 (pc := 1) C hk dX6_clear_1 ?_
  refine gf_X6_75 (pc := 4) C hk dX6_clear_4 ?_
  refine x_iload_n (pc := 7) C 1 dX6_clear_7 rfl rfl ?_
  refine cV1_1 (pc := 8) (val := Value.int) C hF (fun _ _ h => r_X4_get l G b (vr_y 11 hk (by decide)) _ h) vm_X4_get wq226 rfl rfl ⟨Nat.le_of_ble_eq_true rfl, Nat.le_of_ble_eq_true rfl⟩ rfl rfl (fun _ h => CW.row0 h (vr_y 11 hk (by decide))) (Nat.le_of_ble_eq_true rfl) ⟨Nat.le_refl _, Nat.le_refl _⟩ dX6_clear_8 (fun x2 w1 hF => ?_)
  refine x_istore_n (pc := 11) C [(2, .int (x2)), (0, .ref (yb b k)), (1, .int (a1))] dX6_clear_11 rfl (by decide) rfl ?_
  refine x_iload_n (pc := 12) C 2 dX6_clear_12 rfl rfl ?_
  refine x_bipush (pc := 13) C 120 dX6_clear_13 kb_120 ?_
  refine x_imul (pc := 15) C dX6_clear_15 ?_
  refine x_istore_n (pc := 16) C [(3, .int ((a1 * 120))), (2, .int (x2)), (0, .ref (yb b k)), (1, .int (a1))] dX6_clear_16 rfl (by decide) rfl ?_
  refine x_iconst (pc := 17) C 0 dX6_clear_17 ki_0 ?_
  refine x_istore (pc := 18) C [(4, .int (0)), (3, .int ((a1 * 120))), (2, .int (x2)), (0, .ref (yb b k)), (1, .int (a1))] dX6_clear_18 (by decide) rfl ?_
  refine x_iconst (pc := 20) C 0 dX6_clear_20 ki_0 ?_
  refine x_istore (pc := 21) C [(5, .int (0)), (4, .int (0)), (3, .int ((a1 * 120))), (2, .int (x2)), (0, .ref (yb b k)), (1, .int (a1))] dX6_clear_21 (by decide) rfl ?_
  obtain ⟨o11, w12, hL, hF⟩ := bd_some hF
  refine x_sub [4, 5, 3, 2, 1, 0] rfl (s_X6_clear_23 C hk _ _ _ _ _ _ _ _ _ hL ?_)
  refine x_aload_n (pc := 96) C 0 dX6_clear_96 rfl rfl ?_
  refine gf_X6_28 (pc := 97) C hk dX6_clear_97 ?_
  refine gf_X6_75 (pc := 100) C hk dX6_clear_100 ?_
  refine x_iload_n (pc := 103) C 1 dX6_clear_103 rfl rfl ?_
  refine x_iload (pc := 104) C 4 dX6_clear_104 rfl ?_
  refine cV0_2 (pc := 106) C hF (fun _ _ h => r_X4_put l G b (vr_y 11 hk (by decide)) _ _ h) vm_X4_put wq513 rfl rfl ⟨Nat.le_of_ble_eq_true rfl, Nat.le_of_ble_eq_true rfl⟩ rfl rfl (fun _ h => CW.row0 h (vr_y 11 hk (by decide))) (Nat.le_of_ble_eq_true rfl) ⟨Nat.le_refl _, Nat.le_refl _⟩ dX6_clear_106 (fun _ w13 hF => ?_)
  refine x_aload_n (pc := 109) C 0 dX6_clear_109 rfl rfl ?_
  refine gf_X6_28 (pc := 110) C hk dX6_clear_110 ?_
  refine gf_X6_196 (pc := 113) C hk dX6_clear_113 ?_
  refine x_iload_n (pc := 116) C 1 dX6_clear_116 rfl rfl ?_
  refine x_iload_n (pc := 117) C 2 dX6_clear_117 rfl rfl ?_
  refine x_iload (pc := 118) C 4 dX6_clear_118 rfl ?_
  refine x_isub (pc := 120) C dX6_clear_120 ?_
  refine cV0_2 (pc := 121) C hF (fun _ _ h => r_X4_add l G b (vr_y 9 hk (by decide)) _ _ h) vm_X4_add wq739 rfl rfl ⟨Nat.le_of_ble_eq_true rfl, Nat.le_of_ble_eq_true rfl⟩ rfl rfl (fun _ h => CW.row0 h (vr_y 9 hk (by decide))) (Nat.le_of_ble_eq_true rfl) ⟨Nat.le_refl _, Nat.le_refl _⟩ dX6_clear_121 (fun _ w14 hF => ?_)
  refine x_aload_n (pc := 124) C 0 dX6_clear_124 rfl rfl ?_
  refine gf_X6_28 (pc := 125) C hk dX6_clear_125 ?_
  refine gf_X6_199 (pc := 128) C hk dX6_clear_128 ?_
  refine x_iload_n (pc := 131) C 1 dX6_clear_131 rfl rfl ?_
  refine x_iconst (pc := 132) C 1 dX6_clear_132 ki_1 ?_
  refine cV0_2 (pc := 133) C hF (fun _ _ h => r_X4_add l G b (vr_y 10 hk (by decide)) _ _ h) vm_X4_add wq739 rfl rfl ⟨Nat.le_of_ble_eq_true rfl, Nat.le_of_ble_eq_true rfl⟩ rfl rfl (fun _ h => CW.row0 h (vr_y 10 hk (by decide))) (Nat.le_of_ble_eq_true rfl) ⟨Nat.le_refl _, Nat.le_refl _⟩ dX6_clear_133 (fun _ w15 hF => ?_)
  refine x_aload_n (pc := 136) C 0 dX6_clear_136 rfl rfl ?_
  refine x_dup (pc := 137) C dX6_clear_137 rfl ?_
  refine gf_X6_42 (pc := 138) C hk dX6_clear_138 ?_
  refine x_iconst (pc := 141) C 1 dX6_clear_141 ki_1 ?_
  refine x_iadd (pc := 142) C dX6_clear_142 ?_
  refine pf_X6_42 (pc := 143) C hk  hF dX6_clear_143 (fun w16 hF => ?_)
  refine x_aload_n (pc := 146) C 0 dX6_clear_146 rfl rfl ?_
  refine x_dup (pc := 147) C dX6_clear_147 rfl ?_
  refine gf_X6_45 (pc := 148) C hk dX6_clear_148 ?_
  refine x_aload_n (pc := 151) C 0 dX6_clear_151 rfl rfl ?_
  refine gf_X6_15 (pc := 152) C hk dX6_clear_152 ?_
  refine x_if_ne (pc := 155) C 170 dX6_clear_155 rfl hF (fun c21 hF => ?_) (fun c21 hF => ?_)
  · refine x_iconst (pc := 170) C 0 dX6_clear_170 ki_0 ?_
    refine x_iadd (pc := 171) C dX6_clear_171 ?_
    refine pf_X6_45 (pc := 172) C hk  hF dX6_clear_172 (fun w17 hF => ?_)
    refine x_iload_n (pc := 175) C 2 dX6_clear_175 rfl rfl ?_
    refine x_iload (pc := 176) C 4 dX6_clear_176 rfl ?_
    refine x_isub (pc := 178) C dX6_clear_178 ?_
    obtain ⟨rfl, rfl⟩ := ret_eq hF
    exact x_iret (pc := 179) C hr rfl (fun _ h => h) dX6_clear_179
  · refine x_iconst (pc := 158) C 3 dX6_clear_158 ki_3 ?_
    refine x_aload_n (pc := 159) C 0 dX6_clear_159 rfl rfl ?_
    refine gf_X6_28 (pc := 160) C hk dX6_clear_160 ?_
    refine cV1_0 (pc := 163) (val := Value.int) C hF (fun _ _ h => c_X0_number l G b hk h) vm_X0_number wq156 rfl rfl ⟨Nat.le_of_ble_eq_true rfl, Nat.le_of_ble_eq_true rfl⟩ rfl rfl (fun _ h => CW.ch h hk) (Nat.le_of_ble_eq_true rfl) ⟨Nat.le_refl _, Nat.le_refl _⟩ dX6_clear_163 (fun x19 w18 hF => ?_)
    refine x_imul (pc := 166) C dX6_clear_166 ?_
    refine x_goto (pc := 167) C 171 dX6_clear_167 rfl ?_
    refine x_iadd (pc := 171) C dX6_clear_171 ?_
    refine pf_X6_45 (pc := 172) C hk  hF dX6_clear_172 (fun w20 hF => ?_)
    refine x_iload_n (pc := 175) C 2 dX6_clear_175 rfl rfl ?_
    refine x_iload (pc := 176) C 4 dX6_clear_176 rfl ?_
    refine x_isub (pc := 178) C dX6_clear_178 ?_
    obtain ⟨rfl, rfl⟩ := ret_eq hF
    exact x_iret (pc := 179) C hr rfl (fun _ h => h) dX6_clear_179
set_option maxRecDepth 4000 in
theorem c_X6_takeOff (l : Launch) (G : xG) (b : Nat) {k : Nat} (hk : k < 8)   (a1 : Int32) (a2 : Int32) {w w' : xWt} {v : Int32} (hF : F_X6_takeOff k a1 a2 w = some (v, w')) : xMet l G b yX6_takeOff cX6_takeOff 5 (some .int) (xR 3) [.ref (yb b k), .int (a1), .int (a2)] (CW G b w) (some (.int v)) (CW G b w') 0 0 := by
  refine x_of (own := RX6) rfl (plainFor_of_name pn_X6) (Nat.le_of_ble_eq_true rfl) ?_
  intro p e s m args below meth c ha C hr _
  unfold F_X6_takeOff at hF
  refine x_aload_n (pc := 0) C 0 dX6_takeOff_0 rfl rfl ?_
  refine gf_X6_21 (pc := 1) C hk dX6_takeOff_1 ?_
  refine gf_X6_124 (pc := 4) C hk dX6_takeOff_4 ?_
  refine x_iload_n (pc := 7) C 2 dX6_takeOff_7 rfl rfl ?_
  refine cV1_1 (pc := 8) (val := Value.int) C hF (fun _ _ h => r_X4_get l G b (vr_y 0 hk (by decide)) _ h) vm_X4_get wq226 rfl rfl ⟨Nat.le_of_ble_eq_true rfl, Nat.le_of_ble_eq_true rfl⟩ rfl rfl (fun _ h => CW.row0 h (vr_y 0 hk (by decide))) (Nat.le_of_ble_eq_true rfl) ⟨Nat.le_refl _, Nat.le_refl _⟩ dX6_takeOff_8 (fun x2 w1 hF => ?_)
  refine x_istore_n (pc := 11) C [(3, .int (x2)), (0, .ref (yb b k)), (1, .int (a1)), (2, .int (a2))] dX6_takeOff_11 rfl (by decide) rfl ?_
  refine x_aload_n (pc := 12) C 1 dX6_takeOff_12 rfl rfl ?_
  refine gf_X6_21 (pc := 13) C hk dX6_takeOff_13 ?_
  refine x_iload_n (pc := 16) C 0 dX6_takeOff_16 rfl rfl ?_
  refine x_iload_n (pc := 17) C 2 dX6_takeOff_17 rfl rfl ?_
  refine x_aload_n (pc := 18) C 1 dX6_takeOff_18 rfl rfl ?_
  refine gf_X6_39 (pc := 19) C hk dX6_takeOff_19 ?_
  refine cV0_3 (pc := 22) C hF (fun _ _ h => c_X2_putAside l G b hk _ _ _ h) vm_X2_putAside wq734 rfl rfl ⟨Nat.le_of_ble_eq_true rfl, Nat.le_of_ble_eq_true rfl⟩ rfl rfl (fun _ h => CW.lv h hk) (Nat.le_of_ble_eq_true rfl) ⟨Nat.le_refl _, Nat.le_refl _⟩ dX6_takeOff_22 (fun _ w3 hF => ?_)
  refine x_aload_n (pc := 25) C 1 dX6_takeOff_25 rfl rfl ?_
  refine gf_X6_28 (pc := 26) C hk dX6_takeOff_26 ?_
  refine x_iload_n (pc := 29) C 2 dX6_takeOff_29 rfl rfl ?_
  refine x_iload_n (pc := 30) C 0 dX6_takeOff_30 rfl rfl ?_
  refine cV0_2 (pc := 31) C hF (fun _ _ h => c_X0_putOnHeap l G b hk _ _ h) vm_X0_putOnHeap wq604 rfl rfl ⟨Nat.le_of_ble_eq_true rfl, Nat.le_of_ble_eq_true rfl⟩ rfl rfl (fun _ h => CW.ch h hk) (Nat.le_of_ble_eq_true rfl) ⟨Nat.le_refl _, Nat.le_refl _⟩ dX6_takeOff_31 (fun _ w4 hF => ?_)
  refine x_aload_n (pc := 34) C 1 dX6_takeOff_34 rfl rfl ?_
  refine gf_X6_28 (pc := 35) C hk dX6_takeOff_35 ?_
  refine gf_X6_159 (pc := 38) C hk dX6_takeOff_38 ?_
  refine x_iload_n (pc := 41) C 2 dX6_takeOff_41 rfl rfl ?_
  refine x_iconst (pc := 42) C 1 dX6_takeOff_42 ki_1 ?_
  refine cV0_2 (pc := 43) C hF (fun _ _ h => r_X4_add l G b (vr_y 8 hk (by decide)) _ _ h) vm_X4_add wq739 rfl rfl ⟨Nat.le_of_ble_eq_true rfl, Nat.le_of_ble_eq_true rfl⟩ rfl rfl (fun _ h => CW.row0 h (vr_y 8 hk (by decide))) (Nat.le_of_ble_eq_true rfl) ⟨Nat.le_refl _, Nat.le_refl _⟩ dX6_takeOff_43 (fun _ w5 hF => ?_)
  refine x_aload_n (pc := 46) C 1 dX6_takeOff_46 rfl rfl ?_
  refine gf_X6_28 (pc := 47) C hk dX6_takeOff_47 ?_
  refine gf_X6_75 (pc := 50) C hk dX6_takeOff_50 ?_
  refine x_iload_n (pc := 53) C 2 dX6_takeOff_53 rfl rfl ?_
  refine cV1_1 (pc := 54) (val := Value.int) C hF (fun _ _ h => r_X4_get l G b (vr_y 11 hk (by decide)) _ h) vm_X4_get wq226 rfl rfl ⟨Nat.le_of_ble_eq_true rfl, Nat.le_of_ble_eq_true rfl⟩ rfl rfl (fun _ h => CW.row0 h (vr_y 11 hk (by decide))) (Nat.le_of_ble_eq_true rfl) ⟨Nat.le_refl _, Nat.le_refl _⟩ dX6_takeOff_54 (fun x7 w6 hF => ?_)
  refine x_aload_n (pc := 57) C 1 dX6_takeOff_57 rfl rfl ?_
  refine gf_X6_9 (pc := 58) C hk dX6_takeOff_58 ?_
  refine x_icmp_lt (pc := 61) C 72 dX6_takeOff_61 rfl hF (fun c16 hF => ?_) (fun c16 hF => ?_)
  · refine x_iconst (pc := 72) C 0 dX6_takeOff_72 ki_0 ?_
    refine x_istore (pc := 73) C [(4, .int (0)), (3, .int (x2)), (0, .ref (yb b k)), (1, .int (a1)), (2, .int (a2))] dX6_takeOff_73 (by decide) rfl ?_
    refine x_aload_n (pc := 75) C 2 dX6_takeOff_75 rfl rfl ?_
    refine x_aload_n (pc := 76) C 2 dX6_takeOff_76 rfl rfl ?_
    refine gf_X6_54 (pc := 77) C hk dX6_takeOff_77 ?_
    refine x_aload_n (pc := 80) C 2 dX6_takeOff_80 rfl rfl ?_
    refine gf_X6_21 (pc := 81) C hk dX6_takeOff_81 ?_
    refine x_iconst (pc := 84) C 1 dX6_takeOff_84 ki_1 ?_
    refine cV1_1 (pc := 85) (val := Value.int) C hF (fun _ _ h => c_X2_numberWhere l G b hk _ h) vm_X2_numberWhere wq168 rfl rfl ⟨Nat.le_of_ble_eq_true rfl, Nat.le_of_ble_eq_true rfl⟩ rfl rfl (fun _ h => CW.lv h hk) (Nat.le_of_ble_eq_true rfl) ⟨Nat.le_refl _, Nat.le_refl _⟩ dX6_takeOff_85 (fun x9 w8 hF => ?_)
    refine x_max (pc := 88) C wq731 wq732 wq465 wq733 ⟨Nat.le_of_ble_eq_true rfl, Nat.le_of_ble_eq_true rfl⟩ ⟨Nat.le_refl _, Nat.le_refl _⟩ dX6_takeOff_88 ?_
    refine pf_X6_54 (pc := 91) C hk  hF dX6_takeOff_91 (fun w10 hF => ?_)
    refine x_iload (pc := 94) C 0 dX6_takeOff_94 rfl ?_
    obtain ⟨rfl, rfl⟩ := ret_eq hF
    exact x_iret (pc := 96) C hr rfl (fun _ h => h) dX6_takeOff_96
  · refine x_aload_n (pc := 64) C 1 dX6_takeOff_64 rfl rfl ?_
    refine x_iload_n (pc := 65) C 2 dX6_takeOff_65 rfl rfl ?_
    refine cV1_1 (pc := 66) (val := Value.int) C hF (fun _ _ h => c_X6_clear l G b hk _ h) vm_X6_clear wq740 rfl rfl ⟨Nat.le_of_ble_eq_true rfl, Nat.le_of_ble_eq_true rfl⟩ rfl rfl (fun _ h => CW.yd h hk) (Nat.le_of_ble_eq_true rfl) ⟨Nat.le_refl _, Nat.le_refl _⟩ dX6_takeOff_66 (fun x12 w11 hF => ?_)
    refine x_goto (pc := 69) C 73 dX6_takeOff_69 rfl ?_
    refine x_istore (pc := 73) C [(4, .int (x12)), (3, .int (x2)), (0, .ref (yb b k)), (1, .int (a1)), (2, .int (a2))] dX6_takeOff_73 (by decide) rfl ?_
    refine x_aload_n (pc := 75) C 2 dX6_takeOff_75 rfl rfl ?_
    refine x_aload_n (pc := 76) C 2 dX6_takeOff_76 rfl rfl ?_
    refine gf_X6_54 (pc := 77) C hk dX6_takeOff_77 ?_
    refine x_aload_n (pc := 80) C 2 dX6_takeOff_80 rfl rfl ?_
    refine gf_X6_21 (pc := 81) C hk dX6_takeOff_81 ?_
    refine x_iconst (pc := 84) C 1 dX6_takeOff_84 ki_1 ?_
    refine cV1_1 (pc := 85) (val := Value.int) C hF (fun _ _ h => c_X2_numberWhere l G b hk _ h) vm_X2_numberWhere wq168 rfl rfl ⟨Nat.le_of_ble_eq_true rfl, Nat.le_of_ble_eq_true rfl⟩ rfl rfl (fun _ h => CW.lv h hk) (Nat.le_of_ble_eq_true rfl) ⟨Nat.le_refl _, Nat.le_refl _⟩ dX6_takeOff_85 (fun x14 w13 hF => ?_)
    refine x_max (pc := 88) C wq731 wq732 wq465 wq733 ⟨Nat.le_of_ble_eq_true rfl, Nat.le_of_ble_eq_true rfl⟩ ⟨Nat.le_refl _, Nat.le_refl _⟩ dX6_takeOff_88 ?_
    refine pf_X6_54 (pc := 91) C hk  hF dX6_takeOff_91 (fun w15 hF => ?_)
    refine x_iload (pc := 94) C 0 dX6_takeOff_94 rfl ?_
    obtain ⟨rfl, rfl⟩ := ret_eq hF
    exact x_iret (pc := 96) C hr rfl (fun _ h => h) dX6_takeOff_96
set_option maxRecDepth 4000 in
theorem c_X6_exchange (l : Launch) (G : xG) (b : Nat) {k : Nat} (hk : k < 8)   (a1 : Int32) (a2 : Int32) (a3 : Int32) {w w' : xWt} {v : Int32} (hF : F_X6_exchange k a1 a2 a3 w = some (v, w')) : xMet l G b yX6_exchange cX6_exchange 4 (some .int) (xR 4) [.ref (yb b k), .int (a1), .int (a2), .int (a3)] (CW G b w) (some (.int v)) (CW G b w') 0 0 := by
  refine x_of (own := RX6) rfl (plainFor_of_name pn_X6) (Nat.le_of_ble_eq_true rfl) ?_
  intro p e s m args below meth c ha C hr _
  unfold F_X6_exchange at hF
  refine x_aload_n (pc := 0) C 0 dX6_exchange_0 rfl rfl ?_
  refine x_iload_n (pc := 1) C 1 dX6_exchange_1 rfl rfl ?_
  refine x_iload_n (pc := 2) C 2 dX6_exchange_2 rfl rfl ?_
  refine cV1_2 (pc := 3) (val := Value.int) C hF (fun _ _ h => c_X6_takeOff l G b hk _ _ h) vm_X6_takeOff wq771 rfl rfl ⟨Nat.le_of_ble_eq_true rfl, Nat.le_of_ble_eq_true rfl⟩ rfl rfl (fun _ h => CW.yd h hk) (Nat.le_of_ble_eq_true rfl) ⟨Nat.le_refl _, Nat.le_refl _⟩ dX6_exchange_3 (fun x2 w1 hF => ?_)
  refine x_pop (pc := 6) C dX6_exchange_6 rfl ?_
  refine x_aload_n (pc := 7) C 0 dX6_exchange_7 rfl rfl ?_
  refine gf_X6_21 (pc := 8) C hk dX6_exchange_8 ?_
  refine x_iload_n (pc := 11) C 2 dX6_exchange_11 rfl rfl ?_
  refine x_iload_n (pc := 12) C 3 dX6_exchange_12 rfl rfl ?_
  refine cV1_2 (pc := 13) (val := Value.int) C hF (fun _ _ h => c_X2_sprout l G b hk _ _ h) vm_X2_sprout wq772 rfl rfl ⟨Nat.le_of_ble_eq_true rfl, Nat.le_of_ble_eq_true rfl⟩ rfl rfl (fun _ h => CW.lv h hk) (Nat.le_of_ble_eq_true rfl) ⟨Nat.le_refl _, Nat.le_refl _⟩ dX6_exchange_13 (fun x4 w3 hF => ?_)
  obtain ⟨rfl, rfl⟩ := ret_eq hF
  exact x_iret (pc := 16) C hr rfl (fun _ h => h) dX6_exchange_16
set_option maxRecDepth 4000 in
theorem c_X6_fasten (l : Launch) (G : xG) (b : Nat) {k : Nat} (hk : k < 8)   (a1 : Int32) (a2 : Int32) {w w' : xWt} {v : Int32} (hF : F_X6_fasten k a1 a2 w = some (v, w')) : xMet l G b yX6_fasten cX6_fasten 4 (some .int) (xR 2) [.ref (yb b k), .int (a1), .int (a2)] (CW G b w) (some (.int v)) (CW G b w') 0 0 := by
  refine x_of (own := RX6) rfl (plainFor_of_name pn_X6) (Nat.le_of_ble_eq_true rfl) ?_
  intro p e s m args below meth c ha C hr _
  unfold F_X6_fasten at hF
  refine x_aload_n (pc := 0) C 0 dX6_fasten_0 rfl rfl ?_
  refine gf_X6_35 (pc := 1) C hk dX6_fasten_1 ?_
  refine x_iload_n (pc := 4) C 1 dX6_fasten_4 rfl rfl ?_
  refine x_iload_n (pc := 5) C 2 dX6_fasten_5 rfl rfl ?_
  refine cV1_2 (pc := 6) (val := Value.int) C hF (fun _ _ h => c_X1_leafOf l G b hk _ _ h) vm_X1_leafOf wq390 rfl rfl ⟨Nat.le_of_ble_eq_true rfl, Nat.le_of_ble_eq_true rfl⟩ rfl rfl (fun _ h => CW.hk h hk) (Nat.le_of_ble_eq_true rfl) ⟨Nat.le_refl _, Nat.le_refl _⟩ dX6_fasten_6 (fun x2 w1 hF => ?_)
  refine x_istore_n (pc := 9) C [(3, .int (x2)), (0, .ref (yb b k)), (1, .int (a1)), (2, .int (a2))] dX6_fasten_9 rfl (by decide) rfl ?_
  refine x_aload_n (pc := 10) C 1 dX6_fasten_10 rfl rfl ?_
  refine gf_X6_21 (pc := 11) C hk dX6_fasten_11 ?_
  refine gf_X6_124 (pc := 14) C hk dX6_fasten_14 ?_
  refine x_aload_n (pc := 17) C 1 dX6_fasten_17 rfl rfl ?_
  refine gf_X6_35 (pc := 18) C hk dX6_fasten_18 ?_
  refine x_iload_n (pc := 21) C 2 dX6_fasten_21 rfl rfl ?_
  refine x_iload_n (pc := 22) C 3 dX6_fasten_22 rfl rfl ?_
  refine cV1_2 (pc := 23) (val := Value.int) C hF (fun _ _ h => c_X1_branchOf l G b hk _ _ h) vm_X1_branchOf wq659 rfl rfl ⟨Nat.le_of_ble_eq_true rfl, Nat.le_of_ble_eq_true rfl⟩ rfl rfl (fun _ h => CW.hk h hk) (Nat.le_of_ble_eq_true rfl) ⟨Nat.le_refl _, Nat.le_refl _⟩ dX6_fasten_23 (fun x4 w3 hF => ?_)
  refine cV1_1 (pc := 26) (val := Value.int) C hF (fun _ _ h => r_X4_get l G b (vr_y 0 hk (by decide)) _ h) vm_X4_get wq226 rfl rfl ⟨Nat.le_of_ble_eq_true rfl, Nat.le_of_ble_eq_true rfl⟩ rfl rfl (fun _ h => CW.row0 h (vr_y 0 hk (by decide))) (Nat.le_of_ble_eq_true rfl) ⟨Nat.le_refl _, Nat.le_refl _⟩ dX6_fasten_26 (fun x6 w5 hF => ?_)
  refine x_iload_n (pc := 29) C 0 dX6_fasten_29 rfl rfl ?_
  refine x_icmp_ne (pc := 30) C 44 dX6_fasten_30 rfl hF (fun c10 hF => ?_) (fun c10 hF => ?_)
  · refine x_aload_n (pc := 44) C 1 dX6_fasten_44 rfl rfl ?_
    refine gf_X6_35 (pc := 45) C hk dX6_fasten_45 ?_
    refine x_iload_n (pc := 48) C 2 dX6_fasten_48 rfl rfl ?_
    refine x_iload_n (pc := 49) C 3 dX6_fasten_49 rfl rfl ?_
    refine cV0_2 (pc := 50) C hF (fun _ _ h => c_X1_release l G b hk _ _ h) vm_X1_release wq664 rfl rfl ⟨Nat.le_of_ble_eq_true rfl, Nat.le_of_ble_eq_true rfl⟩ rfl rfl (fun _ h => CW.hk h hk) (Nat.le_of_ble_eq_true rfl) ⟨Nat.le_refl _, Nat.le_refl _⟩ dX6_fasten_50 (fun _ w7 hF => ?_)
    refine x_aload_n (pc := 53) C 1 dX6_fasten_53 rfl rfl ?_
    refine x_dup (pc := 54) C dX6_fasten_54 rfl ?_
    refine gf_X6_48 (pc := 55) C hk dX6_fasten_55 ?_
    refine x_iconst (pc := 58) C 1 dX6_fasten_58 ki_1 ?_
    refine x_iadd (pc := 59) C dX6_fasten_59 ?_
    refine pf_X6_48 (pc := 60) C hk  hF dX6_fasten_60 (fun w8 hF => ?_)
    refine x_iconst (pc := 63) C 0 dX6_fasten_63 ki_0 ?_
    obtain ⟨rfl, rfl⟩ := ret_eq hF
    exact x_iret (pc := 64) C hr rfl (fun _ h => h) dX6_fasten_64
  · refine x_aload_n (pc := 33) C 1 dX6_fasten_33 rfl rfl ?_
    refine gf_X6_35 (pc := 34) C hk dX6_fasten_34 ?_
    refine x_iload_n (pc := 37) C 2 dX6_fasten_37 rfl rfl ?_
    refine x_iload_n (pc := 38) C 3 dX6_fasten_38 rfl rfl ?_
    refine cV0_2 (pc := 39) C hF (fun _ _ h => c_X1_fasten l G b hk _ _ h) vm_X1_fasten wq660 rfl rfl ⟨Nat.le_of_ble_eq_true rfl, Nat.le_of_ble_eq_true rfl⟩ rfl rfl (fun _ h => CW.hk h hk) (Nat.le_of_ble_eq_true rfl) ⟨Nat.le_refl _, Nat.le_refl _⟩ dX6_fasten_39 (fun _ w9 hF => ?_)
    refine x_iconst (pc := 42) C 1 dX6_fasten_42 ki_1 ?_
    obtain ⟨rfl, rfl⟩ := ret_eq hF
    exact x_iret (pc := 43) C hr rfl (fun _ h => h) dX6_fasten_43
set_option maxRecDepth 4000 in
theorem c_X6_freedBy (l : Launch) (G : xG) (b : Nat) {k : Nat} (hk : k < 8)   (a1 : Int32) (a2 : Int32) {w w' : xWt} {v : Int32} (hF : F_X6_freedBy k a1 a2 w = some (v, w')) : xMet l G b yX6_freedBy cX6_freedBy 5 (some .int) (xR 2) [.ref (yb b k), .int (a1), .int (a2)] (CW G b w) (some (.int v)) (CW G b w') 0 0 := by
  refine x_of (own := RX6) rfl (plainFor_of_name pn_X6) (Nat.le_of_ble_eq_true rfl) ?_
  intro p e s m args below meth c ha C hr _
  unfold F_X6_freedBy at hF
  refine x_aload_n (pc := 0) C 0 dX6_freedBy_0 rfl rfl ?_
  refine gf_X6_35 (pc := 1) C hk dX6_freedBy_1 ?_
  refine x_iload_n (pc := 4) C 1 dX6_freedBy_4 rfl rfl ?_
  refine x_iload_n (pc := 5) C 2 dX6_freedBy_5 rfl rfl ?_
  refine cV1_2 (pc := 6) (val := Value.int) C hF (fun _ _ h => c_X1_leafOf l G b hk _ _ h) vm_X1_leafOf wq390 rfl rfl ⟨Nat.le_of_ble_eq_true rfl, Nat.le_of_ble_eq_true rfl⟩ rfl rfl (fun _ h => CW.hk h hk) (Nat.le_of_ble_eq_true rfl) ⟨Nat.le_refl _, Nat.le_refl _⟩ dX6_freedBy_6 (fun x2 w1 hF => ?_)
  refine x_istore_n (pc := 9) C [(3, .int (x2)), (0, .ref (yb b k)), (1, .int (a1)), (2, .int (a2))] dX6_freedBy_9 rfl (by decide) rfl ?_
  refine x_aload_n (pc := 10) C 1 dX6_freedBy_10 rfl rfl ?_
  refine gf_X6_35 (pc := 11) C hk dX6_freedBy_11 ?_
  refine x_iload_n (pc := 14) C 2 dX6_freedBy_14 rfl rfl ?_
  refine x_iload_n (pc := 15) C 3 dX6_freedBy_15 rfl rfl ?_
  refine cV1_2 (pc := 16) (val := Value.int) C hF (fun _ _ h => c_X1_kindOf l G b hk _ _ h) vm_X1_kindOf wq391 rfl rfl ⟨Nat.le_of_ble_eq_true rfl, Nat.le_of_ble_eq_true rfl⟩ rfl rfl (fun _ h => CW.hk h hk) (Nat.le_of_ble_eq_true rfl) ⟨Nat.le_refl _, Nat.le_refl _⟩ dX6_freedBy_16 (fun x4 w3 hF => ?_)
  refine x_iconst (pc := 19) C 2 dX6_freedBy_19 ki_2 ?_
  refine x_icmp_ne (pc := 20) C 42 dX6_freedBy_20 rfl hF (fun c20 hF => ?_) (fun c20 hF => ?_)
  · refine x_iconst (pc := 42) C 0 dX6_freedBy_42 ki_0 ?_
    refine x_istore (pc := 43) C [(4, .int (0)), (3, .int (x2)), (0, .ref (yb b k)), (1, .int (a1)), (2, .int (a2))] dX6_freedBy_43 (by decide) rfl ?_
    refine x_iload (pc := 45) C 0 dX6_freedBy_45 rfl ?_
    refine x_if_eq (pc := 47) C 66 dX6_freedBy_47 rfl (cst_t (c9 := (0 : Int32) = 0) (by decide) hF) (fun c8 hF => ?_) (fun c8 _ => absurd (by decide) c8)
    refine x_iconst (pc := 66) C 0 dX6_freedBy_66 ki_0 ?_
    obtain ⟨rfl, rfl⟩ := ret_eq hF
    exact x_iret (pc := 67) C hr rfl (fun _ h => h) dX6_freedBy_67
  · refine x_aload_n (pc := 23) C 1 dX6_freedBy_23 rfl rfl ?_
    refine gf_X6_21 (pc := 24) C hk dX6_freedBy_24 ?_
    refine gf_X6_149 (pc := 27) C hk dX6_freedBy_27 ?_
    refine x_iload_n (pc := 30) C 0 dX6_freedBy_30 rfl rfl ?_
    refine cV1_1 (pc := 31) (val := Value.int) C hF (fun _ _ h => r_X4_get l G b (vr_y 2 hk (by decide)) _ h) vm_X4_get wq226 rfl rfl ⟨Nat.le_of_ble_eq_true rfl, Nat.le_of_ble_eq_true rfl⟩ rfl rfl (fun _ h => CW.row0 h (vr_y 2 hk (by decide))) (Nat.le_of_ble_eq_true rfl) ⟨Nat.le_refl _, Nat.le_refl _⟩ dX6_freedBy_31 (fun x10 w9 hF => ?_)
    refine x_iconst (pc := 34) C 1 dX6_freedBy_34 ki_1 ?_
    refine x_icmp_ne (pc := 35) C 42 dX6_freedBy_35 rfl hF (fun c19 hF => ?_) (fun c19 hF => ?_)
    · refine x_iconst (pc := 42) C 0 dX6_freedBy_42 ki_0 ?_
      refine x_istore (pc := 43) C [(4, .int (0)), (3, .int (x2)), (0, .ref (yb b k)), (1, .int (a1)), (2, .int (a2))] dX6_freedBy_43 (by decide) rfl ?_
      refine x_iload (pc := 45) C 0 dX6_freedBy_45 rfl ?_
      refine x_if_eq (pc := 47) C 66 dX6_freedBy_47 rfl (cst_t (c9 := (0 : Int32) = 0) (by decide) hF) (fun c14 hF => ?_) (fun c14 _ => absurd (by decide) c14)
      refine x_iconst (pc := 66) C 0 dX6_freedBy_66 ki_0 ?_
      obtain ⟨rfl, rfl⟩ := ret_eq hF
      exact x_iret (pc := 67) C hr rfl (fun _ h => h) dX6_freedBy_67
    · refine x_iconst (pc := 38) C 1 dX6_freedBy_38 ki_1 ?_
      refine x_goto (pc := 39) C 43 dX6_freedBy_39 rfl ?_
      refine x_istore (pc := 43) C [(4, .int (1)), (3, .int (x2)), (0, .ref (yb b k)), (1, .int (a1)), (2, .int (a2))] dX6_freedBy_43 (by decide) rfl ?_
      refine x_iload (pc := 45) C 0 dX6_freedBy_45 rfl ?_
      refine x_if_eq (pc := 47) C 66 dX6_freedBy_47 rfl (cst_f (c9 := (1 : Int32) = 0) (by decide) hF) (fun c18 _ => absurd c18 (by decide)) (fun c18 hF => ?_)
      refine x_aload_n (pc := 50) C 2 dX6_freedBy_50 rfl rfl ?_
      refine gf_X6_35 (pc := 51) C hk dX6_freedBy_51 ?_
      refine x_iload_n (pc := 54) C 1 dX6_freedBy_54 rfl rfl ?_
      refine cV1_1 (pc := 55) (val := Value.int) C hF (fun _ _ h => c_X1_pinsOn l G b hk _ h) vm_X1_pinsOn wq235 rfl rfl ⟨Nat.le_of_ble_eq_true rfl, Nat.le_of_ble_eq_true rfl⟩ rfl rfl (fun _ h => CW.hk h hk) (Nat.le_of_ble_eq_true rfl) ⟨Nat.le_refl _, Nat.le_refl _⟩ dX6_freedBy_55 (fun x16 w15 hF => ?_)
      refine x_iconst (pc := 58) C 1 dX6_freedBy_58 ki_1 ?_
      refine x_icmp_ne (pc := 59) C 66 dX6_freedBy_59 rfl hF (fun c17 hF => ?_) (fun c17 hF => ?_)
      · refine x_iconst (pc := 66) C 0 dX6_freedBy_66 ki_0 ?_
        obtain ⟨rfl, rfl⟩ := ret_eq hF
        exact x_iret (pc := 67) C hr rfl (fun _ h => h) dX6_freedBy_67
      · refine x_iconst (pc := 62) C 1 dX6_freedBy_62 ki_1 ?_
        refine x_goto (pc := 63) C 67 dX6_freedBy_63 rfl ?_
        obtain ⟨rfl, rfl⟩ := ret_eq hF
        exact x_iret (pc := 67) C hr rfl (fun _ h => h) dX6_freedBy_67
set_option maxRecDepth 4000 in
theorem c_X6_goIn (l : Launch) (G : xG) (b : Nat) {k : Nat} (hk : k < 8)   (a1 : Int32) {w w' : xWt} {v : Int32} (hF : F_X6_goIn k a1 w = some (v, w')) : xMet l G b yX6_goIn cX6_goIn 2 (some .int) (xR 1) [.ref (yb b k), .int (a1)] (CW G b w) (some (.int v)) (CW G b w') 0 0 := by
  refine x_of (own := RX6) rfl (plainFor_of_name pn_X6) (Nat.le_of_ble_eq_true rfl) ?_
  intro p e s m args below meth c ha C hr _
  unfold F_X6_goIn at hF
  refine x_aload_n (pc := 0) C 0 dX6_goIn_0 rfl rfl ?_
  refine gf_X6_28 (pc := 1) C hk dX6_goIn_1 ?_
  refine gf_X6_115 (pc := 4) C hk dX6_goIn_4 ?_
  refine x_iload_n (pc := 7) C 1 dX6_goIn_7 rfl rfl ?_
  refine x_aload_n (pc := 8) C 0 dX6_goIn_8 rfl rfl ?_
  refine gf_X6_39 (pc := 9) C hk dX6_goIn_9 ?_
  refine cV0_2 (pc := 12) C hF (fun _ _ h => r_X4_put l G b (vr_y 7 hk (by decide)) _ _ h) vm_X4_put wq513 rfl rfl ⟨Nat.le_of_ble_eq_true rfl, Nat.le_of_ble_eq_true rfl⟩ rfl rfl (fun _ h => CW.row0 h (vr_y 7 hk (by decide))) (Nat.le_of_ble_eq_true rfl) ⟨Nat.le_refl _, Nat.le_refl _⟩ dX6_goIn_12 (fun _ w1 hF => ?_)
  refine x_aload_n (pc := 15) C 0 dX6_goIn_15 rfl rfl ?_
  refine gf_X6_39 (pc := 16) C hk dX6_goIn_16 ?_
  obtain ⟨rfl, rfl⟩ := ret_eq hF
  exact x_iret (pc := 19) C hr rfl (fun _ h => h) dX6_goIn_19
set_option maxRecDepth 4000 in
theorem c_X6_lieDown (l : Launch) (G : xG) (b : Nat) {k : Nat} (hk : k < 8)   (a1 : Int32) {w w' : xWt} {v : Int32} (hF : F_X6_lieDown k a1 w = some (v, w')) : xMet l G b yX6_lieDown cX6_lieDown 3 (some .int) (xR 3) [.ref (yb b k), .int (a1)] (CW G b w) (some (.int v)) (CW G b w') 0 0 := by
  refine x_of (own := RX6) rfl (plainFor_of_name pn_X6) (Nat.le_of_ble_eq_true rfl) ?_
  intro p e s m args below meth c ha C hr _
  unfold F_X6_lieDown at hF
  refine x_aload_n (pc := 0) C 0 dX6_lieDown_0 rfl rfl ?_
  refine gf_X6_35 (pc := 1) C hk dX6_lieDown_1 ?_
  refine x_iload_n (pc := 4) C 1 dX6_lieDown_4 rfl rfl ?_
  refine cV1_1 (pc := 5) (val := Value.int) C hF (fun _ _ h => c_X1_pinsOfChild l G b hk _ h) vm_X1_pinsOfChild wq345 rfl rfl ⟨Nat.le_of_ble_eq_true rfl, Nat.le_of_ble_eq_true rfl⟩ rfl rfl (fun _ h => CW.hk h hk) (Nat.le_of_ble_eq_true rfl) ⟨Nat.le_refl _, Nat.le_refl _⟩ dX6_lieDown_5 (fun x2 w1 hF => ?_)
  refine x_istore_n (pc := 8) C [(2, .int (x2)), (0, .ref (yb b k)), (1, .int (a1))] dX6_lieDown_8 rfl (by decide) rfl ?_
  refine x_aload_n (pc := 9) C 1 dX6_lieDown_9 rfl rfl ?_
  refine gf_X6_28 (pc := 10) C hk dX6_lieDown_10 ?_
  refine gf_X6_115 (pc := 13) C hk dX6_lieDown_13 ?_
  refine x_iload_n (pc := 16) C 2 dX6_lieDown_16 rfl rfl ?_
  refine x_iconst (pc := 17) C (-1) dX6_lieDown_17 ki_m1 ?_
  refine cV0_2 (pc := 18) C hF (fun _ _ h => r_X4_put l G b (vr_y 7 hk (by decide)) _ _ h) vm_X4_put wq513 rfl rfl ⟨Nat.le_of_ble_eq_true rfl, Nat.le_of_ble_eq_true rfl⟩ rfl rfl (fun _ h => CW.row0 h (vr_y 7 hk (by decide))) (Nat.le_of_ble_eq_true rfl) ⟨Nat.le_refl _, Nat.le_refl _⟩ dX6_lieDown_18 (fun _ w3 hF => ?_)
  refine x_aload_n (pc := 21) C 1 dX6_lieDown_21 rfl rfl ?_
  refine gf_X6_35 (pc := 22) C hk dX6_lieDown_22 ?_
  refine x_iload_n (pc := 25) C 2 dX6_lieDown_25 rfl rfl ?_
  refine cV0_1 (pc := 26) C hF (fun _ _ h => c_X1_releaseAll l G b hk _ h) vm_X1_releaseAll wq529 rfl rfl ⟨Nat.le_of_ble_eq_true rfl, Nat.le_of_ble_eq_true rfl⟩ rfl rfl (fun _ h => CW.hk h hk) (Nat.le_of_ble_eq_true rfl) ⟨Nat.le_refl _, Nat.le_refl _⟩ dX6_lieDown_26 (fun _ w4 hF => ?_)
  refine x_iload_n (pc := 29) C 0 dX6_lieDown_29 rfl rfl ?_
  obtain ⟨rfl, rfl⟩ := ret_eq hF
  exact x_iret (pc := 30) C hr rfl (fun _ h => h) dX6_lieDown_30
set_option maxRecDepth 4000 in
theorem c_X6_lookThrough (l : Launch) (G : xG) (b : Nat) {k : Nat} (hk : k < 8)   (a1 : Int32) (a2 : Int32) {w w' : xWt} {v : Int32} (hF : F_X6_lookThrough k a1 a2 w = some (v, w')) : xMet l G b yX6_lookThrough cX6_lookThrough 4 (some .int) (xR 2) [.ref (yb b k), .int (a1), .int (a2)] (CW G b w) (some (.int v)) (CW G b w') 0 0 := by
  refine x_of (own := RX6) rfl (plainFor_of_name pn_X6) (Nat.le_of_ble_eq_true rfl) ?_
  intro p e s m args below meth c ha C hr _
  unfold F_X6_lookThrough at hF
  refine x_aload_n (pc := 0) C 0 dX6_lookThrough_0 rfl rfl ?_
  refine gf_X6_35 (pc := 1) C hk dX6_lookThrough_1 ?_
  refine x_iload_n (pc := 4) C 1 dX6_lookThrough_4 rfl rfl ?_
  refine x_iload_n (pc := 5) C 2 dX6_lookThrough_5 rfl rfl ?_
  refine cV1_2 (pc := 6) (val := Value.int) C hF (fun _ _ h => c_X1_leafOf l G b hk _ _ h) vm_X1_leafOf wq390 rfl rfl ⟨Nat.le_of_ble_eq_true rfl, Nat.le_of_ble_eq_true rfl⟩ rfl rfl (fun _ h => CW.hk h hk) (Nat.le_of_ble_eq_true rfl) ⟨Nat.le_refl _, Nat.le_refl _⟩ dX6_lookThrough_6 (fun x2 w1 hF => ?_)
  refine x_istore_n (pc := 9) C [(3, .int (x2)), (0, .ref (yb b k)), (1, .int (a1)), (2, .int (a2))] dX6_lookThrough_9 rfl (by decide) rfl ?_
  refine x_aload_n (pc := 10) C 1 dX6_lookThrough_10 rfl rfl ?_
  refine gf_X6_35 (pc := 11) C hk dX6_lookThrough_11 ?_
  refine x_iload_n (pc := 14) C 2 dX6_lookThrough_14 rfl rfl ?_
  refine x_iload_n (pc := 15) C 3 dX6_lookThrough_15 rfl rfl ?_
  refine cV1_2 (pc := 16) (val := Value.int) C hF (fun _ _ h => c_X1_kindOf l G b hk _ _ h) vm_X1_kindOf wq391 rfl rfl ⟨Nat.le_of_ble_eq_true rfl, Nat.le_of_ble_eq_true rfl⟩ rfl rfl (fun _ h => CW.hk h hk) (Nat.le_of_ble_eq_true rfl) ⟨Nat.le_refl _, Nat.le_refl _⟩ dX6_lookThrough_16 (fun x4 w3 hF => ?_)
  refine x_iconst (pc := 19) C 1 dX6_lookThrough_19 ki_1 ?_
  refine x_icmp_ne (pc := 20) C 50 dX6_lookThrough_20 rfl hF (fun c13 hF => ?_) (fun c13 hF => ?_)
  · refine x_aload_n (pc := 50) C 1 dX6_lookThrough_50 rfl rfl ?_
    refine gf_X6_21 (pc := 51) C hk dX6_lookThrough_51 ?_
    refine gf_X6_152 (pc := 54) C hk dX6_lookThrough_54 ?_
    refine x_iload_n (pc := 57) C 0 dX6_lookThrough_57 rfl rfl ?_
    refine cV1_1 (pc := 58) (val := Value.int) C hF (fun _ _ h => r_X4_get l G b (vr_y 1 hk (by decide)) _ h) vm_X4_get wq226 rfl rfl ⟨Nat.le_of_ble_eq_true rfl, Nat.le_of_ble_eq_true rfl⟩ rfl rfl (fun _ h => CW.row0 h (vr_y 1 hk (by decide))) (Nat.le_of_ble_eq_true rfl) ⟨Nat.le_refl _, Nat.le_refl _⟩ dX6_lookThrough_58 (fun x6 w5 hF => ?_)
    obtain ⟨rfl, rfl⟩ := ret_eq hF
    exact x_iret (pc := 61) C hr rfl (fun _ h => h) dX6_lookThrough_61
  · refine x_aload_n (pc := 23) C 1 dX6_lookThrough_23 rfl rfl ?_
    refine gf_X6_21 (pc := 24) C hk dX6_lookThrough_24 ?_
    refine gf_X6_149 (pc := 27) C hk dX6_lookThrough_27 ?_
    refine x_iload_n (pc := 30) C 0 dX6_lookThrough_30 rfl rfl ?_
    refine cV1_1 (pc := 31) (val := Value.int) C hF (fun _ _ h => r_X4_get l G b (vr_y 2 hk (by decide)) _ h) vm_X4_get wq226 rfl rfl ⟨Nat.le_of_ble_eq_true rfl, Nat.le_of_ble_eq_true rfl⟩ rfl rfl (fun _ h => CW.row0 h (vr_y 2 hk (by decide))) (Nat.le_of_ble_eq_true rfl) ⟨Nat.le_refl _, Nat.le_refl _⟩ dX6_lookThrough_31 (fun x8 w7 hF => ?_)
    refine x_iconst (pc := 34) C 2 dX6_lookThrough_34 ki_2 ?_
    refine x_icmp_ne (pc := 35) C 50 dX6_lookThrough_35 rfl hF (fun c12 hF => ?_) (fun c12 hF => ?_)
    · refine x_aload_n (pc := 50) C 1 dX6_lookThrough_50 rfl rfl ?_
      refine gf_X6_21 (pc := 51) C hk dX6_lookThrough_51 ?_
      refine gf_X6_152 (pc := 54) C hk dX6_lookThrough_54 ?_
      refine x_iload_n (pc := 57) C 0 dX6_lookThrough_57 rfl rfl ?_
      refine cV1_1 (pc := 58) (val := Value.int) C hF (fun _ _ h => r_X4_get l G b (vr_y 1 hk (by decide)) _ h) vm_X4_get wq226 rfl rfl ⟨Nat.le_of_ble_eq_true rfl, Nat.le_of_ble_eq_true rfl⟩ rfl rfl (fun _ h => CW.row0 h (vr_y 1 hk (by decide))) (Nat.le_of_ble_eq_true rfl) ⟨Nat.le_refl _, Nat.le_refl _⟩ dX6_lookThrough_58 (fun x10 w9 hF => ?_)
      obtain ⟨rfl, rfl⟩ := ret_eq hF
      exact x_iret (pc := 61) C hr rfl (fun _ h => h) dX6_lookThrough_61
    · refine x_aload_n (pc := 38) C 1 dX6_lookThrough_38 rfl rfl ?_
      refine x_dup (pc := 39) C dX6_lookThrough_39 rfl ?_
      refine gf_X6_51 (pc := 40) C hk dX6_lookThrough_40 ?_
      refine x_iconst (pc := 43) C 1 dX6_lookThrough_43 ki_1 ?_
      refine x_iadd (pc := 44) C dX6_lookThrough_44 ?_
      refine pf_X6_51 (pc := 45) C hk  hF dX6_lookThrough_45 (fun w11 hF => ?_)
      refine x_iconst (pc := 48) C (-1) dX6_lookThrough_48 ki_m1 ?_
      obtain ⟨rfl, rfl⟩ := ret_eq hF
      exact x_iret (pc := 49) C hr rfl (fun _ h => h) dX6_lookThrough_49
set_option maxRecDepth 4000 in
theorem c_X6_mayClear (l : Launch) (G : xG) (b : Nat) {k : Nat} (hk : k < 8)   (a1 : Int32) {w w' : xWt} {v : Int32} (hF : F_X6_mayClear k a1 w = some (v, w')) : xMet l G b yX6_mayClear cX6_mayClear 2 (some .boolean) (xR 1) [.ref (yb b k), .int (a1)] (CW G b w) (some (.int v)) (CW G b w') 0 0 := by
  refine x_of (own := RX6) rfl (plainFor_of_name pn_X6) (Nat.le_of_ble_eq_true rfl) ?_
  intro p e s m args below meth c ha C hr _
  unfold F_X6_mayClear at hF
  refine x_aload_n (pc := 0) C 0 dX6_mayClear_0 rfl rfl ?_
  refine gf_X6_28 (pc := 1) C hk dX6_mayClear_1 ?_
  refine gf_X6_75 (pc := 4) C hk dX6_mayClear_4 ?_
  refine x_iload_n (pc := 7) C 1 dX6_mayClear_7 rfl rfl ?_
  refine cV1_1 (pc := 8) (val := Value.int) C hF (fun _ _ h => r_X4_get l G b (vr_y 11 hk (by decide)) _ h) vm_X4_get wq226 rfl rfl ⟨Nat.le_of_ble_eq_true rfl, Nat.le_of_ble_eq_true rfl⟩ rfl rfl (fun _ h => CW.row0 h (vr_y 11 hk (by decide))) (Nat.le_of_ble_eq_true rfl) ⟨Nat.le_refl _, Nat.le_refl _⟩ dX6_mayClear_8 (fun x2 w1 hF => ?_)
  refine x_if_le (pc := 11) C 18 dX6_mayClear_11 rfl hF (fun c3 hF => ?_) (fun c3 hF => ?_)
  · refine x_iconst (pc := 18) C 0 dX6_mayClear_18 ki_0 ?_
    obtain ⟨rfl, rfl⟩ := ret_eq hF
    exact x_zret (pc := 19) C rfl hr rfl (fun _ h => h) dX6_mayClear_19
  · refine x_iconst (pc := 14) C 1 dX6_mayClear_14 ki_1 ?_
    refine x_goto (pc := 15) C 19 dX6_mayClear_15 rfl ?_
    obtain ⟨rfl, rfl⟩ := ret_eq hF
    exact x_zret (pc := 19) C rfl hr rfl (fun _ h => h) dX6_mayClear_19
set_option maxRecDepth 4000 in
theorem c_X6_mayTakeOff (l : Launch) (G : xG) (b : Nat) {k : Nat} (hk : k < 8)   (a1 : Int32) (a2 : Int32) {w w' : xWt} {v : Int32} (hF : F_X6_mayTakeOff k a1 a2 w = some (v, w')) : xMet l G b yX6_mayTakeOff cX6_mayTakeOff 3 (some .boolean) (xR 2) [.ref (yb b k), .int (a1), .int (a2)] (CW G b w) (some (.int v)) (CW G b w') 0 0 := by
  refine x_of (own := RX6) rfl (plainFor_of_name pn_X6) (Nat.le_of_ble_eq_true rfl) ?_
  intro p e s m args below meth c ha C hr _
  unfold F_X6_mayTakeOff at hF
  refine x_aload_n (pc := 0) C 0 dX6_mayTakeOff_0 rfl rfl ?_
  refine gf_X6_28 (pc := 1) C hk dX6_mayTakeOff_1 ?_
  refine x_iload_n (pc := 4) C 1 dX6_mayTakeOff_4 rfl rfl ?_
  refine cV1_1 (pc := 5) (val := Value.int) C hF (fun _ _ h => c_X0_isInYard l G b hk _ h) vm_X0_isInYard wq344 rfl rfl ⟨Nat.le_of_ble_eq_true rfl, Nat.le_of_ble_eq_true rfl⟩ rfl rfl (fun _ h => CW.ch h hk) (Nat.le_of_ble_eq_true rfl) ⟨Nat.le_refl _, Nat.le_refl _⟩ dX6_mayTakeOff_5 (fun x2 w1 hF => ?_)
  refine x_if_eq (pc := 8) C 30 dX6_mayTakeOff_8 rfl hF (fun c6 hF => ?_) (fun c6 hF => ?_)
  · refine x_iconst (pc := 30) C 0 dX6_mayTakeOff_30 ki_0 ?_
    obtain ⟨rfl, rfl⟩ := ret_eq hF
    exact x_zret (pc := 31) C rfl hr rfl (fun _ h => h) dX6_mayTakeOff_31
  · refine x_aload_n (pc := 11) C 0 dX6_mayTakeOff_11 rfl rfl ?_
    refine gf_X6_21 (pc := 12) C hk dX6_mayTakeOff_12 ?_
    refine gf_X6_124 (pc := 15) C hk dX6_mayTakeOff_15 ?_
    refine x_iload_n (pc := 18) C 2 dX6_mayTakeOff_18 rfl rfl ?_
    refine cV1_1 (pc := 19) (val := Value.int) C hF (fun _ _ h => r_X4_get l G b (vr_y 0 hk (by decide)) _ h) vm_X4_get wq226 rfl rfl ⟨Nat.le_of_ble_eq_true rfl, Nat.le_of_ble_eq_true rfl⟩ rfl rfl (fun _ h => CW.row0 h (vr_y 0 hk (by decide))) (Nat.le_of_ble_eq_true rfl) ⟨Nat.le_refl _, Nat.le_refl _⟩ dX6_mayTakeOff_19 (fun x4 w3 hF => ?_)
    refine x_iconst (pc := 22) C (-1) dX6_mayTakeOff_22 ki_m1 ?_
    refine x_icmp_eq (pc := 23) C 30 dX6_mayTakeOff_23 rfl hF (fun c5 hF => ?_) (fun c5 hF => ?_)
    · refine x_iconst (pc := 30) C 0 dX6_mayTakeOff_30 ki_0 ?_
      obtain ⟨rfl, rfl⟩ := ret_eq hF
      exact x_zret (pc := 31) C rfl hr rfl (fun _ h => h) dX6_mayTakeOff_31
    · refine x_iconst (pc := 26) C 1 dX6_mayTakeOff_26 ki_1 ?_
      refine x_goto (pc := 27) C 31 dX6_mayTakeOff_27 rfl ?_
      obtain ⟨rfl, rfl⟩ := ret_eq hF
      exact x_zret (pc := 31) C rfl hr rfl (fun _ h => h) dX6_mayTakeOff_31
set_option maxRecDepth 4000 in
theorem c_X6_mayExchange (l : Launch) (G : xG) (b : Nat) {k : Nat} (hk : k < 8)   (a1 : Int32) (a2 : Int32) {w w' : xWt} {v : Int32} (hF : F_X6_mayExchange k a1 a2 w = some (v, w')) : xMet l G b yX6_mayExchange cX6_mayExchange 3 (some .boolean) (xR 3) [.ref (yb b k), .int (a1), .int (a2)] (CW G b w) (some (.int v)) (CW G b w') 0 0 := by
  refine x_of (own := RX6) rfl (plainFor_of_name pn_X6) (Nat.le_of_ble_eq_true rfl) ?_
  intro p e s m args below meth c ha C hr _
  unfold F_X6_mayExchange at hF
  refine x_aload_n (pc := 0) C 0 dX6_mayExchange_0 rfl rfl ?_
  refine x_iload_n (pc := 1) C 1 dX6_mayExchange_1 rfl rfl ?_
  refine x_iload_n (pc := 2) C 2 dX6_mayExchange_2 rfl rfl ?_
  refine cV1_2 (pc := 3) (val := Value.int) C hF (fun _ _ h => c_X6_mayTakeOff l G b hk _ _ h) vm_X6_mayTakeOff wq766 rfl rfl ⟨Nat.le_of_ble_eq_true rfl, Nat.le_of_ble_eq_true rfl⟩ rfl rfl (fun _ h => CW.yd h hk) (Nat.le_of_ble_eq_true rfl) ⟨Nat.le_refl _, Nat.le_refl _⟩ dX6_mayExchange_3 (fun x2 w1 hF => ?_)
  refine x_if_eq (pc := 6) C 25 dX6_mayExchange_6 rfl hF (fun c4 hF => ?_) (fun c4 hF => ?_)
  · refine x_iconst (pc := 25) C 0 dX6_mayExchange_25 ki_0 ?_
    obtain ⟨rfl, rfl⟩ := ret_eq hF
    exact x_zret (pc := 26) C rfl hr rfl (fun _ h => h) dX6_mayExchange_26
  · refine x_aload_n (pc := 9) C 0 dX6_mayExchange_9 rfl rfl ?_
    refine gf_X6_21 (pc := 10) C hk dX6_mayExchange_10 ?_
    refine gf_X6_127 (pc := 13) C hk dX6_mayExchange_13 ?_
    refine x_bipush (pc := 16) C 120 dX6_mayExchange_16 kb_120 ?_
    refine x_icmp_ge (pc := 18) C 25 dX6_mayExchange_18 rfl hF (fun c3 hF => ?_) (fun c3 hF => ?_)
    · refine x_iconst (pc := 25) C 0 dX6_mayExchange_25 ki_0 ?_
      obtain ⟨rfl, rfl⟩ := ret_eq hF
      exact x_zret (pc := 26) C rfl hr rfl (fun _ h => h) dX6_mayExchange_26
    · refine x_iconst (pc := 21) C 1 dX6_mayExchange_21 ki_1 ?_
      refine x_goto (pc := 22) C 26 dX6_mayExchange_22 rfl ?_
      obtain ⟨rfl, rfl⟩ := ret_eq hF
      exact x_zret (pc := 26) C rfl hr rfl (fun _ h => h) dX6_mayExchange_26
set_option maxRecDepth 4000 in
theorem c_X6_mayFasten (l : Launch) (G : xG) (b : Nat) {k : Nat} (hk : k < 8)   (a1 : Int32) (a2 : Int32) {w w' : xWt} {v : Int32} (hF : F_X6_mayFasten k a1 a2 w = some (v, w')) : xMet l G b yX6_mayFasten cX6_mayFasten 3 (some .boolean) (xR 2) [.ref (yb b k), .int (a1), .int (a2)] (CW G b w) (some (.int v)) (CW G b w') 0 0 := by
  refine x_of (own := RX6) rfl (plainFor_of_name pn_X6) (Nat.le_of_ble_eq_true rfl) ?_
  intro p e s m args below meth c ha C hr _
  unfold F_X6_mayFasten at hF
  refine x_aload_n (pc := 0) C 0 dX6_mayFasten_0 rfl rfl ?_
  refine gf_X6_35 (pc := 1) C hk dX6_mayFasten_1 ?_
  refine x_iload_n (pc := 4) C 1 dX6_mayFasten_4 rfl rfl ?_
  refine x_iload_n (pc := 5) C 2 dX6_mayFasten_5 rfl rfl ?_
  refine cV1_2 (pc := 6) (val := Value.int) C hF (fun _ _ h => c_X1_kindOf l G b hk _ _ h) vm_X1_kindOf wq391 rfl rfl ⟨Nat.le_of_ble_eq_true rfl, Nat.le_of_ble_eq_true rfl⟩ rfl rfl (fun _ h => CW.hk h hk) (Nat.le_of_ble_eq_true rfl) ⟨Nat.le_refl _, Nat.le_refl _⟩ dX6_mayFasten_6 (fun x2 w1 hF => ?_)
  refine x_iconst (pc := 9) C 1 dX6_mayFasten_9 ki_1 ?_
  refine x_icmp_ne (pc := 10) C 17 dX6_mayFasten_10 rfl hF (fun c3 hF => ?_) (fun c3 hF => ?_)
  · refine x_iconst (pc := 17) C 0 dX6_mayFasten_17 ki_0 ?_
    obtain ⟨rfl, rfl⟩ := ret_eq hF
    exact x_zret (pc := 18) C rfl hr rfl (fun _ h => h) dX6_mayFasten_18
  · refine x_iconst (pc := 13) C 1 dX6_mayFasten_13 ki_1 ?_
    refine x_goto (pc := 14) C 18 dX6_mayFasten_14 rfl ?_
    obtain ⟨rfl, rfl⟩ := ret_eq hF
    exact x_zret (pc := 18) C rfl hr rfl (fun _ h => h) dX6_mayFasten_18
set_option maxRecDepth 4000 in
theorem c_X6_mayGoIn (l : Launch) (G : xG) (b : Nat) {k : Nat} (hk : k < 8)   (a1 : Int32) {w w' : xWt} {v : Int32} (hF : F_X6_mayGoIn k a1 w = some (v, w')) : xMet l G b yX6_mayGoIn cX6_mayGoIn 2 (some .boolean) (xR 2) [.ref (yb b k), .int (a1)] (CW G b w) (some (.int v)) (CW G b w') 0 0 := by
  refine x_of (own := RX6) rfl (plainFor_of_name pn_X6) (Nat.le_of_ble_eq_true rfl) ?_
  intro p e s m args below meth c ha C hr _
  unfold F_X6_mayGoIn at hF
  refine x_aload_n (pc := 0) C 0 dX6_mayGoIn_0 rfl rfl ?_
  refine gf_X6_28 (pc := 1) C hk dX6_mayGoIn_1 ?_
  refine x_iload_n (pc := 4) C 1 dX6_mayGoIn_4 rfl rfl ?_
  refine cV1_1 (pc := 5) (val := Value.int) C hF (fun _ _ h => c_X0_isHere l G b hk _ h) vm_X0_isHere wq503 rfl rfl ⟨Nat.le_of_ble_eq_true rfl, Nat.le_of_ble_eq_true rfl⟩ rfl rfl (fun _ h => CW.ch h hk) (Nat.le_of_ble_eq_true rfl) ⟨Nat.le_refl _, Nat.le_refl _⟩ dX6_mayGoIn_5 (fun x2 w1 hF => ?_)
  refine x_if_eq (pc := 8) C 26 dX6_mayGoIn_8 rfl hF (fun c6 hF => ?_) (fun c6 hF => ?_)
  · refine x_iconst (pc := 26) C 0 dX6_mayGoIn_26 ki_0 ?_
    obtain ⟨rfl, rfl⟩ := ret_eq hF
    exact x_zret (pc := 27) C rfl hr rfl (fun _ h => h) dX6_mayGoIn_27
  · refine x_aload_n (pc := 11) C 0 dX6_mayGoIn_11 rfl rfl ?_
    refine gf_X6_28 (pc := 12) C hk dX6_mayGoIn_12 ?_
    refine x_iload_n (pc := 15) C 1 dX6_mayGoIn_15 rfl rfl ?_
    refine cV1_1 (pc := 16) (val := Value.int) C hF (fun _ _ h => c_X0_isInYard l G b hk _ h) vm_X0_isInYard wq344 rfl rfl ⟨Nat.le_of_ble_eq_true rfl, Nat.le_of_ble_eq_true rfl⟩ rfl rfl (fun _ h => CW.ch h hk) (Nat.le_of_ble_eq_true rfl) ⟨Nat.le_refl _, Nat.le_refl _⟩ dX6_mayGoIn_16 (fun x4 w3 hF => ?_)
    refine x_if_ne (pc := 19) C 26 dX6_mayGoIn_19 rfl hF (fun c5 hF => ?_) (fun c5 hF => ?_)
    · refine x_iconst (pc := 26) C 0 dX6_mayGoIn_26 ki_0 ?_
      obtain ⟨rfl, rfl⟩ := ret_eq hF
      exact x_zret (pc := 27) C rfl hr rfl (fun _ h => h) dX6_mayGoIn_27
    · refine x_iconst (pc := 22) C 1 dX6_mayGoIn_22 ki_1 ?_
      refine x_goto (pc := 23) C 27 dX6_mayGoIn_23 rfl ?_
      obtain ⟨rfl, rfl⟩ := ret_eq hF
      exact x_zret (pc := 27) C rfl hr rfl (fun _ h => h) dX6_mayGoIn_27
set_option maxRecDepth 4000 in
theorem c_X6_mayLieDown (l : Launch) (G : xG) (b : Nat) {k : Nat} (hk : k < 8)   (a1 : Int32) {w w' : xWt} {v : Int32} (hF : F_X6_mayLieDown k a1 w = some (v, w')) : xMet l G b yX6_mayLieDown cX6_mayLieDown 2 (some .boolean) (xR 2) [.ref (yb b k), .int (a1)] (CW G b w) (some (.int v)) (CW G b w') 0 0 := by
  refine x_of (own := RX6) rfl (plainFor_of_name pn_X6) (Nat.le_of_ble_eq_true rfl) ?_
  intro p e s m args below meth c ha C hr _
  unfold F_X6_mayLieDown at hF
  refine x_aload_n (pc := 0) C 0 dX6_mayLieDown_0 rfl rfl ?_
  refine gf_X6_28 (pc := 1) C hk dX6_mayLieDown_1 ?_
  refine x_iload_n (pc := 4) C 1 dX6_mayLieDown_4 rfl rfl ?_
  refine cV1_1 (pc := 5) (val := Value.int) C hF (fun _ _ h => c_X0_isInYard l G b hk _ h) vm_X0_isInYard wq344 rfl rfl ⟨Nat.le_of_ble_eq_true rfl, Nat.le_of_ble_eq_true rfl⟩ rfl rfl (fun _ h => CW.ch h hk) (Nat.le_of_ble_eq_true rfl) ⟨Nat.le_refl _, Nat.le_refl _⟩ dX6_mayLieDown_5 (fun x2 w1 hF => ?_)
  obtain ⟨hz, hF⟩ := zr_some hF
  obtain ⟨rfl, rfl⟩ := ret_eq hF
  exact x_zret (pc := 8) C (bool_ok hz) hr rfl (fun _ h => h) dX6_mayLieDown_8
set_option maxRecDepth 4000 in
theorem c_X6_mayRelease (l : Launch) (G : xG) (b : Nat) {k : Nat} (hk : k < 8)   (a1 : Int32) (a2 : Int32) {w w' : xWt} {v : Int32} (hF : F_X6_mayRelease k a1 a2 w = some (v, w')) : xMet l G b yX6_mayRelease cX6_mayRelease 3 (some .boolean) (xR 2) [.ref (yb b k), .int (a1), .int (a2)] (CW G b w) (some (.int v)) (CW G b w') 0 0 := by
  refine x_of (own := RX6) rfl (plainFor_of_name pn_X6) (Nat.le_of_ble_eq_true rfl) ?_
  intro p e s m args below meth c ha C hr _
  unfold F_X6_mayRelease at hF
  refine x_aload_n (pc := 0) C 0 dX6_mayRelease_0 rfl rfl ?_
  refine gf_X6_35 (pc := 1) C hk dX6_mayRelease_1 ?_
  refine x_iload_n (pc := 4) C 1 dX6_mayRelease_4 rfl rfl ?_
  refine x_iload_n (pc := 5) C 2 dX6_mayRelease_5 rfl rfl ?_
  refine cV1_2 (pc := 6) (val := Value.int) C hF (fun _ _ h => c_X1_kindOf l G b hk _ _ h) vm_X1_kindOf wq391 rfl rfl ⟨Nat.le_of_ble_eq_true rfl, Nat.le_of_ble_eq_true rfl⟩ rfl rfl (fun _ h => CW.hk h hk) (Nat.le_of_ble_eq_true rfl) ⟨Nat.le_refl _, Nat.le_refl _⟩ dX6_mayRelease_6 (fun x2 w1 hF => ?_)
  refine x_if_eq (pc := 9) C 16 dX6_mayRelease_9 rfl hF (fun c3 hF => ?_) (fun c3 hF => ?_)
  · refine x_iconst (pc := 16) C 0 dX6_mayRelease_16 ki_0 ?_
    obtain ⟨rfl, rfl⟩ := ret_eq hF
    exact x_zret (pc := 17) C rfl hr rfl (fun _ h => h) dX6_mayRelease_17
  · refine x_iconst (pc := 12) C 1 dX6_mayRelease_12 ki_1 ?_
    refine x_goto (pc := 13) C 17 dX6_mayRelease_13 rfl ?_
    obtain ⟨rfl, rfl⟩ := ret_eq hF
    exact x_zret (pc := 17) C rfl hr rfl (fun _ h => h) dX6_mayRelease_17
set_option maxRecDepth 4000 in
theorem c_X6_maySprout (l : Launch) (G : xG) (b : Nat) {k : Nat} (hk : k < 8)   (a1 : Int32) {w w' : xWt} {v : Int32} (hF : F_X6_maySprout k a1 w = some (v, w')) : xMet l G b yX6_maySprout cX6_maySprout 2 (some .boolean) (xR 1) [.ref (yb b k), .int (a1)] (CW G b w) (some (.int v)) (CW G b w') 0 0 := by
  refine x_of (own := RX6) rfl (plainFor_of_name pn_X6) (Nat.le_of_ble_eq_true rfl) ?_
  intro p e s m args below meth c ha C hr _
  unfold F_X6_maySprout at hF
  refine x_aload_n (pc := 0) C 0 dX6_maySprout_0 rfl rfl ?_
  refine gf_X6_21 (pc := 1) C hk dX6_maySprout_1 ?_
  refine gf_X6_124 (pc := 4) C hk dX6_maySprout_4 ?_
  refine x_iload_n (pc := 7) C 1 dX6_maySprout_7 rfl rfl ?_
  refine cV1_1 (pc := 8) (val := Value.int) C hF (fun _ _ h => r_X4_get l G b (vr_y 0 hk (by decide)) _ h) vm_X4_get wq226 rfl rfl ⟨Nat.le_of_ble_eq_true rfl, Nat.le_of_ble_eq_true rfl⟩ rfl rfl (fun _ h => CW.row0 h (vr_y 0 hk (by decide))) (Nat.le_of_ble_eq_true rfl) ⟨Nat.le_refl _, Nat.le_refl _⟩ dX6_maySprout_8 (fun x2 w1 hF => ?_)
  refine x_iconst (pc := 11) C (-1) dX6_maySprout_11 ki_m1 ?_
  refine x_icmp_ne (pc := 12) C 31 dX6_maySprout_12 rfl hF (fun c4 hF => ?_) (fun c4 hF => ?_)
  · refine x_iconst (pc := 31) C 0 dX6_maySprout_31 ki_0 ?_
    obtain ⟨rfl, rfl⟩ := ret_eq hF
    exact x_zret (pc := 32) C rfl hr rfl (fun _ h => h) dX6_maySprout_32
  · refine x_aload_n (pc := 15) C 0 dX6_maySprout_15 rfl rfl ?_
    refine gf_X6_21 (pc := 16) C hk dX6_maySprout_16 ?_
    refine gf_X6_127 (pc := 19) C hk dX6_maySprout_19 ?_
    refine x_bipush (pc := 22) C 120 dX6_maySprout_22 kb_120 ?_
    refine x_icmp_ge (pc := 24) C 31 dX6_maySprout_24 rfl hF (fun c3 hF => ?_) (fun c3 hF => ?_)
    · refine x_iconst (pc := 31) C 0 dX6_maySprout_31 ki_0 ?_
      obtain ⟨rfl, rfl⟩ := ret_eq hF
      exact x_zret (pc := 32) C rfl hr rfl (fun _ h => h) dX6_maySprout_32
    · refine x_iconst (pc := 27) C 1 dX6_maySprout_27 ki_1 ?_
      refine x_goto (pc := 28) C 32 dX6_maySprout_28 rfl ?_
      obtain ⟨rfl, rfl⟩ := ret_eq hF
      exact x_zret (pc := 32) C rfl hr rfl (fun _ h => h) dX6_maySprout_32
set_option maxRecDepth 4000 in
theorem c_X6_mayStrike (l : Launch) (G : xG) (b : Nat) {k : Nat} (hk : k < 8)    {w w' : xWt} {v : Int32} (hF : F_X6_mayStrike k w = some (v, w')) : xMet l G b yX6_mayStrike cX6_mayStrike 1 (some .boolean) (xR 3) [.ref (yb b k)] (CW G b w) (some (.int v)) (CW G b w') 0 0 := by
  refine x_of (own := RX6) rfl (plainFor_of_name pn_X6) (Nat.le_of_ble_eq_true rfl) ?_
  intro p e s m args below meth c ha C hr _
  unfold F_X6_mayStrike at hF
  refine x_aload_n (pc := 0) C 0 dX6_mayStrike_0 rfl rfl ?_
  refine gf_X6_28 (pc := 1) C hk dX6_mayStrike_1 ?_
  refine x_aload_n (pc := 4) C 0 dX6_mayStrike_4 rfl rfl ?_
  refine gf_X6_39 (pc := 5) C hk dX6_mayStrike_5 ?_
  refine cV1_1 (pc := 8) (val := Value.int) C hF (fun _ _ h => c_X0_maskOfLate l G b hk _ h) vm_X0_maskOfLate wq549 rfl rfl ⟨Nat.le_of_ble_eq_true rfl, Nat.le_of_ble_eq_true rfl⟩ rfl rfl (fun _ h => CW.ch h hk) (Nat.le_of_ble_eq_true rfl) ⟨Nat.le_refl _, Nat.le_refl _⟩ dX6_mayStrike_8 (fun x2 w1 hF => ?_)
  refine x_if_ne (pc := 11) C 18 dX6_mayStrike_11 rfl hF (fun c3 hF => ?_) (fun c3 hF => ?_)
  · refine x_iconst (pc := 18) C 0 dX6_mayStrike_18 ki_0 ?_
    obtain ⟨rfl, rfl⟩ := ret_eq hF
    exact x_zret (pc := 19) C rfl hr rfl (fun _ h => h) dX6_mayStrike_19
  · refine x_iconst (pc := 14) C 1 dX6_mayStrike_14 ki_1 ?_
    refine x_goto (pc := 15) C 19 dX6_mayStrike_15 rfl ?_
    obtain ⟨rfl, rfl⟩ := ret_eq hF
    exact x_zret (pc := 19) C rfl hr rfl (fun _ h => h) dX6_mayStrike_19
set_option maxRecDepth 4000 in
theorem c_X6_mayWrite (l : Launch) (G : xG) (b : Nat) {k : Nat} (hk : k < 8)   (a1 : Int32) (a2 : Int32) (a3 : Int32) {w w' : xWt} {v : Int32} (hF : F_X6_mayWrite k a1 a2 a3 w = some (v, w')) : xMet l G b yX6_mayWrite cX6_mayWrite 4 (some .boolean) (xR 2) [.ref (yb b k), .int (a1), .int (a2), .int (a3)] (CW G b w) (some (.int v)) (CW G b w') 0 0 := by
  refine x_of (own := RX6) rfl (plainFor_of_name pn_X6) (Nat.le_of_ble_eq_true rfl) ?_
  intro p e s m args below meth c ha C hr _
  unfold F_X6_mayWrite at hF
  refine x_aload_n (pc := 0) C 0 dX6_mayWrite_0 rfl rfl ?_
  refine gf_X6_28 (pc := 1) C hk dX6_mayWrite_1 ?_
  refine x_iload_n (pc := 4) C 1 dX6_mayWrite_4 rfl rfl ?_
  refine cV1_1 (pc := 5) (val := Value.int) C hF (fun _ _ h => c_X0_isInYard l G b hk _ h) vm_X0_isInYard wq344 rfl rfl ⟨Nat.le_of_ble_eq_true rfl, Nat.le_of_ble_eq_true rfl⟩ rfl rfl (fun _ h => CW.ch h hk) (Nat.le_of_ble_eq_true rfl) ⟨Nat.le_refl _, Nat.le_refl _⟩ dX6_mayWrite_5 (fun x2 w1 hF => ?_)
  refine x_if_eq (pc := 8) C 42 dX6_mayWrite_8 rfl hF (fun c9 hF => ?_) (fun c9 hF => ?_)
  · refine x_iconst (pc := 42) C 0 dX6_mayWrite_42 ki_0 ?_
    obtain ⟨rfl, rfl⟩ := ret_eq hF
    exact x_zret (pc := 43) C rfl hr rfl (fun _ h => h) dX6_mayWrite_43
  · refine x_aload_n (pc := 11) C 0 dX6_mayWrite_11 rfl rfl ?_
    refine gf_X6_35 (pc := 12) C hk dX6_mayWrite_12 ?_
    refine x_iload_n (pc := 15) C 1 dX6_mayWrite_15 rfl rfl ?_
    refine x_iload_n (pc := 16) C 2 dX6_mayWrite_16 rfl rfl ?_
    refine cV1_2 (pc := 17) (val := Value.int) C hF (fun _ _ h => c_X1_kindOf l G b hk _ _ h) vm_X1_kindOf wq391 rfl rfl ⟨Nat.le_of_ble_eq_true rfl, Nat.le_of_ble_eq_true rfl⟩ rfl rfl (fun _ h => CW.hk h hk) (Nat.le_of_ble_eq_true rfl) ⟨Nat.le_refl _, Nat.le_refl _⟩ dX6_mayWrite_17 (fun x4 w3 hF => ?_)
    refine x_if_ne (pc := 20) C 42 dX6_mayWrite_20 rfl hF (fun c8 hF => ?_) (fun c8 hF => ?_)
    · refine x_iconst (pc := 42) C 0 dX6_mayWrite_42 ki_0 ?_
      obtain ⟨rfl, rfl⟩ := ret_eq hF
      exact x_zret (pc := 43) C rfl hr rfl (fun _ h => h) dX6_mayWrite_43
    · refine x_aload_n (pc := 23) C 0 dX6_mayWrite_23 rfl rfl ?_
      refine gf_X6_21 (pc := 24) C hk dX6_mayWrite_24 ?_
      refine gf_X6_124 (pc := 27) C hk dX6_mayWrite_27 ?_
      refine x_iload_n (pc := 30) C 3 dX6_mayWrite_30 rfl rfl ?_
      refine cV1_1 (pc := 31) (val := Value.int) C hF (fun _ _ h => r_X4_get l G b (vr_y 0 hk (by decide)) _ h) vm_X4_get wq226 rfl rfl ⟨Nat.le_of_ble_eq_true rfl, Nat.le_of_ble_eq_true rfl⟩ rfl rfl (fun _ h => CW.row0 h (vr_y 0 hk (by decide))) (Nat.le_of_ble_eq_true rfl) ⟨Nat.le_refl _, Nat.le_refl _⟩ dX6_mayWrite_31 (fun x6 w5 hF => ?_)
      refine x_iconst (pc := 34) C (-1) dX6_mayWrite_34 ki_m1 ?_
      refine x_icmp_eq (pc := 35) C 42 dX6_mayWrite_35 rfl hF (fun c7 hF => ?_) (fun c7 hF => ?_)
      · refine x_iconst (pc := 42) C 0 dX6_mayWrite_42 ki_0 ?_
        obtain ⟨rfl, rfl⟩ := ret_eq hF
        exact x_zret (pc := 43) C rfl hr rfl (fun _ h => h) dX6_mayWrite_43
      · refine x_iconst (pc := 38) C 1 dX6_mayWrite_38 ki_1 ?_
        refine x_goto (pc := 39) C 43 dX6_mayWrite_39 rfl ?_
        obtain ⟨rfl, rfl⟩ := ret_eq hF
        exact x_zret (pc := 43) C rfl hr rfl (fun _ h => h) dX6_mayWrite_43
set_option maxRecDepth 4000 in
theorem s_X6_mostPinned_6 (C : xC p m c s args meth G b cX6_mostPinned 5 RX6) {k : Nat} (hk : k < 8)  : ∀ (n9 : Nat) (l1 : Int32) (l2 : Int32) (l3 : Int32) (w : xWt) (o : (Int32 × Int32 × Int32)) (w' : xWt), L_X6_mostPinned_6 k n9 l1 l2 l3 w = some (o, w') → xW p l e (xR 2) s m args below meth c Q b 5 (CW G b w') 0 0 50 [(0, .ref (yb b k)), (1, .int (o.1)), (2, .int (o.2.1)), (3, .int (o.2.2))] [] → xW p l e (xR 2) s m args below meth c Q b 5 (CW G b w) 0 0 6 [(0, .ref (yb b k)), (1, .int (l1)), (2, .int (l2)), (3, .int (l3))] [] := by
  intro n9
  induction n9 with
  | zero => intro l1 l2 l3 w o w' hF; exact none_ne (show none = some _ from hF)
  | succ n9 ih =>
    intro l1 l2 l3 w o w' hF kx
    replace hF : B_X6_mostPinned_6 k (L_X6_mostPinned_6 k n9) l1 l2 l3 w = some (o, w') := hF
    unfold B_X6_mostPinned_6 at hF
    refine x_iload_n (pc := 6) C 3 dX6_mostPinned_6 rfl rfl ?_
    refine x_aload_n (pc := 7) C 0 dX6_mostPinned_7 rfl rfl ?_
    refine gf_X6_21 (pc := 8) C hk dX6_mostPinned_8 ?_
    refine gf_X6_127 (pc := 11) C hk dX6_mostPinned_11 ?_
    refine x_icmp_ge (pc := 14) C 50 dX6_mostPinned_14 rfl hF (fun c5 hF => ?_) (fun c5 hF => ?_)
    · obtain ⟨rfl, rfl⟩ := ret_eq hF
      exact x_sub [0, 1, 2, 3] rfl kx
    · refine x_iload_n (pc := 17) C 3 dX6_mostPinned_17 rfl rfl ?_
      refine x_bipush (pc := 18) C 120 dX6_mostPinned_18 kb_120 ?_
      refine x_icmp_ge (pc := 20) C 50 dX6_mostPinned_20 rfl hF (fun c4 hF => ?_) (fun c4 hF => ?_)
      · obtain ⟨rfl, rfl⟩ := ret_eq hF
        exact x_sub [0, 1, 2, 3] rfl kx
      · refine x_aload_n (pc := 23) C 0 dX6_mostPinned_23 rfl rfl ?_
        refine gf_X6_35 (pc := 24) C hk dX6_mostPinned_24 ?_
        refine x_iload_n (pc := 27) C 3 dX6_mostPinned_27 rfl rfl ?_
        refine cV1_1 (pc := 28) (val := Value.int) C hF (fun _ _ h => c_X1_pinsOn l G b hk _ h) vm_X1_pinsOn wq235 rfl rfl ⟨Nat.le_of_ble_eq_true rfl, Nat.le_of_ble_eq_true rfl⟩ rfl rfl (fun _ h => CW.hk h hk) (Nat.le_of_ble_eq_true rfl) ⟨Nat.le_refl _, Nat.le_refl _⟩ dX6_mostPinned_28 (fun x2 w1 hF => ?_)
        refine x_istore (pc := 31) C [(4, .int (x2)), (0, .ref (yb b k)), (1, .int (l1)), (2, .int (l2)), (3, .int (l3))] dX6_mostPinned_31 (by decide) rfl ?_
        refine x_iload (pc := 33) C 0 dX6_mostPinned_33 rfl ?_
        refine x_iload_n (pc := 35) C 3 dX6_mostPinned_35 rfl rfl ?_
        refine x_icmp_le (pc := 36) C 44 dX6_mostPinned_36 rfl hF (fun c3 hF => ?_) (fun c3 hF => ?_)
        · refine x_iinc (pc := 44) C 4 [(3, .int ((l3 + 1))), (4, .int (x2)), (0, .ref (yb b k)), (1, .int (l1)), (2, .int (l2))] dX6_mostPinned_44 rfl rfl (by decide) rfl ?_
          refine x_goto (pc := 47) C 6 dX6_mostPinned_47 rfl ?_
          exact x_sub [2, 3, 4, 0] rfl (ih _ _ _ _ _ _ hF kx)
        · refine x_iload_n (pc := 39) C 4 dX6_mostPinned_39 rfl rfl ?_
          refine x_istore_n (pc := 40) C [(1, .int (l3)), (4, .int (x2)), (0, .ref (yb b k)), (2, .int (l2)), (3, .int (l3))] dX6_mostPinned_40 rfl (by decide) rfl ?_
          refine x_iload (pc := 41) C 1 dX6_mostPinned_41 rfl ?_
          refine x_istore_n (pc := 43) C [(2, .int (x2)), (1, .int (l3)), (4, .int (x2)), (0, .ref (yb b k)), (3, .int (l3))] dX6_mostPinned_43 rfl (by decide) rfl ?_
          refine x_iinc (pc := 44) C 4 [(3, .int ((l3 + 1))), (2, .int (x2)), (1, .int (l3)), (4, .int (x2)), (0, .ref (yb b k))] dX6_mostPinned_44 rfl rfl (by decide) rfl ?_
          refine x_goto (pc := 47) C 6 dX6_mostPinned_47 rfl ?_
          exact x_sub [4, 2, 1, 0] rfl (ih _ _ _ _ _ _ hF kx)
set_option maxRecDepth 4000 in
theorem c_X6_mostPinned (l : Launch) (G : xG) (b : Nat) {k : Nat} (hk : k < 8)    {w w' : xWt} {v : Int32} (hF : F_X6_mostPinned k w = some (v, w')) : xMet l G b yX6_mostPinned cX6_mostPinned 5 (some .int) (xR 2) [.ref (yb b k)] (CW G b w) (some (.int v)) (CW G b w') 0 0 := by
  refine x_of (own := RX6) rfl (plainFor_of_name pn_X6) (Nat.le_of_ble_eq_true rfl) ?_
  intro p e s m args below meth c ha C hr _
  unfold F_X6_mostPinned at hF
  refine x_iconst (pc := 0) C (-1) dX6_mostPinned_0 ki_m1 ?_
  refine x_istore_n (pc := 1) C [(1, .int ((-1))), (0, .ref (yb b k))] dX6_mostPinned_1 rfl (by decide) rfl ?_
  refine x_iconst (pc := 2) C 0 dX6_mostPinned_2 ki_0 ?_
  refine x_istore_n (pc := 3) C [(2, .int (0)), (1, .int ((-1))), (0, .ref (yb b k))] dX6_mostPinned_3 rfl (by decide) rfl ?_
  refine x_iconst (pc := 4) C 0 dX6_mostPinned_4 ki_0 ?_
  refine x_istore_n (pc := 5) C [(3, .int (0)), (2, .int (0)), (1, .int ((-1))), (0, .ref (yb b k))] dX6_mostPinned_5 rfl (by decide) rfl ?_
  obtain ⟨o6, w7, hL, hF⟩ := bd_some hF
  refine x_sub [3, 2, 1, 0] rfl (s_X6_mostPinned_6 C hk _ _ _ _ _ _ _ hL ?_)
  refine x_iload_n (pc := 50) C 1 dX6_mostPinned_50 rfl rfl ?_
  obtain ⟨rfl, rfl⟩ := ret_eq hF
  exact x_iret (pc := 51) C hr rfl (fun _ h => h) dX6_mostPinned_51
set_option maxRecDepth 4000 in
theorem c_X6_numberOfAll (l : Launch) (G : xG) (b : Nat) {k : Nat} (hk : k < 8)   (a1 : Int32) {w w' : xWt} {v : Int32} (hF : F_X6_numberOfAll k a1 w = some (v, w')) : xMet l G b yX6_numberOfAll cX6_numberOfAll 2 (some .int) (xR 3) [.ref (yb b k), .int (a1)] (CW G b w) (some (.int v)) (CW G b w') 0 0 := by
  refine x_of (own := RX6) rfl (plainFor_of_name pn_X6) (Nat.le_of_ble_eq_true rfl) ?_
  intro p e s m args below meth c ha C hr _
  unfold F_X6_numberOfAll at hF
  refine x_iload_n (pc := 0) C 1 dX6_numberOfAll_0 rfl rfl ?_
  by_cases c1 : (a1).toInt = 0
  · rw [if_pos c1] at hF
    refine x_tabIn (pc := 1) C 72 dX6_numberOfAll_1 c1 (by decide) (by decide) rfl rfl ?_
    refine x_aload_n (pc := 72) C 0 dX6_numberOfAll_72 rfl rfl ?_
    refine gf_X6_28 (pc := 73) C hk dX6_numberOfAll_73 ?_
    refine cV1_0 (pc := 76) (val := Value.int) C hF (fun _ _ h => c_X0_mask l G b hk h) vm_X0_mask wq144 rfl rfl ⟨Nat.le_of_ble_eq_true rfl, Nat.le_of_ble_eq_true rfl⟩ rfl rfl (fun _ h => CW.ch h hk) (Nat.le_of_ble_eq_true rfl) ⟨Nat.le_refl _, Nat.le_refl _⟩ dX6_numberOfAll_76 (fun x30 w29 hF => ?_)
    obtain ⟨rfl, rfl⟩ := ret_eq hF
    exact x_iret (pc := 79) C hr rfl (fun _ h => h) dX6_numberOfAll_79
  · rw [if_neg c1] at hF
    by_cases c2 : (a1).toInt = 1
    · rw [if_pos c2] at hF
      refine x_tabIn (pc := 1) C 80 dX6_numberOfAll_1 c2 (by decide) (by decide) rfl rfl ?_
      refine x_aload_n (pc := 80) C 0 dX6_numberOfAll_80 rfl rfl ?_
      refine gf_X6_28 (pc := 81) C hk dX6_numberOfAll_81 ?_
      refine cV1_0 (pc := 84) (val := Value.int) C hF (fun _ _ h => c_X0_number l G b hk h) vm_X0_number wq156 rfl rfl ⟨Nat.le_of_ble_eq_true rfl, Nat.le_of_ble_eq_true rfl⟩ rfl rfl (fun _ h => CW.ch h hk) (Nat.le_of_ble_eq_true rfl) ⟨Nat.le_refl _, Nat.le_refl _⟩ dX6_numberOfAll_84 (fun x28 w27 hF => ?_)
      obtain ⟨rfl, rfl⟩ := ret_eq hF
      exact x_iret (pc := 87) C hr rfl (fun _ h => h) dX6_numberOfAll_87
    · rw [if_neg c2] at hF
      by_cases c3 : (a1).toInt = 2
      · rw [if_pos c3] at hF
        refine x_tabIn (pc := 1) C 88 dX6_numberOfAll_1 c3 (by decide) (by decide) rfl rfl ?_
        refine x_aload_n (pc := 88) C 0 dX6_numberOfAll_88 rfl rfl ?_
        refine gf_X6_28 (pc := 89) C hk dX6_numberOfAll_89 ?_
        refine cV1_0 (pc := 92) (val := Value.int) C hF (fun _ _ h => c_X0_numberInYard l G b hk h) vm_X0_numberInYard wq164 rfl rfl ⟨Nat.le_of_ble_eq_true rfl, Nat.le_of_ble_eq_true rfl⟩ rfl rfl (fun _ h => CW.ch h hk) (Nat.le_of_ble_eq_true rfl) ⟨Nat.le_refl _, Nat.le_refl _⟩ dX6_numberOfAll_92 (fun x26 w25 hF => ?_)
        obtain ⟨rfl, rfl⟩ := ret_eq hF
        exact x_iret (pc := 95) C hr rfl (fun _ h => h) dX6_numberOfAll_95
      · rw [if_neg c3] at hF
        by_cases c4 : (a1).toInt = 3
        · rw [if_pos c4] at hF
          refine x_tabIn (pc := 1) C 96 dX6_numberOfAll_1 c4 (by decide) (by decide) rfl rfl ?_
          refine x_aload_n (pc := 96) C 0 dX6_numberOfAll_96 rfl rfl ?_
          refine gf_X6_39 (pc := 97) C hk dX6_numberOfAll_97 ?_
          obtain ⟨rfl, rfl⟩ := ret_eq hF
          exact x_iret (pc := 100) C hr rfl (fun _ h => h) dX6_numberOfAll_100
        · rw [if_neg c4] at hF
          by_cases c5 : (a1).toInt = 4
          · rw [if_pos c5] at hF
            refine x_tabIn (pc := 1) C 101 dX6_numberOfAll_1 c5 (by decide) (by decide) rfl rfl ?_
            refine x_aload_n (pc := 101) C 0 dX6_numberOfAll_101 rfl rfl ?_
            refine gf_X6_21 (pc := 102) C hk dX6_numberOfAll_102 ?_
            refine gf_X6_127 (pc := 105) C hk dX6_numberOfAll_105 ?_
            obtain ⟨rfl, rfl⟩ := ret_eq hF
            exact x_iret (pc := 108) C hr rfl (fun _ h => h) dX6_numberOfAll_108
          · rw [if_neg c5] at hF
            by_cases c6 : (a1).toInt = 5
            · rw [if_pos c6] at hF
              refine x_tabIn (pc := 1) C 109 dX6_numberOfAll_1 c6 (by decide) (by decide) rfl rfl ?_
              refine x_aload_n (pc := 109) C 0 dX6_numberOfAll_109 rfl rfl ?_
              refine gf_X6_21 (pc := 110) C hk dX6_numberOfAll_110 ?_
              refine x_iconst (pc := 113) C 0 dX6_numberOfAll_113 ki_0 ?_
              refine cV1_1 (pc := 114) (val := Value.int) C hF (fun _ _ h => c_X2_numberWhere l G b hk _ h) vm_X2_numberWhere wq168 rfl rfl ⟨Nat.le_of_ble_eq_true rfl, Nat.le_of_ble_eq_true rfl⟩ rfl rfl (fun _ h => CW.lv h hk) (Nat.le_of_ble_eq_true rfl) ⟨Nat.le_refl _, Nat.le_refl _⟩ dX6_numberOfAll_114 (fun x24 w23 hF => ?_)
              obtain ⟨rfl, rfl⟩ := ret_eq hF
              exact x_iret (pc := 117) C hr rfl (fun _ h => h) dX6_numberOfAll_117
            · rw [if_neg c6] at hF
              by_cases c7 : (a1).toInt = 6
              · rw [if_pos c7] at hF
                refine x_tabIn (pc := 1) C 118 dX6_numberOfAll_1 c7 (by decide) (by decide) rfl rfl ?_
                refine x_aload_n (pc := 118) C 0 dX6_numberOfAll_118 rfl rfl ?_
                refine gf_X6_21 (pc := 119) C hk dX6_numberOfAll_119 ?_
                refine x_iconst (pc := 122) C 1 dX6_numberOfAll_122 ki_1 ?_
                refine cV1_1 (pc := 123) (val := Value.int) C hF (fun _ _ h => c_X2_numberWhere l G b hk _ h) vm_X2_numberWhere wq168 rfl rfl ⟨Nat.le_of_ble_eq_true rfl, Nat.le_of_ble_eq_true rfl⟩ rfl rfl (fun _ h => CW.lv h hk) (Nat.le_of_ble_eq_true rfl) ⟨Nat.le_refl _, Nat.le_refl _⟩ dX6_numberOfAll_123 (fun x22 w21 hF => ?_)
                obtain ⟨rfl, rfl⟩ := ret_eq hF
                exact x_iret (pc := 126) C hr rfl (fun _ h => h) dX6_numberOfAll_126
              · rw [if_neg c7] at hF
                by_cases c8 : (a1).toInt = 7
                · rw [if_pos c8] at hF
                  refine x_tabIn (pc := 1) C 127 dX6_numberOfAll_1 c8 (by decide) (by decide) rfl rfl ?_
                  refine x_aload_n (pc := 127) C 0 dX6_numberOfAll_127 rfl rfl ?_
                  refine gf_X6_21 (pc := 128) C hk dX6_numberOfAll_128 ?_
                  refine x_iconst (pc := 131) C 2 dX6_numberOfAll_131 ki_2 ?_
                  refine cV1_1 (pc := 132) (val := Value.int) C hF (fun _ _ h => c_X2_numberWhere l G b hk _ h) vm_X2_numberWhere wq168 rfl rfl ⟨Nat.le_of_ble_eq_true rfl, Nat.le_of_ble_eq_true rfl⟩ rfl rfl (fun _ h => CW.lv h hk) (Nat.le_of_ble_eq_true rfl) ⟨Nat.le_refl _, Nat.le_refl _⟩ dX6_numberOfAll_132 (fun x20 w19 hF => ?_)
                  obtain ⟨rfl, rfl⟩ := ret_eq hF
                  exact x_iret (pc := 135) C hr rfl (fun _ h => h) dX6_numberOfAll_135
                · rw [if_neg c8] at hF
                  by_cases c9 : (a1).toInt = 8
                  · rw [if_pos c9] at hF
                    refine x_tabIn (pc := 1) C 136 dX6_numberOfAll_1 c9 (by decide) (by decide) rfl rfl ?_
                    refine x_aload_n (pc := 136) C 0 dX6_numberOfAll_136 rfl rfl ?_
                    refine gf_X6_35 (pc := 137) C hk dX6_numberOfAll_137 ?_
                    refine cV1_0 (pc := 140) (val := Value.int) C hF (fun _ _ h => c_X1_pins l G b hk h) vm_X1_pins wq174 rfl rfl ⟨Nat.le_of_ble_eq_true rfl, Nat.le_of_ble_eq_true rfl⟩ rfl rfl (fun _ h => CW.hk h hk) (Nat.le_of_ble_eq_true rfl) ⟨Nat.le_refl _, Nat.le_refl _⟩ dX6_numberOfAll_140 (fun x18 w17 hF => ?_)
                    obtain ⟨rfl, rfl⟩ := ret_eq hF
                    exact x_iret (pc := 143) C hr rfl (fun _ h => h) dX6_numberOfAll_143
                  · rw [if_neg c9] at hF
                    by_cases c10 : (a1).toInt = 9
                    · rw [if_pos c10] at hF
                      refine x_tabIn (pc := 1) C 144 dX6_numberOfAll_1 c10 (by decide) (by decide) rfl rfl ?_
                      refine x_aload_n (pc := 144) C 0 dX6_numberOfAll_144 rfl rfl ?_
                      refine gf_X6_35 (pc := 145) C hk dX6_numberOfAll_145 ?_
                      refine cV1_0 (pc := 148) (val := Value.int) C hF (fun _ _ h => c_X1_notes l G b hk h) vm_X1_notes wq179 rfl rfl ⟨Nat.le_of_ble_eq_true rfl, Nat.le_of_ble_eq_true rfl⟩ rfl rfl (fun _ h => CW.hk h hk) (Nat.le_of_ble_eq_true rfl) ⟨Nat.le_refl _, Nat.le_refl _⟩ dX6_numberOfAll_148 (fun x16 w15 hF => ?_)
                      obtain ⟨rfl, rfl⟩ := ret_eq hF
                      exact x_iret (pc := 151) C hr rfl (fun _ h => h) dX6_numberOfAll_151
                    · rw [if_neg c10] at hF
                      by_cases c11 : (a1).toInt = 10
                      · rw [if_pos c11] at hF
                        refine x_tabIn (pc := 1) C 152 dX6_numberOfAll_1 c11 (by decide) (by decide) rfl rfl ?_
                        refine x_aload_n (pc := 152) C 0 dX6_numberOfAll_152 rfl rfl ?_
                        refine gf_X6_42 (pc := 153) C hk dX6_numberOfAll_153 ?_
                        obtain ⟨rfl, rfl⟩ := ret_eq hF
                        exact x_iret (pc := 156) C hr rfl (fun _ h => h) dX6_numberOfAll_156
                      · rw [if_neg c11] at hF
                        by_cases c12 : (a1).toInt = 11
                        · rw [if_pos c12] at hF
                          refine x_tabIn (pc := 1) C 157 dX6_numberOfAll_1 c12 (by decide) (by decide) rfl rfl ?_
                          refine x_aload_n (pc := 157) C 0 dX6_numberOfAll_157 rfl rfl ?_
                          refine gf_X6_45 (pc := 158) C hk dX6_numberOfAll_158 ?_
                          obtain ⟨rfl, rfl⟩ := ret_eq hF
                          exact x_iret (pc := 161) C hr rfl (fun _ h => h) dX6_numberOfAll_161
                        · rw [if_neg c12] at hF
                          by_cases c13 : (a1).toInt = 12
                          · rw [if_pos c13] at hF
                            refine x_tabIn (pc := 1) C 162 dX6_numberOfAll_1 c13 (by decide) (by decide) rfl rfl ?_
                            refine x_aload_n (pc := 162) C 0 dX6_numberOfAll_162 rfl rfl ?_
                            refine gf_X6_48 (pc := 163) C hk dX6_numberOfAll_163 ?_
                            obtain ⟨rfl, rfl⟩ := ret_eq hF
                            exact x_iret (pc := 166) C hr rfl (fun _ h => h) dX6_numberOfAll_166
                          · rw [if_neg c13] at hF
                            by_cases c14 : (a1).toInt = 13
                            · rw [if_pos c14] at hF
                              refine x_tabIn (pc := 1) C 167 dX6_numberOfAll_1 c14 (by decide) (by decide) rfl rfl ?_
                              refine x_aload_n (pc := 167) C 0 dX6_numberOfAll_167 rfl rfl ?_
                              refine gf_X6_51 (pc := 168) C hk dX6_numberOfAll_168 ?_
                              obtain ⟨rfl, rfl⟩ := ret_eq hF
                              exact x_iret (pc := 171) C hr rfl (fun _ h => h) dX6_numberOfAll_171
                            · rw [if_neg c14] at hF
                              refine x_tabOut (pc := 1) C 172 dX6_numberOfAll_1 (by omega) rfl ?_
                              refine x_aload_n (pc := 172) C 0 dX6_numberOfAll_172 rfl rfl ?_
                              refine gf_X6_54 (pc := 173) C hk dX6_numberOfAll_173 ?_
                              obtain ⟨rfl, rfl⟩ := ret_eq hF
                              exact x_iret (pc := 176) C hr rfl (fun _ h => h) dX6_numberOfAll_176
set_option maxRecDepth 4000 in
theorem c_X6_numberOfChild (l : Launch) (G : xG) (b : Nat) {k : Nat} (hk : k < 8)   (a1 : Int32) (a2 : Int32) {w w' : xWt} {v : Int32} (hF : F_X6_numberOfChild k a1 a2 w = some (v, w')) : xMet l G b yX6_numberOfChild cX6_numberOfChild 3 (some .int) (xR 2) [.ref (yb b k), .int (a1), .int (a2)] (CW G b w) (some (.int v)) (CW G b w') 0 0 := by
  refine x_of (own := RX6) rfl (plainFor_of_name pn_X6) (Nat.le_of_ble_eq_true rfl) ?_
  intro p e s m args below meth c ha C hr _
  unfold F_X6_numberOfChild at hF
  refine x_iload_n (pc := 0) C 2 dX6_numberOfChild_0 rfl rfl ?_
  by_cases c3 : (a2).toInt = 0
  · rw [if_pos c3] at hF
    refine x_tabIn (pc := 1) C 44 dX6_numberOfChild_1 c3 (by decide) (by decide) rfl rfl ?_
    refine x_aload_n (pc := 44) C 0 dX6_numberOfChild_44 rfl rfl ?_
    refine gf_X6_28 (pc := 45) C hk dX6_numberOfChild_45 ?_
    refine x_iload_n (pc := 48) C 1 dX6_numberOfChild_48 rfl rfl ?_
    refine cV1_1 (pc := 49) (val := Value.int) C hF (fun _ _ h => c_X0_isInYard l G b hk _ h) vm_X0_isInYard wq344 rfl rfl ⟨Nat.le_of_ble_eq_true rfl, Nat.le_of_ble_eq_true rfl⟩ rfl rfl (fun _ h => CW.ch h hk) (Nat.le_of_ble_eq_true rfl) ⟨Nat.le_refl _, Nat.le_refl _⟩ dX6_numberOfChild_49 (fun x23 w22 hF => ?_)
    refine x_if_eq (pc := 52) C 59 dX6_numberOfChild_52 rfl hF (fun c24 hF => ?_) (fun c24 hF => ?_)
    · refine x_iconst (pc := 59) C 0 dX6_numberOfChild_59 ki_0 ?_
      obtain ⟨rfl, rfl⟩ := ret_eq hF
      exact x_iret (pc := 60) C hr rfl (fun _ h => h) dX6_numberOfChild_60
    · refine x_iconst (pc := 55) C 1 dX6_numberOfChild_55 ki_1 ?_
      refine x_goto (pc := 56) C 60 dX6_numberOfChild_56 rfl ?_
      obtain ⟨rfl, rfl⟩ := ret_eq hF
      exact x_iret (pc := 60) C hr rfl (fun _ h => h) dX6_numberOfChild_60
  · rw [if_neg c3] at hF
    by_cases c4 : (a2).toInt = 1
    · rw [if_pos c4] at hF
      refine x_tabIn (pc := 1) C 61 dX6_numberOfChild_1 c4 (by decide) (by decide) rfl rfl ?_
      refine x_aload_n (pc := 61) C 0 dX6_numberOfChild_61 rfl rfl ?_
      refine gf_X6_28 (pc := 62) C hk dX6_numberOfChild_62 ?_
      refine gf_X6_115 (pc := 65) C hk dX6_numberOfChild_65 ?_
      refine x_iload_n (pc := 68) C 1 dX6_numberOfChild_68 rfl rfl ?_
      refine cV1_1 (pc := 69) (val := Value.int) C hF (fun _ _ h => r_X4_get l G b (vr_y 7 hk (by decide)) _ h) vm_X4_get wq226 rfl rfl ⟨Nat.le_of_ble_eq_true rfl, Nat.le_of_ble_eq_true rfl⟩ rfl rfl (fun _ h => CW.row0 h (vr_y 7 hk (by decide))) (Nat.le_of_ble_eq_true rfl) ⟨Nat.le_refl _, Nat.le_refl _⟩ dX6_numberOfChild_69 (fun x21 w20 hF => ?_)
      obtain ⟨rfl, rfl⟩ := ret_eq hF
      exact x_iret (pc := 72) C hr rfl (fun _ h => h) dX6_numberOfChild_72
    · rw [if_neg c4] at hF
      by_cases c5 : (a2).toInt = 2
      · rw [if_pos c5] at hF
        refine x_tabIn (pc := 1) C 73 dX6_numberOfChild_1 c5 (by decide) (by decide) rfl rfl ?_
        refine x_aload_n (pc := 73) C 0 dX6_numberOfChild_73 rfl rfl ?_
        refine gf_X6_35 (pc := 74) C hk dX6_numberOfChild_74 ?_
        refine x_iload_n (pc := 77) C 1 dX6_numberOfChild_77 rfl rfl ?_
        refine cV1_1 (pc := 78) (val := Value.int) C hF (fun _ _ h => c_X1_pinsOfChild l G b hk _ h) vm_X1_pinsOfChild wq345 rfl rfl ⟨Nat.le_of_ble_eq_true rfl, Nat.le_of_ble_eq_true rfl⟩ rfl rfl (fun _ h => CW.hk h hk) (Nat.le_of_ble_eq_true rfl) ⟨Nat.le_refl _, Nat.le_refl _⟩ dX6_numberOfChild_78 (fun x19 w18 hF => ?_)
        obtain ⟨rfl, rfl⟩ := ret_eq hF
        exact x_iret (pc := 81) C hr rfl (fun _ h => h) dX6_numberOfChild_81
      · rw [if_neg c5] at hF
        by_cases c6 : (a2).toInt = 3
        · rw [if_pos c6] at hF
          refine x_tabIn (pc := 1) C 82 dX6_numberOfChild_1 c6 (by decide) (by decide) rfl rfl ?_
          refine x_aload_n (pc := 82) C 0 dX6_numberOfChild_82 rfl rfl ?_
          refine gf_X6_35 (pc := 83) C hk dX6_numberOfChild_83 ?_
          refine x_iload_n (pc := 86) C 1 dX6_numberOfChild_86 rfl rfl ?_
          refine cV1_1 (pc := 87) (val := Value.int) C hF (fun _ _ h => c_X1_notesOfChild l G b hk _ h) vm_X1_notesOfChild wq349 rfl rfl ⟨Nat.le_of_ble_eq_true rfl, Nat.le_of_ble_eq_true rfl⟩ rfl rfl (fun _ h => CW.hk h hk) (Nat.le_of_ble_eq_true rfl) ⟨Nat.le_refl _, Nat.le_refl _⟩ dX6_numberOfChild_87 (fun x17 w16 hF => ?_)
          obtain ⟨rfl, rfl⟩ := ret_eq hF
          exact x_iret (pc := 90) C hr rfl (fun _ h => h) dX6_numberOfChild_90
        · rw [if_neg c6] at hF
          by_cases c7 : (a2).toInt = 4
          · rw [if_pos c7] at hF
            refine x_tabIn (pc := 1) C 91 dX6_numberOfChild_1 c7 (by decide) (by decide) rfl rfl ?_
            refine x_aload_n (pc := 91) C 0 dX6_numberOfChild_91 rfl rfl ?_
            refine gf_X6_28 (pc := 92) C hk dX6_numberOfChild_92 ?_
            refine gf_X6_75 (pc := 95) C hk dX6_numberOfChild_95 ?_
            refine x_iload_n (pc := 98) C 1 dX6_numberOfChild_98 rfl rfl ?_
            refine cV1_1 (pc := 99) (val := Value.int) C hF (fun _ _ h => r_X4_get l G b (vr_y 11 hk (by decide)) _ h) vm_X4_get wq226 rfl rfl ⟨Nat.le_of_ble_eq_true rfl, Nat.le_of_ble_eq_true rfl⟩ rfl rfl (fun _ h => CW.row0 h (vr_y 11 hk (by decide))) (Nat.le_of_ble_eq_true rfl) ⟨Nat.le_refl _, Nat.le_refl _⟩ dX6_numberOfChild_99 (fun x15 w14 hF => ?_)
            obtain ⟨rfl, rfl⟩ := ret_eq hF
            exact x_iret (pc := 102) C hr rfl (fun _ h => h) dX6_numberOfChild_102
          · rw [if_neg c7] at hF
            by_cases c8 : (a2).toInt = 5
            · rw [if_pos c8] at hF
              refine x_tabIn (pc := 1) C 103 dX6_numberOfChild_1 c8 (by decide) (by decide) rfl rfl ?_
              refine x_aload_n (pc := 103) C 0 dX6_numberOfChild_103 rfl rfl ?_
              refine gf_X6_28 (pc := 104) C hk dX6_numberOfChild_104 ?_
              refine gf_X6_159 (pc := 107) C hk dX6_numberOfChild_107 ?_
              refine x_iload_n (pc := 110) C 1 dX6_numberOfChild_110 rfl rfl ?_
              refine cV1_1 (pc := 111) (val := Value.int) C hF (fun _ _ h => r_X4_get l G b (vr_y 8 hk (by decide)) _ h) vm_X4_get wq226 rfl rfl ⟨Nat.le_of_ble_eq_true rfl, Nat.le_of_ble_eq_true rfl⟩ rfl rfl (fun _ h => CW.row0 h (vr_y 8 hk (by decide))) (Nat.le_of_ble_eq_true rfl) ⟨Nat.le_refl _, Nat.le_refl _⟩ dX6_numberOfChild_111 (fun x13 w12 hF => ?_)
              obtain ⟨rfl, rfl⟩ := ret_eq hF
              exact x_iret (pc := 114) C hr rfl (fun _ h => h) dX6_numberOfChild_114
            · rw [if_neg c8] at hF
              by_cases c9 : (a2).toInt = 6
              · rw [if_pos c9] at hF
                refine x_tabIn (pc := 1) C 115 dX6_numberOfChild_1 c9 (by decide) (by decide) rfl rfl ?_
                refine x_aload_n (pc := 115) C 0 dX6_numberOfChild_115 rfl rfl ?_
                refine gf_X6_28 (pc := 116) C hk dX6_numberOfChild_116 ?_
                refine gf_X6_196 (pc := 119) C hk dX6_numberOfChild_119 ?_
                refine x_iload_n (pc := 122) C 1 dX6_numberOfChild_122 rfl rfl ?_
                refine cV1_1 (pc := 123) (val := Value.int) C hF (fun _ _ h => r_X4_get l G b (vr_y 9 hk (by decide)) _ h) vm_X4_get wq226 rfl rfl ⟨Nat.le_of_ble_eq_true rfl, Nat.le_of_ble_eq_true rfl⟩ rfl rfl (fun _ h => CW.row0 h (vr_y 9 hk (by decide))) (Nat.le_of_ble_eq_true rfl) ⟨Nat.le_refl _, Nat.le_refl _⟩ dX6_numberOfChild_123 (fun x11 w10 hF => ?_)
                obtain ⟨rfl, rfl⟩ := ret_eq hF
                exact x_iret (pc := 126) C hr rfl (fun _ h => h) dX6_numberOfChild_126
              · rw [if_neg c9] at hF
                refine x_tabOut (pc := 1) C 127 dX6_numberOfChild_1 (by omega) rfl ?_
                refine x_aload_n (pc := 127) C 0 dX6_numberOfChild_127 rfl rfl ?_
                refine gf_X6_28 (pc := 128) C hk dX6_numberOfChild_128 ?_
                refine gf_X6_199 (pc := 131) C hk dX6_numberOfChild_131 ?_
                refine x_iload_n (pc := 134) C 1 dX6_numberOfChild_134 rfl rfl ?_
                refine cV1_1 (pc := 135) (val := Value.int) C hF (fun _ _ h => r_X4_get l G b (vr_y 10 hk (by decide)) _ h) vm_X4_get wq226 rfl rfl ⟨Nat.le_of_ble_eq_true rfl, Nat.le_of_ble_eq_true rfl⟩ rfl rfl (fun _ h => CW.row0 h (vr_y 10 hk (by decide))) (Nat.le_of_ble_eq_true rfl) ⟨Nat.le_refl _, Nat.le_refl _⟩ dX6_numberOfChild_135 (fun x2 w1 hF => ?_)
                obtain ⟨rfl, rfl⟩ := ret_eq hF
                exact x_iret (pc := 138) C hr rfl (fun _ h => h) dX6_numberOfChild_138
set_option maxRecDepth 4000 in
theorem c_X6_numberOfLeaf (l : Launch) (G : xG) (b : Nat) {k : Nat} (hk : k < 8)   (a1 : Int32) (a2 : Int32) {w w' : xWt} {v : Int32} (hF : F_X6_numberOfLeaf k a1 a2 w = some (v, w')) : xMet l G b yX6_numberOfLeaf cX6_numberOfLeaf 3 (some .int) (xR 3) [.ref (yb b k), .int (a1), .int (a2)] (CW G b w) (some (.int v)) (CW G b w') 0 0 := by
  refine x_of (own := RX6) rfl (plainFor_of_name pn_X6) (Nat.le_of_ble_eq_true rfl) ?_
  intro p e s m args below meth c ha C hr _
  unfold F_X6_numberOfLeaf at hF
  refine x_iload_n (pc := 0) C 2 dX6_numberOfLeaf_0 rfl rfl ?_
  by_cases c3 : (a2).toInt = 0
  · rw [if_pos c3] at hF
    refine x_tabIn (pc := 1) C 44 dX6_numberOfLeaf_1 c3 (by decide) (by decide) rfl rfl ?_
    refine x_aload_n (pc := 44) C 0 dX6_numberOfLeaf_44 rfl rfl ?_
    refine gf_X6_21 (pc := 45) C hk dX6_numberOfLeaf_45 ?_
    refine gf_X6_152 (pc := 48) C hk dX6_numberOfLeaf_48 ?_
    refine x_iload_n (pc := 51) C 1 dX6_numberOfLeaf_51 rfl rfl ?_
    refine cV1_1 (pc := 52) (val := Value.int) C hF (fun _ _ h => r_X4_get l G b (vr_y 1 hk (by decide)) _ h) vm_X4_get wq226 rfl rfl ⟨Nat.le_of_ble_eq_true rfl, Nat.le_of_ble_eq_true rfl⟩ rfl rfl (fun _ h => CW.row0 h (vr_y 1 hk (by decide))) (Nat.le_of_ble_eq_true rfl) ⟨Nat.le_refl _, Nat.le_refl _⟩ dX6_numberOfLeaf_52 (fun x23 w22 hF => ?_)
    obtain ⟨rfl, rfl⟩ := ret_eq hF
    exact x_iret (pc := 55) C hr rfl (fun _ h => h) dX6_numberOfLeaf_55
  · rw [if_neg c3] at hF
    by_cases c4 : (a2).toInt = 1
    · rw [if_pos c4] at hF
      refine x_tabIn (pc := 1) C 56 dX6_numberOfLeaf_1 c4 (by decide) (by decide) rfl rfl ?_
      refine x_aload_n (pc := 56) C 0 dX6_numberOfLeaf_56 rfl rfl ?_
      refine gf_X6_21 (pc := 57) C hk dX6_numberOfLeaf_57 ?_
      refine gf_X6_149 (pc := 60) C hk dX6_numberOfLeaf_60 ?_
      refine x_iload_n (pc := 63) C 1 dX6_numberOfLeaf_63 rfl rfl ?_
      refine cV1_1 (pc := 64) (val := Value.int) C hF (fun _ _ h => r_X4_get l G b (vr_y 2 hk (by decide)) _ h) vm_X4_get wq226 rfl rfl ⟨Nat.le_of_ble_eq_true rfl, Nat.le_of_ble_eq_true rfl⟩ rfl rfl (fun _ h => CW.row0 h (vr_y 2 hk (by decide))) (Nat.le_of_ble_eq_true rfl) ⟨Nat.le_refl _, Nat.le_refl _⟩ dX6_numberOfLeaf_64 (fun x21 w20 hF => ?_)
      obtain ⟨rfl, rfl⟩ := ret_eq hF
      exact x_iret (pc := 67) C hr rfl (fun _ h => h) dX6_numberOfLeaf_67
    · rw [if_neg c4] at hF
      by_cases c5 : (a2).toInt = 2
      · rw [if_pos c5] at hF
        refine x_tabIn (pc := 1) C 68 dX6_numberOfLeaf_1 c5 (by decide) (by decide) rfl rfl ?_
        refine x_aload_n (pc := 68) C 0 dX6_numberOfLeaf_68 rfl rfl ?_
        refine gf_X6_21 (pc := 69) C hk dX6_numberOfLeaf_69 ?_
        refine gf_X6_225 (pc := 72) C hk dX6_numberOfLeaf_72 ?_
        refine x_iload_n (pc := 75) C 1 dX6_numberOfLeaf_75 rfl rfl ?_
        refine cV1_1 (pc := 76) (val := Value.int) C hF (fun _ _ h => r_X4_get l G b (vr_y 3 hk (by decide)) _ h) vm_X4_get wq226 rfl rfl ⟨Nat.le_of_ble_eq_true rfl, Nat.le_of_ble_eq_true rfl⟩ rfl rfl (fun _ h => CW.row0 h (vr_y 3 hk (by decide))) (Nat.le_of_ble_eq_true rfl) ⟨Nat.le_refl _, Nat.le_refl _⟩ dX6_numberOfLeaf_76 (fun x19 w18 hF => ?_)
        obtain ⟨rfl, rfl⟩ := ret_eq hF
        exact x_iret (pc := 79) C hr rfl (fun _ h => h) dX6_numberOfLeaf_79
      · rw [if_neg c5] at hF
        by_cases c6 : (a2).toInt = 3
        · rw [if_pos c6] at hF
          refine x_tabIn (pc := 1) C 80 dX6_numberOfLeaf_1 c6 (by decide) (by decide) rfl rfl ?_
          refine x_aload_n (pc := 80) C 0 dX6_numberOfLeaf_80 rfl rfl ?_
          refine gf_X6_21 (pc := 81) C hk dX6_numberOfLeaf_81 ?_
          refine gf_X6_207 (pc := 84) C hk dX6_numberOfLeaf_84 ?_
          refine x_iload_n (pc := 87) C 1 dX6_numberOfLeaf_87 rfl rfl ?_
          refine cV1_1 (pc := 88) (val := Value.int) C hF (fun _ _ h => r_X4_get l G b (vr_y 4 hk (by decide)) _ h) vm_X4_get wq226 rfl rfl ⟨Nat.le_of_ble_eq_true rfl, Nat.le_of_ble_eq_true rfl⟩ rfl rfl (fun _ h => CW.row0 h (vr_y 4 hk (by decide))) (Nat.le_of_ble_eq_true rfl) ⟨Nat.le_refl _, Nat.le_refl _⟩ dX6_numberOfLeaf_88 (fun x17 w16 hF => ?_)
          obtain ⟨rfl, rfl⟩ := ret_eq hF
          exact x_iret (pc := 91) C hr rfl (fun _ h => h) dX6_numberOfLeaf_91
        · rw [if_neg c6] at hF
          by_cases c7 : (a2).toInt = 4
          · rw [if_pos c7] at hF
            refine x_tabIn (pc := 1) C 92 dX6_numberOfLeaf_1 c7 (by decide) (by decide) rfl rfl ?_
            refine x_aload_n (pc := 92) C 0 dX6_numberOfLeaf_92 rfl rfl ?_
            refine gf_X6_21 (pc := 93) C hk dX6_numberOfLeaf_93 ?_
            refine gf_X6_96 (pc := 96) C hk dX6_numberOfLeaf_96 ?_
            refine x_iload_n (pc := 99) C 1 dX6_numberOfLeaf_99 rfl rfl ?_
            refine cV1_1 (pc := 100) (val := Value.int) C hF (fun _ _ h => r_X4_get l G b (vr_y 5 hk (by decide)) _ h) vm_X4_get wq226 rfl rfl ⟨Nat.le_of_ble_eq_true rfl, Nat.le_of_ble_eq_true rfl⟩ rfl rfl (fun _ h => CW.row0 h (vr_y 5 hk (by decide))) (Nat.le_of_ble_eq_true rfl) ⟨Nat.le_refl _, Nat.le_refl _⟩ dX6_numberOfLeaf_100 (fun x15 w14 hF => ?_)
            obtain ⟨rfl, rfl⟩ := ret_eq hF
            exact x_iret (pc := 103) C hr rfl (fun _ h => h) dX6_numberOfLeaf_103
          · rw [if_neg c7] at hF
            by_cases c8 : (a2).toInt = 5
            · rw [if_pos c8] at hF
              refine x_tabIn (pc := 1) C 104 dX6_numberOfLeaf_1 c8 (by decide) (by decide) rfl rfl ?_
              refine x_aload_n (pc := 104) C 0 dX6_numberOfLeaf_104 rfl rfl ?_
              refine gf_X6_35 (pc := 105) C hk dX6_numberOfLeaf_105 ?_
              refine x_iload_n (pc := 108) C 1 dX6_numberOfLeaf_108 rfl rfl ?_
              refine cV1_1 (pc := 109) (val := Value.int) C hF (fun _ _ h => c_X1_maskOfHolders l G b hk _ h) vm_X1_maskOfHolders wq270 rfl rfl ⟨Nat.le_of_ble_eq_true rfl, Nat.le_of_ble_eq_true rfl⟩ rfl rfl (fun _ h => CW.hk h hk) (Nat.le_of_ble_eq_true rfl) ⟨Nat.le_refl _, Nat.le_refl _⟩ dX6_numberOfLeaf_109 (fun x13 w12 hF => ?_)
              obtain ⟨rfl, rfl⟩ := ret_eq hF
              exact x_iret (pc := 112) C hr rfl (fun _ h => h) dX6_numberOfLeaf_112
            · rw [if_neg c8] at hF
              by_cases c9 : (a2).toInt = 6
              · rw [if_pos c9] at hF
                refine x_tabIn (pc := 1) C 113 dX6_numberOfLeaf_1 c9 (by decide) (by decide) rfl rfl ?_
                refine x_aload_n (pc := 113) C 0 dX6_numberOfLeaf_113 rfl rfl ?_
                refine gf_X6_35 (pc := 114) C hk dX6_numberOfLeaf_114 ?_
                refine x_iload_n (pc := 117) C 1 dX6_numberOfLeaf_117 rfl rfl ?_
                refine cV1_1 (pc := 118) (val := Value.int) C hF (fun _ _ h => c_X1_pinsOn l G b hk _ h) vm_X1_pinsOn wq235 rfl rfl ⟨Nat.le_of_ble_eq_true rfl, Nat.le_of_ble_eq_true rfl⟩ rfl rfl (fun _ h => CW.hk h hk) (Nat.le_of_ble_eq_true rfl) ⟨Nat.le_refl _, Nat.le_refl _⟩ dX6_numberOfLeaf_118 (fun x11 w10 hF => ?_)
                obtain ⟨rfl, rfl⟩ := ret_eq hF
                exact x_iret (pc := 121) C hr rfl (fun _ h => h) dX6_numberOfLeaf_121
              · rw [if_neg c9] at hF
                refine x_tabOut (pc := 1) C 122 dX6_numberOfLeaf_1 (by omega) rfl ?_
                refine x_aload_n (pc := 122) C 0 dX6_numberOfLeaf_122 rfl rfl ?_
                refine gf_X6_35 (pc := 123) C hk dX6_numberOfLeaf_123 ?_
                refine x_iload_n (pc := 126) C 1 dX6_numberOfLeaf_126 rfl rfl ?_
                refine cV1_1 (pc := 127) (val := Value.int) C hF (fun _ _ h => c_X1_notesOn l G b hk _ h) vm_X1_notesOn wq281 rfl rfl ⟨Nat.le_of_ble_eq_true rfl, Nat.le_of_ble_eq_true rfl⟩ rfl rfl (fun _ h => CW.hk h hk) (Nat.le_of_ble_eq_true rfl) ⟨Nat.le_refl _, Nat.le_refl _⟩ dX6_numberOfLeaf_127 (fun x2 w1 hF => ?_)
                obtain ⟨rfl, rfl⟩ := ret_eq hF
                exact x_iret (pc := 130) C hr rfl (fun _ h => h) dX6_numberOfLeaf_130
set_option maxRecDepth 4000 in
theorem c_X6_release (l : Launch) (G : xG) (b : Nat) {k : Nat} (hk : k < 8)   (a1 : Int32) (a2 : Int32) {w w' : xWt} {v : Int32} (hF : F_X6_release k a1 a2 w = some (v, w')) : xMet l G b yX6_release cX6_release 4 (some .int) (xR 2) [.ref (yb b k), .int (a1), .int (a2)] (CW G b w) (some (.int v)) (CW G b w') 0 0 := by
  refine x_of (own := RX6) rfl (plainFor_of_name pn_X6) (Nat.le_of_ble_eq_true rfl) ?_
  intro p e s m args below meth c ha C hr _
  unfold F_X6_release at hF
  refine x_aload_n (pc := 0) C 0 dX6_release_0 rfl rfl ?_
  refine gf_X6_35 (pc := 1) C hk dX6_release_1 ?_
  refine x_iload_n (pc := 4) C 1 dX6_release_4 rfl rfl ?_
  refine x_iload_n (pc := 5) C 2 dX6_release_5 rfl rfl ?_
  refine cV1_2 (pc := 6) (val := Value.int) C hF (fun _ _ h => c_X1_leafOf l G b hk _ _ h) vm_X1_leafOf wq390 rfl rfl ⟨Nat.le_of_ble_eq_true rfl, Nat.le_of_ble_eq_true rfl⟩ rfl rfl (fun _ h => CW.hk h hk) (Nat.le_of_ble_eq_true rfl) ⟨Nat.le_refl _, Nat.le_refl _⟩ dX6_release_6 (fun x2 w1 hF => ?_)
  refine x_istore_n (pc := 9) C [(3, .int (x2)), (0, .ref (yb b k)), (1, .int (a1)), (2, .int (a2))] dX6_release_9 rfl (by decide) rfl ?_
  refine x_aload_n (pc := 10) C 1 dX6_release_10 rfl rfl ?_
  refine gf_X6_35 (pc := 11) C hk dX6_release_11 ?_
  refine x_iload_n (pc := 14) C 2 dX6_release_14 rfl rfl ?_
  refine x_iload_n (pc := 15) C 3 dX6_release_15 rfl rfl ?_
  refine cV0_2 (pc := 16) C hF (fun _ _ h => c_X1_release l G b hk _ _ h) vm_X1_release wq664 rfl rfl ⟨Nat.le_of_ble_eq_true rfl, Nat.le_of_ble_eq_true rfl⟩ rfl rfl (fun _ h => CW.hk h hk) (Nat.le_of_ble_eq_true rfl) ⟨Nat.le_refl _, Nat.le_refl _⟩ dX6_release_16 (fun _ w3 hF => ?_)
  refine x_iload_n (pc := 19) C 0 dX6_release_19 rfl rfl ?_
  obtain ⟨rfl, rfl⟩ := ret_eq hF
  exact x_iret (pc := 20) C hr rfl (fun _ h => h) dX6_release_20
set_option maxRecDepth 4000 in
theorem s_X6_removeChild_24 (C : xC p m c s args meth G b cX6_removeChild 6 RX6) {k : Nat} (hk : k < 8)  : ∀ (n9 : Nat) (l1 : Int32) (l2 : Int32) (l3 : Int32) (l4 : Int32) (w : xWt) (o : (Int32)) (w' : xWt), L_X6_removeChild_24 k n9 l1 l2 l3 l4 w = some (o, w') → xW p l e (xR 3) s m args below meth c Q b 6 (CW G b w') 0 0 71 [(0, .ref (yb b k)), (1, .int (l1)), (2, .int (l2)), (3, .int (l3)), (4, .int (o))] [] → xW p l e (xR 3) s m args below meth c Q b 6 (CW G b w) 0 0 24 [(0, .ref (yb b k)), (1, .int (l1)), (2, .int (l2)), (3, .int (l3)), (4, .int (l4))] [] := by
  intro n9
  induction n9 with
  | zero => intro l1 l2 l3 l4 w o w' hF; exact none_ne (show none = some _ from hF)
  | succ n9 ih =>
    intro l1 l2 l3 l4 w o w' hF kx
    replace hF : B_X6_removeChild_24 k (L_X6_removeChild_24 k n9) l1 l2 l3 l4 w = some (o, w') := hF
    unfold B_X6_removeChild_24 at hF
    refine x_iload (pc := 24) C 4 dX6_removeChild_24 rfl ?_
    refine x_iload_n (pc := 26) C 2 dX6_removeChild_26 rfl rfl ?_
    refine x_icmp_ge (pc := 27) C 71 dX6_removeChild_27 rfl hF (fun c9 hF => ?_) (fun c9 hF => ?_)
    · obtain ⟨rfl, rfl⟩ := ret_eq hF
      exact x_sub [0, 1, 2, 3, 4] rfl kx
    · refine x_aload_n (pc := 30) C 0 dX6_removeChild_30 rfl rfl ?_
      refine gf_X6_28 (pc := 31) C hk dX6_removeChild_31 ?_
      refine x_iload_n (pc := 34) C 1 dX6_removeChild_34 rfl rfl ?_
      refine x_iload (pc := 35) C 4 dX6_removeChild_35 rfl ?_
      refine cV1_2 (pc := 37) (val := Value.int) C hF (fun _ _ h => c_X0_leafOnHeap l G b hk _ _ h) vm_X0_leafOnHeap wq412 rfl rfl ⟨Nat.le_of_ble_eq_true rfl, Nat.le_of_ble_eq_true rfl⟩ rfl rfl (fun _ h => CW.ch h hk) (Nat.le_of_ble_eq_true rfl) ⟨Nat.le_refl _, Nat.le_refl _⟩ dX6_removeChild_37 (fun x6 w5 hF => ?_)
      refine x_istore (pc := 40) C [(5, .int (x6)), (0, .ref (yb b k)), (1, .int (l1)), (2, .int (l2)), (3, .int (l3)), (4, .int (l4))] dX6_removeChild_40 (by decide) rfl ?_
      refine x_aload_n (pc := 42) C 1 dX6_removeChild_42 rfl rfl ?_
      refine gf_X6_28 (pc := 43) C hk dX6_removeChild_43 ?_
      refine x_iload_n (pc := 46) C 4 dX6_removeChild_46 rfl rfl ?_
      refine x_iload (pc := 47) C 0 dX6_removeChild_47 rfl ?_
      refine cV0_2 (pc := 49) C hF (fun _ _ h => c_X0_putOnHeap l G b hk _ _ h) vm_X0_putOnHeap wq604 rfl rfl ⟨Nat.le_of_ble_eq_true rfl, Nat.le_of_ble_eq_true rfl⟩ rfl rfl (fun _ h => CW.ch h hk) (Nat.le_of_ble_eq_true rfl) ⟨Nat.le_refl _, Nat.le_refl _⟩ dX6_removeChild_49 (fun _ w7 hF => ?_)
      refine x_aload_n (pc := 52) C 1 dX6_removeChild_52 rfl rfl ?_
      refine gf_X6_21 (pc := 53) C hk dX6_removeChild_53 ?_
      refine gf_X6_96 (pc := 56) C hk dX6_removeChild_56 ?_
      refine x_iload (pc := 59) C 0 dX6_removeChild_59 rfl ?_
      refine x_iload_n (pc := 61) C 4 dX6_removeChild_61 rfl rfl ?_
      refine cV0_2 (pc := 62) C hF (fun _ _ h => r_X4_put l G b (vr_y 5 hk (by decide)) _ _ h) vm_X4_put wq513 rfl rfl ⟨Nat.le_of_ble_eq_true rfl, Nat.le_of_ble_eq_true rfl⟩ rfl rfl (fun _ h => CW.row0 h (vr_y 5 hk (by decide))) (Nat.le_of_ble_eq_true rfl) ⟨Nat.le_refl _, Nat.le_refl _⟩ dX6_removeChild_62 (fun _ w8 hF => ?_)
      refine x_iinc (pc := 65) C 5 [(4, .int ((l4 + 1))), (5, .int (x6)), (0, .ref (yb b k)), (1, .int (l1)), (2, .int (l2)), (3, .int (l3))] dX6_removeChild_65 rfl rfl (by decide) rfl ?_
      refine x_goto (pc := 68) C 24 dX6_removeChild_68 rfl ?_
      exact x_sub [2, 3, 4, 5, 0] rfl (ih _ _ _ _ _ _ _ hF kx)
set_option maxRecDepth 4000 in
theorem c_X6_removeChild (l : Launch) (G : xG) (b : Nat) {k : Nat} (hk : k < 8)   (a1 : Int32) {w w' : xWt} {v : Int32} (hF : F_X6_removeChild k a1 w = some (v, w')) : xMet l G b yX6_removeChild cX6_removeChild 6 (some .int) (xR 3) [.ref (yb b k), .int (a1)] (CW G b w) (some (.int v)) (CW G b w') 0 0 := by
  refine x_of (own := RX6) rfl (plainFor_of_name pn_X6) (Nat.le_of_ble_eq_true rfl) ?_
  intro p e s m args below meth c ha C hr _
  unfold F_X6_removeChild at hF
  refine x_aload_n (pc := 0) C 0 dX6_removeChild_0 rfl rfl ?_
  refine gf_X6_28 (pc := 1) C hk dX6_removeChild_1 ?_
  refine gf_X6_75 (pc := 4) C hk dX6_removeChild_4 ?_
  refine x_iload_n (pc := 7) C 1 dX6_removeChild_7 rfl rfl ?_
  refine cV1_1 (pc := 8) (val := Value.int) C hF (fun _ _ h => r_X4_get l G b (vr_y 11 hk (by decide)) _ h) vm_X4_get wq226 rfl rfl ⟨Nat.le_of_ble_eq_true rfl, Nat.le_of_ble_eq_true rfl⟩ rfl rfl (fun _ h => CW.row0 h (vr_y 11 hk (by decide))) (Nat.le_of_ble_eq_true rfl) ⟨Nat.le_refl _, Nat.le_refl _⟩ dX6_removeChild_8 (fun x2 w1 hF => ?_)
  refine x_istore_n (pc := 11) C [(2, .int (x2)), (0, .ref (yb b k)), (1, .int (a1))] dX6_removeChild_11 rfl (by decide) rfl ?_
  refine x_aload_n (pc := 12) C 1 dX6_removeChild_12 rfl rfl ?_
  refine gf_X6_28 (pc := 13) C hk dX6_removeChild_13 ?_
  refine x_iload_n (pc := 16) C 2 dX6_removeChild_16 rfl rfl ?_
  refine cV1_1 (pc := 17) (val := Value.int) C hF (fun _ _ h => c_X0_lowestBesides l G b hk _ h) vm_X0_lowestBesides wq600 rfl rfl ⟨Nat.le_of_ble_eq_true rfl, Nat.le_of_ble_eq_true rfl⟩ rfl rfl (fun _ h => CW.ch h hk) (Nat.le_of_ble_eq_true rfl) ⟨Nat.le_refl _, Nat.le_refl _⟩ dX6_removeChild_17 (fun x4 w3 hF => ?_)
  refine x_istore_n (pc := 20) C [(3, .int (x4)), (2, .int (x2)), (0, .ref (yb b k)), (1, .int (a1))] dX6_removeChild_20 rfl (by decide) rfl ?_
  refine x_iconst (pc := 21) C 0 dX6_removeChild_21 ki_0 ?_
  refine x_istore (pc := 22) C [(4, .int (0)), (3, .int (x4)), (2, .int (x2)), (0, .ref (yb b k)), (1, .int (a1))] dX6_removeChild_22 (by decide) rfl ?_
  obtain ⟨o10, w11, hL, hF⟩ := bd_some hF
  refine x_sub [3, 4, 2, 1, 0] rfl (s_X6_removeChild_24 C hk _ _ _ _ _ _ _ _ hL ?_)
  refine x_aload_n (pc := 71) C 0 dX6_removeChild_71 rfl rfl ?_
  refine gf_X6_28 (pc := 72) C hk dX6_removeChild_72 ?_
  refine x_iload_n (pc := 75) C 1 dX6_removeChild_75 rfl rfl ?_
  refine cV0_1 (pc := 76) C hF (fun _ _ h => c_X0_emptyPlace l G b hk _ h) vm_X0_emptyPlace wq614 rfl rfl ⟨Nat.le_of_ble_eq_true rfl, Nat.le_of_ble_eq_true rfl⟩ rfl rfl (fun _ h => CW.ch h hk) (Nat.le_of_ble_eq_true rfl) ⟨Nat.le_refl _, Nat.le_refl _⟩ dX6_removeChild_76 (fun _ w12 hF => ?_)
  refine x_aload_n (pc := 79) C 0 dX6_removeChild_79 rfl rfl ?_
  refine gf_X6_35 (pc := 80) C hk dX6_removeChild_80 ?_
  refine x_iload_n (pc := 83) C 1 dX6_removeChild_83 rfl rfl ?_
  refine cV0_1 (pc := 84) C hF (fun _ _ h => c_X1_releaseAll l G b hk _ h) vm_X1_releaseAll wq529 rfl rfl ⟨Nat.le_of_ble_eq_true rfl, Nat.le_of_ble_eq_true rfl⟩ rfl rfl (fun _ h => CW.hk h hk) (Nat.le_of_ble_eq_true rfl) ⟨Nat.le_refl _, Nat.le_refl _⟩ dX6_removeChild_84 (fun _ w13 hF => ?_)
  refine x_iload_n (pc := 87) C 2 dX6_removeChild_87 rfl rfl ?_
  obtain ⟨rfl, rfl⟩ := ret_eq hF
  exact x_iret (pc := 88) C hr rfl (fun _ h => h) dX6_removeChild_88
set_option maxRecDepth 4000 in
theorem c_X6_strike (l : Launch) (G : xG) (b : Nat) {k : Nat} (hk : k < 8)    {w w' : xWt} {v : Int32} (hF : F_X6_strike k w = some (v, w')) : xMet l G b yX6_strike cX6_strike 1 (some .int) (xR 0) [.ref (yb b k)] (CW G b w) (some (.int v)) (CW G b w') 0 0 := by
  refine x_of (own := RX6) rfl (plainFor_of_name pn_X6) (Nat.le_of_ble_eq_true rfl) ?_
  intro p e s m args below meth c ha C hr _
  unfold F_X6_strike at hF
  refine x_aload_n (pc := 0) C 0 dX6_strike_0 rfl rfl ?_
  refine x_dup (pc := 1) C dX6_strike_1 rfl ?_
  refine gf_X6_39 (pc := 2) C hk dX6_strike_2 ?_
  refine x_iconst (pc := 5) C 1 dX6_strike_5 ki_1 ?_
  refine x_iadd (pc := 6) C dX6_strike_6 ?_
  refine pf_X6_39 (pc := 7) C hk  hF dX6_strike_7 (fun w1 hF => ?_)
  refine x_aload_n (pc := 10) C 0 dX6_strike_10 rfl rfl ?_
  refine gf_X6_39 (pc := 11) C hk dX6_strike_11 ?_
  obtain ⟨rfl, rfl⟩ := ret_eq hF
  exact x_iret (pc := 14) C hr rfl (fun _ h => h) dX6_strike_14
set_option maxRecDepth 4000 in
theorem c_X6_whyNotBurnt (l : Launch) (G : xG) (b : Nat) {k : Nat} (hk : k < 8)   (a1 : Int32) {w w' : xWt} {v : Int32} (hF : F_X6_whyNotBurnt k a1 w = some (v, w')) : xMet l G b yX6_whyNotBurnt cX6_whyNotBurnt 3 (some .int) (xR 2) [.ref (yb b k), .int (a1)] (CW G b w) (some (.int v)) (CW G b w') 0 0 := by
  refine x_of (own := RX6) rfl (plainFor_of_name pn_X6) (Nat.le_of_ble_eq_true rfl) ?_
  intro p e s m args below meth c ha C hr _
  unfold F_X6_whyNotBurnt at hF
  refine x_aload_n (pc := 0) C 0 dX6_whyNotBurnt_0 rfl rfl ?_
  refine gf_X6_21 (pc := 1) C hk dX6_whyNotBurnt_1 ?_
  refine gf_X6_149 (pc := 4) C hk dX6_whyNotBurnt_4 ?_
  refine x_iload_n (pc := 7) C 1 dX6_whyNotBurnt_7 rfl rfl ?_
  refine cV1_1 (pc := 8) (val := Value.int) C hF (fun _ _ h => r_X4_get l G b (vr_y 2 hk (by decide)) _ h) vm_X4_get wq226 rfl rfl ⟨Nat.le_of_ble_eq_true rfl, Nat.le_of_ble_eq_true rfl⟩ rfl rfl (fun _ h => CW.row0 h (vr_y 2 hk (by decide))) (Nat.le_of_ble_eq_true rfl) ⟨Nat.le_refl _, Nat.le_refl _⟩ dX6_whyNotBurnt_8 (fun x2 w1 hF => ?_)
  refine x_istore_n (pc := 11) C [(2, .int (x2)), (0, .ref (yb b k)), (1, .int (a1))] dX6_whyNotBurnt_11 rfl (by decide) rfl ?_
  refine x_iload_n (pc := 12) C 0 dX6_whyNotBurnt_12 rfl rfl ?_
  refine x_iconst (pc := 13) C 2 dX6_whyNotBurnt_13 ki_2 ?_
  refine x_icmp_ne (pc := 14) C 19 dX6_whyNotBurnt_14 rfl hF (fun c7 hF => ?_) (fun c7 hF => ?_)
  · refine x_iload_n (pc := 19) C 0 dX6_whyNotBurnt_19 rfl rfl ?_
    refine x_if_ne (pc := 20) C 25 dX6_whyNotBurnt_20 rfl hF (fun c6 hF => ?_) (fun c6 hF => ?_)
    · refine x_aload_n (pc := 25) C 1 dX6_whyNotBurnt_25 rfl rfl ?_
      refine x_iload_n (pc := 26) C 2 dX6_whyNotBurnt_26 rfl rfl ?_
      refine x_aload_n (pc := 27) C 1 dX6_whyNotBurnt_27 rfl rfl ?_
      refine gf_X6_15 (pc := 28) C hk dX6_whyNotBurnt_28 ?_
      refine x_iconst (pc := 31) C (-1) dX6_whyNotBurnt_31 ki_m1 ?_
      refine cV1_3 (pc := 32) (val := Value.int) C hF (fun _ _ h => c_X6_mayBurn l G b hk _ _ _ h) vm_X6_mayBurn wq299 rfl rfl ⟨Nat.le_of_ble_eq_true rfl, Nat.le_of_ble_eq_true rfl⟩ rfl rfl (fun _ h => CW.yd h hk) (Nat.le_of_ble_eq_true rfl) ⟨Nat.le_refl _, Nat.le_refl _⟩ dX6_whyNotBurnt_32 (fun x4 w3 hF => ?_)
      refine x_if_eq (pc := 35) C 42 dX6_whyNotBurnt_35 rfl hF (fun c5 hF => ?_) (fun c5 hF => ?_)
      · refine x_iconst (pc := 42) C 2 dX6_whyNotBurnt_42 ki_2 ?_
        obtain ⟨rfl, rfl⟩ := ret_eq hF
        exact x_iret (pc := 43) C hr rfl (fun _ h => h) dX6_whyNotBurnt_43
      · refine x_iconst (pc := 38) C 3 dX6_whyNotBurnt_38 ki_3 ?_
        refine x_goto (pc := 39) C 43 dX6_whyNotBurnt_39 rfl ?_
        obtain ⟨rfl, rfl⟩ := ret_eq hF
        exact x_iret (pc := 43) C hr rfl (fun _ h => h) dX6_whyNotBurnt_43
    · refine x_iconst (pc := 23) C 1 dX6_whyNotBurnt_23 ki_1 ?_
      obtain ⟨rfl, rfl⟩ := ret_eq hF
      exact x_iret (pc := 24) C hr rfl (fun _ h => h) dX6_whyNotBurnt_24
  · refine x_iconst (pc := 17) C 0 dX6_whyNotBurnt_17 ki_0 ?_
    obtain ⟨rfl, rfl⟩ := ret_eq hF
    exact x_iret (pc := 18) C hr rfl (fun _ h => h) dX6_whyNotBurnt_18
set_option maxRecDepth 4000 in
theorem c_X6_write (l : Launch) (G : xG) (b : Nat) {k : Nat} (hk : k < 8)   (a1 : Int32) (a2 : Int32) (a3 : Int32) {w w' : xWt} {v : Int32} (hF : F_X6_write k a1 a2 a3 w = some (v, w')) : xMet l G b yX6_write cX6_write 5 (some .int) (xR 2) [.ref (yb b k), .int (a1), .int (a2), .int (a3)] (CW G b w) (some (.int v)) (CW G b w') 0 0 := by
  refine x_of (own := RX6) rfl (plainFor_of_name pn_X6) (Nat.le_of_ble_eq_true rfl) ?_
  intro p e s m args below meth c ha C hr _
  unfold F_X6_write at hF
  refine x_aload_n (pc := 0) C 0 dX6_write_0 rfl rfl ?_
  refine gf_X6_21 (pc := 1) C hk dX6_write_1 ?_
  refine gf_X6_124 (pc := 4) C hk dX6_write_4 ?_
  refine x_iload_n (pc := 7) C 3 dX6_write_7 rfl rfl ?_
  refine cV1_1 (pc := 8) (val := Value.int) C hF (fun _ _ h => r_X4_get l G b (vr_y 0 hk (by decide)) _ h) vm_X4_get wq226 rfl rfl ⟨Nat.le_of_ble_eq_true rfl, Nat.le_of_ble_eq_true rfl⟩ rfl rfl (fun _ h => CW.row0 h (vr_y 0 hk (by decide))) (Nat.le_of_ble_eq_true rfl) ⟨Nat.le_refl _, Nat.le_refl _⟩ dX6_write_8 (fun x2 w1 hF => ?_)
  refine x_istore (pc := 11) C [(4, .int (x2)), (0, .ref (yb b k)), (1, .int (a1)), (2, .int (a2)), (3, .int (a3))] dX6_write_11 (by decide) rfl ?_
  refine x_aload_n (pc := 13) C 1 dX6_write_13 rfl rfl ?_
  refine gf_X6_35 (pc := 14) C hk dX6_write_14 ?_
  refine x_iload_n (pc := 17) C 2 dX6_write_17 rfl rfl ?_
  refine x_iload_n (pc := 18) C 3 dX6_write_18 rfl rfl ?_
  refine x_iload (pc := 19) C 0 dX6_write_19 rfl ?_
  refine x_iload_n (pc := 21) C 4 dX6_write_21 rfl rfl ?_
  refine cV0_4 (pc := 22) C hF (fun _ _ h => c_X1_write l G b hk _ _ _ _ h) vm_X1_write wq640 rfl rfl ⟨Nat.le_of_ble_eq_true rfl, Nat.le_of_ble_eq_true rfl⟩ rfl rfl (fun _ h => CW.hk h hk) (Nat.le_of_ble_eq_true rfl) ⟨Nat.le_refl _, Nat.le_refl _⟩ dX6_write_22 (fun _ w3 hF => ?_)
  refine x_iload (pc := 25) C 0 dX6_write_25 rfl ?_
  obtain ⟨rfl, rfl⟩ := ret_eq hF
  exact x_iret (pc := 27) C hr rfl (fun _ h => h) dX6_write_27
end WalkC
