section WalkL
variable {p : Program} {l : Launch} {e : Env} {s : State} {m : MethodId} {args : Array Value} {below : List Frame} {meth : Method} {c : Code} {Q : State → Prop} {b : Nat} {G : xG}
set_option maxRecDepth 4000 in
theorem c_L_noted (l : Launch) (G : xG) (b : Nat) (a1 : Int32) {w w' : xWt} {v : Int32} (hF : F_L_noted a1 w = some (v, w')) : xMet l G b yL_noted cL_noted 2 (some .int) (xR 0) [.int (a1), .ref (ra b 10 2)] (CW G b w) (some (.int v)) (CW G b w') 0 0 := by
  refine x_of (own := RL) rfl (plainFor_of_name pn_L) (Nat.le_of_ble_eq_true rfl) ?_
  intro p e s m args below meth c ha C hr _
  unfold F_L_noted at hF
  refine x_aload_n (pc := 0) C 1 dL_noted_0 rfl rfl ?_
  refine x_iload_n (pc := 1) C 0 dL_noted_1 rfl rfl ?_
  refine w_ald (pc := 2) C (vA_m 2 (by decide)) hF dL_noted_2 (fun x1 hF => ?_)
  refine x_sipush (pc := 3) C 960 dL_noted_3 ks_960 ?_
  refine y_idiv (pc := 6) C dL_noted_6 hF (fun x2 hF => ?_)
  refine x_iconst (pc := 7) C 1 dL_noted_7 ki_1 ?_
  refine x_isub (pc := 8) C dL_noted_8 ?_
  obtain ⟨rfl, rfl⟩ := ret_eq hF
  exact x_iret (pc := 9) C hr rfl (fun _ h => h) dL_noted_9
set_option maxRecDepth 4000 in
theorem s_L_pins_6 (C : xC p m c s args meth G b cL_pins 6 RL)  : ∀ (n9 : Nat) (l0 : Int32) (l1 : Int32) (l2 : Int32) (l4 : Int32) (l5 : Int32) (w : xWt) (o : (Int32 × Int32)) (w' : xWt), L_L_pins_6 n9 l0 l1 l2 l4 l5 w = some (o, w') → xW p l e (xR 0) s m args below meth c Q b 6 (CW G b w') 0 0 59 [(0, .int (l0)), (1, .int (l1)), (2, .int (l2)), (3, .ref (ra b 10 5)), (4, .int (o.1)), (5, .int (o.2))] [] → xW p l e (xR 0) s m args below meth c Q b 6 (CW G b w) 0 0 6 [(0, .int (l0)), (1, .int (l1)), (2, .int (l2)), (3, .ref (ra b 10 5)), (4, .int (l4)), (5, .int (l5))] [] := by
  intro n9
  induction n9 with
  | zero => intro l0 l1 l2 l4 l5 w o w' hF; exact none_ne (show none = some _ from hF)
  | succ n9 ih =>
    intro l0 l1 l2 l4 l5 w o w' hF kx
    replace hF : B_L_pins_6 (L_L_pins_6 n9) l0 l1 l2 l4 l5 w = some (o, w') := hF
    unfold B_L_pins_6 at hF
    refine x_iload (pc := 6) C 5 dL_pins_6 rfl ?_
    refine x_bipush (pc := 8) C 15 dL_pins_8 kb_15 ?_
    refine x_icmp_ge (pc := 10) C 59 dL_pins_10 rfl hF (fun c9 hF => ?_) (fun c9 hF => ?_)
    · obtain ⟨rfl, rfl⟩ := ret_eq hF
      exact x_sub [0, 1, 2, 3, 4, 5] rfl kx
    · refine x_iload (pc := 13) C 4 dL_pins_13 rfl ?_
      refine x_aload_n (pc := 15) C 3 dL_pins_15 rfl rfl ?_
      refine x_iconst (pc := 16) C 2 dL_pins_16 ki_2 ?_
      refine x_iload (pc := 17) C 5 dL_pins_17 rfl ?_
      refine x_imul (pc := 19) C dL_pins_19 ?_
      refine w_ald (pc := 20) C (vA_m 5 (by decide)) hF dL_pins_20 (fun x1 hF => ?_)
      refine x_iload_n (pc := 21) C 1 dL_pins_21 rfl rfl ?_
      obtain ⟨o3, w2, hL, hF⟩ := bd_some hF
      refine x_join (P1 := CW G b w2) (pcJ := 50) (lvJ := [(0, .int (l0)), (1, .int (l1)), (2, .int (l2)), (3, .ref (ra b 10 5)), (4, .int (l4)), (5, .int (l5))]) (stJ := [.int (o3), .int (l4)]) 0 0 ?_ (fun kJ50 => ?_)
      · refine x_iadd (pc := 50) C dL_pins_50 ?_
        refine x_istore (pc := 51) C [(4, .int ((l4 + o3))), (0, .int (l0)), (1, .int (l1)), (2, .int (l2)), (3, .ref (ra b 10 5)), (5, .int (l5))] dL_pins_51 (by decide) rfl ?_
        refine x_iinc (pc := 53) C 5 [(5, .int ((l5 + 1))), (4, .int ((l4 + o3))), (0, .int (l0)), (1, .int (l1)), (2, .int (l2)), (3, .ref (ra b 10 5))] dL_pins_53 rfl rfl (by decide) rfl ?_
        refine x_goto (pc := 56) C 6 dL_pins_56 rfl ?_
        exact x_sub [2, 3, 4, 5, 1, 0] rfl (ih _ _ _ _ _ _ _ _ hF kx)
      · replace hF := hL
        refine x_icmp_ne (pc := 22) C 49 dL_pins_22 rfl hF (fun c8 hF => ?_) (fun c8 hF => ?_)
        · refine x_iconst (pc := 49) C 0 dL_pins_49 ki_0 ?_
          obtain ⟨rfl, rfl⟩ := ret_eq hF
          exact x_sub [0, 1, 2, 3, 4, 5] rfl kJ50
        · refine x_aload_n (pc := 25) C 3 dL_pins_25 rfl rfl ?_
          refine x_iconst (pc := 26) C 2 dL_pins_26 ki_2 ?_
          refine x_iload (pc := 27) C 5 dL_pins_27 rfl ?_
          refine x_imul (pc := 29) C dL_pins_29 ?_
          refine x_iconst (pc := 30) C 1 dL_pins_30 ki_1 ?_
          refine x_iadd (pc := 31) C dL_pins_31 ?_
          refine w_ald (pc := 32) C (vA_m 5 (by decide)) hF dL_pins_32 (fun x4 hF => ?_)
          refine x_iload_n (pc := 33) C 0 dL_pins_33 rfl rfl ?_
          refine x_icmp_ne (pc := 34) C 49 dL_pins_34 rfl hF (fun c7 hF => ?_) (fun c7 hF => ?_)
          · refine x_iconst (pc := 49) C 0 dL_pins_49 ki_0 ?_
            obtain ⟨rfl, rfl⟩ := ret_eq hF
            exact x_sub [0, 1, 2, 3, 4, 5] rfl kJ50
          · refine x_iload (pc := 37) C 5 dL_pins_37 rfl ?_
            refine x_iconst (pc := 39) C 3 dL_pins_39 ki_3 ?_
            refine y_idiv (pc := 40) C dL_pins_40 hF (fun x5 hF => ?_)
            refine x_iload_n (pc := 41) C 2 dL_pins_41 rfl rfl ?_
            refine x_icmp_eq (pc := 42) C 49 dL_pins_42 rfl hF (fun c6 hF => ?_) (fun c6 hF => ?_)
            · refine x_iconst (pc := 49) C 0 dL_pins_49 ki_0 ?_
              obtain ⟨rfl, rfl⟩ := ret_eq hF
              exact x_sub [0, 1, 2, 3, 4, 5] rfl kJ50
            · refine x_iconst (pc := 45) C 1 dL_pins_45 ki_1 ?_
              refine x_goto (pc := 46) C 50 dL_pins_46 rfl ?_
              obtain ⟨rfl, rfl⟩ := ret_eq hF
              exact x_sub [0, 1, 2, 3, 4, 5] rfl kJ50
set_option maxRecDepth 4000 in
theorem c_L_pins (l : Launch) (G : xG) (b : Nat) (a1 : Int32) (a2 : Int32) (a3 : Int32) {w w' : xWt} {v : Int32} (hF : F_L_pins a1 a2 a3 w = some (v, w')) : xMet l G b yL_pins cL_pins 6 (some .int) (xR 0) [.int (a1), .int (a2), .int (a3), .ref (ra b 10 5)] (CW G b w) (some (.int v)) (CW G b w') 0 0 := by
  refine x_of (own := RL) rfl (plainFor_of_name pn_L) (Nat.le_of_ble_eq_true rfl) ?_
  intro p e s m args below meth c ha C hr _
  unfold F_L_pins at hF
  refine x_iconst (pc := 0) C 0 dL_pins_0 ki_0 ?_
  refine x_istore (pc := 1) C [(4, .int (0)), (0, .int (a1)), (1, .int (a2)), (2, .int (a3)), (3, .ref (ra b 10 5))] dL_pins_1 (by decide) rfl ?_
  refine x_iconst (pc := 3) C 0 dL_pins_3 ki_0 ?_
  refine x_istore (pc := 4) C [(5, .int (0)), (4, .int (0)), (0, .int (a1)), (1, .int (a2)), (2, .int (a3)), (3, .ref (ra b 10 5))] dL_pins_4 (by decide) rfl ?_
  obtain ⟨o10, w11, hL, hF⟩ := bd_some hF
  refine x_sub [2, 3, 4, 5, 1, 0] rfl (s_L_pins_6 C  _ _ _ _ _ _ _ _ _ hL ?_)
  refine x_iload (pc := 59) C 4 dL_pins_59 rfl ?_
  obtain ⟨rfl, rfl⟩ := ret_eq hF
  exact x_iret (pc := 61) C hr rfl (fun _ h => h) dL_pins_61
set_option maxRecDepth 4000 in
theorem c_L_may (l : Launch) (G : xG) (b : Nat) (a1 : Int32) (a2 : Int32) (a3 : Int32) {w w' : xWt} {v : Int32} (hF : F_L_may a1 a2 a3 w = some (v, w')) : xMet l G b yL_may cL_may 6 (some .boolean) (xR 1) [.int (a1), .int (a2), .int (a3), .ref (ra b 10 0), .ref (ra b 10 2), .ref (ra b 10 5)] (CW G b w) (some (.int v)) (CW G b w') 0 0 := by
  refine x_of (own := RL) rfl (plainFor_of_name pn_L) (Nat.le_of_ble_eq_true rfl) ?_
  intro p e s m args below meth c ha C hr _
  unfold F_L_may at hF
  refine x_iload_n (pc := 0) C 1 dL_may_0 rfl rfl ?_
  obtain ⟨o2, w1, hL, hF⟩ := bd_some hF
  refine x_join (P1 := CW G b w1) (pcJ := 42) (lvJ := [(0, .int (a1)), (1, .int (a2)), (2, .int (a3)), (3, .ref (ra b 10 0)), (4, .ref (ra b 10 2)), (5, .ref (ra b 10 5))]) (stJ := [.int (o2)]) 0 0 ?_ (fun kJ42 => ?_)
  · obtain ⟨hz, hF⟩ := zr_some hF
    obtain ⟨rfl, rfl⟩ := ret_eq hF
    exact x_zret (pc := 42) C (bool_ok hz) hr rfl (fun _ h => h) dL_may_42
  · replace hF := hL
    refine x_if_ne (pc := 1) C 23 dL_may_1 rfl hF (fun c10 hF => ?_) (fun c10 hF => ?_)
    · refine x_aload_n (pc := 23) C 3 dL_may_23 rfl rfl ?_
      refine x_iconst (pc := 24) C 0 dL_may_24 ki_0 ?_
      refine w_ald (pc := 25) C (vA_m 0 (by decide)) hF dL_may_25 (fun x3 hF => ?_)
      refine x_iload_n (pc := 26) C 0 dL_may_26 rfl rfl ?_
      refine x_aload (pc := 27) C 4 dL_may_27 rfl ?_
      refine cS1_2 (pc := 29) (val := Value.int) C hF (fun _ _ h => c_L_noted l _ b _ h) sm_L_noted wq288 rfl rfl ⟨Nat.le_of_ble_eq_true rfl, Nat.le_of_ble_eq_true rfl⟩ (Nat.le_of_ble_eq_true rfl) ⟨Nat.zero_le _, Nat.zero_le _⟩ dL_may_29 (fun x5 w4 hF => ?_)
      refine x_iconst (pc := 32) C 2 dL_may_32 ki_2 ?_
      refine x_iadd (pc := 33) C dL_may_33 ?_
      refine x_icmp_lt (pc := 34) C 41 dL_may_34 rfl hF (fun c6 hF => ?_) (fun c6 hF => ?_)
      · refine x_iconst (pc := 41) C 0 dL_may_41 ki_0 ?_
        obtain ⟨rfl, rfl⟩ := ret_eq hF
        exact x_sub [0, 1, 2, 3, 4, 5] rfl kJ42
      · refine x_iconst (pc := 37) C 1 dL_may_37 ki_1 ?_
        refine x_goto (pc := 38) C 42 dL_may_38 rfl ?_
        obtain ⟨rfl, rfl⟩ := ret_eq hF
        exact x_sub [0, 1, 2, 3, 4, 5] rfl kJ42
    · refine x_iload_n (pc := 4) C 0 dL_may_4 rfl rfl ?_
      refine x_iconst (pc := 5) C 2 dL_may_5 ki_2 ?_
      refine x_iload_n (pc := 6) C 2 dL_may_6 rfl rfl ?_
      refine x_aload (pc := 7) C 5 dL_may_7 rfl ?_
      refine cS1_4 (pc := 9) (val := Value.int) C hF (fun _ _ h => c_L_pins l _ b _ _ _ h) sm_L_pins wq109 rfl rfl ⟨Nat.le_of_ble_eq_true rfl, Nat.le_of_ble_eq_true rfl⟩ (Nat.le_of_ble_eq_true rfl) ⟨Nat.zero_le _, Nat.zero_le _⟩ dL_may_9 (fun x8 w7 hF => ?_)
      refine x_if_ne (pc := 12) C 19 dL_may_12 rfl hF (fun c9 hF => ?_) (fun c9 hF => ?_)
      · refine x_iconst (pc := 19) C 0 dL_may_19 ki_0 ?_
        refine x_goto (pc := 20) C 42 dL_may_20 rfl ?_
        obtain ⟨rfl, rfl⟩ := ret_eq hF
        exact x_sub [0, 1, 2, 3, 4, 5] rfl kJ42
      · refine x_iconst (pc := 15) C 1 dL_may_15 ki_1 ?_
        refine x_goto (pc := 16) C 42 dL_may_16 rfl ?_
        obtain ⟨rfl, rfl⟩ := ret_eq hF
        exact x_sub [0, 1, 2, 3, 4, 5] rfl kJ42
set_option maxRecDepth 4000 in
theorem c_L_where (l : Launch) (G : xG) (b : Nat) (a1 : Int32) {w w' : xWt} {v : Int32} (hF : F_L_where a1 w = some (v, w')) : xMet l G b yL_where cL_where 2 (some .int) (xR 0) [.int (a1), .ref (ra b 10 2)] (CW G b w) (some (.int v)) (CW G b w') 0 0 := by
  refine x_of (own := RL) rfl (plainFor_of_name pn_L) (Nat.le_of_ble_eq_true rfl) ?_
  intro p e s m args below meth c ha C hr _
  unfold F_L_where at hF
  refine x_aload_n (pc := 0) C 1 dL_where_0 rfl rfl ?_
  refine x_iload_n (pc := 1) C 0 dL_where_1 rfl rfl ?_
  refine w_ald (pc := 2) C (vA_m 2 (by decide)) hF dL_where_2 (fun x1 hF => ?_)
  refine x_bipush (pc := 3) C 120 dL_where_3 kb_120 ?_
  refine y_idiv (pc := 5) C dL_where_5 hF (fun x2 hF => ?_)
  refine x_bipush (pc := 6) C 8 dL_where_6 kb_8 ?_
  refine y_irem (pc := 8) C dL_where_8 hF (fun x3 hF => ?_)
  refine x_iconst (pc := 9) C 2 dL_where_9 ki_2 ?_
  refine x_isub (pc := 10) C dL_where_10 ?_
  obtain ⟨rfl, rfl⟩ := ret_eq hF
  exact x_iret (pc := 11) C hr rfl (fun _ h => h) dL_where_11
set_option maxRecDepth 4000 in
theorem s_L_burns_6 (C : xC p m c s args meth G b cL_burns 8 RL)  : ∀ (n9 : Nat) (l0 : Int32) (l1 : Int32) (l6 : Int32) (l7 : Int32) (w : xWt) (o : (Int32 × Int32)) (w' : xWt), L_L_burns_6 n9 l0 l1 l6 l7 w = some (o, w') → xW p l e (xR 2) s m args below meth c Q b 8 (CW G b w') 0 0 61 [(0, .int (l0)), (1, .int (l1)), (2, .ref (ra b 10 0)), (3, .ref (ra b 10 2)), (4, .ref (ra b 10 3)), (5, .ref (ra b 10 5)), (6, .int (o.1)), (7, .int (o.2))] [] → xW p l e (xR 2) s m args below meth c Q b 8 (CW G b w) 0 0 6 [(0, .int (l0)), (1, .int (l1)), (2, .ref (ra b 10 0)), (3, .ref (ra b 10 2)), (4, .ref (ra b 10 3)), (5, .ref (ra b 10 5)), (6, .int (l6)), (7, .int (l7))] [] := by
  intro n9
  induction n9 with
  | zero => intro l0 l1 l6 l7 w o w' hF; exact none_ne (show none = some _ from hF)
  | succ n9 ih =>
    intro l0 l1 l6 l7 w o w' hF kx
    replace hF : B_L_burns_6 (L_L_burns_6 n9) l0 l1 l6 l7 w = some (o, w') := hF
    unfold B_L_burns_6 at hF
    refine x_iload (pc := 6) C 7 dL_burns_6 rfl ?_
    refine x_aload_n (pc := 8) C 2 dL_burns_8 rfl rfl ?_
    refine x_bipush (pc := 9) C 9 dL_burns_9 kb_9 ?_
    refine w_ald (pc := 11) C (vA_m 0 (by decide)) hF dL_burns_11 (fun x1 hF => ?_)
    refine x_icmp_ge (pc := 12) C 61 dL_burns_12 rfl hF (fun c12 hF => ?_) (fun c12 hF => ?_)
    · obtain ⟨rfl, rfl⟩ := ret_eq hF
      exact x_sub [0, 1, 2, 3, 4, 5, 6, 7] rfl kx
    · refine x_iload (pc := 15) C 6 dL_burns_15 rfl ?_
      refine x_aload (pc := 17) C 4 dL_burns_17 rfl ?_
      refine x_iload (pc := 19) C 7 dL_burns_19 rfl ?_
      refine w_ald (pc := 21) C (vA_m 3 (by decide)) hF dL_burns_21 (fun x2 hF => ?_)
      refine x_aload_n (pc := 22) C 3 dL_burns_22 rfl rfl ?_
      refine cS1_2 (pc := 23) (val := Value.int) C hF (fun _ _ h => c_L_where l _ b _ h) sm_L_where wq112 rfl rfl ⟨Nat.le_of_ble_eq_true rfl, Nat.le_of_ble_eq_true rfl⟩ (Nat.le_of_ble_eq_true rfl) ⟨Nat.zero_le _, Nat.zero_le _⟩ dL_burns_23 (fun x4 w3 hF => ?_)
      refine x_iload_n (pc := 26) C 0 dL_burns_26 rfl rfl ?_
      obtain ⟨o6, w5, hL, hF⟩ := bd_some hF
      refine x_join (P1 := CW G b w5) (pcJ := 52) (lvJ := [(0, .int (l0)), (1, .int (l1)), (2, .ref (ra b 10 0)), (3, .ref (ra b 10 2)), (4, .ref (ra b 10 3)), (5, .ref (ra b 10 5)), (6, .int (l6)), (7, .int (l7))]) (stJ := [.int (o6), .int (l6)]) 0 0 ?_ (fun kJ52 => ?_)
      · refine x_iadd (pc := 52) C dL_burns_52 ?_
        refine x_istore (pc := 53) C [(6, .int ((l6 + o6))), (0, .int (l0)), (1, .int (l1)), (2, .ref (ra b 10 0)), (3, .ref (ra b 10 2)), (4, .ref (ra b 10 3)), (5, .ref (ra b 10 5)), (7, .int (l7))] dL_burns_53 (by decide) rfl ?_
        refine x_iinc (pc := 55) C 7 [(7, .int ((l7 + 1))), (6, .int ((l6 + o6))), (0, .int (l0)), (1, .int (l1)), (2, .ref (ra b 10 0)), (3, .ref (ra b 10 2)), (4, .ref (ra b 10 3)), (5, .ref (ra b 10 5))] dL_burns_55 rfl rfl (by decide) rfl ?_
        refine x_goto (pc := 58) C 6 dL_burns_58 rfl ?_
        exact x_sub [2, 3, 4, 5, 6, 7, 1, 0] rfl (ih _ _ _ _ _ _ _ hF kx)
      · replace hF := hL
        refine x_icmp_ne (pc := 27) C 51 dL_burns_27 rfl hF (fun c11 hF => ?_) (fun c11 hF => ?_)
        · refine x_iconst (pc := 51) C 0 dL_burns_51 ki_0 ?_
          obtain ⟨rfl, rfl⟩ := ret_eq hF
          exact x_sub [0, 1, 2, 3, 4, 5, 6, 7] rfl kJ52
        · refine x_aload (pc := 30) C 4 dL_burns_30 rfl ?_
          refine x_iload (pc := 32) C 7 dL_burns_32 rfl ?_
          refine w_ald (pc := 34) C (vA_m 3 (by decide)) hF dL_burns_34 (fun x7 hF => ?_)
          refine x_iload_n (pc := 35) C 1 dL_burns_35 rfl rfl ?_
          refine x_iconst (pc := 36) C (-1) dL_burns_36 ki_m1 ?_
          refine x_aload_n (pc := 37) C 2 dL_burns_37 rfl rfl ?_
          refine x_aload_n (pc := 38) C 3 dL_burns_38 rfl rfl ?_
          refine x_aload (pc := 39) C 5 dL_burns_39 rfl ?_
          refine cS1_6 (pc := 41) (val := Value.int) C hF (fun _ _ h => c_L_may l _ b _ _ _ h) sm_L_may wq306 rfl rfl ⟨Nat.le_of_ble_eq_true rfl, Nat.le_of_ble_eq_true rfl⟩ (Nat.le_of_ble_eq_true rfl) ⟨Nat.zero_le _, Nat.zero_le _⟩ dL_burns_41 (fun x9 w8 hF => ?_)
          refine x_if_eq (pc := 44) C 51 dL_burns_44 rfl hF (fun c10 hF => ?_) (fun c10 hF => ?_)
          · refine x_iconst (pc := 51) C 0 dL_burns_51 ki_0 ?_
            obtain ⟨rfl, rfl⟩ := ret_eq hF
            exact x_sub [0, 1, 2, 3, 4, 5, 6, 7] rfl kJ52
          · refine x_iconst (pc := 47) C 1 dL_burns_47 ki_1 ?_
            refine x_goto (pc := 48) C 52 dL_burns_48 rfl ?_
            obtain ⟨rfl, rfl⟩ := ret_eq hF
            exact x_sub [0, 1, 2, 3, 4, 5, 6, 7] rfl kJ52
set_option maxRecDepth 4000 in
theorem c_L_burns (l : Launch) (G : xG) (b : Nat) (a1 : Int32) (a2 : Int32) {w w' : xWt} {v : Int32} (hF : F_L_burns a1 a2 w = some (v, w')) : xMet l G b yL_burns cL_burns 8 (some .int) (xR 2) [.int (a1), .int (a2), .ref (ra b 10 0), .ref (ra b 10 2), .ref (ra b 10 3), .ref (ra b 10 5)] (CW G b w) (some (.int v)) (CW G b w') 0 0 := by
  refine x_of (own := RL) rfl (plainFor_of_name pn_L) (Nat.le_of_ble_eq_true rfl) ?_
  intro p e s m args below meth c ha C hr _
  unfold F_L_burns at hF
  refine x_iconst (pc := 0) C 0 dL_burns_0 ki_0 ?_
  refine x_istore (pc := 1) C [(6, .int (0)), (0, .int (a1)), (1, .int (a2)), (2, .ref (ra b 10 0)), (3, .ref (ra b 10 2)), (4, .ref (ra b 10 3)), (5, .ref (ra b 10 5))] dL_burns_1 (by decide) rfl ?_
  refine x_iconst (pc := 3) C 0 dL_burns_3 ki_0 ?_
  refine x_istore (pc := 4) C [(7, .int (0)), (6, .int (0)), (0, .int (a1)), (1, .int (a2)), (2, .ref (ra b 10 0)), (3, .ref (ra b 10 2)), (4, .ref (ra b 10 3)), (5, .ref (ra b 10 5))] dL_burns_4 (by decide) rfl ?_
  obtain ⟨o13, w14, hL, hF⟩ := bd_some hF
  refine x_sub [2, 3, 4, 5, 6, 7, 1, 0] rfl (s_L_burns_6 C  _ _ _ _ _ _ _ _ hL ?_)
  refine x_iload (pc := 61) C 6 dL_burns_61 rfl ?_
  obtain ⟨rfl, rfl⟩ := ret_eq hF
  exact x_iret (pc := 63) C hr rfl (fun _ h => h) dL_burns_63
set_option maxRecDepth 4000 in
theorem s_L_heap_6 (C : xC p m c s args meth G b cL_heap 6 RL)  : ∀ (n9 : Nat) (l0 : Int32) (l4 : Int32) (l5 : Int32) (w : xWt) (o : (Int32 × Int32)) (w' : xWt), L_L_heap_6 n9 l0 l4 l5 w = some (o, w') → xW p l e (xR 1) s m args below meth c Q b 6 (CW G b w') 0 0 43 [(0, .int (l0)), (1, .ref (ra b 10 0)), (2, .ref (ra b 10 2)), (3, .ref (ra b 10 3)), (4, .int (o.1)), (5, .int (o.2))] [] → xW p l e (xR 1) s m args below meth c Q b 6 (CW G b w) 0 0 6 [(0, .int (l0)), (1, .ref (ra b 10 0)), (2, .ref (ra b 10 2)), (3, .ref (ra b 10 3)), (4, .int (l4)), (5, .int (l5))] [] := by
  intro n9
  induction n9 with
  | zero => intro l0 l4 l5 w o w' hF; exact none_ne (show none = some _ from hF)
  | succ n9 ih =>
    intro l0 l4 l5 w o w' hF kx
    replace hF : B_L_heap_6 (L_L_heap_6 n9) l0 l4 l5 w = some (o, w') := hF
    unfold B_L_heap_6 at hF
    refine x_iload (pc := 6) C 5 dL_heap_6 rfl ?_
    refine x_aload_n (pc := 8) C 1 dL_heap_8 rfl rfl ?_
    refine x_bipush (pc := 9) C 9 dL_heap_9 kb_9 ?_
    refine w_ald (pc := 11) C (vA_m 0 (by decide)) hF dL_heap_11 (fun x1 hF => ?_)
    refine x_icmp_ge (pc := 12) C 43 dL_heap_12 rfl hF (fun c8 hF => ?_) (fun c8 hF => ?_)
    · obtain ⟨rfl, rfl⟩ := ret_eq hF
      exact x_sub [0, 1, 2, 3, 4, 5] rfl kx
    · refine x_iload (pc := 15) C 4 dL_heap_15 rfl ?_
      refine x_aload_n (pc := 17) C 3 dL_heap_17 rfl rfl ?_
      refine x_iload (pc := 18) C 5 dL_heap_18 rfl ?_
      refine w_ald (pc := 20) C (vA_m 3 (by decide)) hF dL_heap_20 (fun x2 hF => ?_)
      refine x_aload_n (pc := 21) C 2 dL_heap_21 rfl rfl ?_
      refine cS1_2 (pc := 22) (val := Value.int) C hF (fun _ _ h => c_L_where l _ b _ h) sm_L_where wq112 rfl rfl ⟨Nat.le_of_ble_eq_true rfl, Nat.le_of_ble_eq_true rfl⟩ (Nat.le_of_ble_eq_true rfl) ⟨Nat.zero_le _, Nat.zero_le _⟩ dL_heap_22 (fun x4 w3 hF => ?_)
      refine x_iload_n (pc := 25) C 0 dL_heap_25 rfl rfl ?_
      obtain ⟨o6, w5, hL, hF⟩ := bd_some hF
      refine x_join (P1 := CW G b w5) (pcJ := 34) (lvJ := [(0, .int (l0)), (1, .ref (ra b 10 0)), (2, .ref (ra b 10 2)), (3, .ref (ra b 10 3)), (4, .int (l4)), (5, .int (l5))]) (stJ := [.int (o6), .int (l4)]) 0 0 ?_ (fun kJ34 => ?_)
      · refine x_iadd (pc := 34) C dL_heap_34 ?_
        refine x_istore (pc := 35) C [(4, .int ((l4 + o6))), (0, .int (l0)), (1, .ref (ra b 10 0)), (2, .ref (ra b 10 2)), (3, .ref (ra b 10 3)), (5, .int (l5))] dL_heap_35 (by decide) rfl ?_
        refine x_iinc (pc := 37) C 5 [(5, .int ((l5 + 1))), (4, .int ((l4 + o6))), (0, .int (l0)), (1, .ref (ra b 10 0)), (2, .ref (ra b 10 2)), (3, .ref (ra b 10 3))] dL_heap_37 rfl rfl (by decide) rfl ?_
        refine x_goto (pc := 40) C 6 dL_heap_40 rfl ?_
        exact x_sub [2, 3, 4, 5, 1, 0] rfl (ih _ _ _ _ _ _ hF kx)
      · replace hF := hL
        refine x_icmp_ne (pc := 26) C 33 dL_heap_26 rfl hF (fun c7 hF => ?_) (fun c7 hF => ?_)
        · refine x_iconst (pc := 33) C 0 dL_heap_33 ki_0 ?_
          obtain ⟨rfl, rfl⟩ := ret_eq hF
          exact x_sub [0, 1, 2, 3, 4, 5] rfl kJ34
        · refine x_iconst (pc := 29) C 1 dL_heap_29 ki_1 ?_
          refine x_goto (pc := 30) C 34 dL_heap_30 rfl ?_
          obtain ⟨rfl, rfl⟩ := ret_eq hF
          exact x_sub [0, 1, 2, 3, 4, 5] rfl kJ34
set_option maxRecDepth 4000 in
theorem c_L_heap (l : Launch) (G : xG) (b : Nat) (a1 : Int32) {w w' : xWt} {v : Int32} (hF : F_L_heap a1 w = some (v, w')) : xMet l G b yL_heap cL_heap 6 (some .int) (xR 1) [.int (a1), .ref (ra b 10 0), .ref (ra b 10 2), .ref (ra b 10 3)] (CW G b w) (some (.int v)) (CW G b w') 0 0 := by
  refine x_of (own := RL) rfl (plainFor_of_name pn_L) (Nat.le_of_ble_eq_true rfl) ?_
  intro p e s m args below meth c ha C hr _
  unfold F_L_heap at hF
  refine x_iconst (pc := 0) C 0 dL_heap_0 ki_0 ?_
  refine x_istore (pc := 1) C [(4, .int (0)), (0, .int (a1)), (1, .ref (ra b 10 0)), (2, .ref (ra b 10 2)), (3, .ref (ra b 10 3))] dL_heap_1 (by decide) rfl ?_
  refine x_iconst (pc := 3) C 0 dL_heap_3 ki_0 ?_
  refine x_istore (pc := 4) C [(5, .int (0)), (4, .int (0)), (0, .int (a1)), (1, .ref (ra b 10 0)), (2, .ref (ra b 10 2)), (3, .ref (ra b 10 3))] dL_heap_4 (by decide) rfl ?_
  obtain ⟨o9, w10, hL, hF⟩ := bd_some hF
  refine x_sub [2, 3, 4, 5, 1, 0] rfl (s_L_heap_6 C  _ _ _ _ _ _ _ hL ?_)
  refine x_iload (pc := 43) C 4 dL_heap_43 rfl ?_
  obtain ⟨rfl, rfl⟩ := ret_eq hF
  exact x_iret (pc := 45) C hr rfl (fun _ h => h) dL_heap_45
set_option maxRecDepth 4000 in
theorem c_L_branch (l : Launch) (G : xG) (b : Nat) (a1 : Int32) {w w' : xWt} {v : Int32} (hF : F_L_branch a1 w = some (v, w')) : xMet l G b yL_branch cL_branch 2 (some .int) (xR 0) [.int (a1), .ref (ra b 10 2)] (CW G b w) (some (.int v)) (CW G b w') 0 0 := by
  refine x_of (own := RL) rfl (plainFor_of_name pn_L) (Nat.le_of_ble_eq_true rfl) ?_
  intro p e s m args below meth c ha C hr _
  unfold F_L_branch at hF
  refine x_aload_n (pc := 0) C 1 dL_branch_0 rfl rfl ?_
  refine x_iload_n (pc := 1) C 0 dL_branch_1 rfl rfl ?_
  refine w_ald (pc := 2) C (vA_m 2 (by decide)) hF dL_branch_2 (fun x1 hF => ?_)
  refine x_bipush (pc := 3) C 10 dL_branch_3 kb_10 ?_
  refine y_idiv (pc := 5) C dL_branch_5 hF (fun x2 hF => ?_)
  refine x_bipush (pc := 6) C 12 dL_branch_6 kb_12 ?_
  refine y_irem (pc := 8) C dL_branch_8 hF (fun x3 hF => ?_)
  obtain ⟨rfl, rfl⟩ := ret_eq hF
  exact x_iret (pc := 9) C hr rfl (fun _ h => h) dL_branch_9
theorem c_L_cell (l : Launch) (G : xG) (b sb L : Nat) (xs : Nat → Int32) (a2 : Int32) {w w' : xWt} {v : Int32} (hF : F_L_cell xs L a2 w = some (v, w')) : xMetS l G b sb L xs yL_cell cL_cell 2 (some .int) (xR 0) [.ref (sb), .int (a2)] (CW G b w) (some (.int v)) (CW G b w') 0 0 := by
  refine x_ofS (own := RL) rfl (plainFor_of_name pn_L) (Nat.le_of_ble_eq_true rfl) ?_
  intro p e s m args below meth c ha C hr hS
  unfold F_L_cell at hF
  refine x_iload_n (pc := 0) C 1 dL_cell_0 rfl rfl ?_
  refine x_aload_n (pc := 1) C 0 dL_cell_1 rfl rfl ?_
  refine x_slen (pc := 2) C hS dL_cell_2 ?_
  obtain ⟨o2, w1, hL, hF⟩ := bd_some hF
  refine x_join (P1 := CW G b w1) (pcJ := 18) (lvJ := [(0, .ref (sb)), (1, .int (a2))]) (stJ := [.int (o2)]) 0 0 ?_ (fun kJ18 => ?_)
  · obtain ⟨rfl, rfl⟩ := ret_eq hF
    exact x_iret (pc := 18) C hr rfl (fun _ h => h) dL_cell_18
  · replace hF := hL
    refine x_icmp_ge (pc := 3) C 12 dL_cell_3 rfl hF (fun c4 hF => ?_) (fun c4 hF => ?_)
    · refine x_ldc (pc := 12) C wq484 dL_cell_12 ?_
      refine x_iload_n (pc := 14) C 1 dL_cell_14 rfl rfl ?_
      refine x_iconst (pc := 15) C 1 dL_cell_15 ki_1 ?_
      refine x_iadd (pc := 16) C dL_cell_16 ?_
      refine x_imul (pc := 17) C dL_cell_17 ?_
      obtain ⟨rfl, rfl⟩ := ret_eq hF
      exact x_sub [0, 1] rfl kJ18
    · refine x_aload_n (pc := 6) C 0 dL_cell_6 rfl rfl ?_
      refine x_iload_n (pc := 7) C 1 dL_cell_7 rfl rfl ?_
      refine x_sld (pc := 8) C hS hF dL_cell_8 (fun x3 hF => ?_)
      refine x_goto (pc := 9) C 18 dL_cell_9 rfl ?_
      obtain ⟨rfl, rfl⟩ := ret_eq hF
      exact x_sub [0, 1] rfl kJ18
set_option maxRecDepth 4000 in
theorem s_L_children_4 (C : xC p m c s args meth G b cL_children 3 RL)  : ∀ (n9 : Nat) (l1 : Int32) (l2 : Int32) (w : xWt) (o : (Int32 × Int32)) (w' : xWt), L_L_children_4 n9 l1 l2 w = some (o, w') → xW p l e (xR 0) s m args below meth c Q b 3 (CW G b w') 0 0 24 [(0, .ref (ra b 10 4)), (1, .int (o.1)), (2, .int (o.2))] [] → xW p l e (xR 0) s m args below meth c Q b 3 (CW G b w) 0 0 4 [(0, .ref (ra b 10 4)), (1, .int (l1)), (2, .int (l2))] [] := by
  intro n9
  induction n9 with
  | zero => intro l1 l2 w o w' hF; exact none_ne (show none = some _ from hF)
  | succ n9 ih =>
    intro l1 l2 w o w' hF kx
    replace hF : B_L_children_4 (L_L_children_4 n9) l1 l2 w = some (o, w') := hF
    unfold B_L_children_4 at hF
    refine x_iload_n (pc := 4) C 2 dL_children_4 rfl rfl ?_
    refine x_iconst (pc := 5) C 5 dL_children_5 ki_5 ?_
    refine x_icmp_ge (pc := 6) C 24 dL_children_6 rfl hF (fun c2 hF => ?_) (fun c2 hF => ?_)
    · obtain ⟨rfl, rfl⟩ := ret_eq hF
      exact x_sub [0, 1, 2] rfl kx
    · refine x_iload_n (pc := 9) C 1 dL_children_9 rfl rfl ?_
      refine x_aload_n (pc := 10) C 0 dL_children_10 rfl rfl ?_
      refine x_bipush (pc := 11) C 6 dL_children_11 kb_6 ?_
      refine x_iload_n (pc := 13) C 2 dL_children_13 rfl rfl ?_
      refine x_imul (pc := 14) C dL_children_14 ?_
      refine w_ald (pc := 15) C (vA_m 4 (by decide)) hF dL_children_15 (fun x1 hF => ?_)
      refine x_iadd (pc := 16) C dL_children_16 ?_
      refine x_istore_n (pc := 17) C [(1, .int ((l1 + x1))), (0, .ref (ra b 10 4)), (2, .int (l2))] dL_children_17 rfl (by decide) rfl ?_
      refine x_iinc (pc := 18) C 2 [(2, .int ((l2 + 1))), (1, .int ((l1 + x1))), (0, .ref (ra b 10 4))] dL_children_18 rfl rfl (by decide) rfl ?_
      refine x_goto (pc := 21) C 4 dL_children_21 rfl ?_
      exact x_sub [2, 1, 0] rfl (ih _ _ _ _ _ hF kx)
set_option maxRecDepth 4000 in
theorem c_L_children (l : Launch) (G : xG) (b : Nat)  {w w' : xWt} {v : Int32} (hF : F_L_children w = some (v, w')) : xMet l G b yL_children cL_children 3 (some .int) (xR 0) [.ref (ra b 10 4)] (CW G b w) (some (.int v)) (CW G b w') 0 0 := by
  refine x_of (own := RL) rfl (plainFor_of_name pn_L) (Nat.le_of_ble_eq_true rfl) ?_
  intro p e s m args below meth c ha C hr _
  unfold F_L_children at hF
  refine x_iconst (pc := 0) C 0 dL_children_0 ki_0 ?_
  refine x_istore_n (pc := 1) C [(1, .int (0)), (0, .ref (ra b 10 4))] dL_children_1 rfl (by decide) rfl ?_
  refine x_iconst (pc := 2) C 0 dL_children_2 ki_0 ?_
  refine x_istore_n (pc := 3) C [(2, .int (0)), (1, .int (0)), (0, .ref (ra b 10 4))] dL_children_3 rfl (by decide) rfl ?_
  obtain ⟨o3, w4, hL, hF⟩ := bd_some hF
  refine x_sub [2, 1, 0] rfl (s_L_children_4 C  _ _ _ _ _ _ hL ?_)
  refine x_iload_n (pc := 24) C 1 dL_children_24 rfl rfl ?_
  obtain ⟨rfl, rfl⟩ := ret_eq hF
  exact x_iret (pc := 25) C hr rfl (fun _ h => h) dL_children_25
set_option maxRecDepth 4000 in
theorem s_L_late_4 (C : xC p m c s args meth G b cL_late 4 RL)  : ∀ (n9 : Nat) (l2 : Int32) (l3 : Int32) (w : xWt) (o : (Int32 × Int32)) (w' : xWt), L_L_late_4 n9 l2 l3 w = some (o, w') → xW p l e (xR 0) s m args below meth c Q b 4 (CW G b w') 0 0 51 [(0, .ref (ra b 10 0)), (1, .ref (ra b 10 4)), (2, .int (o.1)), (3, .int (o.2))] [] → xW p l e (xR 0) s m args below meth c Q b 4 (CW G b w) 0 0 4 [(0, .ref (ra b 10 0)), (1, .ref (ra b 10 4)), (2, .int (l2)), (3, .int (l3))] [] := by
  intro n9
  induction n9 with
  | zero => intro l2 l3 w o w' hF; exact none_ne (show none = some _ from hF)
  | succ n9 ih =>
    intro l2 l3 w o w' hF kx
    replace hF : B_L_late_4 (L_L_late_4 n9) l2 l3 w = some (o, w') := hF
    unfold B_L_late_4 at hF
    refine x_iload_n (pc := 4) C 3 dL_late_4 rfl rfl ?_
    refine x_iconst (pc := 5) C 5 dL_late_5 ki_5 ?_
    refine x_icmp_ge (pc := 6) C 51 dL_late_6 rfl hF (fun c8 hF => ?_) (fun c8 hF => ?_)
    · obtain ⟨rfl, rfl⟩ := ret_eq hF
      exact x_sub [0, 1, 2, 3] rfl kx
    · refine x_iload_n (pc := 9) C 2 dL_late_9 rfl rfl ?_
      refine x_aload_n (pc := 10) C 1 dL_late_10 rfl rfl ?_
      refine x_bipush (pc := 11) C 6 dL_late_11 kb_6 ?_
      refine x_iload_n (pc := 13) C 3 dL_late_13 rfl rfl ?_
      refine x_imul (pc := 14) C dL_late_14 ?_
      refine x_iconst (pc := 15) C 1 dL_late_15 ki_1 ?_
      refine x_iadd (pc := 16) C dL_late_16 ?_
      refine w_ald (pc := 17) C (vA_m 4 (by decide)) hF dL_late_17 (fun x1 hF => ?_)
      refine x_iconst (pc := 18) C 1 dL_late_18 ki_1 ?_
      obtain ⟨o3, w2, hL, hF⟩ := bd_some hF
      refine x_join (P1 := CW G b w2) (pcJ := 43) (lvJ := [(0, .ref (ra b 10 0)), (1, .ref (ra b 10 4)), (2, .int (l2)), (3, .int (l3))]) (stJ := [.int (o3), .int (l2)]) 0 0 ?_ (fun kJ43 => ?_)
      · refine x_ior (pc := 43) C dL_late_43 ?_
        refine x_istore_n (pc := 44) C [(2, .int ((l2 ||| o3))), (0, .ref (ra b 10 0)), (1, .ref (ra b 10 4)), (3, .int (l3))] dL_late_44 rfl (by decide) rfl ?_
        refine x_iinc (pc := 45) C 3 [(3, .int ((l3 + 1))), (2, .int ((l2 ||| o3))), (0, .ref (ra b 10 0)), (1, .ref (ra b 10 4))] dL_late_45 rfl rfl (by decide) rfl ?_
        refine x_goto (pc := 48) C 4 dL_late_48 rfl ?_
        exact x_sub [2, 3, 1, 0] rfl (ih _ _ _ _ _ hF kx)
      · replace hF := hL
        refine x_icmp_ne (pc := 19) C 42 dL_late_19 rfl hF (fun c7 hF => ?_) (fun c7 hF => ?_)
        · refine x_iconst (pc := 42) C 0 dL_late_42 ki_0 ?_
          obtain ⟨rfl, rfl⟩ := ret_eq hF
          exact x_sub [0, 1, 2, 3] rfl kJ43
        · refine x_aload_n (pc := 22) C 1 dL_late_22 rfl rfl ?_
          refine x_bipush (pc := 23) C 6 dL_late_23 kb_6 ?_
          refine x_iload_n (pc := 25) C 3 dL_late_25 rfl rfl ?_
          refine x_imul (pc := 26) C dL_late_26 ?_
          refine x_iconst (pc := 27) C 2 dL_late_27 ki_2 ?_
          refine x_iadd (pc := 28) C dL_late_28 ?_
          refine w_ald (pc := 29) C (vA_m 4 (by decide)) hF dL_late_29 (fun x4 hF => ?_)
          refine x_aload_n (pc := 30) C 0 dL_late_30 rfl rfl ?_
          refine x_iconst (pc := 31) C 0 dL_late_31 ki_0 ?_
          refine w_ald (pc := 32) C (vA_m 0 (by decide)) hF dL_late_32 (fun x5 hF => ?_)
          refine x_icmp_eq (pc := 33) C 42 dL_late_33 rfl hF (fun c6 hF => ?_) (fun c6 hF => ?_)
          · refine x_iconst (pc := 42) C 0 dL_late_42 ki_0 ?_
            obtain ⟨rfl, rfl⟩ := ret_eq hF
            exact x_sub [0, 1, 2, 3] rfl kJ43
          · refine x_iconst (pc := 36) C 1 dL_late_36 ki_1 ?_
            refine x_iload_n (pc := 37) C 3 dL_late_37 rfl rfl ?_
            refine x_ishl (pc := 38) C dL_late_38 ?_
            refine x_goto (pc := 39) C 43 dL_late_39 rfl ?_
            obtain ⟨rfl, rfl⟩ := ret_eq hF
            exact x_sub [0, 1, 2, 3] rfl kJ43
set_option maxRecDepth 4000 in
theorem c_L_late (l : Launch) (G : xG) (b : Nat)  {w w' : xWt} {v : Int32} (hF : F_L_late w = some (v, w')) : xMet l G b yL_late cL_late 4 (some .int) (xR 0) [.ref (ra b 10 0), .ref (ra b 10 4)] (CW G b w) (some (.int v)) (CW G b w') 0 0 := by
  refine x_of (own := RL) rfl (plainFor_of_name pn_L) (Nat.le_of_ble_eq_true rfl) ?_
  intro p e s m args below meth c ha C hr _
  unfold F_L_late at hF
  refine x_iconst (pc := 0) C 0 dL_late_0 ki_0 ?_
  refine x_istore_n (pc := 1) C [(2, .int (0)), (0, .ref (ra b 10 0)), (1, .ref (ra b 10 4))] dL_late_1 rfl (by decide) rfl ?_
  refine x_iconst (pc := 2) C 0 dL_late_2 ki_0 ?_
  refine x_istore_n (pc := 3) C [(3, .int (0)), (2, .int (0)), (0, .ref (ra b 10 0)), (1, .ref (ra b 10 4))] dL_late_3 rfl (by decide) rfl ?_
  obtain ⟨o9, w10, hL, hF⟩ := bd_some hF
  refine x_sub [2, 3, 1, 0] rfl (s_L_late_4 C  _ _ _ _ _ _ hL ?_)
  refine x_iload_n (pc := 51) C 2 dL_late_51 rfl rfl ?_
  obtain ⟨rfl, rfl⟩ := ret_eq hF
  exact x_iret (pc := 52) C hr rfl (fun _ h => h) dL_late_52
set_option maxRecDepth 4000 in
theorem c_L_low (l : Launch) (G : xG) (b : Nat) (a1 : Int32) (a2 : Int32) {w w' : xWt} {v : Int32} (hF : F_L_low a1 a2 w = some (v, w')) : xMet l G b yL_low cL_low 2 (some .int) (xR 0) [.int (a1), .int (a2)] (CW G b w) (some (.int v)) (CW G b w') 0 0 := by
  refine x_of (own := RL) rfl (plainFor_of_name pn_L) (Nat.le_of_ble_eq_true rfl) ?_
  intro p e s m args below meth c ha C hr _
  unfold F_L_low at hF
  refine x_iload_n (pc := 0) C 0 dL_low_0 rfl rfl ?_
  refine x_ldc (pc := 1) C wq488 dL_low_1 ?_
  refine x_iand (pc := 3) C dL_low_3 ?_
  refine x_iload_n (pc := 4) C 1 dL_low_4 rfl rfl ?_
  refine y_irem (pc := 5) C dL_low_5 hF (fun x1 hF => ?_)
  obtain ⟨rfl, rfl⟩ := ret_eq hF
  exact x_iret (pc := 6) C hr rfl (fun _ h => h) dL_low_6
set_option maxRecDepth 4000 in
theorem c_L_put (l : Launch) (G : xG) (b : Nat) (a1 : Int32) (a2 : Int32) {w w' : xWt}  (hF : F_L_put a1 a2 w = some ((), w')) : xMet l G b yL_put cL_put 3 none (xR 1) [.int (a1), .int (a2), .ref (ra b 10 2)] (CW G b w) none (CW G b w') 0 0 := by
  refine x_of (own := RL) rfl (plainFor_of_name pn_L) (Nat.le_of_ble_eq_true rfl) ?_
  intro p e s m args below meth c ha C hr _
  unfold F_L_put at hF
  refine x_aload_n (pc := 0) C 2 dL_put_0 rfl rfl ?_
  refine x_iload_n (pc := 1) C 0 dL_put_1 rfl rfl ?_
  refine x_dup2 (pc := 2) C dL_put_2 rfl rfl ?_
  refine w_ald (pc := 3) C (vA_m 2 (by decide)) hF dL_put_3 (fun x1 hF => ?_)
  refine x_bipush (pc := 4) C 120 dL_put_4 kb_120 ?_
  refine x_iload_n (pc := 6) C 1 dL_put_6 rfl rfl ?_
  refine x_iload_n (pc := 7) C 0 dL_put_7 rfl rfl ?_
  refine x_aload_n (pc := 8) C 2 dL_put_8 rfl rfl ?_
  refine cS1_2 (pc := 9) (val := Value.int) C hF (fun _ _ h => c_L_where l _ b _ h) sm_L_where wq112 rfl rfl ⟨Nat.le_of_ble_eq_true rfl, Nat.le_of_ble_eq_true rfl⟩ (Nat.le_of_ble_eq_true rfl) ⟨Nat.zero_le _, Nat.zero_le _⟩ dL_put_9 (fun x3 w2 hF => ?_)
  refine x_isub (pc := 12) C dL_put_12 ?_
  refine x_imul (pc := 13) C dL_put_13 ?_
  refine x_iadd (pc := 14) C dL_put_14 ?_
  refine w_ast (pc := 15) C (vA_m 2 (by decide)) hF dL_put_15 (fun w4 hF => ?_)
  obtain ⟨-, rfl⟩ := ret_eq hF
  exact x_vret (pc := 16) C hr (fun _ h => h) dL_put_16
set_option maxRecDepth 4000 in
theorem s_L_without_23 (C : xC p m c s args meth G b cL_without 4 RL)  : ∀ (n9 : Nat) (l0 : Int32) (l3 : Int32) (w : xWt) (o : (Int32)) (w' : xWt), L_L_without_23 n9 l0 l3 w = some (o, w') → xW p l e (xR 0) s m args below meth c Q b 4 (CW G b w') 0 0 50 [(0, .int (l0)), (1, .ref (ra b 10 4)), (2, .ref (ra b 10 5)), (3, .int (o))] [] → xW p l e (xR 0) s m args below meth c Q b 4 (CW G b w) 0 0 23 [(0, .int (l0)), (1, .ref (ra b 10 4)), (2, .ref (ra b 10 5)), (3, .int (l3))] [] := by
  intro n9
  induction n9 with
  | zero => intro l0 l3 w o w' hF; exact none_ne (show none = some _ from hF)
  | succ n9 ih =>
    intro l0 l3 w o w' hF kx
    replace hF : B_L_without_23 (L_L_without_23 n9) l0 l3 w = some (o, w') := hF
    unfold B_L_without_23 at hF
    refine x_iload_n (pc := 23) C 3 dL_without_23 rfl rfl ?_
    refine x_bipush (pc := 24) C 6 dL_without_24 kb_6 ?_
    refine x_iload_n (pc := 26) C 0 dL_without_26 rfl rfl ?_
    refine x_imul (pc := 27) C dL_without_27 ?_
    refine x_bipush (pc := 28) C 6 dL_without_28 kb_6 ?_
    refine x_iadd (pc := 30) C dL_without_30 ?_
    refine x_icmp_ge (pc := 31) C 50 dL_without_31 rfl hF (fun c5 hF => ?_) (fun c5 hF => ?_)
    · obtain ⟨rfl, rfl⟩ := ret_eq hF
      exact x_sub [0, 1, 2, 3] rfl kx
    · refine x_aload_n (pc := 34) C 2 dL_without_34 rfl rfl ?_
      refine x_iload_n (pc := 35) C 3 dL_without_35 rfl rfl ?_
      refine x_iconst (pc := 36) C 0 dL_without_36 ki_0 ?_
      refine w_ast (pc := 37) C (vA_m 5 (by decide)) hF dL_without_37 (fun w3 hF => ?_)
      refine x_aload_n (pc := 38) C 2 dL_without_38 rfl rfl ?_
      refine x_iload_n (pc := 39) C 3 dL_without_39 rfl rfl ?_
      refine x_iconst (pc := 40) C 1 dL_without_40 ki_1 ?_
      refine x_iadd (pc := 41) C dL_without_41 ?_
      refine x_iconst (pc := 42) C (-1) dL_without_42 ki_m1 ?_
      refine w_ast (pc := 43) C (vA_m 5 (by decide)) hF dL_without_43 (fun w4 hF => ?_)
      refine x_iinc (pc := 44) C 3 [(3, .int ((l3 + 2))), (0, .int (l0)), (1, .ref (ra b 10 4)), (2, .ref (ra b 10 5))] dL_without_44 rfl rfl (by decide) rfl ?_
      refine x_goto (pc := 47) C 23 dL_without_47 rfl ?_
      exact x_sub [1, 2, 3, 0] rfl (ih _ _ _ _ _ hF kx)
set_option maxRecDepth 4000 in
theorem c_L_without (l : Launch) (G : xG) (b : Nat) (a1 : Int32) {w w' : xWt}  (hF : F_L_without a1 w = some ((), w')) : xMet l G b yL_without cL_without 4 none (xR 0) [.int (a1), .ref (ra b 10 4), .ref (ra b 10 5)] (CW G b w) none (CW G b w') 0 0 := by
  refine x_of (own := RL) rfl (plainFor_of_name pn_L) (Nat.le_of_ble_eq_true rfl) ?_
  intro p e s m args below meth c ha C hr _
  unfold F_L_without at hF
  refine x_aload_n (pc := 0) C 1 dL_without_0 rfl rfl ?_
  refine x_bipush (pc := 1) C 6 dL_without_1 kb_6 ?_
  refine x_iload_n (pc := 3) C 0 dL_without_3 rfl rfl ?_
  refine x_imul (pc := 4) C dL_without_4 ?_
  refine x_iconst (pc := 5) C 1 dL_without_5 ki_1 ?_
  refine x_iadd (pc := 6) C dL_without_6 ?_
  refine x_iconst (pc := 7) C 0 dL_without_7 ki_0 ?_
  refine w_ast (pc := 8) C (vA_m 4 (by decide)) hF dL_without_8 (fun w1 hF => ?_)
  refine x_aload_n (pc := 9) C 1 dL_without_9 rfl rfl ?_
  refine x_bipush (pc := 10) C 6 dL_without_10 kb_6 ?_
  refine x_iload_n (pc := 12) C 0 dL_without_12 rfl rfl ?_
  refine x_imul (pc := 13) C dL_without_13 ?_
  refine x_iconst (pc := 14) C 2 dL_without_14 ki_2 ?_
  refine x_iadd (pc := 15) C dL_without_15 ?_
  refine x_iconst (pc := 16) C (-1) dL_without_16 ki_m1 ?_
  refine w_ast (pc := 17) C (vA_m 4 (by decide)) hF dL_without_17 (fun w2 hF => ?_)
  refine x_bipush (pc := 18) C 6 dL_without_18 kb_6 ?_
  refine x_iload_n (pc := 20) C 0 dL_without_20 rfl rfl ?_
  refine x_imul (pc := 21) C dL_without_21 ?_
  refine x_istore_n (pc := 22) C [(3, .int ((6 * a1))), (0, .int (a1)), (1, .ref (ra b 10 4)), (2, .ref (ra b 10 5))] dL_without_22 rfl (by decide) rfl ?_
  obtain ⟨o6, w7, hL, hF⟩ := bd_some hF
  refine x_sub [1, 2, 3, 0] rfl (s_L_without_23 C  _ _ _ _ _ _ hL ?_)
  obtain ⟨-, rfl⟩ := ret_eq hF
  exact x_vret (pc := 50) C hr (fun _ h => h) dL_without_50
set_option maxRecDepth 4000 in
theorem c_L_grown (l : Launch) (G : xG) (b : Nat) (a1 : Int32) (a2 : Int32) {w w' : xWt} {v : Int32} (hF : F_L_grown a1 a2 w = some (v, w')) : xMet l G b yL_grown cL_grown 6 (some .int) (xR 0) [.int (a1), .int (a2), .ref (ra b 10 0), .ref (ra b 10 1), .ref (ra b 10 2)] (CW G b w) (some (.int v)) (CW G b w') 0 0 := by
  refine x_of (own := RL) rfl (plainFor_of_name pn_L) (Nat.le_of_ble_eq_true rfl) ?_
  intro p e s m args below meth c ha C hr _
  unfold F_L_grown at hF
  refine x_aload_n (pc := 0) C 2 dL_grown_0 rfl rfl ?_
  refine x_iconst (pc := 1) C 1 dL_grown_1 ki_1 ?_
  refine w_ald (pc := 2) C (vA_m 0 (by decide)) hF dL_grown_2 (fun x1 hF => ?_)
  refine x_istore (pc := 3) C [(5, .int (x1)), (0, .int (a1)), (1, .int (a2)), (2, .ref (ra b 10 0)), (3, .ref (ra b 10 1)), (4, .ref (ra b 10 2))] dL_grown_3 (by decide) rfl ?_
  refine x_aload (pc := 5) C 5 dL_grown_5 rfl ?_
  refine x_iload (pc := 7) C 0 dL_grown_7 rfl ?_
  refine x_bipush (pc := 9) C 120 dL_grown_9 kb_120 ?_
  refine x_bipush (pc := 11) C 10 dL_grown_11 kb_10 ?_
  refine x_iload_n (pc := 13) C 1 dL_grown_13 rfl rfl ?_
  refine x_imul (pc := 14) C dL_grown_14 ?_
  refine x_iadd (pc := 15) C dL_grown_15 ?_
  refine x_iload_n (pc := 16) C 2 dL_grown_16 rfl rfl ?_
  refine x_iadd (pc := 17) C dL_grown_17 ?_
  refine w_ast (pc := 18) C (vA_m 2 (by decide)) hF dL_grown_18 (fun w2 hF => ?_)
  refine x_aload_n (pc := 19) C 4 dL_grown_19 rfl rfl ?_
  refine x_iload_n (pc := 20) C 1 dL_grown_20 rfl rfl ?_
  refine x_iload (pc := 21) C 0 dL_grown_21 rfl ?_
  refine w_ast (pc := 23) C (vA_m 1 (by decide)) hF dL_grown_23 (fun w3 hF => ?_)
  refine x_aload_n (pc := 24) C 3 dL_grown_24 rfl rfl ?_
  refine x_iconst (pc := 25) C 1 dL_grown_25 ki_1 ?_
  refine x_dup2 (pc := 26) C dL_grown_26 rfl rfl ?_
  refine w_ald (pc := 27) C (vA_m 0 (by decide)) hF dL_grown_27 (fun x4 hF => ?_)
  refine x_iconst (pc := 28) C 1 dL_grown_28 ki_1 ?_
  refine x_iadd (pc := 29) C dL_grown_29 ?_
  refine w_ast (pc := 30) C (vA_m 0 (by decide)) hF dL_grown_30 (fun w5 hF => ?_)
  refine x_iload (pc := 31) C 0 dL_grown_31 rfl ?_
  obtain ⟨rfl, rfl⟩ := ret_eq hF
  exact x_iret (pc := 33) C hr rfl (fun _ h => h) dL_grown_33
set_option maxRecDepth 4000 in
theorem s_L_raked_12 (C : xC p m c s args meth G b cL_raked 10 RL)  : ∀ (n9 : Nat) (l0 : Int32) (l6 : Int32) (l7 : Int32) (l8 : Int32) (w : xWt) (o : (Int32 × Int32)) (w' : xWt), L_L_raked_12 n9 l0 l6 l7 l8 w = some (o, w') → xW p l e (xR 2) s m args below meth c Q b 10 (CW G b w') 0 0 78 [(0, .int (l0)), (1, .ref (ra b 10 0)), (2, .ref (ra b 10 2)), (3, .ref (ra b 10 3)), (4, .ref (ra b 10 4)), (5, .ref (ra b 10 5)), (6, .int (o.1)), (7, .int (l7)), (8, .int (o.2))] [] → xW p l e (xR 2) s m args below meth c Q b 10 (CW G b w) 0 0 12 [(0, .int (l0)), (1, .ref (ra b 10 0)), (2, .ref (ra b 10 2)), (3, .ref (ra b 10 3)), (4, .ref (ra b 10 4)), (5, .ref (ra b 10 5)), (6, .int (l6)), (7, .int (l7)), (8, .int (l8))] [] := by
  intro n9
  induction n9 with
  | zero => intro l0 l6 l7 l8 w o w' hF; exact none_ne (show none = some _ from hF)
  | succ n9 ih =>
    intro l0 l6 l7 l8 w o w' hF kx
    replace hF : B_L_raked_12 (L_L_raked_12 n9) l0 l6 l7 l8 w = some (o, w') := hF
    unfold B_L_raked_12 at hF
    refine x_iload (pc := 12) C 8 dL_raked_12 rfl ?_
    refine x_iload (pc := 14) C 7 dL_raked_14 rfl ?_
    refine x_icmp_ge (pc := 16) C 78 dL_raked_16 rfl hF (fun c15 hF => ?_) (fun c15 hF => ?_)
    · obtain ⟨rfl, rfl⟩ := ret_eq hF
      exact x_sub [0, 1, 2, 3, 4, 5, 6, 7, 8] rfl kx
    · refine x_aload_n (pc := 19) C 3 dL_raked_19 rfl rfl ?_
      refine x_iload (pc := 20) C 8 dL_raked_20 rfl ?_
      refine w_ald (pc := 22) C (vA_m 3 (by decide)) hF dL_raked_22 (fun x2 hF => ?_)
      refine x_istore (pc := 23) C [(9, .int (x2)), (0, .int (l0)), (1, .ref (ra b 10 0)), (2, .ref (ra b 10 2)), (3, .ref (ra b 10 3)), (4, .ref (ra b 10 4)), (5, .ref (ra b 10 5)), (6, .int (l6)), (7, .int (l7)), (8, .int (l8))] dL_raked_23 (by decide) rfl ?_
      refine x_iload (pc := 25) C 0 dL_raked_25 rfl ?_
      refine x_aload_n (pc := 27) C 3 dL_raked_27 rfl rfl ?_
      refine cS1_2 (pc := 28) (val := Value.int) C hF (fun _ _ h => c_L_where l _ b _ h) sm_L_where wq112 rfl rfl ⟨Nat.le_of_ble_eq_true rfl, Nat.le_of_ble_eq_true rfl⟩ (Nat.le_of_ble_eq_true rfl) ⟨Nat.zero_le _, Nat.zero_le _⟩ dL_raked_28 (fun x4 w3 hF => ?_)
      refine x_iload_n (pc := 31) C 1 dL_raked_31 rfl rfl ?_
      obtain ⟨o6, w5, hL, hF⟩ := bd_some hF
      refine x_join (P1 := CW G b w5) (pcJ := 72) (lvJ := [(0, .int (l0)), (1, .ref (ra b 10 0)), (2, .ref (ra b 10 2)), (3, .ref (ra b 10 3)), (4, .ref (ra b 10 4)), (5, .ref (ra b 10 5)), (6, .int (o6)), (7, .int (l7)), (8, .int (l8)), (9, .int (x2))]) (stJ := []) 0 0 ?_ (fun kJ72 => ?_)
      · refine x_iinc (pc := 72) C 8 [(8, .int ((l8 + 1))), (0, .int (l0)), (1, .ref (ra b 10 0)), (2, .ref (ra b 10 2)), (3, .ref (ra b 10 3)), (4, .ref (ra b 10 4)), (5, .ref (ra b 10 5)), (6, .int (o6)), (7, .int (l7)), (9, .int (x2))] dL_raked_72 rfl rfl (by decide) rfl ?_
        refine x_goto (pc := 75) C 12 dL_raked_75 rfl ?_
        exact x_sub [1, 2, 3, 4, 5, 6, 7, 8, 0] rfl (ih _ _ _ _ _ _ _ hF kx)
      · replace hF := hL
        refine x_icmp_ne (pc := 32) C 63 dL_raked_32 rfl hF (fun c14 hF => ?_) (fun c14 hF => ?_)
        · refine x_aload_n (pc := 63) C 4 dL_raked_63 rfl rfl ?_
          refine x_iload (pc := 64) C 7 dL_raked_64 rfl ?_
          refine x_iload (pc := 66) C 0 dL_raked_66 rfl ?_
          refine w_ast (pc := 68) C (vA_m 3 (by decide)) hF dL_raked_68 (fun w7 hF => ?_)
          refine x_iinc (pc := 69) C 7 [(6, .int ((l6 + 1))), (9, .int (x2)), (0, .int (l0)), (1, .ref (ra b 10 0)), (2, .ref (ra b 10 2)), (3, .ref (ra b 10 3)), (4, .ref (ra b 10 4)), (5, .ref (ra b 10 5)), (7, .int (l7)), (8, .int (l8))] dL_raked_69 rfl rfl (by decide) rfl ?_
          obtain ⟨rfl, rfl⟩ := ret_eq hF
          exact x_sub [2, 3, 4, 5, 6, 7, 0, 8, 9, 1] rfl kJ72
        · refine x_iload (pc := 35) C 0 dL_raked_35 rfl ?_
          refine x_aload_n (pc := 37) C 2 dL_raked_37 rfl rfl ?_
          refine x_bipush (pc := 38) C 8 dL_raked_38 kb_8 ?_
          refine w_ald (pc := 40) C (vA_m 0 (by decide)) hF dL_raked_40 (fun x8 hF => ?_)
          refine x_iconst (pc := 41) C (-1) dL_raked_41 ki_m1 ?_
          refine x_aload_n (pc := 42) C 2 dL_raked_42 rfl rfl ?_
          refine x_aload_n (pc := 43) C 3 dL_raked_43 rfl rfl ?_
          refine x_aload (pc := 44) C 6 dL_raked_44 rfl ?_
          refine cS1_6 (pc := 46) (val := Value.int) C hF (fun _ _ h => c_L_may l _ b _ _ _ h) sm_L_may wq306 rfl rfl ⟨Nat.le_of_ble_eq_true rfl, Nat.le_of_ble_eq_true rfl⟩ (Nat.le_of_ble_eq_true rfl) ⟨Nat.zero_le _, Nat.zero_le _⟩ dL_raked_46 (fun x10 w9 hF => ?_)
          refine x_if_eq (pc := 49) C 63 dL_raked_49 rfl hF (fun c13 hF => ?_) (fun c13 hF => ?_)
          · refine x_aload_n (pc := 63) C 4 dL_raked_63 rfl rfl ?_
            refine x_iload (pc := 64) C 7 dL_raked_64 rfl ?_
            refine x_iload (pc := 66) C 0 dL_raked_66 rfl ?_
            refine w_ast (pc := 68) C (vA_m 3 (by decide)) hF dL_raked_68 (fun w11 hF => ?_)
            refine x_iinc (pc := 69) C 7 [(6, .int ((l6 + 1))), (9, .int (x2)), (0, .int (l0)), (1, .ref (ra b 10 0)), (2, .ref (ra b 10 2)), (3, .ref (ra b 10 3)), (4, .ref (ra b 10 4)), (5, .ref (ra b 10 5)), (7, .int (l7)), (8, .int (l8))] dL_raked_69 rfl rfl (by decide) rfl ?_
            obtain ⟨rfl, rfl⟩ := ret_eq hF
            exact x_sub [2, 3, 4, 5, 6, 7, 0, 8, 9, 1] rfl kJ72
          · refine x_iload (pc := 52) C 0 dL_raked_52 rfl ?_
            refine x_bipush (pc := 54) C (-2) dL_raked_54 kb_m2 ?_
            refine x_aload_n (pc := 56) C 3 dL_raked_56 rfl rfl ?_
            refine cS0_3 (pc := 57) C hF (fun _ _ h => c_L_put l _ b _ _ h) sm_L_put wq618 rfl rfl ⟨Nat.le_of_ble_eq_true rfl, Nat.le_of_ble_eq_true rfl⟩ (Nat.le_of_ble_eq_true rfl) ⟨Nat.zero_le _, Nat.zero_le _⟩ dL_raked_57 (fun _ w12 hF => ?_)
            refine x_goto (pc := 60) C 72 dL_raked_60 rfl ?_
            obtain ⟨rfl, rfl⟩ := ret_eq hF
            exact x_sub [1, 2, 3, 4, 5, 6, 7, 8, 9, 0] rfl kJ72
set_option maxRecDepth 4000 in
theorem c_L_raked (l : Launch) (G : xG) (b : Nat) (a1 : Int32) {w w' : xWt} {v : Int32} (hF : F_L_raked a1 w = some (v, w')) : xMet l G b yL_raked cL_raked 10 (some .int) (xR 2) [.int (a1), .ref (ra b 10 0), .ref (ra b 10 2), .ref (ra b 10 3), .ref (ra b 10 4), .ref (ra b 10 5)] (CW G b w) (some (.int v)) (CW G b w') 0 0 := by
  refine x_of (own := RL) rfl (plainFor_of_name pn_L) (Nat.le_of_ble_eq_true rfl) ?_
  intro p e s m args below meth c ha C hr _
  unfold F_L_raked at hF
  refine x_iconst (pc := 0) C 0 dL_raked_0 ki_0 ?_
  refine x_istore (pc := 1) C [(6, .int (0)), (0, .int (a1)), (1, .ref (ra b 10 0)), (2, .ref (ra b 10 2)), (3, .ref (ra b 10 3)), (4, .ref (ra b 10 4)), (5, .ref (ra b 10 5))] dL_raked_1 (by decide) rfl ?_
  refine x_aload_n (pc := 3) C 2 dL_raked_3 rfl rfl ?_
  refine x_bipush (pc := 4) C 9 dL_raked_4 kb_9 ?_
  refine w_ald (pc := 6) C (vA_m 0 (by decide)) hF dL_raked_6 (fun x1 hF => ?_)
  refine x_istore (pc := 7) C [(7, .int (x1)), (6, .int (0)), (0, .int (a1)), (1, .ref (ra b 10 0)), (2, .ref (ra b 10 2)), (3, .ref (ra b 10 3)), (4, .ref (ra b 10 4)), (5, .ref (ra b 10 5))] dL_raked_7 (by decide) rfl ?_
  refine x_iconst (pc := 9) C 0 dL_raked_9 ki_0 ?_
  refine x_istore (pc := 10) C [(8, .int (0)), (7, .int (x1)), (6, .int (0)), (0, .int (a1)), (1, .ref (ra b 10 0)), (2, .ref (ra b 10 2)), (3, .ref (ra b 10 3)), (4, .ref (ra b 10 4)), (5, .ref (ra b 10 5))] dL_raked_10 (by decide) rfl ?_
  obtain ⟨o16, w17, hL, hF⟩ := bd_some hF
  refine x_sub [3, 4, 5, 6, 7, 8, 2, 1, 0] rfl (s_L_raked_12 C  _ _ _ _ _ _ _ _ hL ?_)
  refine x_aload_n (pc := 78) C 1 dL_raked_78 rfl rfl ?_
  refine x_bipush (pc := 79) C 9 dL_raked_79 kb_9 ?_
  refine x_iload (pc := 81) C 6 dL_raked_81 rfl ?_
  refine w_ast (pc := 83) C (vA_m 0 (by decide)) hF dL_raked_83 (fun w18 hF => ?_)
  refine x_aload_n (pc := 84) C 1 dL_raked_84 rfl rfl ?_
  refine x_iconst (pc := 85) C 2 dL_raked_85 ki_2 ?_
  refine x_dup2 (pc := 86) C dL_raked_86 rfl rfl ?_
  refine w_ald (pc := 87) C (vA_m 0 (by decide)) hF dL_raked_87 (fun x19 hF => ?_)
  refine x_iconst (pc := 88) C 1 dL_raked_88 ki_1 ?_
  refine x_iadd (pc := 89) C dL_raked_89 ?_
  refine w_ast (pc := 90) C (vA_m 0 (by decide)) hF dL_raked_90 (fun w20 hF => ?_)
  refine x_aload_n (pc := 91) C 1 dL_raked_91 rfl rfl ?_
  refine x_iconst (pc := 92) C 3 dL_raked_92 ki_3 ?_
  refine x_dup2 (pc := 93) C dL_raked_93 rfl rfl ?_
  refine w_ald (pc := 94) C (vA_m 0 (by decide)) hF dL_raked_94 (fun x21 hF => ?_)
  refine x_aload_n (pc := 95) C 1 dL_raked_95 rfl rfl ?_
  refine x_bipush (pc := 96) C 8 dL_raked_96 kb_8 ?_
  refine w_ald (pc := 98) C (vA_m 0 (by decide)) hF dL_raked_98 (fun x22 hF => ?_)
  obtain ⟨o24, w23, hL, hF⟩ := bd_some hF
  refine x_join (P1 := CW G b w23) (pcJ := 113) (lvJ := [(0, .int (a1)), (1, .ref (ra b 10 0)), (2, .ref (ra b 10 2)), (3, .ref (ra b 10 3)), (4, .ref (ra b 10 4)), (5, .ref (ra b 10 5)), (6, .int (o16.1)), (7, .int (x1)), (8, .int (o16.2))]) (stJ := [.int (o24), .int (x21), .int (3), .ref (ra b 10 0)]) 0 0 ?_ (fun kJ113 => ?_)
  · refine x_iadd (pc := 113) C dL_raked_113 ?_
    refine w_ast (pc := 114) C (vA_m 0 (by decide)) hF dL_raked_114 (fun w28 hF => ?_)
    refine x_aload (pc := 115) C 4 dL_raked_115 rfl ?_
    refine x_bipush (pc := 117) C 6 dL_raked_117 kb_6 ?_
    refine x_iload_n (pc := 119) C 0 dL_raked_119 rfl rfl ?_
    refine x_imul (pc := 120) C dL_raked_120 ?_
    refine x_iconst (pc := 121) C 4 dL_raked_121 ki_4 ?_
    refine x_iadd (pc := 122) C dL_raked_122 ?_
    refine x_dup2 (pc := 123) C dL_raked_123 rfl rfl ?_
    refine w_ald (pc := 124) C (vA_m 4 (by decide)) hF dL_raked_124 (fun x29 hF => ?_)
    refine x_iload (pc := 125) C 7 dL_raked_125 rfl ?_
    refine x_iload (pc := 127) C 6 dL_raked_127 rfl ?_
    refine x_isub (pc := 129) C dL_raked_129 ?_
    refine x_iadd (pc := 130) C dL_raked_130 ?_
    refine w_ast (pc := 131) C (vA_m 4 (by decide)) hF dL_raked_131 (fun w30 hF => ?_)
    refine x_aload (pc := 132) C 4 dL_raked_132 rfl ?_
    refine x_bipush (pc := 134) C 6 dL_raked_134 kb_6 ?_
    refine x_iload_n (pc := 136) C 0 dL_raked_136 rfl rfl ?_
    refine x_imul (pc := 137) C dL_raked_137 ?_
    refine x_iconst (pc := 138) C 5 dL_raked_138 ki_5 ?_
    refine x_iadd (pc := 139) C dL_raked_139 ?_
    refine x_dup2 (pc := 140) C dL_raked_140 rfl rfl ?_
    refine w_ald (pc := 141) C (vA_m 4 (by decide)) hF dL_raked_141 (fun x31 hF => ?_)
    refine x_iconst (pc := 142) C 1 dL_raked_142 ki_1 ?_
    refine x_iadd (pc := 143) C dL_raked_143 ?_
    refine w_ast (pc := 144) C (vA_m 4 (by decide)) hF dL_raked_144 (fun w32 hF => ?_)
    refine x_iload (pc := 145) C 7 dL_raked_145 rfl ?_
    refine x_iload (pc := 147) C 6 dL_raked_147 rfl ?_
    refine x_isub (pc := 149) C dL_raked_149 ?_
    obtain ⟨rfl, rfl⟩ := ret_eq hF
    exact x_iret (pc := 150) C hr rfl (fun _ h => h) dL_raked_150
  · replace hF := hL
    refine x_if_ne (pc := 99) C 112 dL_raked_99 rfl hF (fun c27 hF => ?_) (fun c27 hF => ?_)
    · refine x_iconst (pc := 112) C 0 dL_raked_112 ki_0 ?_
      obtain ⟨rfl, rfl⟩ := ret_eq hF
      exact x_sub [0, 1, 2, 3, 4, 5, 6, 7, 8] rfl kJ113
    · refine x_iconst (pc := 102) C 3 dL_raked_102 ki_3 ?_
      refine x_aload (pc := 103) C 4 dL_raked_103 rfl ?_
      refine cS1_1 (pc := 105) (val := Value.int) C hF (fun _ _ h => c_L_children l _ b h) sm_L_children wq183 rfl rfl ⟨Nat.le_of_ble_eq_true rfl, Nat.le_of_ble_eq_true rfl⟩ (Nat.le_of_ble_eq_true rfl) ⟨Nat.zero_le _, Nat.zero_le _⟩ dL_raked_105 (fun x26 w25 hF => ?_)
      refine x_imul (pc := 108) C dL_raked_108 ?_
      refine x_goto (pc := 109) C 113 dL_raked_109 rfl ?_
      obtain ⟨rfl, rfl⟩ := ret_eq hF
      exact x_sub [0, 1, 2, 3, 4, 5, 6, 7, 8] rfl kJ113
set_option maxRecDepth 4000 in
theorem c_L_taken (l : Launch) (G : xG) (b : Nat) (a1 : Int32) (a2 : Int32) {w w' : xWt} {v : Int32} (hF : F_L_taken a1 a2 w = some (v, w')) : xMet l G b yL_taken cL_taken 10 (some .int) (xR 3) [.int (a1), .int (a2), .ref (ra b 10 0), .ref (ra b 10 1), .ref (ra b 10 2), .ref (ra b 10 3), .ref (ra b 10 4), .ref (ra b 10 5)] (CW G b w) (some (.int v)) (CW G b w') 0 0 := by
  refine x_of (own := RL) rfl (plainFor_of_name pn_L) (Nat.le_of_ble_eq_true rfl) ?_
  intro p e s m args below meth c ha C hr _
  unfold F_L_taken at hF
  refine x_aload_n (pc := 0) C 3 dL_taken_0 rfl rfl ?_
  refine x_iload_n (pc := 1) C 1 dL_taken_1 rfl rfl ?_
  refine w_ald (pc := 2) C (vA_m 1 (by decide)) hF dL_taken_2 (fun x1 hF => ?_)
  refine x_istore (pc := 3) C [(8, .int (x1)), (0, .int (a1)), (1, .int (a2)), (2, .ref (ra b 10 0)), (3, .ref (ra b 10 1)), (4, .ref (ra b 10 2)), (5, .ref (ra b 10 3)), (6, .ref (ra b 10 4)), (7, .ref (ra b 10 5))] dL_taken_3 (by decide) rfl ?_
  refine x_aload_n (pc := 5) C 4 dL_taken_5 rfl rfl ?_
  refine x_iload_n (pc := 6) C 2 dL_taken_6 rfl rfl ?_
  refine x_iconst (pc := 7) C (-1) dL_taken_7 ki_m1 ?_
  refine w_ast (pc := 8) C (vA_m 1 (by decide)) hF dL_taken_8 (fun w2 hF => ?_)
  refine x_aload (pc := 9) C 5 dL_taken_9 rfl ?_
  refine x_iload (pc := 11) C 0 dL_taken_11 rfl ?_
  refine x_aload (pc := 13) C 5 dL_taken_13 rfl ?_
  refine x_iload (pc := 15) C 0 dL_taken_15 rfl ?_
  refine w_ald (pc := 17) C (vA_m 2 (by decide)) hF dL_taken_17 (fun x3 hF => ?_)
  refine x_sipush (pc := 18) C 960 dL_taken_18 ks_960 ?_
  refine y_irem (pc := 21) C dL_taken_21 hF (fun x4 hF => ?_)
  refine x_sipush (pc := 22) C 960 dL_taken_22 ks_960 ?_
  refine x_aload_n (pc := 25) C 3 dL_taken_25 rfl rfl ?_
  refine x_iconst (pc := 26) C 0 dL_taken_26 ki_0 ?_
  refine w_ald (pc := 27) C (vA_m 0 (by decide)) hF dL_taken_27 (fun x5 hF => ?_)
  refine x_iconst (pc := 28) C 1 dL_taken_28 ki_1 ?_
  refine x_iadd (pc := 29) C dL_taken_29 ?_
  refine x_imul (pc := 30) C dL_taken_30 ?_
  refine x_iadd (pc := 31) C dL_taken_31 ?_
  refine w_ast (pc := 32) C (vA_m 2 (by decide)) hF dL_taken_32 (fun w6 hF => ?_)
  refine x_iload (pc := 33) C 0 dL_taken_33 rfl ?_
  refine x_iload_n (pc := 35) C 1 dL_taken_35 rfl rfl ?_
  refine x_aload (pc := 36) C 5 dL_taken_36 rfl ?_
  refine cS0_3 (pc := 38) C hF (fun _ _ h => c_L_put l _ b _ _ h) sm_L_put wq618 rfl rfl ⟨Nat.le_of_ble_eq_true rfl, Nat.le_of_ble_eq_true rfl⟩ (Nat.le_of_ble_eq_true rfl) ⟨Nat.zero_le _, Nat.zero_le _⟩ dL_taken_38 (fun _ w7 hF => ?_)
  refine x_aload (pc := 41) C 6 dL_taken_41 rfl ?_
  refine x_aload_n (pc := 43) C 3 dL_taken_43 rfl rfl ?_
  refine x_bipush (pc := 44) C 9 dL_taken_44 kb_9 ?_
  refine w_ald (pc := 46) C (vA_m 0 (by decide)) hF dL_taken_46 (fun x8 hF => ?_)
  refine x_iload (pc := 47) C 0 dL_taken_47 rfl ?_
  refine w_ast (pc := 49) C (vA_m 3 (by decide)) hF dL_taken_49 (fun w9 hF => ?_)
  refine x_aload_n (pc := 50) C 3 dL_taken_50 rfl rfl ?_
  refine x_bipush (pc := 51) C 9 dL_taken_51 kb_9 ?_
  refine x_dup2 (pc := 53) C dL_taken_53 rfl rfl ?_
  refine w_ald (pc := 54) C (vA_m 0 (by decide)) hF dL_taken_54 (fun x10 hF => ?_)
  refine x_iconst (pc := 55) C 1 dL_taken_55 ki_1 ?_
  refine x_iadd (pc := 56) C dL_taken_56 ?_
  refine w_ast (pc := 57) C (vA_m 0 (by decide)) hF dL_taken_57 (fun w11 hF => ?_)
  refine x_aload (pc := 58) C 7 dL_taken_58 rfl ?_
  refine x_bipush (pc := 60) C 6 dL_taken_60 kb_6 ?_
  refine x_iload_n (pc := 62) C 1 dL_taken_62 rfl rfl ?_
  refine x_imul (pc := 63) C dL_taken_63 ?_
  refine x_iconst (pc := 64) C 3 dL_taken_64 ki_3 ?_
  refine x_iadd (pc := 65) C dL_taken_65 ?_
  refine x_dup2 (pc := 66) C dL_taken_66 rfl rfl ?_
  refine w_ald (pc := 67) C (vA_m 4 (by decide)) hF dL_taken_67 (fun x12 hF => ?_)
  refine x_iconst (pc := 68) C 1 dL_taken_68 ki_1 ?_
  refine x_iadd (pc := 69) C dL_taken_69 ?_
  refine w_ast (pc := 70) C (vA_m 4 (by decide)) hF dL_taken_70 (fun w13 hF => ?_)
  refine x_iload_n (pc := 71) C 1 dL_taken_71 rfl rfl ?_
  refine x_aload_n (pc := 72) C 3 dL_taken_72 rfl rfl ?_
  refine x_aload (pc := 73) C 5 dL_taken_73 rfl ?_
  refine x_aload (pc := 75) C 6 dL_taken_75 rfl ?_
  refine cS1_4 (pc := 77) (val := Value.int) C hF (fun _ _ h => c_L_heap l _ b _ h) sm_L_heap wq421 rfl rfl ⟨Nat.le_of_ble_eq_true rfl, Nat.le_of_ble_eq_true rfl⟩ (Nat.le_of_ble_eq_true rfl) ⟨Nat.zero_le _, Nat.zero_le _⟩ dL_taken_77 (fun x15 w14 hF => ?_)
  refine x_aload_n (pc := 80) C 3 dL_taken_80 rfl rfl ?_
  refine x_bipush (pc := 81) C 7 dL_taken_81 kb_7 ?_
  refine w_ald (pc := 83) C (vA_m 0 (by decide)) hF dL_taken_83 (fun x16 hF => ?_)
  obtain ⟨o18, w17, hL, hF⟩ := bd_some hF
  refine x_join (P1 := CW G b w17) (pcJ := 104) (lvJ := [(0, .int (a1)), (1, .int (a2)), (2, .ref (ra b 10 0)), (3, .ref (ra b 10 1)), (4, .ref (ra b 10 2)), (5, .ref (ra b 10 3)), (6, .ref (ra b 10 4)), (7, .ref (ra b 10 5)), (8, .int (x1))]) (stJ := [.int (o18)]) 0 0 ?_ (fun kJ104 => ?_)
  · refine x_istore (pc := 104) C [(9, .int (o18)), (0, .int (a1)), (1, .int (a2)), (2, .ref (ra b 10 0)), (3, .ref (ra b 10 1)), (4, .ref (ra b 10 2)), (5, .ref (ra b 10 3)), (6, .ref (ra b 10 4)), (7, .ref (ra b 10 5)), (8, .int (x1))] dL_taken_104 (by decide) rfl ?_
    refine x_aload_n (pc := 106) C 3 dL_taken_106 rfl rfl ?_
    refine x_bipush (pc := 107) C 6 dL_taken_107 kb_6 ?_
    refine x_aload_n (pc := 109) C 3 dL_taken_109 rfl rfl ?_
    refine x_bipush (pc := 110) C 9 dL_taken_110 kb_9 ?_
    refine w_ald (pc := 112) C (vA_m 0 (by decide)) hF dL_taken_112 (fun x22 hF => ?_)
    refine x_aload_n (pc := 113) C 3 dL_taken_113 rfl rfl ?_
    refine x_bipush (pc := 114) C 6 dL_taken_114 kb_6 ?_
    refine w_ald (pc := 116) C (vA_m 0 (by decide)) hF dL_taken_116 (fun x23 hF => ?_)
    obtain ⟨o25, w24, hL, hF⟩ := bd_some hF
    refine x_join (P1 := CW G b w24) (pcJ := 131) (lvJ := [(0, .int (a1)), (1, .int (a2)), (2, .ref (ra b 10 0)), (3, .ref (ra b 10 1)), (4, .ref (ra b 10 2)), (5, .ref (ra b 10 3)), (6, .ref (ra b 10 4)), (7, .ref (ra b 10 5)), (8, .int (x1)), (9, .int (o18))]) (stJ := [.int (o25), .int (6), .ref (ra b 10 0)]) 0 0 ?_ (fun kJ131 => ?_)
    · refine w_ast (pc := 131) C (vA_m 0 (by decide)) hF dL_taken_131 (fun w29 hF => ?_)
      refine x_iload (pc := 132) C 9 dL_taken_132 rfl ?_
      obtain ⟨rfl, rfl⟩ := ret_eq hF
      exact x_iret (pc := 134) C hr rfl (fun _ h => h) dL_taken_134
    · replace hF := hL
      refine x_icmp_le (pc := 117) C 127 dL_taken_117 rfl hF (fun c28 hF => ?_) (fun c28 hF => ?_)
      · refine x_aload_n (pc := 127) C 3 dL_taken_127 rfl rfl ?_
        refine x_bipush (pc := 128) C 6 dL_taken_128 kb_6 ?_
        refine w_ald (pc := 130) C (vA_m 0 (by decide)) hF dL_taken_130 (fun x26 hF => ?_)
        obtain ⟨rfl, rfl⟩ := ret_eq hF
        exact x_sub [1, 2, 3, 4, 5, 6, 7, 8, 9, 0] rfl kJ131
      · refine x_aload_n (pc := 120) C 3 dL_taken_120 rfl rfl ?_
        refine x_bipush (pc := 121) C 9 dL_taken_121 kb_9 ?_
        refine w_ald (pc := 123) C (vA_m 0 (by decide)) hF dL_taken_123 (fun x27 hF => ?_)
        refine x_goto (pc := 124) C 131 dL_taken_124 rfl ?_
        obtain ⟨rfl, rfl⟩ := ret_eq hF
        exact x_sub [1, 2, 3, 4, 5, 6, 7, 8, 9, 0] rfl kJ131
  · replace hF := hL
    refine x_icmp_lt (pc := 84) C 103 dL_taken_84 rfl hF (fun c21 hF => ?_) (fun c21 hF => ?_)
    · refine x_iconst (pc := 103) C 0 dL_taken_103 ki_0 ?_
      obtain ⟨rfl, rfl⟩ := ret_eq hF
      exact x_sub [1, 2, 3, 4, 5, 6, 7, 8, 0] rfl kJ104
    · refine x_iload_n (pc := 87) C 1 dL_taken_87 rfl rfl ?_
      refine x_aload_n (pc := 88) C 3 dL_taken_88 rfl rfl ?_
      refine x_aload (pc := 89) C 5 dL_taken_89 rfl ?_
      refine x_aload (pc := 91) C 6 dL_taken_91 rfl ?_
      refine x_aload (pc := 93) C 7 dL_taken_93 rfl ?_
      refine x_aload (pc := 95) C 8 dL_taken_95 rfl ?_
      refine cS1_6 (pc := 97) (val := Value.int) C hF (fun _ _ h => c_L_raked l _ b _ h) sm_L_raked wq752 rfl rfl ⟨Nat.le_of_ble_eq_true rfl, Nat.le_of_ble_eq_true rfl⟩ (Nat.le_of_ble_eq_true rfl) ⟨Nat.zero_le _, Nat.zero_le _⟩ dL_taken_97 (fun x20 w19 hF => ?_)
      refine x_goto (pc := 100) C 104 dL_taken_100 rfl ?_
      obtain ⟨rfl, rfl⟩ := ret_eq hF
      exact x_sub [1, 2, 3, 4, 5, 6, 7, 8, 0] rfl kJ104
end WalkL
