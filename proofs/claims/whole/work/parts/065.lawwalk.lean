section LawWalk
variable {p : Program} {l : Launch} {e : Env} {s : State} {m : MethodId} {args : Array Value} {below : List Frame} {meth : Method} {c : Code} {Q : State → Prop} {b sb L : Nat} {xs : Nat → Int32} {G : xG}
set_option maxRecDepth 4000 in
theorem k_law_38 (C : xC p m c s args meth G b cL_law 9 RL) (hl : l.stackTraces = false) (hX : xF b s) (hS : xS b sb L xs s) (rec : Int32 → xWt → Option Unit) (n9 cells slots : Nat) (hc : cells + 10 * (n9 + 1) ≤ 601024) (hs : slots + 100 * (n9 + 1) ≤ 7293034) (l4 : Int32) (w : xWt) (hF : K_law_38 xs L rec l4 w = some ())
    (ih : ∀ (cells slots : Nat) (l4 : Int32) (w : xWt), cells + 10 * n9 ≤ 601024 → slots + 100 * n9 ≤ 7293034 → rec l4 w = some () → (∀ (cells slots : Nat) (w' : xWt), cells ≤ 601024 → slots ≤ 7293034 → xW p l e room_1 s m args below meth c Q b 9 (CW G b w') cells slots 2171 [(0, .ref sb), (1, .ref b), (2, .ref (mdb b)), (3, .ref (oub G))] []) → xW p l e room_1 s m args below meth c Q b 9 (CW G b w) cells slots 23 [(0, .ref (sb)), (1, .ref (b)), (2, .ref (mdb b)), (3, .ref (oub G)), (4, .int (l4))] [])
    (kx : ∀ (cells slots : Nat) (w' : xWt), cells ≤ 601024 → slots ≤ 7293034 → xW p l e room_1 s m args below meth c Q b 9 (CW G b w') cells slots 2171 [(0, .ref sb), (1, .ref b), (2, .ref (mdb b)), (3, .ref (oub G))] []) : xW p l e room_1 s m args below meth c Q b 9 (CW G b w) cells slots 2151 [(0, .ref (sb)), (1, .ref (b)), (2, .ref (mdb b)), (3, .ref (oub G)), (4, .int (l4))] [] := by
  unfold K_law_38 at hF
  refine x_aload_n (pc := 2151) C 1 dL_law_2151 rfl rfl ?_
  refine cV1_0 (pc := 2152) (val := Value.long) C hF (fun _ _ h => c_X7_digest l G b  h) vm_X7_digest wq1262 rfl rfl ⟨Nat.le_of_ble_eq_true rfl, Nat.le_of_ble_eq_true rfl⟩ rfl rfl (fun _ h => CW.pl h) (Nat.le_of_ble_eq_true rfl) ⟨show cells ≤ 601024 by omega, show slots ≤ 7293034 by omega⟩ dL_law_2152 (fun x3 w2 hF => ?_)
  refine x_aload_n (pc := 2155) C 2 dL_law_2155 rfl rfl ?_
  refine cV1_0 (pc := 2156) (val := Value.long) C hF (fun _ _ h => c_X8_digest l G b  h) vm_X8_digest wq1290 rfl rfl ⟨Nat.le_of_ble_eq_true rfl, Nat.le_of_ble_eq_true rfl⟩ rfl rfl (fun _ h => CW.md h) (Nat.le_of_ble_eq_true rfl) ⟨show cells ≤ 601024 by omega, show slots ≤ 7293034 by omega⟩ dL_law_2156 (fun x5 w4 hF => ?_)
  refine x_lcmp (pc := 2159) C dL_law_2159 ?_
  refine x_if_eq (pc := 2160) C 2165 dL_law_2160 rfl hF (fun c6 hF => ?_) (fun c6 hF => ?_)
  · refine x_iinc (pc := 2165) C 4 [(4, .int ((l4 + 4))), (0, .ref (sb)), (1, .ref (b)), (2, .ref (mdb b)), (3, .ref (oub G))] dL_law_2165 rfl rfl (by decide) rfl ?_
    refine x_goto (pc := 2168) C 23 dL_law_2168 rfl ?_
    exact x_sub [1, 2, 3, 4, 0] rfl (ih _ _ _ _ (by omega) (by omega) hF kx)
  · exact none_ne hF
set_option maxRecDepth 4000 in
theorem k_law_37 (C : xC p m c s args meth G b cL_law 9 RL) (hl : l.stackTraces = false) (hX : xF b s) (hS : xS b sb L xs s) (rec : Int32 → xWt → Option Unit) (n9 cells slots : Nat) (hc : cells + 10 * (n9 + 1) ≤ 601024) (hs : slots + 100 * (n9 + 1) ≤ 7293034) (l4 : Int32) (w : xWt) (hF : K_law_37 xs L rec l4 w = some ())
    (ih : ∀ (cells slots : Nat) (l4 : Int32) (w : xWt), cells + 10 * n9 ≤ 601024 → slots + 100 * n9 ≤ 7293034 → rec l4 w = some () → (∀ (cells slots : Nat) (w' : xWt), cells ≤ 601024 → slots ≤ 7293034 → xW p l e room_1 s m args below meth c Q b 9 (CW G b w') cells slots 2171 [(0, .ref sb), (1, .ref b), (2, .ref (mdb b)), (3, .ref (oub G))] []) → xW p l e room_1 s m args below meth c Q b 9 (CW G b w) cells slots 23 [(0, .ref (sb)), (1, .ref (b)), (2, .ref (mdb b)), (3, .ref (oub G)), (4, .int (l4))] [])
    (kx : ∀ (cells slots : Nat) (w' : xWt), cells ≤ 601024 → slots ≤ 7293034 → xW p l e room_1 s m args below meth c Q b 9 (CW G b w') cells slots 2171 [(0, .ref sb), (1, .ref b), (2, .ref (mdb b)), (3, .ref (oub G))] []) : xW p l e room_1 s m args below meth c Q b 9 (CW G b w) cells slots 2108 [(0, .ref (sb)), (1, .ref (b)), (2, .ref (mdb b)), (3, .ref (oub G)), (4, .int (l4))] [] := by
  unfold K_law_37 at hF
  refine x_aload_n (pc := 2108) C 1 dL_law_2108 rfl rfl ?_
  refine cV1_0 (pc := 2109) (val := Value.float) C hF (fun _ _ h => c_X7_fullness l G b  h) vm_X7_fullness wq1249 rfl rfl ⟨Nat.le_of_ble_eq_true rfl, Nat.le_of_ble_eq_true rfl⟩ rfl rfl (fun _ h => CW.pl h) (Nat.le_of_ble_eq_true rfl) ⟨show cells ≤ 601024 by omega, show slots ≤ 7293034 by omega⟩ dL_law_2109 (fun x8 w7 hF => ?_)
  refine y_f2d (pc := 2112) C dL_law_2112 hF (fun x9 hF => ?_)
  refine x_dstore (pc := 2113) C [(5, .double (x9)), (0, .ref (sb)), (1, .ref (b)), (2, .ref (mdb b)), (3, .ref (oub G)), (4, .int (l4))] dL_law_2113 (by decide) rfl ?_
  refine x_aload_n (pc := 2115) C 3 dL_law_2115 rfl rfl ?_
  refine cV1_0 (pc := 2116) (val := Value.float) C hF (fun _ _ h => c_X8_fullness l G b  h) vm_X8_fullness wq1254 rfl rfl ⟨Nat.le_of_ble_eq_true rfl, Nat.le_of_ble_eq_true rfl⟩ rfl rfl (fun _ h => CW.md h) (Nat.le_of_ble_eq_true rfl) ⟨show cells ≤ 601024 by omega, show slots ≤ 7293034 by omega⟩ dL_law_2116 (fun x11 w10 hF => ?_)
  refine y_f2d (pc := 2119) C dL_law_2119 hF (fun x12 hF => ?_)
  refine x_dstore (pc := 2120) C [(7, .double (x12)), (5, .double (x9)), (0, .ref (sb)), (1, .ref (b)), (2, .ref (mdb b)), (3, .ref (oub G)), (4, .int (l4))] dL_law_2120 (by decide) rfl ?_
  refine x_dload (pc := 2122) C 1 dL_law_2122 rfl ?_
  refine x_dload (pc := 2124) C 0 dL_law_2124 rfl ?_
  refine x_dcmp (pc := 2126) C dL_law_2126 ?_
  refine x_if_eq (pc := 2127) C 2148 dL_law_2127 rfl hF (fun c15 hF => ?_) (fun c15 hF => ?_)
  · refine x_goto (pc := 2148) C 2165 dL_law_2148 rfl ?_
    refine x_iinc (pc := 2165) C 6 [(4, .int ((l4 + 4))), (7, .double (x12)), (5, .double (x9)), (0, .ref (sb)), (1, .ref (b)), (2, .ref (mdb b)), (3, .ref (oub G))] dL_law_2165 rfl rfl (by decide) rfl ?_
    refine x_goto (pc := 2168) C 23 dL_law_2168 rfl ?_
    exact x_sub [3, 4, 5, 6, 0] rfl (ih _ _ _ _ (by omega) (by omega) hF kx)
  · refine x_dload (pc := 2130) C 1 dL_law_2130 rfl ?_
    refine x_dload (pc := 2132) C 1 dL_law_2132 rfl ?_
    refine x_dcmp (pc := 2134) C dL_law_2134 ?_
    refine x_if_eq (pc := 2135) C 2146 dL_law_2135 rfl hF (fun c14 hF => ?_) (fun c14 hF => ?_)
    · exact none_ne hF
    · refine x_dload (pc := 2138) C 0 dL_law_2138 rfl ?_
      refine x_dload (pc := 2140) C 0 dL_law_2140 rfl ?_
      refine x_dcmp (pc := 2142) C dL_law_2142 ?_
      refine x_if_ne (pc := 2143) C 2148 dL_law_2143 rfl hF (fun c13 hF => ?_) (fun c13 hF => ?_)
      · refine x_goto (pc := 2148) C 2165 dL_law_2148 rfl ?_
        refine x_iinc (pc := 2165) C 6 [(4, .int ((l4 + 4))), (7, .double (x12)), (5, .double (x9)), (0, .ref (sb)), (1, .ref (b)), (2, .ref (mdb b)), (3, .ref (oub G))] dL_law_2165 rfl rfl (by decide) rfl ?_
        refine x_goto (pc := 2168) C 23 dL_law_2168 rfl ?_
        exact x_sub [3, 4, 5, 6, 0] rfl (ih _ _ _ _ (by omega) (by omega) hF kx)
      · exact none_ne hF
set_option maxRecDepth 4000 in
theorem k_law_36 (C : xC p m c s args meth G b cL_law 9 RL) (hl : l.stackTraces = false) (hX : xF b s) (hS : xS b sb L xs s) (rec : Int32 → xWt → Option Unit) (n9 cells slots : Nat) (hc : cells + 10 * (n9 + 1) ≤ 601024) (hs : slots + 100 * (n9 + 1) ≤ 7293034) (l4 : Int32) (w : xWt) (hF : K_law_36 xs L rec l4 w = some ())
    (ih : ∀ (cells slots : Nat) (l4 : Int32) (w : xWt), cells + 10 * n9 ≤ 601024 → slots + 100 * n9 ≤ 7293034 → rec l4 w = some () → (∀ (cells slots : Nat) (w' : xWt), cells ≤ 601024 → slots ≤ 7293034 → xW p l e room_1 s m args below meth c Q b 9 (CW G b w') cells slots 2171 [(0, .ref sb), (1, .ref b), (2, .ref (mdb b)), (3, .ref (oub G))] []) → xW p l e room_1 s m args below meth c Q b 9 (CW G b w) cells slots 23 [(0, .ref (sb)), (1, .ref (b)), (2, .ref (mdb b)), (3, .ref (oub G)), (4, .int (l4))] [])
    (kx : ∀ (cells slots : Nat) (w' : xWt), cells ≤ 601024 → slots ≤ 7293034 → xW p l e room_1 s m args below meth c Q b 9 (CW G b w') cells slots 2171 [(0, .ref sb), (1, .ref b), (2, .ref (mdb b)), (3, .ref (oub G))] []) : xW p l e room_1 s m args below meth c Q b 9 (CW G b w) cells slots 2067 [(0, .ref (sb)), (1, .ref (b)), (2, .ref (mdb b)), (3, .ref (oub G)), (4, .int (l4))] [] := by
  unfold K_law_36 at hF
  refine x_aload_n (pc := 2067) C 1 dL_law_2067 rfl rfl ?_
  refine cV1_0 (pc := 2068) (val := Value.double) C hF (fun _ _ h => c_X7_burntShare l G b  h) vm_X7_burntShare wq1236 rfl rfl ⟨Nat.le_of_ble_eq_true rfl, Nat.le_of_ble_eq_true rfl⟩ rfl rfl (fun _ h => CW.pl h) (Nat.le_of_ble_eq_true rfl) ⟨show cells ≤ 601024 by omega, show slots ≤ 7293034 by omega⟩ dL_law_2068 (fun x17 w16 hF => ?_)
  refine x_dstore (pc := 2071) C [(5, .double (x17)), (0, .ref (sb)), (1, .ref (b)), (2, .ref (mdb b)), (3, .ref (oub G)), (4, .int (l4))] dL_law_2071 (by decide) rfl ?_
  refine x_aload_n (pc := 2073) C 3 dL_law_2073 rfl rfl ?_
  refine cV1_0 (pc := 2074) (val := Value.double) C hF (fun _ _ h => c_X8_burntShare l G b  h) vm_X8_burntShare wq1241 rfl rfl ⟨Nat.le_of_ble_eq_true rfl, Nat.le_of_ble_eq_true rfl⟩ rfl rfl (fun _ h => CW.md h) (Nat.le_of_ble_eq_true rfl) ⟨show cells ≤ 601024 by omega, show slots ≤ 7293034 by omega⟩ dL_law_2074 (fun x19 w18 hF => ?_)
  refine x_dstore (pc := 2077) C [(7, .double (x19)), (5, .double (x17)), (0, .ref (sb)), (1, .ref (b)), (2, .ref (mdb b)), (3, .ref (oub G)), (4, .int (l4))] dL_law_2077 (by decide) rfl ?_
  refine x_dload (pc := 2079) C 1 dL_law_2079 rfl ?_
  refine x_dload (pc := 2081) C 0 dL_law_2081 rfl ?_
  refine x_dcmp (pc := 2083) C dL_law_2083 ?_
  refine x_if_eq (pc := 2084) C 2105 dL_law_2084 rfl hF (fun c22 hF => ?_) (fun c22 hF => ?_)
  · refine x_goto (pc := 2105) C 2165 dL_law_2105 rfl ?_
    refine x_iinc (pc := 2165) C 6 [(4, .int ((l4 + 4))), (7, .double (x19)), (5, .double (x17)), (0, .ref (sb)), (1, .ref (b)), (2, .ref (mdb b)), (3, .ref (oub G))] dL_law_2165 rfl rfl (by decide) rfl ?_
    refine x_goto (pc := 2168) C 23 dL_law_2168 rfl ?_
    exact x_sub [3, 4, 5, 6, 0] rfl (ih _ _ _ _ (by omega) (by omega) hF kx)
  · refine x_dload (pc := 2087) C 1 dL_law_2087 rfl ?_
    refine x_dload (pc := 2089) C 1 dL_law_2089 rfl ?_
    refine x_dcmp (pc := 2091) C dL_law_2091 ?_
    refine x_if_eq (pc := 2092) C 2103 dL_law_2092 rfl hF (fun c21 hF => ?_) (fun c21 hF => ?_)
    · exact none_ne hF
    · refine x_dload (pc := 2095) C 0 dL_law_2095 rfl ?_
      refine x_dload (pc := 2097) C 0 dL_law_2097 rfl ?_
      refine x_dcmp (pc := 2099) C dL_law_2099 ?_
      refine x_if_ne (pc := 2100) C 2105 dL_law_2100 rfl hF (fun c20 hF => ?_) (fun c20 hF => ?_)
      · refine x_goto (pc := 2105) C 2165 dL_law_2105 rfl ?_
        refine x_iinc (pc := 2165) C 6 [(4, .int ((l4 + 4))), (7, .double (x19)), (5, .double (x17)), (0, .ref (sb)), (1, .ref (b)), (2, .ref (mdb b)), (3, .ref (oub G))] dL_law_2165 rfl rfl (by decide) rfl ?_
        refine x_goto (pc := 2168) C 23 dL_law_2168 rfl ?_
        exact x_sub [3, 4, 5, 6, 0] rfl (ih _ _ _ _ (by omega) (by omega) hF kx)
      · exact none_ne hF
set_option maxRecDepth 4000 in
theorem k_law_35 (C : xC p m c s args meth G b cL_law 9 RL) (hl : l.stackTraces = false) (hX : xF b s) (hS : xS b sb L xs s) (rec : Int32 → xWt → Option Unit) (n9 cells slots : Nat) (hc : cells + 10 * (n9 + 1) ≤ 601024) (hs : slots + 100 * (n9 + 1) ≤ 7293034) (l4 : Int32) (w : xWt) (hF : K_law_35 xs L rec l4 w = some ())
    (ih : ∀ (cells slots : Nat) (l4 : Int32) (w : xWt), cells + 10 * n9 ≤ 601024 → slots + 100 * n9 ≤ 7293034 → rec l4 w = some () → (∀ (cells slots : Nat) (w' : xWt), cells ≤ 601024 → slots ≤ 7293034 → xW p l e room_1 s m args below meth c Q b 9 (CW G b w') cells slots 2171 [(0, .ref sb), (1, .ref b), (2, .ref (mdb b)), (3, .ref (oub G))] []) → xW p l e room_1 s m args below meth c Q b 9 (CW G b w) cells slots 23 [(0, .ref (sb)), (1, .ref (b)), (2, .ref (mdb b)), (3, .ref (oub G)), (4, .int (l4))] [])
    (kx : ∀ (cells slots : Nat) (w' : xWt), cells ≤ 601024 → slots ≤ 7293034 → xW p l e room_1 s m args below meth c Q b 9 (CW G b w') cells slots 2171 [(0, .ref sb), (1, .ref b), (2, .ref (mdb b)), (3, .ref (oub G))] []) : xW p l e room_1 s m args below meth c Q b 9 (CW G b w) cells slots 2054 [(0, .ref (sb)), (1, .ref (b)), (2, .ref (mdb b)), (3, .ref (oub G)), (4, .int (l4))] [] := by
  unfold K_law_35 at hF
  refine x_aload_n (pc := 2054) C 1 dL_law_2054 rfl rfl ?_
  refine cV1_0 (pc := 2055) (val := Value.int) C hF (fun _ _ h => c_X7_mostHeld l G b  h) vm_X7_mostHeld wq1220 rfl rfl ⟨Nat.le_of_ble_eq_true rfl, Nat.le_of_ble_eq_true rfl⟩ rfl rfl (fun _ h => CW.pl h) (Nat.le_of_ble_eq_true rfl) ⟨show cells ≤ 601024 by omega, show slots ≤ 7293034 by omega⟩ dL_law_2055 (fun x24 w23 hF => ?_)
  refine x_aload_n (pc := 2058) C 2 dL_law_2058 rfl rfl ?_
  refine cV1_0 (pc := 2059) (val := Value.int) C hF (fun _ _ h => c_X8_mostHeld l G b  h) vm_X8_mostHeld wq1228 rfl rfl ⟨Nat.le_of_ble_eq_true rfl, Nat.le_of_ble_eq_true rfl⟩ rfl rfl (fun _ h => CW.md h) (Nat.le_of_ble_eq_true rfl) ⟨show cells ≤ 601024 by omega, show slots ≤ 7293034 by omega⟩ dL_law_2059 (fun x26 w25 hF => ?_)
  refine x_icmp_eq (pc := 2062) C 2165 dL_law_2062 rfl hF (fun c27 hF => ?_) (fun c27 hF => ?_)
  · refine x_iinc (pc := 2165) C 4 [(4, .int ((l4 + 4))), (0, .ref (sb)), (1, .ref (b)), (2, .ref (mdb b)), (3, .ref (oub G))] dL_law_2165 rfl rfl (by decide) rfl ?_
    refine x_goto (pc := 2168) C 23 dL_law_2168 rfl ?_
    exact x_sub [1, 2, 3, 4, 0] rfl (ih _ _ _ _ (by omega) (by omega) hF kx)
  · exact none_ne hF
set_option maxRecDepth 4000 in
theorem k_law_34 (C : xC p m c s args meth G b cL_law 9 RL) (hl : l.stackTraces = false) (hX : xF b s) (hS : xS b sb L xs s) (rec : Int32 → xWt → Option Unit) (n9 cells slots : Nat) (hc : cells + 10 * (n9 + 1) ≤ 601024) (hs : slots + 100 * (n9 + 1) ≤ 7293034) (l4 : Int32) (w : xWt) (hF : K_law_34 xs L rec l4 w = some ())
    (ih : ∀ (cells slots : Nat) (l4 : Int32) (w : xWt), cells + 10 * n9 ≤ 601024 → slots + 100 * n9 ≤ 7293034 → rec l4 w = some () → (∀ (cells slots : Nat) (w' : xWt), cells ≤ 601024 → slots ≤ 7293034 → xW p l e room_1 s m args below meth c Q b 9 (CW G b w') cells slots 2171 [(0, .ref sb), (1, .ref b), (2, .ref (mdb b)), (3, .ref (oub G))] []) → xW p l e room_1 s m args below meth c Q b 9 (CW G b w) cells slots 23 [(0, .ref (sb)), (1, .ref (b)), (2, .ref (mdb b)), (3, .ref (oub G)), (4, .int (l4))] [])
    (kx : ∀ (cells slots : Nat) (w' : xWt), cells ≤ 601024 → slots ≤ 7293034 → xW p l e room_1 s m args below meth c Q b 9 (CW G b w') cells slots 2171 [(0, .ref sb), (1, .ref b), (2, .ref (mdb b)), (3, .ref (oub G))] []) : xW p l e room_1 s m args below meth c Q b 9 (CW G b w) cells slots 2041 [(0, .ref (sb)), (1, .ref (b)), (2, .ref (mdb b)), (3, .ref (oub G)), (4, .int (l4))] [] := by
  unfold K_law_34 at hF
  refine x_aload_n (pc := 2041) C 1 dL_law_2041 rfl rfl ?_
  refine cV1_0 (pc := 2042) (val := Value.int) C hF (fun _ _ h => c_X7_ifAllRested l G b  h) vm_X7_ifAllRested wq1208 rfl rfl ⟨Nat.le_of_ble_eq_true rfl, Nat.le_of_ble_eq_true rfl⟩ rfl rfl (fun _ h => CW.pl h) (Nat.le_of_ble_eq_true rfl) ⟨show cells ≤ 601024 by omega, show slots ≤ 7293034 by omega⟩ dL_law_2042 (fun x29 w28 hF => ?_)
  refine x_aload_n (pc := 2045) C 2 dL_law_2045 rfl rfl ?_
  refine cV1_0 (pc := 2046) (val := Value.int) C hF (fun _ _ h => c_X8_ifAllRested l G b  h) vm_X8_ifAllRested wq1216 rfl rfl ⟨Nat.le_of_ble_eq_true rfl, Nat.le_of_ble_eq_true rfl⟩ rfl rfl (fun _ h => CW.md h) (Nat.le_of_ble_eq_true rfl) ⟨show cells ≤ 601024 by omega, show slots ≤ 7293034 by omega⟩ dL_law_2046 (fun x31 w30 hF => ?_)
  refine x_icmp_eq (pc := 2049) C 2165 dL_law_2049 rfl hF (fun c32 hF => ?_) (fun c32 hF => ?_)
  · refine x_iinc (pc := 2165) C 4 [(4, .int ((l4 + 4))), (0, .ref (sb)), (1, .ref (b)), (2, .ref (mdb b)), (3, .ref (oub G))] dL_law_2165 rfl rfl (by decide) rfl ?_
    refine x_goto (pc := 2168) C 23 dL_law_2168 rfl ?_
    exact x_sub [1, 2, 3, 4, 0] rfl (ih _ _ _ _ (by omega) (by omega) hF kx)
  · exact none_ne hF
set_option maxRecDepth 4000 in
theorem k_law_33 (C : xC p m c s args meth G b cL_law 9 RL) (hl : l.stackTraces = false) (hX : xF b s) (hS : xS b sb L xs s) (rec : Int32 → xWt → Option Unit) (n9 cells slots : Nat) (hc : cells + 10 * (n9 + 1) ≤ 601024) (hs : slots + 100 * (n9 + 1) ≤ 7293034) (l4 : Int32) (w : xWt) (hF : K_law_33 xs L rec l4 w = some ())
    (ih : ∀ (cells slots : Nat) (l4 : Int32) (w : xWt), cells + 10 * n9 ≤ 601024 → slots + 100 * n9 ≤ 7293034 → rec l4 w = some () → (∀ (cells slots : Nat) (w' : xWt), cells ≤ 601024 → slots ≤ 7293034 → xW p l e room_1 s m args below meth c Q b 9 (CW G b w') cells slots 2171 [(0, .ref sb), (1, .ref b), (2, .ref (mdb b)), (3, .ref (oub G))] []) → xW p l e room_1 s m args below meth c Q b 9 (CW G b w) cells slots 23 [(0, .ref (sb)), (1, .ref (b)), (2, .ref (mdb b)), (3, .ref (oub G)), (4, .int (l4))] [])
    (kx : ∀ (cells slots : Nat) (w' : xWt), cells ≤ 601024 → slots ≤ 7293034 → xW p l e room_1 s m args below meth c Q b 9 (CW G b w') cells slots 2171 [(0, .ref sb), (1, .ref b), (2, .ref (mdb b)), (3, .ref (oub G))] []) : xW p l e room_1 s m args below meth c Q b 9 (CW G b w) cells slots 1985 [(0, .ref (sb)), (1, .ref (b)), (2, .ref (mdb b)), (3, .ref (oub G)), (4, .int (l4))] [] := by
  unfold K_law_33 at hF
  refine x_aload_n (pc := 1985) C 1 dL_law_1985 rfl rfl ?_
  refine x_aload_n (pc := 1986) C 0 dL_law_1986 rfl rfl ?_
  refine x_iload (pc := 1987) C 4 dL_law_1987 rfl ?_
  refine x_iconst (pc := 1989) C 1 dL_law_1989 ki_1 ?_
  refine x_iadd (pc := 1990) C dL_law_1990 ?_
  refine x_sld (pc := 1991) C hS hF dL_law_1991 (fun x33 hF => ?_)
  refine x_aload_n (pc := 1992) C 3 dL_law_1992 rfl rfl ?_
  refine cL1_3 (pc := 1993) C hX hF (fun _ _ h => c_L_ifRested l G b hl _ h) wq1191 wq133 wq1190 hd_L_ifRested wq1189 rfl rfl ⟨Nat.le_of_ble_eq_true rfl, Nat.le_of_ble_eq_true rfl⟩ (Nat.le_of_ble_eq_true rfl) ⟨show cells + 1 ≤ 601024 by omega, show slots + 6 ≤ 7293034 by omega⟩ dL_law_1993 (fun x34 w35 hF => ?_)
  refine x_istore (pc := 1996) C [(5, .int (x34)), (0, .ref (sb)), (1, .ref (b)), (2, .ref (mdb b)), (3, .ref (oub G)), (4, .int (l4))] dL_law_1996 (by decide) rfl ?_
  refine x_aload_n (pc := 1998) C 3 dL_law_1998 rfl rfl ?_
  refine x_aload_n (pc := 1999) C 1 dL_law_1999 rfl rfl ?_
  refine x_iload (pc := 2000) C 5 dL_law_2000 rfl ?_
  refine x_iconst (pc := 2002) C 1 dL_law_2002 ki_1 ?_
  refine x_iadd (pc := 2003) C dL_law_2003 ?_
  refine x_sld (pc := 2004) C hS hF dL_law_2004 (fun x36 hF => ?_)
  refine cV1_1 (pc := 2005) (val := Value.int) C hF (fun _ _ h => c_X8_ifRested l G b  _ h) vm_X8_ifRested wq1200 rfl rfl ⟨Nat.le_of_ble_eq_true rfl, Nat.le_of_ble_eq_true rfl⟩ rfl rfl (fun _ h => CW.md h) (Nat.le_of_ble_eq_true rfl) ⟨show cells + 1 ≤ 601024 by omega, show slots + 6 ≤ 7293034 by omega⟩ dL_law_2005 (fun x38 w37 hF => ?_)
  refine x_istore (pc := 2008) C [(6, .int (x38)), (5, .int (x34)), (0, .ref (sb)), (1, .ref (b)), (2, .ref (mdb b)), (3, .ref (oub G)), (4, .int (l4))] dL_law_2008 (by decide) rfl ?_
  refine x_aload_n (pc := 2010) C 4 dL_law_2010 rfl rfl ?_
  refine cV1_0 (pc := 2011) (val := Value.int) C hF (fun _ _ h => c_X8_thrown l G b  h) vm_X8_thrown wq230 rfl rfl ⟨Nat.le_of_ble_eq_true rfl, Nat.le_of_ble_eq_true rfl⟩ rfl rfl (fun _ h => CW.md h) (Nat.le_of_ble_eq_true rfl) ⟨show cells + 1 ≤ 601024 by omega, show slots + 6 ≤ 7293034 by omega⟩ dL_law_2011 (fun x40 w39 hF => ?_)
  refine x_iload (pc := 2014) C 1 dL_law_2014 rfl ?_
  refine x_icmp_eq (pc := 2016) C 2021 dL_law_2016 rfl hF (fun c44 hF => ?_) (fun c44 hF => ?_)
  · refine x_iload (pc := 2021) C 1 dL_law_2021 rfl ?_
    refine x_if_ne (pc := 2023) C 2038 dL_law_2023 rfl hF (fun c43 hF => ?_) (fun c43 hF => ?_)
    · refine x_goto (pc := 2038) C 2165 dL_law_2038 rfl ?_
      refine x_iinc (pc := 2165) C 6 [(4, .int ((l4 + 4))), (6, .int (x38)), (5, .int (x34)), (0, .ref (sb)), (1, .ref (b)), (2, .ref (mdb b)), (3, .ref (oub G))] dL_law_2165 rfl rfl (by decide) rfl ?_
      refine x_goto (pc := 2168) C 23 dL_law_2168 rfl ?_
      exact x_sub [3, 4, 5, 6, 0] rfl (ih _ _ _ _ (by omega) (by omega) hF kx)
    · refine x_aload_n (pc := 2026) C 5 dL_law_2026 rfl rfl ?_
      refine x_iconst (pc := 2027) C 0 dL_law_2027 ki_0 ?_
      refine w_lald (pc := 2028) C hF dL_law_2028 (fun x41 hF => ?_)
      refine x_iload (pc := 2029) C 0 dL_law_2029 rfl ?_
      refine x_i2l (pc := 2031) C dL_law_2031 ?_
      refine x_lcmp (pc := 2032) C dL_law_2032 ?_
      refine x_if_eq (pc := 2033) C 2038 dL_law_2033 rfl hF (fun c42 hF => ?_) (fun c42 hF => ?_)
      · refine x_goto (pc := 2038) C 2165 dL_law_2038 rfl ?_
        refine x_iinc (pc := 2165) C 6 [(4, .int ((l4 + 4))), (6, .int (x38)), (5, .int (x34)), (0, .ref (sb)), (1, .ref (b)), (2, .ref (mdb b)), (3, .ref (oub G))] dL_law_2165 rfl rfl (by decide) rfl ?_
        refine x_goto (pc := 2168) C 23 dL_law_2168 rfl ?_
        exact x_sub [3, 4, 5, 6, 0] rfl (ih _ _ _ _ (by omega) (by omega) hF kx)
      · exact none_ne hF
  · exact none_ne hF
set_option maxRecDepth 4000 in
theorem k_law_32 (C : xC p m c s args meth G b cL_law 9 RL) (hl : l.stackTraces = false) (hX : xF b s) (hS : xS b sb L xs s) (rec : Int32 → xWt → Option Unit) (n9 cells slots : Nat) (hc : cells + 10 * (n9 + 1) ≤ 601024) (hs : slots + 100 * (n9 + 1) ≤ 7293034) (l4 : Int32) (w : xWt) (hF : K_law_32 xs L rec l4 w = some ())
    (ih : ∀ (cells slots : Nat) (l4 : Int32) (w : xWt), cells + 10 * n9 ≤ 601024 → slots + 100 * n9 ≤ 7293034 → rec l4 w = some () → (∀ (cells slots : Nat) (w' : xWt), cells ≤ 601024 → slots ≤ 7293034 → xW p l e room_1 s m args below meth c Q b 9 (CW G b w') cells slots 2171 [(0, .ref sb), (1, .ref b), (2, .ref (mdb b)), (3, .ref (oub G))] []) → xW p l e room_1 s m args below meth c Q b 9 (CW G b w) cells slots 23 [(0, .ref (sb)), (1, .ref (b)), (2, .ref (mdb b)), (3, .ref (oub G)), (4, .int (l4))] [])
    (kx : ∀ (cells slots : Nat) (w' : xWt), cells ≤ 601024 → slots ≤ 7293034 → xW p l e room_1 s m args below meth c Q b 9 (CW G b w') cells slots 2171 [(0, .ref sb), (1, .ref b), (2, .ref (mdb b)), (3, .ref (oub G))] []) : xW p l e room_1 s m args below meth c Q b 9 (CW G b w) cells slots 1972 [(0, .ref (sb)), (1, .ref (b)), (2, .ref (mdb b)), (3, .ref (oub G)), (4, .int (l4))] [] := by
  unfold K_law_32 at hF
  refine x_aload_n (pc := 1972) C 1 dL_law_1972 rfl rfl ?_
  refine cV1_0 (pc := 1973) (val := Value.int) C hF (fun _ _ h => c_X7_late l G b  h) vm_X7_late wq1180 rfl rfl ⟨Nat.le_of_ble_eq_true rfl, Nat.le_of_ble_eq_true rfl⟩ rfl rfl (fun _ h => CW.pl h) (Nat.le_of_ble_eq_true rfl) ⟨show cells ≤ 601024 by omega, show slots ≤ 7293034 by omega⟩ dL_law_1973 (fun x46 w45 hF => ?_)
  refine x_aload_n (pc := 1976) C 2 dL_law_1976 rfl rfl ?_
  refine cV1_0 (pc := 1977) (val := Value.int) C hF (fun _ _ h => c_X8_late l G b  h) vm_X8_late wq1185 rfl rfl ⟨Nat.le_of_ble_eq_true rfl, Nat.le_of_ble_eq_true rfl⟩ rfl rfl (fun _ h => CW.md h) (Nat.le_of_ble_eq_true rfl) ⟨show cells ≤ 601024 by omega, show slots ≤ 7293034 by omega⟩ dL_law_1977 (fun x48 w47 hF => ?_)
  refine x_icmp_eq (pc := 1980) C 2165 dL_law_1980 rfl hF (fun c49 hF => ?_) (fun c49 hF => ?_)
  · refine x_iinc (pc := 2165) C 4 [(4, .int ((l4 + 4))), (0, .ref (sb)), (1, .ref (b)), (2, .ref (mdb b)), (3, .ref (oub G))] dL_law_2165 rfl rfl (by decide) rfl ?_
    refine x_goto (pc := 2168) C 23 dL_law_2168 rfl ?_
    exact x_sub [1, 2, 3, 4, 0] rfl (ih _ _ _ _ (by omega) (by omega) hF kx)
  · exact none_ne hF
set_option maxRecDepth 4000 in
theorem k_law_31 (C : xC p m c s args meth G b cL_law 9 RL) (hl : l.stackTraces = false) (hX : xF b s) (hS : xS b sb L xs s) (rec : Int32 → xWt → Option Unit) (n9 cells slots : Nat) (hc : cells + 10 * (n9 + 1) ≤ 601024) (hs : slots + 100 * (n9 + 1) ≤ 7293034) (l4 : Int32) (w : xWt) (hF : K_law_31 xs L rec l4 w = some ())
    (ih : ∀ (cells slots : Nat) (l4 : Int32) (w : xWt), cells + 10 * n9 ≤ 601024 → slots + 100 * n9 ≤ 7293034 → rec l4 w = some () → (∀ (cells slots : Nat) (w' : xWt), cells ≤ 601024 → slots ≤ 7293034 → xW p l e room_1 s m args below meth c Q b 9 (CW G b w') cells slots 2171 [(0, .ref sb), (1, .ref b), (2, .ref (mdb b)), (3, .ref (oub G))] []) → xW p l e room_1 s m args below meth c Q b 9 (CW G b w) cells slots 23 [(0, .ref (sb)), (1, .ref (b)), (2, .ref (mdb b)), (3, .ref (oub G)), (4, .int (l4))] [])
    (kx : ∀ (cells slots : Nat) (w' : xWt), cells ≤ 601024 → slots ≤ 7293034 → xW p l e room_1 s m args below meth c Q b 9 (CW G b w') cells slots 2171 [(0, .ref sb), (1, .ref b), (2, .ref (mdb b)), (3, .ref (oub G))] []) : xW p l e room_1 s m args below meth c Q b 9 (CW G b w) cells slots 1904 [(0, .ref (sb)), (1, .ref (b)), (2, .ref (mdb b)), (3, .ref (oub G)), (4, .int (l4))] [] := by
  unfold K_law_31 at hF
  refine x_aload_n (pc := 1904) C 1 dL_law_1904 rfl rfl ?_
  refine x_aload_n (pc := 1905) C 0 dL_law_1905 rfl rfl ?_
  refine x_iload (pc := 1906) C 4 dL_law_1906 rfl ?_
  refine x_iconst (pc := 1908) C 1 dL_law_1908 ki_1 ?_
  refine x_iadd (pc := 1909) C dL_law_1909 ?_
  refine x_sld (pc := 1910) C hS hF dL_law_1910 (fun x50 hF => ?_)
  refine x_aload_n (pc := 1911) C 0 dL_law_1911 rfl rfl ?_
  refine x_iload (pc := 1912) C 4 dL_law_1912 rfl ?_
  refine x_iconst (pc := 1914) C 2 dL_law_1914 ki_2 ?_
  refine x_iadd (pc := 1915) C dL_law_1915 ?_
  refine x_sld (pc := 1916) C hS hF dL_law_1916 (fun x51 hF => ?_)
  refine x_aload_n (pc := 1917) C 3 dL_law_1917 rfl rfl ?_
  refine cL1_4 (pc := 1918) C hX hF (fun _ _ h => c_L_ifLoosened l G b hl _ _ h) wq1163 wq133 wq1162 hd_L_ifLoosened wq1161 rfl rfl ⟨Nat.le_of_ble_eq_true rfl, Nat.le_of_ble_eq_true rfl⟩ (Nat.le_of_ble_eq_true rfl) ⟨show cells + 2 ≤ 601024 by omega, show slots + 12 ≤ 7293034 by omega⟩ dL_law_1918 (fun x52 w53 hF => ?_)
  refine x_istore (pc := 1921) C [(5, .int (x52)), (0, .ref (sb)), (1, .ref (b)), (2, .ref (mdb b)), (3, .ref (oub G)), (4, .int (l4))] dL_law_1921 (by decide) rfl ?_
  refine x_aload_n (pc := 1923) C 3 dL_law_1923 rfl rfl ?_
  refine x_aload_n (pc := 1924) C 1 dL_law_1924 rfl rfl ?_
  refine x_iload (pc := 1925) C 5 dL_law_1925 rfl ?_
  refine x_iconst (pc := 1927) C 1 dL_law_1927 ki_1 ?_
  refine x_iadd (pc := 1928) C dL_law_1928 ?_
  refine x_sld (pc := 1929) C hS hF dL_law_1929 (fun x54 hF => ?_)
  refine x_aload_n (pc := 1930) C 1 dL_law_1930 rfl rfl ?_
  refine x_iload (pc := 1931) C 5 dL_law_1931 rfl ?_
  refine x_iconst (pc := 1933) C 2 dL_law_1933 ki_2 ?_
  refine x_iadd (pc := 1934) C dL_law_1934 ?_
  refine x_sld (pc := 1935) C hS hF dL_law_1935 (fun x55 hF => ?_)
  refine cV1_2 (pc := 1936) (val := Value.int) C hF (fun _ _ h => c_X8_ifLoosened l G b  _ _ h) vm_X8_ifLoosened wq1172 rfl rfl ⟨Nat.le_of_ble_eq_true rfl, Nat.le_of_ble_eq_true rfl⟩ rfl rfl (fun _ h => CW.md h) (Nat.le_of_ble_eq_true rfl) ⟨show cells + 2 ≤ 601024 by omega, show slots + 12 ≤ 7293034 by omega⟩ dL_law_1936 (fun x57 w56 hF => ?_)
  refine x_istore (pc := 1939) C [(6, .int (x57)), (5, .int (x52)), (0, .ref (sb)), (1, .ref (b)), (2, .ref (mdb b)), (3, .ref (oub G)), (4, .int (l4))] dL_law_1939 (by decide) rfl ?_
  refine x_aload_n (pc := 1941) C 4 dL_law_1941 rfl rfl ?_
  refine cV1_0 (pc := 1942) (val := Value.int) C hF (fun _ _ h => c_X8_thrown l G b  h) vm_X8_thrown wq230 rfl rfl ⟨Nat.le_of_ble_eq_true rfl, Nat.le_of_ble_eq_true rfl⟩ rfl rfl (fun _ h => CW.md h) (Nat.le_of_ble_eq_true rfl) ⟨show cells + 2 ≤ 601024 by omega, show slots + 12 ≤ 7293034 by omega⟩ dL_law_1942 (fun x59 w58 hF => ?_)
  refine x_iload (pc := 1945) C 1 dL_law_1945 rfl ?_
  refine x_icmp_eq (pc := 1947) C 1952 dL_law_1947 rfl hF (fun c63 hF => ?_) (fun c63 hF => ?_)
  · refine x_iload (pc := 1952) C 1 dL_law_1952 rfl ?_
    refine x_if_ne (pc := 1954) C 1969 dL_law_1954 rfl hF (fun c62 hF => ?_) (fun c62 hF => ?_)
    · refine x_goto (pc := 1969) C 2165 dL_law_1969 rfl ?_
      refine x_iinc (pc := 2165) C 6 [(4, .int ((l4 + 4))), (6, .int (x57)), (5, .int (x52)), (0, .ref (sb)), (1, .ref (b)), (2, .ref (mdb b)), (3, .ref (oub G))] dL_law_2165 rfl rfl (by decide) rfl ?_
      refine x_goto (pc := 2168) C 23 dL_law_2168 rfl ?_
      exact x_sub [3, 4, 5, 6, 0] rfl (ih _ _ _ _ (by omega) (by omega) hF kx)
    · refine x_aload_n (pc := 1957) C 5 dL_law_1957 rfl rfl ?_
      refine x_iconst (pc := 1958) C 0 dL_law_1958 ki_0 ?_
      refine w_lald (pc := 1959) C hF dL_law_1959 (fun x60 hF => ?_)
      refine x_iload (pc := 1960) C 0 dL_law_1960 rfl ?_
      refine x_i2l (pc := 1962) C dL_law_1962 ?_
      refine x_lcmp (pc := 1963) C dL_law_1963 ?_
      refine x_if_eq (pc := 1964) C 1969 dL_law_1964 rfl hF (fun c61 hF => ?_) (fun c61 hF => ?_)
      · refine x_goto (pc := 1969) C 2165 dL_law_1969 rfl ?_
        refine x_iinc (pc := 2165) C 6 [(4, .int ((l4 + 4))), (6, .int (x57)), (5, .int (x52)), (0, .ref (sb)), (1, .ref (b)), (2, .ref (mdb b)), (3, .ref (oub G))] dL_law_2165 rfl rfl (by decide) rfl ?_
        refine x_goto (pc := 2168) C 23 dL_law_2168 rfl ?_
        exact x_sub [3, 4, 5, 6, 0] rfl (ih _ _ _ _ (by omega) (by omega) hF kx)
      · exact none_ne hF
  · exact none_ne hF
set_option maxRecDepth 4000 in
theorem k_law_30 (C : xC p m c s args meth G b cL_law 9 RL) (hl : l.stackTraces = false) (hX : xF b s) (hS : xS b sb L xs s) (rec : Int32 → xWt → Option Unit) (n9 cells slots : Nat) (hc : cells + 10 * (n9 + 1) ≤ 601024) (hs : slots + 100 * (n9 + 1) ≤ 7293034) (l4 : Int32) (w : xWt) (hF : K_law_30 xs L rec l4 w = some ())
    (ih : ∀ (cells slots : Nat) (l4 : Int32) (w : xWt), cells + 10 * n9 ≤ 601024 → slots + 100 * n9 ≤ 7293034 → rec l4 w = some () → (∀ (cells slots : Nat) (w' : xWt), cells ≤ 601024 → slots ≤ 7293034 → xW p l e room_1 s m args below meth c Q b 9 (CW G b w') cells slots 2171 [(0, .ref sb), (1, .ref b), (2, .ref (mdb b)), (3, .ref (oub G))] []) → xW p l e room_1 s m args below meth c Q b 9 (CW G b w) cells slots 23 [(0, .ref (sb)), (1, .ref (b)), (2, .ref (mdb b)), (3, .ref (oub G)), (4, .int (l4))] [])
    (kx : ∀ (cells slots : Nat) (w' : xWt), cells ≤ 601024 → slots ≤ 7293034 → xW p l e room_1 s m args below meth c Q b 9 (CW G b w') cells slots 2171 [(0, .ref sb), (1, .ref b), (2, .ref (mdb b)), (3, .ref (oub G))] []) : xW p l e room_1 s m args below meth c Q b 9 (CW G b w) cells slots 1891 [(0, .ref (sb)), (1, .ref (b)), (2, .ref (mdb b)), (3, .ref (oub G)), (4, .int (l4))] [] := by
  unfold K_law_30 at hF
  refine x_aload_n (pc := 1891) C 1 dL_law_1891 rfl rfl ?_
  refine cV1_0 (pc := 1892) (val := Value.int) C hF (fun _ _ h => c_X7_bestRake l G b  h) vm_X7_bestRake wq1144 rfl rfl ⟨Nat.le_of_ble_eq_true rfl, Nat.le_of_ble_eq_true rfl⟩ rfl rfl (fun _ h => CW.pl h) (Nat.le_of_ble_eq_true rfl) ⟨show cells ≤ 601024 by omega, show slots ≤ 7293034 by omega⟩ dL_law_1892 (fun x65 w64 hF => ?_)
  refine x_aload_n (pc := 1895) C 2 dL_law_1895 rfl rfl ?_
  refine cV1_0 (pc := 1896) (val := Value.int) C hF (fun _ _ h => c_X8_bestRake l G b  h) vm_X8_bestRake wq1153 rfl rfl ⟨Nat.le_of_ble_eq_true rfl, Nat.le_of_ble_eq_true rfl⟩ rfl rfl (fun _ h => CW.md h) (Nat.le_of_ble_eq_true rfl) ⟨show cells ≤ 601024 by omega, show slots ≤ 7293034 by omega⟩ dL_law_1896 (fun x67 w66 hF => ?_)
  refine x_icmp_eq (pc := 1899) C 2165 dL_law_1899 rfl hF (fun c68 hF => ?_) (fun c68 hF => ?_)
  · refine x_iinc (pc := 2165) C 4 [(4, .int ((l4 + 4))), (0, .ref (sb)), (1, .ref (b)), (2, .ref (mdb b)), (3, .ref (oub G))] dL_law_2165 rfl rfl (by decide) rfl ?_
    refine x_goto (pc := 2168) C 23 dL_law_2168 rfl ?_
    exact x_sub [1, 2, 3, 4, 0] rfl (ih _ _ _ _ (by omega) (by omega) hF kx)
  · exact none_ne hF
set_option maxRecDepth 4000 in
theorem k_law_29 (C : xC p m c s args meth G b cL_law 9 RL) (hl : l.stackTraces = false) (hX : xF b s) (hS : xS b sb L xs s) (rec : Int32 → xWt → Option Unit) (n9 cells slots : Nat) (hc : cells + 10 * (n9 + 1) ≤ 601024) (hs : slots + 100 * (n9 + 1) ≤ 7293034) (l4 : Int32) (w : xWt) (hF : K_law_29 xs L rec l4 w = some ())
    (ih : ∀ (cells slots : Nat) (l4 : Int32) (w : xWt), cells + 10 * n9 ≤ 601024 → slots + 100 * n9 ≤ 7293034 → rec l4 w = some () → (∀ (cells slots : Nat) (w' : xWt), cells ≤ 601024 → slots ≤ 7293034 → xW p l e room_1 s m args below meth c Q b 9 (CW G b w') cells slots 2171 [(0, .ref sb), (1, .ref b), (2, .ref (mdb b)), (3, .ref (oub G))] []) → xW p l e room_1 s m args below meth c Q b 9 (CW G b w) cells slots 23 [(0, .ref (sb)), (1, .ref (b)), (2, .ref (mdb b)), (3, .ref (oub G)), (4, .int (l4))] [])
    (kx : ∀ (cells slots : Nat) (w' : xWt), cells ≤ 601024 → slots ≤ 7293034 → xW p l e room_1 s m args below meth c Q b 9 (CW G b w') cells slots 2171 [(0, .ref sb), (1, .ref b), (2, .ref (mdb b)), (3, .ref (oub G))] []) : xW p l e room_1 s m args below meth c Q b 9 (CW G b w) cells slots 1823 [(0, .ref (sb)), (1, .ref (b)), (2, .ref (mdb b)), (3, .ref (oub G)), (4, .int (l4))] [] := by
  unfold K_law_29 at hF
  refine x_aload_n (pc := 1823) C 1 dL_law_1823 rfl rfl ?_
  refine x_aload_n (pc := 1824) C 0 dL_law_1824 rfl rfl ?_
  refine x_iload (pc := 1825) C 4 dL_law_1825 rfl ?_
  refine x_iconst (pc := 1827) C 1 dL_law_1827 ki_1 ?_
  refine x_iadd (pc := 1828) C dL_law_1828 ?_
  refine x_sld (pc := 1829) C hS hF dL_law_1829 (fun x69 hF => ?_)
  refine x_aload_n (pc := 1830) C 0 dL_law_1830 rfl rfl ?_
  refine x_iload (pc := 1831) C 4 dL_law_1831 rfl ?_
  refine x_iconst (pc := 1833) C 2 dL_law_1833 ki_2 ?_
  refine x_iadd (pc := 1834) C dL_law_1834 ?_
  refine x_sld (pc := 1835) C hS hF dL_law_1835 (fun x70 hF => ?_)
  refine x_aload_n (pc := 1836) C 3 dL_law_1836 rfl rfl ?_
  refine cL1_4 (pc := 1837) C hX hF (fun _ _ h => c_L_ifRaked l G b hl _ _ h) wq1127 wq133 wq1126 hd_L_ifRaked wq1125 rfl rfl ⟨Nat.le_of_ble_eq_true rfl, Nat.le_of_ble_eq_true rfl⟩ (Nat.le_of_ble_eq_true rfl) ⟨show cells + 2 ≤ 601024 by omega, show slots + 12 ≤ 7293034 by omega⟩ dL_law_1837 (fun x71 w72 hF => ?_)
  refine x_istore (pc := 1840) C [(5, .int (x71)), (0, .ref (sb)), (1, .ref (b)), (2, .ref (mdb b)), (3, .ref (oub G)), (4, .int (l4))] dL_law_1840 (by decide) rfl ?_
  refine x_aload_n (pc := 1842) C 3 dL_law_1842 rfl rfl ?_
  refine x_aload_n (pc := 1843) C 1 dL_law_1843 rfl rfl ?_
  refine x_iload (pc := 1844) C 5 dL_law_1844 rfl ?_
  refine x_iconst (pc := 1846) C 1 dL_law_1846 ki_1 ?_
  refine x_iadd (pc := 1847) C dL_law_1847 ?_
  refine x_sld (pc := 1848) C hS hF dL_law_1848 (fun x73 hF => ?_)
  refine x_aload_n (pc := 1849) C 1 dL_law_1849 rfl rfl ?_
  refine x_iload (pc := 1850) C 5 dL_law_1850 rfl ?_
  refine x_iconst (pc := 1852) C 2 dL_law_1852 ki_2 ?_
  refine x_iadd (pc := 1853) C dL_law_1853 ?_
  refine x_sld (pc := 1854) C hS hF dL_law_1854 (fun x74 hF => ?_)
  refine cV1_2 (pc := 1855) (val := Value.int) C hF (fun _ _ h => c_X8_ifRaked l G b  _ _ h) vm_X8_ifRaked wq1136 rfl rfl ⟨Nat.le_of_ble_eq_true rfl, Nat.le_of_ble_eq_true rfl⟩ rfl rfl (fun _ h => CW.md h) (Nat.le_of_ble_eq_true rfl) ⟨show cells + 2 ≤ 601024 by omega, show slots + 12 ≤ 7293034 by omega⟩ dL_law_1855 (fun x76 w75 hF => ?_)
  refine x_istore (pc := 1858) C [(6, .int (x76)), (5, .int (x71)), (0, .ref (sb)), (1, .ref (b)), (2, .ref (mdb b)), (3, .ref (oub G)), (4, .int (l4))] dL_law_1858 (by decide) rfl ?_
  refine x_aload_n (pc := 1860) C 4 dL_law_1860 rfl rfl ?_
  refine cV1_0 (pc := 1861) (val := Value.int) C hF (fun _ _ h => c_X8_thrown l G b  h) vm_X8_thrown wq230 rfl rfl ⟨Nat.le_of_ble_eq_true rfl, Nat.le_of_ble_eq_true rfl⟩ rfl rfl (fun _ h => CW.md h) (Nat.le_of_ble_eq_true rfl) ⟨show cells + 2 ≤ 601024 by omega, show slots + 12 ≤ 7293034 by omega⟩ dL_law_1861 (fun x78 w77 hF => ?_)
  refine x_iload (pc := 1864) C 1 dL_law_1864 rfl ?_
  refine x_icmp_eq (pc := 1866) C 1871 dL_law_1866 rfl hF (fun c82 hF => ?_) (fun c82 hF => ?_)
  · refine x_iload (pc := 1871) C 1 dL_law_1871 rfl ?_
    refine x_if_ne (pc := 1873) C 1888 dL_law_1873 rfl hF (fun c81 hF => ?_) (fun c81 hF => ?_)
    · refine x_goto (pc := 1888) C 2165 dL_law_1888 rfl ?_
      refine x_iinc (pc := 2165) C 6 [(4, .int ((l4 + 4))), (6, .int (x76)), (5, .int (x71)), (0, .ref (sb)), (1, .ref (b)), (2, .ref (mdb b)), (3, .ref (oub G))] dL_law_2165 rfl rfl (by decide) rfl ?_
      refine x_goto (pc := 2168) C 23 dL_law_2168 rfl ?_
      exact x_sub [3, 4, 5, 6, 0] rfl (ih _ _ _ _ (by omega) (by omega) hF kx)
    · refine x_aload_n (pc := 1876) C 5 dL_law_1876 rfl rfl ?_
      refine x_iconst (pc := 1877) C 0 dL_law_1877 ki_0 ?_
      refine w_lald (pc := 1878) C hF dL_law_1878 (fun x79 hF => ?_)
      refine x_iload (pc := 1879) C 0 dL_law_1879 rfl ?_
      refine x_i2l (pc := 1881) C dL_law_1881 ?_
      refine x_lcmp (pc := 1882) C dL_law_1882 ?_
      refine x_if_eq (pc := 1883) C 1888 dL_law_1883 rfl hF (fun c80 hF => ?_) (fun c80 hF => ?_)
      · refine x_goto (pc := 1888) C 2165 dL_law_1888 rfl ?_
        refine x_iinc (pc := 2165) C 6 [(4, .int ((l4 + 4))), (6, .int (x76)), (5, .int (x71)), (0, .ref (sb)), (1, .ref (b)), (2, .ref (mdb b)), (3, .ref (oub G))] dL_law_2165 rfl rfl (by decide) rfl ?_
        refine x_goto (pc := 2168) C 23 dL_law_2168 rfl ?_
        exact x_sub [3, 4, 5, 6, 0] rfl (ih _ _ _ _ (by omega) (by omega) hF kx)
      · exact none_ne hF
  · exact none_ne hF
set_option maxRecDepth 4000 in
theorem k_law_28 (C : xC p m c s args meth G b cL_law 9 RL) (hl : l.stackTraces = false) (hX : xF b s) (hS : xS b sb L xs s) (rec : Int32 → xWt → Option Unit) (n9 cells slots : Nat) (hc : cells + 10 * (n9 + 1) ≤ 601024) (hs : slots + 100 * (n9 + 1) ≤ 7293034) (l4 : Int32) (w : xWt) (hF : K_law_28 xs L rec l4 w = some ())
    (ih : ∀ (cells slots : Nat) (l4 : Int32) (w : xWt), cells + 10 * n9 ≤ 601024 → slots + 100 * n9 ≤ 7293034 → rec l4 w = some () → (∀ (cells slots : Nat) (w' : xWt), cells ≤ 601024 → slots ≤ 7293034 → xW p l e room_1 s m args below meth c Q b 9 (CW G b w') cells slots 2171 [(0, .ref sb), (1, .ref b), (2, .ref (mdb b)), (3, .ref (oub G))] []) → xW p l e room_1 s m args below meth c Q b 9 (CW G b w) cells slots 23 [(0, .ref (sb)), (1, .ref (b)), (2, .ref (mdb b)), (3, .ref (oub G)), (4, .int (l4))] [])
    (kx : ∀ (cells slots : Nat) (w' : xWt), cells ≤ 601024 → slots ≤ 7293034 → xW p l e room_1 s m args below meth c Q b 9 (CW G b w') cells slots 2171 [(0, .ref sb), (1, .ref b), (2, .ref (mdb b)), (3, .ref (oub G))] []) : xW p l e room_1 s m args below meth c Q b 9 (CW G b w) cells slots 1767 [(0, .ref (sb)), (1, .ref (b)), (2, .ref (mdb b)), (3, .ref (oub G)), (4, .int (l4))] [] := by
  unfold K_law_28 at hF
  refine x_aload_n (pc := 1767) C 1 dL_law_1767 rfl rfl ?_
  refine x_aload_n (pc := 1768) C 0 dL_law_1768 rfl rfl ?_
  refine x_iload (pc := 1769) C 4 dL_law_1769 rfl ?_
  refine x_iconst (pc := 1771) C 1 dL_law_1771 ki_1 ?_
  refine x_iadd (pc := 1772) C dL_law_1772 ?_
  refine x_sld (pc := 1773) C hS hF dL_law_1773 (fun x83 hF => ?_)
  refine x_aload_n (pc := 1774) C 3 dL_law_1774 rfl rfl ?_
  refine cL1_3 (pc := 1775) C hX hF (fun _ _ h => c_L_why l G b hl _ h) wq1108 wq133 wq1107 hd_L_why wq1106 rfl rfl ⟨Nat.le_of_ble_eq_true rfl, Nat.le_of_ble_eq_true rfl⟩ (Nat.le_of_ble_eq_true rfl) ⟨show cells + 1 ≤ 601024 by omega, show slots + 6 ≤ 7293034 by omega⟩ dL_law_1775 (fun x84 w85 hF => ?_)
  refine x_istore (pc := 1778) C [(5, .int (x84)), (0, .ref (sb)), (1, .ref (b)), (2, .ref (mdb b)), (3, .ref (oub G)), (4, .int (l4))] dL_law_1778 (by decide) rfl ?_
  refine x_aload_n (pc := 1780) C 3 dL_law_1780 rfl rfl ?_
  refine x_aload_n (pc := 1781) C 1 dL_law_1781 rfl rfl ?_
  refine x_iload (pc := 1782) C 5 dL_law_1782 rfl ?_
  refine x_iconst (pc := 1784) C 1 dL_law_1784 ki_1 ?_
  refine x_iadd (pc := 1785) C dL_law_1785 ?_
  refine x_sld (pc := 1786) C hS hF dL_law_1786 (fun x86 hF => ?_)
  refine cV1_1 (pc := 1787) (val := Value.int) C hF (fun _ _ h => c_X8_why l G b  _ h) vm_X8_why wq1117 rfl rfl ⟨Nat.le_of_ble_eq_true rfl, Nat.le_of_ble_eq_true rfl⟩ rfl rfl (fun _ h => CW.md h) (Nat.le_of_ble_eq_true rfl) ⟨show cells + 1 ≤ 601024 by omega, show slots + 6 ≤ 7293034 by omega⟩ dL_law_1787 (fun x88 w87 hF => ?_)
  refine x_istore (pc := 1790) C [(6, .int (x88)), (5, .int (x84)), (0, .ref (sb)), (1, .ref (b)), (2, .ref (mdb b)), (3, .ref (oub G)), (4, .int (l4))] dL_law_1790 (by decide) rfl ?_
  refine x_aload_n (pc := 1792) C 4 dL_law_1792 rfl rfl ?_
  refine cV1_0 (pc := 1793) (val := Value.int) C hF (fun _ _ h => c_X8_thrown l G b  h) vm_X8_thrown wq230 rfl rfl ⟨Nat.le_of_ble_eq_true rfl, Nat.le_of_ble_eq_true rfl⟩ rfl rfl (fun _ h => CW.md h) (Nat.le_of_ble_eq_true rfl) ⟨show cells + 1 ≤ 601024 by omega, show slots + 6 ≤ 7293034 by omega⟩ dL_law_1793 (fun x90 w89 hF => ?_)
  refine x_iload (pc := 1796) C 1 dL_law_1796 rfl ?_
  refine x_icmp_eq (pc := 1798) C 1803 dL_law_1798 rfl hF (fun c94 hF => ?_) (fun c94 hF => ?_)
  · refine x_iload (pc := 1803) C 1 dL_law_1803 rfl ?_
    refine x_if_ne (pc := 1805) C 1820 dL_law_1805 rfl hF (fun c93 hF => ?_) (fun c93 hF => ?_)
    · refine x_goto (pc := 1820) C 2165 dL_law_1820 rfl ?_
      refine x_iinc (pc := 2165) C 6 [(4, .int ((l4 + 4))), (6, .int (x88)), (5, .int (x84)), (0, .ref (sb)), (1, .ref (b)), (2, .ref (mdb b)), (3, .ref (oub G))] dL_law_2165 rfl rfl (by decide) rfl ?_
      refine x_goto (pc := 2168) C 23 dL_law_2168 rfl ?_
      exact x_sub [3, 4, 5, 6, 0] rfl (ih _ _ _ _ (by omega) (by omega) hF kx)
    · refine x_aload_n (pc := 1808) C 5 dL_law_1808 rfl rfl ?_
      refine x_iconst (pc := 1809) C 0 dL_law_1809 ki_0 ?_
      refine w_lald (pc := 1810) C hF dL_law_1810 (fun x91 hF => ?_)
      refine x_iload (pc := 1811) C 0 dL_law_1811 rfl ?_
      refine x_i2l (pc := 1813) C dL_law_1813 ?_
      refine x_lcmp (pc := 1814) C dL_law_1814 ?_
      refine x_if_eq (pc := 1815) C 1820 dL_law_1815 rfl hF (fun c92 hF => ?_) (fun c92 hF => ?_)
      · refine x_goto (pc := 1820) C 2165 dL_law_1820 rfl ?_
        refine x_iinc (pc := 2165) C 6 [(4, .int ((l4 + 4))), (6, .int (x88)), (5, .int (x84)), (0, .ref (sb)), (1, .ref (b)), (2, .ref (mdb b)), (3, .ref (oub G))] dL_law_2165 rfl rfl (by decide) rfl ?_
        refine x_goto (pc := 2168) C 23 dL_law_2168 rfl ?_
        exact x_sub [3, 4, 5, 6, 0] rfl (ih _ _ _ _ (by omega) (by omega) hF kx)
      · exact none_ne hF
  · exact none_ne hF
set_option maxRecDepth 4000 in
theorem k_law_27 (C : xC p m c s args meth G b cL_law 9 RL) (hl : l.stackTraces = false) (hX : xF b s) (hS : xS b sb L xs s) (rec : Int32 → xWt → Option Unit) (n9 cells slots : Nat) (hc : cells + 10 * (n9 + 1) ≤ 601024) (hs : slots + 100 * (n9 + 1) ≤ 7293034) (l4 : Int32) (w : xWt) (hF : K_law_27 xs L rec l4 w = some ())
    (ih : ∀ (cells slots : Nat) (l4 : Int32) (w : xWt), cells + 10 * n9 ≤ 601024 → slots + 100 * n9 ≤ 7293034 → rec l4 w = some () → (∀ (cells slots : Nat) (w' : xWt), cells ≤ 601024 → slots ≤ 7293034 → xW p l e room_1 s m args below meth c Q b 9 (CW G b w') cells slots 2171 [(0, .ref sb), (1, .ref b), (2, .ref (mdb b)), (3, .ref (oub G))] []) → xW p l e room_1 s m args below meth c Q b 9 (CW G b w) cells slots 23 [(0, .ref (sb)), (1, .ref (b)), (2, .ref (mdb b)), (3, .ref (oub G)), (4, .int (l4))] [])
    (kx : ∀ (cells slots : Nat) (w' : xWt), cells ≤ 601024 → slots ≤ 7293034 → xW p l e room_1 s m args below meth c Q b 9 (CW G b w') cells slots 2171 [(0, .ref sb), (1, .ref b), (2, .ref (mdb b)), (3, .ref (oub G))] []) : xW p l e room_1 s m args below meth c Q b 9 (CW G b w) cells slots 1711 [(0, .ref (sb)), (1, .ref (b)), (2, .ref (mdb b)), (3, .ref (oub G)), (4, .int (l4))] [] := by
  unfold K_law_27 at hF
  refine x_aload_n (pc := 1711) C 1 dL_law_1711 rfl rfl ?_
  refine x_aload_n (pc := 1712) C 0 dL_law_1712 rfl rfl ?_
  refine x_iload (pc := 1713) C 4 dL_law_1713 rfl ?_
  refine x_iconst (pc := 1715) C 1 dL_law_1715 ki_1 ?_
  refine x_iadd (pc := 1716) C dL_law_1716 ?_
  refine x_sld (pc := 1717) C hS hF dL_law_1717 (fun x95 hF => ?_)
  refine x_aload_n (pc := 1718) C 3 dL_law_1718 rfl rfl ?_
  refine cL1_3 (pc := 1719) C hX hF (fun _ _ h => c_L_setting l G b hl _ h) wq1096 wq133 wq1095 hd_L_setting wq1094 rfl rfl ⟨Nat.le_of_ble_eq_true rfl, Nat.le_of_ble_eq_true rfl⟩ (Nat.le_of_ble_eq_true rfl) ⟨show cells + 1 ≤ 601024 by omega, show slots + 6 ≤ 7293034 by omega⟩ dL_law_1719 (fun x96 w97 hF => ?_)
  refine x_istore (pc := 1722) C [(5, .int (x96)), (0, .ref (sb)), (1, .ref (b)), (2, .ref (mdb b)), (3, .ref (oub G)), (4, .int (l4))] dL_law_1722 (by decide) rfl ?_
  refine x_aload_n (pc := 1724) C 3 dL_law_1724 rfl rfl ?_
  refine x_aload_n (pc := 1725) C 1 dL_law_1725 rfl rfl ?_
  refine x_iload (pc := 1726) C 5 dL_law_1726 rfl ?_
  refine x_iconst (pc := 1728) C 1 dL_law_1728 ki_1 ?_
  refine x_iadd (pc := 1729) C dL_law_1729 ?_
  refine x_sld (pc := 1730) C hS hF dL_law_1730 (fun x98 hF => ?_)
  refine cV1_1 (pc := 1731) (val := Value.int) C hF (fun _ _ h => c_X8_setting l G b  _ h) vm_X8_setting wq1102 rfl rfl ⟨Nat.le_of_ble_eq_true rfl, Nat.le_of_ble_eq_true rfl⟩ rfl rfl (fun _ h => CW.md h) (Nat.le_of_ble_eq_true rfl) ⟨show cells + 1 ≤ 601024 by omega, show slots + 6 ≤ 7293034 by omega⟩ dL_law_1731 (fun x100 w99 hF => ?_)
  refine x_istore (pc := 1734) C [(6, .int (x100)), (5, .int (x96)), (0, .ref (sb)), (1, .ref (b)), (2, .ref (mdb b)), (3, .ref (oub G)), (4, .int (l4))] dL_law_1734 (by decide) rfl ?_
  refine x_aload_n (pc := 1736) C 4 dL_law_1736 rfl rfl ?_
  refine cV1_0 (pc := 1737) (val := Value.int) C hF (fun _ _ h => c_X8_thrown l G b  h) vm_X8_thrown wq230 rfl rfl ⟨Nat.le_of_ble_eq_true rfl, Nat.le_of_ble_eq_true rfl⟩ rfl rfl (fun _ h => CW.md h) (Nat.le_of_ble_eq_true rfl) ⟨show cells + 1 ≤ 601024 by omega, show slots + 6 ≤ 7293034 by omega⟩ dL_law_1737 (fun x102 w101 hF => ?_)
  refine x_iload (pc := 1740) C 1 dL_law_1740 rfl ?_
  refine x_icmp_eq (pc := 1742) C 1747 dL_law_1742 rfl hF (fun c106 hF => ?_) (fun c106 hF => ?_)
  · refine x_iload (pc := 1747) C 1 dL_law_1747 rfl ?_
    refine x_if_ne (pc := 1749) C 1764 dL_law_1749 rfl hF (fun c105 hF => ?_) (fun c105 hF => ?_)
    · refine x_goto (pc := 1764) C 2165 dL_law_1764 rfl ?_
      refine x_iinc (pc := 2165) C 6 [(4, .int ((l4 + 4))), (6, .int (x100)), (5, .int (x96)), (0, .ref (sb)), (1, .ref (b)), (2, .ref (mdb b)), (3, .ref (oub G))] dL_law_2165 rfl rfl (by decide) rfl ?_
      refine x_goto (pc := 2168) C 23 dL_law_2168 rfl ?_
      exact x_sub [3, 4, 5, 6, 0] rfl (ih _ _ _ _ (by omega) (by omega) hF kx)
    · refine x_aload_n (pc := 1752) C 5 dL_law_1752 rfl rfl ?_
      refine x_iconst (pc := 1753) C 0 dL_law_1753 ki_0 ?_
      refine w_lald (pc := 1754) C hF dL_law_1754 (fun x103 hF => ?_)
      refine x_iload (pc := 1755) C 0 dL_law_1755 rfl ?_
      refine x_i2l (pc := 1757) C dL_law_1757 ?_
      refine x_lcmp (pc := 1758) C dL_law_1758 ?_
      refine x_if_eq (pc := 1759) C 1764 dL_law_1759 rfl hF (fun c104 hF => ?_) (fun c104 hF => ?_)
      · refine x_goto (pc := 1764) C 2165 dL_law_1764 rfl ?_
        refine x_iinc (pc := 2165) C 6 [(4, .int ((l4 + 4))), (6, .int (x100)), (5, .int (x96)), (0, .ref (sb)), (1, .ref (b)), (2, .ref (mdb b)), (3, .ref (oub G))] dL_law_2165 rfl rfl (by decide) rfl ?_
        refine x_goto (pc := 2168) C 23 dL_law_2168 rfl ?_
        exact x_sub [3, 4, 5, 6, 0] rfl (ih _ _ _ _ (by omega) (by omega) hF kx)
      · exact none_ne hF
  · exact none_ne hF
set_option maxRecDepth 4000 in
theorem k_law_26 (C : xC p m c s args meth G b cL_law 9 RL) (hl : l.stackTraces = false) (hX : xF b s) (hS : xS b sb L xs s) (rec : Int32 → xWt → Option Unit) (n9 cells slots : Nat) (hc : cells + 10 * (n9 + 1) ≤ 601024) (hs : slots + 100 * (n9 + 1) ≤ 7293034) (l4 : Int32) (w : xWt) (hF : K_law_26 xs L rec l4 w = some ())
    (ih : ∀ (cells slots : Nat) (l4 : Int32) (w : xWt), cells + 10 * n9 ≤ 601024 → slots + 100 * n9 ≤ 7293034 → rec l4 w = some () → (∀ (cells slots : Nat) (w' : xWt), cells ≤ 601024 → slots ≤ 7293034 → xW p l e room_1 s m args below meth c Q b 9 (CW G b w') cells slots 2171 [(0, .ref sb), (1, .ref b), (2, .ref (mdb b)), (3, .ref (oub G))] []) → xW p l e room_1 s m args below meth c Q b 9 (CW G b w) cells slots 23 [(0, .ref (sb)), (1, .ref (b)), (2, .ref (mdb b)), (3, .ref (oub G)), (4, .int (l4))] [])
    (kx : ∀ (cells slots : Nat) (w' : xWt), cells ≤ 601024 → slots ≤ 7293034 → xW p l e room_1 s m args below meth c Q b 9 (CW G b w') cells slots 2171 [(0, .ref sb), (1, .ref b), (2, .ref (mdb b)), (3, .ref (oub G))] []) : xW p l e room_1 s m args below meth c Q b 9 (CW G b w) cells slots 1655 [(0, .ref (sb)), (1, .ref (b)), (2, .ref (mdb b)), (3, .ref (oub G)), (4, .int (l4))] [] := by
  unfold K_law_26 at hF
  refine x_aload_n (pc := 1655) C 1 dL_law_1655 rfl rfl ?_
  refine x_aload_n (pc := 1656) C 0 dL_law_1656 rfl rfl ?_
  refine x_iload (pc := 1657) C 4 dL_law_1657 rfl ?_
  refine x_iconst (pc := 1659) C 1 dL_law_1659 ki_1 ?_
  refine x_iadd (pc := 1660) C dL_law_1660 ?_
  refine x_sld (pc := 1661) C hS hF dL_law_1661 (fun x107 hF => ?_)
  refine x_aload_n (pc := 1662) C 3 dL_law_1662 rfl rfl ?_
  refine cL1_3 (pc := 1663) C hX hF (fun _ _ h => c_L_count l G b hl _ h) wq1057 wq133 wq1056 hd_L_count wq1055 rfl rfl ⟨Nat.le_of_ble_eq_true rfl, Nat.le_of_ble_eq_true rfl⟩ (Nat.le_of_ble_eq_true rfl) ⟨show cells + 1 ≤ 601024 by omega, show slots + 6 ≤ 7293034 by omega⟩ dL_law_1663 (fun x108 w109 hF => ?_)
  refine x_istore (pc := 1666) C [(5, .int (x108)), (0, .ref (sb)), (1, .ref (b)), (2, .ref (mdb b)), (3, .ref (oub G)), (4, .int (l4))] dL_law_1666 (by decide) rfl ?_
  refine x_aload_n (pc := 1668) C 3 dL_law_1668 rfl rfl ?_
  refine x_aload_n (pc := 1669) C 1 dL_law_1669 rfl rfl ?_
  refine x_iload (pc := 1670) C 5 dL_law_1670 rfl ?_
  refine x_iconst (pc := 1672) C 1 dL_law_1672 ki_1 ?_
  refine x_iadd (pc := 1673) C dL_law_1673 ?_
  refine x_sld (pc := 1674) C hS hF dL_law_1674 (fun x110 hF => ?_)
  refine cV1_1 (pc := 1675) (val := Value.int) C hF (fun _ _ h => c_X8_count l G b  _ h) vm_X8_count wq1086 rfl rfl ⟨Nat.le_of_ble_eq_true rfl, Nat.le_of_ble_eq_true rfl⟩ rfl rfl (fun _ h => CW.md h) (Nat.le_of_ble_eq_true rfl) ⟨show cells + 1 ≤ 601024 by omega, show slots + 6 ≤ 7293034 by omega⟩ dL_law_1675 (fun x112 w111 hF => ?_)
  refine x_istore (pc := 1678) C [(6, .int (x112)), (5, .int (x108)), (0, .ref (sb)), (1, .ref (b)), (2, .ref (mdb b)), (3, .ref (oub G)), (4, .int (l4))] dL_law_1678 (by decide) rfl ?_
  refine x_aload_n (pc := 1680) C 4 dL_law_1680 rfl rfl ?_
  refine cV1_0 (pc := 1681) (val := Value.int) C hF (fun _ _ h => c_X8_thrown l G b  h) vm_X8_thrown wq230 rfl rfl ⟨Nat.le_of_ble_eq_true rfl, Nat.le_of_ble_eq_true rfl⟩ rfl rfl (fun _ h => CW.md h) (Nat.le_of_ble_eq_true rfl) ⟨show cells + 1 ≤ 601024 by omega, show slots + 6 ≤ 7293034 by omega⟩ dL_law_1681 (fun x114 w113 hF => ?_)
  refine x_iload (pc := 1684) C 1 dL_law_1684 rfl ?_
  refine x_icmp_eq (pc := 1686) C 1691 dL_law_1686 rfl hF (fun c118 hF => ?_) (fun c118 hF => ?_)
  · refine x_iload (pc := 1691) C 1 dL_law_1691 rfl ?_
    refine x_if_ne (pc := 1693) C 1708 dL_law_1693 rfl hF (fun c117 hF => ?_) (fun c117 hF => ?_)
    · refine x_goto (pc := 1708) C 2165 dL_law_1708 rfl ?_
      refine x_iinc (pc := 2165) C 6 [(4, .int ((l4 + 4))), (6, .int (x112)), (5, .int (x108)), (0, .ref (sb)), (1, .ref (b)), (2, .ref (mdb b)), (3, .ref (oub G))] dL_law_2165 rfl rfl (by decide) rfl ?_
      refine x_goto (pc := 2168) C 23 dL_law_2168 rfl ?_
      exact x_sub [3, 4, 5, 6, 0] rfl (ih _ _ _ _ (by omega) (by omega) hF kx)
    · refine x_aload_n (pc := 1696) C 5 dL_law_1696 rfl rfl ?_
      refine x_iconst (pc := 1697) C 0 dL_law_1697 ki_0 ?_
      refine w_lald (pc := 1698) C hF dL_law_1698 (fun x115 hF => ?_)
      refine x_iload (pc := 1699) C 0 dL_law_1699 rfl ?_
      refine x_i2l (pc := 1701) C dL_law_1701 ?_
      refine x_lcmp (pc := 1702) C dL_law_1702 ?_
      refine x_if_eq (pc := 1703) C 1708 dL_law_1703 rfl hF (fun c116 hF => ?_) (fun c116 hF => ?_)
      · refine x_goto (pc := 1708) C 2165 dL_law_1708 rfl ?_
        refine x_iinc (pc := 2165) C 6 [(4, .int ((l4 + 4))), (6, .int (x112)), (5, .int (x108)), (0, .ref (sb)), (1, .ref (b)), (2, .ref (mdb b)), (3, .ref (oub G))] dL_law_2165 rfl rfl (by decide) rfl ?_
        refine x_goto (pc := 2168) C 23 dL_law_2168 rfl ?_
        exact x_sub [3, 4, 5, 6, 0] rfl (ih _ _ _ _ (by omega) (by omega) hF kx)
      · exact none_ne hF
  · exact none_ne hF
set_option maxRecDepth 4000 in
theorem k_law_25 (C : xC p m c s args meth G b cL_law 9 RL) (hl : l.stackTraces = false) (hX : xF b s) (hS : xS b sb L xs s) (rec : Int32 → xWt → Option Unit) (n9 cells slots : Nat) (hc : cells + 10 * (n9 + 1) ≤ 601024) (hs : slots + 100 * (n9 + 1) ≤ 7293034) (l4 : Int32) (w : xWt) (hF : K_law_25 xs L rec l4 w = some ())
    (ih : ∀ (cells slots : Nat) (l4 : Int32) (w : xWt), cells + 10 * n9 ≤ 601024 → slots + 100 * n9 ≤ 7293034 → rec l4 w = some () → (∀ (cells slots : Nat) (w' : xWt), cells ≤ 601024 → slots ≤ 7293034 → xW p l e room_1 s m args below meth c Q b 9 (CW G b w') cells slots 2171 [(0, .ref sb), (1, .ref b), (2, .ref (mdb b)), (3, .ref (oub G))] []) → xW p l e room_1 s m args below meth c Q b 9 (CW G b w) cells slots 23 [(0, .ref (sb)), (1, .ref (b)), (2, .ref (mdb b)), (3, .ref (oub G)), (4, .int (l4))] [])
    (kx : ∀ (cells slots : Nat) (w' : xWt), cells ≤ 601024 → slots ≤ 7293034 → xW p l e room_1 s m args below meth c Q b 9 (CW G b w') cells slots 2171 [(0, .ref sb), (1, .ref b), (2, .ref (mdb b)), (3, .ref (oub G))] []) : xW p l e room_1 s m args below meth c Q b 9 (CW G b w) cells slots 1587 [(0, .ref (sb)), (1, .ref (b)), (2, .ref (mdb b)), (3, .ref (oub G)), (4, .int (l4))] [] := by
  unfold K_law_25 at hF
  refine x_aload_n (pc := 1587) C 1 dL_law_1587 rfl rfl ?_
  refine x_aload_n (pc := 1588) C 0 dL_law_1588 rfl rfl ?_
  refine x_iload (pc := 1589) C 4 dL_law_1589 rfl ?_
  refine x_iconst (pc := 1591) C 1 dL_law_1591 ki_1 ?_
  refine x_iadd (pc := 1592) C dL_law_1592 ?_
  refine x_sld (pc := 1593) C hS hF dL_law_1593 (fun x119 hF => ?_)
  refine x_aload_n (pc := 1594) C 0 dL_law_1594 rfl rfl ?_
  refine x_iload (pc := 1595) C 4 dL_law_1595 rfl ?_
  refine x_iconst (pc := 1597) C 2 dL_law_1597 ki_2 ?_
  refine x_iadd (pc := 1598) C dL_law_1598 ?_
  refine x_sld (pc := 1599) C hS hF dL_law_1599 (fun x120 hF => ?_)
  refine x_aload_n (pc := 1600) C 3 dL_law_1600 rfl rfl ?_
  refine cL1_4 (pc := 1601) C hX hF (fun _ _ h => c_L_heap l G b hl _ _ h) wq1045 wq133 wq1044 hd_L_heap wq1043 rfl rfl ⟨Nat.le_of_ble_eq_true rfl, Nat.le_of_ble_eq_true rfl⟩ (Nat.le_of_ble_eq_true rfl) ⟨show cells + 2 ≤ 601024 by omega, show slots + 12 ≤ 7293034 by omega⟩ dL_law_1601 (fun x121 w122 hF => ?_)
  refine x_istore (pc := 1604) C [(5, .int (x121)), (0, .ref (sb)), (1, .ref (b)), (2, .ref (mdb b)), (3, .ref (oub G)), (4, .int (l4))] dL_law_1604 (by decide) rfl ?_
  refine x_aload_n (pc := 1606) C 3 dL_law_1606 rfl rfl ?_
  refine x_aload_n (pc := 1607) C 1 dL_law_1607 rfl rfl ?_
  refine x_iload (pc := 1608) C 5 dL_law_1608 rfl ?_
  refine x_iconst (pc := 1610) C 1 dL_law_1610 ki_1 ?_
  refine x_iadd (pc := 1611) C dL_law_1611 ?_
  refine x_sld (pc := 1612) C hS hF dL_law_1612 (fun x123 hF => ?_)
  refine x_aload_n (pc := 1613) C 1 dL_law_1613 rfl rfl ?_
  refine x_iload (pc := 1614) C 5 dL_law_1614 rfl ?_
  refine x_iconst (pc := 1616) C 2 dL_law_1616 ki_2 ?_
  refine x_iadd (pc := 1617) C dL_law_1617 ?_
  refine x_sld (pc := 1618) C hS hF dL_law_1618 (fun x124 hF => ?_)
  refine cV1_2 (pc := 1619) (val := Value.int) C hF (fun _ _ h => c_X8_heap l G b  _ _ h) vm_X8_heap wq1051 rfl rfl ⟨Nat.le_of_ble_eq_true rfl, Nat.le_of_ble_eq_true rfl⟩ rfl rfl (fun _ h => CW.md h) (Nat.le_of_ble_eq_true rfl) ⟨show cells + 2 ≤ 601024 by omega, show slots + 12 ≤ 7293034 by omega⟩ dL_law_1619 (fun x126 w125 hF => ?_)
  refine x_istore (pc := 1622) C [(6, .int (x126)), (5, .int (x121)), (0, .ref (sb)), (1, .ref (b)), (2, .ref (mdb b)), (3, .ref (oub G)), (4, .int (l4))] dL_law_1622 (by decide) rfl ?_
  refine x_aload_n (pc := 1624) C 4 dL_law_1624 rfl rfl ?_
  refine cV1_0 (pc := 1625) (val := Value.int) C hF (fun _ _ h => c_X8_thrown l G b  h) vm_X8_thrown wq230 rfl rfl ⟨Nat.le_of_ble_eq_true rfl, Nat.le_of_ble_eq_true rfl⟩ rfl rfl (fun _ h => CW.md h) (Nat.le_of_ble_eq_true rfl) ⟨show cells + 2 ≤ 601024 by omega, show slots + 12 ≤ 7293034 by omega⟩ dL_law_1625 (fun x128 w127 hF => ?_)
  refine x_iload (pc := 1628) C 1 dL_law_1628 rfl ?_
  refine x_icmp_eq (pc := 1630) C 1635 dL_law_1630 rfl hF (fun c132 hF => ?_) (fun c132 hF => ?_)
  · refine x_iload (pc := 1635) C 1 dL_law_1635 rfl ?_
    refine x_if_ne (pc := 1637) C 1652 dL_law_1637 rfl hF (fun c131 hF => ?_) (fun c131 hF => ?_)
    · refine x_goto (pc := 1652) C 2165 dL_law_1652 rfl ?_
      refine x_iinc (pc := 2165) C 6 [(4, .int ((l4 + 4))), (6, .int (x126)), (5, .int (x121)), (0, .ref (sb)), (1, .ref (b)), (2, .ref (mdb b)), (3, .ref (oub G))] dL_law_2165 rfl rfl (by decide) rfl ?_
      refine x_goto (pc := 2168) C 23 dL_law_2168 rfl ?_
      exact x_sub [3, 4, 5, 6, 0] rfl (ih _ _ _ _ (by omega) (by omega) hF kx)
    · refine x_aload_n (pc := 1640) C 5 dL_law_1640 rfl rfl ?_
      refine x_iconst (pc := 1641) C 0 dL_law_1641 ki_0 ?_
      refine w_lald (pc := 1642) C hF dL_law_1642 (fun x129 hF => ?_)
      refine x_iload (pc := 1643) C 0 dL_law_1643 rfl ?_
      refine x_i2l (pc := 1645) C dL_law_1645 ?_
      refine x_lcmp (pc := 1646) C dL_law_1646 ?_
      refine x_if_eq (pc := 1647) C 1652 dL_law_1647 rfl hF (fun c130 hF => ?_) (fun c130 hF => ?_)
      · refine x_goto (pc := 1652) C 2165 dL_law_1652 rfl ?_
        refine x_iinc (pc := 2165) C 6 [(4, .int ((l4 + 4))), (6, .int (x126)), (5, .int (x121)), (0, .ref (sb)), (1, .ref (b)), (2, .ref (mdb b)), (3, .ref (oub G))] dL_law_2165 rfl rfl (by decide) rfl ?_
        refine x_goto (pc := 2168) C 23 dL_law_2168 rfl ?_
        exact x_sub [3, 4, 5, 6, 0] rfl (ih _ _ _ _ (by omega) (by omega) hF kx)
      · exact none_ne hF
  · exact none_ne hF
set_option maxRecDepth 4000 in
theorem k_law_24 (C : xC p m c s args meth G b cL_law 9 RL) (hl : l.stackTraces = false) (hX : xF b s) (hS : xS b sb L xs s) (rec : Int32 → xWt → Option Unit) (n9 cells slots : Nat) (hc : cells + 10 * (n9 + 1) ≤ 601024) (hs : slots + 100 * (n9 + 1) ≤ 7293034) (l4 : Int32) (w : xWt) (hF : K_law_24 xs L rec l4 w = some ())
    (ih : ∀ (cells slots : Nat) (l4 : Int32) (w : xWt), cells + 10 * n9 ≤ 601024 → slots + 100 * n9 ≤ 7293034 → rec l4 w = some () → (∀ (cells slots : Nat) (w' : xWt), cells ≤ 601024 → slots ≤ 7293034 → xW p l e room_1 s m args below meth c Q b 9 (CW G b w') cells slots 2171 [(0, .ref sb), (1, .ref b), (2, .ref (mdb b)), (3, .ref (oub G))] []) → xW p l e room_1 s m args below meth c Q b 9 (CW G b w) cells slots 23 [(0, .ref (sb)), (1, .ref (b)), (2, .ref (mdb b)), (3, .ref (oub G)), (4, .int (l4))] [])
    (kx : ∀ (cells slots : Nat) (w' : xWt), cells ≤ 601024 → slots ≤ 7293034 → xW p l e room_1 s m args below meth c Q b 9 (CW G b w') cells slots 2171 [(0, .ref sb), (1, .ref b), (2, .ref (mdb b)), (3, .ref (oub G))] []) : xW p l e room_1 s m args below meth c Q b 9 (CW G b w) cells slots 1507 [(0, .ref (sb)), (1, .ref (b)), (2, .ref (mdb b)), (3, .ref (oub G)), (4, .int (l4))] [] := by
  unfold K_law_24 at hF
  refine x_aload_n (pc := 1507) C 1 dL_law_1507 rfl rfl ?_
  refine x_aload_n (pc := 1508) C 0 dL_law_1508 rfl rfl ?_
  refine x_iload (pc := 1509) C 4 dL_law_1509 rfl ?_
  refine x_iconst (pc := 1511) C 1 dL_law_1511 ki_1 ?_
  refine x_iadd (pc := 1512) C dL_law_1512 ?_
  refine x_sld (pc := 1513) C hS hF dL_law_1513 (fun x133 hF => ?_)
  refine x_aload_n (pc := 1514) C 0 dL_law_1514 rfl rfl ?_
  refine x_iload (pc := 1515) C 4 dL_law_1515 rfl ?_
  refine x_iconst (pc := 1517) C 2 dL_law_1517 ki_2 ?_
  refine x_iadd (pc := 1518) C dL_law_1518 ?_
  refine x_sld (pc := 1519) C hS hF dL_law_1519 (fun x134 hF => ?_)
  refine x_aload_n (pc := 1520) C 0 dL_law_1520 rfl rfl ?_
  refine x_iload (pc := 1521) C 4 dL_law_1521 rfl ?_
  refine x_iconst (pc := 1523) C 3 dL_law_1523 ki_3 ?_
  refine x_iadd (pc := 1524) C dL_law_1524 ?_
  refine x_sld (pc := 1525) C hS hF dL_law_1525 (fun x135 hF => ?_)
  refine x_aload_n (pc := 1526) C 3 dL_law_1526 rfl rfl ?_
  refine cL1_5 (pc := 1527) C hX hF (fun _ _ h => c_L_hook l G b hl _ _ _ h) wq1026 wq133 wq1025 hd_L_hook wq1024 rfl rfl ⟨Nat.le_of_ble_eq_true rfl, Nat.le_of_ble_eq_true rfl⟩ (Nat.le_of_ble_eq_true rfl) ⟨show cells + 3 ≤ 601024 by omega, show slots + 18 ≤ 7293034 by omega⟩ dL_law_1527 (fun x136 w137 hF => ?_)
  refine x_istore (pc := 1530) C [(5, .int (x136)), (0, .ref (sb)), (1, .ref (b)), (2, .ref (mdb b)), (3, .ref (oub G)), (4, .int (l4))] dL_law_1530 (by decide) rfl ?_
  refine x_aload_n (pc := 1532) C 3 dL_law_1532 rfl rfl ?_
  refine x_aload_n (pc := 1533) C 1 dL_law_1533 rfl rfl ?_
  refine x_iload (pc := 1534) C 5 dL_law_1534 rfl ?_
  refine x_iconst (pc := 1536) C 1 dL_law_1536 ki_1 ?_
  refine x_iadd (pc := 1537) C dL_law_1537 ?_
  refine x_sld (pc := 1538) C hS hF dL_law_1538 (fun x138 hF => ?_)
  refine x_aload_n (pc := 1539) C 1 dL_law_1539 rfl rfl ?_
  refine x_iload (pc := 1540) C 5 dL_law_1540 rfl ?_
  refine x_iconst (pc := 1542) C 2 dL_law_1542 ki_2 ?_
  refine x_iadd (pc := 1543) C dL_law_1543 ?_
  refine x_sld (pc := 1544) C hS hF dL_law_1544 (fun x139 hF => ?_)
  refine x_aload_n (pc := 1545) C 1 dL_law_1545 rfl rfl ?_
  refine x_iload (pc := 1546) C 5 dL_law_1546 rfl ?_
  refine x_iconst (pc := 1548) C 3 dL_law_1548 ki_3 ?_
  refine x_iadd (pc := 1549) C dL_law_1549 ?_
  refine x_sld (pc := 1550) C hS hF dL_law_1550 (fun x140 hF => ?_)
  refine cV1_3 (pc := 1551) (val := Value.int) C hF (fun _ _ h => c_X8_hook l G b  _ _ _ h) vm_X8_hook wq1039 rfl rfl ⟨Nat.le_of_ble_eq_true rfl, Nat.le_of_ble_eq_true rfl⟩ rfl rfl (fun _ h => CW.md h) (Nat.le_of_ble_eq_true rfl) ⟨show cells + 3 ≤ 601024 by omega, show slots + 18 ≤ 7293034 by omega⟩ dL_law_1551 (fun x142 w141 hF => ?_)
  refine x_istore (pc := 1554) C [(6, .int (x142)), (5, .int (x136)), (0, .ref (sb)), (1, .ref (b)), (2, .ref (mdb b)), (3, .ref (oub G)), (4, .int (l4))] dL_law_1554 (by decide) rfl ?_
  refine x_aload_n (pc := 1556) C 4 dL_law_1556 rfl rfl ?_
  refine cV1_0 (pc := 1557) (val := Value.int) C hF (fun _ _ h => c_X8_thrown l G b  h) vm_X8_thrown wq230 rfl rfl ⟨Nat.le_of_ble_eq_true rfl, Nat.le_of_ble_eq_true rfl⟩ rfl rfl (fun _ h => CW.md h) (Nat.le_of_ble_eq_true rfl) ⟨show cells + 3 ≤ 601024 by omega, show slots + 18 ≤ 7293034 by omega⟩ dL_law_1557 (fun x144 w143 hF => ?_)
  refine x_iload (pc := 1560) C 1 dL_law_1560 rfl ?_
  refine x_icmp_eq (pc := 1562) C 1567 dL_law_1562 rfl hF (fun c148 hF => ?_) (fun c148 hF => ?_)
  · refine x_iload (pc := 1567) C 1 dL_law_1567 rfl ?_
    refine x_if_ne (pc := 1569) C 1584 dL_law_1569 rfl hF (fun c147 hF => ?_) (fun c147 hF => ?_)
    · refine x_goto (pc := 1584) C 2165 dL_law_1584 rfl ?_
      refine x_iinc (pc := 2165) C 6 [(4, .int ((l4 + 4))), (6, .int (x142)), (5, .int (x136)), (0, .ref (sb)), (1, .ref (b)), (2, .ref (mdb b)), (3, .ref (oub G))] dL_law_2165 rfl rfl (by decide) rfl ?_
      refine x_goto (pc := 2168) C 23 dL_law_2168 rfl ?_
      exact x_sub [3, 4, 5, 6, 0] rfl (ih _ _ _ _ (by omega) (by omega) hF kx)
    · refine x_aload_n (pc := 1572) C 5 dL_law_1572 rfl rfl ?_
      refine x_iconst (pc := 1573) C 0 dL_law_1573 ki_0 ?_
      refine w_lald (pc := 1574) C hF dL_law_1574 (fun x145 hF => ?_)
      refine x_iload (pc := 1575) C 0 dL_law_1575 rfl ?_
      refine x_i2l (pc := 1577) C dL_law_1577 ?_
      refine x_lcmp (pc := 1578) C dL_law_1578 ?_
      refine x_if_eq (pc := 1579) C 1584 dL_law_1579 rfl hF (fun c146 hF => ?_) (fun c146 hF => ?_)
      · refine x_goto (pc := 1584) C 2165 dL_law_1584 rfl ?_
        refine x_iinc (pc := 2165) C 6 [(4, .int ((l4 + 4))), (6, .int (x142)), (5, .int (x136)), (0, .ref (sb)), (1, .ref (b)), (2, .ref (mdb b)), (3, .ref (oub G))] dL_law_2165 rfl rfl (by decide) rfl ?_
        refine x_goto (pc := 2168) C 23 dL_law_2168 rfl ?_
        exact x_sub [3, 4, 5, 6, 0] rfl (ih _ _ _ _ (by omega) (by omega) hF kx)
      · exact none_ne hF
  · exact none_ne hF
set_option maxRecDepth 4000 in
theorem k_law_23 (C : xC p m c s args meth G b cL_law 9 RL) (hl : l.stackTraces = false) (hX : xF b s) (hS : xS b sb L xs s) (rec : Int32 → xWt → Option Unit) (n9 cells slots : Nat) (hc : cells + 10 * (n9 + 1) ≤ 601024) (hs : slots + 100 * (n9 + 1) ≤ 7293034) (l4 : Int32) (w : xWt) (hF : K_law_23 xs L rec l4 w = some ())
    (ih : ∀ (cells slots : Nat) (l4 : Int32) (w : xWt), cells + 10 * n9 ≤ 601024 → slots + 100 * n9 ≤ 7293034 → rec l4 w = some () → (∀ (cells slots : Nat) (w' : xWt), cells ≤ 601024 → slots ≤ 7293034 → xW p l e room_1 s m args below meth c Q b 9 (CW G b w') cells slots 2171 [(0, .ref sb), (1, .ref b), (2, .ref (mdb b)), (3, .ref (oub G))] []) → xW p l e room_1 s m args below meth c Q b 9 (CW G b w) cells slots 23 [(0, .ref (sb)), (1, .ref (b)), (2, .ref (mdb b)), (3, .ref (oub G)), (4, .int (l4))] [])
    (kx : ∀ (cells slots : Nat) (w' : xWt), cells ≤ 601024 → slots ≤ 7293034 → xW p l e room_1 s m args below meth c Q b 9 (CW G b w') cells slots 2171 [(0, .ref sb), (1, .ref b), (2, .ref (mdb b)), (3, .ref (oub G))] []) : xW p l e room_1 s m args below meth c Q b 9 (CW G b w) cells slots 1439 [(0, .ref (sb)), (1, .ref (b)), (2, .ref (mdb b)), (3, .ref (oub G)), (4, .int (l4))] [] := by
  unfold K_law_23 at hF
  refine x_aload_n (pc := 1439) C 1 dL_law_1439 rfl rfl ?_
  refine x_aload_n (pc := 1440) C 0 dL_law_1440 rfl rfl ?_
  refine x_iload (pc := 1441) C 4 dL_law_1441 rfl ?_
  refine x_iconst (pc := 1443) C 1 dL_law_1443 ki_1 ?_
  refine x_iadd (pc := 1444) C dL_law_1444 ?_
  refine x_sld (pc := 1445) C hS hF dL_law_1445 (fun x149 hF => ?_)
  refine x_aload_n (pc := 1446) C 0 dL_law_1446 rfl rfl ?_
  refine x_iload (pc := 1447) C 4 dL_law_1447 rfl ?_
  refine x_iconst (pc := 1449) C 2 dL_law_1449 ki_2 ?_
  refine x_iadd (pc := 1450) C dL_law_1450 ?_
  refine x_sld (pc := 1451) C hS hF dL_law_1451 (fun x150 hF => ?_)
  refine x_aload_n (pc := 1452) C 3 dL_law_1452 rfl rfl ?_
  refine cL1_4 (pc := 1453) C hX hF (fun _ _ h => c_L_child l G b hl _ _ h) wq1003 wq133 wq1002 hd_L_child wq1001 rfl rfl ⟨Nat.le_of_ble_eq_true rfl, Nat.le_of_ble_eq_true rfl⟩ (Nat.le_of_ble_eq_true rfl) ⟨show cells + 2 ≤ 601024 by omega, show slots + 12 ≤ 7293034 by omega⟩ dL_law_1453 (fun x151 w152 hF => ?_)
  refine x_istore (pc := 1456) C [(5, .int (x151)), (0, .ref (sb)), (1, .ref (b)), (2, .ref (mdb b)), (3, .ref (oub G)), (4, .int (l4))] dL_law_1456 (by decide) rfl ?_
  refine x_aload_n (pc := 1458) C 3 dL_law_1458 rfl rfl ?_
  refine x_aload_n (pc := 1459) C 1 dL_law_1459 rfl rfl ?_
  refine x_iload (pc := 1460) C 5 dL_law_1460 rfl ?_
  refine x_iconst (pc := 1462) C 1 dL_law_1462 ki_1 ?_
  refine x_iadd (pc := 1463) C dL_law_1463 ?_
  refine x_sld (pc := 1464) C hS hF dL_law_1464 (fun x153 hF => ?_)
  refine x_aload_n (pc := 1465) C 1 dL_law_1465 rfl rfl ?_
  refine x_iload (pc := 1466) C 5 dL_law_1466 rfl ?_
  refine x_iconst (pc := 1468) C 2 dL_law_1468 ki_2 ?_
  refine x_iadd (pc := 1469) C dL_law_1469 ?_
  refine x_sld (pc := 1470) C hS hF dL_law_1470 (fun x154 hF => ?_)
  refine cV1_2 (pc := 1471) (val := Value.int) C hF (fun _ _ h => c_X8_child l G b  _ _ h) vm_X8_child wq1016 rfl rfl ⟨Nat.le_of_ble_eq_true rfl, Nat.le_of_ble_eq_true rfl⟩ rfl rfl (fun _ h => CW.md h) (Nat.le_of_ble_eq_true rfl) ⟨show cells + 2 ≤ 601024 by omega, show slots + 12 ≤ 7293034 by omega⟩ dL_law_1471 (fun x156 w155 hF => ?_)
  refine x_istore (pc := 1474) C [(6, .int (x156)), (5, .int (x151)), (0, .ref (sb)), (1, .ref (b)), (2, .ref (mdb b)), (3, .ref (oub G)), (4, .int (l4))] dL_law_1474 (by decide) rfl ?_
  refine x_aload_n (pc := 1476) C 4 dL_law_1476 rfl rfl ?_
  refine cV1_0 (pc := 1477) (val := Value.int) C hF (fun _ _ h => c_X8_thrown l G b  h) vm_X8_thrown wq230 rfl rfl ⟨Nat.le_of_ble_eq_true rfl, Nat.le_of_ble_eq_true rfl⟩ rfl rfl (fun _ h => CW.md h) (Nat.le_of_ble_eq_true rfl) ⟨show cells + 2 ≤ 601024 by omega, show slots + 12 ≤ 7293034 by omega⟩ dL_law_1477 (fun x158 w157 hF => ?_)
  refine x_iload (pc := 1480) C 1 dL_law_1480 rfl ?_
  refine x_icmp_eq (pc := 1482) C 1487 dL_law_1482 rfl hF (fun c162 hF => ?_) (fun c162 hF => ?_)
  · refine x_iload (pc := 1487) C 1 dL_law_1487 rfl ?_
    refine x_if_ne (pc := 1489) C 1504 dL_law_1489 rfl hF (fun c161 hF => ?_) (fun c161 hF => ?_)
    · refine x_goto (pc := 1504) C 2165 dL_law_1504 rfl ?_
      refine x_iinc (pc := 2165) C 6 [(4, .int ((l4 + 4))), (6, .int (x156)), (5, .int (x151)), (0, .ref (sb)), (1, .ref (b)), (2, .ref (mdb b)), (3, .ref (oub G))] dL_law_2165 rfl rfl (by decide) rfl ?_
      refine x_goto (pc := 2168) C 23 dL_law_2168 rfl ?_
      exact x_sub [3, 4, 5, 6, 0] rfl (ih _ _ _ _ (by omega) (by omega) hF kx)
    · refine x_aload_n (pc := 1492) C 5 dL_law_1492 rfl rfl ?_
      refine x_iconst (pc := 1493) C 0 dL_law_1493 ki_0 ?_
      refine w_lald (pc := 1494) C hF dL_law_1494 (fun x159 hF => ?_)
      refine x_iload (pc := 1495) C 0 dL_law_1495 rfl ?_
      refine x_i2l (pc := 1497) C dL_law_1497 ?_
      refine x_lcmp (pc := 1498) C dL_law_1498 ?_
      refine x_if_eq (pc := 1499) C 1504 dL_law_1499 rfl hF (fun c160 hF => ?_) (fun c160 hF => ?_)
      · refine x_goto (pc := 1504) C 2165 dL_law_1504 rfl ?_
        refine x_iinc (pc := 2165) C 6 [(4, .int ((l4 + 4))), (6, .int (x156)), (5, .int (x151)), (0, .ref (sb)), (1, .ref (b)), (2, .ref (mdb b)), (3, .ref (oub G))] dL_law_2165 rfl rfl (by decide) rfl ?_
        refine x_goto (pc := 2168) C 23 dL_law_2168 rfl ?_
        exact x_sub [3, 4, 5, 6, 0] rfl (ih _ _ _ _ (by omega) (by omega) hF kx)
      · exact none_ne hF
  · exact none_ne hF
set_option maxRecDepth 4000 in
theorem k_law_22 (C : xC p m c s args meth G b cL_law 9 RL) (hl : l.stackTraces = false) (hX : xF b s) (hS : xS b sb L xs s) (rec : Int32 → xWt → Option Unit) (n9 cells slots : Nat) (hc : cells + 10 * (n9 + 1) ≤ 601024) (hs : slots + 100 * (n9 + 1) ≤ 7293034) (l4 : Int32) (w : xWt) (hF : K_law_22 xs L rec l4 w = some ())
    (ih : ∀ (cells slots : Nat) (l4 : Int32) (w : xWt), cells + 10 * n9 ≤ 601024 → slots + 100 * n9 ≤ 7293034 → rec l4 w = some () → (∀ (cells slots : Nat) (w' : xWt), cells ≤ 601024 → slots ≤ 7293034 → xW p l e room_1 s m args below meth c Q b 9 (CW G b w') cells slots 2171 [(0, .ref sb), (1, .ref b), (2, .ref (mdb b)), (3, .ref (oub G))] []) → xW p l e room_1 s m args below meth c Q b 9 (CW G b w) cells slots 23 [(0, .ref (sb)), (1, .ref (b)), (2, .ref (mdb b)), (3, .ref (oub G)), (4, .int (l4))] [])
    (kx : ∀ (cells slots : Nat) (w' : xWt), cells ≤ 601024 → slots ≤ 7293034 → xW p l e room_1 s m args below meth c Q b 9 (CW G b w') cells slots 2171 [(0, .ref sb), (1, .ref b), (2, .ref (mdb b)), (3, .ref (oub G))] []) : xW p l e room_1 s m args below meth c Q b 9 (CW G b w) cells slots 1371 [(0, .ref (sb)), (1, .ref (b)), (2, .ref (mdb b)), (3, .ref (oub G)), (4, .int (l4))] [] := by
  unfold K_law_22 at hF
  refine x_aload_n (pc := 1371) C 1 dL_law_1371 rfl rfl ?_
  refine x_aload_n (pc := 1372) C 0 dL_law_1372 rfl rfl ?_
  refine x_iload (pc := 1373) C 4 dL_law_1373 rfl ?_
  refine x_iconst (pc := 1375) C 1 dL_law_1375 ki_1 ?_
  refine x_iadd (pc := 1376) C dL_law_1376 ?_
  refine x_sld (pc := 1377) C hS hF dL_law_1377 (fun x163 hF => ?_)
  refine x_aload_n (pc := 1378) C 0 dL_law_1378 rfl rfl ?_
  refine x_iload (pc := 1379) C 4 dL_law_1379 rfl ?_
  refine x_iconst (pc := 1381) C 2 dL_law_1381 ki_2 ?_
  refine x_iadd (pc := 1382) C dL_law_1382 ?_
  refine x_sld (pc := 1383) C hS hF dL_law_1383 (fun x164 hF => ?_)
  refine x_aload_n (pc := 1384) C 3 dL_law_1384 rfl rfl ?_
  refine cL1_4 (pc := 1385) C hX hF (fun _ _ h => c_L_leaf l G b hl _ _ h) wq951 wq133 wq950 hd_L_leaf wq949 rfl rfl ⟨Nat.le_of_ble_eq_true rfl, Nat.le_of_ble_eq_true rfl⟩ (Nat.le_of_ble_eq_true rfl) ⟨show cells + 2 ≤ 601024 by omega, show slots + 12 ≤ 7293034 by omega⟩ dL_law_1385 (fun x165 w166 hF => ?_)
  refine x_istore (pc := 1388) C [(5, .int (x165)), (0, .ref (sb)), (1, .ref (b)), (2, .ref (mdb b)), (3, .ref (oub G)), (4, .int (l4))] dL_law_1388 (by decide) rfl ?_
  refine x_aload_n (pc := 1390) C 3 dL_law_1390 rfl rfl ?_
  refine x_aload_n (pc := 1391) C 1 dL_law_1391 rfl rfl ?_
  refine x_iload (pc := 1392) C 5 dL_law_1392 rfl ?_
  refine x_iconst (pc := 1394) C 1 dL_law_1394 ki_1 ?_
  refine x_iadd (pc := 1395) C dL_law_1395 ?_
  refine x_sld (pc := 1396) C hS hF dL_law_1396 (fun x167 hF => ?_)
  refine x_aload_n (pc := 1397) C 1 dL_law_1397 rfl rfl ?_
  refine x_iload (pc := 1398) C 5 dL_law_1398 rfl ?_
  refine x_iconst (pc := 1400) C 2 dL_law_1400 ki_2 ?_
  refine x_iadd (pc := 1401) C dL_law_1401 ?_
  refine x_sld (pc := 1402) C hS hF dL_law_1402 (fun x168 hF => ?_)
  refine cV1_2 (pc := 1403) (val := Value.int) C hF (fun _ _ h => c_X8_leaf l G b  _ _ h) vm_X8_leaf wq985 rfl rfl ⟨Nat.le_of_ble_eq_true rfl, Nat.le_of_ble_eq_true rfl⟩ rfl rfl (fun _ h => CW.md h) (Nat.le_of_ble_eq_true rfl) ⟨show cells + 2 ≤ 601024 by omega, show slots + 12 ≤ 7293034 by omega⟩ dL_law_1403 (fun x170 w169 hF => ?_)
  refine x_istore (pc := 1406) C [(6, .int (x170)), (5, .int (x165)), (0, .ref (sb)), (1, .ref (b)), (2, .ref (mdb b)), (3, .ref (oub G)), (4, .int (l4))] dL_law_1406 (by decide) rfl ?_
  refine x_aload_n (pc := 1408) C 4 dL_law_1408 rfl rfl ?_
  refine cV1_0 (pc := 1409) (val := Value.int) C hF (fun _ _ h => c_X8_thrown l G b  h) vm_X8_thrown wq230 rfl rfl ⟨Nat.le_of_ble_eq_true rfl, Nat.le_of_ble_eq_true rfl⟩ rfl rfl (fun _ h => CW.md h) (Nat.le_of_ble_eq_true rfl) ⟨show cells + 2 ≤ 601024 by omega, show slots + 12 ≤ 7293034 by omega⟩ dL_law_1409 (fun x172 w171 hF => ?_)
  refine x_iload (pc := 1412) C 1 dL_law_1412 rfl ?_
  refine x_icmp_eq (pc := 1414) C 1419 dL_law_1414 rfl hF (fun c176 hF => ?_) (fun c176 hF => ?_)
  · refine x_iload (pc := 1419) C 1 dL_law_1419 rfl ?_
    refine x_if_ne (pc := 1421) C 1436 dL_law_1421 rfl hF (fun c175 hF => ?_) (fun c175 hF => ?_)
    · refine x_goto (pc := 1436) C 2165 dL_law_1436 rfl ?_
      refine x_iinc (pc := 2165) C 6 [(4, .int ((l4 + 4))), (6, .int (x170)), (5, .int (x165)), (0, .ref (sb)), (1, .ref (b)), (2, .ref (mdb b)), (3, .ref (oub G))] dL_law_2165 rfl rfl (by decide) rfl ?_
      refine x_goto (pc := 2168) C 23 dL_law_2168 rfl ?_
      exact x_sub [3, 4, 5, 6, 0] rfl (ih _ _ _ _ (by omega) (by omega) hF kx)
    · refine x_aload_n (pc := 1424) C 5 dL_law_1424 rfl rfl ?_
      refine x_iconst (pc := 1425) C 0 dL_law_1425 ki_0 ?_
      refine w_lald (pc := 1426) C hF dL_law_1426 (fun x173 hF => ?_)
      refine x_iload (pc := 1427) C 0 dL_law_1427 rfl ?_
      refine x_i2l (pc := 1429) C dL_law_1429 ?_
      refine x_lcmp (pc := 1430) C dL_law_1430 ?_
      refine x_if_eq (pc := 1431) C 1436 dL_law_1431 rfl hF (fun c174 hF => ?_) (fun c174 hF => ?_)
      · refine x_goto (pc := 1436) C 2165 dL_law_1436 rfl ?_
        refine x_iinc (pc := 2165) C 6 [(4, .int ((l4 + 4))), (6, .int (x170)), (5, .int (x165)), (0, .ref (sb)), (1, .ref (b)), (2, .ref (mdb b)), (3, .ref (oub G))] dL_law_2165 rfl rfl (by decide) rfl ?_
        refine x_goto (pc := 2168) C 23 dL_law_2168 rfl ?_
        exact x_sub [3, 4, 5, 6, 0] rfl (ih _ _ _ _ (by omega) (by omega) hF kx)
      · exact none_ne hF
  · exact none_ne hF
set_option maxRecDepth 4000 in
theorem k_law_21 (C : xC p m c s args meth G b cL_law 9 RL) (hl : l.stackTraces = false) (hX : xF b s) (hS : xS b sb L xs s) (rec : Int32 → xWt → Option Unit) (n9 cells slots : Nat) (hc : cells + 10 * (n9 + 1) ≤ 601024) (hs : slots + 100 * (n9 + 1) ≤ 7293034) (l4 : Int32) (w : xWt) (hF : K_law_21 xs L rec l4 w = some ())
    (ih : ∀ (cells slots : Nat) (l4 : Int32) (w : xWt), cells + 10 * n9 ≤ 601024 → slots + 100 * n9 ≤ 7293034 → rec l4 w = some () → (∀ (cells slots : Nat) (w' : xWt), cells ≤ 601024 → slots ≤ 7293034 → xW p l e room_1 s m args below meth c Q b 9 (CW G b w') cells slots 2171 [(0, .ref sb), (1, .ref b), (2, .ref (mdb b)), (3, .ref (oub G))] []) → xW p l e room_1 s m args below meth c Q b 9 (CW G b w) cells slots 23 [(0, .ref (sb)), (1, .ref (b)), (2, .ref (mdb b)), (3, .ref (oub G)), (4, .int (l4))] [])
    (kx : ∀ (cells slots : Nat) (w' : xWt), cells ≤ 601024 → slots ≤ 7293034 → xW p l e room_1 s m args below meth c Q b 9 (CW G b w') cells slots 2171 [(0, .ref sb), (1, .ref b), (2, .ref (mdb b)), (3, .ref (oub G))] []) : xW p l e room_1 s m args below meth c Q b 9 (CW G b w) cells slots 1315 [(0, .ref (sb)), (1, .ref (b)), (2, .ref (mdb b)), (3, .ref (oub G)), (4, .int (l4))] [] := by
  unfold K_law_21 at hF
  refine x_aload_n (pc := 1315) C 1 dL_law_1315 rfl rfl ?_
  refine x_aload_n (pc := 1316) C 0 dL_law_1316 rfl rfl ?_
  refine x_iload (pc := 1317) C 4 dL_law_1317 rfl ?_
  refine x_iconst (pc := 1319) C 1 dL_law_1319 ki_1 ?_
  refine x_iadd (pc := 1320) C dL_law_1320 ?_
  refine x_sld (pc := 1321) C hS hF dL_law_1321 (fun x177 hF => ?_)
  refine x_aload_n (pc := 1322) C 3 dL_law_1322 rfl rfl ?_
  refine cL1_3 (pc := 1323) C hX hF (fun _ _ h => c_L_branch l G b hl _ h) wq938 wq133 wq937 hd_L_branch wq936 rfl rfl ⟨Nat.le_of_ble_eq_true rfl, Nat.le_of_ble_eq_true rfl⟩ (Nat.le_of_ble_eq_true rfl) ⟨show cells + 1 ≤ 601024 by omega, show slots + 6 ≤ 7293034 by omega⟩ dL_law_1323 (fun x178 w179 hF => ?_)
  refine x_istore (pc := 1326) C [(5, .int (x178)), (0, .ref (sb)), (1, .ref (b)), (2, .ref (mdb b)), (3, .ref (oub G)), (4, .int (l4))] dL_law_1326 (by decide) rfl ?_
  refine x_aload_n (pc := 1328) C 3 dL_law_1328 rfl rfl ?_
  refine x_aload_n (pc := 1329) C 1 dL_law_1329 rfl rfl ?_
  refine x_iload (pc := 1330) C 5 dL_law_1330 rfl ?_
  refine x_iconst (pc := 1332) C 1 dL_law_1332 ki_1 ?_
  refine x_iadd (pc := 1333) C dL_law_1333 ?_
  refine x_sld (pc := 1334) C hS hF dL_law_1334 (fun x180 hF => ?_)
  refine cV1_1 (pc := 1335) (val := Value.int) C hF (fun _ _ h => c_X8_branch l G b  _ h) vm_X8_branch wq945 rfl rfl ⟨Nat.le_of_ble_eq_true rfl, Nat.le_of_ble_eq_true rfl⟩ rfl rfl (fun _ h => CW.md h) (Nat.le_of_ble_eq_true rfl) ⟨show cells + 1 ≤ 601024 by omega, show slots + 6 ≤ 7293034 by omega⟩ dL_law_1335 (fun x182 w181 hF => ?_)
  refine x_istore (pc := 1338) C [(6, .int (x182)), (5, .int (x178)), (0, .ref (sb)), (1, .ref (b)), (2, .ref (mdb b)), (3, .ref (oub G)), (4, .int (l4))] dL_law_1338 (by decide) rfl ?_
  refine x_aload_n (pc := 1340) C 4 dL_law_1340 rfl rfl ?_
  refine cV1_0 (pc := 1341) (val := Value.int) C hF (fun _ _ h => c_X8_thrown l G b  h) vm_X8_thrown wq230 rfl rfl ⟨Nat.le_of_ble_eq_true rfl, Nat.le_of_ble_eq_true rfl⟩ rfl rfl (fun _ h => CW.md h) (Nat.le_of_ble_eq_true rfl) ⟨show cells + 1 ≤ 601024 by omega, show slots + 6 ≤ 7293034 by omega⟩ dL_law_1341 (fun x184 w183 hF => ?_)
  refine x_iload (pc := 1344) C 1 dL_law_1344 rfl ?_
  refine x_icmp_eq (pc := 1346) C 1351 dL_law_1346 rfl hF (fun c188 hF => ?_) (fun c188 hF => ?_)
  · refine x_iload (pc := 1351) C 1 dL_law_1351 rfl ?_
    refine x_if_ne (pc := 1353) C 1368 dL_law_1353 rfl hF (fun c187 hF => ?_) (fun c187 hF => ?_)
    · refine x_goto (pc := 1368) C 2165 dL_law_1368 rfl ?_
      refine x_iinc (pc := 2165) C 6 [(4, .int ((l4 + 4))), (6, .int (x182)), (5, .int (x178)), (0, .ref (sb)), (1, .ref (b)), (2, .ref (mdb b)), (3, .ref (oub G))] dL_law_2165 rfl rfl (by decide) rfl ?_
      refine x_goto (pc := 2168) C 23 dL_law_2168 rfl ?_
      exact x_sub [3, 4, 5, 6, 0] rfl (ih _ _ _ _ (by omega) (by omega) hF kx)
    · refine x_aload_n (pc := 1356) C 5 dL_law_1356 rfl rfl ?_
      refine x_iconst (pc := 1357) C 0 dL_law_1357 ki_0 ?_
      refine w_lald (pc := 1358) C hF dL_law_1358 (fun x185 hF => ?_)
      refine x_iload (pc := 1359) C 0 dL_law_1359 rfl ?_
      refine x_i2l (pc := 1361) C dL_law_1361 ?_
      refine x_lcmp (pc := 1362) C dL_law_1362 ?_
      refine x_if_eq (pc := 1363) C 1368 dL_law_1363 rfl hF (fun c186 hF => ?_) (fun c186 hF => ?_)
      · refine x_goto (pc := 1368) C 2165 dL_law_1368 rfl ?_
        refine x_iinc (pc := 2165) C 6 [(4, .int ((l4 + 4))), (6, .int (x182)), (5, .int (x178)), (0, .ref (sb)), (1, .ref (b)), (2, .ref (mdb b)), (3, .ref (oub G))] dL_law_2165 rfl rfl (by decide) rfl ?_
        refine x_goto (pc := 2168) C 23 dL_law_2168 rfl ?_
        exact x_sub [3, 4, 5, 6, 0] rfl (ih _ _ _ _ (by omega) (by omega) hF kx)
      · exact none_ne hF
  · exact none_ne hF
set_option maxRecDepth 4000 in
theorem k_law_20 (C : xC p m c s args meth G b cL_law 9 RL) (hl : l.stackTraces = false) (hX : xF b s) (hS : xS b sb L xs s) (rec : Int32 → xWt → Option Unit) (n9 cells slots : Nat) (hc : cells + 10 * (n9 + 1) ≤ 601024) (hs : slots + 100 * (n9 + 1) ≤ 7293034) (l4 : Int32) (w : xWt) (hF : K_law_20 xs L rec l4 w = some ())
    (ih : ∀ (cells slots : Nat) (l4 : Int32) (w : xWt), cells + 10 * n9 ≤ 601024 → slots + 100 * n9 ≤ 7293034 → rec l4 w = some () → (∀ (cells slots : Nat) (w' : xWt), cells ≤ 601024 → slots ≤ 7293034 → xW p l e room_1 s m args below meth c Q b 9 (CW G b w') cells slots 2171 [(0, .ref sb), (1, .ref b), (2, .ref (mdb b)), (3, .ref (oub G))] []) → xW p l e room_1 s m args below meth c Q b 9 (CW G b w) cells slots 23 [(0, .ref (sb)), (1, .ref (b)), (2, .ref (mdb b)), (3, .ref (oub G)), (4, .int (l4))] [])
    (kx : ∀ (cells slots : Nat) (w' : xWt), cells ≤ 601024 → slots ≤ 7293034 → xW p l e room_1 s m args below meth c Q b 9 (CW G b w') cells slots 2171 [(0, .ref sb), (1, .ref b), (2, .ref (mdb b)), (3, .ref (oub G))] []) : xW p l e room_1 s m args below meth c Q b 9 (CW G b w) cells slots 1271 [(0, .ref (sb)), (1, .ref (b)), (2, .ref (mdb b)), (3, .ref (oub G)), (4, .int (l4))] [] := by
  unfold K_law_20 at hF
  refine x_aload_n (pc := 1271) C 1 dL_law_1271 rfl rfl ?_
  refine x_aload_n (pc := 1272) C 3 dL_law_1272 rfl rfl ?_
  refine cL1_2 (pc := 1273) C hX hF (fun _ _ h => c_L_undo l G b hl h) wq919 wq133 wq918 hd_L_undo wq917 rfl rfl ⟨Nat.le_of_ble_eq_true rfl, Nat.le_of_ble_eq_true rfl⟩ (Nat.le_of_ble_eq_true rfl) ⟨show cells + 1 ≤ 601024 by omega, show slots + 6 ≤ 7293034 by omega⟩ dL_law_1273 (fun x189 w190 hF => ?_)
  refine x_istore (pc := 1276) C [(5, .int (x189)), (0, .ref (sb)), (1, .ref (b)), (2, .ref (mdb b)), (3, .ref (oub G)), (4, .int (l4))] dL_law_1276 (by decide) rfl ?_
  refine x_aload_n (pc := 1278) C 3 dL_law_1278 rfl rfl ?_
  refine cV1_0 (pc := 1279) (val := Value.int) C hF (fun _ _ h => c_X8_undo l G b  h) vm_X8_undo wq932 rfl rfl ⟨Nat.le_of_ble_eq_true rfl, Nat.le_of_ble_eq_true rfl⟩ rfl rfl (fun _ h => CW.md h) (Nat.le_of_ble_eq_true rfl) ⟨show cells + 1 ≤ 601024 by omega, show slots + 6 ≤ 7293034 by omega⟩ dL_law_1279 (fun x192 w191 hF => ?_)
  refine x_istore (pc := 1282) C [(6, .int (x192)), (5, .int (x189)), (0, .ref (sb)), (1, .ref (b)), (2, .ref (mdb b)), (3, .ref (oub G)), (4, .int (l4))] dL_law_1282 (by decide) rfl ?_
  refine x_aload_n (pc := 1284) C 4 dL_law_1284 rfl rfl ?_
  refine cV1_0 (pc := 1285) (val := Value.int) C hF (fun _ _ h => c_X8_thrown l G b  h) vm_X8_thrown wq230 rfl rfl ⟨Nat.le_of_ble_eq_true rfl, Nat.le_of_ble_eq_true rfl⟩ rfl rfl (fun _ h => CW.md h) (Nat.le_of_ble_eq_true rfl) ⟨show cells + 1 ≤ 601024 by omega, show slots + 6 ≤ 7293034 by omega⟩ dL_law_1285 (fun x194 w193 hF => ?_)
  refine x_iload (pc := 1288) C 1 dL_law_1288 rfl ?_
  refine x_icmp_eq (pc := 1290) C 1295 dL_law_1290 rfl hF (fun c198 hF => ?_) (fun c198 hF => ?_)
  · refine x_iload (pc := 1295) C 1 dL_law_1295 rfl ?_
    refine x_if_ne (pc := 1297) C 1312 dL_law_1297 rfl hF (fun c197 hF => ?_) (fun c197 hF => ?_)
    · refine x_goto (pc := 1312) C 2165 dL_law_1312 rfl ?_
      refine x_iinc (pc := 2165) C 6 [(4, .int ((l4 + 4))), (6, .int (x192)), (5, .int (x189)), (0, .ref (sb)), (1, .ref (b)), (2, .ref (mdb b)), (3, .ref (oub G))] dL_law_2165 rfl rfl (by decide) rfl ?_
      refine x_goto (pc := 2168) C 23 dL_law_2168 rfl ?_
      exact x_sub [3, 4, 5, 6, 0] rfl (ih _ _ _ _ (by omega) (by omega) hF kx)
    · refine x_aload_n (pc := 1300) C 5 dL_law_1300 rfl rfl ?_
      refine x_iconst (pc := 1301) C 0 dL_law_1301 ki_0 ?_
      refine w_lald (pc := 1302) C hF dL_law_1302 (fun x195 hF => ?_)
      refine x_iload (pc := 1303) C 0 dL_law_1303 rfl ?_
      refine x_i2l (pc := 1305) C dL_law_1305 ?_
      refine x_lcmp (pc := 1306) C dL_law_1306 ?_
      refine x_if_eq (pc := 1307) C 1312 dL_law_1307 rfl hF (fun c196 hF => ?_) (fun c196 hF => ?_)
      · refine x_goto (pc := 1312) C 2165 dL_law_1312 rfl ?_
        refine x_iinc (pc := 2165) C 6 [(4, .int ((l4 + 4))), (6, .int (x192)), (5, .int (x189)), (0, .ref (sb)), (1, .ref (b)), (2, .ref (mdb b)), (3, .ref (oub G))] dL_law_2165 rfl rfl (by decide) rfl ?_
        refine x_goto (pc := 2168) C 23 dL_law_2168 rfl ?_
        exact x_sub [3, 4, 5, 6, 0] rfl (ih _ _ _ _ (by omega) (by omega) hF kx)
      · exact none_ne hF
  · exact none_ne hF
set_option maxRecDepth 4000 in
theorem k_law_19 (C : xC p m c s args meth G b cL_law 9 RL) (hl : l.stackTraces = false) (hX : xF b s) (hS : xS b sb L xs s) (rec : Int32 → xWt → Option Unit) (n9 cells slots : Nat) (hc : cells + 10 * (n9 + 1) ≤ 601024) (hs : slots + 100 * (n9 + 1) ≤ 7293034) (l4 : Int32) (w : xWt) (hF : K_law_19 xs L rec l4 w = some ())
    (ih : ∀ (cells slots : Nat) (l4 : Int32) (w : xWt), cells + 10 * n9 ≤ 601024 → slots + 100 * n9 ≤ 7293034 → rec l4 w = some () → (∀ (cells slots : Nat) (w' : xWt), cells ≤ 601024 → slots ≤ 7293034 → xW p l e room_1 s m args below meth c Q b 9 (CW G b w') cells slots 2171 [(0, .ref sb), (1, .ref b), (2, .ref (mdb b)), (3, .ref (oub G))] []) → xW p l e room_1 s m args below meth c Q b 9 (CW G b w) cells slots 23 [(0, .ref (sb)), (1, .ref (b)), (2, .ref (mdb b)), (3, .ref (oub G)), (4, .int (l4))] [])
    (kx : ∀ (cells slots : Nat) (w' : xWt), cells ≤ 601024 → slots ≤ 7293034 → xW p l e room_1 s m args below meth c Q b 9 (CW G b w') cells slots 2171 [(0, .ref sb), (1, .ref b), (2, .ref (mdb b)), (3, .ref (oub G))] []) : xW p l e room_1 s m args below meth c Q b 9 (CW G b w) cells slots 1227 [(0, .ref (sb)), (1, .ref (b)), (2, .ref (mdb b)), (3, .ref (oub G)), (4, .int (l4))] [] := by
  unfold K_law_19 at hF
  refine x_aload_n (pc := 1227) C 1 dL_law_1227 rfl rfl ?_
  refine x_aload_n (pc := 1228) C 3 dL_law_1228 rfl rfl ?_
  refine cL1_2 (pc := 1229) C hX hF (fun _ _ h => c_L_goBack l G b hl h) wq908 wq133 wq907 hd_L_goBack wq906 rfl rfl ⟨Nat.le_of_ble_eq_true rfl, Nat.le_of_ble_eq_true rfl⟩ (Nat.le_of_ble_eq_true rfl) ⟨show cells + 1 ≤ 601024 by omega, show slots + 6 ≤ 7293034 by omega⟩ dL_law_1229 (fun x199 w200 hF => ?_)
  refine x_istore (pc := 1232) C [(5, .int (x199)), (0, .ref (sb)), (1, .ref (b)), (2, .ref (mdb b)), (3, .ref (oub G)), (4, .int (l4))] dL_law_1232 (by decide) rfl ?_
  refine x_aload_n (pc := 1234) C 3 dL_law_1234 rfl rfl ?_
  refine cV1_0 (pc := 1235) (val := Value.int) C hF (fun _ _ h => c_X8_goBack l G b  h) vm_X8_goBack wq913 rfl rfl ⟨Nat.le_of_ble_eq_true rfl, Nat.le_of_ble_eq_true rfl⟩ rfl rfl (fun _ h => CW.md h) (Nat.le_of_ble_eq_true rfl) ⟨show cells + 1 ≤ 601024 by omega, show slots + 6 ≤ 7293034 by omega⟩ dL_law_1235 (fun x202 w201 hF => ?_)
  refine x_istore (pc := 1238) C [(6, .int (x202)), (5, .int (x199)), (0, .ref (sb)), (1, .ref (b)), (2, .ref (mdb b)), (3, .ref (oub G)), (4, .int (l4))] dL_law_1238 (by decide) rfl ?_
  refine x_aload_n (pc := 1240) C 4 dL_law_1240 rfl rfl ?_
  refine cV1_0 (pc := 1241) (val := Value.int) C hF (fun _ _ h => c_X8_thrown l G b  h) vm_X8_thrown wq230 rfl rfl ⟨Nat.le_of_ble_eq_true rfl, Nat.le_of_ble_eq_true rfl⟩ rfl rfl (fun _ h => CW.md h) (Nat.le_of_ble_eq_true rfl) ⟨show cells + 1 ≤ 601024 by omega, show slots + 6 ≤ 7293034 by omega⟩ dL_law_1241 (fun x204 w203 hF => ?_)
  refine x_iload (pc := 1244) C 1 dL_law_1244 rfl ?_
  refine x_icmp_eq (pc := 1246) C 1251 dL_law_1246 rfl hF (fun c208 hF => ?_) (fun c208 hF => ?_)
  · refine x_iload (pc := 1251) C 1 dL_law_1251 rfl ?_
    refine x_if_ne (pc := 1253) C 1268 dL_law_1253 rfl hF (fun c207 hF => ?_) (fun c207 hF => ?_)
    · refine x_goto (pc := 1268) C 2165 dL_law_1268 rfl ?_
      refine x_iinc (pc := 2165) C 6 [(4, .int ((l4 + 4))), (6, .int (x202)), (5, .int (x199)), (0, .ref (sb)), (1, .ref (b)), (2, .ref (mdb b)), (3, .ref (oub G))] dL_law_2165 rfl rfl (by decide) rfl ?_
      refine x_goto (pc := 2168) C 23 dL_law_2168 rfl ?_
      exact x_sub [3, 4, 5, 6, 0] rfl (ih _ _ _ _ (by omega) (by omega) hF kx)
    · refine x_aload_n (pc := 1256) C 5 dL_law_1256 rfl rfl ?_
      refine x_iconst (pc := 1257) C 0 dL_law_1257 ki_0 ?_
      refine w_lald (pc := 1258) C hF dL_law_1258 (fun x205 hF => ?_)
      refine x_iload (pc := 1259) C 0 dL_law_1259 rfl ?_
      refine x_i2l (pc := 1261) C dL_law_1261 ?_
      refine x_lcmp (pc := 1262) C dL_law_1262 ?_
      refine x_if_eq (pc := 1263) C 1268 dL_law_1263 rfl hF (fun c206 hF => ?_) (fun c206 hF => ?_)
      · refine x_goto (pc := 1268) C 2165 dL_law_1268 rfl ?_
        refine x_iinc (pc := 2165) C 6 [(4, .int ((l4 + 4))), (6, .int (x202)), (5, .int (x199)), (0, .ref (sb)), (1, .ref (b)), (2, .ref (mdb b)), (3, .ref (oub G))] dL_law_2165 rfl rfl (by decide) rfl ?_
        refine x_goto (pc := 2168) C 23 dL_law_2168 rfl ?_
        exact x_sub [3, 4, 5, 6, 0] rfl (ih _ _ _ _ (by omega) (by omega) hF kx)
      · exact none_ne hF
  · exact none_ne hF
set_option maxRecDepth 4000 in
theorem k_law_18 (C : xC p m c s args meth G b cL_law 9 RL) (hl : l.stackTraces = false) (hX : xF b s) (hS : xS b sb L xs s) (rec : Int32 → xWt → Option Unit) (n9 cells slots : Nat) (hc : cells + 10 * (n9 + 1) ≤ 601024) (hs : slots + 100 * (n9 + 1) ≤ 7293034) (l4 : Int32) (w : xWt) (hF : K_law_18 xs L rec l4 w = some ())
    (ih : ∀ (cells slots : Nat) (l4 : Int32) (w : xWt), cells + 10 * n9 ≤ 601024 → slots + 100 * n9 ≤ 7293034 → rec l4 w = some () → (∀ (cells slots : Nat) (w' : xWt), cells ≤ 601024 → slots ≤ 7293034 → xW p l e room_1 s m args below meth c Q b 9 (CW G b w') cells slots 2171 [(0, .ref sb), (1, .ref b), (2, .ref (mdb b)), (3, .ref (oub G))] []) → xW p l e room_1 s m args below meth c Q b 9 (CW G b w) cells slots 23 [(0, .ref (sb)), (1, .ref (b)), (2, .ref (mdb b)), (3, .ref (oub G)), (4, .int (l4))] [])
    (kx : ∀ (cells slots : Nat) (w' : xWt), cells ≤ 601024 → slots ≤ 7293034 → xW p l e room_1 s m args below meth c Q b 9 (CW G b w') cells slots 2171 [(0, .ref sb), (1, .ref b), (2, .ref (mdb b)), (3, .ref (oub G))] []) : xW p l e room_1 s m args below meth c Q b 9 (CW G b w) cells slots 1214 [(0, .ref (sb)), (1, .ref (b)), (2, .ref (mdb b)), (3, .ref (oub G)), (4, .int (l4))] [] := by
  unfold K_law_18 at hF
  refine x_aload_n (pc := 1214) C 1 dL_law_1214 rfl rfl ?_
  refine cV1_0 (pc := 1215) (val := Value.int) C hF (fun _ _ h => c_X7_keep l G b  h) vm_X7_keep wq894 rfl rfl ⟨Nat.le_of_ble_eq_true rfl, Nat.le_of_ble_eq_true rfl⟩ rfl rfl (fun _ h => CW.pl h) (Nat.le_of_ble_eq_true rfl) ⟨show cells ≤ 601024 by omega, show slots ≤ 7293034 by omega⟩ dL_law_1215 (fun x210 w209 hF => ?_)
  refine x_aload_n (pc := 1218) C 2 dL_law_1218 rfl rfl ?_
  refine cV1_0 (pc := 1219) (val := Value.int) C hF (fun _ _ h => c_X8_keep l G b  h) vm_X8_keep wq901 rfl rfl ⟨Nat.le_of_ble_eq_true rfl, Nat.le_of_ble_eq_true rfl⟩ rfl rfl (fun _ h => CW.md h) (Nat.le_of_ble_eq_true rfl) ⟨show cells ≤ 601024 by omega, show slots ≤ 7293034 by omega⟩ dL_law_1219 (fun x212 w211 hF => ?_)
  refine x_icmp_eq (pc := 1222) C 2165 dL_law_1222 rfl hF (fun c213 hF => ?_) (fun c213 hF => ?_)
  · refine x_iinc (pc := 2165) C 4 [(4, .int ((l4 + 4))), (0, .ref (sb)), (1, .ref (b)), (2, .ref (mdb b)), (3, .ref (oub G))] dL_law_2165 rfl rfl (by decide) rfl ?_
    refine x_goto (pc := 2168) C 23 dL_law_2168 rfl ?_
    exact x_sub [1, 2, 3, 4, 0] rfl (ih _ _ _ _ (by omega) (by omega) hF kx)
  · exact none_ne hF
set_option maxRecDepth 4000 in
theorem k_law_17 (C : xC p m c s args meth G b cL_law 9 RL) (hl : l.stackTraces = false) (hX : xF b s) (hS : xS b sb L xs s) (rec : Int32 → xWt → Option Unit) (n9 cells slots : Nat) (hc : cells + 10 * (n9 + 1) ≤ 601024) (hs : slots + 100 * (n9 + 1) ≤ 7293034) (l4 : Int32) (w : xWt) (hF : K_law_17 xs L rec l4 w = some ())
    (ih : ∀ (cells slots : Nat) (l4 : Int32) (w : xWt), cells + 10 * n9 ≤ 601024 → slots + 100 * n9 ≤ 7293034 → rec l4 w = some () → (∀ (cells slots : Nat) (w' : xWt), cells ≤ 601024 → slots ≤ 7293034 → xW p l e room_1 s m args below meth c Q b 9 (CW G b w') cells slots 2171 [(0, .ref sb), (1, .ref b), (2, .ref (mdb b)), (3, .ref (oub G))] []) → xW p l e room_1 s m args below meth c Q b 9 (CW G b w) cells slots 23 [(0, .ref (sb)), (1, .ref (b)), (2, .ref (mdb b)), (3, .ref (oub G)), (4, .int (l4))] [])
    (kx : ∀ (cells slots : Nat) (w' : xWt), cells ≤ 601024 → slots ≤ 7293034 → xW p l e room_1 s m args below meth c Q b 9 (CW G b w') cells slots 2171 [(0, .ref sb), (1, .ref b), (2, .ref (mdb b)), (3, .ref (oub G))] []) : xW p l e room_1 s m args below meth c Q b 9 (CW G b w) cells slots 1170 [(0, .ref (sb)), (1, .ref (b)), (2, .ref (mdb b)), (3, .ref (oub G)), (4, .int (l4))] [] := by
  unfold K_law_17 at hF
  refine x_aload_n (pc := 1170) C 1 dL_law_1170 rfl rfl ?_
  refine x_aload_n (pc := 1171) C 3 dL_law_1171 rfl rfl ?_
  refine cL1_2 (pc := 1172) C hX hF (fun _ _ h => c_L_obey l G b hl h) wq854 wq133 wq853 hd_L_obey wq852 rfl rfl ⟨Nat.le_of_ble_eq_true rfl, Nat.le_of_ble_eq_true rfl⟩ (Nat.le_of_ble_eq_true rfl) ⟨show cells + 1 ≤ 601024 by omega, show slots + 6 ≤ 7293034 by omega⟩ dL_law_1172 (fun x214 w215 hF => ?_)
  refine x_istore (pc := 1175) C [(5, .int (x214)), (0, .ref (sb)), (1, .ref (b)), (2, .ref (mdb b)), (3, .ref (oub G)), (4, .int (l4))] dL_law_1175 (by decide) rfl ?_
  refine x_aload_n (pc := 1177) C 3 dL_law_1177 rfl rfl ?_
  refine cV1_0 (pc := 1178) (val := Value.int) C hF (fun _ _ h => c_X8_obey l G b  h) vm_X8_obey wq882 rfl rfl ⟨Nat.le_of_ble_eq_true rfl, Nat.le_of_ble_eq_true rfl⟩ rfl rfl (fun _ h => CW.md h) (Nat.le_of_ble_eq_true rfl) ⟨show cells + 1 ≤ 601024 by omega, show slots + 6 ≤ 7293034 by omega⟩ dL_law_1178 (fun x217 w216 hF => ?_)
  refine x_istore (pc := 1181) C [(6, .int (x217)), (5, .int (x214)), (0, .ref (sb)), (1, .ref (b)), (2, .ref (mdb b)), (3, .ref (oub G)), (4, .int (l4))] dL_law_1181 (by decide) rfl ?_
  refine x_aload_n (pc := 1183) C 4 dL_law_1183 rfl rfl ?_
  refine cV1_0 (pc := 1184) (val := Value.int) C hF (fun _ _ h => c_X8_thrown l G b  h) vm_X8_thrown wq230 rfl rfl ⟨Nat.le_of_ble_eq_true rfl, Nat.le_of_ble_eq_true rfl⟩ rfl rfl (fun _ h => CW.md h) (Nat.le_of_ble_eq_true rfl) ⟨show cells + 1 ≤ 601024 by omega, show slots + 6 ≤ 7293034 by omega⟩ dL_law_1184 (fun x219 w218 hF => ?_)
  refine x_iload (pc := 1187) C 1 dL_law_1187 rfl ?_
  refine x_icmp_eq (pc := 1189) C 1194 dL_law_1189 rfl hF (fun c223 hF => ?_) (fun c223 hF => ?_)
  · refine x_iload (pc := 1194) C 1 dL_law_1194 rfl ?_
    refine x_if_ne (pc := 1196) C 1211 dL_law_1196 rfl hF (fun c222 hF => ?_) (fun c222 hF => ?_)
    · refine x_goto (pc := 1211) C 2165 dL_law_1211 rfl ?_
      refine x_iinc (pc := 2165) C 6 [(4, .int ((l4 + 4))), (6, .int (x217)), (5, .int (x214)), (0, .ref (sb)), (1, .ref (b)), (2, .ref (mdb b)), (3, .ref (oub G))] dL_law_2165 rfl rfl (by decide) rfl ?_
      refine x_goto (pc := 2168) C 23 dL_law_2168 rfl ?_
      exact x_sub [3, 4, 5, 6, 0] rfl (ih _ _ _ _ (by omega) (by omega) hF kx)
    · refine x_aload_n (pc := 1199) C 5 dL_law_1199 rfl rfl ?_
      refine x_iconst (pc := 1200) C 0 dL_law_1200 ki_0 ?_
      refine w_lald (pc := 1201) C hF dL_law_1201 (fun x220 hF => ?_)
      refine x_iload (pc := 1202) C 0 dL_law_1202 rfl ?_
      refine x_i2l (pc := 1204) C dL_law_1204 ?_
      refine x_lcmp (pc := 1205) C dL_law_1205 ?_
      refine x_if_eq (pc := 1206) C 1211 dL_law_1206 rfl hF (fun c221 hF => ?_) (fun c221 hF => ?_)
      · refine x_goto (pc := 1211) C 2165 dL_law_1211 rfl ?_
        refine x_iinc (pc := 2165) C 6 [(4, .int ((l4 + 4))), (6, .int (x217)), (5, .int (x214)), (0, .ref (sb)), (1, .ref (b)), (2, .ref (mdb b)), (3, .ref (oub G))] dL_law_2165 rfl rfl (by decide) rfl ?_
        refine x_goto (pc := 2168) C 23 dL_law_2168 rfl ?_
        exact x_sub [3, 4, 5, 6, 0] rfl (ih _ _ _ _ (by omega) (by omega) hF kx)
      · exact none_ne hF
  · exact none_ne hF
set_option maxRecDepth 4000 in
theorem k_law_16 (C : xC p m c s args meth G b cL_law 9 RL) (hl : l.stackTraces = false) (hX : xF b s) (hS : xS b sb L xs s) (rec : Int32 → xWt → Option Unit) (n9 cells slots : Nat) (hc : cells + 10 * (n9 + 1) ≤ 601024) (hs : slots + 100 * (n9 + 1) ≤ 7293034) (l4 : Int32) (w : xWt) (hF : K_law_16 xs L rec l4 w = some ())
    (ih : ∀ (cells slots : Nat) (l4 : Int32) (w : xWt), cells + 10 * n9 ≤ 601024 → slots + 100 * n9 ≤ 7293034 → rec l4 w = some () → (∀ (cells slots : Nat) (w' : xWt), cells ≤ 601024 → slots ≤ 7293034 → xW p l e room_1 s m args below meth c Q b 9 (CW G b w') cells slots 2171 [(0, .ref sb), (1, .ref b), (2, .ref (mdb b)), (3, .ref (oub G))] []) → xW p l e room_1 s m args below meth c Q b 9 (CW G b w) cells slots 23 [(0, .ref (sb)), (1, .ref (b)), (2, .ref (mdb b)), (3, .ref (oub G)), (4, .int (l4))] [])
    (kx : ∀ (cells slots : Nat) (w' : xWt), cells ≤ 601024 → slots ≤ 7293034 → xW p l e room_1 s m args below meth c Q b 9 (CW G b w') cells slots 2171 [(0, .ref sb), (1, .ref b), (2, .ref (mdb b)), (3, .ref (oub G))] []) : xW p l e room_1 s m args below meth c Q b 9 (CW G b w) cells slots 1157 [(0, .ref (sb)), (1, .ref (b)), (2, .ref (mdb b)), (3, .ref (oub G)), (4, .int (l4))] [] := by
  unfold K_law_16 at hF
  refine x_aload_n (pc := 1157) C 1 dL_law_1157 rfl rfl ?_
  refine cV1_0 (pc := 1158) (val := Value.int) C hF (fun _ _ h => c_X7_firstError l G b  h) vm_X7_firstError wq803 rfl rfl ⟨Nat.le_of_ble_eq_true rfl, Nat.le_of_ble_eq_true rfl⟩ rfl rfl (fun _ h => CW.pl h) (Nat.le_of_ble_eq_true rfl) ⟨show cells ≤ 601024 by omega, show slots ≤ 7293034 by omega⟩ dL_law_1158 (fun x225 w224 hF => ?_)
  refine x_aload_n (pc := 1161) C 2 dL_law_1161 rfl rfl ?_
  refine cV1_0 (pc := 1162) (val := Value.int) C hF (fun _ _ h => c_X8_firstError l G b  h) vm_X8_firstError wq832 rfl rfl ⟨Nat.le_of_ble_eq_true rfl, Nat.le_of_ble_eq_true rfl⟩ rfl rfl (fun _ h => CW.md h) (Nat.le_of_ble_eq_true rfl) ⟨show cells ≤ 601024 by omega, show slots ≤ 7293034 by omega⟩ dL_law_1162 (fun x227 w226 hF => ?_)
  refine x_icmp_eq (pc := 1165) C 2165 dL_law_1165 rfl hF (fun c228 hF => ?_) (fun c228 hF => ?_)
  · refine x_iinc (pc := 2165) C 4 [(4, .int ((l4 + 4))), (0, .ref (sb)), (1, .ref (b)), (2, .ref (mdb b)), (3, .ref (oub G))] dL_law_2165 rfl rfl (by decide) rfl ?_
    refine x_goto (pc := 2168) C 23 dL_law_2168 rfl ?_
    exact x_sub [1, 2, 3, 4, 0] rfl (ih _ _ _ _ (by omega) (by omega) hF kx)
  · exact none_ne hF
set_option maxRecDepth 4000 in
theorem k_law_15 (C : xC p m c s args meth G b cL_law 9 RL) (hl : l.stackTraces = false) (hX : xF b s) (hS : xS b sb L xs s) (rec : Int32 → xWt → Option Unit) (n9 cells slots : Nat) (hc : cells + 10 * (n9 + 1) ≤ 601024) (hs : slots + 100 * (n9 + 1) ≤ 7293034) (l4 : Int32) (w : xWt) (hF : K_law_15 xs L rec l4 w = some ())
    (ih : ∀ (cells slots : Nat) (l4 : Int32) (w : xWt), cells + 10 * n9 ≤ 601024 → slots + 100 * n9 ≤ 7293034 → rec l4 w = some () → (∀ (cells slots : Nat) (w' : xWt), cells ≤ 601024 → slots ≤ 7293034 → xW p l e room_1 s m args below meth c Q b 9 (CW G b w') cells slots 2171 [(0, .ref sb), (1, .ref b), (2, .ref (mdb b)), (3, .ref (oub G))] []) → xW p l e room_1 s m args below meth c Q b 9 (CW G b w) cells slots 23 [(0, .ref (sb)), (1, .ref (b)), (2, .ref (mdb b)), (3, .ref (oub G)), (4, .int (l4))] [])
    (kx : ∀ (cells slots : Nat) (w' : xWt), cells ≤ 601024 → slots ≤ 7293034 → xW p l e room_1 s m args below meth c Q b 9 (CW G b w') cells slots 2171 [(0, .ref sb), (1, .ref b), (2, .ref (mdb b)), (3, .ref (oub G))] []) : xW p l e room_1 s m args below meth c Q b 9 (CW G b w) cells slots 1144 [(0, .ref (sb)), (1, .ref (b)), (2, .ref (mdb b)), (3, .ref (oub G)), (4, .int (l4))] [] := by
  unfold K_law_15 at hF
  refine x_aload_n (pc := 1144) C 1 dL_law_1144 rfl rfl ?_
  refine cV1_0 (pc := 1145) (val := Value.int) C hF (fun _ _ h => c_X7_clearBuffer l G b  h) vm_X7_clearBuffer wq791 rfl rfl ⟨Nat.le_of_ble_eq_true rfl, Nat.le_of_ble_eq_true rfl⟩ rfl rfl (fun _ h => CW.pl h) (Nat.le_of_ble_eq_true rfl) ⟨show cells ≤ 601024 by omega, show slots ≤ 7293034 by omega⟩ dL_law_1145 (fun x230 w229 hF => ?_)
  refine x_aload_n (pc := 1148) C 2 dL_law_1148 rfl rfl ?_
  refine cV1_0 (pc := 1149) (val := Value.int) C hF (fun _ _ h => c_X8_clearBuffer l G b  h) vm_X8_clearBuffer wq799 rfl rfl ⟨Nat.le_of_ble_eq_true rfl, Nat.le_of_ble_eq_true rfl⟩ rfl rfl (fun _ h => CW.md h) (Nat.le_of_ble_eq_true rfl) ⟨show cells ≤ 601024 by omega, show slots ≤ 7293034 by omega⟩ dL_law_1149 (fun x232 w231 hF => ?_)
  refine x_icmp_eq (pc := 1152) C 2165 dL_law_1152 rfl hF (fun c233 hF => ?_) (fun c233 hF => ?_)
  · refine x_iinc (pc := 2165) C 4 [(4, .int ((l4 + 4))), (0, .ref (sb)), (1, .ref (b)), (2, .ref (mdb b)), (3, .ref (oub G))] dL_law_2165 rfl rfl (by decide) rfl ?_
    refine x_goto (pc := 2168) C 23 dL_law_2168 rfl ?_
    exact x_sub [1, 2, 3, 4, 0] rfl (ih _ _ _ _ (by omega) (by omega) hF kx)
  · exact none_ne hF
set_option maxRecDepth 4000 in
theorem k_law_14 (C : xC p m c s args meth G b cL_law 9 RL) (hl : l.stackTraces = false) (hX : xF b s) (hS : xS b sb L xs s) (rec : Int32 → xWt → Option Unit) (n9 cells slots : Nat) (hc : cells + 10 * (n9 + 1) ≤ 601024) (hs : slots + 100 * (n9 + 1) ≤ 7293034) (l4 : Int32) (w : xWt) (hF : K_law_14 xs L rec l4 w = some ())
    (ih : ∀ (cells slots : Nat) (l4 : Int32) (w : xWt), cells + 10 * n9 ≤ 601024 → slots + 100 * n9 ≤ 7293034 → rec l4 w = some () → (∀ (cells slots : Nat) (w' : xWt), cells ≤ 601024 → slots ≤ 7293034 → xW p l e room_1 s m args below meth c Q b 9 (CW G b w') cells slots 2171 [(0, .ref sb), (1, .ref b), (2, .ref (mdb b)), (3, .ref (oub G))] []) → xW p l e room_1 s m args below meth c Q b 9 (CW G b w) cells slots 23 [(0, .ref (sb)), (1, .ref (b)), (2, .ref (mdb b)), (3, .ref (oub G)), (4, .int (l4))] [])
    (kx : ∀ (cells slots : Nat) (w' : xWt), cells ≤ 601024 → slots ≤ 7293034 → xW p l e room_1 s m args below meth c Q b 9 (CW G b w') cells slots 2171 [(0, .ref sb), (1, .ref b), (2, .ref (mdb b)), (3, .ref (oub G))] []) : xW p l e room_1 s m args below meth c Q b 9 (CW G b w) cells slots 1088 [(0, .ref (sb)), (1, .ref (b)), (2, .ref (mdb b)), (3, .ref (oub G)), (4, .int (l4))] [] := by
  unfold K_law_14 at hF
  refine x_aload_n (pc := 1088) C 1 dL_law_1088 rfl rfl ?_
  refine x_aload_n (pc := 1089) C 0 dL_law_1089 rfl rfl ?_
  refine x_iload (pc := 1090) C 4 dL_law_1090 rfl ?_
  refine x_iconst (pc := 1092) C 1 dL_law_1092 ki_1 ?_
  refine x_iadd (pc := 1093) C dL_law_1093 ?_
  refine x_sld (pc := 1094) C hS hF dL_law_1094 (fun x234 hF => ?_)
  refine x_aload_n (pc := 1095) C 3 dL_law_1095 rfl rfl ?_
  refine cL1_3 (pc := 1096) C hX hF (fun _ _ h => c_L_append l G b hl _ h) wq771 wq133 wq770 hd_L_append wq769 rfl rfl ⟨Nat.le_of_ble_eq_true rfl, Nat.le_of_ble_eq_true rfl⟩ (Nat.le_of_ble_eq_true rfl) ⟨show cells + 1 ≤ 601024 by omega, show slots + 6 ≤ 7293034 by omega⟩ dL_law_1096 (fun x235 w236 hF => ?_)
  refine x_istore (pc := 1099) C [(5, .int (x235)), (0, .ref (sb)), (1, .ref (b)), (2, .ref (mdb b)), (3, .ref (oub G)), (4, .int (l4))] dL_law_1099 (by decide) rfl ?_
  refine x_aload_n (pc := 1101) C 3 dL_law_1101 rfl rfl ?_
  refine x_aload_n (pc := 1102) C 1 dL_law_1102 rfl rfl ?_
  refine x_iload (pc := 1103) C 5 dL_law_1103 rfl ?_
  refine x_iconst (pc := 1105) C 1 dL_law_1105 ki_1 ?_
  refine x_iadd (pc := 1106) C dL_law_1106 ?_
  refine x_sld (pc := 1107) C hS hF dL_law_1107 (fun x237 hF => ?_)
  refine cV1_1 (pc := 1108) (val := Value.int) C hF (fun _ _ h => c_X8_append l G b  _ h) vm_X8_append wq786 rfl rfl ⟨Nat.le_of_ble_eq_true rfl, Nat.le_of_ble_eq_true rfl⟩ rfl rfl (fun _ h => CW.md h) (Nat.le_of_ble_eq_true rfl) ⟨show cells + 1 ≤ 601024 by omega, show slots + 6 ≤ 7293034 by omega⟩ dL_law_1108 (fun x239 w238 hF => ?_)
  refine x_istore (pc := 1111) C [(6, .int (x239)), (5, .int (x235)), (0, .ref (sb)), (1, .ref (b)), (2, .ref (mdb b)), (3, .ref (oub G)), (4, .int (l4))] dL_law_1111 (by decide) rfl ?_
  refine x_aload_n (pc := 1113) C 4 dL_law_1113 rfl rfl ?_
  refine cV1_0 (pc := 1114) (val := Value.int) C hF (fun _ _ h => c_X8_thrown l G b  h) vm_X8_thrown wq230 rfl rfl ⟨Nat.le_of_ble_eq_true rfl, Nat.le_of_ble_eq_true rfl⟩ rfl rfl (fun _ h => CW.md h) (Nat.le_of_ble_eq_true rfl) ⟨show cells + 1 ≤ 601024 by omega, show slots + 6 ≤ 7293034 by omega⟩ dL_law_1114 (fun x241 w240 hF => ?_)
  refine x_iload (pc := 1117) C 1 dL_law_1117 rfl ?_
  refine x_icmp_eq (pc := 1119) C 1124 dL_law_1119 rfl hF (fun c245 hF => ?_) (fun c245 hF => ?_)
  · refine x_iload (pc := 1124) C 1 dL_law_1124 rfl ?_
    refine x_if_ne (pc := 1126) C 1141 dL_law_1126 rfl hF (fun c244 hF => ?_) (fun c244 hF => ?_)
    · refine x_goto (pc := 1141) C 2165 dL_law_1141 rfl ?_
      refine x_iinc (pc := 2165) C 6 [(4, .int ((l4 + 4))), (6, .int (x239)), (5, .int (x235)), (0, .ref (sb)), (1, .ref (b)), (2, .ref (mdb b)), (3, .ref (oub G))] dL_law_2165 rfl rfl (by decide) rfl ?_
      refine x_goto (pc := 2168) C 23 dL_law_2168 rfl ?_
      exact x_sub [3, 4, 5, 6, 0] rfl (ih _ _ _ _ (by omega) (by omega) hF kx)
    · refine x_aload_n (pc := 1129) C 5 dL_law_1129 rfl rfl ?_
      refine x_iconst (pc := 1130) C 0 dL_law_1130 ki_0 ?_
      refine w_lald (pc := 1131) C hF dL_law_1131 (fun x242 hF => ?_)
      refine x_iload (pc := 1132) C 0 dL_law_1132 rfl ?_
      refine x_i2l (pc := 1134) C dL_law_1134 ?_
      refine x_lcmp (pc := 1135) C dL_law_1135 ?_
      refine x_if_eq (pc := 1136) C 1141 dL_law_1136 rfl hF (fun c243 hF => ?_) (fun c243 hF => ?_)
      · refine x_goto (pc := 1141) C 2165 dL_law_1141 rfl ?_
        refine x_iinc (pc := 2165) C 6 [(4, .int ((l4 + 4))), (6, .int (x239)), (5, .int (x235)), (0, .ref (sb)), (1, .ref (b)), (2, .ref (mdb b)), (3, .ref (oub G))] dL_law_2165 rfl rfl (by decide) rfl ?_
        refine x_goto (pc := 2168) C 23 dL_law_2168 rfl ?_
        exact x_sub [3, 4, 5, 6, 0] rfl (ih _ _ _ _ (by omega) (by omega) hF kx)
      · exact none_ne hF
  · exact none_ne hF
set_option maxRecDepth 4000 in
theorem k_law_13 (C : xC p m c s args meth G b cL_law 9 RL) (hl : l.stackTraces = false) (hX : xF b s) (hS : xS b sb L xs s) (rec : Int32 → xWt → Option Unit) (n9 cells slots : Nat) (hc : cells + 10 * (n9 + 1) ≤ 601024) (hs : slots + 100 * (n9 + 1) ≤ 7293034) (l4 : Int32) (w : xWt) (hF : K_law_13 xs L rec l4 w = some ())
    (ih : ∀ (cells slots : Nat) (l4 : Int32) (w : xWt), cells + 10 * n9 ≤ 601024 → slots + 100 * n9 ≤ 7293034 → rec l4 w = some () → (∀ (cells slots : Nat) (w' : xWt), cells ≤ 601024 → slots ≤ 7293034 → xW p l e room_1 s m args below meth c Q b 9 (CW G b w') cells slots 2171 [(0, .ref sb), (1, .ref b), (2, .ref (mdb b)), (3, .ref (oub G))] []) → xW p l e room_1 s m args below meth c Q b 9 (CW G b w) cells slots 23 [(0, .ref (sb)), (1, .ref (b)), (2, .ref (mdb b)), (3, .ref (oub G)), (4, .int (l4))] [])
    (kx : ∀ (cells slots : Nat) (w' : xWt), cells ≤ 601024 → slots ≤ 7293034 → xW p l e room_1 s m args below meth c Q b 9 (CW G b w') cells slots 2171 [(0, .ref sb), (1, .ref b), (2, .ref (mdb b)), (3, .ref (oub G))] []) : xW p l e room_1 s m args below meth c Q b 9 (CW G b w) cells slots 1020 [(0, .ref (sb)), (1, .ref (b)), (2, .ref (mdb b)), (3, .ref (oub G)), (4, .int (l4))] [] := by
  unfold K_law_13 at hF
  refine x_aload_n (pc := 1020) C 1 dL_law_1020 rfl rfl ?_
  refine x_aload_n (pc := 1021) C 0 dL_law_1021 rfl rfl ?_
  refine x_iload (pc := 1022) C 4 dL_law_1022 rfl ?_
  refine x_iconst (pc := 1024) C 1 dL_law_1024 ki_1 ?_
  refine x_iadd (pc := 1025) C dL_law_1025 ?_
  refine x_sld (pc := 1026) C hS hF dL_law_1026 (fun x246 hF => ?_)
  refine x_aload_n (pc := 1027) C 0 dL_law_1027 rfl rfl ?_
  refine x_iload (pc := 1028) C 4 dL_law_1028 rfl ?_
  refine x_iconst (pc := 1030) C 2 dL_law_1030 ki_2 ?_
  refine x_iadd (pc := 1031) C dL_law_1031 ?_
  refine x_sld (pc := 1032) C hS hF dL_law_1032 (fun x247 hF => ?_)
  refine x_aload_n (pc := 1033) C 3 dL_law_1033 rfl rfl ?_
  refine cL1_4 (pc := 1034) C hX hF (fun _ _ h => c_L_set l G b hl _ _ h) wq746 wq133 wq745 hd_L_set wq744 rfl rfl ⟨Nat.le_of_ble_eq_true rfl, Nat.le_of_ble_eq_true rfl⟩ (Nat.le_of_ble_eq_true rfl) ⟨show cells + 2 ≤ 601024 by omega, show slots + 12 ≤ 7293034 by omega⟩ dL_law_1034 (fun x248 w249 hF => ?_)
  refine x_istore (pc := 1037) C [(5, .int (x248)), (0, .ref (sb)), (1, .ref (b)), (2, .ref (mdb b)), (3, .ref (oub G)), (4, .int (l4))] dL_law_1037 (by decide) rfl ?_
  refine x_aload_n (pc := 1039) C 3 dL_law_1039 rfl rfl ?_
  refine x_aload_n (pc := 1040) C 1 dL_law_1040 rfl rfl ?_
  refine x_iload (pc := 1041) C 5 dL_law_1041 rfl ?_
  refine x_iconst (pc := 1043) C 1 dL_law_1043 ki_1 ?_
  refine x_iadd (pc := 1044) C dL_law_1044 ?_
  refine x_sld (pc := 1045) C hS hF dL_law_1045 (fun x250 hF => ?_)
  refine x_aload_n (pc := 1046) C 1 dL_law_1046 rfl rfl ?_
  refine x_iload (pc := 1047) C 5 dL_law_1047 rfl ?_
  refine x_iconst (pc := 1049) C 2 dL_law_1049 ki_2 ?_
  refine x_iadd (pc := 1050) C dL_law_1050 ?_
  refine x_sld (pc := 1051) C hS hF dL_law_1051 (fun x251 hF => ?_)
  refine cV1_2 (pc := 1052) (val := Value.int) C hF (fun _ _ h => c_X8_set l G b  _ _ h) vm_X8_set wq765 rfl rfl ⟨Nat.le_of_ble_eq_true rfl, Nat.le_of_ble_eq_true rfl⟩ rfl rfl (fun _ h => CW.md h) (Nat.le_of_ble_eq_true rfl) ⟨show cells + 2 ≤ 601024 by omega, show slots + 12 ≤ 7293034 by omega⟩ dL_law_1052 (fun x253 w252 hF => ?_)
  refine x_istore (pc := 1055) C [(6, .int (x253)), (5, .int (x248)), (0, .ref (sb)), (1, .ref (b)), (2, .ref (mdb b)), (3, .ref (oub G)), (4, .int (l4))] dL_law_1055 (by decide) rfl ?_
  refine x_aload_n (pc := 1057) C 4 dL_law_1057 rfl rfl ?_
  refine cV1_0 (pc := 1058) (val := Value.int) C hF (fun _ _ h => c_X8_thrown l G b  h) vm_X8_thrown wq230 rfl rfl ⟨Nat.le_of_ble_eq_true rfl, Nat.le_of_ble_eq_true rfl⟩ rfl rfl (fun _ h => CW.md h) (Nat.le_of_ble_eq_true rfl) ⟨show cells + 2 ≤ 601024 by omega, show slots + 12 ≤ 7293034 by omega⟩ dL_law_1058 (fun x255 w254 hF => ?_)
  refine x_iload (pc := 1061) C 1 dL_law_1061 rfl ?_
  refine x_icmp_eq (pc := 1063) C 1068 dL_law_1063 rfl hF (fun c259 hF => ?_) (fun c259 hF => ?_)
  · refine x_iload (pc := 1068) C 1 dL_law_1068 rfl ?_
    refine x_if_ne (pc := 1070) C 1085 dL_law_1070 rfl hF (fun c258 hF => ?_) (fun c258 hF => ?_)
    · refine x_goto (pc := 1085) C 2165 dL_law_1085 rfl ?_
      refine x_iinc (pc := 2165) C 6 [(4, .int ((l4 + 4))), (6, .int (x253)), (5, .int (x248)), (0, .ref (sb)), (1, .ref (b)), (2, .ref (mdb b)), (3, .ref (oub G))] dL_law_2165 rfl rfl (by decide) rfl ?_
      refine x_goto (pc := 2168) C 23 dL_law_2168 rfl ?_
      exact x_sub [3, 4, 5, 6, 0] rfl (ih _ _ _ _ (by omega) (by omega) hF kx)
    · refine x_aload_n (pc := 1073) C 5 dL_law_1073 rfl rfl ?_
      refine x_iconst (pc := 1074) C 0 dL_law_1074 ki_0 ?_
      refine w_lald (pc := 1075) C hF dL_law_1075 (fun x256 hF => ?_)
      refine x_iload (pc := 1076) C 0 dL_law_1076 rfl ?_
      refine x_i2l (pc := 1078) C dL_law_1078 ?_
      refine x_lcmp (pc := 1079) C dL_law_1079 ?_
      refine x_if_eq (pc := 1080) C 1085 dL_law_1080 rfl hF (fun c257 hF => ?_) (fun c257 hF => ?_)
      · refine x_goto (pc := 1085) C 2165 dL_law_1085 rfl ?_
        refine x_iinc (pc := 2165) C 6 [(4, .int ((l4 + 4))), (6, .int (x253)), (5, .int (x248)), (0, .ref (sb)), (1, .ref (b)), (2, .ref (mdb b)), (3, .ref (oub G))] dL_law_2165 rfl rfl (by decide) rfl ?_
        refine x_goto (pc := 2168) C 23 dL_law_2168 rfl ?_
        exact x_sub [3, 4, 5, 6, 0] rfl (ih _ _ _ _ (by omega) (by omega) hF kx)
      · exact none_ne hF
  · exact none_ne hF
set_option maxRecDepth 4000 in
theorem k_law_12 (C : xC p m c s args meth G b cL_law 9 RL) (hl : l.stackTraces = false) (hX : xF b s) (hS : xS b sb L xs s) (rec : Int32 → xWt → Option Unit) (n9 cells slots : Nat) (hc : cells + 10 * (n9 + 1) ≤ 601024) (hs : slots + 100 * (n9 + 1) ≤ 7293034) (l4 : Int32) (w : xWt) (hF : K_law_12 xs L rec l4 w = some ())
    (ih : ∀ (cells slots : Nat) (l4 : Int32) (w : xWt), cells + 10 * n9 ≤ 601024 → slots + 100 * n9 ≤ 7293034 → rec l4 w = some () → (∀ (cells slots : Nat) (w' : xWt), cells ≤ 601024 → slots ≤ 7293034 → xW p l e room_1 s m args below meth c Q b 9 (CW G b w') cells slots 2171 [(0, .ref sb), (1, .ref b), (2, .ref (mdb b)), (3, .ref (oub G))] []) → xW p l e room_1 s m args below meth c Q b 9 (CW G b w) cells slots 23 [(0, .ref (sb)), (1, .ref (b)), (2, .ref (mdb b)), (3, .ref (oub G)), (4, .int (l4))] [])
    (kx : ∀ (cells slots : Nat) (w' : xWt), cells ≤ 601024 → slots ≤ 7293034 → xW p l e room_1 s m args below meth c Q b 9 (CW G b w') cells slots 2171 [(0, .ref sb), (1, .ref b), (2, .ref (mdb b)), (3, .ref (oub G))] []) : xW p l e room_1 s m args below meth c Q b 9 (CW G b w) cells slots 964 [(0, .ref (sb)), (1, .ref (b)), (2, .ref (mdb b)), (3, .ref (oub G)), (4, .int (l4))] [] := by
  unfold K_law_12 at hF
  refine x_aload_n (pc := 964) C 1 dL_law_964 rfl rfl ?_
  refine x_aload_n (pc := 965) C 0 dL_law_965 rfl rfl ?_
  refine x_iload (pc := 966) C 4 dL_law_966 rfl ?_
  refine x_iconst (pc := 968) C 1 dL_law_968 ki_1 ?_
  refine x_iadd (pc := 969) C dL_law_969 ?_
  refine x_sld (pc := 970) C hS hF dL_law_970 (fun x260 hF => ?_)
  refine x_aload_n (pc := 971) C 3 dL_law_971 rfl rfl ?_
  refine cL1_3 (pc := 972) C hX hF (fun _ _ h => c_L_rake l G b hl _ h) wq726 wq133 wq725 hd_L_rake wq724 rfl rfl ⟨Nat.le_of_ble_eq_true rfl, Nat.le_of_ble_eq_true rfl⟩ (Nat.le_of_ble_eq_true rfl) ⟨show cells + 2 ≤ 601024 by omega, show slots + 12 ≤ 7293034 by omega⟩ dL_law_972 (fun x261 w262 hF => ?_)
  refine x_istore (pc := 975) C [(5, .int (x261)), (0, .ref (sb)), (1, .ref (b)), (2, .ref (mdb b)), (3, .ref (oub G)), (4, .int (l4))] dL_law_975 (by decide) rfl ?_
  refine x_aload_n (pc := 977) C 3 dL_law_977 rfl rfl ?_
  refine x_aload_n (pc := 978) C 1 dL_law_978 rfl rfl ?_
  refine x_iload (pc := 979) C 5 dL_law_979 rfl ?_
  refine x_iconst (pc := 981) C 1 dL_law_981 ki_1 ?_
  refine x_iadd (pc := 982) C dL_law_982 ?_
  refine x_sld (pc := 983) C hS hF dL_law_983 (fun x263 hF => ?_)
  refine cV1_1 (pc := 984) (val := Value.int) C hF (fun _ _ h => c_X8_rake l G b  _ h) vm_X8_rake wq736 rfl rfl ⟨Nat.le_of_ble_eq_true rfl, Nat.le_of_ble_eq_true rfl⟩ rfl rfl (fun _ h => CW.md h) (Nat.le_of_ble_eq_true rfl) ⟨show cells + 2 ≤ 601024 by omega, show slots + 12 ≤ 7293034 by omega⟩ dL_law_984 (fun x265 w264 hF => ?_)
  refine x_istore (pc := 987) C [(6, .int (x265)), (5, .int (x261)), (0, .ref (sb)), (1, .ref (b)), (2, .ref (mdb b)), (3, .ref (oub G)), (4, .int (l4))] dL_law_987 (by decide) rfl ?_
  refine x_aload_n (pc := 989) C 4 dL_law_989 rfl rfl ?_
  refine cV1_0 (pc := 990) (val := Value.int) C hF (fun _ _ h => c_X8_thrown l G b  h) vm_X8_thrown wq230 rfl rfl ⟨Nat.le_of_ble_eq_true rfl, Nat.le_of_ble_eq_true rfl⟩ rfl rfl (fun _ h => CW.md h) (Nat.le_of_ble_eq_true rfl) ⟨show cells + 2 ≤ 601024 by omega, show slots + 12 ≤ 7293034 by omega⟩ dL_law_990 (fun x267 w266 hF => ?_)
  refine x_iload (pc := 993) C 1 dL_law_993 rfl ?_
  refine x_icmp_eq (pc := 995) C 1000 dL_law_995 rfl hF (fun c271 hF => ?_) (fun c271 hF => ?_)
  · refine x_iload (pc := 1000) C 1 dL_law_1000 rfl ?_
    refine x_if_ne (pc := 1002) C 1017 dL_law_1002 rfl hF (fun c270 hF => ?_) (fun c270 hF => ?_)
    · refine x_goto (pc := 1017) C 2165 dL_law_1017 rfl ?_
      refine x_iinc (pc := 2165) C 6 [(4, .int ((l4 + 4))), (6, .int (x265)), (5, .int (x261)), (0, .ref (sb)), (1, .ref (b)), (2, .ref (mdb b)), (3, .ref (oub G))] dL_law_2165 rfl rfl (by decide) rfl ?_
      refine x_goto (pc := 2168) C 23 dL_law_2168 rfl ?_
      exact x_sub [3, 4, 5, 6, 0] rfl (ih _ _ _ _ (by omega) (by omega) hF kx)
    · refine x_aload_n (pc := 1005) C 5 dL_law_1005 rfl rfl ?_
      refine x_iconst (pc := 1006) C 0 dL_law_1006 ki_0 ?_
      refine w_lald (pc := 1007) C hF dL_law_1007 (fun x268 hF => ?_)
      refine x_iload (pc := 1008) C 0 dL_law_1008 rfl ?_
      refine x_i2l (pc := 1010) C dL_law_1010 ?_
      refine x_lcmp (pc := 1011) C dL_law_1011 ?_
      refine x_if_eq (pc := 1012) C 1017 dL_law_1012 rfl hF (fun c269 hF => ?_) (fun c269 hF => ?_)
      · refine x_goto (pc := 1017) C 2165 dL_law_1017 rfl ?_
        refine x_iinc (pc := 2165) C 6 [(4, .int ((l4 + 4))), (6, .int (x265)), (5, .int (x261)), (0, .ref (sb)), (1, .ref (b)), (2, .ref (mdb b)), (3, .ref (oub G))] dL_law_2165 rfl rfl (by decide) rfl ?_
        refine x_goto (pc := 2168) C 23 dL_law_2168 rfl ?_
        exact x_sub [3, 4, 5, 6, 0] rfl (ih _ _ _ _ (by omega) (by omega) hF kx)
      · exact none_ne hF
  · exact none_ne hF
set_option maxRecDepth 4000 in
theorem k_law_11 (C : xC p m c s args meth G b cL_law 9 RL) (hl : l.stackTraces = false) (hX : xF b s) (hS : xS b sb L xs s) (rec : Int32 → xWt → Option Unit) (n9 cells slots : Nat) (hc : cells + 10 * (n9 + 1) ≤ 601024) (hs : slots + 100 * (n9 + 1) ≤ 7293034) (l4 : Int32) (w : xWt) (hF : K_law_11 xs L rec l4 w = some ())
    (ih : ∀ (cells slots : Nat) (l4 : Int32) (w : xWt), cells + 10 * n9 ≤ 601024 → slots + 100 * n9 ≤ 7293034 → rec l4 w = some () → (∀ (cells slots : Nat) (w' : xWt), cells ≤ 601024 → slots ≤ 7293034 → xW p l e room_1 s m args below meth c Q b 9 (CW G b w') cells slots 2171 [(0, .ref sb), (1, .ref b), (2, .ref (mdb b)), (3, .ref (oub G))] []) → xW p l e room_1 s m args below meth c Q b 9 (CW G b w) cells slots 23 [(0, .ref (sb)), (1, .ref (b)), (2, .ref (mdb b)), (3, .ref (oub G)), (4, .int (l4))] [])
    (kx : ∀ (cells slots : Nat) (w' : xWt), cells ≤ 601024 → slots ≤ 7293034 → xW p l e room_1 s m args below meth c Q b 9 (CW G b w') cells slots 2171 [(0, .ref sb), (1, .ref b), (2, .ref (mdb b)), (3, .ref (oub G))] []) : xW p l e room_1 s m args below meth c Q b 9 (CW G b w) cells slots 884 [(0, .ref (sb)), (1, .ref (b)), (2, .ref (mdb b)), (3, .ref (oub G)), (4, .int (l4))] [] := by
  unfold K_law_11 at hF
  refine x_aload_n (pc := 884) C 1 dL_law_884 rfl rfl ?_
  refine x_aload_n (pc := 885) C 0 dL_law_885 rfl rfl ?_
  refine x_iload (pc := 886) C 4 dL_law_886 rfl ?_
  refine x_iconst (pc := 888) C 1 dL_law_888 ki_1 ?_
  refine x_iadd (pc := 889) C dL_law_889 ?_
  refine x_sld (pc := 890) C hS hF dL_law_890 (fun x272 hF => ?_)
  refine x_aload_n (pc := 891) C 0 dL_law_891 rfl rfl ?_
  refine x_iload (pc := 892) C 4 dL_law_892 rfl ?_
  refine x_iconst (pc := 894) C 2 dL_law_894 ki_2 ?_
  refine x_iadd (pc := 895) C dL_law_895 ?_
  refine x_sld (pc := 896) C hS hF dL_law_896 (fun x273 hF => ?_)
  refine x_aload_n (pc := 897) C 0 dL_law_897 rfl rfl ?_
  refine x_iload (pc := 898) C 4 dL_law_898 rfl ?_
  refine x_iconst (pc := 900) C 3 dL_law_900 ki_3 ?_
  refine x_iadd (pc := 901) C dL_law_901 ?_
  refine x_sld (pc := 902) C hS hF dL_law_902 (fun x274 hF => ?_)
  refine x_aload_n (pc := 903) C 3 dL_law_903 rfl rfl ?_
  refine cL1_5 (pc := 904) C hX hF (fun _ _ h => c_L_swap l G b hl _ _ _ h) wq696 wq133 wq695 hd_L_swap wq694 rfl rfl ⟨Nat.le_of_ble_eq_true rfl, Nat.le_of_ble_eq_true rfl⟩ (Nat.le_of_ble_eq_true rfl) ⟨show cells + 4 ≤ 601024 by omega, show slots + 24 ≤ 7293034 by omega⟩ dL_law_904 (fun x275 w276 hF => ?_)
  refine x_istore (pc := 907) C [(5, .int (x275)), (0, .ref (sb)), (1, .ref (b)), (2, .ref (mdb b)), (3, .ref (oub G)), (4, .int (l4))] dL_law_907 (by decide) rfl ?_
  refine x_aload_n (pc := 909) C 3 dL_law_909 rfl rfl ?_
  refine x_aload_n (pc := 910) C 1 dL_law_910 rfl rfl ?_
  refine x_iload (pc := 911) C 5 dL_law_911 rfl ?_
  refine x_iconst (pc := 913) C 1 dL_law_913 ki_1 ?_
  refine x_iadd (pc := 914) C dL_law_914 ?_
  refine x_sld (pc := 915) C hS hF dL_law_915 (fun x277 hF => ?_)
  refine x_aload_n (pc := 916) C 1 dL_law_916 rfl rfl ?_
  refine x_iload (pc := 917) C 5 dL_law_917 rfl ?_
  refine x_iconst (pc := 919) C 2 dL_law_919 ki_2 ?_
  refine x_iadd (pc := 920) C dL_law_920 ?_
  refine x_sld (pc := 921) C hS hF dL_law_921 (fun x278 hF => ?_)
  refine x_aload_n (pc := 922) C 1 dL_law_922 rfl rfl ?_
  refine x_iload (pc := 923) C 5 dL_law_923 rfl ?_
  refine x_iconst (pc := 925) C 3 dL_law_925 ki_3 ?_
  refine x_iadd (pc := 926) C dL_law_926 ?_
  refine x_sld (pc := 927) C hS hF dL_law_927 (fun x279 hF => ?_)
  refine cV1_3 (pc := 928) (val := Value.int) C hF (fun _ _ h => c_X8_swap l G b  _ _ _ h) vm_X8_swap wq712 rfl rfl ⟨Nat.le_of_ble_eq_true rfl, Nat.le_of_ble_eq_true rfl⟩ rfl rfl (fun _ h => CW.md h) (Nat.le_of_ble_eq_true rfl) ⟨show cells + 4 ≤ 601024 by omega, show slots + 24 ≤ 7293034 by omega⟩ dL_law_928 (fun x281 w280 hF => ?_)
  refine x_istore (pc := 931) C [(6, .int (x281)), (5, .int (x275)), (0, .ref (sb)), (1, .ref (b)), (2, .ref (mdb b)), (3, .ref (oub G)), (4, .int (l4))] dL_law_931 (by decide) rfl ?_
  refine x_aload_n (pc := 933) C 4 dL_law_933 rfl rfl ?_
  refine cV1_0 (pc := 934) (val := Value.int) C hF (fun _ _ h => c_X8_thrown l G b  h) vm_X8_thrown wq230 rfl rfl ⟨Nat.le_of_ble_eq_true rfl, Nat.le_of_ble_eq_true rfl⟩ rfl rfl (fun _ h => CW.md h) (Nat.le_of_ble_eq_true rfl) ⟨show cells + 4 ≤ 601024 by omega, show slots + 24 ≤ 7293034 by omega⟩ dL_law_934 (fun x283 w282 hF => ?_)
  refine x_iload (pc := 937) C 1 dL_law_937 rfl ?_
  refine x_icmp_eq (pc := 939) C 944 dL_law_939 rfl hF (fun c287 hF => ?_) (fun c287 hF => ?_)
  · refine x_iload (pc := 944) C 1 dL_law_944 rfl ?_
    refine x_if_ne (pc := 946) C 961 dL_law_946 rfl hF (fun c286 hF => ?_) (fun c286 hF => ?_)
    · refine x_goto (pc := 961) C 2165 dL_law_961 rfl ?_
      refine x_iinc (pc := 2165) C 6 [(4, .int ((l4 + 4))), (6, .int (x281)), (5, .int (x275)), (0, .ref (sb)), (1, .ref (b)), (2, .ref (mdb b)), (3, .ref (oub G))] dL_law_2165 rfl rfl (by decide) rfl ?_
      refine x_goto (pc := 2168) C 23 dL_law_2168 rfl ?_
      exact x_sub [3, 4, 5, 6, 0] rfl (ih _ _ _ _ (by omega) (by omega) hF kx)
    · refine x_aload_n (pc := 949) C 5 dL_law_949 rfl rfl ?_
      refine x_iconst (pc := 950) C 0 dL_law_950 ki_0 ?_
      refine w_lald (pc := 951) C hF dL_law_951 (fun x284 hF => ?_)
      refine x_iload (pc := 952) C 0 dL_law_952 rfl ?_
      refine x_i2l (pc := 954) C dL_law_954 ?_
      refine x_lcmp (pc := 955) C dL_law_955 ?_
      refine x_if_eq (pc := 956) C 961 dL_law_956 rfl hF (fun c285 hF => ?_) (fun c285 hF => ?_)
      · refine x_goto (pc := 961) C 2165 dL_law_961 rfl ?_
        refine x_iinc (pc := 2165) C 6 [(4, .int ((l4 + 4))), (6, .int (x281)), (5, .int (x275)), (0, .ref (sb)), (1, .ref (b)), (2, .ref (mdb b)), (3, .ref (oub G))] dL_law_2165 rfl rfl (by decide) rfl ?_
        refine x_goto (pc := 2168) C 23 dL_law_2168 rfl ?_
        exact x_sub [3, 4, 5, 6, 0] rfl (ih _ _ _ _ (by omega) (by omega) hF kx)
      · exact none_ne hF
  · exact none_ne hF
set_option maxRecDepth 4000 in
theorem k_law_10 (C : xC p m c s args meth G b cL_law 9 RL) (hl : l.stackTraces = false) (hX : xF b s) (hS : xS b sb L xs s) (rec : Int32 → xWt → Option Unit) (n9 cells slots : Nat) (hc : cells + 10 * (n9 + 1) ≤ 601024) (hs : slots + 100 * (n9 + 1) ≤ 7293034) (l4 : Int32) (w : xWt) (hF : K_law_10 xs L rec l4 w = some ())
    (ih : ∀ (cells slots : Nat) (l4 : Int32) (w : xWt), cells + 10 * n9 ≤ 601024 → slots + 100 * n9 ≤ 7293034 → rec l4 w = some () → (∀ (cells slots : Nat) (w' : xWt), cells ≤ 601024 → slots ≤ 7293034 → xW p l e room_1 s m args below meth c Q b 9 (CW G b w') cells slots 2171 [(0, .ref sb), (1, .ref b), (2, .ref (mdb b)), (3, .ref (oub G))] []) → xW p l e room_1 s m args below meth c Q b 9 (CW G b w) cells slots 23 [(0, .ref (sb)), (1, .ref (b)), (2, .ref (mdb b)), (3, .ref (oub G)), (4, .int (l4))] [])
    (kx : ∀ (cells slots : Nat) (w' : xWt), cells ≤ 601024 → slots ≤ 7293034 → xW p l e room_1 s m args below meth c Q b 9 (CW G b w') cells slots 2171 [(0, .ref sb), (1, .ref b), (2, .ref (mdb b)), (3, .ref (oub G))] []) : xW p l e room_1 s m args below meth c Q b 9 (CW G b w) cells slots 816 [(0, .ref (sb)), (1, .ref (b)), (2, .ref (mdb b)), (3, .ref (oub G)), (4, .int (l4))] [] := by
  unfold K_law_10 at hF
  refine x_aload_n (pc := 816) C 1 dL_law_816 rfl rfl ?_
  refine x_aload_n (pc := 817) C 0 dL_law_817 rfl rfl ?_
  refine x_iload (pc := 818) C 4 dL_law_818 rfl ?_
  refine x_iconst (pc := 820) C 1 dL_law_820 ki_1 ?_
  refine x_iadd (pc := 821) C dL_law_821 ?_
  refine x_sld (pc := 822) C hS hF dL_law_822 (fun x288 hF => ?_)
  refine x_aload_n (pc := 823) C 0 dL_law_823 rfl rfl ?_
  refine x_iload (pc := 824) C 4 dL_law_824 rfl ?_
  refine x_iconst (pc := 826) C 2 dL_law_826 ki_2 ?_
  refine x_iadd (pc := 827) C dL_law_827 ?_
  refine x_sld (pc := 828) C hS hF dL_law_828 (fun x289 hF => ?_)
  refine x_aload_n (pc := 829) C 3 dL_law_829 rfl rfl ?_
  refine cL1_4 (pc := 830) C hX hF (fun _ _ h => c_L_take l G b hl _ _ h) wq614 wq133 wq613 hd_L_take wq612 rfl rfl ⟨Nat.le_of_ble_eq_true rfl, Nat.le_of_ble_eq_true rfl⟩ (Nat.le_of_ble_eq_true rfl) ⟨show cells + 3 ≤ 601024 by omega, show slots + 18 ≤ 7293034 by omega⟩ dL_law_830 (fun x290 w291 hF => ?_)
  refine x_istore (pc := 833) C [(5, .int (x290)), (0, .ref (sb)), (1, .ref (b)), (2, .ref (mdb b)), (3, .ref (oub G)), (4, .int (l4))] dL_law_833 (by decide) rfl ?_
  refine x_aload_n (pc := 835) C 3 dL_law_835 rfl rfl ?_
  refine x_aload_n (pc := 836) C 1 dL_law_836 rfl rfl ?_
  refine x_iload (pc := 837) C 5 dL_law_837 rfl ?_
  refine x_iconst (pc := 839) C 1 dL_law_839 ki_1 ?_
  refine x_iadd (pc := 840) C dL_law_840 ?_
  refine x_sld (pc := 841) C hS hF dL_law_841 (fun x292 hF => ?_)
  refine x_aload_n (pc := 842) C 1 dL_law_842 rfl rfl ?_
  refine x_iload (pc := 843) C 5 dL_law_843 rfl ?_
  refine x_iconst (pc := 845) C 2 dL_law_845 ki_2 ?_
  refine x_iadd (pc := 846) C dL_law_846 ?_
  refine x_sld (pc := 847) C hS hF dL_law_847 (fun x293 hF => ?_)
  refine cV1_2 (pc := 848) (val := Value.int) C hF (fun _ _ h => c_X8_take l G b  _ _ h) vm_X8_take wq662 rfl rfl ⟨Nat.le_of_ble_eq_true rfl, Nat.le_of_ble_eq_true rfl⟩ rfl rfl (fun _ h => CW.md h) (Nat.le_of_ble_eq_true rfl) ⟨show cells + 3 ≤ 601024 by omega, show slots + 18 ≤ 7293034 by omega⟩ dL_law_848 (fun x295 w294 hF => ?_)
  refine x_istore (pc := 851) C [(6, .int (x295)), (5, .int (x290)), (0, .ref (sb)), (1, .ref (b)), (2, .ref (mdb b)), (3, .ref (oub G)), (4, .int (l4))] dL_law_851 (by decide) rfl ?_
  refine x_aload_n (pc := 853) C 4 dL_law_853 rfl rfl ?_
  refine cV1_0 (pc := 854) (val := Value.int) C hF (fun _ _ h => c_X8_thrown l G b  h) vm_X8_thrown wq230 rfl rfl ⟨Nat.le_of_ble_eq_true rfl, Nat.le_of_ble_eq_true rfl⟩ rfl rfl (fun _ h => CW.md h) (Nat.le_of_ble_eq_true rfl) ⟨show cells + 3 ≤ 601024 by omega, show slots + 18 ≤ 7293034 by omega⟩ dL_law_854 (fun x297 w296 hF => ?_)
  refine x_iload (pc := 857) C 1 dL_law_857 rfl ?_
  refine x_icmp_eq (pc := 859) C 864 dL_law_859 rfl hF (fun c301 hF => ?_) (fun c301 hF => ?_)
  · refine x_iload (pc := 864) C 1 dL_law_864 rfl ?_
    refine x_if_ne (pc := 866) C 881 dL_law_866 rfl hF (fun c300 hF => ?_) (fun c300 hF => ?_)
    · refine x_goto (pc := 881) C 2165 dL_law_881 rfl ?_
      refine x_iinc (pc := 2165) C 6 [(4, .int ((l4 + 4))), (6, .int (x295)), (5, .int (x290)), (0, .ref (sb)), (1, .ref (b)), (2, .ref (mdb b)), (3, .ref (oub G))] dL_law_2165 rfl rfl (by decide) rfl ?_
      refine x_goto (pc := 2168) C 23 dL_law_2168 rfl ?_
      exact x_sub [3, 4, 5, 6, 0] rfl (ih _ _ _ _ (by omega) (by omega) hF kx)
    · refine x_aload_n (pc := 869) C 5 dL_law_869 rfl rfl ?_
      refine x_iconst (pc := 870) C 0 dL_law_870 ki_0 ?_
      refine w_lald (pc := 871) C hF dL_law_871 (fun x298 hF => ?_)
      refine x_iload (pc := 872) C 0 dL_law_872 rfl ?_
      refine x_i2l (pc := 874) C dL_law_874 ?_
      refine x_lcmp (pc := 875) C dL_law_875 ?_
      refine x_if_eq (pc := 876) C 881 dL_law_876 rfl hF (fun c299 hF => ?_) (fun c299 hF => ?_)
      · refine x_goto (pc := 881) C 2165 dL_law_881 rfl ?_
        refine x_iinc (pc := 2165) C 6 [(4, .int ((l4 + 4))), (6, .int (x295)), (5, .int (x290)), (0, .ref (sb)), (1, .ref (b)), (2, .ref (mdb b)), (3, .ref (oub G))] dL_law_2165 rfl rfl (by decide) rfl ?_
        refine x_goto (pc := 2168) C 23 dL_law_2168 rfl ?_
        exact x_sub [3, 4, 5, 6, 0] rfl (ih _ _ _ _ (by omega) (by omega) hF kx)
      · exact none_ne hF
  · exact none_ne hF
set_option maxRecDepth 4000 in
theorem k_law_9 (C : xC p m c s args meth G b cL_law 9 RL) (hl : l.stackTraces = false) (hX : xF b s) (hS : xS b sb L xs s) (rec : Int32 → xWt → Option Unit) (n9 cells slots : Nat) (hc : cells + 10 * (n9 + 1) ≤ 601024) (hs : slots + 100 * (n9 + 1) ≤ 7293034) (l4 : Int32) (w : xWt) (hF : K_law_9 xs L rec l4 w = some ())
    (ih : ∀ (cells slots : Nat) (l4 : Int32) (w : xWt), cells + 10 * n9 ≤ 601024 → slots + 100 * n9 ≤ 7293034 → rec l4 w = some () → (∀ (cells slots : Nat) (w' : xWt), cells ≤ 601024 → slots ≤ 7293034 → xW p l e room_1 s m args below meth c Q b 9 (CW G b w') cells slots 2171 [(0, .ref sb), (1, .ref b), (2, .ref (mdb b)), (3, .ref (oub G))] []) → xW p l e room_1 s m args below meth c Q b 9 (CW G b w) cells slots 23 [(0, .ref (sb)), (1, .ref (b)), (2, .ref (mdb b)), (3, .ref (oub G)), (4, .int (l4))] [])
    (kx : ∀ (cells slots : Nat) (w' : xWt), cells ≤ 601024 → slots ≤ 7293034 → xW p l e room_1 s m args below meth c Q b 9 (CW G b w') cells slots 2171 [(0, .ref sb), (1, .ref b), (2, .ref (mdb b)), (3, .ref (oub G))] []) : xW p l e room_1 s m args below meth c Q b 9 (CW G b w) cells slots 748 [(0, .ref (sb)), (1, .ref (b)), (2, .ref (mdb b)), (3, .ref (oub G)), (4, .int (l4))] [] := by
  unfold K_law_9 at hF
  refine x_aload_n (pc := 748) C 1 dL_law_748 rfl rfl ?_
  refine x_aload_n (pc := 749) C 0 dL_law_749 rfl rfl ?_
  refine x_iload (pc := 750) C 4 dL_law_750 rfl ?_
  refine x_iconst (pc := 752) C 1 dL_law_752 ki_1 ?_
  refine x_iadd (pc := 753) C dL_law_753 ?_
  refine x_sld (pc := 754) C hS hF dL_law_754 (fun x302 hF => ?_)
  refine x_aload_n (pc := 755) C 0 dL_law_755 rfl rfl ?_
  refine x_iload (pc := 756) C 4 dL_law_756 rfl ?_
  refine x_iconst (pc := 758) C 2 dL_law_758 ki_2 ?_
  refine x_iadd (pc := 759) C dL_law_759 ?_
  refine x_sld (pc := 760) C hS hF dL_law_760 (fun x303 hF => ?_)
  refine x_aload_n (pc := 761) C 3 dL_law_761 rfl rfl ?_
  refine cL1_4 (pc := 762) C hX hF (fun _ _ h => c_L_look l G b hl _ _ h) wq597 wq133 wq596 hd_L_look wq595 rfl rfl ⟨Nat.le_of_ble_eq_true rfl, Nat.le_of_ble_eq_true rfl⟩ (Nat.le_of_ble_eq_true rfl) ⟨show cells + 3 ≤ 601024 by omega, show slots + 18 ≤ 7293034 by omega⟩ dL_law_762 (fun x304 w305 hF => ?_)
  refine x_istore (pc := 765) C [(5, .int (x304)), (0, .ref (sb)), (1, .ref (b)), (2, .ref (mdb b)), (3, .ref (oub G)), (4, .int (l4))] dL_law_765 (by decide) rfl ?_
  refine x_aload_n (pc := 767) C 3 dL_law_767 rfl rfl ?_
  refine x_aload_n (pc := 768) C 1 dL_law_768 rfl rfl ?_
  refine x_iload (pc := 769) C 5 dL_law_769 rfl ?_
  refine x_iconst (pc := 771) C 1 dL_law_771 ki_1 ?_
  refine x_iadd (pc := 772) C dL_law_772 ?_
  refine x_sld (pc := 773) C hS hF dL_law_773 (fun x306 hF => ?_)
  refine x_aload_n (pc := 774) C 1 dL_law_774 rfl rfl ?_
  refine x_iload (pc := 775) C 5 dL_law_775 rfl ?_
  refine x_iconst (pc := 777) C 2 dL_law_777 ki_2 ?_
  refine x_iadd (pc := 778) C dL_law_778 ?_
  refine x_sld (pc := 779) C hS hF dL_law_779 (fun x307 hF => ?_)
  refine cV1_2 (pc := 780) (val := Value.int) C hF (fun _ _ h => c_X8_look l G b  _ _ h) vm_X8_look wq608 rfl rfl ⟨Nat.le_of_ble_eq_true rfl, Nat.le_of_ble_eq_true rfl⟩ rfl rfl (fun _ h => CW.md h) (Nat.le_of_ble_eq_true rfl) ⟨show cells + 3 ≤ 601024 by omega, show slots + 18 ≤ 7293034 by omega⟩ dL_law_780 (fun x309 w308 hF => ?_)
  refine x_istore (pc := 783) C [(6, .int (x309)), (5, .int (x304)), (0, .ref (sb)), (1, .ref (b)), (2, .ref (mdb b)), (3, .ref (oub G)), (4, .int (l4))] dL_law_783 (by decide) rfl ?_
  refine x_aload_n (pc := 785) C 4 dL_law_785 rfl rfl ?_
  refine cV1_0 (pc := 786) (val := Value.int) C hF (fun _ _ h => c_X8_thrown l G b  h) vm_X8_thrown wq230 rfl rfl ⟨Nat.le_of_ble_eq_true rfl, Nat.le_of_ble_eq_true rfl⟩ rfl rfl (fun _ h => CW.md h) (Nat.le_of_ble_eq_true rfl) ⟨show cells + 3 ≤ 601024 by omega, show slots + 18 ≤ 7293034 by omega⟩ dL_law_786 (fun x311 w310 hF => ?_)
  refine x_iload (pc := 789) C 1 dL_law_789 rfl ?_
  refine x_icmp_eq (pc := 791) C 796 dL_law_791 rfl hF (fun c315 hF => ?_) (fun c315 hF => ?_)
  · refine x_iload (pc := 796) C 1 dL_law_796 rfl ?_
    refine x_if_ne (pc := 798) C 813 dL_law_798 rfl hF (fun c314 hF => ?_) (fun c314 hF => ?_)
    · refine x_goto (pc := 813) C 2165 dL_law_813 rfl ?_
      refine x_iinc (pc := 2165) C 6 [(4, .int ((l4 + 4))), (6, .int (x309)), (5, .int (x304)), (0, .ref (sb)), (1, .ref (b)), (2, .ref (mdb b)), (3, .ref (oub G))] dL_law_2165 rfl rfl (by decide) rfl ?_
      refine x_goto (pc := 2168) C 23 dL_law_2168 rfl ?_
      exact x_sub [3, 4, 5, 6, 0] rfl (ih _ _ _ _ (by omega) (by omega) hF kx)
    · refine x_aload_n (pc := 801) C 5 dL_law_801 rfl rfl ?_
      refine x_iconst (pc := 802) C 0 dL_law_802 ki_0 ?_
      refine w_lald (pc := 803) C hF dL_law_803 (fun x312 hF => ?_)
      refine x_iload (pc := 804) C 0 dL_law_804 rfl ?_
      refine x_i2l (pc := 806) C dL_law_806 ?_
      refine x_lcmp (pc := 807) C dL_law_807 ?_
      refine x_if_eq (pc := 808) C 813 dL_law_808 rfl hF (fun c313 hF => ?_) (fun c313 hF => ?_)
      · refine x_goto (pc := 813) C 2165 dL_law_813 rfl ?_
        refine x_iinc (pc := 2165) C 6 [(4, .int ((l4 + 4))), (6, .int (x309)), (5, .int (x304)), (0, .ref (sb)), (1, .ref (b)), (2, .ref (mdb b)), (3, .ref (oub G))] dL_law_2165 rfl rfl (by decide) rfl ?_
        refine x_goto (pc := 2168) C 23 dL_law_2168 rfl ?_
        exact x_sub [3, 4, 5, 6, 0] rfl (ih _ _ _ _ (by omega) (by omega) hF kx)
      · exact none_ne hF
  · exact none_ne hF
set_option maxRecDepth 4000 in
theorem k_law_8 (C : xC p m c s args meth G b cL_law 9 RL) (hl : l.stackTraces = false) (hX : xF b s) (hS : xS b sb L xs s) (rec : Int32 → xWt → Option Unit) (n9 cells slots : Nat) (hc : cells + 10 * (n9 + 1) ≤ 601024) (hs : slots + 100 * (n9 + 1) ≤ 7293034) (l4 : Int32) (w : xWt) (hF : K_law_8 xs L rec l4 w = some ())
    (ih : ∀ (cells slots : Nat) (l4 : Int32) (w : xWt), cells + 10 * n9 ≤ 601024 → slots + 100 * n9 ≤ 7293034 → rec l4 w = some () → (∀ (cells slots : Nat) (w' : xWt), cells ≤ 601024 → slots ≤ 7293034 → xW p l e room_1 s m args below meth c Q b 9 (CW G b w') cells slots 2171 [(0, .ref sb), (1, .ref b), (2, .ref (mdb b)), (3, .ref (oub G))] []) → xW p l e room_1 s m args below meth c Q b 9 (CW G b w) cells slots 23 [(0, .ref (sb)), (1, .ref (b)), (2, .ref (mdb b)), (3, .ref (oub G)), (4, .int (l4))] [])
    (kx : ∀ (cells slots : Nat) (w' : xWt), cells ≤ 601024 → slots ≤ 7293034 → xW p l e room_1 s m args below meth c Q b 9 (CW G b w') cells slots 2171 [(0, .ref sb), (1, .ref b), (2, .ref (mdb b)), (3, .ref (oub G))] []) : xW p l e room_1 s m args below meth c Q b 9 (CW G b w) cells slots 680 [(0, .ref (sb)), (1, .ref (b)), (2, .ref (mdb b)), (3, .ref (oub G)), (4, .int (l4))] [] := by
  unfold K_law_8 at hF
  refine x_aload_n (pc := 680) C 1 dL_law_680 rfl rfl ?_
  refine x_aload_n (pc := 681) C 0 dL_law_681 rfl rfl ?_
  refine x_iload (pc := 682) C 4 dL_law_682 rfl ?_
  refine x_iconst (pc := 684) C 1 dL_law_684 ki_1 ?_
  refine x_iadd (pc := 685) C dL_law_685 ?_
  refine x_sld (pc := 686) C hS hF dL_law_686 (fun x316 hF => ?_)
  refine x_aload_n (pc := 687) C 0 dL_law_687 rfl rfl ?_
  refine x_iload (pc := 688) C 4 dL_law_688 rfl ?_
  refine x_iconst (pc := 690) C 2 dL_law_690 ki_2 ?_
  refine x_iadd (pc := 691) C dL_law_691 ?_
  refine x_sld (pc := 692) C hS hF dL_law_692 (fun x317 hF => ?_)
  refine x_aload_n (pc := 693) C 3 dL_law_693 rfl rfl ?_
  refine cL1_4 (pc := 694) C hX hF (fun _ _ h => c_L_loosen l G b hl _ _ h) wq570 wq133 wq569 hd_L_loosen wq568 rfl rfl ⟨Nat.le_of_ble_eq_true rfl, Nat.le_of_ble_eq_true rfl⟩ (Nat.le_of_ble_eq_true rfl) ⟨show cells + 3 ≤ 601024 by omega, show slots + 18 ≤ 7293034 by omega⟩ dL_law_694 (fun x318 w319 hF => ?_)
  refine x_istore (pc := 697) C [(5, .int (x318)), (0, .ref (sb)), (1, .ref (b)), (2, .ref (mdb b)), (3, .ref (oub G)), (4, .int (l4))] dL_law_697 (by decide) rfl ?_
  refine x_aload_n (pc := 699) C 3 dL_law_699 rfl rfl ?_
  refine x_aload_n (pc := 700) C 1 dL_law_700 rfl rfl ?_
  refine x_iload (pc := 701) C 5 dL_law_701 rfl ?_
  refine x_iconst (pc := 703) C 1 dL_law_703 ki_1 ?_
  refine x_iadd (pc := 704) C dL_law_704 ?_
  refine x_sld (pc := 705) C hS hF dL_law_705 (fun x320 hF => ?_)
  refine x_aload_n (pc := 706) C 1 dL_law_706 rfl rfl ?_
  refine x_iload (pc := 707) C 5 dL_law_707 rfl ?_
  refine x_iconst (pc := 709) C 2 dL_law_709 ki_2 ?_
  refine x_iadd (pc := 710) C dL_law_710 ?_
  refine x_sld (pc := 711) C hS hF dL_law_711 (fun x321 hF => ?_)
  refine cV1_2 (pc := 712) (val := Value.int) C hF (fun _ _ h => c_X8_loosen l G b  _ _ h) vm_X8_loosen wq583 rfl rfl ⟨Nat.le_of_ble_eq_true rfl, Nat.le_of_ble_eq_true rfl⟩ rfl rfl (fun _ h => CW.md h) (Nat.le_of_ble_eq_true rfl) ⟨show cells + 3 ≤ 601024 by omega, show slots + 18 ≤ 7293034 by omega⟩ dL_law_712 (fun x323 w322 hF => ?_)
  refine x_istore (pc := 715) C [(6, .int (x323)), (5, .int (x318)), (0, .ref (sb)), (1, .ref (b)), (2, .ref (mdb b)), (3, .ref (oub G)), (4, .int (l4))] dL_law_715 (by decide) rfl ?_
  refine x_aload_n (pc := 717) C 4 dL_law_717 rfl rfl ?_
  refine cV1_0 (pc := 718) (val := Value.int) C hF (fun _ _ h => c_X8_thrown l G b  h) vm_X8_thrown wq230 rfl rfl ⟨Nat.le_of_ble_eq_true rfl, Nat.le_of_ble_eq_true rfl⟩ rfl rfl (fun _ h => CW.md h) (Nat.le_of_ble_eq_true rfl) ⟨show cells + 3 ≤ 601024 by omega, show slots + 18 ≤ 7293034 by omega⟩ dL_law_718 (fun x325 w324 hF => ?_)
  refine x_iload (pc := 721) C 1 dL_law_721 rfl ?_
  refine x_icmp_eq (pc := 723) C 728 dL_law_723 rfl hF (fun c329 hF => ?_) (fun c329 hF => ?_)
  · refine x_iload (pc := 728) C 1 dL_law_728 rfl ?_
    refine x_if_ne (pc := 730) C 745 dL_law_730 rfl hF (fun c328 hF => ?_) (fun c328 hF => ?_)
    · refine x_goto (pc := 745) C 2165 dL_law_745 rfl ?_
      refine x_iinc (pc := 2165) C 6 [(4, .int ((l4 + 4))), (6, .int (x323)), (5, .int (x318)), (0, .ref (sb)), (1, .ref (b)), (2, .ref (mdb b)), (3, .ref (oub G))] dL_law_2165 rfl rfl (by decide) rfl ?_
      refine x_goto (pc := 2168) C 23 dL_law_2168 rfl ?_
      exact x_sub [3, 4, 5, 6, 0] rfl (ih _ _ _ _ (by omega) (by omega) hF kx)
    · refine x_aload_n (pc := 733) C 5 dL_law_733 rfl rfl ?_
      refine x_iconst (pc := 734) C 0 dL_law_734 ki_0 ?_
      refine w_lald (pc := 735) C hF dL_law_735 (fun x326 hF => ?_)
      refine x_iload (pc := 736) C 0 dL_law_736 rfl ?_
      refine x_i2l (pc := 738) C dL_law_738 ?_
      refine x_lcmp (pc := 739) C dL_law_739 ?_
      refine x_if_eq (pc := 740) C 745 dL_law_740 rfl hF (fun c327 hF => ?_) (fun c327 hF => ?_)
      · refine x_goto (pc := 745) C 2165 dL_law_745 rfl ?_
        refine x_iinc (pc := 2165) C 6 [(4, .int ((l4 + 4))), (6, .int (x323)), (5, .int (x318)), (0, .ref (sb)), (1, .ref (b)), (2, .ref (mdb b)), (3, .ref (oub G))] dL_law_2165 rfl rfl (by decide) rfl ?_
        refine x_goto (pc := 2168) C 23 dL_law_2168 rfl ?_
        exact x_sub [3, 4, 5, 6, 0] rfl (ih _ _ _ _ (by omega) (by omega) hF kx)
      · exact none_ne hF
  · exact none_ne hF
set_option maxRecDepth 4000 in
theorem k_law_7 (C : xC p m c s args meth G b cL_law 9 RL) (hl : l.stackTraces = false) (hX : xF b s) (hS : xS b sb L xs s) (rec : Int32 → xWt → Option Unit) (n9 cells slots : Nat) (hc : cells + 10 * (n9 + 1) ≤ 601024) (hs : slots + 100 * (n9 + 1) ≤ 7293034) (l4 : Int32) (w : xWt) (hF : K_law_7 xs L rec l4 w = some ())
    (ih : ∀ (cells slots : Nat) (l4 : Int32) (w : xWt), cells + 10 * n9 ≤ 601024 → slots + 100 * n9 ≤ 7293034 → rec l4 w = some () → (∀ (cells slots : Nat) (w' : xWt), cells ≤ 601024 → slots ≤ 7293034 → xW p l e room_1 s m args below meth c Q b 9 (CW G b w') cells slots 2171 [(0, .ref sb), (1, .ref b), (2, .ref (mdb b)), (3, .ref (oub G))] []) → xW p l e room_1 s m args below meth c Q b 9 (CW G b w) cells slots 23 [(0, .ref (sb)), (1, .ref (b)), (2, .ref (mdb b)), (3, .ref (oub G)), (4, .int (l4))] [])
    (kx : ∀ (cells slots : Nat) (w' : xWt), cells ≤ 601024 → slots ≤ 7293034 → xW p l e room_1 s m args below meth c Q b 9 (CW G b w') cells slots 2171 [(0, .ref sb), (1, .ref b), (2, .ref (mdb b)), (3, .ref (oub G))] []) : xW p l e room_1 s m args below meth c Q b 9 (CW G b w) cells slots 612 [(0, .ref (sb)), (1, .ref (b)), (2, .ref (mdb b)), (3, .ref (oub G)), (4, .int (l4))] [] := by
  unfold K_law_7 at hF
  refine x_aload_n (pc := 612) C 1 dL_law_612 rfl rfl ?_
  refine x_aload_n (pc := 613) C 0 dL_law_613 rfl rfl ?_
  refine x_iload (pc := 614) C 4 dL_law_614 rfl ?_
  refine x_iconst (pc := 616) C 1 dL_law_616 ki_1 ?_
  refine x_iadd (pc := 617) C dL_law_617 ?_
  refine x_sld (pc := 618) C hS hF dL_law_618 (fun x330 hF => ?_)
  refine x_aload_n (pc := 619) C 0 dL_law_619 rfl rfl ?_
  refine x_iload (pc := 620) C 4 dL_law_620 rfl ?_
  refine x_iconst (pc := 622) C 2 dL_law_622 ki_2 ?_
  refine x_iadd (pc := 623) C dL_law_623 ?_
  refine x_sld (pc := 624) C hS hF dL_law_624 (fun x331 hF => ?_)
  refine x_aload_n (pc := 625) C 3 dL_law_625 rfl rfl ?_
  refine cL1_4 (pc := 626) C hX hF (fun _ _ h => c_L_pin l G b hl _ _ h) wq530 wq133 wq529 hd_L_pin wq528 rfl rfl ⟨Nat.le_of_ble_eq_true rfl, Nat.le_of_ble_eq_true rfl⟩ (Nat.le_of_ble_eq_true rfl) ⟨show cells + 3 ≤ 601024 by omega, show slots + 18 ≤ 7293034 by omega⟩ dL_law_626 (fun x332 w333 hF => ?_)
  refine x_istore (pc := 629) C [(5, .int (x332)), (0, .ref (sb)), (1, .ref (b)), (2, .ref (mdb b)), (3, .ref (oub G)), (4, .int (l4))] dL_law_629 (by decide) rfl ?_
  refine x_aload_n (pc := 631) C 3 dL_law_631 rfl rfl ?_
  refine x_aload_n (pc := 632) C 1 dL_law_632 rfl rfl ?_
  refine x_iload (pc := 633) C 5 dL_law_633 rfl ?_
  refine x_iconst (pc := 635) C 1 dL_law_635 ki_1 ?_
  refine x_iadd (pc := 636) C dL_law_636 ?_
  refine x_sld (pc := 637) C hS hF dL_law_637 (fun x334 hF => ?_)
  refine x_aload_n (pc := 638) C 1 dL_law_638 rfl rfl ?_
  refine x_iload (pc := 639) C 5 dL_law_639 rfl ?_
  refine x_iconst (pc := 641) C 2 dL_law_641 ki_2 ?_
  refine x_iadd (pc := 642) C dL_law_642 ?_
  refine x_sld (pc := 643) C hS hF dL_law_643 (fun x335 hF => ?_)
  refine cV1_2 (pc := 644) (val := Value.int) C hF (fun _ _ h => c_X8_pin l G b  _ _ h) vm_X8_pin wq556 rfl rfl ⟨Nat.le_of_ble_eq_true rfl, Nat.le_of_ble_eq_true rfl⟩ rfl rfl (fun _ h => CW.md h) (Nat.le_of_ble_eq_true rfl) ⟨show cells + 3 ≤ 601024 by omega, show slots + 18 ≤ 7293034 by omega⟩ dL_law_644 (fun x337 w336 hF => ?_)
  refine x_istore (pc := 647) C [(6, .int (x337)), (5, .int (x332)), (0, .ref (sb)), (1, .ref (b)), (2, .ref (mdb b)), (3, .ref (oub G)), (4, .int (l4))] dL_law_647 (by decide) rfl ?_
  refine x_aload_n (pc := 649) C 4 dL_law_649 rfl rfl ?_
  refine cV1_0 (pc := 650) (val := Value.int) C hF (fun _ _ h => c_X8_thrown l G b  h) vm_X8_thrown wq230 rfl rfl ⟨Nat.le_of_ble_eq_true rfl, Nat.le_of_ble_eq_true rfl⟩ rfl rfl (fun _ h => CW.md h) (Nat.le_of_ble_eq_true rfl) ⟨show cells + 3 ≤ 601024 by omega, show slots + 18 ≤ 7293034 by omega⟩ dL_law_650 (fun x339 w338 hF => ?_)
  refine x_iload (pc := 653) C 1 dL_law_653 rfl ?_
  refine x_icmp_eq (pc := 655) C 660 dL_law_655 rfl hF (fun c343 hF => ?_) (fun c343 hF => ?_)
  · refine x_iload (pc := 660) C 1 dL_law_660 rfl ?_
    refine x_if_ne (pc := 662) C 677 dL_law_662 rfl hF (fun c342 hF => ?_) (fun c342 hF => ?_)
    · refine x_goto (pc := 677) C 2165 dL_law_677 rfl ?_
      refine x_iinc (pc := 2165) C 6 [(4, .int ((l4 + 4))), (6, .int (x337)), (5, .int (x332)), (0, .ref (sb)), (1, .ref (b)), (2, .ref (mdb b)), (3, .ref (oub G))] dL_law_2165 rfl rfl (by decide) rfl ?_
      refine x_goto (pc := 2168) C 23 dL_law_2168 rfl ?_
      exact x_sub [3, 4, 5, 6, 0] rfl (ih _ _ _ _ (by omega) (by omega) hF kx)
    · refine x_aload_n (pc := 665) C 5 dL_law_665 rfl rfl ?_
      refine x_iconst (pc := 666) C 0 dL_law_666 ki_0 ?_
      refine w_lald (pc := 667) C hF dL_law_667 (fun x340 hF => ?_)
      refine x_iload (pc := 668) C 0 dL_law_668 rfl ?_
      refine x_i2l (pc := 670) C dL_law_670 ?_
      refine x_lcmp (pc := 671) C dL_law_671 ?_
      refine x_if_eq (pc := 672) C 677 dL_law_672 rfl hF (fun c341 hF => ?_) (fun c341 hF => ?_)
      · refine x_goto (pc := 677) C 2165 dL_law_677 rfl ?_
        refine x_iinc (pc := 2165) C 6 [(4, .int ((l4 + 4))), (6, .int (x337)), (5, .int (x332)), (0, .ref (sb)), (1, .ref (b)), (2, .ref (mdb b)), (3, .ref (oub G))] dL_law_2165 rfl rfl (by decide) rfl ?_
        refine x_goto (pc := 2168) C 23 dL_law_2168 rfl ?_
        exact x_sub [3, 4, 5, 6, 0] rfl (ih _ _ _ _ (by omega) (by omega) hF kx)
      · exact none_ne hF
  · exact none_ne hF
set_option maxRecDepth 4000 in
theorem k_law_6 (C : xC p m c s args meth G b cL_law 9 RL) (hl : l.stackTraces = false) (hX : xF b s) (hS : xS b sb L xs s) (rec : Int32 → xWt → Option Unit) (n9 cells slots : Nat) (hc : cells + 10 * (n9 + 1) ≤ 601024) (hs : slots + 100 * (n9 + 1) ≤ 7293034) (l4 : Int32) (w : xWt) (hF : K_law_6 xs L rec l4 w = some ())
    (ih : ∀ (cells slots : Nat) (l4 : Int32) (w : xWt), cells + 10 * n9 ≤ 601024 → slots + 100 * n9 ≤ 7293034 → rec l4 w = some () → (∀ (cells slots : Nat) (w' : xWt), cells ≤ 601024 → slots ≤ 7293034 → xW p l e room_1 s m args below meth c Q b 9 (CW G b w') cells slots 2171 [(0, .ref sb), (1, .ref b), (2, .ref (mdb b)), (3, .ref (oub G))] []) → xW p l e room_1 s m args below meth c Q b 9 (CW G b w) cells slots 23 [(0, .ref (sb)), (1, .ref (b)), (2, .ref (mdb b)), (3, .ref (oub G)), (4, .int (l4))] [])
    (kx : ∀ (cells slots : Nat) (w' : xWt), cells ≤ 601024 → slots ≤ 7293034 → xW p l e room_1 s m args below meth c Q b 9 (CW G b w') cells slots 2171 [(0, .ref sb), (1, .ref b), (2, .ref (mdb b)), (3, .ref (oub G))] []) : xW p l e room_1 s m args below meth c Q b 9 (CW G b w) cells slots 532 [(0, .ref (sb)), (1, .ref (b)), (2, .ref (mdb b)), (3, .ref (oub G)), (4, .int (l4))] [] := by
  unfold K_law_6 at hF
  refine x_aload_n (pc := 532) C 1 dL_law_532 rfl rfl ?_
  refine x_aload_n (pc := 533) C 0 dL_law_533 rfl rfl ?_
  refine x_iload (pc := 534) C 4 dL_law_534 rfl ?_
  refine x_iconst (pc := 536) C 1 dL_law_536 ki_1 ?_
  refine x_iadd (pc := 537) C dL_law_537 ?_
  refine x_sld (pc := 538) C hS hF dL_law_538 (fun x344 hF => ?_)
  refine x_aload_n (pc := 539) C 0 dL_law_539 rfl rfl ?_
  refine x_iload (pc := 540) C 4 dL_law_540 rfl ?_
  refine x_iconst (pc := 542) C 2 dL_law_542 ki_2 ?_
  refine x_iadd (pc := 543) C dL_law_543 ?_
  refine x_sld (pc := 544) C hS hF dL_law_544 (fun x345 hF => ?_)
  refine x_aload_n (pc := 545) C 0 dL_law_545 rfl rfl ?_
  refine x_iload (pc := 546) C 4 dL_law_546 rfl ?_
  refine x_iconst (pc := 548) C 3 dL_law_548 ki_3 ?_
  refine x_iadd (pc := 549) C dL_law_549 ?_
  refine x_sld (pc := 550) C hS hF dL_law_550 (fun x346 hF => ?_)
  refine x_aload_n (pc := 551) C 3 dL_law_551 rfl rfl ?_
  refine cL1_5 (pc := 552) C hX hF (fun _ _ h => c_L_note l G b hl _ _ _ h) wq487 wq133 wq486 hd_L_note wq485 rfl rfl ⟨Nat.le_of_ble_eq_true rfl, Nat.le_of_ble_eq_true rfl⟩ (Nat.le_of_ble_eq_true rfl) ⟨show cells + 4 ≤ 601024 by omega, show slots + 24 ≤ 7293034 by omega⟩ dL_law_552 (fun x347 w348 hF => ?_)
  refine x_istore (pc := 555) C [(5, .int (x347)), (0, .ref (sb)), (1, .ref (b)), (2, .ref (mdb b)), (3, .ref (oub G)), (4, .int (l4))] dL_law_555 (by decide) rfl ?_
  refine x_aload_n (pc := 557) C 3 dL_law_557 rfl rfl ?_
  refine x_aload_n (pc := 558) C 1 dL_law_558 rfl rfl ?_
  refine x_iload (pc := 559) C 5 dL_law_559 rfl ?_
  refine x_iconst (pc := 561) C 1 dL_law_561 ki_1 ?_
  refine x_iadd (pc := 562) C dL_law_562 ?_
  refine x_sld (pc := 563) C hS hF dL_law_563 (fun x349 hF => ?_)
  refine x_aload_n (pc := 564) C 1 dL_law_564 rfl rfl ?_
  refine x_iload (pc := 565) C 5 dL_law_565 rfl ?_
  refine x_iconst (pc := 567) C 2 dL_law_567 ki_2 ?_
  refine x_iadd (pc := 568) C dL_law_568 ?_
  refine x_sld (pc := 569) C hS hF dL_law_569 (fun x350 hF => ?_)
  refine x_aload_n (pc := 570) C 1 dL_law_570 rfl rfl ?_
  refine x_iload (pc := 571) C 5 dL_law_571 rfl ?_
  refine x_iconst (pc := 573) C 3 dL_law_573 ki_3 ?_
  refine x_iadd (pc := 574) C dL_law_574 ?_
  refine x_sld (pc := 575) C hS hF dL_law_575 (fun x351 hF => ?_)
  refine cV1_3 (pc := 576) (val := Value.int) C hF (fun _ _ h => c_X8_note l G b  _ _ _ h) vm_X8_note wq513 rfl rfl ⟨Nat.le_of_ble_eq_true rfl, Nat.le_of_ble_eq_true rfl⟩ rfl rfl (fun _ h => CW.md h) (Nat.le_of_ble_eq_true rfl) ⟨show cells + 4 ≤ 601024 by omega, show slots + 24 ≤ 7293034 by omega⟩ dL_law_576 (fun x353 w352 hF => ?_)
  refine x_istore (pc := 579) C [(6, .int (x353)), (5, .int (x347)), (0, .ref (sb)), (1, .ref (b)), (2, .ref (mdb b)), (3, .ref (oub G)), (4, .int (l4))] dL_law_579 (by decide) rfl ?_
  refine x_aload_n (pc := 581) C 4 dL_law_581 rfl rfl ?_
  refine cV1_0 (pc := 582) (val := Value.int) C hF (fun _ _ h => c_X8_thrown l G b  h) vm_X8_thrown wq230 rfl rfl ⟨Nat.le_of_ble_eq_true rfl, Nat.le_of_ble_eq_true rfl⟩ rfl rfl (fun _ h => CW.md h) (Nat.le_of_ble_eq_true rfl) ⟨show cells + 4 ≤ 601024 by omega, show slots + 24 ≤ 7293034 by omega⟩ dL_law_582 (fun x355 w354 hF => ?_)
  refine x_iload (pc := 585) C 1 dL_law_585 rfl ?_
  refine x_icmp_eq (pc := 587) C 592 dL_law_587 rfl hF (fun c359 hF => ?_) (fun c359 hF => ?_)
  · refine x_iload (pc := 592) C 1 dL_law_592 rfl ?_
    refine x_if_ne (pc := 594) C 609 dL_law_594 rfl hF (fun c358 hF => ?_) (fun c358 hF => ?_)
    · refine x_goto (pc := 609) C 2165 dL_law_609 rfl ?_
      refine x_iinc (pc := 2165) C 6 [(4, .int ((l4 + 4))), (6, .int (x353)), (5, .int (x347)), (0, .ref (sb)), (1, .ref (b)), (2, .ref (mdb b)), (3, .ref (oub G))] dL_law_2165 rfl rfl (by decide) rfl ?_
      refine x_goto (pc := 2168) C 23 dL_law_2168 rfl ?_
      exact x_sub [3, 4, 5, 6, 0] rfl (ih _ _ _ _ (by omega) (by omega) hF kx)
    · refine x_aload_n (pc := 597) C 5 dL_law_597 rfl rfl ?_
      refine x_iconst (pc := 598) C 0 dL_law_598 ki_0 ?_
      refine w_lald (pc := 599) C hF dL_law_599 (fun x356 hF => ?_)
      refine x_iload (pc := 600) C 0 dL_law_600 rfl ?_
      refine x_i2l (pc := 602) C dL_law_602 ?_
      refine x_lcmp (pc := 603) C dL_law_603 ?_
      refine x_if_eq (pc := 604) C 609 dL_law_604 rfl hF (fun c357 hF => ?_) (fun c357 hF => ?_)
      · refine x_goto (pc := 609) C 2165 dL_law_609 rfl ?_
        refine x_iinc (pc := 2165) C 6 [(4, .int ((l4 + 4))), (6, .int (x353)), (5, .int (x347)), (0, .ref (sb)), (1, .ref (b)), (2, .ref (mdb b)), (3, .ref (oub G))] dL_law_2165 rfl rfl (by decide) rfl ?_
        refine x_goto (pc := 2168) C 23 dL_law_2168 rfl ?_
        exact x_sub [3, 4, 5, 6, 0] rfl (ih _ _ _ _ (by omega) (by omega) hF kx)
      · exact none_ne hF
  · exact none_ne hF
set_option maxRecDepth 4000 in
theorem k_law_5 (C : xC p m c s args meth G b cL_law 9 RL) (hl : l.stackTraces = false) (hX : xF b s) (hS : xS b sb L xs s) (rec : Int32 → xWt → Option Unit) (n9 cells slots : Nat) (hc : cells + 10 * (n9 + 1) ≤ 601024) (hs : slots + 100 * (n9 + 1) ≤ 7293034) (l4 : Int32) (w : xWt) (hF : K_law_5 xs L rec l4 w = some ())
    (ih : ∀ (cells slots : Nat) (l4 : Int32) (w : xWt), cells + 10 * n9 ≤ 601024 → slots + 100 * n9 ≤ 7293034 → rec l4 w = some () → (∀ (cells slots : Nat) (w' : xWt), cells ≤ 601024 → slots ≤ 7293034 → xW p l e room_1 s m args below meth c Q b 9 (CW G b w') cells slots 2171 [(0, .ref sb), (1, .ref b), (2, .ref (mdb b)), (3, .ref (oub G))] []) → xW p l e room_1 s m args below meth c Q b 9 (CW G b w) cells slots 23 [(0, .ref (sb)), (1, .ref (b)), (2, .ref (mdb b)), (3, .ref (oub G)), (4, .int (l4))] [])
    (kx : ∀ (cells slots : Nat) (w' : xWt), cells ≤ 601024 → slots ≤ 7293034 → xW p l e room_1 s m args below meth c Q b 9 (CW G b w') cells slots 2171 [(0, .ref sb), (1, .ref b), (2, .ref (mdb b)), (3, .ref (oub G))] []) : xW p l e room_1 s m args below meth c Q b 9 (CW G b w) cells slots 464 [(0, .ref (sb)), (1, .ref (b)), (2, .ref (mdb b)), (3, .ref (oub G)), (4, .int (l4))] [] := by
  unfold K_law_5 at hF
  refine x_aload_n (pc := 464) C 1 dL_law_464 rfl rfl ?_
  refine x_aload_n (pc := 465) C 0 dL_law_465 rfl rfl ?_
  refine x_iload (pc := 466) C 4 dL_law_466 rfl ?_
  refine x_iconst (pc := 468) C 1 dL_law_468 ki_1 ?_
  refine x_iadd (pc := 469) C dL_law_469 ?_
  refine x_sld (pc := 470) C hS hF dL_law_470 (fun x360 hF => ?_)
  refine x_aload_n (pc := 471) C 0 dL_law_471 rfl rfl ?_
  refine x_iload (pc := 472) C 4 dL_law_472 rfl ?_
  refine x_iconst (pc := 474) C 2 dL_law_474 ki_2 ?_
  refine x_iadd (pc := 475) C dL_law_475 ?_
  refine x_sld (pc := 476) C hS hF dL_law_476 (fun x361 hF => ?_)
  refine x_aload_n (pc := 477) C 3 dL_law_477 rfl rfl ?_
  refine cL1_4 (pc := 478) C hX hF (fun _ _ h => c_L_grow l G b hl _ _ h) wq441 wq133 wq440 hd_L_grow wq439 rfl rfl ⟨Nat.le_of_ble_eq_true rfl, Nat.le_of_ble_eq_true rfl⟩ (Nat.le_of_ble_eq_true rfl) ⟨show cells + 3 ≤ 601024 by omega, show slots + 18 ≤ 7293034 by omega⟩ dL_law_478 (fun x362 w363 hF => ?_)
  refine x_istore (pc := 481) C [(5, .int (x362)), (0, .ref (sb)), (1, .ref (b)), (2, .ref (mdb b)), (3, .ref (oub G)), (4, .int (l4))] dL_law_481 (by decide) rfl ?_
  refine x_aload_n (pc := 483) C 3 dL_law_483 rfl rfl ?_
  refine x_aload_n (pc := 484) C 1 dL_law_484 rfl rfl ?_
  refine x_iload (pc := 485) C 5 dL_law_485 rfl ?_
  refine x_iconst (pc := 487) C 1 dL_law_487 ki_1 ?_
  refine x_iadd (pc := 488) C dL_law_488 ?_
  refine x_sld (pc := 489) C hS hF dL_law_489 (fun x364 hF => ?_)
  refine x_aload_n (pc := 490) C 1 dL_law_490 rfl rfl ?_
  refine x_iload (pc := 491) C 5 dL_law_491 rfl ?_
  refine x_iconst (pc := 493) C 2 dL_law_493 ki_2 ?_
  refine x_iadd (pc := 494) C dL_law_494 ?_
  refine x_sld (pc := 495) C hS hF dL_law_495 (fun x365 hF => ?_)
  refine cV1_2 (pc := 496) (val := Value.int) C hF (fun _ _ h => c_X8_grow l G b  _ _ h) vm_X8_grow wq467 rfl rfl ⟨Nat.le_of_ble_eq_true rfl, Nat.le_of_ble_eq_true rfl⟩ rfl rfl (fun _ h => CW.md h) (Nat.le_of_ble_eq_true rfl) ⟨show cells + 3 ≤ 601024 by omega, show slots + 18 ≤ 7293034 by omega⟩ dL_law_496 (fun x367 w366 hF => ?_)
  refine x_istore (pc := 499) C [(6, .int (x367)), (5, .int (x362)), (0, .ref (sb)), (1, .ref (b)), (2, .ref (mdb b)), (3, .ref (oub G)), (4, .int (l4))] dL_law_499 (by decide) rfl ?_
  refine x_aload_n (pc := 501) C 4 dL_law_501 rfl rfl ?_
  refine cV1_0 (pc := 502) (val := Value.int) C hF (fun _ _ h => c_X8_thrown l G b  h) vm_X8_thrown wq230 rfl rfl ⟨Nat.le_of_ble_eq_true rfl, Nat.le_of_ble_eq_true rfl⟩ rfl rfl (fun _ h => CW.md h) (Nat.le_of_ble_eq_true rfl) ⟨show cells + 3 ≤ 601024 by omega, show slots + 18 ≤ 7293034 by omega⟩ dL_law_502 (fun x369 w368 hF => ?_)
  refine x_iload (pc := 505) C 1 dL_law_505 rfl ?_
  refine x_icmp_eq (pc := 507) C 512 dL_law_507 rfl hF (fun c373 hF => ?_) (fun c373 hF => ?_)
  · refine x_iload (pc := 512) C 1 dL_law_512 rfl ?_
    refine x_if_ne (pc := 514) C 529 dL_law_514 rfl hF (fun c372 hF => ?_) (fun c372 hF => ?_)
    · refine x_goto (pc := 529) C 2165 dL_law_529 rfl ?_
      refine x_iinc (pc := 2165) C 6 [(4, .int ((l4 + 4))), (6, .int (x367)), (5, .int (x362)), (0, .ref (sb)), (1, .ref (b)), (2, .ref (mdb b)), (3, .ref (oub G))] dL_law_2165 rfl rfl (by decide) rfl ?_
      refine x_goto (pc := 2168) C 23 dL_law_2168 rfl ?_
      exact x_sub [3, 4, 5, 6, 0] rfl (ih _ _ _ _ (by omega) (by omega) hF kx)
    · refine x_aload_n (pc := 517) C 5 dL_law_517 rfl rfl ?_
      refine x_iconst (pc := 518) C 0 dL_law_518 ki_0 ?_
      refine w_lald (pc := 519) C hF dL_law_519 (fun x370 hF => ?_)
      refine x_iload (pc := 520) C 0 dL_law_520 rfl ?_
      refine x_i2l (pc := 522) C dL_law_522 ?_
      refine x_lcmp (pc := 523) C dL_law_523 ?_
      refine x_if_eq (pc := 524) C 529 dL_law_524 rfl hF (fun c371 hF => ?_) (fun c371 hF => ?_)
      · refine x_goto (pc := 529) C 2165 dL_law_529 rfl ?_
        refine x_iinc (pc := 2165) C 6 [(4, .int ((l4 + 4))), (6, .int (x367)), (5, .int (x362)), (0, .ref (sb)), (1, .ref (b)), (2, .ref (mdb b)), (3, .ref (oub G))] dL_law_2165 rfl rfl (by decide) rfl ?_
        refine x_goto (pc := 2168) C 23 dL_law_2168 rfl ?_
        exact x_sub [3, 4, 5, 6, 0] rfl (ih _ _ _ _ (by omega) (by omega) hF kx)
      · exact none_ne hF
  · exact none_ne hF
set_option maxRecDepth 4000 in
theorem k_law_4 (C : xC p m c s args meth G b cL_law 9 RL) (hl : l.stackTraces = false) (hX : xF b s) (hS : xS b sb L xs s) (rec : Int32 → xWt → Option Unit) (n9 cells slots : Nat) (hc : cells + 10 * (n9 + 1) ≤ 601024) (hs : slots + 100 * (n9 + 1) ≤ 7293034) (l4 : Int32) (w : xWt) (hF : K_law_4 xs L rec l4 w = some ())
    (ih : ∀ (cells slots : Nat) (l4 : Int32) (w : xWt), cells + 10 * n9 ≤ 601024 → slots + 100 * n9 ≤ 7293034 → rec l4 w = some () → (∀ (cells slots : Nat) (w' : xWt), cells ≤ 601024 → slots ≤ 7293034 → xW p l e room_1 s m args below meth c Q b 9 (CW G b w') cells slots 2171 [(0, .ref sb), (1, .ref b), (2, .ref (mdb b)), (3, .ref (oub G))] []) → xW p l e room_1 s m args below meth c Q b 9 (CW G b w) cells slots 23 [(0, .ref (sb)), (1, .ref (b)), (2, .ref (mdb b)), (3, .ref (oub G)), (4, .int (l4))] [])
    (kx : ∀ (cells slots : Nat) (w' : xWt), cells ≤ 601024 → slots ≤ 7293034 → xW p l e room_1 s m args below meth c Q b 9 (CW G b w') cells slots 2171 [(0, .ref sb), (1, .ref b), (2, .ref (mdb b)), (3, .ref (oub G))] []) : xW p l e room_1 s m args below meth c Q b 9 (CW G b w) cells slots 420 [(0, .ref (sb)), (1, .ref (b)), (2, .ref (mdb b)), (3, .ref (oub G)), (4, .int (l4))] [] := by
  unfold K_law_4 at hF
  refine x_aload_n (pc := 420) C 1 dL_law_420 rfl rfl ?_
  refine x_aload_n (pc := 421) C 3 dL_law_421 rfl rfl ?_
  refine cL1_2 (pc := 422) C hX hF (fun _ _ h => c_L_ring l G b hl h) wq409 wq133 wq408 hd_L_ring wq407 rfl rfl ⟨Nat.le_of_ble_eq_true rfl, Nat.le_of_ble_eq_true rfl⟩ (Nat.le_of_ble_eq_true rfl) ⟨show cells + 1 ≤ 601024 by omega, show slots + 6 ≤ 7293034 by omega⟩ dL_law_422 (fun x374 w375 hF => ?_)
  refine x_istore (pc := 425) C [(5, .int (x374)), (0, .ref (sb)), (1, .ref (b)), (2, .ref (mdb b)), (3, .ref (oub G)), (4, .int (l4))] dL_law_425 (by decide) rfl ?_
  refine x_aload_n (pc := 427) C 3 dL_law_427 rfl rfl ?_
  refine cV1_0 (pc := 428) (val := Value.int) C hF (fun _ _ h => c_X8_ring l G b  h) vm_X8_ring wq427 rfl rfl ⟨Nat.le_of_ble_eq_true rfl, Nat.le_of_ble_eq_true rfl⟩ rfl rfl (fun _ h => CW.md h) (Nat.le_of_ble_eq_true rfl) ⟨show cells + 1 ≤ 601024 by omega, show slots + 6 ≤ 7293034 by omega⟩ dL_law_428 (fun x377 w376 hF => ?_)
  refine x_istore (pc := 431) C [(6, .int (x377)), (5, .int (x374)), (0, .ref (sb)), (1, .ref (b)), (2, .ref (mdb b)), (3, .ref (oub G)), (4, .int (l4))] dL_law_431 (by decide) rfl ?_
  refine x_aload_n (pc := 433) C 4 dL_law_433 rfl rfl ?_
  refine cV1_0 (pc := 434) (val := Value.int) C hF (fun _ _ h => c_X8_thrown l G b  h) vm_X8_thrown wq230 rfl rfl ⟨Nat.le_of_ble_eq_true rfl, Nat.le_of_ble_eq_true rfl⟩ rfl rfl (fun _ h => CW.md h) (Nat.le_of_ble_eq_true rfl) ⟨show cells + 1 ≤ 601024 by omega, show slots + 6 ≤ 7293034 by omega⟩ dL_law_434 (fun x379 w378 hF => ?_)
  refine x_iload (pc := 437) C 1 dL_law_437 rfl ?_
  refine x_icmp_eq (pc := 439) C 444 dL_law_439 rfl hF (fun c383 hF => ?_) (fun c383 hF => ?_)
  · refine x_iload (pc := 444) C 1 dL_law_444 rfl ?_
    refine x_if_ne (pc := 446) C 461 dL_law_446 rfl hF (fun c382 hF => ?_) (fun c382 hF => ?_)
    · refine x_goto (pc := 461) C 2165 dL_law_461 rfl ?_
      refine x_iinc (pc := 2165) C 6 [(4, .int ((l4 + 4))), (6, .int (x377)), (5, .int (x374)), (0, .ref (sb)), (1, .ref (b)), (2, .ref (mdb b)), (3, .ref (oub G))] dL_law_2165 rfl rfl (by decide) rfl ?_
      refine x_goto (pc := 2168) C 23 dL_law_2168 rfl ?_
      exact x_sub [3, 4, 5, 6, 0] rfl (ih _ _ _ _ (by omega) (by omega) hF kx)
    · refine x_aload_n (pc := 449) C 5 dL_law_449 rfl rfl ?_
      refine x_iconst (pc := 450) C 0 dL_law_450 ki_0 ?_
      refine w_lald (pc := 451) C hF dL_law_451 (fun x380 hF => ?_)
      refine x_iload (pc := 452) C 0 dL_law_452 rfl ?_
      refine x_i2l (pc := 454) C dL_law_454 ?_
      refine x_lcmp (pc := 455) C dL_law_455 ?_
      refine x_if_eq (pc := 456) C 461 dL_law_456 rfl hF (fun c381 hF => ?_) (fun c381 hF => ?_)
      · refine x_goto (pc := 461) C 2165 dL_law_461 rfl ?_
        refine x_iinc (pc := 2165) C 6 [(4, .int ((l4 + 4))), (6, .int (x377)), (5, .int (x374)), (0, .ref (sb)), (1, .ref (b)), (2, .ref (mdb b)), (3, .ref (oub G))] dL_law_2165 rfl rfl (by decide) rfl ?_
        refine x_goto (pc := 2168) C 23 dL_law_2168 rfl ?_
        exact x_sub [3, 4, 5, 6, 0] rfl (ih _ _ _ _ (by omega) (by omega) hF kx)
      · exact none_ne hF
  · exact none_ne hF
set_option maxRecDepth 4000 in
theorem k_law_3 (C : xC p m c s args meth G b cL_law 9 RL) (hl : l.stackTraces = false) (hX : xF b s) (hS : xS b sb L xs s) (rec : Int32 → xWt → Option Unit) (n9 cells slots : Nat) (hc : cells + 10 * (n9 + 1) ≤ 601024) (hs : slots + 100 * (n9 + 1) ≤ 7293034) (l4 : Int32) (w : xWt) (hF : K_law_3 xs L rec l4 w = some ())
    (ih : ∀ (cells slots : Nat) (l4 : Int32) (w : xWt), cells + 10 * n9 ≤ 601024 → slots + 100 * n9 ≤ 7293034 → rec l4 w = some () → (∀ (cells slots : Nat) (w' : xWt), cells ≤ 601024 → slots ≤ 7293034 → xW p l e room_1 s m args below meth c Q b 9 (CW G b w') cells slots 2171 [(0, .ref sb), (1, .ref b), (2, .ref (mdb b)), (3, .ref (oub G))] []) → xW p l e room_1 s m args below meth c Q b 9 (CW G b w) cells slots 23 [(0, .ref (sb)), (1, .ref (b)), (2, .ref (mdb b)), (3, .ref (oub G)), (4, .int (l4))] [])
    (kx : ∀ (cells slots : Nat) (w' : xWt), cells ≤ 601024 → slots ≤ 7293034 → xW p l e room_1 s m args below meth c Q b 9 (CW G b w') cells slots 2171 [(0, .ref sb), (1, .ref b), (2, .ref (mdb b)), (3, .ref (oub G))] []) : xW p l e room_1 s m args below meth c Q b 9 (CW G b w) cells slots 364 [(0, .ref (sb)), (1, .ref (b)), (2, .ref (mdb b)), (3, .ref (oub G)), (4, .int (l4))] [] := by
  unfold K_law_3 at hF
  refine x_aload_n (pc := 364) C 1 dL_law_364 rfl rfl ?_
  refine x_aload_n (pc := 365) C 0 dL_law_365 rfl rfl ?_
  refine x_iload (pc := 366) C 4 dL_law_366 rfl ?_
  refine x_iconst (pc := 368) C 1 dL_law_368 ki_1 ?_
  refine x_iadd (pc := 369) C dL_law_369 ?_
  refine x_sld (pc := 370) C hS hF dL_law_370 (fun x384 hF => ?_)
  refine x_aload_n (pc := 371) C 3 dL_law_371 rfl rfl ?_
  refine cL1_3 (pc := 372) C hX hF (fun _ _ h => c_L_rest l G b hl _ h) wq369 wq133 wq368 hd_L_rest wq367 rfl rfl ⟨Nat.le_of_ble_eq_true rfl, Nat.le_of_ble_eq_true rfl⟩ (Nat.le_of_ble_eq_true rfl) ⟨show cells + 2 ≤ 601024 by omega, show slots + 12 ≤ 7293034 by omega⟩ dL_law_372 (fun x385 w386 hF => ?_)
  refine x_istore (pc := 375) C [(5, .int (x385)), (0, .ref (sb)), (1, .ref (b)), (2, .ref (mdb b)), (3, .ref (oub G)), (4, .int (l4))] dL_law_375 (by decide) rfl ?_
  refine x_aload_n (pc := 377) C 3 dL_law_377 rfl rfl ?_
  refine x_aload_n (pc := 378) C 1 dL_law_378 rfl rfl ?_
  refine x_iload (pc := 379) C 5 dL_law_379 rfl ?_
  refine x_iconst (pc := 381) C 1 dL_law_381 ki_1 ?_
  refine x_iadd (pc := 382) C dL_law_382 ?_
  refine x_sld (pc := 383) C hS hF dL_law_383 (fun x387 hF => ?_)
  refine cV1_1 (pc := 384) (val := Value.int) C hF (fun _ _ h => c_X8_rest l G b  _ h) vm_X8_rest wq387 rfl rfl ⟨Nat.le_of_ble_eq_true rfl, Nat.le_of_ble_eq_true rfl⟩ rfl rfl (fun _ h => CW.md h) (Nat.le_of_ble_eq_true rfl) ⟨show cells + 2 ≤ 601024 by omega, show slots + 12 ≤ 7293034 by omega⟩ dL_law_384 (fun x389 w388 hF => ?_)
  refine x_istore (pc := 387) C [(6, .int (x389)), (5, .int (x385)), (0, .ref (sb)), (1, .ref (b)), (2, .ref (mdb b)), (3, .ref (oub G)), (4, .int (l4))] dL_law_387 (by decide) rfl ?_
  refine x_aload_n (pc := 389) C 4 dL_law_389 rfl rfl ?_
  refine cV1_0 (pc := 390) (val := Value.int) C hF (fun _ _ h => c_X8_thrown l G b  h) vm_X8_thrown wq230 rfl rfl ⟨Nat.le_of_ble_eq_true rfl, Nat.le_of_ble_eq_true rfl⟩ rfl rfl (fun _ h => CW.md h) (Nat.le_of_ble_eq_true rfl) ⟨show cells + 2 ≤ 601024 by omega, show slots + 12 ≤ 7293034 by omega⟩ dL_law_390 (fun x391 w390 hF => ?_)
  refine x_iload (pc := 393) C 1 dL_law_393 rfl ?_
  refine x_icmp_eq (pc := 395) C 400 dL_law_395 rfl hF (fun c395 hF => ?_) (fun c395 hF => ?_)
  · refine x_iload (pc := 400) C 1 dL_law_400 rfl ?_
    refine x_if_ne (pc := 402) C 417 dL_law_402 rfl hF (fun c394 hF => ?_) (fun c394 hF => ?_)
    · refine x_goto (pc := 417) C 2165 dL_law_417 rfl ?_
      refine x_iinc (pc := 2165) C 6 [(4, .int ((l4 + 4))), (6, .int (x389)), (5, .int (x385)), (0, .ref (sb)), (1, .ref (b)), (2, .ref (mdb b)), (3, .ref (oub G))] dL_law_2165 rfl rfl (by decide) rfl ?_
      refine x_goto (pc := 2168) C 23 dL_law_2168 rfl ?_
      exact x_sub [3, 4, 5, 6, 0] rfl (ih _ _ _ _ (by omega) (by omega) hF kx)
    · refine x_aload_n (pc := 405) C 5 dL_law_405 rfl rfl ?_
      refine x_iconst (pc := 406) C 0 dL_law_406 ki_0 ?_
      refine w_lald (pc := 407) C hF dL_law_407 (fun x392 hF => ?_)
      refine x_iload (pc := 408) C 0 dL_law_408 rfl ?_
      refine x_i2l (pc := 410) C dL_law_410 ?_
      refine x_lcmp (pc := 411) C dL_law_411 ?_
      refine x_if_eq (pc := 412) C 417 dL_law_412 rfl hF (fun c393 hF => ?_) (fun c393 hF => ?_)
      · refine x_goto (pc := 417) C 2165 dL_law_417 rfl ?_
        refine x_iinc (pc := 2165) C 6 [(4, .int ((l4 + 4))), (6, .int (x389)), (5, .int (x385)), (0, .ref (sb)), (1, .ref (b)), (2, .ref (mdb b)), (3, .ref (oub G))] dL_law_2165 rfl rfl (by decide) rfl ?_
        refine x_goto (pc := 2168) C 23 dL_law_2168 rfl ?_
        exact x_sub [3, 4, 5, 6, 0] rfl (ih _ _ _ _ (by omega) (by omega) hF kx)
      · exact none_ne hF
  · exact none_ne hF
set_option maxRecDepth 4000 in
theorem k_law_2 (C : xC p m c s args meth G b cL_law 9 RL) (hl : l.stackTraces = false) (hX : xF b s) (hS : xS b sb L xs s) (rec : Int32 → xWt → Option Unit) (n9 cells slots : Nat) (hc : cells + 10 * (n9 + 1) ≤ 601024) (hs : slots + 100 * (n9 + 1) ≤ 7293034) (l4 : Int32) (w : xWt) (hF : K_law_2 xs L rec l4 w = some ())
    (ih : ∀ (cells slots : Nat) (l4 : Int32) (w : xWt), cells + 10 * n9 ≤ 601024 → slots + 100 * n9 ≤ 7293034 → rec l4 w = some () → (∀ (cells slots : Nat) (w' : xWt), cells ≤ 601024 → slots ≤ 7293034 → xW p l e room_1 s m args below meth c Q b 9 (CW G b w') cells slots 2171 [(0, .ref sb), (1, .ref b), (2, .ref (mdb b)), (3, .ref (oub G))] []) → xW p l e room_1 s m args below meth c Q b 9 (CW G b w) cells slots 23 [(0, .ref (sb)), (1, .ref (b)), (2, .ref (mdb b)), (3, .ref (oub G)), (4, .int (l4))] [])
    (kx : ∀ (cells slots : Nat) (w' : xWt), cells ≤ 601024 → slots ≤ 7293034 → xW p l e room_1 s m args below meth c Q b 9 (CW G b w') cells slots 2171 [(0, .ref sb), (1, .ref b), (2, .ref (mdb b)), (3, .ref (oub G))] []) : xW p l e room_1 s m args below meth c Q b 9 (CW G b w) cells slots 308 [(0, .ref (sb)), (1, .ref (b)), (2, .ref (mdb b)), (3, .ref (oub G)), (4, .int (l4))] [] := by
  unfold K_law_2 at hF
  refine x_aload_n (pc := 308) C 1 dL_law_308 rfl rfl ?_
  refine x_aload_n (pc := 309) C 0 dL_law_309 rfl rfl ?_
  refine x_iload (pc := 310) C 4 dL_law_310 rfl ?_
  refine x_iconst (pc := 312) C 1 dL_law_312 ki_1 ?_
  refine x_iadd (pc := 313) C dL_law_313 ?_
  refine x_sld (pc := 314) C hS hF dL_law_314 (fun x396 hF => ?_)
  refine x_aload_n (pc := 315) C 3 dL_law_315 rfl rfl ?_
  refine cL1_3 (pc := 316) C hX hF (fun _ _ h => c_L_enter l G b hl _ h) wq332 wq133 wq331 hd_L_enter wq330 rfl rfl ⟨Nat.le_of_ble_eq_true rfl, Nat.le_of_ble_eq_true rfl⟩ (Nat.le_of_ble_eq_true rfl) ⟨show cells + 2 ≤ 601024 by omega, show slots + 12 ≤ 7293034 by omega⟩ dL_law_316 (fun x397 w398 hF => ?_)
  refine x_istore (pc := 319) C [(5, .int (x397)), (0, .ref (sb)), (1, .ref (b)), (2, .ref (mdb b)), (3, .ref (oub G)), (4, .int (l4))] dL_law_319 (by decide) rfl ?_
  refine x_aload_n (pc := 321) C 3 dL_law_321 rfl rfl ?_
  refine x_aload_n (pc := 322) C 1 dL_law_322 rfl rfl ?_
  refine x_iload (pc := 323) C 5 dL_law_323 rfl ?_
  refine x_iconst (pc := 325) C 1 dL_law_325 ki_1 ?_
  refine x_iadd (pc := 326) C dL_law_326 ?_
  refine x_sld (pc := 327) C hS hF dL_law_327 (fun x399 hF => ?_)
  refine cV1_1 (pc := 328) (val := Value.int) C hF (fun _ _ h => c_X8_enter l G b  _ h) vm_X8_enter wq351 rfl rfl ⟨Nat.le_of_ble_eq_true rfl, Nat.le_of_ble_eq_true rfl⟩ rfl rfl (fun _ h => CW.md h) (Nat.le_of_ble_eq_true rfl) ⟨show cells + 2 ≤ 601024 by omega, show slots + 12 ≤ 7293034 by omega⟩ dL_law_328 (fun x401 w400 hF => ?_)
  refine x_istore (pc := 331) C [(6, .int (x401)), (5, .int (x397)), (0, .ref (sb)), (1, .ref (b)), (2, .ref (mdb b)), (3, .ref (oub G)), (4, .int (l4))] dL_law_331 (by decide) rfl ?_
  refine x_aload_n (pc := 333) C 4 dL_law_333 rfl rfl ?_
  refine cV1_0 (pc := 334) (val := Value.int) C hF (fun _ _ h => c_X8_thrown l G b  h) vm_X8_thrown wq230 rfl rfl ⟨Nat.le_of_ble_eq_true rfl, Nat.le_of_ble_eq_true rfl⟩ rfl rfl (fun _ h => CW.md h) (Nat.le_of_ble_eq_true rfl) ⟨show cells + 2 ≤ 601024 by omega, show slots + 12 ≤ 7293034 by omega⟩ dL_law_334 (fun x403 w402 hF => ?_)
  refine x_iload (pc := 337) C 1 dL_law_337 rfl ?_
  refine x_icmp_eq (pc := 339) C 344 dL_law_339 rfl hF (fun c407 hF => ?_) (fun c407 hF => ?_)
  · refine x_iload (pc := 344) C 1 dL_law_344 rfl ?_
    refine x_if_ne (pc := 346) C 361 dL_law_346 rfl hF (fun c406 hF => ?_) (fun c406 hF => ?_)
    · refine x_goto (pc := 361) C 2165 dL_law_361 rfl ?_
      refine x_iinc (pc := 2165) C 6 [(4, .int ((l4 + 4))), (6, .int (x401)), (5, .int (x397)), (0, .ref (sb)), (1, .ref (b)), (2, .ref (mdb b)), (3, .ref (oub G))] dL_law_2165 rfl rfl (by decide) rfl ?_
      refine x_goto (pc := 2168) C 23 dL_law_2168 rfl ?_
      exact x_sub [3, 4, 5, 6, 0] rfl (ih _ _ _ _ (by omega) (by omega) hF kx)
    · refine x_aload_n (pc := 349) C 5 dL_law_349 rfl rfl ?_
      refine x_iconst (pc := 350) C 0 dL_law_350 ki_0 ?_
      refine w_lald (pc := 351) C hF dL_law_351 (fun x404 hF => ?_)
      refine x_iload (pc := 352) C 0 dL_law_352 rfl ?_
      refine x_i2l (pc := 354) C dL_law_354 ?_
      refine x_lcmp (pc := 355) C dL_law_355 ?_
      refine x_if_eq (pc := 356) C 361 dL_law_356 rfl hF (fun c405 hF => ?_) (fun c405 hF => ?_)
      · refine x_goto (pc := 361) C 2165 dL_law_361 rfl ?_
        refine x_iinc (pc := 2165) C 6 [(4, .int ((l4 + 4))), (6, .int (x401)), (5, .int (x397)), (0, .ref (sb)), (1, .ref (b)), (2, .ref (mdb b)), (3, .ref (oub G))] dL_law_2165 rfl rfl (by decide) rfl ?_
        refine x_goto (pc := 2168) C 23 dL_law_2168 rfl ?_
        exact x_sub [3, 4, 5, 6, 0] rfl (ih _ _ _ _ (by omega) (by omega) hF kx)
      · exact none_ne hF
  · exact none_ne hF
set_option maxRecDepth 4000 in
theorem k_law_1 (C : xC p m c s args meth G b cL_law 9 RL) (hl : l.stackTraces = false) (hX : xF b s) (hS : xS b sb L xs s) (rec : Int32 → xWt → Option Unit) (n9 cells slots : Nat) (hc : cells + 10 * (n9 + 1) ≤ 601024) (hs : slots + 100 * (n9 + 1) ≤ 7293034) (l4 : Int32) (w : xWt) (hF : K_law_1 xs L rec l4 w = some ())
    (ih : ∀ (cells slots : Nat) (l4 : Int32) (w : xWt), cells + 10 * n9 ≤ 601024 → slots + 100 * n9 ≤ 7293034 → rec l4 w = some () → (∀ (cells slots : Nat) (w' : xWt), cells ≤ 601024 → slots ≤ 7293034 → xW p l e room_1 s m args below meth c Q b 9 (CW G b w') cells slots 2171 [(0, .ref sb), (1, .ref b), (2, .ref (mdb b)), (3, .ref (oub G))] []) → xW p l e room_1 s m args below meth c Q b 9 (CW G b w) cells slots 23 [(0, .ref (sb)), (1, .ref (b)), (2, .ref (mdb b)), (3, .ref (oub G)), (4, .int (l4))] [])
    (kx : ∀ (cells slots : Nat) (w' : xWt), cells ≤ 601024 → slots ≤ 7293034 → xW p l e room_1 s m args below meth c Q b 9 (CW G b w') cells slots 2171 [(0, .ref sb), (1, .ref b), (2, .ref (mdb b)), (3, .ref (oub G))] []) : xW p l e room_1 s m args below meth c Q b 9 (CW G b w) cells slots 252 [(0, .ref (sb)), (1, .ref (b)), (2, .ref (mdb b)), (3, .ref (oub G)), (4, .int (l4))] [] := by
  unfold K_law_1 at hF
  refine x_aload_n (pc := 252) C 1 dL_law_252 rfl rfl ?_
  refine x_aload_n (pc := 253) C 0 dL_law_253 rfl rfl ?_
  refine x_iload (pc := 254) C 4 dL_law_254 rfl ?_
  refine x_iconst (pc := 256) C 1 dL_law_256 ki_1 ?_
  refine x_iadd (pc := 257) C dL_law_257 ?_
  refine x_sld (pc := 258) C hS hF dL_law_258 (fun x408 hF => ?_)
  refine x_aload_n (pc := 259) C 3 dL_law_259 rfl rfl ?_
  refine cL1_3 (pc := 260) C hX hF (fun _ _ h => c_L_leave l G b hl _ h) wq236 wq133 wq235 hd_L_leave wq234 rfl rfl ⟨Nat.le_of_ble_eq_true rfl, Nat.le_of_ble_eq_true rfl⟩ (Nat.le_of_ble_eq_true rfl) ⟨show cells + 2 ≤ 601024 by omega, show slots + 12 ≤ 7293034 by omega⟩ dL_law_260 (fun x409 w410 hF => ?_)
  refine x_istore (pc := 263) C [(5, .int (x409)), (0, .ref (sb)), (1, .ref (b)), (2, .ref (mdb b)), (3, .ref (oub G)), (4, .int (l4))] dL_law_263 (by decide) rfl ?_
  refine x_aload_n (pc := 265) C 3 dL_law_265 rfl rfl ?_
  refine x_aload_n (pc := 266) C 1 dL_law_266 rfl rfl ?_
  refine x_iload (pc := 267) C 5 dL_law_267 rfl ?_
  refine x_iconst (pc := 269) C 1 dL_law_269 ki_1 ?_
  refine x_iadd (pc := 270) C dL_law_270 ?_
  refine x_sld (pc := 271) C hS hF dL_law_271 (fun x411 hF => ?_)
  refine cV1_1 (pc := 272) (val := Value.int) C hF (fun _ _ h => c_X8_leave l G b  _ h) vm_X8_leave wq299 rfl rfl ⟨Nat.le_of_ble_eq_true rfl, Nat.le_of_ble_eq_true rfl⟩ rfl rfl (fun _ h => CW.md h) (Nat.le_of_ble_eq_true rfl) ⟨show cells + 2 ≤ 601024 by omega, show slots + 12 ≤ 7293034 by omega⟩ dL_law_272 (fun x413 w412 hF => ?_)
  refine x_istore (pc := 275) C [(6, .int (x413)), (5, .int (x409)), (0, .ref (sb)), (1, .ref (b)), (2, .ref (mdb b)), (3, .ref (oub G)), (4, .int (l4))] dL_law_275 (by decide) rfl ?_
  refine x_aload_n (pc := 277) C 4 dL_law_277 rfl rfl ?_
  refine cV1_0 (pc := 278) (val := Value.int) C hF (fun _ _ h => c_X8_thrown l G b  h) vm_X8_thrown wq230 rfl rfl ⟨Nat.le_of_ble_eq_true rfl, Nat.le_of_ble_eq_true rfl⟩ rfl rfl (fun _ h => CW.md h) (Nat.le_of_ble_eq_true rfl) ⟨show cells + 2 ≤ 601024 by omega, show slots + 12 ≤ 7293034 by omega⟩ dL_law_278 (fun x415 w414 hF => ?_)
  refine x_iload (pc := 281) C 1 dL_law_281 rfl ?_
  refine x_icmp_eq (pc := 283) C 288 dL_law_283 rfl hF (fun c419 hF => ?_) (fun c419 hF => ?_)
  · refine x_iload (pc := 288) C 1 dL_law_288 rfl ?_
    refine x_if_ne (pc := 290) C 305 dL_law_290 rfl hF (fun c418 hF => ?_) (fun c418 hF => ?_)
    · refine x_goto (pc := 305) C 2165 dL_law_305 rfl ?_
      refine x_iinc (pc := 2165) C 6 [(4, .int ((l4 + 4))), (6, .int (x413)), (5, .int (x409)), (0, .ref (sb)), (1, .ref (b)), (2, .ref (mdb b)), (3, .ref (oub G))] dL_law_2165 rfl rfl (by decide) rfl ?_
      refine x_goto (pc := 2168) C 23 dL_law_2168 rfl ?_
      exact x_sub [3, 4, 5, 6, 0] rfl (ih _ _ _ _ (by omega) (by omega) hF kx)
    · refine x_aload_n (pc := 293) C 5 dL_law_293 rfl rfl ?_
      refine x_iconst (pc := 294) C 0 dL_law_294 ki_0 ?_
      refine w_lald (pc := 295) C hF dL_law_295 (fun x416 hF => ?_)
      refine x_iload (pc := 296) C 0 dL_law_296 rfl ?_
      refine x_i2l (pc := 298) C dL_law_298 ?_
      refine x_lcmp (pc := 299) C dL_law_299 ?_
      refine x_if_eq (pc := 300) C 305 dL_law_300 rfl hF (fun c417 hF => ?_) (fun c417 hF => ?_)
      · refine x_goto (pc := 305) C 2165 dL_law_305 rfl ?_
        refine x_iinc (pc := 2165) C 6 [(4, .int ((l4 + 4))), (6, .int (x413)), (5, .int (x409)), (0, .ref (sb)), (1, .ref (b)), (2, .ref (mdb b)), (3, .ref (oub G))] dL_law_2165 rfl rfl (by decide) rfl ?_
        refine x_goto (pc := 2168) C 23 dL_law_2168 rfl ?_
        exact x_sub [3, 4, 5, 6, 0] rfl (ih _ _ _ _ (by omega) (by omega) hF kx)
      · exact none_ne hF
  · exact none_ne hF
set_option maxRecDepth 4000 in
theorem k_law_0 (C : xC p m c s args meth G b cL_law 9 RL) (hl : l.stackTraces = false) (hX : xF b s) (hS : xS b sb L xs s) (rec : Int32 → xWt → Option Unit) (n9 cells slots : Nat) (hc : cells + 10 * (n9 + 1) ≤ 601024) (hs : slots + 100 * (n9 + 1) ≤ 7293034) (l4 : Int32) (w : xWt) (hF : K_law_0 xs L rec l4 w = some ())
    (ih : ∀ (cells slots : Nat) (l4 : Int32) (w : xWt), cells + 10 * n9 ≤ 601024 → slots + 100 * n9 ≤ 7293034 → rec l4 w = some () → (∀ (cells slots : Nat) (w' : xWt), cells ≤ 601024 → slots ≤ 7293034 → xW p l e room_1 s m args below meth c Q b 9 (CW G b w') cells slots 2171 [(0, .ref sb), (1, .ref b), (2, .ref (mdb b)), (3, .ref (oub G))] []) → xW p l e room_1 s m args below meth c Q b 9 (CW G b w) cells slots 23 [(0, .ref (sb)), (1, .ref (b)), (2, .ref (mdb b)), (3, .ref (oub G)), (4, .int (l4))] [])
    (kx : ∀ (cells slots : Nat) (w' : xWt), cells ≤ 601024 → slots ≤ 7293034 → xW p l e room_1 s m args below meth c Q b 9 (CW G b w') cells slots 2171 [(0, .ref sb), (1, .ref b), (2, .ref (mdb b)), (3, .ref (oub G))] []) : xW p l e room_1 s m args below meth c Q b 9 (CW G b w) cells slots 208 [(0, .ref (sb)), (1, .ref (b)), (2, .ref (mdb b)), (3, .ref (oub G)), (4, .int (l4))] [] := by
  unfold K_law_0 at hF
  refine x_aload_n (pc := 208) C 1 dL_law_208 rfl rfl ?_
  refine x_aload_n (pc := 209) C 3 dL_law_209 rfl rfl ?_
  refine cL1_2 (pc := 210) C hX hF (fun _ _ h => c_L_come l G b hl h) wq134 wq133 wq132 hd_L_come wq131 rfl rfl ⟨Nat.le_of_ble_eq_true rfl, Nat.le_of_ble_eq_true rfl⟩ (Nat.le_of_ble_eq_true rfl) ⟨show cells + 1 ≤ 601024 by omega, show slots + 6 ≤ 7293034 by omega⟩ dL_law_210 (fun x420 w421 hF => ?_)
  refine x_istore (pc := 213) C [(5, .int (x420)), (0, .ref (sb)), (1, .ref (b)), (2, .ref (mdb b)), (3, .ref (oub G)), (4, .int (l4))] dL_law_213 (by decide) rfl ?_
  refine x_aload_n (pc := 215) C 3 dL_law_215 rfl rfl ?_
  refine cV1_0 (pc := 216) (val := Value.int) C hF (fun _ _ h => c_X8_come l G b  h) vm_X8_come wq212 rfl rfl ⟨Nat.le_of_ble_eq_true rfl, Nat.le_of_ble_eq_true rfl⟩ rfl rfl (fun _ h => CW.md h) (Nat.le_of_ble_eq_true rfl) ⟨show cells + 1 ≤ 601024 by omega, show slots + 6 ≤ 7293034 by omega⟩ dL_law_216 (fun x423 w422 hF => ?_)
  refine x_istore (pc := 219) C [(6, .int (x423)), (5, .int (x420)), (0, .ref (sb)), (1, .ref (b)), (2, .ref (mdb b)), (3, .ref (oub G)), (4, .int (l4))] dL_law_219 (by decide) rfl ?_
  refine x_aload_n (pc := 221) C 4 dL_law_221 rfl rfl ?_
  refine cV1_0 (pc := 222) (val := Value.int) C hF (fun _ _ h => c_X8_thrown l G b  h) vm_X8_thrown wq230 rfl rfl ⟨Nat.le_of_ble_eq_true rfl, Nat.le_of_ble_eq_true rfl⟩ rfl rfl (fun _ h => CW.md h) (Nat.le_of_ble_eq_true rfl) ⟨show cells + 1 ≤ 601024 by omega, show slots + 6 ≤ 7293034 by omega⟩ dL_law_222 (fun x425 w424 hF => ?_)
  refine x_iload (pc := 225) C 1 dL_law_225 rfl ?_
  refine x_icmp_eq (pc := 227) C 232 dL_law_227 rfl hF (fun c429 hF => ?_) (fun c429 hF => ?_)
  · refine x_iload (pc := 232) C 1 dL_law_232 rfl ?_
    refine x_if_ne (pc := 234) C 249 dL_law_234 rfl hF (fun c428 hF => ?_) (fun c428 hF => ?_)
    · refine x_goto (pc := 249) C 2165 dL_law_249 rfl ?_
      refine x_iinc (pc := 2165) C 6 [(4, .int ((l4 + 4))), (6, .int (x423)), (5, .int (x420)), (0, .ref (sb)), (1, .ref (b)), (2, .ref (mdb b)), (3, .ref (oub G))] dL_law_2165 rfl rfl (by decide) rfl ?_
      refine x_goto (pc := 2168) C 23 dL_law_2168 rfl ?_
      exact x_sub [3, 4, 5, 6, 0] rfl (ih _ _ _ _ (by omega) (by omega) hF kx)
    · refine x_aload_n (pc := 237) C 5 dL_law_237 rfl rfl ?_
      refine x_iconst (pc := 238) C 0 dL_law_238 ki_0 ?_
      refine w_lald (pc := 239) C hF dL_law_239 (fun x426 hF => ?_)
      refine x_iload (pc := 240) C 0 dL_law_240 rfl ?_
      refine x_i2l (pc := 242) C dL_law_242 ?_
      refine x_lcmp (pc := 243) C dL_law_243 ?_
      refine x_if_eq (pc := 244) C 249 dL_law_244 rfl hF (fun c427 hF => ?_) (fun c427 hF => ?_)
      · refine x_goto (pc := 249) C 2165 dL_law_249 rfl ?_
        refine x_iinc (pc := 2165) C 6 [(4, .int ((l4 + 4))), (6, .int (x423)), (5, .int (x420)), (0, .ref (sb)), (1, .ref (b)), (2, .ref (mdb b)), (3, .ref (oub G))] dL_law_2165 rfl rfl (by decide) rfl ?_
        refine x_goto (pc := 2168) C 23 dL_law_2168 rfl ?_
        exact x_sub [3, 4, 5, 6, 0] rfl (ih _ _ _ _ (by omega) (by omega) hF kx)
      · exact none_ne hF
  · exact none_ne hF
set_option maxRecDepth 8000 in
theorem s_law (C : xC p m c s args meth G b cL_law 9 RL) (hl : l.stackTraces = false) (hX : xF b s) (hS : xS b sb L xs s) : ∀ (n9 cells slots : Nat) (l4 : Int32) (w : xWt), cells + 10 * n9 ≤ 601024 → slots + 100 * n9 ≤ 7293034 → L_law xs L n9 l4 w = some () → (∀ (cells slots : Nat) (w' : xWt), cells ≤ 601024 → slots ≤ 7293034 → xW p l e room_1 s m args below meth c Q b 9 (CW G b w') cells slots 2171 [(0, .ref sb), (1, .ref b), (2, .ref (mdb b)), (3, .ref (oub G))] []) → xW p l e room_1 s m args below meth c Q b 9 (CW G b w) cells slots 23 [(0, .ref (sb)), (1, .ref (b)), (2, .ref (mdb b)), (3, .ref (oub G)), (4, .int (l4))] [] := by
  intro n9
  induction n9 with
  | zero => intro cells slots l4 w hc hs hF; exact none_ne (show none = some _ from hF)
  | succ n9 ih =>
    intro cells slots l4 w hc hs hF kx
    replace hF : B_law xs L (L_law xs L n9) l4 w = some () := hF
    unfold B_law at hF
    refine x_iload (pc := 23) C 4 dL_law_23 rfl ?_
    refine x_aload_n (pc := 25) C 0 dL_law_25 rfl rfl ?_
    refine x_slen (pc := 26) C hS dL_law_26 ?_
    refine x_iconst (pc := 27) C 4 dL_law_27 ki_4 ?_
    refine x_isub (pc := 28) C dL_law_28 ?_
    refine x_icmp_gt (pc := 29) C 2171 dL_law_29 rfl hF (fun c430 hF => ?_) (fun c430 hF => ?_)
    · exact x_sub [0, 1, 2, 3] rfl (kx _ _ _ (by omega) (by omega))
    · refine x_aload_n (pc := 32) C 0 dL_law_32 rfl rfl ?_
      refine x_iload (pc := 33) C 4 dL_law_33 rfl ?_
      refine x_sld (pc := 35) C hS hF dL_law_35 (fun x1 hF => ?_)
      refine x_bipush (pc := 36) C 63 dL_law_36 kb_63 ?_
      refine x_iand (pc := 38) C dL_law_38 ?_
      by_cases c0 : ((x1 &&& 63)).toInt = 0
      · rw [if_pos c0] at hF
        refine x_tabIn (pc := 39) C 208 dL_law_39 c0 (by decide) (by decide) rfl rfl ?_
        exact k_law_0 C hl hX hS _ n9 cells slots hc hs l4 w hF ih kx
      · rw [if_neg c0] at hF
        by_cases c1 : ((x1 &&& 63)).toInt = 1
        · rw [if_pos c1] at hF
          refine x_tabIn (pc := 39) C 252 dL_law_39 c1 (by decide) (by decide) rfl rfl ?_
          exact k_law_1 C hl hX hS _ n9 cells slots hc hs l4 w hF ih kx
        · rw [if_neg c1] at hF
          by_cases c2 : ((x1 &&& 63)).toInt = 2
          · rw [if_pos c2] at hF
            refine x_tabIn (pc := 39) C 308 dL_law_39 c2 (by decide) (by decide) rfl rfl ?_
            exact k_law_2 C hl hX hS _ n9 cells slots hc hs l4 w hF ih kx
          · rw [if_neg c2] at hF
            by_cases c3 : ((x1 &&& 63)).toInt = 3
            · rw [if_pos c3] at hF
              refine x_tabIn (pc := 39) C 364 dL_law_39 c3 (by decide) (by decide) rfl rfl ?_
              exact k_law_3 C hl hX hS _ n9 cells slots hc hs l4 w hF ih kx
            · rw [if_neg c3] at hF
              by_cases c4 : ((x1 &&& 63)).toInt = 4
              · rw [if_pos c4] at hF
                refine x_tabIn (pc := 39) C 420 dL_law_39 c4 (by decide) (by decide) rfl rfl ?_
                exact k_law_4 C hl hX hS _ n9 cells slots hc hs l4 w hF ih kx
              · rw [if_neg c4] at hF
                by_cases c5 : ((x1 &&& 63)).toInt = 5
                · rw [if_pos c5] at hF
                  refine x_tabIn (pc := 39) C 464 dL_law_39 c5 (by decide) (by decide) rfl rfl ?_
                  exact k_law_5 C hl hX hS _ n9 cells slots hc hs l4 w hF ih kx
                · rw [if_neg c5] at hF
                  by_cases c6 : ((x1 &&& 63)).toInt = 6
                  · rw [if_pos c6] at hF
                    refine x_tabIn (pc := 39) C 532 dL_law_39 c6 (by decide) (by decide) rfl rfl ?_
                    exact k_law_6 C hl hX hS _ n9 cells slots hc hs l4 w hF ih kx
                  · rw [if_neg c6] at hF
                    by_cases c7 : ((x1 &&& 63)).toInt = 7
                    · rw [if_pos c7] at hF
                      refine x_tabIn (pc := 39) C 612 dL_law_39 c7 (by decide) (by decide) rfl rfl ?_
                      exact k_law_7 C hl hX hS _ n9 cells slots hc hs l4 w hF ih kx
                    · rw [if_neg c7] at hF
                      by_cases c8 : ((x1 &&& 63)).toInt = 8
                      · rw [if_pos c8] at hF
                        refine x_tabIn (pc := 39) C 680 dL_law_39 c8 (by decide) (by decide) rfl rfl ?_
                        exact k_law_8 C hl hX hS _ n9 cells slots hc hs l4 w hF ih kx
                      · rw [if_neg c8] at hF
                        by_cases c9 : ((x1 &&& 63)).toInt = 9
                        · rw [if_pos c9] at hF
                          refine x_tabIn (pc := 39) C 748 dL_law_39 c9 (by decide) (by decide) rfl rfl ?_
                          exact k_law_9 C hl hX hS _ n9 cells slots hc hs l4 w hF ih kx
                        · rw [if_neg c9] at hF
                          by_cases c10 : ((x1 &&& 63)).toInt = 10
                          · rw [if_pos c10] at hF
                            refine x_tabIn (pc := 39) C 816 dL_law_39 c10 (by decide) (by decide) rfl rfl ?_
                            exact k_law_10 C hl hX hS _ n9 cells slots hc hs l4 w hF ih kx
                          · rw [if_neg c10] at hF
                            by_cases c11 : ((x1 &&& 63)).toInt = 11
                            · rw [if_pos c11] at hF
                              refine x_tabIn (pc := 39) C 884 dL_law_39 c11 (by decide) (by decide) rfl rfl ?_
                              exact k_law_11 C hl hX hS _ n9 cells slots hc hs l4 w hF ih kx
                            · rw [if_neg c11] at hF
                              by_cases c12 : ((x1 &&& 63)).toInt = 12
                              · rw [if_pos c12] at hF
                                refine x_tabIn (pc := 39) C 964 dL_law_39 c12 (by decide) (by decide) rfl rfl ?_
                                exact k_law_12 C hl hX hS _ n9 cells slots hc hs l4 w hF ih kx
                              · rw [if_neg c12] at hF
                                by_cases c13 : ((x1 &&& 63)).toInt = 13
                                · rw [if_pos c13] at hF
                                  refine x_tabIn (pc := 39) C 1020 dL_law_39 c13 (by decide) (by decide) rfl rfl ?_
                                  exact k_law_13 C hl hX hS _ n9 cells slots hc hs l4 w hF ih kx
                                · rw [if_neg c13] at hF
                                  by_cases c14 : ((x1 &&& 63)).toInt = 14
                                  · rw [if_pos c14] at hF
                                    refine x_tabIn (pc := 39) C 1088 dL_law_39 c14 (by decide) (by decide) rfl rfl ?_
                                    exact k_law_14 C hl hX hS _ n9 cells slots hc hs l4 w hF ih kx
                                  · rw [if_neg c14] at hF
                                    by_cases c15 : ((x1 &&& 63)).toInt = 15
                                    · rw [if_pos c15] at hF
                                      refine x_tabIn (pc := 39) C 1144 dL_law_39 c15 (by decide) (by decide) rfl rfl ?_
                                      exact k_law_15 C hl hX hS _ n9 cells slots hc hs l4 w hF ih kx
                                    · rw [if_neg c15] at hF
                                      by_cases c16 : ((x1 &&& 63)).toInt = 16
                                      · rw [if_pos c16] at hF
                                        refine x_tabIn (pc := 39) C 1157 dL_law_39 c16 (by decide) (by decide) rfl rfl ?_
                                        exact k_law_16 C hl hX hS _ n9 cells slots hc hs l4 w hF ih kx
                                      · rw [if_neg c16] at hF
                                        by_cases c17 : ((x1 &&& 63)).toInt = 17
                                        · rw [if_pos c17] at hF
                                          refine x_tabIn (pc := 39) C 1170 dL_law_39 c17 (by decide) (by decide) rfl rfl ?_
                                          exact k_law_17 C hl hX hS _ n9 cells slots hc hs l4 w hF ih kx
                                        · rw [if_neg c17] at hF
                                          by_cases c18 : ((x1 &&& 63)).toInt = 18
                                          · rw [if_pos c18] at hF
                                            refine x_tabIn (pc := 39) C 1214 dL_law_39 c18 (by decide) (by decide) rfl rfl ?_
                                            exact k_law_18 C hl hX hS _ n9 cells slots hc hs l4 w hF ih kx
                                          · rw [if_neg c18] at hF
                                            by_cases c19 : ((x1 &&& 63)).toInt = 19
                                            · rw [if_pos c19] at hF
                                              refine x_tabIn (pc := 39) C 1227 dL_law_39 c19 (by decide) (by decide) rfl rfl ?_
                                              exact k_law_19 C hl hX hS _ n9 cells slots hc hs l4 w hF ih kx
                                            · rw [if_neg c19] at hF
                                              by_cases c20 : ((x1 &&& 63)).toInt = 20
                                              · rw [if_pos c20] at hF
                                                refine x_tabIn (pc := 39) C 1271 dL_law_39 c20 (by decide) (by decide) rfl rfl ?_
                                                exact k_law_20 C hl hX hS _ n9 cells slots hc hs l4 w hF ih kx
                                              · rw [if_neg c20] at hF
                                                by_cases c21 : ((x1 &&& 63)).toInt = 21
                                                · rw [if_pos c21] at hF
                                                  refine x_tabIn (pc := 39) C 1315 dL_law_39 c21 (by decide) (by decide) rfl rfl ?_
                                                  exact k_law_21 C hl hX hS _ n9 cells slots hc hs l4 w hF ih kx
                                                · rw [if_neg c21] at hF
                                                  by_cases c22 : ((x1 &&& 63)).toInt = 22
                                                  · rw [if_pos c22] at hF
                                                    refine x_tabIn (pc := 39) C 1371 dL_law_39 c22 (by decide) (by decide) rfl rfl ?_
                                                    exact k_law_22 C hl hX hS _ n9 cells slots hc hs l4 w hF ih kx
                                                  · rw [if_neg c22] at hF
                                                    by_cases c23 : ((x1 &&& 63)).toInt = 23
                                                    · rw [if_pos c23] at hF
                                                      refine x_tabIn (pc := 39) C 1439 dL_law_39 c23 (by decide) (by decide) rfl rfl ?_
                                                      exact k_law_23 C hl hX hS _ n9 cells slots hc hs l4 w hF ih kx
                                                    · rw [if_neg c23] at hF
                                                      by_cases c24 : ((x1 &&& 63)).toInt = 24
                                                      · rw [if_pos c24] at hF
                                                        refine x_tabIn (pc := 39) C 1507 dL_law_39 c24 (by decide) (by decide) rfl rfl ?_
                                                        exact k_law_24 C hl hX hS _ n9 cells slots hc hs l4 w hF ih kx
                                                      · rw [if_neg c24] at hF
                                                        by_cases c25 : ((x1 &&& 63)).toInt = 25
                                                        · rw [if_pos c25] at hF
                                                          refine x_tabIn (pc := 39) C 1587 dL_law_39 c25 (by decide) (by decide) rfl rfl ?_
                                                          exact k_law_25 C hl hX hS _ n9 cells slots hc hs l4 w hF ih kx
                                                        · rw [if_neg c25] at hF
                                                          by_cases c26 : ((x1 &&& 63)).toInt = 26
                                                          · rw [if_pos c26] at hF
                                                            refine x_tabIn (pc := 39) C 1655 dL_law_39 c26 (by decide) (by decide) rfl rfl ?_
                                                            exact k_law_26 C hl hX hS _ n9 cells slots hc hs l4 w hF ih kx
                                                          · rw [if_neg c26] at hF
                                                            by_cases c27 : ((x1 &&& 63)).toInt = 27
                                                            · rw [if_pos c27] at hF
                                                              refine x_tabIn (pc := 39) C 1711 dL_law_39 c27 (by decide) (by decide) rfl rfl ?_
                                                              exact k_law_27 C hl hX hS _ n9 cells slots hc hs l4 w hF ih kx
                                                            · rw [if_neg c27] at hF
                                                              by_cases c28 : ((x1 &&& 63)).toInt = 28
                                                              · rw [if_pos c28] at hF
                                                                refine x_tabIn (pc := 39) C 1767 dL_law_39 c28 (by decide) (by decide) rfl rfl ?_
                                                                exact k_law_28 C hl hX hS _ n9 cells slots hc hs l4 w hF ih kx
                                                              · rw [if_neg c28] at hF
                                                                by_cases c29 : ((x1 &&& 63)).toInt = 29
                                                                · rw [if_pos c29] at hF
                                                                  refine x_tabIn (pc := 39) C 1823 dL_law_39 c29 (by decide) (by decide) rfl rfl ?_
                                                                  exact k_law_29 C hl hX hS _ n9 cells slots hc hs l4 w hF ih kx
                                                                · rw [if_neg c29] at hF
                                                                  by_cases c30 : ((x1 &&& 63)).toInt = 30
                                                                  · rw [if_pos c30] at hF
                                                                    refine x_tabIn (pc := 39) C 1891 dL_law_39 c30 (by decide) (by decide) rfl rfl ?_
                                                                    exact k_law_30 C hl hX hS _ n9 cells slots hc hs l4 w hF ih kx
                                                                  · rw [if_neg c30] at hF
                                                                    by_cases c31 : ((x1 &&& 63)).toInt = 31
                                                                    · rw [if_pos c31] at hF
                                                                      refine x_tabIn (pc := 39) C 1904 dL_law_39 c31 (by decide) (by decide) rfl rfl ?_
                                                                      exact k_law_31 C hl hX hS _ n9 cells slots hc hs l4 w hF ih kx
                                                                    · rw [if_neg c31] at hF
                                                                      by_cases c32 : ((x1 &&& 63)).toInt = 32
                                                                      · rw [if_pos c32] at hF
                                                                        refine x_tabIn (pc := 39) C 1972 dL_law_39 c32 (by decide) (by decide) rfl rfl ?_
                                                                        exact k_law_32 C hl hX hS _ n9 cells slots hc hs l4 w hF ih kx
                                                                      · rw [if_neg c32] at hF
                                                                        by_cases c33 : ((x1 &&& 63)).toInt = 33
                                                                        · rw [if_pos c33] at hF
                                                                          refine x_tabIn (pc := 39) C 1985 dL_law_39 c33 (by decide) (by decide) rfl rfl ?_
                                                                          exact k_law_33 C hl hX hS _ n9 cells slots hc hs l4 w hF ih kx
                                                                        · rw [if_neg c33] at hF
                                                                          by_cases c34 : ((x1 &&& 63)).toInt = 34
                                                                          · rw [if_pos c34] at hF
                                                                            refine x_tabIn (pc := 39) C 2041 dL_law_39 c34 (by decide) (by decide) rfl rfl ?_
                                                                            exact k_law_34 C hl hX hS _ n9 cells slots hc hs l4 w hF ih kx
                                                                          · rw [if_neg c34] at hF
                                                                            by_cases c35 : ((x1 &&& 63)).toInt = 35
                                                                            · rw [if_pos c35] at hF
                                                                              refine x_tabIn (pc := 39) C 2054 dL_law_39 c35 (by decide) (by decide) rfl rfl ?_
                                                                              exact k_law_35 C hl hX hS _ n9 cells slots hc hs l4 w hF ih kx
                                                                            · rw [if_neg c35] at hF
                                                                              by_cases c36 : ((x1 &&& 63)).toInt = 36
                                                                              · rw [if_pos c36] at hF
                                                                                refine x_tabIn (pc := 39) C 2067 dL_law_39 c36 (by decide) (by decide) rfl rfl ?_
                                                                                exact k_law_36 C hl hX hS _ n9 cells slots hc hs l4 w hF ih kx
                                                                              · rw [if_neg c36] at hF
                                                                                by_cases c37 : ((x1 &&& 63)).toInt = 37
                                                                                · rw [if_pos c37] at hF
                                                                                  refine x_tabIn (pc := 39) C 2108 dL_law_39 c37 (by decide) (by decide) rfl rfl ?_
                                                                                  exact k_law_37 C hl hX hS _ n9 cells slots hc hs l4 w hF ih kx
                                                                                · rw [if_neg c37] at hF
                                                                                  by_cases c38 : ((x1 &&& 63)).toInt = 38
                                                                                  · rw [if_pos c38] at hF
                                                                                    refine x_tabIn (pc := 39) C 2151 dL_law_39 c38 (by decide) (by decide) rfl rfl ?_
                                                                                    exact k_law_38 C hl hX hS _ n9 cells slots hc hs l4 w hF ih kx
                                                                                  · rw [if_neg c38] at hF
                                                                                    refine x_tabOut (pc := 39) C 2165 dL_law_39 (by omega) rfl ?_
                                                                                    refine x_iinc (pc := 2165) C 4 [(4, .int ((l4 + 4))), (0, .ref (sb)), (1, .ref (b)), (2, .ref (mdb b)), (3, .ref (oub G))] dL_law_2165 rfl rfl (by decide) rfl ?_
                                                                                    refine x_goto (pc := 2168) C 23 dL_law_2168 rfl ?_
                                                                                    exact x_sub [1, 2, 3, 4, 0] rfl (ih _ _ _ _ (by omega) (by omega) hF kx)
end LawWalk
